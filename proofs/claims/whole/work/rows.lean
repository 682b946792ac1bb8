section
-- ===== PART A: goes FIRST, ahead of the names: the tables' words, and 'selects' of the private methods out of them =====
/-- a private method of a class that the tables say can be made, by its rows of tables_1 -/
def lw_okq (q : MethodName × Nat) : Prop := (q.1.cls ≠ "java/lang/invoke/MethodHandle" ∧ q.1.cls ≠ "java/lang/invoke/VarHandle") ∧ Cond.instantiable q.1.cls q.2 ∈ tables_1 ∧ Cond.privateMethod q.1 ∈ tables_1 ∧ Cond.instanceMethod q.1 ∈ tables_1
theorem lw_p0 : lw_okq (⟨"LoadPress", "note", "(II)I"⟩, 6) := ⟨⟨by decide +kernel, by decide +kernel⟩, List.mem_of_getElem? (i := 12) (by decide +kernel), List.mem_of_getElem? (i := 206) (by decide +kernel), List.mem_of_getElem? (i := 207) (by decide +kernel)⟩
theorem lw_p1 : lw_okq (⟨"LoadPress$Contexts", "gatherFrom", "(LLoadPress$Visits;II)V"⟩, 5) := ⟨⟨by decide +kernel, by decide +kernel⟩, List.mem_of_getElem? (i := 61) (by decide +kernel), List.mem_of_getElem? (i := 295) (by decide +kernel), List.mem_of_getElem? (i := 296) (by decide +kernel)⟩
theorem lw_p2 : lw_okq (⟨"LoadPress$Contexts", "sort", "()V"⟩, 5) := ⟨⟨by decide +kernel, by decide +kernel⟩, List.mem_of_getElem? (i := 61) (by decide +kernel), List.mem_of_getElem? (i := 312) (by decide +kernel), List.mem_of_getElem? (i := 313) (by decide +kernel)⟩
theorem lw_p3 : lw_okq (⟨"LoadPress$Contexts", "isFirstOfContext", "(I)Z"⟩, 5) := ⟨⟨by decide +kernel, by decide +kernel⟩, List.mem_of_getElem? (i := 61) (by decide +kernel), List.mem_of_getElem? (i := 320) (by decide +kernel), List.mem_of_getElem? (i := 321) (by decide +kernel)⟩
theorem lw_p4 : lw_okq (⟨"LoadPress$Contexts", "isAlikeToOneOf", "(II)Z"⟩, 5) := ⟨⟨by decide +kernel, by decide +kernel⟩, List.mem_of_getElem? (i := 61) (by decide +kernel), List.mem_of_getElem? (i := 332) (by decide +kernel), List.mem_of_getElem? (i := 333) (by decide +kernel)⟩
theorem lw_p5 : lw_okq (⟨"LoadPress$Contexts", "countNext", "(I[I)I"⟩, 5) := ⟨⟨by decide +kernel, by decide +kernel⟩, List.mem_of_getElem? (i := 61) (by decide +kernel), List.mem_of_getElem? (i := 336) (by decide +kernel), List.mem_of_getElem? (i := 337) (by decide +kernel)⟩
theorem lw_p6 : lw_okq (⟨"LoadPress$Contexts", "areInProportion", "(II)Z"⟩, 5) := ⟨⟨by decide +kernel, by decide +kernel⟩, List.mem_of_getElem? (i := 61) (by decide +kernel), List.mem_of_getElem? (i := 341) (by decide +kernel), List.mem_of_getElem? (i := 342) (by decide +kernel)⟩
theorem lw_p7 : lw_okq (⟨"LoadPress$Walker", "dealWalk", "(LLoadPress$Machine;LLoadPress$Visits;)V"⟩, 1) := ⟨⟨by decide +kernel, by decide +kernel⟩, List.mem_of_getElem? (i := 86) (by decide +kernel), List.mem_of_getElem? (i := 367) (by decide +kernel), List.mem_of_getElem? (i := 368) (by decide +kernel)⟩
theorem lw_p8 : lw_okq (⟨"LoadPress$Press", "begin", "(II)V"⟩, 13) := ⟨⟨by decide +kernel, by decide +kernel⟩, List.mem_of_getElem? (i := 115) (by decide +kernel), List.mem_of_getElem? (i := 389) (by decide +kernel), List.mem_of_getElem? (i := 390) (by decide +kernel)⟩
theorem lw_p9 : lw_okq (⟨"LoadPress$Press", "visitDueFirst", "()I"⟩, 13) := ⟨⟨by decide +kernel, by decide +kernel⟩, List.mem_of_getElem? (i := 115) (by decide +kernel), List.mem_of_getElem? (i := 403) (by decide +kernel), List.mem_of_getElem? (i := 404) (by decide +kernel)⟩
theorem lw_p10 : lw_okq (⟨"LoadPress$Press", "serve", "(II)V"⟩, 13) := ⟨⟨by decide +kernel, by decide +kernel⟩, List.mem_of_getElem? (i := 115) (by decide +kernel), List.mem_of_getElem? (i := 410) (by decide +kernel), List.mem_of_getElem? (i := 411) (by decide +kernel)⟩
theorem lw_p11 : lw_okq (⟨"LoadPress$Press", "serverFreeFirst", "()I"⟩, 13) := ⟨⟨by decide +kernel, by decide +kernel⟩, List.mem_of_getElem? (i := 115) (by decide +kernel), List.mem_of_getElem? (i := 414) (by decide +kernel), List.mem_of_getElem? (i := 415) (by decide +kernel)⟩
theorem lw_p12 : lw_okq (⟨"LoadPress$Press", "noteBehind", "(II)V"⟩, 13) := ⟨⟨by decide +kernel, by decide +kernel⟩, List.mem_of_getElem? (i := 115) (by decide +kernel), List.mem_of_getElem? (i := 419) (by decide +kernel), List.mem_of_getElem? (i := 420) (by decide +kernel)⟩
theorem lw_p13 : lw_okq (⟨"LoadPress", "noteAsks", "(LLoadPress$Visits;I)V"⟩, 6) := ⟨⟨by decide +kernel, by decide +kernel⟩, List.mem_of_getElem? (i := 12) (by decide +kernel), List.mem_of_getElem? (i := 490) (by decide +kernel), List.mem_of_getElem? (i := 491) (by decide +kernel)⟩
theorem lw_p14 : lw_okq (⟨"LoadPressModel", "countOf", "(II)I"⟩, 26) := ⟨⟨by decide +kernel, by decide +kernel⟩, List.mem_of_getElem? (i := 506) (by decide +kernel), List.mem_of_getElem? (i := 613) (by decide +kernel), List.mem_of_getElem? (i := 614) (by decide +kernel)⟩
theorem lw_p15 : lw_okq (⟨"LoadPressModel", "inLog", "(II)I"⟩, 26) := ⟨⟨by decide +kernel, by decide +kernel⟩, List.mem_of_getElem? (i := 506) (by decide +kernel), List.mem_of_getElem? (i := 617) (by decide +kernel), List.mem_of_getElem? (i := 618) (by decide +kernel)⟩
def lw_privs_1 : List (MethodName × Nat) := [(⟨"LoadPress", "note", "(II)I"⟩, 6), (⟨"LoadPress$Contexts", "gatherFrom", "(LLoadPress$Visits;II)V"⟩, 5), (⟨"LoadPress$Contexts", "sort", "()V"⟩, 5), (⟨"LoadPress$Contexts", "isFirstOfContext", "(I)Z"⟩, 5), (⟨"LoadPress$Contexts", "isAlikeToOneOf", "(II)Z"⟩, 5), (⟨"LoadPress$Contexts", "countNext", "(I[I)I"⟩, 5), (⟨"LoadPress$Contexts", "areInProportion", "(II)Z"⟩, 5), (⟨"LoadPress$Walker", "dealWalk", "(LLoadPress$Machine;LLoadPress$Visits;)V"⟩, 1), (⟨"LoadPress$Press", "begin", "(II)V"⟩, 13), (⟨"LoadPress$Press", "visitDueFirst", "()I"⟩, 13), (⟨"LoadPress$Press", "serve", "(II)V"⟩, 13), (⟨"LoadPress$Press", "serverFreeFirst", "()I"⟩, 13), (⟨"LoadPress$Press", "noteBehind", "(II)V"⟩, 13), (⟨"LoadPress", "noteAsks", "(LLoadPress$Visits;I)V"⟩, 6), (⟨"LoadPressModel", "countOf", "(II)I"⟩, 26), (⟨"LoadPressModel", "inLog", "(II)I"⟩, 26)]
theorem lw_r1 : ∀ q ∈ lw_privs_1, lw_okq q := List.forall_mem_cons.mpr ⟨lw_p0, List.forall_mem_cons.mpr ⟨lw_p1, List.forall_mem_cons.mpr ⟨lw_p2, List.forall_mem_cons.mpr ⟨lw_p3, List.forall_mem_cons.mpr ⟨lw_p4, List.forall_mem_cons.mpr ⟨lw_p5, List.forall_mem_cons.mpr ⟨lw_p6, List.forall_mem_cons.mpr ⟨lw_p7, List.forall_mem_cons.mpr ⟨lw_p8, List.forall_mem_cons.mpr ⟨lw_p9, List.forall_mem_cons.mpr ⟨lw_p10, List.forall_mem_cons.mpr ⟨lw_p11, List.forall_mem_cons.mpr ⟨lw_p12, List.forall_mem_cons.mpr ⟨lw_p13, List.forall_mem_cons.mpr ⟨lw_p14, List.forall_mem_cons.mpr ⟨lw_p15, fun _ h => absurd h List.not_mem_nil⟩⟩⟩⟩⟩⟩⟩⟩⟩⟩⟩⟩⟩⟩⟩⟩
theorem lw_p16 : lw_okq (⟨"LoadPressModel", "next", "(II)I"⟩, 26) := ⟨⟨by decide +kernel, by decide +kernel⟩, List.mem_of_getElem? (i := 506) (by decide +kernel), List.mem_of_getElem? (i := 621) (by decide +kernel), List.mem_of_getElem? (i := 622) (by decide +kernel)⟩
theorem lw_p17 : lw_okq (⟨"LoadPressModel", "waitsOf", "(III)I"⟩, 26) := ⟨⟨by decide +kernel, by decide +kernel⟩, List.mem_of_getElem? (i := 506) (by decide +kernel), List.mem_of_getElem? (i := 630) (by decide +kernel), List.mem_of_getElem? (i := 631) (by decide +kernel)⟩
theorem lw_p18 : lw_okq (⟨"LoadPressModel", "findContexts", "(I)V"⟩, 26) := ⟨⟨by decide +kernel, by decide +kernel⟩, List.mem_of_getElem? (i := 506) (by decide +kernel), List.mem_of_getElem? (i := 646) (by decide +kernel), List.mem_of_getElem? (i := 647) (by decide +kernel)⟩
theorem lw_p19 : lw_okq (⟨"LoadPressModel", "areAlike", "(II)Z"⟩, 26) := ⟨⟨by decide +kernel, by decide +kernel⟩, List.mem_of_getElem? (i := 506) (by decide +kernel), List.mem_of_getElem? (i := 654) (by decide +kernel), List.mem_of_getElem? (i := 655) (by decide +kernel)⟩
theorem lw_p20 : lw_okq (⟨"LoadPressModel", "all", "(I)I"⟩, 26) := ⟨⟨by decide +kernel, by decide +kernel⟩, List.mem_of_getElem? (i := 506) (by decide +kernel), List.mem_of_getElem? (i := 658) (by decide +kernel), List.mem_of_getElem? (i := 659) (by decide +kernel)⟩
theorem lw_p21 : lw_okq (⟨"LoadPressModel", "walk", "(I)V"⟩, 26) := ⟨⟨by decide +kernel, by decide +kernel⟩, List.mem_of_getElem? (i := 506) (by decide +kernel), List.mem_of_getElem? (i := 666) (by decide +kernel), List.mem_of_getElem? (i := 667) (by decide +kernel)⟩
theorem lw_p22 : lw_okq (⟨"LoadPressModel", "serve", "(II)V"⟩, 26) := ⟨⟨by decide +kernel, by decide +kernel⟩, List.mem_of_getElem? (i := 506) (by decide +kernel), List.mem_of_getElem? (i := 673) (by decide +kernel), List.mem_of_getElem? (i := 674) (by decide +kernel)⟩
theorem lw_p23 : lw_okq (⟨"LoadPressModel", "isWalk", "(I)Z"⟩, 26) := ⟨⟨by decide +kernel, by decide +kernel⟩, List.mem_of_getElem? (i := 506) (by decide +kernel), List.mem_of_getElem? (i := 681) (by decide +kernel), List.mem_of_getElem? (i := 682) (by decide +kernel)⟩
theorem lw_p24 : lw_okq (⟨"LoadPressModel", "from", "(I)I"⟩, 26) := ⟨⟨by decide +kernel, by decide +kernel⟩, List.mem_of_getElem? (i := 506) (by decide +kernel), List.mem_of_getElem? (i := 697) (by decide +kernel), List.mem_of_getElem? (i := 698) (by decide +kernel)⟩
theorem lw_p25 : lw_okq (⟨"LoadPressModel", "taking", "(II)I"⟩, 26) := ⟨⟨by decide +kernel, by decide +kernel⟩, List.mem_of_getElem? (i := 506) (by decide +kernel), List.mem_of_getElem? (i := 701) (by decide +kernel), List.mem_of_getElem? (i := 702) (by decide +kernel)⟩
theorem lw_p26 : lw_okq (⟨"LoadPressModel", "waitingAt", "(I)I"⟩, 26) := ⟨⟨by decide +kernel, by decide +kernel⟩, List.mem_of_getElem? (i := 506) (by decide +kernel), List.mem_of_getElem? (i := 718) (by decide +kernel), List.mem_of_getElem? (i := 719) (by decide +kernel)⟩
def lw_privs_2 : List (MethodName × Nat) := [(⟨"LoadPressModel", "next", "(II)I"⟩, 26), (⟨"LoadPressModel", "waitsOf", "(III)I"⟩, 26), (⟨"LoadPressModel", "findContexts", "(I)V"⟩, 26), (⟨"LoadPressModel", "areAlike", "(II)Z"⟩, 26), (⟨"LoadPressModel", "all", "(I)I"⟩, 26), (⟨"LoadPressModel", "walk", "(I)V"⟩, 26), (⟨"LoadPressModel", "serve", "(II)V"⟩, 26), (⟨"LoadPressModel", "isWalk", "(I)Z"⟩, 26), (⟨"LoadPressModel", "from", "(I)I"⟩, 26), (⟨"LoadPressModel", "taking", "(II)I"⟩, 26), (⟨"LoadPressModel", "waitingAt", "(I)I"⟩, 26)]
theorem lw_r2 : ∀ q ∈ lw_privs_2, lw_okq q := List.forall_mem_cons.mpr ⟨lw_p16, List.forall_mem_cons.mpr ⟨lw_p17, List.forall_mem_cons.mpr ⟨lw_p18, List.forall_mem_cons.mpr ⟨lw_p19, List.forall_mem_cons.mpr ⟨lw_p20, List.forall_mem_cons.mpr ⟨lw_p21, List.forall_mem_cons.mpr ⟨lw_p22, List.forall_mem_cons.mpr ⟨lw_p23, List.forall_mem_cons.mpr ⟨lw_p24, List.forall_mem_cons.mpr ⟨lw_p25, List.forall_mem_cons.mpr ⟨lw_p26, fun _ h => absurd h List.not_mem_nil⟩⟩⟩⟩⟩⟩⟩⟩⟩⟩⟩
def lw_privs : List (MethodName × Nat) := lw_privs_1 ++ (lw_privs_2)
def lw_tbl : List Cond := k2_sels lw_privs ++ tables_1
theorem lw_privs_ok : ∀ q ∈ lw_privs, lw_okq q := by
  show ∀ q ∈ lw_privs_1 ++ (lw_privs_2), lw_okq q
  exact List.forall_mem_append.mpr ⟨lw_r1, lw_r2⟩
end
section
def RX0 : String := "LoadPress$Contexts"
def TX0 : u_T := fun k => match k with
  | 0 => ("LoadPress$Contexts", "comings", "[I", true)
  | 1 => ("LoadPress$Contexts", "unlike", "[I", true)
  | 2 => ("LoadPress$Contexts", "nextOfOne", "[I", true)
  | 3 => ("LoadPress$Contexts", "nextOfOther", "[I", true)
  | _ => ("LoadPress$Contexts", "size", "I", false)
def tyX0 : Nat → FieldType := fun k => match k with
  | 0 => .array .int
  | 1 => .array .int
  | 2 => .array .int
  | 3 => .array .int
  | _ => .int
abbrev wsX00 : List Cond := u_ws RX0 TX0 5
theorem nmX0 : ∀ a, a < 5 → ∀ b, b < 5 → a ≠ b → (TX0 a).2.1 ≠ (TX0 b).2.1 := by decide +kernel
theorem tyX0_ok : ∀ k, k < 5 → parseFieldDescriptor (TX0 k).2.2.1 = some (tyX0 k) := by decide +kernel
abbrev cX0_init : ByteArray := prog_2_method_1_code
def yX0_init : MethodName := ⟨RX0, "<init>", "()V"⟩
abbrev cX0_gather : ByteArray := prog_2_method_2_code
def yX0_gather : MethodName := ⟨RX0, "gather", "(LLoadPress$Visits;I)V"⟩
abbrev cX0_gatherFrom : ByteArray := prog_2_method_3_code
def yX0_gatherFrom : MethodName := ⟨RX0, "gatherFrom", "(LLoadPress$Visits;II)V"⟩
abbrev cX0_sort : ByteArray := prog_2_method_4_code
def yX0_sort : MethodName := ⟨RX0, "sort", "()V"⟩
abbrev cX0_isFirstOfContext : ByteArray := prog_2_method_5_code
def yX0_isFirstOfContext : MethodName := ⟨RX0, "isFirstOfContext", "(I)Z"⟩
abbrev cX0_number : ByteArray := prog_2_method_6_code
def yX0_number : MethodName := ⟨RX0, "number", "()I"⟩
abbrev cX0_numberOfUnlike : ByteArray := prog_2_method_7_code
def yX0_numberOfUnlike : MethodName := ⟨RX0, "numberOfUnlike", "()I"⟩
abbrev cX0_isAlikeToOneOf : ByteArray := prog_2_method_8_code
def yX0_isAlikeToOneOf : MethodName := ⟨RX0, "isAlikeToOneOf", "(II)Z"⟩
abbrev cX0_countNext : ByteArray := prog_2_method_9_code
def yX0_countNext : MethodName := ⟨RX0, "countNext", "(I[I)I"⟩
abbrev cX0_areInProportion : ByteArray := prog_2_method_10_code
def yX0_areInProportion : MethodName := ⟨RX0, "areInProportion", "(II)Z"⟩
def RX1 : String := "LoadPress$Dealing"
def TX1 : u_T := fun k => match k with
  | 0 => ("LoadPress$Dealing", "counts", "[I", true)
  | _ => ("LoadPress$Dealing", "came", "[I", true)
def tyX1 : Nat → FieldType := fun k => match k with
  | 0 => .array .int
  | _ => .array .int
abbrev wsX10 : List Cond := u_ws RX1 TX1 2
theorem nmX1 : ∀ a, a < 2 → ∀ b, b < 2 → a ≠ b → (TX1 a).2.1 ≠ (TX1 b).2.1 := by decide +kernel
theorem tyX1_ok : ∀ k, k < 2 → parseFieldDescriptor (TX1 k).2.2.1 = some (tyX1 k) := by decide +kernel
abbrev cX1_init : ByteArray := prog_3_method_1_code
def yX1_init : MethodName := ⟨RX1, "<init>", "(I)V"⟩
abbrev cX1_beginAnew : ByteArray := prog_3_method_2_code
def yX1_beginAnew : MethodName := ⟨RX1, "beginAnew", "()V"⟩
abbrev cX1_deal : ByteArray := prog_3_method_3_code
def yX1_deal : MethodName := ⟨RX1, "deal", "()I"⟩
abbrev cX1_sumOf : ByteArray := prog_3_method_4_code
def yX1_sumOf : MethodName := ⟨RX1, "sumOf", "([I)I"⟩
def RX2 : String := "LoadPress$Machine"
def TX2 : u_T := fun k => match k with
  | 0 => ("LoadPress$Machine", "times", "[I", true)
  | 1 => ("LoadPress$Machine", "rares", "[I", true)
  | _ => ("LoadPress$Machine", "waits", "[LLoadPress$Dealing;", true)
def tyX2 : Nat → FieldType := fun k => match k with
  | 0 => .array .int
  | 1 => .array .int
  | _ => .array (.object "LoadPress$Dealing")
abbrev wsX20 : List Cond := u_ws RX2 TX2 3
theorem nmX2 : ∀ a, a < 3 → ∀ b, b < 3 → a ≠ b → (TX2 a).2.1 ≠ (TX2 b).2.1 := by decide +kernel
theorem tyX2_ok : ∀ k, k < 3 → parseFieldDescriptor (TX2 k).2.2.1 = some (tyX2 k) := by decide +kernel
abbrev cX2_init : ByteArray := prog_4_method_1_code
def yX2_init : MethodName := ⟨RX2, "<init>", "()V"⟩
abbrev cX2_forget : ByteArray := prog_4_method_2_code
def yX2_forget : MethodName := ⟨RX2, "forget", "()V"⟩
abbrev cX2_lengthen : ByteArray := prog_4_method_3_code
def yX2_lengthen : MethodName := ⟨RX2, "lengthen", "(III)V"⟩
abbrev cX2_tellRare : ByteArray := prog_4_method_4_code
def yX2_tellRare : MethodName := ⟨RX2, "tellRare", "(III)Z"⟩
abbrev cX2_countOf : ByteArray := prog_4_method_5_code
def yX2_countOf : MethodName := ⟨RX2, "countOf", "(II)I"⟩
abbrev cX2_timesOfWait : ByteArray := prog_4_method_6_code
def yX2_timesOfWait : MethodName := ⟨RX2, "timesOfWait", "(III)I"⟩
abbrev cX2_beginWaitsAnew : ByteArray := prog_4_method_7_code
def yX2_beginWaitsAnew : MethodName := ⟨RX2, "beginWaitsAnew", "()V"⟩
abbrev cX2_dealWait : ByteArray := prog_4_method_8_code
def yX2_dealWait : MethodName := ⟨RX2, "dealWait", "(II)I"⟩
abbrev cX2_unlikeSteps : ByteArray := prog_4_method_9_code
def yX2_unlikeSteps : MethodName := ⟨RX2, "unlikeSteps", "()I"⟩
def RX3 : String := "LoadPress$Press"
def TX3 : u_T := fun k => match k with
  | 0 => ("LoadPress$Press", "walks", "LLoadPress$Visits;", true)
  | 1 => ("LoadPress$Press", "due", "[I", true)
  | 2 => ("LoadPress$Press", "begun", "[I", true)
  | 3 => ("LoadPress$Press", "ended", "[I", true)
  | 4 => ("LoadPress$Press", "server", "[I", true)
  | 5 => ("LoadPress$Press", "nextSlot", "[I", true)
  | 6 => ("LoadPress$Press", "nextDue", "[I", true)
  | 7 => ("LoadPress$Press", "freeAt", "[I", true)
  | 8 => ("LoadPress$Press", "servers", "I", false)
  | 9 => ("LoadPress$Press", "lastBegun", "I", false)
  | 10 => ("LoadPress$Press", "behindSince", "I", false)
  | 11 => ("LoadPress$Press", "lastEnd", "I", false)
  | _ => ("LoadPress$Press", "worked", "I", false)
def tyX3 : Nat → FieldType := fun k => match k with
  | 0 => .object "LoadPress$Visits"
  | 1 => .array .int
  | 2 => .array .int
  | 3 => .array .int
  | 4 => .array .int
  | 5 => .array .int
  | 6 => .array .int
  | 7 => .array .int
  | 8 => .int
  | 9 => .int
  | 10 => .int
  | 11 => .int
  | _ => .int
abbrev wsX30 : List Cond := u_ws RX3 TX3 13
theorem nmX3 : ∀ a, a < 13 → ∀ b, b < 13 → a ≠ b → (TX3 a).2.1 ≠ (TX3 b).2.1 := by decide +kernel
theorem tyX3_ok : ∀ k, k < 13 → parseFieldDescriptor (TX3 k).2.2.1 = some (tyX3 k) := by decide +kernel
abbrev cX3_init : ByteArray := prog_5_method_1_code
def yX3_init : MethodName := ⟨RX3, "<init>", "()V"⟩
abbrev cX3_run : ByteArray := prog_5_method_2_code
def yX3_run : MethodName := ⟨RX3, "run", "(II[I)V"⟩
abbrev cX3_begin : ByteArray := prog_5_method_3_code
def yX3_begin : MethodName := ⟨RX3, "begin", "(II)V"⟩
abbrev cX3_visitDueFirst : ByteArray := prog_5_method_4_code
def yX3_visitDueFirst : MethodName := ⟨RX3, "visitDueFirst", "()I"⟩
abbrev cX3_serverFreeFirst : ByteArray := prog_5_method_5_code
def yX3_serverFreeFirst : MethodName := ⟨RX3, "serverFreeFirst", "()I"⟩
abbrev cX3_serve : ByteArray := prog_5_method_6_code
def yX3_serve : MethodName := ⟨RX3, "serve", "(II)V"⟩
abbrev cX3_noteBehind : ByteArray := prog_5_method_7_code
def yX3_noteBehind : MethodName := ⟨RX3, "noteBehind", "(II)V"⟩
abbrev cX3_fallsBehind : ByteArray := prog_5_method_8_code
def yX3_fallsBehind : MethodName := ⟨RX3, "fallsBehind", "()I"⟩
abbrev cX3_tell : ByteArray := prog_5_method_9_code
def yX3_tell : MethodName := ⟨RX3, "tell", "(II)I"⟩
abbrev cX3_longerThan : ByteArray := prog_5_method_10_code
def yX3_longerThan : MethodName := ⟨RX3, "longerThan", "(II)I"⟩
abbrev cX3_leastTicks : ByteArray := prog_5_method_11_code
def yX3_leastTicks : MethodName := ⟨RX3, "leastTicks", "(II)I"⟩
abbrev cX3_notBegunAt : ByteArray := prog_5_method_12_code
def yX3_notBegunAt : MethodName := ⟨RX3, "notBegunAt", "(I)I"⟩
def RX4 : String := "LoadPress$Visits"
def TX4 : u_T := fun k => match k with
  | 0 => ("LoadPress$Visits", "pages", "[I", true)
  | 1 => ("LoadPress$Visits", "waits", "[I", true)
  | 2 => ("LoadPress$Visits", "starts", "[I", true)
  | _ => ("LoadPress$Visits", "size", "I", false)
def tyX4 : Nat → FieldType := fun k => match k with
  | 0 => .array .int
  | 1 => .array .int
  | 2 => .array .int
  | _ => .int
abbrev wsX40 : List Cond := u_ws RX4 TX4 4
theorem nmX4 : ∀ a, a < 4 → ∀ b, b < 4 → a ≠ b → (TX4 a).2.1 ≠ (TX4 b).2.1 := by decide +kernel
theorem tyX4_ok : ∀ k, k < 4 → parseFieldDescriptor (TX4 k).2.2.1 = some (tyX4 k) := by decide +kernel
abbrev cX4_init : ByteArray := prog_6_method_1_code
def yX4_init : MethodName := ⟨RX4, "<init>", "()V"⟩
abbrev cX4_empty : ByteArray := prog_6_method_2_code
def yX4_empty : MethodName := ⟨RX4, "empty", "()V"⟩
abbrev cX4_open : ByteArray := prog_6_method_3_code
def yX4_open : MethodName := ⟨RX4, "open", "()I"⟩
abbrev cX4_add : ByteArray := prog_6_method_4_code
def yX4_add : MethodName := ⟨RX4, "add", "(II)I"⟩
abbrev cX4_asks : ByteArray := prog_6_method_5_code
def yX4_asks : MethodName := ⟨RX4, "asks", "()I"⟩
abbrev cX4_has : ByteArray := prog_6_method_6_code
def yX4_has : MethodName := ⟨RX4, "has", "(I)Z"⟩
abbrev cX4_startOf : ByteArray := prog_6_method_7_code
def yX4_startOf : MethodName := ⟨RX4, "startOf", "(I)I"⟩
abbrev cX4_endOf : ByteArray := prog_6_method_8_code
def yX4_endOf : MethodName := ⟨RX4, "endOf", "(I)I"⟩
abbrev cX4_lengthOf : ByteArray := prog_6_method_9_code
def yX4_lengthOf : MethodName := ⟨RX4, "lengthOf", "(I)I"⟩
abbrev cX4_slotOf : ByteArray := prog_6_method_10_code
def yX4_slotOf : MethodName := ⟨RX4, "slotOf", "(II)I"⟩
abbrev cX4_pageAt : ByteArray := prog_6_method_11_code
def yX4_pageAt : MethodName := ⟨RX4, "pageAt", "(I)I"⟩
abbrev cX4_waitAt : ByteArray := prog_6_method_12_code
def yX4_waitAt : MethodName := ⟨RX4, "waitAt", "(I)I"⟩
abbrev cX4_lastPlace : ByteArray := prog_6_method_13_code
def yX4_lastPlace : MethodName := ⟨RX4, "lastPlace", "()I"⟩
def RX5 : String := "LoadPress$Walker"
def TX5 : u_T := fun k => match k with
  | _ => ("LoadPress$Walker", "places", "[LLoadPress$Dealing;", true)
def tyX5 : Nat → FieldType := fun k => match k with
  | _ => .array (.object "LoadPress$Dealing")
abbrev wsX50 : List Cond := u_ws RX5 TX5 1
theorem nmX5 : ∀ a, a < 1 → ∀ b, b < 1 → a ≠ b → (TX5 a).2.1 ≠ (TX5 b).2.1 := by decide +kernel
theorem tyX5_ok : ∀ k, k < 1 → parseFieldDescriptor (TX5 k).2.2.1 = some (tyX5 k) := by decide +kernel
abbrev cX5_init : ByteArray := prog_7_method_1_code
def yX5_init : MethodName := ⟨RX5, "<init>", "()V"⟩
abbrev cX5_dealWalks : ByteArray := prog_7_method_2_code
def yX5_dealWalks : MethodName := ⟨RX5, "dealWalks", "(LLoadPress$Machine;LLoadPress$Visits;I)V"⟩
abbrev cX5_dealWalk : ByteArray := prog_7_method_3_code
def yX5_dealWalk : MethodName := ⟨RX5, "dealWalk", "(LLoadPress$Machine;LLoadPress$Visits;)V"⟩
abbrev cX5_timesOf : ByteArray := prog_7_method_4_code
def yX5_timesOf : MethodName := ⟨RX5, "timesOf", "(II)I"⟩
def RX6 : String := "LoadPress"
def TX6 : u_T := fun k => match k with
  | 0 => ("LoadPress", "log", "LLoadPress$Visits;", true)
  | 1 => ("LoadPress", "machine", "LLoadPress$Machine;", true)
  | 2 => ("LoadPress", "rows", "LLoadPress$Contexts;", true)
  | 3 => ("LoadPress", "costs", "[I", true)
  | 4 => ("LoadPress", "walker", "LLoadPress$Walker;", true)
  | _ => ("LoadPress", "latest", "LLoadPress$Press;", true)
def tyX6 : Nat → FieldType := fun k => match k with
  | 0 => .object "LoadPress$Visits"
  | 1 => .object "LoadPress$Machine"
  | 2 => .object "LoadPress$Contexts"
  | 3 => .array .int
  | 4 => .object "LoadPress$Walker"
  | _ => .object "LoadPress$Press"
abbrev wsX60 : List Cond := u_ws RX6 TX6 6
theorem nmX6 : ∀ a, a < 6 → ∀ b, b < 6 → a ≠ b → (TX6 a).2.1 ≠ (TX6 b).2.1 := by decide +kernel
theorem tyX6_ok : ∀ k, k < 6 → parseFieldDescriptor (TX6 k).2.2.1 = some (tyX6 k) := by decide +kernel
abbrev cX6_init : ByteArray := prog_1_method_1_code
def yX6_init : MethodName := ⟨RX6, "<init>", "()V"⟩
abbrev cX6_visit : ByteArray := prog_1_method_2_code
def yX6_visit : MethodName := ⟨RX6, "visit", "()I"⟩
abbrev cX6_ask : ByteArray := prog_1_method_3_code
def yX6_ask : MethodName := ⟨RX6, "ask", "(II)I"⟩
abbrev cX6_clear : ByteArray := prog_1_method_4_code
def yX6_clear : MethodName := ⟨RX6, "clear", "()V"⟩
abbrev cX6_steps : ByteArray := prog_1_method_5_code
def yX6_steps : MethodName := ⟨RX6, "steps", "(II)I"⟩
abbrev cX6_waits : ByteArray := prog_1_method_6_code
def yX6_waits : MethodName := ⟨RX6, "waits", "(III)I"⟩
abbrev cX6_rare : ByteArray := prog_1_method_7_code
def yX6_rare : MethodName := ⟨RX6, "rare", "(III)Z"⟩
abbrev cX6_cost : ByteArray := prog_1_method_8_code
def yX6_cost : MethodName := ⟨RX6, "cost", "(II)Z"⟩
abbrev cX6_contexts : ByteArray := prog_1_method_9_code
def yX6_contexts : MethodName := ⟨RX6, "contexts", "(I)I"⟩
abbrev cX6_states : ByteArray := prog_1_method_10_code
def yX6_states : MethodName := ⟨RX6, "states", "(I)I"⟩
abbrev cX6_press : ByteArray := prog_1_method_11_code
def yX6_press : MethodName := ⟨RX6, "press", "(III)I"⟩
abbrev cX6_walked : ByteArray := prog_1_method_12_code
def yX6_walked : MethodName := ⟨RX6, "walked", "(I)I"⟩
abbrev cX6_told : ByteArray := prog_1_method_13_code
def yX6_told : MethodName := ⟨RX6, "told", "(III)I"⟩
abbrev cX6_dealt : ByteArray := prog_1_method_14_code
def yX6_dealt : MethodName := ⟨RX6, "dealt", "(II)I"⟩
abbrev cX6_part : ByteArray := prog_1_method_15_code
def yX6_part : MethodName := ⟨RX6, "part", "(II)I"⟩
abbrev cX6_late : ByteArray := prog_1_method_16_code
def yX6_late : MethodName := ⟨RX6, "late", "(II)I"⟩
abbrev cX6_behind : ByteArray := prog_1_method_17_code
def yX6_behind : MethodName := ⟨RX6, "behind", "()I"⟩
abbrev cX6_waiting : ByteArray := prog_1_method_18_code
def yX6_waiting : MethodName := ⟨RX6, "waiting", "(I)I"⟩
abbrev cX6_learn : ByteArray := prog_1_method_19_code
def yX6_learn : MethodName := ⟨RX6, "learn", "()I"⟩
abbrev cX6_count : ByteArray := prog_1_method_20_code
def yX6_count : MethodName := ⟨RX6, "count", "(I)I"⟩
abbrev cX6_note : ByteArray := prog_1_method_21_code
def yX6_note : MethodName := ⟨RX6, "note", "(II)I"⟩
abbrev cX6_noteAsks : ByteArray := prog_1_method_22_code
def yX6_noteAsks : MethodName := ⟨RX6, "noteAsks", "(LLoadPress$Visits;I)V"⟩
abbrev cX6_isWithin : ByteArray := prog_1_method_23_code
def yX6_isWithin : MethodName := ⟨RX6, "isWithin", "(III)Z"⟩
abbrev cX6_isPage : ByteArray := prog_1_method_24_code
def yX6_isPage : MethodName := ⟨RX6, "isPage", "(I)Z"⟩
abbrev cX6_isPlace : ByteArray := prog_1_method_25_code
def yX6_isPlace : MethodName := ⟨RX6, "isPlace", "(I)Z"⟩
abbrev cX6_isWait : ByteArray := prog_1_method_26_code
def yX6_isWait : MethodName := ⟨RX6, "isWait", "(I)Z"⟩
abbrev cX6_stepOf : ByteArray := prog_1_method_27_code
def yX6_stepOf : MethodName := ⟨RX6, "stepOf", "(II)I"⟩
def RX7 : String := "LoadPressModel"
def TX7 : u_T := fun k => match k with
  | 0 => ("LoadPressModel", "visits", "I", false)
  | 1 => ("LoadPressModel", "many", "[I", true)
  | 2 => ("LoadPressModel", "page", "[I", true)
  | 3 => ("LoadPressModel", "wait", "[I", true)
  | 4 => ("LoadPressModel", "rare", "[I", true)
  | 5 => ("LoadPressModel", "cost", "[I", true)
  | 6 => ("LoadPressModel", "rowKey", "[I", true)
  | 7 => ("LoadPressModel", "rowNext", "[I", true)
  | 8 => ("LoadPressModel", "rows", "I", false)
  | 9 => ("LoadPressModel", "walks", "I", false)
  | 10 => ("LoadPressModel", "asks", "I", false)
  | 11 => ("LoadPressModel", "lastEnd", "I", false)
  | 12 => ("LoadPressModel", "worked", "I", false)
  | 13 => ("LoadPressModel", "walked", "[I", true)
  | 14 => ("LoadPressModel", "wPage", "[I", true)
  | 15 => ("LoadPressModel", "wWait", "[I", true)
  | 16 => ("LoadPressModel", "due", "[I", true)
  | 17 => ("LoadPressModel", "begun", "[I", true)
  | 18 => ("LoadPressModel", "ended", "[I", true)
  | 19 => ("LoadPressModel", "server", "[I", true)
  | 20 => ("LoadPressModel", "came", "[I", true)
  | 21 => ("LoadPressModel", "cameWait", "[I", true)
  | 22 => ("LoadPressModel", "count", "[I", true)
  | 23 => ("LoadPressModel", "countWait", "[I", true)
  | 24 => ("LoadPressModel", "free", "[I", true)
  | _ => ("LoadPressModel", "done", "[I", true)
def tyX7 : Nat → FieldType := fun k => match k with
  | 0 => .int
  | 1 => .array .int
  | 2 => .array .int
  | 3 => .array .int
  | 4 => .array .int
  | 5 => .array .int
  | 6 => .array .int
  | 7 => .array .int
  | 8 => .int
  | 9 => .int
  | 10 => .int
  | 11 => .int
  | 12 => .int
  | 13 => .array .int
  | 14 => .array .int
  | 15 => .array .int
  | 16 => .array .int
  | 17 => .array .int
  | 18 => .array .int
  | 19 => .array .int
  | 20 => .array .int
  | 21 => .array .int
  | 22 => .array .int
  | 23 => .array .int
  | 24 => .array .int
  | _ => .array .int
abbrev wsX70 : List Cond := u_ws RX7 TX7 26
theorem nmX7 : ∀ a, a < 26 → ∀ b, b < 26 → a ≠ b → (TX7 a).2.1 ≠ (TX7 b).2.1 := by decide +kernel
theorem tyX7_ok : ∀ k, k < 26 → parseFieldDescriptor (TX7 k).2.2.1 = some (tyX7 k) := by decide +kernel
abbrev cX7_init : ByteArray := prog_9_method_1_code
def yX7_init : MethodName := ⟨RX7, "<init>", "()V"⟩
abbrev cX7_in : ByteArray := prog_9_method_2_code
def yX7_in : MethodName := ⟨RX7, "in", "(III)Z"⟩
abbrev cX7_visit : ByteArray := prog_9_method_3_code
def yX7_visit : MethodName := ⟨RX7, "visit", "()I"⟩
abbrev cX7_ask : ByteArray := prog_9_method_4_code
def yX7_ask : MethodName := ⟨RX7, "ask", "(II)I"⟩
abbrev cX7_clear : ByteArray := prog_9_method_5_code
def yX7_clear : MethodName := ⟨RX7, "clear", "()V"⟩
abbrev cX7_next : ByteArray := prog_9_method_6_code
def yX7_next : MethodName := ⟨RX7, "next", "(II)I"⟩
abbrev cX7_inLog : ByteArray := prog_9_method_7_code
def yX7_inLog : MethodName := ⟨RX7, "inLog", "(II)I"⟩
abbrev cX7_arePlaces : ByteArray := prog_9_method_8_code
def yX7_arePlaces : MethodName := ⟨RX7, "arePlaces", "(II)Z"⟩
abbrev cX7_countOf : ByteArray := prog_9_method_9_code
def yX7_countOf : MethodName := ⟨RX7, "countOf", "(II)I"⟩
abbrev cX7_steps : ByteArray := prog_9_method_10_code
def yX7_steps : MethodName := ⟨RX7, "steps", "(II)I"⟩
abbrev cX7_waitsOf : ByteArray := prog_9_method_11_code
def yX7_waitsOf : MethodName := ⟨RX7, "waitsOf", "(III)I"⟩
abbrev cX7_waits : ByteArray := prog_9_method_12_code
def yX7_waits : MethodName := ⟨RX7, "waits", "(III)I"⟩
abbrev cX7_rare : ByteArray := prog_9_method_13_code
def yX7_rare : MethodName := ⟨RX7, "rare", "(III)Z"⟩
abbrev cX7_cost : ByteArray := prog_9_method_14_code
def yX7_cost : MethodName := ⟨RX7, "cost", "(II)Z"⟩
abbrev cX7_findContexts : ByteArray := prog_9_method_15_code
def yX7_findContexts : MethodName := ⟨RX7, "findContexts", "(I)V"⟩
abbrev cX7_contexts : ByteArray := prog_9_method_16_code
def yX7_contexts : MethodName := ⟨RX7, "contexts", "(I)I"⟩
abbrev cX7_all : ByteArray := prog_9_method_17_code
def yX7_all : MethodName := ⟨RX7, "all", "(I)I"⟩
abbrev cX7_areAlike : ByteArray := prog_9_method_18_code
def yX7_areAlike : MethodName := ⟨RX7, "areAlike", "(II)Z"⟩
abbrev cX7_states : ByteArray := prog_9_method_19_code
def yX7_states : MethodName := ⟨RX7, "states", "(I)I"⟩
abbrev cX7_deal : ByteArray := prog_9_method_20_code
def yX7_deal : MethodName := ⟨RX7, "deal", "([I[III)I"⟩
abbrev cX7_walk : ByteArray := prog_9_method_21_code
def yX7_walk : MethodName := ⟨RX7, "walk", "(I)V"⟩
abbrev cX7_serve : ByteArray := prog_9_method_22_code
def yX7_serve : MethodName := ⟨RX7, "serve", "(II)V"⟩
abbrev cX7_press : ByteArray := prog_9_method_23_code
def yX7_press : MethodName := ⟨RX7, "press", "(III)I"⟩
abbrev cX7_isWalk : ByteArray := prog_9_method_24_code
def yX7_isWalk : MethodName := ⟨RX7, "isWalk", "(I)Z"⟩
abbrev cX7_walked : ByteArray := prog_9_method_25_code
def yX7_walked : MethodName := ⟨RX7, "walked", "(I)I"⟩
abbrev cX7_told : ByteArray := prog_9_method_26_code
def yX7_told : MethodName := ⟨RX7, "told", "(III)I"⟩
abbrev cX7_dealt : ByteArray := prog_9_method_27_code
def yX7_dealt : MethodName := ⟨RX7, "dealt", "(II)I"⟩
abbrev cX7_taking : ByteArray := prog_9_method_28_code
def yX7_taking : MethodName := ⟨RX7, "taking", "(II)I"⟩
abbrev cX7_from : ByteArray := prog_9_method_29_code
def yX7_from : MethodName := ⟨RX7, "from", "(I)I"⟩
abbrev cX7_part : ByteArray := prog_9_method_30_code
def yX7_part : MethodName := ⟨RX7, "part", "(II)I"⟩
abbrev cX7_late : ByteArray := prog_9_method_31_code
def yX7_late : MethodName := ⟨RX7, "late", "(II)I"⟩
abbrev cX7_waitingAt : ByteArray := prog_9_method_32_code
def yX7_waitingAt : MethodName := ⟨RX7, "waitingAt", "(I)I"⟩
abbrev cX7_behind : ByteArray := prog_9_method_33_code
def yX7_behind : MethodName := ⟨RX7, "behind", "()I"⟩
abbrev cX7_waiting : ByteArray := prog_9_method_34_code
def yX7_waiting : MethodName := ⟨RX7, "waiting", "(I)I"⟩
abbrev cX7_learn : ByteArray := prog_9_method_35_code
def yX7_learn : MethodName := ⟨RX7, "learn", "()I"⟩
abbrev cX7_count : ByteArray := prog_9_method_36_code
def yX7_count : MethodName := ⟨RX7, "count", "(I)I"⟩
def RJ9 : String := "java/lang/Math"
def TJ9 : u_T := fun k => match k with
  | _ => ("", "", "", false)
def tyJ9 : Nat → FieldType := fun k => match k with
  | _ => .int
abbrev wsJ90 : List Cond := u_ws RJ9 TJ9 0
theorem nmJ9 : ∀ a, a < 0 → ∀ b, b < 0 → a ≠ b → (TJ9 a).2.1 ≠ (TJ9 b).2.1 := by decide +kernel
theorem tyJ9_ok : ∀ k, k < 0 → parseFieldDescriptor (TJ9 k).2.2.1 = some (tyJ9 k) := by decide +kernel
abbrev cJ9_max_7cf53 : ByteArray := prog_10_method_65_code
def yJ9_max_7cf53 : MethodName := ⟨RJ9, "max", "(II)I"⟩
abbrev cJ9_min_7cf53 : ByteArray := prog_10_method_69_code
def yJ9_min_7cf53 : MethodName := ⟨RJ9, "min", "(II)I"⟩
def RJ7 : String := "java/util/Arrays"
def TJ7 : u_T := fun k => match k with
  | _ => ("", "", "", false)
def tyJ7 : Nat → FieldType := fun k => match k with
  | _ => .int
abbrev wsJ70 : List Cond := u_ws RJ7 TJ7 0
theorem nmJ7 : ∀ a, a < 0 → ∀ b, b < 0 → a ≠ b → (TJ7 a).2.1 ≠ (TJ7 b).2.1 := by decide +kernel
theorem tyJ7_ok : ∀ k, k < 0 → parseFieldDescriptor (TJ7 k).2.2.1 = some (tyJ7 k) := by decide +kernel
abbrev cJ7_fill_53178 : ByteArray := prog_11_method_103_code
def yJ7_fill_53178 : MethodName := ⟨RJ7, "fill", "([II)V"⟩
def RL : String := "LoadPressLaw"
abbrev cL_law : ByteArray := code
def yL_law : MethodName := ⟨RL, "law", "([I)Z"⟩
abbrev vwCl : List vw_C := [(RX0, TX0, 5), (RX1, TX1, 2), (RX2, TX2, 3), (RX3, TX3, 13), (RX4, TX4, 4), (RX5, TX5, 1), (RX6, TX6, 6), (RX7, TX7, 26)]
end
section
/-! ===== tables of a method: what a program decides of them ===== -/
abbrev lpC : Type := List (Nat × Instr × Nat)
def lp_isNest : Cond → Bool
  | .fieldLinkNest _ _ _ _ _ _ => true
  | .methodLinkNest _ _ _ _ => true
  | _ => false
def lp_nest : List Cond := lw_tbl.filter lp_isNest
def lp_tbl : List Cond := lw_tbl.filter goodWord
def lp_dec (k : lpC) (cc : ByteArray) : Bool := k.all (fun x => decide (decode cc x.1 = .ok (x.2.1, x.2.2)))
def lp_ln (I : Instr) : Nat := match I with
  | .bipush _ | .iload _ | .aload _ | .istore _ | .astore _ | .ldc _ => 2
  | .sipush _ | .iinc _ _ | .goto _ | .if_icmp _ _ | .ifCond _ _ | .ifnull _ | .ifnonnull _ | .getfield _ | .putfield _ | .invokevirtual _ | .invokestatic _ | .new _ | .invokespecial _ | .anewarray _ => 3
  | _ => 1
def lp_lenb (I : Instr) (n : Nat) : Bool := match I with
  | .tableswitch _ _ _ _ => true
  | I => Nat.beq (lp_ln I) n
def lp_seq : lpC → Bool
  | [] => true
  | [_] => true
  | x :: y :: l => Nat.beq (x.1 + x.2.2) y.1 && lp_seq (y :: l)
def lp_nnb (pc : Nat) (I : Instr) : Bool := match I with
  | .if_icmp _ o | .ifCond _ o | .ifnull o | .ifnonnull o => decide (0 ≤ (pc : Int) + o)
  | .tableswitch _ lo hi offs => decide (hi < lo + offs.toList.length)
  | _ => true
def lp_rtb (ret : Option FieldType) (I : Instr) : Bool := match I with
  | .ireturn => ret.isSome
  | .return_ => ret.isNone
  | _ => true
def lp_okc (k : lpC) (cc : ByteArray) (ret : Option FieldType) : Bool := lp_dec k cc && k.all (fun x => lp_lenb x.2.1 x.2.2 && lp_nnb x.1 x.2.1 && lp_rtb ret x.2.1) && lp_seq k
def lp_flb (own : String) (x : Nat × Nat × Nat) : Bool := match vwCl[x.2.1]? with
  | some (_, T, N) => decide (x.2.2 < N) && (decide (Cond.fieldLink own x.1 (T x.2.2).1 (T x.2.2).2.1 (T x.2.2).2.2.1 ∈ lp_tbl) || lp_nest.any (fun w => match w with
    | .fieldLinkNest a i b n d _ => decide (a = own) && decide (i = x.1) && decide (b = (T x.2.2).1) && decide (n = (T x.2.2).2.1) && decide (d = (T x.2.2).2.2.1)
    | _ => false))
  | none => false
def lp_pfb (own : String) (x : Nat × Nat × Nat) : Bool := match vwCl[x.2.1]? with
  | some (_, T, N) => decide (x.2.2 < N) && decide (Cond.fieldLink own x.1 (T x.2.2).1 (T x.2.2).2.1 (T x.2.2).2.2.1 ∈ lp_tbl) && decide ((T x.2.2).2.2.2 = false) && decide (parseFieldDescriptor (T x.2.2).2.2.1 = some .int)
  | none => false
def lp_kcb (own : String) (x : Nat × Int32) : Bool := decide (Cond.constant own x.1 x.2 ∈ lp_tbl)
def lp_lnb (own : String) (i : Nat) (ci : Option Nat) (n : Nat) (y : MethodName) (bytes : ByteArray) (nL : Nat) (ret : Option FieldType) : Bool :=
  Nat.ble nL 17 && decide (Cond.code y bytes nL ret ∈ lp_tbl) && decide (Cond.initialized y.cls ∈ lp_tbl) && (decide (y.cls ≠ "java/lang/invoke/MethodHandle") && decide (y.cls ≠ "java/lang/invoke/VarHandle") && decide ((parseMethodDescriptor y.desc).map (fun d => d.parameters.length) = some n)) &&
  (decide (Cond.methodLink own i y ∈ lp_tbl) || lp_nest.any (fun w => match w with
    | .methodLinkNest a j z _ => decide (a = own) && decide (j = i) && decide (z = y)
    | _ => false)) &&
  (match ci with
    | some c => decide (Cond.instanceMethod y ∈ lp_tbl) && decide (Cond.selects y.cls y y ∈ lp_tbl) && (match vwCl[c]? with
      | some q => decide (q.1 = y.cls)
      | none => false)
    | none => decide (Cond.static y ∈ lp_tbl))
theorem lp_u0 : ∀ w ∈ wsX00, w ∈ lp_tbl := by decide +kernel
theorem lp_u1 : ∀ w ∈ wsX10, w ∈ lp_tbl := by decide +kernel
theorem lp_u2 : ∀ w ∈ wsX20, w ∈ lp_tbl := by decide +kernel
theorem lp_u3 : ∀ w ∈ wsX30, w ∈ lp_tbl := by decide +kernel
theorem lp_u4 : ∀ w ∈ wsX40, w ∈ lp_tbl := by decide +kernel
theorem lp_u5 : ∀ w ∈ wsX50, w ∈ lp_tbl := by decide +kernel
theorem lp_u6 : ∀ w ∈ wsX60, w ∈ lp_tbl := by decide +kernel
theorem lp_u7 : ∀ w ∈ wsX70, w ∈ lp_tbl := by decide +kernel
def lp_mxb (own : String) (i : Nat) : Bool := decide (Cond.initialized "java/lang/Math" ∈ lp_tbl) && decide (Cond.methodLink own i Lib.Math.max.name ∈ lp_tbl) && decide (Cond.static Lib.Math.max.name ∈ lp_tbl) && decide (Cond.code Lib.Math.max.name Lib.Math.max.code 2 (some .int) ∈ lp_tbl)
def lp_mnb (own : String) (i : Nat) : Bool := decide (Cond.initialized "java/lang/Math" ∈ lp_tbl) && decide (Cond.methodLink own i Lib.Math.min.name ∈ lp_tbl) && decide (Cond.static Lib.Math.min.name ∈ lp_tbl) && decide (Cond.code Lib.Math.min.name Lib.Math.min.code 2 (some .int) ∈ lp_tbl)
end
section
/-! ===== code and links of J7 ===== -/
def kJ7_fill_53178 : lpC := [(0, .iconst 0, 1), (1, .istore_n 2, 1), (2, .aload_n 0, 1), (3, .arraylength, 1), (4, .istore_n 3, 1), (5, .iload_n 2, 1), (6, .iload_n 3, 1), (7, .if_icmp .ge 13, 3), (10, .aload_n 0, 1), (11, .iload_n 2, 1), (12, .iload_n 1, 1), (13, .iastore, 1), (14, .iinc 2 1, 3), (17, .goto (-12), 3), (20, .return_, 1)]
theorem kJ7_fill_53178_ok : lp_okc kJ7_fill_53178 cJ7_fill_53178 none = true := by decide +kernel
def flJ7 : List (Nat × Nat × Nat) := []
theorem flJ7_ok : flJ7.all (lp_flb RJ7) = true := by decide +kernel
def pfJ7 : List (Nat × Nat × Nat) := []
theorem pfJ7_ok : pfJ7.all (lp_pfb RJ7) = true := by decide +kernel
def kcJ7 : List (Nat × Int32) := []
theorem kcJ7_ok : kcJ7.all (lp_kcb RJ7) = true := by decide +kernel
end
section
/-! ===== code and links of X0 ===== -/
def kX0_gather : lpC := [(0, .aload_n 0, 1), (1, .iconst 0, 1), (2, .putfield 24, 3), (5, .iconst 0, 1), (6, .istore_n 3, 1), (7, .iload_n 3, 1), (8, .aload_n 1, 1), (9, .getfield 28, 3), (12, .if_icmp .ge 16, 3), (15, .aload_n 0, 1), (16, .aload_n 1, 1), (17, .iload_n 3, 1), (18, .iload_n 2, 1), (19, .invokevirtual 31, 3), (22, .iinc 3 1, 3), (25, .goto (-18), 3), (28, .aload_n 0, 1), (29, .invokevirtual 35, 3), (32, .return_, 1)]
theorem kX0_gather_ok : lp_okc kX0_gather cX0_gather none = true := by decide +kernel
def kX0_gatherFrom : lpC := [(0, .aload_n 1, 1), (1, .iload_n 2, 1), (2, .invokevirtual 38, 3), (5, .istore 4, 2), (7, .aload_n 1, 1), (8, .iload_n 2, 1), (9, .invokevirtual 42, 3), (12, .iload_n 3, 1), (13, .iadd, 1), (14, .istore 5, 2), (16, .iload 5, 2), (18, .iload 4, 2), (20, .if_icmp .gt 97, 3), (23, .aload_n 0, 1), (24, .getfield 24, 3), (27, .sipush 1200, 3), (30, .if_icmp .ge 87, 3), (33, .iconst 0, 1), (34, .istore 6, 2), (36, .iload 5, 2), (38, .iload_n 3, 1), (39, .isub, 1), (40, .istore 7, 2), (42, .iload 7, 2), (44, .iload 5, 2), (46, .if_icmp .ge 23, 3), (49, .iload 6, 2), (51, .bipush 10, 2), (53, .imul, 1), (54, .aload_n 1, 1), (55, .iload 7, 2), (57, .invokevirtual 45, 3), (60, .iadd, 1), (61, .istore 6, 2), (63, .iinc 7 1, 3), (66, .goto (-24), 3), (69, .aload_n 0, 1), (70, .getfield 9, 3), (73, .aload_n 0, 1), (74, .getfield 24, 3), (77, .iload 6, 2), (79, .iload 5, 2), (81, .iload 4, 2), (83, .if_icmp .ge 12, 3), (86, .aload_n 1, 1), (87, .iload 5, 2), (89, .invokevirtual 45, 3), (92, .goto 5, 3), (95, .bipush 10, 2), (97, .invokestatic 48, 3), (100, .iastore, 1), (101, .aload_n 0, 1), (102, .dup, 1), (103, .getfield 24, 3), (106, .iconst 1, 1), (107, .iadd, 1), (108, .putfield 24, 3), (111, .iinc 5 1, 3), (114, .goto (-98), 3), (117, .return_, 1)]
theorem kX0_gatherFrom_ok : lp_okc kX0_gatherFrom cX0_gatherFrom none = true := by decide +kernel
def kX0_sort : lpC := [(0, .aload_n 0, 1), (1, .getfield 24, 3), (4, .iconst 2, 1), (5, .idiv, 1), (6, .istore_n 1, 1), (7, .iload_n 1, 1), (8, .ifCond .le 88, 3), (11, .iload_n 1, 1), (12, .istore_n 2, 1), (13, .iload_n 2, 1), (14, .aload_n 0, 1), (15, .getfield 24, 3), (18, .if_icmp .ge 71, 3), (21, .aload_n 0, 1), (22, .getfield 9, 3), (25, .iload_n 2, 1), (26, .iaload, 1), (27, .istore_n 3, 1), (28, .iload_n 2, 1), (29, .istore 4, 2), (31, .iload 4, 2), (33, .iload_n 1, 1), (34, .if_icmp .lt 41, 3), (37, .aload_n 0, 1), (38, .getfield 9, 3), (41, .iload 4, 2), (43, .iload_n 1, 1), (44, .isub, 1), (45, .iaload, 1), (46, .iload_n 3, 1), (47, .if_icmp .le 28, 3), (50, .aload_n 0, 1), (51, .getfield 9, 3), (54, .iload 4, 2), (56, .aload_n 0, 1), (57, .getfield 9, 3), (60, .iload 4, 2), (62, .iload_n 1, 1), (63, .isub, 1), (64, .iaload, 1), (65, .iastore, 1), (66, .iload 4, 2), (68, .iload_n 1, 1), (69, .isub, 1), (70, .istore 4, 2), (72, .goto (-41), 3), (75, .aload_n 0, 1), (76, .getfield 9, 3), (79, .iload 4, 2), (81, .iload_n 3, 1), (82, .iastore, 1), (83, .iinc 2 1, 3), (86, .goto (-73), 3), (89, .iload_n 1, 1), (90, .iconst 2, 1), (91, .idiv, 1), (92, .istore_n 1, 1), (93, .goto (-86), 3), (96, .return_, 1)]
theorem kX0_sort_ok : lp_okc kX0_sort cX0_sort none = true := by decide +kernel
def kX0_isFirstOfContext : lpC := [(0, .iload_n 1, 1), (1, .ifCond .eq 26, 3), (4, .aload_n 0, 1), (5, .getfield 9, 3), (8, .iload_n 1, 1), (9, .iaload, 1), (10, .bipush 11, 2), (12, .idiv, 1), (13, .aload_n 0, 1), (14, .getfield 9, 3), (17, .iload_n 1, 1), (18, .iconst 1, 1), (19, .isub, 1), (20, .iaload, 1), (21, .bipush 11, 2), (23, .idiv, 1), (24, .if_icmp .eq 7, 3), (27, .iconst 1, 1), (28, .goto 4, 3), (31, .iconst 0, 1), (32, .ireturn, 1)]
theorem kX0_isFirstOfContext_ok : lp_okc kX0_isFirstOfContext cX0_isFirstOfContext (some .boolean) = true := by decide +kernel
def kX0_number : lpC := [(0, .iconst 0, 1), (1, .istore_n 1, 1), (2, .iconst 0, 1), (3, .istore_n 2, 1), (4, .iload_n 2, 1), (5, .aload_n 0, 1), (6, .getfield 24, 3), (9, .if_icmp .ge 20, 3), (12, .aload_n 0, 1), (13, .iload_n 2, 1), (14, .invokevirtual 52, 3), (17, .ifCond .eq 6, 3), (20, .iinc 1 1, 3), (23, .iinc 2 1, 3), (26, .goto (-22), 3), (29, .iload_n 1, 1), (30, .ireturn, 1)]
theorem kX0_number_ok : lp_okc kX0_number cX0_number (some .int) = true := by decide +kernel
def kX0_numberOfUnlike : lpC := [(0, .iconst 0, 1), (1, .istore_n 1, 1), (2, .iconst 0, 1), (3, .istore_n 2, 1), (4, .iload_n 2, 1), (5, .aload_n 0, 1), (6, .getfield 24, 3), (9, .if_icmp .ge 36, 3), (12, .aload_n 0, 1), (13, .iload_n 2, 1), (14, .invokevirtual 52, 3), (17, .ifCond .eq 22, 3), (20, .aload_n 0, 1), (21, .iload_n 1, 1), (22, .iload_n 2, 1), (23, .invokevirtual 56, 3), (26, .ifCond .ne 13, 3), (29, .aload_n 0, 1), (30, .getfield 15, 3), (33, .iload_n 1, 1), (34, .iload_n 2, 1), (35, .iastore, 1), (36, .iinc 1 1, 3), (39, .iinc 2 1, 3), (42, .goto (-38), 3), (45, .iload_n 1, 1), (46, .ireturn, 1)]
theorem kX0_numberOfUnlike_ok : lp_okc kX0_numberOfUnlike cX0_numberOfUnlike (some .int) = true := by decide +kernel
def kX0_isAlikeToOneOf : lpC := [(0, .aload_n 0, 1), (1, .iload_n 2, 1), (2, .aload_n 0, 1), (3, .getfield 18, 3), (6, .invokevirtual 60, 3), (9, .istore_n 3, 1), (10, .iconst 0, 1), (11, .istore 4, 2), (13, .iload 4, 2), (15, .iload_n 1, 1), (16, .if_icmp .ge 38, 3), (19, .aload_n 0, 1), (20, .aload_n 0, 1), (21, .getfield 15, 3), (24, .iload 4, 2), (26, .iaload, 1), (27, .aload_n 0, 1), (28, .getfield 21, 3), (31, .invokevirtual 60, 3), (34, .istore 5, 2), (36, .aload_n 0, 1), (37, .iload_n 3, 1), (38, .iload 5, 2), (40, .invokevirtual 64, 3), (43, .ifCond .eq 5, 3), (46, .iconst 1, 1), (47, .ireturn, 1), (48, .iinc 4 1, 3), (51, .goto (-38), 3), (54, .iconst 0, 1), (55, .ireturn, 1)]
theorem kX0_isAlikeToOneOf_ok : lp_okc kX0_isAlikeToOneOf cX0_isAlikeToOneOf (some .boolean) = true := by decide +kernel
def kX0_countNext : lpC := [(0, .aload_n 2, 1), (1, .iconst 0, 1), (2, .invokestatic 67, 3), (5, .iconst 0, 1), (6, .istore_n 3, 1), (7, .iload_n 1, 1), (8, .istore 4, 2), (10, .iload 4, 2), (12, .aload_n 0, 1), (13, .getfield 24, 3), (16, .if_icmp .ge 43, 3), (19, .iload 4, 2), (21, .iload_n 1, 1), (22, .if_icmp .eq 12, 3), (25, .aload_n 0, 1), (26, .iload 4, 2), (28, .invokevirtual 52, 3), (31, .ifCond .ne 28, 3), (34, .aload_n 2, 1), (35, .aload_n 0, 1), (36, .getfield 9, 3), (39, .iload 4, 2), (41, .iaload, 1), (42, .bipush 11, 2), (44, .irem, 1), (45, .dup2, 1), (46, .iaload, 1), (47, .iconst 1, 1), (48, .iadd, 1), (49, .iastore, 1), (50, .iinc 3 1, 3), (53, .iinc 4 1, 3), (56, .goto (-46), 3), (59, .iload_n 3, 1), (60, .ireturn, 1)]
theorem kX0_countNext_ok : lp_okc kX0_countNext cX0_countNext (some .int) = true := by decide +kernel
def kX0_areInProportion : lpC := [(0, .iconst 0, 1), (1, .istore_n 3, 1), (2, .iload_n 3, 1), (3, .bipush 11, 2), (5, .if_icmp .ge 30, 3), (8, .aload_n 0, 1), (9, .getfield 18, 3), (12, .iload_n 3, 1), (13, .iaload, 1), (14, .iload_n 2, 1), (15, .imul, 1), (16, .aload_n 0, 1), (17, .getfield 21, 3), (20, .iload_n 3, 1), (21, .iaload, 1), (22, .iload_n 1, 1), (23, .imul, 1), (24, .if_icmp .eq 5, 3), (27, .iconst 0, 1), (28, .ireturn, 1), (29, .iinc 3 1, 3), (32, .goto (-30), 3), (35, .iconst 1, 1), (36, .ireturn, 1)]
theorem kX0_areInProportion_ok : lp_okc kX0_areInProportion cX0_areInProportion (some .boolean) = true := by decide +kernel
def flX0 : List (Nat × Nat × Nat) := [(9, 0, 0), (15, 0, 1), (18, 0, 2), (21, 0, 3), (24, 0, 4), (28, 4, 3)]
theorem flX0_ok : flX0.all (lp_flb RX0) = true := by decide +kernel
def pfX0 : List (Nat × Nat × Nat) := [(24, 0, 4)]
theorem pfX0_ok : pfX0.all (lp_pfb RX0) = true := by decide +kernel
def kcX0 : List (Nat × Int32) := []
theorem kcX0_ok : kcX0.all (lp_kcb RX0) = true := by decide +kernel
theorem lkX0_31 : lp_lnb RX0 31 (some 0) 3 yX0_gatherFrom cX0_gatherFrom 8 none = true := by decide +kernel
theorem lkX0_35 : lp_lnb RX0 35 (some 0) 0 yX0_sort cX0_sort 5 none = true := by decide +kernel
theorem lkX0_38 : lp_lnb RX0 38 (some 4) 1 yX4_endOf cX4_endOf 2 (some .int) = true := by decide +kernel
theorem lkX0_42 : lp_lnb RX0 42 (some 4) 1 yX4_startOf cX4_startOf 2 (some .int) = true := by decide +kernel
theorem lkX0_45 : lp_lnb RX0 45 (some 4) 1 yX4_pageAt cX4_pageAt 2 (some .int) = true := by decide +kernel
theorem lkX0_48 : lp_lnb RX0 48 none 2 yX6_stepOf cX6_stepOf 2 (some .int) = true := by decide +kernel
theorem lkX0_52 : lp_lnb RX0 52 (some 0) 1 yX0_isFirstOfContext cX0_isFirstOfContext 2 (some .boolean) = true := by decide +kernel
theorem lkX0_56 : lp_lnb RX0 56 (some 0) 2 yX0_isAlikeToOneOf cX0_isAlikeToOneOf 6 (some .boolean) = true := by decide +kernel
theorem lkX0_60 : lp_lnb RX0 60 (some 0) 2 yX0_countNext cX0_countNext 5 (some .int) = true := by decide +kernel
theorem lkX0_64 : lp_lnb RX0 64 (some 0) 2 yX0_areInProportion cX0_areInProportion 4 (some .boolean) = true := by decide +kernel
theorem lkX0_67 : lp_lnb RX0 67 none 2 yJ7_fill_53178 cJ7_fill_53178 4 none = true := by decide +kernel
end
section
/-! ===== code and links of X1 ===== -/
def kX1_beginAnew : lpC := [(0, .aload_n 0, 1), (1, .getfield 21, 3), (4, .iconst 0, 1), (5, .invokestatic 24, 3), (8, .return_, 1)]
theorem kX1_beginAnew_ok : lp_okc kX1_beginAnew cX1_beginAnew none = true := by decide +kernel
def kX1_deal : lpC := [(0, .aload_n 0, 1), (1, .getfield 15, 3), (4, .invokestatic 30, 3), (7, .istore_n 1, 1), (8, .aload_n 0, 1), (9, .getfield 21, 3), (12, .invokestatic 30, 3), (15, .iconst 1, 1), (16, .iadd, 1), (17, .istore_n 2, 1), (18, .iconst (-1), 1), (19, .istore_n 3, 1), (20, .iconst 0, 1), (21, .istore 4, 2), (23, .iconst 0, 1), (24, .istore 5, 2), (26, .iload 5, 2), (28, .aload_n 0, 1), (29, .getfield 15, 3), (32, .arraylength, 1), (33, .if_icmp .ge 93, 3), (36, .aload_n 0, 1), (37, .getfield 15, 3), (40, .iload 5, 2), (42, .iaload, 1), (43, .ifCond .le 77, 3), (46, .aload_n 0, 1), (47, .getfield 21, 3), (50, .iload 5, 2), (52, .iaload, 1), (53, .iload_n 1, 1), (54, .imul, 1), (55, .aload_n 0, 1), (56, .getfield 15, 3), (59, .iload 5, 2), (61, .iaload, 1), (62, .idiv, 1), (63, .iload_n 2, 1), (64, .if_icmp .lt 6, 3), (67, .goto 53, 3), (70, .aload_n 0, 1), (71, .getfield 21, 3), (74, .iload 5, 2), (76, .iaload, 1), (77, .iconst 1, 1), (78, .iadd, 1), (79, .iload_n 1, 1), (80, .imul, 1), (81, .aload_n 0, 1), (82, .getfield 15, 3), (85, .iload 5, 2), (87, .iaload, 1), (88, .iadd, 1), (89, .iconst 1, 1), (90, .isub, 1), (91, .aload_n 0, 1), (92, .getfield 15, 3), (95, .iload 5, 2), (97, .iaload, 1), (98, .idiv, 1), (99, .istore 6, 2), (101, .iload_n 3, 1), (102, .iconst (-1), 1), (103, .if_icmp .eq 10, 3), (106, .iload 6, 2), (108, .iload 4, 2), (110, .if_icmp .ge 10, 3), (113, .iload 5, 2), (115, .istore_n 3, 1), (116, .iload 6, 2), (118, .istore 4, 2), (120, .iinc 5 1, 3), (123, .goto (-97), 3), (126, .iload_n 3, 1), (127, .iconst (-1), 1), (128, .if_icmp .eq 13, 3), (131, .aload_n 0, 1), (132, .getfield 21, 3), (135, .iload_n 3, 1), (136, .dup2, 1), (137, .iaload, 1), (138, .iconst 1, 1), (139, .iadd, 1), (140, .iastore, 1), (141, .iload_n 3, 1), (142, .ireturn, 1)]
theorem kX1_deal_ok : lp_okc kX1_deal cX1_deal (some .int) = true := by decide +kernel
def kX1_sumOf : lpC := [(0, .iconst 0, 1), (1, .istore_n 1, 1), (2, .aload_n 0, 1), (3, .astore_n 2, 1), (4, .aload_n 2, 1), (5, .arraylength, 1), (6, .istore_n 3, 1), (7, .iconst 0, 1), (8, .istore 4, 2), (10, .iload 4, 2), (12, .iload_n 3, 1), (13, .if_icmp .ge 20, 3), (16, .aload_n 2, 1), (17, .iload 4, 2), (19, .iaload, 1), (20, .istore 5, 2), (22, .iload_n 1, 1), (23, .iload 5, 2), (25, .iadd, 1), (26, .istore_n 1, 1), (27, .iinc 4 1, 3), (30, .goto (-20), 3), (33, .iload_n 1, 1), (34, .ireturn, 1)]
theorem kX1_sumOf_ok : lp_okc kX1_sumOf cX1_sumOf (some .int) = true := by decide +kernel
def flX1 : List (Nat × Nat × Nat) := [(15, 1, 0), (21, 1, 1)]
theorem flX1_ok : flX1.all (lp_flb RX1) = true := by decide +kernel
def pfX1 : List (Nat × Nat × Nat) := []
theorem pfX1_ok : pfX1.all (lp_pfb RX1) = true := by decide +kernel
def kcX1 : List (Nat × Int32) := []
theorem kcX1_ok : kcX1.all (lp_kcb RX1) = true := by decide +kernel
theorem lkX1_24 : lp_lnb RX1 24 none 2 yJ7_fill_53178 cJ7_fill_53178 4 none = true := by decide +kernel
theorem lkX1_30 : lp_lnb RX1 30 none 1 yX1_sumOf cX1_sumOf 6 (some .int) = true := by decide +kernel
end
section
/-! ===== code and links of X2 ===== -/
def kX2_forget : lpC := [(0, .aload_n 0, 1), (1, .getfield 9, 3), (4, .iconst 0, 1), (5, .invokestatic 24, 3), (8, .aload_n 0, 1), (9, .getfield 20, 3), (12, .astore_n 1, 1), (13, .aload_n 1, 1), (14, .arraylength, 1), (15, .istore_n 2, 1), (16, .iconst 0, 1), (17, .istore_n 3, 1), (18, .iload_n 3, 1), (19, .iload_n 2, 1), (20, .if_icmp .ge 28, 3), (23, .aload_n 1, 1), (24, .iload_n 3, 1), (25, .aaload, 1), (26, .astore 4, 2), (28, .aload 4, 2), (30, .ifnull 12, 3), (33, .aload 4, 2), (35, .getfield 30, 3), (38, .iconst 0, 1), (39, .invokestatic 24, 3), (42, .iinc 3 1, 3), (45, .goto (-27), 3), (48, .return_, 1)]
theorem kX2_forget_ok : lp_okc kX2_forget cX2_forget none = true := by decide +kernel
def kX2_lengthen : lpC := [(0, .iload_n 1, 1), (1, .invokestatic 33, 3), (4, .ifCond .eq 17, 3), (7, .iload_n 2, 1), (8, .invokestatic 37, 3), (11, .ifCond .eq 10, 3), (14, .iload_n 3, 1), (15, .invokestatic 40, 3), (18, .ifCond .ne 4, 3), (21, .return_, 1), (22, .iload_n 1, 1), (23, .bipush 10, 2), (25, .if_icmp .eq 18, 3), (28, .aload_n 0, 1), (29, .getfield 9, 3), (32, .iload_n 1, 1), (33, .bipush 10, 2), (35, .invokestatic 43, 3), (38, .dup2, 1), (39, .iaload, 1), (40, .iconst 1, 1), (41, .isub, 1), (42, .iastore, 1), (43, .iload_n 1, 1), (44, .iload_n 2, 1), (45, .invokestatic 43, 3), (48, .istore 4, 2), (50, .aload_n 0, 1), (51, .getfield 9, 3), (54, .iload 4, 2), (56, .dup2, 1), (57, .iaload, 1), (58, .iconst 1, 1), (59, .iadd, 1), (60, .iastore, 1), (61, .aload_n 0, 1), (62, .getfield 9, 3), (65, .iload_n 2, 1), (66, .bipush 10, 2), (68, .invokestatic 43, 3), (71, .dup2, 1), (72, .iaload, 1), (73, .iconst 1, 1), (74, .iadd, 1), (75, .iastore, 1), (76, .aload_n 0, 1), (77, .getfield 20, 3), (80, .iload 4, 2), (82, .aaload, 1), (83, .ifnonnull 19, 3), (86, .aload_n 0, 1), (87, .getfield 20, 3), (90, .iload 4, 2), (92, .new 18, 3), (95, .dup, 1), (96, .bipush 61, 2), (98, .invokespecial 47, 3), (101, .aastore, 1), (102, .aload_n 0, 1), (103, .getfield 20, 3), (106, .iload 4, 2), (108, .aaload, 1), (109, .getfield 30, 3), (112, .iload_n 3, 1), (113, .dup2, 1), (114, .iaload, 1), (115, .iconst 1, 1), (116, .iadd, 1), (117, .iastore, 1), (118, .return_, 1)]
theorem kX2_lengthen_ok : lp_okc kX2_lengthen cX2_lengthen none = true := by decide +kernel
def kX2_tellRare : lpC := [(0, .iload_n 1, 1), (1, .invokestatic 33, 3), (4, .ifCond .eq 20, 3), (7, .iload_n 2, 1), (8, .invokestatic 33, 3), (11, .ifCond .eq 13, 3), (14, .iload_n 3, 1), (15, .iconst 0, 1), (16, .bipush 100, 2), (18, .invokestatic 50, 3), (21, .ifCond .ne 5, 3), (24, .iconst 0, 1), (25, .ireturn, 1), (26, .aload_n 0, 1), (27, .getfield 15, 3), (30, .iload_n 1, 1), (31, .iload_n 2, 1), (32, .invokestatic 43, 3), (35, .iload_n 3, 1), (36, .iastore, 1), (37, .iconst 1, 1), (38, .ireturn, 1)]
theorem kX2_tellRare_ok : lp_okc kX2_tellRare cX2_tellRare (some .boolean) = true := by decide +kernel
def kX2_countOf : lpC := [(0, .iload_n 1, 1), (1, .invokestatic 33, 3), (4, .ifCond .eq 10, 3), (7, .iload_n 2, 1), (8, .invokestatic 33, 3), (11, .ifCond .ne 5, 3), (14, .iconst 0, 1), (15, .ireturn, 1), (16, .iload_n 1, 1), (17, .iload_n 2, 1), (18, .invokestatic 43, 3), (21, .istore_n 3, 1), (22, .aload_n 0, 1), (23, .getfield 9, 3), (26, .iload_n 3, 1), (27, .iaload, 1), (28, .ifCond .ne 7, 3), (31, .iconst 0, 1), (32, .goto 18, 3), (35, .aload_n 0, 1), (36, .getfield 9, 3), (39, .iload_n 3, 1), (40, .iaload, 1), (41, .aload_n 0, 1), (42, .getfield 15, 3), (45, .iload_n 3, 1), (46, .iaload, 1), (47, .invokestatic 54, 3), (50, .ireturn, 1)]
theorem kX2_countOf_ok : lp_okc kX2_countOf cX2_countOf (some .int) = true := by decide +kernel
def kX2_timesOfWait : lpC := [(0, .iload_n 1, 1), (1, .invokestatic 33, 3), (4, .ifCond .eq 17, 3), (7, .iload_n 2, 1), (8, .invokestatic 37, 3), (11, .ifCond .eq 10, 3), (14, .iload_n 3, 1), (15, .invokestatic 40, 3), (18, .ifCond .ne 5, 3), (21, .iconst 0, 1), (22, .ireturn, 1), (23, .aload_n 0, 1), (24, .getfield 20, 3), (27, .iload_n 1, 1), (28, .iload_n 2, 1), (29, .invokestatic 43, 3), (32, .aaload, 1), (33, .astore 4, 2), (35, .aload 4, 2), (37, .ifnonnull 7, 3), (40, .iconst 0, 1), (41, .goto 10, 3), (44, .aload 4, 2), (46, .getfield 30, 3), (49, .iload_n 3, 1), (50, .iaload, 1), (51, .ireturn, 1)]
theorem kX2_timesOfWait_ok : lp_okc kX2_timesOfWait cX2_timesOfWait (some .int) = true := by decide +kernel
def kX2_beginWaitsAnew : lpC := [(0, .aload_n 0, 1), (1, .getfield 20, 3), (4, .astore_n 1, 1), (5, .aload_n 1, 1), (6, .arraylength, 1), (7, .istore_n 2, 1), (8, .iconst 0, 1), (9, .istore_n 3, 1), (10, .iload_n 3, 1), (11, .iload_n 2, 1), (12, .if_icmp .ge 24, 3), (15, .aload_n 1, 1), (16, .iload_n 3, 1), (17, .aaload, 1), (18, .astore 4, 2), (20, .aload 4, 2), (22, .ifnull 8, 3), (25, .aload 4, 2), (27, .invokevirtual 59, 3), (30, .iinc 3 1, 3), (33, .goto (-23), 3), (36, .return_, 1)]
theorem kX2_beginWaitsAnew_ok : lp_okc kX2_beginWaitsAnew cX2_beginWaitsAnew none = true := by decide +kernel
def kX2_dealWait : lpC := [(0, .iload_n 1, 1), (1, .invokestatic 33, 3), (4, .ifCond .eq 10, 3), (7, .iload_n 2, 1), (8, .invokestatic 37, 3), (11, .ifCond .ne 5, 3), (14, .iconst (-1), 1), (15, .ireturn, 1), (16, .aload_n 0, 1), (17, .getfield 20, 3), (20, .iload_n 1, 1), (21, .iload_n 2, 1), (22, .invokestatic 43, 3), (25, .aaload, 1), (26, .astore_n 3, 1), (27, .aload_n 3, 1), (28, .ifnonnull 7, 3), (31, .iconst (-1), 1), (32, .goto 7, 3), (35, .aload_n 3, 1), (36, .invokevirtual 62, 3), (39, .ireturn, 1)]
theorem kX2_dealWait_ok : lp_okc kX2_dealWait cX2_dealWait (some .int) = true := by decide +kernel
def kX2_unlikeSteps : lpC := [(0, .iconst 0, 1), (1, .istore_n 1, 1), (2, .aload_n 0, 1), (3, .getfield 9, 3), (6, .astore_n 2, 1), (7, .aload_n 2, 1), (8, .arraylength, 1), (9, .istore_n 3, 1), (10, .iconst 0, 1), (11, .istore 4, 2), (13, .iload 4, 2), (15, .iload_n 3, 1), (16, .if_icmp .ge 23, 3), (19, .aload_n 2, 1), (20, .iload 4, 2), (22, .iaload, 1), (23, .istore 5, 2), (25, .iload 5, 2), (27, .ifCond .le 6, 3), (30, .iinc 1 1, 3), (33, .iinc 4 1, 3), (36, .goto (-23), 3), (39, .iload_n 1, 1), (40, .ireturn, 1)]
theorem kX2_unlikeSteps_ok : lp_okc kX2_unlikeSteps cX2_unlikeSteps (some .int) = true := by decide +kernel
def flX2 : List (Nat × Nat × Nat) := [(9, 2, 0), (15, 2, 1), (20, 2, 2), (30, 1, 0)]
theorem flX2_ok : flX2.all (lp_flb RX2) = true := by decide +kernel
def pfX2 : List (Nat × Nat × Nat) := []
theorem pfX2_ok : pfX2.all (lp_pfb RX2) = true := by decide +kernel
def kcX2 : List (Nat × Int32) := []
theorem kcX2_ok : kcX2.all (lp_kcb RX2) = true := by decide +kernel
theorem lkX2_24 : lp_lnb RX2 24 none 2 yJ7_fill_53178 cJ7_fill_53178 4 none = true := by decide +kernel
theorem lkX2_33 : lp_lnb RX2 33 none 1 yX6_isPlace cX6_isPlace 1 (some .boolean) = true := by decide +kernel
theorem lkX2_37 : lp_lnb RX2 37 none 1 yX6_isPage cX6_isPage 1 (some .boolean) = true := by decide +kernel
theorem lkX2_40 : lp_lnb RX2 40 none 1 yX6_isWait cX6_isWait 1 (some .boolean) = true := by decide +kernel
theorem lkX2_43 : lp_lnb RX2 43 none 2 yX6_stepOf cX6_stepOf 2 (some .int) = true := by decide +kernel
theorem lkX2_50 : lp_lnb RX2 50 none 3 yX6_isWithin cX6_isWithin 3 (some .boolean) = true := by decide +kernel
theorem lkX2_54 : lp_mxb RX2 54 = true := by decide +kernel
theorem lkX2_59 : lp_lnb RX2 59 (some 1) 0 yX1_beginAnew cX1_beginAnew 1 none = true := by decide +kernel
theorem lkX2_62 : lp_lnb RX2 62 (some 1) 0 yX1_deal cX1_deal 7 (some .int) = true := by decide +kernel
end
section
/-! ===== code and links of X3 ===== -/
def kX3_run : lpC := [(0, .aload_n 0, 1), (1, .iload_n 1, 1), (2, .iload_n 2, 1), (3, .invokevirtual 40, 3), (6, .iconst 0, 1), (7, .istore 4, 2), (9, .iload 4, 2), (11, .aload_n 0, 1), (12, .getfield 12, 3), (15, .invokevirtual 44, 3), (18, .if_icmp .ge 65, 3), (21, .aload_n 0, 1), (22, .invokevirtual 48, 3), (25, .istore 5, 2), (27, .iload 5, 2), (29, .iconst (-1), 1), (30, .if_icmp .ne 4, 3), (33, .return_, 1), (34, .aload_n 0, 1), (35, .getfield 12, 3), (38, .aload_n 0, 1), (39, .getfield 31, 3), (42, .iload 5, 2), (44, .iaload, 1), (45, .invokevirtual 51, 3), (48, .istore 6, 2), (50, .aload_n 0, 1), (51, .iload 5, 2), (53, .iload 6, 2), (55, .iconst 0, 1), (56, .aload_n 3, 1), (57, .arraylength, 1), (58, .iconst 1, 1), (59, .isub, 1), (60, .invokestatic 55, 3), (63, .ifCond .eq 10, 3), (66, .aload_n 3, 1), (67, .iload 6, 2), (69, .iaload, 1), (70, .goto 4, 3), (73, .iconst 1, 1), (74, .invokevirtual 59, 3), (77, .iinc 4 1, 3), (80, .goto (-71), 3), (83, .return_, 1)]
theorem kX3_run_ok : lp_okc kX3_run cX3_run none = true := by decide +kernel
def kX3_begin : lpC := [(0, .aload_n 0, 1), (1, .iload_n 2, 1), (2, .bipush 8, 2), (4, .invokestatic 62, 3), (7, .putfield 68, 3), (10, .aload_n 0, 1), (11, .getfield 37, 3), (14, .iconst 0, 1), (15, .invokestatic 72, 3), (18, .aload_n 0, 1), (19, .iconst 0, 1), (20, .putfield 78, 3), (23, .aload_n 0, 1), (24, .iconst 0, 1), (25, .putfield 81, 3), (28, .aload_n 0, 1), (29, .iconst 0, 1), (30, .putfield 84, 3), (33, .aload_n 0, 1), (34, .iconst 0, 1), (35, .putfield 87, 3), (38, .iconst 0, 1), (39, .istore_n 3, 1), (40, .iload_n 3, 1), (41, .aload_n 0, 1), (42, .getfield 12, 3), (45, .getfield 90, 3), (48, .if_icmp .ge 46, 3), (51, .aload_n 0, 1), (52, .getfield 31, 3), (55, .iload_n 3, 1), (56, .aload_n 0, 1), (57, .getfield 12, 3), (60, .iload_n 3, 1), (61, .invokevirtual 93, 3), (64, .iastore, 1), (65, .aload_n 0, 1), (66, .getfield 34, 3), (69, .iload_n 3, 1), (70, .iload_n 3, 1), (71, .iload_n 1, 1), (72, .imul, 1), (73, .aload_n 0, 1), (74, .getfield 12, 3), (77, .aload_n 0, 1), (78, .getfield 31, 3), (81, .iload_n 3, 1), (82, .iaload, 1), (83, .invokevirtual 96, 3), (86, .iadd, 1), (87, .iastore, 1), (88, .iinc 3 1, 3), (91, .goto (-51), 3), (94, .return_, 1)]
theorem kX3_begin_ok : lp_okc kX3_begin cX3_begin none = true := by decide +kernel
def kX3_visitDueFirst : lpC := [(0, .iconst (-1), 1), (1, .istore_n 1, 1), (2, .iconst 0, 1), (3, .istore_n 2, 1), (4, .iload_n 2, 1), (5, .aload_n 0, 1), (6, .getfield 12, 3), (9, .getfield 90, 3), (12, .if_icmp .ge 58, 3), (15, .aload_n 0, 1), (16, .getfield 31, 3), (19, .iload_n 2, 1), (20, .iaload, 1), (21, .aload_n 0, 1), (22, .getfield 12, 3), (25, .iload_n 2, 1), (26, .invokevirtual 99, 3), (29, .if_icmp .ge 7, 3), (32, .iconst 1, 1), (33, .goto 4, 3), (36, .iconst 0, 1), (37, .istore_n 3, 1), (38, .iload_n 3, 1), (39, .ifCond .eq 25, 3), (42, .iload_n 1, 1), (43, .iconst (-1), 1), (44, .if_icmp .eq 18, 3), (47, .aload_n 0, 1), (48, .getfield 34, 3), (51, .iload_n 2, 1), (52, .iaload, 1), (53, .aload_n 0, 1), (54, .getfield 34, 3), (57, .iload_n 1, 1), (58, .iaload, 1), (59, .if_icmp .ge 5, 3), (62, .iload_n 2, 1), (63, .istore_n 1, 1), (64, .iinc 2 1, 3), (67, .goto (-63), 3), (70, .iload_n 1, 1), (71, .ireturn, 1)]
theorem kX3_visitDueFirst_ok : lp_okc kX3_visitDueFirst cX3_visitDueFirst (some .int) = true := by decide +kernel
def kX3_serverFreeFirst : lpC := [(0, .iconst 0, 1), (1, .istore_n 1, 1), (2, .iconst 1, 1), (3, .istore_n 2, 1), (4, .iload_n 2, 1), (5, .aload_n 0, 1), (6, .getfield 68, 3), (9, .if_icmp .ge 26, 3), (12, .aload_n 0, 1), (13, .getfield 37, 3), (16, .iload_n 2, 1), (17, .iaload, 1), (18, .aload_n 0, 1), (19, .getfield 37, 3), (22, .iload_n 1, 1), (23, .iaload, 1), (24, .if_icmp .ge 5, 3), (27, .iload_n 2, 1), (28, .istore_n 1, 1), (29, .iinc 2 1, 3), (32, .goto (-28), 3), (35, .iload_n 1, 1), (36, .ireturn, 1)]
theorem kX3_serverFreeFirst_ok : lp_okc kX3_serverFreeFirst cX3_serverFreeFirst (some .int) = true := by decide +kernel
def kX3_serve : lpC := [(0, .aload_n 0, 1), (1, .getfield 31, 3), (4, .iload_n 1, 1), (5, .iaload, 1), (6, .istore_n 3, 1), (7, .aload_n 0, 1), (8, .invokevirtual 102, 3), (11, .istore 4, 2), (13, .aload_n 0, 1), (14, .getfield 18, 3), (17, .iload_n 3, 1), (18, .aload_n 0, 1), (19, .getfield 34, 3), (22, .iload_n 1, 1), (23, .iaload, 1), (24, .iastore, 1), (25, .aload_n 0, 1), (26, .getfield 22, 3), (29, .iload_n 3, 1), (30, .aload_n 0, 1), (31, .getfield 18, 3), (34, .iload_n 3, 1), (35, .iaload, 1), (36, .aload_n 0, 1), (37, .getfield 37, 3), (40, .iload 4, 2), (42, .iaload, 1), (43, .invokestatic 105, 3), (46, .iastore, 1), (47, .aload_n 0, 1), (48, .getfield 25, 3), (51, .iload_n 3, 1), (52, .aload_n 0, 1), (53, .getfield 22, 3), (56, .iload_n 3, 1), (57, .iaload, 1), (58, .iload_n 2, 1), (59, .iadd, 1), (60, .iastore, 1), (61, .aload_n 0, 1), (62, .getfield 28, 3), (65, .iload_n 3, 1), (66, .iload 4, 2), (68, .iastore, 1), (69, .aload_n 0, 1), (70, .getfield 37, 3), (73, .iload 4, 2), (75, .aload_n 0, 1), (76, .getfield 25, 3), (79, .iload_n 3, 1), (80, .iaload, 1), (81, .iastore, 1), (82, .aload_n 0, 1), (83, .aload_n 0, 1), (84, .getfield 84, 3), (87, .aload_n 0, 1), (88, .getfield 25, 3), (91, .iload_n 3, 1), (92, .iaload, 1), (93, .invokestatic 105, 3), (96, .putfield 84, 3), (99, .aload_n 0, 1), (100, .dup, 1), (101, .getfield 87, 3), (104, .iload_n 2, 1), (105, .iadd, 1), (106, .putfield 87, 3), (109, .aload_n 0, 1), (110, .aload_n 0, 1), (111, .getfield 18, 3), (114, .iload_n 3, 1), (115, .iaload, 1), (116, .aload_n 0, 1), (117, .getfield 22, 3), (120, .iload_n 3, 1), (121, .iaload, 1), (122, .invokevirtual 108, 3), (125, .aload_n 0, 1), (126, .getfield 31, 3), (129, .iload_n 1, 1), (130, .iload_n 3, 1), (131, .iconst 1, 1), (132, .iadd, 1), (133, .iastore, 1), (134, .aload_n 0, 1), (135, .getfield 34, 3), (138, .iload_n 1, 1), (139, .aload_n 0, 1), (140, .getfield 25, 3), (143, .iload_n 3, 1), (144, .iaload, 1), (145, .aload_n 0, 1), (146, .getfield 12, 3), (149, .iload_n 3, 1), (150, .iconst 1, 1), (151, .iadd, 1), (152, .invokevirtual 96, 3), (155, .iadd, 1), (156, .iastore, 1), (157, .return_, 1)]
theorem kX3_serve_ok : lp_okc kX3_serve cX3_serve none = true := by decide +kernel
def kX3_noteBehind : lpC := [(0, .aload_n 0, 1), (1, .iload_n 1, 1), (2, .aload_n 0, 1), (3, .getfield 78, 3), (6, .if_icmp .le 7, 3), (9, .iload_n 1, 1), (10, .goto 11, 3), (13, .aload_n 0, 1), (14, .getfield 81, 3), (17, .iload_n 1, 1), (18, .invokestatic 62, 3), (21, .putfield 81, 3), (24, .aload_n 0, 1), (25, .iload_n 2, 1), (26, .putfield 78, 3), (29, .return_, 1)]
theorem kX3_noteBehind_ok : lp_okc kX3_noteBehind cX3_noteBehind none = true := by decide +kernel
def kX3_fallsBehind : lpC := [(0, .aload_n 0, 1), (1, .getfield 81, 3), (4, .aload_n 0, 1), (5, .getfield 78, 3), (8, .if_icmp .ge 10, 3), (11, .aload_n 0, 1), (12, .getfield 81, 3), (15, .goto 4, 3), (18, .iconst (-1), 1), (19, .ireturn, 1)]
theorem kX3_fallsBehind_ok : lp_okc kX3_fallsBehind cX3_fallsBehind (some .int) = true := by decide +kernel
def kX3_tell : lpC := [(0, .iload_n 1, 1), (1, .iconst 0, 1), (2, .aload_n 0, 1), (3, .getfield 12, 3), (6, .invokevirtual 44, 3), (9, .iconst 1, 1), (10, .isub, 1), (11, .invokestatic 55, 3), (14, .ifCond .ne 5, 3), (17, .iconst (-1), 1), (18, .ireturn, 1), (19, .iload_n 2, 1), (20, .tableswitch 86 0 5 #[40, 49, 58, 65, 72, 79], 40), (60, .aload_n 0, 1), (61, .getfield 12, 3), (64, .iload_n 1, 1), (65, .invokevirtual 51, 3), (68, .ireturn, 1), (69, .aload_n 0, 1), (70, .getfield 12, 3), (73, .iload_n 1, 1), (74, .invokevirtual 96, 3), (77, .ireturn, 1), (78, .aload_n 0, 1), (79, .getfield 18, 3), (82, .iload_n 1, 1), (83, .iaload, 1), (84, .ireturn, 1), (85, .aload_n 0, 1), (86, .getfield 22, 3), (89, .iload_n 1, 1), (90, .iaload, 1), (91, .ireturn, 1), (92, .aload_n 0, 1), (93, .getfield 25, 3), (96, .iload_n 1, 1), (97, .iaload, 1), (98, .ireturn, 1), (99, .aload_n 0, 1), (100, .getfield 28, 3), (103, .iload_n 1, 1), (104, .iaload, 1), (105, .ireturn, 1), (106, .iconst (-1), 1), (107, .ireturn, 1)]
theorem kX3_tell_ok : lp_okc kX3_tell cX3_tell (some .int) = true := by decide +kernel
def kX3_longerThan : lpC := [(0, .iconst 0, 1), (1, .istore_n 3, 1), (2, .aload_n 0, 1), (3, .getfield 12, 3), (6, .iload_n 2, 1), (7, .invokevirtual 93, 3), (10, .istore 4, 2), (12, .iload 4, 2), (14, .aload_n 0, 1), (15, .getfield 12, 3), (18, .invokevirtual 44, 3), (21, .if_icmp .ge 31, 3), (24, .aload_n 0, 1), (25, .getfield 25, 3), (28, .iload 4, 2), (30, .iaload, 1), (31, .aload_n 0, 1), (32, .getfield 18, 3), (35, .iload 4, 2), (37, .iaload, 1), (38, .isub, 1), (39, .iload_n 1, 1), (40, .if_icmp .le 6, 3), (43, .iinc 3 1, 3), (46, .iinc 4 1, 3), (49, .goto (-37), 3), (52, .iload_n 3, 1), (53, .ireturn, 1)]
theorem kX3_longerThan_ok : lp_okc kX3_longerThan cX3_longerThan (some .int) = true := by decide +kernel
def kX3_leastTicks : lpC := [(0, .aload_n 0, 1), (1, .getfield 12, 3), (4, .invokevirtual 44, 3), (7, .aload_n 0, 1), (8, .getfield 12, 3), (11, .iload_n 2, 1), (12, .invokevirtual 93, 3), (15, .isub, 1), (16, .istore_n 3, 1), (17, .iload_n 3, 1), (18, .ifCond .gt 5, 3), (21, .iconst (-1), 1), (22, .ireturn, 1), (23, .iconst 0, 1), (24, .istore 4, 2), (26, .ldc 111, 2), (28, .istore 5, 2), (30, .iload 5, 2), (32, .ifCond .le 45, 3), (35, .iload_n 3, 1), (36, .aload_n 0, 1), (37, .iload 4, 2), (39, .iload 5, 2), (41, .iadd, 1), (42, .iload_n 2, 1), (43, .invokevirtual 112, 3), (46, .isub, 1), (47, .istore 6, 2), (49, .iload 6, 2), (51, .sipush 1000, 3), (54, .imul, 1), (55, .iload_n 1, 1), (56, .iload_n 3, 1), (57, .imul, 1), (58, .if_icmp .ge 10, 3), (61, .iload 4, 2), (63, .iload 5, 2), (65, .iadd, 1), (66, .istore 4, 2), (68, .iload 5, 2), (70, .iconst 2, 1), (71, .idiv, 1), (72, .istore 5, 2), (74, .goto (-44), 3), (77, .iload 4, 2), (79, .iconst 1, 1), (80, .iadd, 1), (81, .ireturn, 1)]
theorem kX3_leastTicks_ok : lp_okc kX3_leastTicks cX3_leastTicks (some .int) = true := by decide +kernel
def kX3_notBegunAt : lpC := [(0, .iconst 0, 1), (1, .istore_n 2, 1), (2, .iconst 0, 1), (3, .istore_n 3, 1), (4, .iload_n 3, 1), (5, .aload_n 0, 1), (6, .getfield 12, 3), (9, .invokevirtual 44, 3), (12, .if_icmp .ge 32, 3), (15, .aload_n 0, 1), (16, .getfield 18, 3), (19, .iload_n 3, 1), (20, .iaload, 1), (21, .iload_n 1, 1), (22, .if_icmp .gt 16, 3), (25, .aload_n 0, 1), (26, .getfield 22, 3), (29, .iload_n 3, 1), (30, .iaload, 1), (31, .iload_n 1, 1), (32, .if_icmp .le 6, 3), (35, .iinc 2 1, 3), (38, .iinc 3 1, 3), (41, .goto (-37), 3), (44, .iload_n 2, 1), (45, .ireturn, 1)]
theorem kX3_notBegunAt_ok : lp_okc kX3_notBegunAt cX3_notBegunAt (some .int) = true := by decide +kernel
def flX3 : List (Nat × Nat × Nat) := [(12, 3, 0), (18, 3, 1), (22, 3, 2), (25, 3, 3), (28, 3, 4), (31, 3, 5), (34, 3, 6), (37, 3, 7), (68, 3, 8), (78, 3, 9), (81, 3, 10), (84, 3, 11), (87, 3, 12), (90, 4, 3)]
theorem flX3_ok : flX3.all (lp_flb RX3) = true := by decide +kernel
def pfX3 : List (Nat × Nat × Nat) := [(68, 3, 8), (78, 3, 9), (81, 3, 10), (84, 3, 11), (87, 3, 12)]
theorem pfX3_ok : pfX3.all (lp_pfb RX3) = true := by decide +kernel
def kcX3 : List (Nat × Int32) := [(111, 524288)]
theorem kcX3_ok : kcX3.all (lp_kcb RX3) = true := by decide +kernel
theorem lkX3_40 : lp_lnb RX3 40 (some 3) 2 yX3_begin cX3_begin 4 none = true := by decide +kernel
theorem lkX3_44 : lp_lnb RX3 44 (some 4) 0 yX4_asks cX4_asks 1 (some .int) = true := by decide +kernel
theorem lkX3_48 : lp_lnb RX3 48 (some 3) 0 yX3_visitDueFirst cX3_visitDueFirst 4 (some .int) = true := by decide +kernel
theorem lkX3_51 : lp_lnb RX3 51 (some 4) 1 yX4_pageAt cX4_pageAt 2 (some .int) = true := by decide +kernel
theorem lkX3_55 : lp_lnb RX3 55 none 3 yX6_isWithin cX6_isWithin 3 (some .boolean) = true := by decide +kernel
theorem lkX3_59 : lp_lnb RX3 59 (some 3) 2 yX3_serve cX3_serve 5 none = true := by decide +kernel
theorem lkX3_62 : lp_mnb RX3 62 = true := by decide +kernel
theorem lkX3_72 : lp_lnb RX3 72 none 2 yJ7_fill_53178 cJ7_fill_53178 4 none = true := by decide +kernel
theorem lkX3_93 : lp_lnb RX3 93 (some 4) 1 yX4_startOf cX4_startOf 2 (some .int) = true := by decide +kernel
theorem lkX3_96 : lp_lnb RX3 96 (some 4) 1 yX4_waitAt cX4_waitAt 2 (some .int) = true := by decide +kernel
theorem lkX3_99 : lp_lnb RX3 99 (some 4) 1 yX4_endOf cX4_endOf 2 (some .int) = true := by decide +kernel
theorem lkX3_102 : lp_lnb RX3 102 (some 3) 0 yX3_serverFreeFirst cX3_serverFreeFirst 3 (some .int) = true := by decide +kernel
theorem lkX3_105 : lp_mxb RX3 105 = true := by decide +kernel
theorem lkX3_108 : lp_lnb RX3 108 (some 3) 2 yX3_noteBehind cX3_noteBehind 3 none = true := by decide +kernel
theorem lkX3_112 : lp_lnb RX3 112 (some 3) 2 yX3_longerThan cX3_longerThan 5 (some .int) = true := by decide +kernel
end
section
/-! ===== code and links of X4 ===== -/
def kX4_empty : lpC := [(0, .aload_n 0, 1), (1, .iconst 0, 1), (2, .putfield 21, 3), (5, .return_, 1)]
theorem kX4_empty_ok : lp_okc kX4_empty cX4_empty none = true := by decide +kernel
def kX4_open : lpC := [(0, .aload_n 0, 1), (1, .getfield 21, 3), (4, .bipush 60, 2), (6, .if_icmp .lt 5, 3), (9, .iconst (-1), 1), (10, .ireturn, 1), (11, .aload_n 0, 1), (12, .getfield 18, 3), (15, .aload_n 0, 1), (16, .getfield 21, 3), (19, .iconst 1, 1), (20, .iadd, 1), (21, .aload_n 0, 1), (22, .getfield 18, 3), (25, .aload_n 0, 1), (26, .getfield 21, 3), (29, .iaload, 1), (30, .iastore, 1), (31, .aload_n 0, 1), (32, .dup, 1), (33, .getfield 21, 3), (36, .iconst 1, 1), (37, .iadd, 1), (38, .putfield 21, 3), (41, .aload_n 0, 1), (42, .getfield 21, 3), (45, .iconst 1, 1), (46, .isub, 1), (47, .ireturn, 1)]
theorem kX4_open_ok : lp_okc kX4_open cX4_open (some .int) = true := by decide +kernel
def kX4_add : lpC := [(0, .aload_n 0, 1), (1, .aload_n 0, 1), (2, .getfield 21, 3), (5, .iconst 1, 1), (6, .isub, 1), (7, .invokevirtual 25, 3), (10, .istore_n 3, 1), (11, .iload_n 3, 1), (12, .iconst (-1), 1), (13, .if_icmp .eq 9, 3), (16, .iload_n 3, 1), (17, .bipush 20, 2), (19, .if_icmp .lt 5, 3), (22, .iconst (-1), 1), (23, .ireturn, 1), (24, .aload_n 0, 1), (25, .getfield 18, 3), (28, .aload_n 0, 1), (29, .getfield 21, 3), (32, .iaload, 1), (33, .istore 4, 2), (35, .aload_n 0, 1), (36, .getfield 9, 3), (39, .iload 4, 2), (41, .iload_n 1, 1), (42, .iastore, 1), (43, .aload_n 0, 1), (44, .getfield 15, 3), (47, .iload 4, 2), (49, .iload_n 2, 1), (50, .iastore, 1), (51, .aload_n 0, 1), (52, .getfield 18, 3), (55, .aload_n 0, 1), (56, .getfield 21, 3), (59, .iload 4, 2), (61, .iconst 1, 1), (62, .iadd, 1), (63, .iastore, 1), (64, .iload_n 3, 1), (65, .iconst 1, 1), (66, .iadd, 1), (67, .ireturn, 1)]
theorem kX4_add_ok : lp_okc kX4_add cX4_add (some .int) = true := by decide +kernel
def kX4_asks : lpC := [(0, .aload_n 0, 1), (1, .getfield 18, 3), (4, .aload_n 0, 1), (5, .getfield 21, 3), (8, .iaload, 1), (9, .ireturn, 1)]
theorem kX4_asks_ok : lp_okc kX4_asks cX4_asks (some .int) = true := by decide +kernel
def kX4_has : lpC := [(0, .iload_n 1, 1), (1, .iconst 0, 1), (2, .aload_n 0, 1), (3, .getfield 21, 3), (6, .iconst 1, 1), (7, .isub, 1), (8, .invokestatic 29, 3), (11, .ireturn, 1)]
theorem kX4_has_ok : lp_okc kX4_has cX4_has (some .boolean) = true := by decide +kernel
def kX4_startOf : lpC := [(0, .aload_n 0, 1), (1, .iload_n 1, 1), (2, .invokevirtual 33, 3), (5, .ifCond .eq 12, 3), (8, .aload_n 0, 1), (9, .getfield 18, 3), (12, .iload_n 1, 1), (13, .iaload, 1), (14, .goto 7, 3), (17, .aload_n 0, 1), (18, .invokevirtual 37, 3), (21, .ireturn, 1)]
theorem kX4_startOf_ok : lp_okc kX4_startOf cX4_startOf (some .int) = true := by decide +kernel
def kX4_endOf : lpC := [(0, .aload_n 0, 1), (1, .iload_n 1, 1), (2, .invokevirtual 33, 3), (5, .ifCond .eq 14, 3), (8, .aload_n 0, 1), (9, .getfield 18, 3), (12, .iload_n 1, 1), (13, .iconst 1, 1), (14, .iadd, 1), (15, .iaload, 1), (16, .goto 7, 3), (19, .aload_n 0, 1), (20, .invokevirtual 37, 3), (23, .ireturn, 1)]
theorem kX4_endOf_ok : lp_okc kX4_endOf cX4_endOf (some .int) = true := by decide +kernel
def kX4_lengthOf : lpC := [(0, .aload_n 0, 1), (1, .iload_n 1, 1), (2, .invokevirtual 33, 3), (5, .ifCond .eq 21, 3), (8, .aload_n 0, 1), (9, .getfield 18, 3), (12, .iload_n 1, 1), (13, .iconst 1, 1), (14, .iadd, 1), (15, .iaload, 1), (16, .aload_n 0, 1), (17, .getfield 18, 3), (20, .iload_n 1, 1), (21, .iaload, 1), (22, .isub, 1), (23, .goto 4, 3), (26, .iconst (-1), 1), (27, .ireturn, 1)]
theorem kX4_lengthOf_ok : lp_okc kX4_lengthOf cX4_lengthOf (some .int) = true := by decide +kernel
def kX4_slotOf : lpC := [(0, .iload_n 2, 1), (1, .iconst 0, 1), (2, .aload_n 0, 1), (3, .iload_n 1, 1), (4, .invokevirtual 25, 3), (7, .iconst 1, 1), (8, .isub, 1), (9, .invokestatic 29, 3), (12, .ifCond .eq 14, 3), (15, .aload_n 0, 1), (16, .getfield 18, 3), (19, .iload_n 1, 1), (20, .iaload, 1), (21, .iload_n 2, 1), (22, .iadd, 1), (23, .goto 4, 3), (26, .iconst (-1), 1), (27, .ireturn, 1)]
theorem kX4_slotOf_ok : lp_okc kX4_slotOf cX4_slotOf (some .int) = true := by decide +kernel
def kX4_pageAt : lpC := [(0, .iload_n 1, 1), (1, .iconst 0, 1), (2, .aload_n 0, 1), (3, .invokevirtual 37, 3), (6, .iconst 1, 1), (7, .isub, 1), (8, .invokestatic 29, 3), (11, .ifCond .eq 12, 3), (14, .aload_n 0, 1), (15, .getfield 9, 3), (18, .iload_n 1, 1), (19, .iaload, 1), (20, .goto 4, 3), (23, .iconst (-1), 1), (24, .ireturn, 1)]
theorem kX4_pageAt_ok : lp_okc kX4_pageAt cX4_pageAt (some .int) = true := by decide +kernel
def kX4_waitAt : lpC := [(0, .iload_n 1, 1), (1, .iconst 0, 1), (2, .aload_n 0, 1), (3, .invokevirtual 37, 3), (6, .iconst 1, 1), (7, .isub, 1), (8, .invokestatic 29, 3), (11, .ifCond .eq 12, 3), (14, .aload_n 0, 1), (15, .getfield 15, 3), (18, .iload_n 1, 1), (19, .iaload, 1), (20, .goto 4, 3), (23, .iconst (-1), 1), (24, .ireturn, 1)]
theorem kX4_waitAt_ok : lp_okc kX4_waitAt cX4_waitAt (some .int) = true := by decide +kernel
def kX4_lastPlace : lpC := [(0, .aload_n 0, 1), (1, .aload_n 0, 1), (2, .getfield 21, 3), (5, .iconst 1, 1), (6, .isub, 1), (7, .invokevirtual 25, 3), (10, .ifCond .le 17, 3), (13, .aload_n 0, 1), (14, .getfield 9, 3), (17, .aload_n 0, 1), (18, .invokevirtual 37, 3), (21, .iconst 1, 1), (22, .isub, 1), (23, .iaload, 1), (24, .goto 5, 3), (27, .bipush 10, 2), (29, .ireturn, 1)]
theorem kX4_lastPlace_ok : lp_okc kX4_lastPlace cX4_lastPlace (some .int) = true := by decide +kernel
def flX4 : List (Nat × Nat × Nat) := [(9, 4, 0), (15, 4, 1), (18, 4, 2), (21, 4, 3)]
theorem flX4_ok : flX4.all (lp_flb RX4) = true := by decide +kernel
def pfX4 : List (Nat × Nat × Nat) := [(21, 4, 3)]
theorem pfX4_ok : pfX4.all (lp_pfb RX4) = true := by decide +kernel
def kcX4 : List (Nat × Int32) := []
theorem kcX4_ok : kcX4.all (lp_kcb RX4) = true := by decide +kernel
theorem lkX4_25 : lp_lnb RX4 25 (some 4) 1 yX4_lengthOf cX4_lengthOf 2 (some .int) = true := by decide +kernel
theorem lkX4_29 : lp_lnb RX4 29 none 3 yX6_isWithin cX6_isWithin 3 (some .boolean) = true := by decide +kernel
theorem lkX4_33 : lp_lnb RX4 33 (some 4) 1 yX4_has cX4_has 2 (some .boolean) = true := by decide +kernel
theorem lkX4_37 : lp_lnb RX4 37 (some 4) 0 yX4_asks cX4_asks 1 (some .int) = true := by decide +kernel
end
section
/-! ===== code and links of X5 ===== -/
def kX5_dealWalks : lpC := [(0, .aload_n 1, 1), (1, .invokevirtual 20, 3), (4, .iconst 0, 1), (5, .istore 4, 2), (7, .iload 4, 2), (9, .bipush 11, 2), (11, .if_icmp .ge 56, 3), (14, .aload_n 0, 1), (15, .getfield 11, 3), (18, .iload 4, 2), (20, .aaload, 1), (21, .invokevirtual 25, 3), (24, .iconst 0, 1), (25, .istore 5, 2), (27, .iload 5, 2), (29, .bipush 11, 2), (31, .if_icmp .ge 30, 3), (34, .aload_n 0, 1), (35, .getfield 11, 3), (38, .iload 4, 2), (40, .aaload, 1), (41, .getfield 28, 3), (44, .iload 5, 2), (46, .aload_n 1, 1), (47, .iload 4, 2), (49, .iload 5, 2), (51, .invokevirtual 32, 3), (54, .iastore, 1), (55, .iinc 5 1, 3), (58, .goto (-31), 3), (61, .iinc 4 1, 3), (64, .goto (-57), 3), (67, .aload_n 2, 1), (68, .invokevirtual 36, 3), (71, .iconst 0, 1), (72, .istore 4, 2), (74, .iload 4, 2), (76, .iload_n 3, 1), (77, .if_icmp .ge 20, 3), (80, .aload_n 2, 1), (81, .invokevirtual 41, 3), (84, .pop, 1), (85, .aload_n 0, 1), (86, .aload_n 1, 1), (87, .aload_n 2, 1), (88, .invokevirtual 45, 3), (91, .iinc 4 1, 3), (94, .goto (-20), 3), (97, .return_, 1)]
theorem kX5_dealWalks_ok : lp_okc kX5_dealWalks cX5_dealWalks none = true := by decide +kernel
def kX5_dealWalk : lpC := [(0, .bipush 10, 2), (2, .istore_n 3, 1), (3, .iconst 0, 1), (4, .istore 4, 2), (6, .iload 4, 2), (8, .bipush 20, 2), (10, .if_icmp .ge 46, 3), (13, .aload_n 0, 1), (14, .getfield 11, 3), (17, .iload_n 3, 1), (18, .aaload, 1), (19, .invokevirtual 49, 3), (22, .istore 5, 2), (24, .iload 5, 2), (26, .invokestatic 52, 3), (29, .ifCond .ne 4, 3), (32, .return_, 1), (33, .aload_n 2, 1), (34, .iload 5, 2), (36, .aload_n 1, 1), (37, .iload_n 3, 1), (38, .iload 5, 2), (40, .invokevirtual 56, 3), (43, .invokevirtual 59, 3), (46, .pop, 1), (47, .iload 5, 2), (49, .istore_n 3, 1), (50, .iinc 4 1, 3), (53, .goto (-47), 3), (56, .return_, 1)]
theorem kX5_dealWalk_ok : lp_okc kX5_dealWalk cX5_dealWalk none = true := by decide +kernel
def kX5_timesOf : lpC := [(0, .iload_n 1, 1), (1, .invokestatic 62, 3), (4, .ifCond .eq 24, 3), (7, .iload_n 2, 1), (8, .invokestatic 62, 3), (11, .ifCond .eq 17, 3), (14, .aload_n 0, 1), (15, .getfield 11, 3), (18, .iload_n 1, 1), (19, .aaload, 1), (20, .getfield 65, 3), (23, .iload_n 2, 1), (24, .iaload, 1), (25, .goto 4, 3), (28, .iconst 0, 1), (29, .ireturn, 1)]
theorem kX5_timesOf_ok : lp_okc kX5_timesOf cX5_timesOf (some .int) = true := by decide +kernel
def flX5 : List (Nat × Nat × Nat) := [(11, 5, 0), (28, 1, 0), (65, 1, 1)]
theorem flX5_ok : flX5.all (lp_flb RX5) = true := by decide +kernel
def pfX5 : List (Nat × Nat × Nat) := []
theorem pfX5_ok : pfX5.all (lp_pfb RX5) = true := by decide +kernel
def kcX5 : List (Nat × Int32) := []
theorem kcX5_ok : kcX5.all (lp_kcb RX5) = true := by decide +kernel
theorem lkX5_20 : lp_lnb RX5 20 (some 2) 0 yX2_beginWaitsAnew cX2_beginWaitsAnew 5 none = true := by decide +kernel
theorem lkX5_25 : lp_lnb RX5 25 (some 1) 0 yX1_beginAnew cX1_beginAnew 1 none = true := by decide +kernel
theorem lkX5_32 : lp_lnb RX5 32 (some 2) 2 yX2_countOf cX2_countOf 4 (some .int) = true := by decide +kernel
theorem lkX5_36 : lp_lnb RX5 36 (some 4) 0 yX4_empty cX4_empty 1 none = true := by decide +kernel
theorem lkX5_41 : lp_lnb RX5 41 (some 4) 0 yX4_open cX4_open 1 (some .int) = true := by decide +kernel
theorem lkX5_45 : lp_lnb RX5 45 (some 5) 2 yX5_dealWalk cX5_dealWalk 6 none = true := by decide +kernel
theorem lkX5_49 : lp_lnb RX5 49 (some 1) 0 yX1_deal cX1_deal 7 (some .int) = true := by decide +kernel
theorem lkX5_52 : lp_lnb RX5 52 none 1 yX6_isPage cX6_isPage 1 (some .boolean) = true := by decide +kernel
theorem lkX5_56 : lp_lnb RX5 56 (some 2) 2 yX2_dealWait cX2_dealWait 4 (some .int) = true := by decide +kernel
theorem lkX5_59 : lp_lnb RX5 59 (some 4) 2 yX4_add cX4_add 5 (some .int) = true := by decide +kernel
theorem lkX5_62 : lp_lnb RX5 62 none 1 yX6_isPlace cX6_isPlace 1 (some .boolean) = true := by decide +kernel
end
section
/-! ===== code and links of X6 ===== -/
def kX6_visit : lpC := [(0, .aload_n 0, 1), (1, .getfield 12, 3), (4, .invokevirtual 54, 3), (7, .ireturn, 1)]
theorem kX6_visit_ok : lp_okc kX6_visit cX6_visit (some .int) = true := by decide +kernel
def kX6_ask : lpC := [(0, .iload_n 1, 1), (1, .invokestatic 58, 3), (4, .ifCond .eq 10, 3), (7, .iload_n 2, 1), (8, .invokestatic 62, 3), (11, .ifCond .ne 5, 3), (14, .iconst (-1), 1), (15, .ireturn, 1), (16, .aload_n 0, 1), (17, .iload_n 1, 1), (18, .iload_n 2, 1), (19, .invokevirtual 65, 3), (22, .ireturn, 1)]
theorem kX6_ask_ok : lp_okc kX6_ask cX6_ask (some .int) = true := by decide +kernel
def kX6_clear : lpC := [(0, .aload_n 0, 1), (1, .getfield 12, 3), (4, .invokevirtual 69, 3), (7, .aload_n 0, 1), (8, .getfield 19, 3), (11, .invokevirtual 72, 3), (14, .return_, 1)]
theorem kX6_clear_ok : lp_okc kX6_clear cX6_clear none = true := by decide +kernel
def kX6_steps : lpC := [(0, .aload_n 0, 1), (1, .getfield 19, 3), (4, .iload_n 1, 1), (5, .iload_n 2, 1), (6, .invokevirtual 75, 3), (9, .ireturn, 1)]
theorem kX6_steps_ok : lp_okc kX6_steps cX6_steps (some .int) = true := by decide +kernel
def kX6_waits : lpC := [(0, .aload_n 0, 1), (1, .getfield 19, 3), (4, .iload_n 1, 1), (5, .iload_n 2, 1), (6, .iload_n 3, 1), (7, .invokevirtual 78, 3), (10, .ireturn, 1)]
theorem kX6_waits_ok : lp_okc kX6_waits cX6_waits (some .int) = true := by decide +kernel
def kX6_rare : lpC := [(0, .aload_n 0, 1), (1, .getfield 19, 3), (4, .iload_n 1, 1), (5, .iload_n 2, 1), (6, .iload_n 3, 1), (7, .invokevirtual 82, 3), (10, .ireturn, 1)]
theorem kX6_rare_ok : lp_okc kX6_rare cX6_rare (some .boolean) = true := by decide +kernel
def kX6_cost : lpC := [(0, .iload_n 1, 1), (1, .invokestatic 58, 3), (4, .ifCond .eq 13, 3), (7, .iload_n 2, 1), (8, .iconst 1, 1), (9, .bipush 50, 2), (11, .invokestatic 86, 3), (14, .ifCond .ne 5, 3), (17, .iconst 0, 1), (18, .ireturn, 1), (19, .aload_n 0, 1), (20, .getfield 30, 3), (23, .iload_n 1, 1), (24, .iload_n 2, 1), (25, .iastore, 1), (26, .iconst 1, 1), (27, .ireturn, 1)]
theorem kX6_cost_ok : lp_okc kX6_cost cX6_cost (some .boolean) = true := by decide +kernel
def kX6_contexts : lpC := [(0, .iload_n 1, 1), (1, .iconst 1, 1), (2, .iconst 4, 1), (3, .invokestatic 86, 3), (6, .ifCond .ne 5, 3), (9, .iconst (-1), 1), (10, .ireturn, 1), (11, .aload_n 0, 1), (12, .getfield 26, 3), (15, .aload_n 0, 1), (16, .getfield 12, 3), (19, .iload_n 1, 1), (20, .invokevirtual 89, 3), (23, .aload_n 0, 1), (24, .getfield 26, 3), (27, .invokevirtual 93, 3), (30, .ireturn, 1)]
theorem kX6_contexts_ok : lp_okc kX6_contexts cX6_contexts (some .int) = true := by decide +kernel
def kX6_states : lpC := [(0, .iload_n 1, 1), (1, .iconst 1, 1), (2, .iconst 4, 1), (3, .invokestatic 86, 3), (6, .ifCond .ne 5, 3), (9, .iconst (-1), 1), (10, .ireturn, 1), (11, .aload_n 0, 1), (12, .getfield 26, 3), (15, .aload_n 0, 1), (16, .getfield 12, 3), (19, .iload_n 1, 1), (20, .invokevirtual 89, 3), (23, .aload_n 0, 1), (24, .getfield 26, 3), (27, .invokevirtual 96, 3), (30, .ireturn, 1)]
theorem kX6_states_ok : lp_okc kX6_states cX6_states (some .int) = true := by decide +kernel
def kX6_press : lpC := [(0, .iload_n 1, 1), (1, .iconst 1, 1), (2, .bipush 60, 2), (4, .invokestatic 86, 3), (7, .ifCond .eq 27, 3), (10, .iload_n 2, 1), (11, .iconst 0, 1), (12, .bipush 100, 2), (14, .invokestatic 86, 3), (17, .ifCond .eq 17, 3), (20, .iload_n 3, 1), (21, .iconst 1, 1), (22, .bipush 8, 2), (24, .invokestatic 86, 3), (27, .ifCond .eq 7, 3), (30, .iconst 1, 1), (31, .goto 4, 3), (34, .iconst 0, 1), (35, .istore 4, 2), (37, .iload 4, 2), (39, .ifCond .eq 13, 3), (42, .aload_n 0, 1), (43, .getfield 12, 3), (46, .invokevirtual 99, 3), (49, .ifCond .ne 5, 3), (52, .iconst (-1), 1), (53, .ireturn, 1), (54, .aload_n 0, 1), (55, .getfield 43, 3), (58, .aload_n 0, 1), (59, .getfield 19, 3), (62, .aload_n 0, 1), (63, .getfield 50, 3), (66, .getfield 102, 3), (69, .iload_n 1, 1), (70, .invokevirtual 105, 3), (73, .aload_n 0, 1), (74, .getfield 50, 3), (77, .iload_n 2, 1), (78, .iload_n 3, 1), (79, .aload_n 0, 1), (80, .getfield 30, 3), (83, .invokevirtual 109, 3), (86, .aload_n 0, 1), (87, .getfield 50, 3), (90, .getfield 102, 3), (93, .invokevirtual 99, 3), (96, .ireturn, 1)]
theorem kX6_press_ok : lp_okc kX6_press cX6_press (some .int) = true := by decide +kernel
def kX6_walked : lpC := [(0, .aload_n 0, 1), (1, .getfield 50, 3), (4, .getfield 102, 3), (7, .iload_n 1, 1), (8, .invokevirtual 113, 3), (11, .ireturn, 1)]
theorem kX6_walked_ok : lp_okc kX6_walked cX6_walked (some .int) = true := by decide +kernel
def kX6_told : lpC := [(0, .aload_n 0, 1), (1, .getfield 50, 3), (4, .aload_n 0, 1), (5, .getfield 50, 3), (8, .getfield 102, 3), (11, .iload_n 1, 1), (12, .iload_n 2, 1), (13, .invokevirtual 117, 3), (16, .iload_n 3, 1), (17, .invokevirtual 120, 3), (20, .ireturn, 1)]
theorem kX6_told_ok : lp_okc kX6_told cX6_told (some .int) = true := by decide +kernel
def kX6_dealt : lpC := [(0, .aload_n 0, 1), (1, .getfield 43, 3), (4, .iload_n 1, 1), (5, .iload_n 2, 1), (6, .invokevirtual 123, 3), (9, .ireturn, 1)]
theorem kX6_dealt_ok : lp_okc kX6_dealt cX6_dealt (some .int) = true := by decide +kernel
def kX6_part : lpC := [(0, .iload_n 1, 1), (1, .iconst 1, 1), (2, .sipush 1000, 3), (5, .invokestatic 86, 3), (8, .ifCond .eq 17, 3), (11, .aload_n 0, 1), (12, .getfield 50, 3), (15, .getfield 102, 3), (18, .iload_n 2, 1), (19, .invokevirtual 126, 3), (22, .ifCond .ne 5, 3), (25, .iconst (-1), 1), (26, .ireturn, 1), (27, .aload_n 0, 1), (28, .getfield 50, 3), (31, .iload_n 1, 1), (32, .iload_n 2, 1), (33, .invokevirtual 129, 3), (36, .ireturn, 1)]
theorem kX6_part_ok : lp_okc kX6_part cX6_part (some .int) = true := by decide +kernel
def kX6_late : lpC := [(0, .iload_n 1, 1), (1, .iconst 0, 1), (2, .ldc 132, 2), (4, .invokestatic 86, 3), (7, .ifCond .eq 17, 3), (10, .aload_n 0, 1), (11, .getfield 50, 3), (14, .getfield 102, 3), (17, .iload_n 2, 1), (18, .invokevirtual 126, 3), (21, .ifCond .ne 5, 3), (24, .iconst (-1), 1), (25, .ireturn, 1), (26, .aload_n 0, 1), (27, .getfield 50, 3), (30, .iload_n 1, 1), (31, .iload_n 2, 1), (32, .invokevirtual 133, 3), (35, .ireturn, 1)]
theorem kX6_late_ok : lp_okc kX6_late cX6_late (some .int) = true := by decide +kernel
def kX6_behind : lpC := [(0, .aload_n 0, 1), (1, .getfield 50, 3), (4, .invokevirtual 136, 3), (7, .ireturn, 1)]
theorem kX6_behind_ok : lp_okc kX6_behind cX6_behind (some .int) = true := by decide +kernel
def kX6_waiting : lpC := [(0, .iload_n 1, 1), (1, .iconst 0, 1), (2, .ldc 132, 2), (4, .invokestatic 86, 3), (7, .ifCond .eq 16, 3), (10, .aload_n 0, 1), (11, .getfield 50, 3), (14, .getfield 102, 3), (17, .getfield 139, 3), (20, .ifCond .ne 5, 3), (23, .iconst (-1), 1), (24, .ireturn, 1), (25, .aload_n 0, 1), (26, .getfield 50, 3), (29, .iload_n 1, 1), (30, .invokevirtual 143, 3), (33, .ireturn, 1)]
theorem kX6_waiting_ok : lp_okc kX6_waiting cX6_waiting (some .int) = true := by decide +kernel
def kX6_learn : lpC := [(0, .aload_n 0, 1), (1, .getfield 50, 3), (4, .getfield 102, 3), (7, .getfield 139, 3), (10, .ifCond .ne 5, 3), (13, .iconst (-1), 1), (14, .ireturn, 1), (15, .aload_n 0, 1), (16, .invokevirtual 146, 3), (19, .iconst 0, 1), (20, .istore_n 1, 1), (21, .iload_n 1, 1), (22, .aload_n 0, 1), (23, .getfield 50, 3), (26, .getfield 102, 3), (29, .getfield 139, 3), (32, .if_icmp .ge 29, 3), (35, .aload_n 0, 1), (36, .getfield 12, 3), (39, .invokevirtual 54, 3), (42, .pop, 1), (43, .aload_n 0, 1), (44, .aload_n 0, 1), (45, .getfield 50, 3), (48, .getfield 102, 3), (51, .iload_n 1, 1), (52, .invokevirtual 149, 3), (55, .iinc 1 1, 3), (58, .goto (-37), 3), (61, .aload_n 0, 1), (62, .getfield 12, 3), (65, .invokevirtual 99, 3), (68, .ireturn, 1)]
theorem kX6_learn_ok : lp_okc kX6_learn cX6_learn (some .int) = true := by decide +kernel
def kX6_count : lpC := [(0, .iload_n 1, 1), (1, .tableswitch 105 0 6 #[43, 51, 59, 70, 81, 89, 97], 43), (44, .aload_n 0, 1), (45, .getfield 12, 3), (48, .getfield 139, 3), (51, .ireturn, 1), (52, .aload_n 0, 1), (53, .getfield 12, 3), (56, .invokevirtual 99, 3), (59, .ireturn, 1), (60, .aload_n 0, 1), (61, .getfield 50, 3), (64, .getfield 102, 3), (67, .getfield 139, 3), (70, .ireturn, 1), (71, .aload_n 0, 1), (72, .getfield 50, 3), (75, .getfield 102, 3), (78, .invokevirtual 99, 3), (81, .ireturn, 1), (82, .aload_n 0, 1), (83, .getfield 50, 3), (86, .getfield 152, 3), (89, .ireturn, 1), (90, .aload_n 0, 1), (91, .getfield 50, 3), (94, .getfield 155, 3), (97, .ireturn, 1), (98, .aload_n 0, 1), (99, .getfield 19, 3), (102, .invokevirtual 158, 3), (105, .ireturn, 1), (106, .iconst (-1), 1), (107, .ireturn, 1)]
theorem kX6_count_ok : lp_okc kX6_count cX6_count (some .int) = true := by decide +kernel
def kX6_note : lpC := [(0, .aload_n 0, 1), (1, .getfield 12, 3), (4, .invokevirtual 161, 3), (7, .istore_n 3, 1), (8, .aload_n 0, 1), (9, .getfield 12, 3), (12, .iload_n 1, 1), (13, .iload_n 2, 1), (14, .invokevirtual 164, 3), (17, .istore 4, 2), (19, .iload 4, 2), (21, .iconst (-1), 1), (22, .if_icmp .eq 13, 3), (25, .aload_n 0, 1), (26, .getfield 19, 3), (29, .iload_n 3, 1), (30, .iload_n 1, 1), (31, .iload_n 2, 1), (32, .invokevirtual 167, 3), (35, .iload 4, 2), (37, .ireturn, 1)]
theorem kX6_note_ok : lp_okc kX6_note cX6_note (some .int) = true := by decide +kernel
def kX6_noteAsks : lpC := [(0, .aload_n 1, 1), (1, .iload_n 2, 1), (2, .invokevirtual 171, 3), (5, .istore_n 3, 1), (6, .iload_n 3, 1), (7, .aload_n 1, 1), (8, .iload_n 2, 1), (9, .invokevirtual 174, 3), (12, .if_icmp .ge 24, 3), (15, .aload_n 0, 1), (16, .aload_n 1, 1), (17, .iload_n 3, 1), (18, .invokevirtual 177, 3), (21, .aload_n 1, 1), (22, .iload_n 3, 1), (23, .invokevirtual 180, 3), (26, .invokevirtual 65, 3), (29, .pop, 1), (30, .iinc 3 1, 3), (33, .goto (-27), 3), (36, .return_, 1)]
theorem kX6_noteAsks_ok : lp_okc kX6_noteAsks cX6_noteAsks none = true := by decide +kernel
def kX6_isWithin : lpC := [(0, .iload_n 0, 1), (1, .iload_n 1, 1), (2, .if_icmp .lt 12, 3), (5, .iload_n 0, 1), (6, .iload_n 2, 1), (7, .if_icmp .gt 7, 3), (10, .iconst 1, 1), (11, .goto 4, 3), (14, .iconst 0, 1), (15, .ireturn, 1)]
theorem kX6_isWithin_ok : lp_okc kX6_isWithin cX6_isWithin (some .boolean) = true := by decide +kernel
def kX6_isPage : lpC := [(0, .iload_n 0, 1), (1, .iconst 0, 1), (2, .bipush 9, 2), (4, .invokestatic 86, 3), (7, .ireturn, 1)]
theorem kX6_isPage_ok : lp_okc kX6_isPage cX6_isPage (some .boolean) = true := by decide +kernel
def kX6_isPlace : lpC := [(0, .iload_n 0, 1), (1, .iconst 0, 1), (2, .bipush 10, 2), (4, .invokestatic 86, 3), (7, .ireturn, 1)]
theorem kX6_isPlace_ok : lp_okc kX6_isPlace cX6_isPlace (some .boolean) = true := by decide +kernel
def kX6_isWait : lpC := [(0, .iload_n 0, 1), (1, .iconst 0, 1), (2, .bipush 60, 2), (4, .invokestatic 86, 3), (7, .ireturn, 1)]
theorem kX6_isWait_ok : lp_okc kX6_isWait cX6_isWait (some .boolean) = true := by decide +kernel
def kX6_stepOf : lpC := [(0, .iload_n 0, 1), (1, .bipush 11, 2), (3, .imul, 1), (4, .iload_n 1, 1), (5, .iadd, 1), (6, .ireturn, 1)]
theorem kX6_stepOf_ok : lp_okc kX6_stepOf cX6_stepOf (some .int) = true := by decide +kernel
def flX6 : List (Nat × Nat × Nat) := [(12, 6, 0), (19, 6, 1), (26, 6, 2), (30, 6, 3), (43, 6, 4), (50, 6, 5), (102, 3, 0), (139, 4, 3), (152, 3, 11), (155, 3, 12)]
theorem flX6_ok : flX6.all (lp_flb RX6) = true := by decide +kernel
def pfX6 : List (Nat × Nat × Nat) := []
theorem pfX6_ok : pfX6.all (lp_pfb RX6) = true := by decide +kernel
def kcX6 : List (Nat × Int32) := [(132, 1000000)]
theorem kcX6_ok : kcX6.all (lp_kcb RX6) = true := by decide +kernel
theorem lkX6_54 : lp_lnb RX6 54 (some 4) 0 yX4_open cX4_open 1 (some .int) = true := by decide +kernel
theorem lkX6_58 : lp_lnb RX6 58 none 1 yX6_isPage cX6_isPage 1 (some .boolean) = true := by decide +kernel
theorem lkX6_62 : lp_lnb RX6 62 none 1 yX6_isWait cX6_isWait 1 (some .boolean) = true := by decide +kernel
theorem lkX6_65 : lp_lnb RX6 65 (some 6) 2 yX6_note cX6_note 5 (some .int) = true := by decide +kernel
theorem lkX6_69 : lp_lnb RX6 69 (some 4) 0 yX4_empty cX4_empty 1 none = true := by decide +kernel
theorem lkX6_72 : lp_lnb RX6 72 (some 2) 0 yX2_forget cX2_forget 5 none = true := by decide +kernel
theorem lkX6_75 : lp_lnb RX6 75 (some 2) 2 yX2_countOf cX2_countOf 4 (some .int) = true := by decide +kernel
theorem lkX6_78 : lp_lnb RX6 78 (some 2) 3 yX2_timesOfWait cX2_timesOfWait 5 (some .int) = true := by decide +kernel
theorem lkX6_82 : lp_lnb RX6 82 (some 2) 3 yX2_tellRare cX2_tellRare 4 (some .boolean) = true := by decide +kernel
theorem lkX6_86 : lp_lnb RX6 86 none 3 yX6_isWithin cX6_isWithin 3 (some .boolean) = true := by decide +kernel
theorem lkX6_89 : lp_lnb RX6 89 (some 0) 2 yX0_gather cX0_gather 4 none = true := by decide +kernel
theorem lkX6_93 : lp_lnb RX6 93 (some 0) 0 yX0_number cX0_number 3 (some .int) = true := by decide +kernel
theorem lkX6_96 : lp_lnb RX6 96 (some 0) 0 yX0_numberOfUnlike cX0_numberOfUnlike 3 (some .int) = true := by decide +kernel
theorem lkX6_99 : lp_lnb RX6 99 (some 4) 0 yX4_asks cX4_asks 1 (some .int) = true := by decide +kernel
theorem lkX6_105 : lp_lnb RX6 105 (some 5) 3 yX5_dealWalks cX5_dealWalks 6 none = true := by decide +kernel
theorem lkX6_109 : lp_lnb RX6 109 (some 3) 3 yX3_run cX3_run 7 none = true := by decide +kernel
theorem lkX6_113 : lp_lnb RX6 113 (some 4) 1 yX4_lengthOf cX4_lengthOf 2 (some .int) = true := by decide +kernel
theorem lkX6_117 : lp_lnb RX6 117 (some 4) 2 yX4_slotOf cX4_slotOf 3 (some .int) = true := by decide +kernel
theorem lkX6_120 : lp_lnb RX6 120 (some 3) 2 yX3_tell cX3_tell 3 (some .int) = true := by decide +kernel
theorem lkX6_123 : lp_lnb RX6 123 (some 5) 2 yX5_timesOf cX5_timesOf 3 (some .int) = true := by decide +kernel
theorem lkX6_126 : lp_lnb RX6 126 (some 4) 1 yX4_has cX4_has 2 (some .boolean) = true := by decide +kernel
theorem lkX6_129 : lp_lnb RX6 129 (some 3) 2 yX3_leastTicks cX3_leastTicks 7 (some .int) = true := by decide +kernel
theorem lkX6_133 : lp_lnb RX6 133 (some 3) 2 yX3_longerThan cX3_longerThan 5 (some .int) = true := by decide +kernel
theorem lkX6_136 : lp_lnb RX6 136 (some 3) 0 yX3_fallsBehind cX3_fallsBehind 1 (some .int) = true := by decide +kernel
theorem lkX6_143 : lp_lnb RX6 143 (some 3) 1 yX3_notBegunAt cX3_notBegunAt 4 (some .int) = true := by decide +kernel
theorem lkX6_146 : lp_lnb RX6 146 (some 6) 0 yX6_clear cX6_clear 1 none = true := by decide +kernel
theorem lkX6_149 : lp_lnb RX6 149 (some 6) 2 yX6_noteAsks cX6_noteAsks 4 none = true := by decide +kernel
theorem lkX6_158 : lp_lnb RX6 158 (some 2) 0 yX2_unlikeSteps cX2_unlikeSteps 6 (some .int) = true := by decide +kernel
theorem lkX6_161 : lp_lnb RX6 161 (some 4) 0 yX4_lastPlace cX4_lastPlace 1 (some .int) = true := by decide +kernel
theorem lkX6_164 : lp_lnb RX6 164 (some 4) 2 yX4_add cX4_add 5 (some .int) = true := by decide +kernel
theorem lkX6_167 : lp_lnb RX6 167 (some 2) 3 yX2_lengthen cX2_lengthen 5 none = true := by decide +kernel
theorem lkX6_171 : lp_lnb RX6 171 (some 4) 1 yX4_startOf cX4_startOf 2 (some .int) = true := by decide +kernel
theorem lkX6_174 : lp_lnb RX6 174 (some 4) 1 yX4_endOf cX4_endOf 2 (some .int) = true := by decide +kernel
theorem lkX6_177 : lp_lnb RX6 177 (some 4) 1 yX4_pageAt cX4_pageAt 2 (some .int) = true := by decide +kernel
theorem lkX6_180 : lp_lnb RX6 180 (some 4) 1 yX4_waitAt cX4_waitAt 2 (some .int) = true := by decide +kernel
end
section
/-! ===== code and links of X7 ===== -/
def kX7_in : lpC := [(0, .iload_n 0, 1), (1, .iload_n 1, 1), (2, .if_icmp .lt 12, 3), (5, .iload_n 0, 1), (6, .iload_n 2, 1), (7, .if_icmp .gt 7, 3), (10, .iconst 1, 1), (11, .goto 4, 3), (14, .iconst 0, 1), (15, .ireturn, 1)]
theorem kX7_in_ok : lp_okc kX7_in cX7_in (some .boolean) = true := by decide +kernel
def kX7_visit : lpC := [(0, .aload_n 0, 1), (1, .getfield 70, 3), (4, .bipush 60, 2), (6, .if_icmp .ne 5, 3), (9, .iconst (-1), 1), (10, .ireturn, 1), (11, .aload_n 0, 1), (12, .getfield 9, 3), (15, .aload_n 0, 1), (16, .getfield 70, 3), (19, .iconst 0, 1), (20, .iastore, 1), (21, .aload_n 0, 1), (22, .dup, 1), (23, .getfield 70, 3), (26, .iconst 1, 1), (27, .iadd, 1), (28, .putfield 70, 3), (31, .aload_n 0, 1), (32, .getfield 70, 3), (35, .iconst 1, 1), (36, .isub, 1), (37, .ireturn, 1)]
theorem kX7_visit_ok : lp_okc kX7_visit cX7_visit (some .int) = true := by decide +kernel
def kX7_ask : lpC := [(0, .aload_n 0, 1), (1, .getfield 70, 3), (4, .ifCond .eq 39, 3), (7, .iload_n 1, 1), (8, .iconst 0, 1), (9, .bipush 9, 2), (11, .invokestatic 74, 3), (14, .ifCond .eq 29, 3), (17, .iload_n 2, 1), (18, .iconst 0, 1), (19, .bipush 60, 2), (21, .invokestatic 74, 3), (24, .ifCond .eq 19, 3), (27, .aload_n 0, 1), (28, .getfield 9, 3), (31, .aload_n 0, 1), (32, .getfield 70, 3), (35, .iconst 1, 1), (36, .isub, 1), (37, .iaload, 1), (38, .bipush 20, 2), (40, .if_icmp .ne 5, 3), (43, .iconst (-1), 1), (44, .ireturn, 1), (45, .aload_n 0, 1), (46, .getfield 70, 3), (49, .iconst 1, 1), (50, .isub, 1), (51, .istore_n 3, 1), (52, .aload_n 0, 1), (53, .getfield 13, 3), (56, .bipush 20, 2), (58, .iload_n 3, 1), (59, .imul, 1), (60, .aload_n 0, 1), (61, .getfield 9, 3), (64, .iload_n 3, 1), (65, .iaload, 1), (66, .iadd, 1), (67, .iload_n 1, 1), (68, .iastore, 1), (69, .aload_n 0, 1), (70, .getfield 16, 3), (73, .bipush 20, 2), (75, .iload_n 3, 1), (76, .imul, 1), (77, .aload_n 0, 1), (78, .getfield 9, 3), (81, .iload_n 3, 1), (82, .iaload, 1), (83, .iadd, 1), (84, .iload_n 2, 1), (85, .iastore, 1), (86, .aload_n 0, 1), (87, .getfield 9, 3), (90, .iload_n 3, 1), (91, .dup2, 1), (92, .iaload, 1), (93, .iconst 1, 1), (94, .iadd, 1), (95, .iastore, 1), (96, .aload_n 0, 1), (97, .getfield 9, 3), (100, .iload_n 3, 1), (101, .iaload, 1), (102, .ireturn, 1)]
theorem kX7_ask_ok : lp_okc kX7_ask cX7_ask (some .int) = true := by decide +kernel
def kX7_clear : lpC := [(0, .aload_n 0, 1), (1, .iconst 0, 1), (2, .putfield 70, 3), (5, .return_, 1)]
theorem kX7_clear_ok : lp_okc kX7_clear cX7_clear none = true := by decide +kernel
def kX7_next : lpC := [(0, .iload_n 2, 1), (1, .aload_n 0, 1), (2, .getfield 9, 3), (5, .iload_n 1, 1), (6, .iaload, 1), (7, .if_icmp .ge 17, 3), (10, .aload_n 0, 1), (11, .getfield 13, 3), (14, .bipush 20, 2), (16, .iload_n 1, 1), (17, .imul, 1), (18, .iload_n 2, 1), (19, .iadd, 1), (20, .iaload, 1), (21, .goto 5, 3), (24, .bipush 10, 2), (26, .ireturn, 1)]
theorem kX7_next_ok : lp_okc kX7_next cX7_next (some .int) = true := by decide +kernel
def kX7_inLog : lpC := [(0, .iconst 0, 1), (1, .istore_n 3, 1), (2, .iconst 0, 1), (3, .istore 4, 2), (5, .iload 4, 2), (7, .aload_n 0, 1), (8, .getfield 70, 3), (11, .if_icmp .ge 93, 3), (14, .iconst 0, 1), (15, .istore 5, 2), (17, .iload 5, 2), (19, .aload_n 0, 1), (20, .getfield 9, 3), (23, .iload 4, 2), (25, .iaload, 1), (26, .if_icmp .gt 72, 3), (29, .aload_n 0, 1), (30, .getfield 9, 3), (33, .iload 4, 2), (35, .iaload, 1), (36, .ifCond .le 62, 3), (39, .iload 5, 2), (41, .ifCond .ne 8, 3), (44, .bipush 10, 2), (46, .goto 18, 3), (49, .aload_n 0, 1), (50, .getfield 13, 3), (53, .bipush 20, 2), (55, .iload 4, 2), (57, .imul, 1), (58, .iload 5, 2), (60, .iadd, 1), (61, .iconst 1, 1), (62, .isub, 1), (63, .iaload, 1), (64, .istore 6, 2), (66, .iload_n 3, 1), (67, .iload 6, 2), (69, .iload_n 1, 1), (70, .if_icmp .ne 19, 3), (73, .aload_n 0, 1), (74, .iload 4, 2), (76, .iload 5, 2), (78, .invokevirtual 78, 3), (81, .iload_n 2, 1), (82, .if_icmp .ne 7, 3), (85, .iconst 1, 1), (86, .goto 4, 3), (89, .iconst 0, 1), (90, .iadd, 1), (91, .istore_n 3, 1), (92, .iinc 5 1, 3), (95, .goto (-78), 3), (98, .iinc 4 1, 3), (101, .goto (-96), 3), (104, .iload_n 3, 1), (105, .ireturn, 1)]
theorem kX7_inLog_ok : lp_okc kX7_inLog cX7_inLog (some .int) = true := by decide +kernel
def kX7_arePlaces : lpC := [(0, .iload_n 0, 1), (1, .iconst 0, 1), (2, .bipush 10, 2), (4, .invokestatic 74, 3), (7, .ifCond .eq 17, 3), (10, .iload_n 1, 1), (11, .iconst 0, 1), (12, .bipush 10, 2), (14, .invokestatic 74, 3), (17, .ifCond .eq 7, 3), (20, .iconst 1, 1), (21, .goto 4, 3), (24, .iconst 0, 1), (25, .ireturn, 1)]
theorem kX7_arePlaces_ok : lp_okc kX7_arePlaces cX7_arePlaces (some .boolean) = true := by decide +kernel
def kX7_countOf : lpC := [(0, .aload_n 0, 1), (1, .iload_n 1, 1), (2, .iload_n 2, 1), (3, .invokevirtual 82, 3), (6, .istore_n 3, 1), (7, .iload_n 3, 1), (8, .ifCond .ne 7, 3), (11, .iconst 0, 1), (12, .goto 18, 3), (15, .iload_n 3, 1), (16, .aload_n 0, 1), (17, .getfield 19, 3), (20, .bipush 11, 2), (22, .iload_n 1, 1), (23, .imul, 1), (24, .iload_n 2, 1), (25, .iadd, 1), (26, .iaload, 1), (27, .invokestatic 85, 3), (30, .ireturn, 1)]
theorem kX7_countOf_ok : lp_okc kX7_countOf cX7_countOf (some .int) = true := by decide +kernel
def kX7_steps : lpC := [(0, .iload_n 1, 1), (1, .iload_n 2, 1), (2, .invokestatic 90, 3), (5, .ifCond .eq 12, 3), (8, .aload_n 0, 1), (9, .iload_n 1, 1), (10, .iload_n 2, 1), (11, .invokevirtual 94, 3), (14, .goto 4, 3), (17, .iconst 0, 1), (18, .ireturn, 1)]
theorem kX7_steps_ok : lp_okc kX7_steps cX7_steps (some .int) = true := by decide +kernel
def kX7_waitsOf : lpC := [(0, .iconst 0, 1), (1, .istore 4, 2), (3, .iconst 0, 1), (4, .istore 5, 2), (6, .iload 5, 2), (8, .aload_n 0, 1), (9, .getfield 70, 3), (12, .if_icmp .ge 107, 3), (15, .iconst 0, 1), (16, .istore 6, 2), (18, .iload 6, 2), (20, .aload_n 0, 1), (21, .getfield 9, 3), (24, .iload 5, 2), (26, .iaload, 1), (27, .if_icmp .ge 86, 3), (30, .iload 6, 2), (32, .ifCond .ne 8, 3), (35, .bipush 10, 2), (37, .goto 18, 3), (40, .aload_n 0, 1), (41, .getfield 13, 3), (44, .bipush 20, 2), (46, .iload 5, 2), (48, .imul, 1), (49, .iload 6, 2), (51, .iadd, 1), (52, .iconst 1, 1), (53, .isub, 1), (54, .iaload, 1), (55, .istore 7, 2), (57, .iload 4, 2), (59, .iload 7, 2), (61, .iload_n 1, 1), (62, .if_icmp .ne 41, 3), (65, .aload_n 0, 1), (66, .getfield 13, 3), (69, .bipush 20, 2), (71, .iload 5, 2), (73, .imul, 1), (74, .iload 6, 2), (76, .iadd, 1), (77, .iaload, 1), (78, .iload_n 2, 1), (79, .if_icmp .ne 24, 3), (82, .aload_n 0, 1), (83, .getfield 16, 3), (86, .bipush 20, 2), (88, .iload 5, 2), (90, .imul, 1), (91, .iload 6, 2), (93, .iadd, 1), (94, .iaload, 1), (95, .iload_n 3, 1), (96, .if_icmp .ne 7, 3), (99, .iconst 1, 1), (100, .goto 4, 3), (103, .iconst 0, 1), (104, .iadd, 1), (105, .istore 4, 2), (107, .iinc 6 1, 3), (110, .goto (-92), 3), (113, .iinc 5 1, 3), (116, .goto (-110), 3), (119, .iload 4, 2), (121, .ireturn, 1)]
theorem kX7_waitsOf_ok : lp_okc kX7_waitsOf cX7_waitsOf (some .int) = true := by decide +kernel
def kX7_waits : lpC := [(0, .iload_n 1, 1), (1, .iload_n 2, 1), (2, .invokestatic 90, 3), (5, .ifCond .eq 23, 3), (8, .iload_n 3, 1), (9, .iconst 0, 1), (10, .bipush 60, 2), (12, .invokestatic 74, 3), (15, .ifCond .eq 13, 3), (18, .aload_n 0, 1), (19, .iload_n 1, 1), (20, .iload_n 2, 1), (21, .iload_n 3, 1), (22, .invokevirtual 97, 3), (25, .goto 4, 3), (28, .iconst 0, 1), (29, .ireturn, 1)]
theorem kX7_waits_ok : lp_okc kX7_waits cX7_waits (some .int) = true := by decide +kernel
def kX7_rare : lpC := [(0, .iload_n 1, 1), (1, .iload_n 2, 1), (2, .invokestatic 90, 3), (5, .ifCond .eq 13, 3), (8, .iload_n 3, 1), (9, .iconst 0, 1), (10, .bipush 100, 2), (12, .invokestatic 74, 3), (15, .ifCond .ne 5, 3), (18, .iconst 0, 1), (19, .ireturn, 1), (20, .aload_n 0, 1), (21, .getfield 19, 3), (24, .bipush 11, 2), (26, .iload_n 1, 1), (27, .imul, 1), (28, .iload_n 2, 1), (29, .iadd, 1), (30, .iload_n 3, 1), (31, .iastore, 1), (32, .iconst 1, 1), (33, .ireturn, 1)]
theorem kX7_rare_ok : lp_okc kX7_rare cX7_rare (some .boolean) = true := by decide +kernel
def kX7_cost : lpC := [(0, .iload_n 1, 1), (1, .iconst 0, 1), (2, .bipush 9, 2), (4, .invokestatic 74, 3), (7, .ifCond .eq 13, 3), (10, .iload_n 2, 1), (11, .iconst 1, 1), (12, .bipush 50, 2), (14, .invokestatic 74, 3), (17, .ifCond .ne 5, 3), (20, .iconst 0, 1), (21, .ireturn, 1), (22, .aload_n 0, 1), (23, .getfield 22, 3), (26, .iload_n 1, 1), (27, .iload_n 2, 1), (28, .iastore, 1), (29, .iconst 1, 1), (30, .ireturn, 1)]
theorem kX7_cost_ok : lp_okc kX7_cost cX7_cost (some .boolean) = true := by decide +kernel
def kX7_findContexts : lpC := [(0, .aload_n 0, 1), (1, .iconst 0, 1), (2, .putfield 101, 3), (5, .iconst 0, 1), (6, .istore_n 2, 1), (7, .iload_n 2, 1), (8, .aload_n 0, 1), (9, .getfield 70, 3), (12, .if_icmp .ge 180, 3), (15, .iconst 0, 1), (16, .istore_n 3, 1), (17, .iload_n 3, 1), (18, .iload_n 1, 1), (19, .iadd, 1), (20, .aload_n 0, 1), (21, .getfield 9, 3), (24, .iload_n 2, 1), (25, .iaload, 1), (26, .if_icmp .gt 160, 3), (29, .iconst 0, 1), (30, .istore 4, 2), (32, .iconst 0, 1), (33, .istore 5, 2), (35, .iload 5, 2), (37, .iload_n 1, 1), (38, .if_icmp .ge 31, 3), (41, .bipush 10, 2), (43, .iload 4, 2), (45, .imul, 1), (46, .aload_n 0, 1), (47, .getfield 13, 3), (50, .bipush 20, 2), (52, .iload_n 2, 1), (53, .imul, 1), (54, .iload_n 3, 1), (55, .iadd, 1), (56, .iload 5, 2), (58, .iadd, 1), (59, .iaload, 1), (60, .iadd, 1), (61, .istore 4, 2), (63, .iinc 5 1, 3), (66, .goto (-31), 3), (69, .iconst 0, 1), (70, .istore 5, 2), (72, .iload 5, 2), (74, .aload_n 0, 1), (75, .getfield 101, 3), (78, .if_icmp .ge 21, 3), (81, .aload_n 0, 1), (82, .getfield 25, 3), (85, .iload 5, 2), (87, .iaload, 1), (88, .iload 4, 2), (90, .if_icmp .eq 9, 3), (93, .iinc 5 1, 3), (96, .goto (-24), 3), (99, .iload 5, 2), (101, .aload_n 0, 1), (102, .getfield 101, 3), (105, .if_icmp .ne 52, 3), (108, .aload_n 0, 1), (109, .getfield 25, 3), (112, .iload 5, 2), (114, .iload 4, 2), (116, .iastore, 1), (117, .iconst 0, 1), (118, .istore 6, 2), (120, .iload 6, 2), (122, .bipush 11, 2), (124, .if_icmp .ge 23, 3), (127, .aload_n 0, 1), (128, .getfield 28, 3), (131, .bipush 11, 2), (133, .iload 5, 2), (135, .imul, 1), (136, .iload 6, 2), (138, .iadd, 1), (139, .iconst 0, 1), (140, .iastore, 1), (141, .iinc 6 1, 3), (144, .goto (-24), 3), (147, .aload_n 0, 1), (148, .dup, 1), (149, .getfield 101, 3), (152, .iconst 1, 1), (153, .iadd, 1), (154, .putfield 101, 3), (157, .aload_n 0, 1), (158, .getfield 28, 3), (161, .bipush 11, 2), (163, .iload 5, 2), (165, .imul, 1), (166, .aload_n 0, 1), (167, .iload_n 2, 1), (168, .iload_n 3, 1), (169, .iload_n 1, 1), (170, .iadd, 1), (171, .invokevirtual 78, 3), (174, .iadd, 1), (175, .dup2, 1), (176, .iaload, 1), (177, .iconst 1, 1), (178, .iadd, 1), (179, .iastore, 1), (180, .iinc 3 1, 3), (183, .goto (-166), 3), (186, .iinc 2 1, 3), (189, .goto (-182), 3), (192, .return_, 1)]
theorem kX7_findContexts_ok : lp_okc kX7_findContexts cX7_findContexts none = true := by decide +kernel
def kX7_contexts : lpC := [(0, .iload_n 1, 1), (1, .iconst 1, 1), (2, .iconst 4, 1), (3, .invokestatic 74, 3), (6, .ifCond .ne 5, 3), (9, .iconst (-1), 1), (10, .ireturn, 1), (11, .aload_n 0, 1), (12, .iload_n 1, 1), (13, .invokevirtual 104, 3), (16, .aload_n 0, 1), (17, .getfield 101, 3), (20, .ireturn, 1)]
theorem kX7_contexts_ok : lp_okc kX7_contexts cX7_contexts (some .int) = true := by decide +kernel
def kX7_all : lpC := [(0, .iconst 0, 1), (1, .istore_n 2, 1), (2, .iconst 0, 1), (3, .istore_n 3, 1), (4, .iload_n 3, 1), (5, .bipush 11, 2), (7, .if_icmp .ge 23, 3), (10, .iload_n 2, 1), (11, .aload_n 0, 1), (12, .getfield 28, 3), (15, .bipush 11, 2), (17, .iload_n 1, 1), (18, .imul, 1), (19, .iload_n 3, 1), (20, .iadd, 1), (21, .iaload, 1), (22, .iadd, 1), (23, .istore_n 2, 1), (24, .iinc 3 1, 3), (27, .goto (-23), 3), (30, .iload_n 2, 1), (31, .ireturn, 1)]
theorem kX7_all_ok : lp_okc kX7_all cX7_all (some .int) = true := by decide +kernel
def kX7_areAlike : lpC := [(0, .aload_n 0, 1), (1, .iload_n 1, 1), (2, .invokevirtual 108, 3), (5, .istore_n 3, 1), (6, .aload_n 0, 1), (7, .iload_n 2, 1), (8, .invokevirtual 108, 3), (11, .istore 4, 2), (13, .iconst 0, 1), (14, .istore 5, 2), (16, .iload 5, 2), (18, .bipush 11, 2), (20, .if_icmp .ge 43, 3), (23, .aload_n 0, 1), (24, .getfield 28, 3), (27, .bipush 11, 2), (29, .iload_n 1, 1), (30, .imul, 1), (31, .iload 5, 2), (33, .iadd, 1), (34, .iaload, 1), (35, .iload 4, 2), (37, .imul, 1), (38, .aload_n 0, 1), (39, .getfield 28, 3), (42, .bipush 11, 2), (44, .iload_n 2, 1), (45, .imul, 1), (46, .iload 5, 2), (48, .iadd, 1), (49, .iaload, 1), (50, .iload_n 3, 1), (51, .imul, 1), (52, .if_icmp .eq 5, 3), (55, .iconst 0, 1), (56, .ireturn, 1), (57, .iinc 5 1, 3), (60, .goto (-44), 3), (63, .iconst 1, 1), (64, .ireturn, 1)]
theorem kX7_areAlike_ok : lp_okc kX7_areAlike cX7_areAlike (some .boolean) = true := by decide +kernel
def kX7_states : lpC := [(0, .iload_n 1, 1), (1, .iconst 1, 1), (2, .iconst 4, 1), (3, .invokestatic 74, 3), (6, .ifCond .ne 5, 3), (9, .iconst (-1), 1), (10, .ireturn, 1), (11, .aload_n 0, 1), (12, .iload_n 1, 1), (13, .invokevirtual 104, 3), (16, .iconst 0, 1), (17, .istore_n 2, 1), (18, .iconst 0, 1), (19, .istore_n 3, 1), (20, .iload_n 3, 1), (21, .aload_n 0, 1), (22, .getfield 101, 3), (25, .if_icmp .ge 62, 3), (28, .iconst 1, 1), (29, .istore 4, 2), (31, .iconst 0, 1), (32, .istore 5, 2), (34, .iload 5, 2), (36, .iload_n 3, 1), (37, .if_icmp .ge 31, 3), (40, .iload 4, 2), (42, .ifCond .eq 17, 3), (45, .aload_n 0, 1), (46, .iload_n 3, 1), (47, .iload 5, 2), (49, .invokevirtual 112, 3), (52, .ifCond .ne 7, 3), (55, .iconst 1, 1), (56, .goto 4, 3), (59, .iconst 0, 1), (60, .istore 4, 2), (62, .iinc 5 1, 3), (65, .goto (-31), 3), (68, .iload_n 2, 1), (69, .iload 4, 2), (71, .ifCond .eq 7, 3), (74, .iconst 1, 1), (75, .goto 4, 3), (78, .iconst 0, 1), (79, .iadd, 1), (80, .istore_n 2, 1), (81, .iinc 3 1, 3), (84, .goto (-64), 3), (87, .iload_n 2, 1), (88, .ireturn, 1)]
theorem kX7_states_ok : lp_okc kX7_states cX7_states (some .int) = true := by decide +kernel
def kX7_deal : lpC := [(0, .iconst 0, 1), (1, .istore 4, 2), (3, .iconst 1, 1), (4, .istore 5, 2), (6, .iload_n 2, 1), (7, .istore 6, 2), (9, .iload 6, 2), (11, .iload_n 2, 1), (12, .iload_n 3, 1), (13, .iadd, 1), (14, .if_icmp .ge 27, 3), (17, .iload 4, 2), (19, .aload_n 0, 1), (20, .iload 6, 2), (22, .iaload, 1), (23, .iadd, 1), (24, .istore 4, 2), (26, .iload 5, 2), (28, .aload_n 1, 1), (29, .iload 6, 2), (31, .iaload, 1), (32, .iadd, 1), (33, .istore 5, 2), (35, .iinc 6 1, 3), (38, .goto (-29), 3), (41, .iconst (-1), 1), (42, .istore 6, 2), (44, .iconst 0, 1), (45, .istore 7, 2), (47, .iload_n 2, 1), (48, .istore 8, 2), (50, .iload 8, 2), (52, .iload_n 2, 1), (53, .iload_n 3, 1), (54, .iadd, 1), (55, .if_icmp .ge 80, 3), (58, .aload_n 0, 1), (59, .iload 8, 2), (61, .iaload, 1), (62, .ifCond .eq 67, 3), (65, .aload_n 1, 1), (66, .iload 8, 2), (68, .iaload, 1), (69, .iload 4, 2), (71, .imul, 1), (72, .aload_n 0, 1), (73, .iload 8, 2), (75, .iaload, 1), (76, .idiv, 1), (77, .iload 5, 2), (79, .if_icmp .lt 6, 3), (82, .goto 47, 3), (85, .aload_n 1, 1), (86, .iload 8, 2), (88, .iaload, 1), (89, .iconst 1, 1), (90, .iadd, 1), (91, .iload 4, 2), (93, .imul, 1), (94, .aload_n 0, 1), (95, .iload 8, 2), (97, .iaload, 1), (98, .iadd, 1), (99, .iconst 1, 1), (100, .isub, 1), (101, .aload_n 0, 1), (102, .iload 8, 2), (104, .iaload, 1), (105, .idiv, 1), (106, .istore 9, 2), (108, .iload 6, 2), (110, .iconst (-1), 1), (111, .if_icmp .eq 10, 3), (114, .iload 9, 2), (116, .iload 7, 2), (118, .if_icmp .ge 11, 3), (121, .iload 8, 2), (123, .istore 6, 2), (125, .iload 9, 2), (127, .istore 7, 2), (129, .iinc 8 1, 3), (132, .goto (-82), 3), (135, .aload_n 1, 1), (136, .iload 6, 2), (138, .dup2, 1), (139, .iaload, 1), (140, .iconst 1, 1), (141, .iadd, 1), (142, .iastore, 1), (143, .iload 6, 2), (145, .iload_n 2, 1), (146, .isub, 1), (147, .ireturn, 1)]
theorem kX7_deal_ok : lp_okc kX7_deal cX7_deal (some .int) = true := by decide +kernel
def kX7_walk : lpC := [(0, .bipush 10, 2), (2, .istore_n 2, 1), (3, .aload_n 0, 1), (4, .getfield 31, 3), (7, .iload_n 1, 1), (8, .iconst 0, 1), (9, .iastore, 1), (10, .aload_n 0, 1), (11, .getfield 31, 3), (14, .iload_n 1, 1), (15, .iaload, 1), (16, .bipush 20, 2), (18, .if_icmp .ge 93, 3), (21, .aload_n 0, 1), (22, .getfield 58, 3), (25, .aload_n 0, 1), (26, .getfield 52, 3), (29, .bipush 11, 2), (31, .iload_n 2, 1), (32, .imul, 1), (33, .bipush 11, 2), (35, .invokestatic 115, 3), (38, .istore_n 3, 1), (39, .iload_n 3, 1), (40, .bipush 10, 2), (42, .if_icmp .ne 4, 3), (45, .return_, 1), (46, .bipush 20, 2), (48, .iload_n 1, 1), (49, .imul, 1), (50, .aload_n 0, 1), (51, .getfield 31, 3), (54, .iload_n 1, 1), (55, .iaload, 1), (56, .iadd, 1), (57, .istore 4, 2), (59, .aload_n 0, 1), (60, .getfield 34, 3), (63, .iload 4, 2), (65, .iload_n 3, 1), (66, .iastore, 1), (67, .aload_n 0, 1), (68, .getfield 37, 3), (71, .iload 4, 2), (73, .aload_n 0, 1), (74, .getfield 61, 3), (77, .aload_n 0, 1), (78, .getfield 55, 3), (81, .bipush 11, 2), (83, .iload_n 2, 1), (84, .imul, 1), (85, .iload_n 3, 1), (86, .iadd, 1), (87, .bipush 61, 2), (89, .imul, 1), (90, .bipush 61, 2), (92, .invokestatic 115, 3), (95, .iastore, 1), (96, .aload_n 0, 1), (97, .getfield 31, 3), (100, .iload_n 1, 1), (101, .dup2, 1), (102, .iaload, 1), (103, .iconst 1, 1), (104, .iadd, 1), (105, .iastore, 1), (106, .iload_n 3, 1), (107, .istore_n 2, 1), (108, .goto (-98), 3), (111, .return_, 1)]
theorem kX7_walk_ok : lp_okc kX7_walk cX7_walk none = true := by decide +kernel
def kX7_serve : lpC := [(0, .iconst 0, 1), (1, .istore_n 3, 1), (2, .iload_n 3, 1), (3, .iload_n 1, 1), (4, .if_icmp .ge 16, 3), (7, .aload_n 0, 1), (8, .getfield 64, 3), (11, .iload_n 3, 1), (12, .iconst 0, 1), (13, .iastore, 1), (14, .iinc 3 1, 3), (17, .goto (-15), 3), (20, .iconst 0, 1), (21, .istore_n 3, 1), (22, .iload_n 3, 1), (23, .aload_n 0, 1), (24, .getfield 119, 3), (27, .if_icmp .ge 38, 3), (30, .aload_n 0, 1), (31, .getfield 67, 3), (34, .iload_n 3, 1), (35, .iconst 0, 1), (36, .iastore, 1), (37, .aload_n 0, 1), (38, .getfield 40, 3), (41, .bipush 20, 2), (43, .iload_n 3, 1), (44, .imul, 1), (45, .iload_n 2, 1), (46, .iload_n 3, 1), (47, .imul, 1), (48, .aload_n 0, 1), (49, .getfield 37, 3), (52, .bipush 20, 2), (54, .iload_n 3, 1), (55, .imul, 1), (56, .iaload, 1), (57, .iadd, 1), (58, .iastore, 1), (59, .iinc 3 1, 3), (62, .goto (-40), 3), (65, .iconst 0, 1), (66, .istore_n 3, 1), (67, .iload_n 3, 1), (68, .aload_n 0, 1), (69, .getfield 122, 3), (72, .if_icmp .ge 322, 3), (75, .iconst (-1), 1), (76, .istore 4, 2), (78, .iconst 0, 1), (79, .istore 5, 2), (81, .iload 5, 2), (83, .aload_n 0, 1), (84, .getfield 119, 3), (87, .if_icmp .ge 75, 3), (90, .aload_n 0, 1), (91, .getfield 67, 3), (94, .iload 5, 2), (96, .iaload, 1), (97, .aload_n 0, 1), (98, .getfield 31, 3), (101, .iload 5, 2), (103, .iaload, 1), (104, .if_icmp .ge 52, 3), (107, .iload 4, 2), (109, .iconst (-1), 1), (110, .if_icmp .eq 42, 3), (113, .aload_n 0, 1), (114, .getfield 40, 3), (117, .bipush 20, 2), (119, .iload 5, 2), (121, .imul, 1), (122, .aload_n 0, 1), (123, .getfield 67, 3), (126, .iload 5, 2), (128, .iaload, 1), (129, .iadd, 1), (130, .iaload, 1), (131, .aload_n 0, 1), (132, .getfield 40, 3), (135, .bipush 20, 2), (137, .iload 4, 2), (139, .imul, 1), (140, .aload_n 0, 1), (141, .getfield 67, 3), (144, .iload 4, 2), (146, .iaload, 1), (147, .iadd, 1), (148, .iaload, 1), (149, .if_icmp .ge 7, 3), (152, .iload 5, 2), (154, .istore 4, 2), (156, .iinc 5 1, 3), (159, .goto (-78), 3), (162, .iconst 0, 1), (163, .istore 5, 2), (165, .iconst 1, 1), (166, .istore 6, 2), (168, .iload 6, 2), (170, .iload_n 1, 1), (171, .if_icmp .ge 35, 3), (174, .aload_n 0, 1), (175, .getfield 64, 3), (178, .iload 6, 2), (180, .iaload, 1), (181, .aload_n 0, 1), (182, .getfield 64, 3), (185, .iload 5, 2), (187, .iaload, 1), (188, .if_icmp .ge 8, 3), (191, .iload 6, 2), (193, .goto 5, 3), (196, .iload 5, 2), (198, .istore 5, 2), (200, .iinc 6 1, 3), (203, .goto (-35), 3), (206, .bipush 20, 2), (208, .iload 4, 2), (210, .imul, 1), (211, .aload_n 0, 1), (212, .getfield 67, 3), (215, .iload 4, 2), (217, .iaload, 1), (218, .iadd, 1), (219, .istore 6, 2), (221, .aload_n 0, 1), (222, .getfield 43, 3), (225, .iload 6, 2), (227, .aload_n 0, 1), (228, .getfield 40, 3), (231, .iload 6, 2), (233, .iaload, 1), (234, .aload_n 0, 1), (235, .getfield 64, 3), (238, .iload 5, 2), (240, .iaload, 1), (241, .invokestatic 85, 3), (244, .iastore, 1), (245, .aload_n 0, 1), (246, .getfield 46, 3), (249, .iload 6, 2), (251, .aload_n 0, 1), (252, .getfield 43, 3), (255, .iload 6, 2), (257, .iaload, 1), (258, .aload_n 0, 1), (259, .getfield 22, 3), (262, .aload_n 0, 1), (263, .getfield 34, 3), (266, .iload 6, 2), (268, .iaload, 1), (269, .iaload, 1), (270, .iadd, 1), (271, .iastore, 1), (272, .aload_n 0, 1), (273, .getfield 49, 3), (276, .iload 6, 2), (278, .iload 5, 2), (280, .iastore, 1), (281, .aload_n 0, 1), (282, .getfield 64, 3), (285, .iload 5, 2), (287, .aload_n 0, 1), (288, .getfield 46, 3), (291, .iload 6, 2), (293, .iaload, 1), (294, .iastore, 1), (295, .aload_n 0, 1), (296, .dup, 1), (297, .getfield 125, 3), (300, .aload_n 0, 1), (301, .getfield 22, 3), (304, .aload_n 0, 1), (305, .getfield 34, 3), (308, .iload 6, 2), (310, .iaload, 1), (311, .iaload, 1), (312, .iadd, 1), (313, .putfield 125, 3), (316, .aload_n 0, 1), (317, .aload_n 0, 1), (318, .getfield 128, 3), (321, .aload_n 0, 1), (322, .getfield 46, 3), (325, .iload 6, 2), (327, .iaload, 1), (328, .invokestatic 85, 3), (331, .putfield 128, 3), (334, .aload_n 0, 1), (335, .getfield 67, 3), (338, .iload 4, 2), (340, .dup2, 1), (341, .iaload, 1), (342, .iconst 1, 1), (343, .iadd, 1), (344, .iastore, 1), (345, .aload_n 0, 1), (346, .getfield 67, 3), (349, .iload 4, 2), (351, .iaload, 1), (352, .aload_n 0, 1), (353, .getfield 31, 3), (356, .iload 4, 2), (358, .iaload, 1), (359, .if_icmp .ge 29, 3), (362, .aload_n 0, 1), (363, .getfield 40, 3), (366, .iload 6, 2), (368, .iconst 1, 1), (369, .iadd, 1), (370, .aload_n 0, 1), (371, .getfield 46, 3), (374, .iload 6, 2), (376, .iaload, 1), (377, .aload_n 0, 1), (378, .getfield 37, 3), (381, .iload 6, 2), (383, .iconst 1, 1), (384, .iadd, 1), (385, .iaload, 1), (386, .iadd, 1), (387, .iastore, 1), (388, .iinc 3 1, 3), (391, .goto (-324), 3), (394, .return_, 1)]
theorem kX7_serve_ok : lp_okc kX7_serve cX7_serve none = true := by decide +kernel
def kX7_press : lpC := [(0, .iload_n 1, 1), (1, .iconst 1, 1), (2, .bipush 60, 2), (4, .invokestatic 74, 3), (7, .ifCond .eq 23, 3), (10, .iload_n 2, 1), (11, .iconst 0, 1), (12, .bipush 100, 2), (14, .invokestatic 74, 3), (17, .ifCond .eq 13, 3), (20, .iload_n 3, 1), (21, .iconst 1, 1), (22, .bipush 8, 2), (24, .invokestatic 74, 3), (27, .ifCond .ne 5, 3), (30, .iconst (-1), 1), (31, .ireturn, 1), (32, .iconst 0, 1), (33, .istore 4, 2), (35, .iconst 0, 1), (36, .istore 5, 2), (38, .iload 5, 2), (40, .bipush 10, 2), (42, .if_icmp .ge 32, 3), (45, .iload 4, 2), (47, .ifCond .ne 14, 3), (50, .aload_n 0, 1), (51, .bipush 10, 2), (53, .iload 5, 2), (55, .invokevirtual 94, 3), (58, .ifCond .le 7, 3), (61, .iconst 1, 1), (62, .goto 4, 3), (65, .iconst 0, 1), (66, .istore 4, 2), (68, .iinc 5 1, 3), (71, .goto (-33), 3), (74, .iload 4, 2), (76, .ifCond .ne 5, 3), (79, .iconst (-1), 1), (80, .ireturn, 1), (81, .iconst 0, 1), (82, .istore 5, 2), (84, .iload 5, 2), (86, .bipush 11, 2), (88, .if_icmp .ge 102, 3), (91, .iconst 0, 1), (92, .istore 6, 2), (94, .iload 6, 2), (96, .bipush 11, 2), (98, .if_icmp .ge 86, 3), (101, .bipush 11, 2), (103, .iload 5, 2), (105, .imul, 1), (106, .iload 6, 2), (108, .iadd, 1), (109, .istore 7, 2), (111, .aload_n 0, 1), (112, .getfield 52, 3), (115, .iload 7, 2), (117, .iconst 0, 1), (118, .iastore, 1), (119, .aload_n 0, 1), (120, .getfield 58, 3), (123, .iload 7, 2), (125, .aload_n 0, 1), (126, .iload 5, 2), (128, .iload 6, 2), (130, .invokevirtual 94, 3), (133, .iastore, 1), (134, .iconst 0, 1), (135, .istore 8, 2), (137, .iload 8, 2), (139, .bipush 61, 2), (141, .if_icmp .ge 37, 3), (144, .aload_n 0, 1), (145, .getfield 55, 3), (148, .bipush 61, 2), (150, .iload 7, 2), (152, .imul, 1), (153, .iload 8, 2), (155, .iadd, 1), (156, .iconst 0, 1), (157, .iastore, 1), (158, .aload_n 0, 1), (159, .getfield 61, 3), (162, .bipush 61, 2), (164, .iload 7, 2), (166, .imul, 1), (167, .iload 8, 2), (169, .iadd, 1), (170, .iconst 0, 1), (171, .iastore, 1), (172, .iinc 8 1, 3), (175, .goto (-38), 3), (178, .iinc 6 1, 3), (181, .goto (-87), 3), (184, .iinc 5 1, 3), (187, .goto (-103), 3), (190, .iconst 0, 1), (191, .istore 5, 2), (193, .iload 5, 2), (195, .aload_n 0, 1), (196, .getfield 70, 3), (199, .if_icmp .ge 102, 3), (202, .iconst 0, 1), (203, .istore 6, 2), (205, .iload 6, 2), (207, .aload_n 0, 1), (208, .getfield 9, 3), (211, .iload 5, 2), (213, .iaload, 1), (214, .if_icmp .ge 81, 3), (217, .iload 6, 2), (219, .ifCond .ne 8, 3), (222, .bipush 10, 2), (224, .goto 18, 3), (227, .aload_n 0, 1), (228, .getfield 13, 3), (231, .bipush 20, 2), (233, .iload 5, 2), (235, .imul, 1), (236, .iload 6, 2), (238, .iadd, 1), (239, .iconst 1, 1), (240, .isub, 1), (241, .iaload, 1), (242, .istore 7, 2), (244, .aload_n 0, 1), (245, .getfield 61, 3), (248, .bipush 11, 2), (250, .iload 7, 2), (252, .imul, 1), (253, .aload_n 0, 1), (254, .getfield 13, 3), (257, .bipush 20, 2), (259, .iload 5, 2), (261, .imul, 1), (262, .iload 6, 2), (264, .iadd, 1), (265, .iaload, 1), (266, .iadd, 1), (267, .bipush 61, 2), (269, .imul, 1), (270, .aload_n 0, 1), (271, .getfield 16, 3), (274, .bipush 20, 2), (276, .iload 5, 2), (278, .imul, 1), (279, .iload 6, 2), (281, .iadd, 1), (282, .iaload, 1), (283, .iadd, 1), (284, .dup2, 1), (285, .iaload, 1), (286, .iconst 1, 1), (287, .iadd, 1), (288, .iastore, 1), (289, .iinc 6 1, 3), (292, .goto (-87), 3), (295, .iinc 5 1, 3), (298, .goto (-105), 3), (301, .aload_n 0, 1), (302, .iload_n 1, 1), (303, .putfield 119, 3), (306, .aload_n 0, 1), (307, .iconst 0, 1), (308, .putfield 122, 3), (311, .iconst 0, 1), (312, .istore 5, 2), (314, .iload 5, 2), (316, .iload_n 1, 1), (317, .if_icmp .ge 31, 3), (320, .aload_n 0, 1), (321, .iload 5, 2), (323, .invokevirtual 131, 3), (326, .aload_n 0, 1), (327, .dup, 1), (328, .getfield 122, 3), (331, .aload_n 0, 1), (332, .getfield 31, 3), (335, .iload 5, 2), (337, .iaload, 1), (338, .iadd, 1), (339, .putfield 122, 3), (342, .iinc 5 1, 3), (345, .goto (-31), 3), (348, .aload_n 0, 1), (349, .iconst 0, 1), (350, .putfield 128, 3), (353, .aload_n 0, 1), (354, .iconst 0, 1), (355, .putfield 125, 3), (358, .aload_n 0, 1), (359, .iload_n 3, 1), (360, .iload_n 2, 1), (361, .invokevirtual 134, 3), (364, .aload_n 0, 1), (365, .getfield 122, 3), (368, .ireturn, 1)]
theorem kX7_press_ok : lp_okc kX7_press cX7_press (some .int) = true := by decide +kernel
def kX7_isWalk : lpC := [(0, .iload_n 1, 1), (1, .iconst 0, 1), (2, .aload_n 0, 1), (3, .getfield 119, 3), (6, .iconst 1, 1), (7, .isub, 1), (8, .invokestatic 74, 3), (11, .ireturn, 1)]
theorem kX7_isWalk_ok : lp_okc kX7_isWalk cX7_isWalk (some .boolean) = true := by decide +kernel
def kX7_walked : lpC := [(0, .aload_n 0, 1), (1, .iload_n 1, 1), (2, .invokevirtual 138, 3), (5, .ifCond .eq 12, 3), (8, .aload_n 0, 1), (9, .getfield 31, 3), (12, .iload_n 1, 1), (13, .iaload, 1), (14, .goto 4, 3), (17, .iconst (-1), 1), (18, .ireturn, 1)]
theorem kX7_walked_ok : lp_okc kX7_walked cX7_walked (some .int) = true := by decide +kernel
def kX7_told : lpC := [(0, .aload_n 0, 1), (1, .iload_n 1, 1), (2, .invokevirtual 138, 3), (5, .ifCond .eq 19, 3), (8, .iload_n 2, 1), (9, .iconst 0, 1), (10, .aload_n 0, 1), (11, .getfield 31, 3), (14, .iload_n 1, 1), (15, .iaload, 1), (16, .iconst 1, 1), (17, .isub, 1), (18, .invokestatic 74, 3), (21, .ifCond .ne 5, 3), (24, .iconst (-1), 1), (25, .ireturn, 1), (26, .bipush 20, 2), (28, .iload_n 1, 1), (29, .imul, 1), (30, .iload_n 2, 1), (31, .iadd, 1), (32, .istore 4, 2), (34, .iload_n 3, 1), (35, .tableswitch 85 0 5 #[37, 45, 53, 61, 69, 77], 37), (72, .aload_n 0, 1), (73, .getfield 34, 3), (76, .iload 4, 2), (78, .iaload, 1), (79, .ireturn, 1), (80, .aload_n 0, 1), (81, .getfield 37, 3), (84, .iload 4, 2), (86, .iaload, 1), (87, .ireturn, 1), (88, .aload_n 0, 1), (89, .getfield 40, 3), (92, .iload 4, 2), (94, .iaload, 1), (95, .ireturn, 1), (96, .aload_n 0, 1), (97, .getfield 43, 3), (100, .iload 4, 2), (102, .iaload, 1), (103, .ireturn, 1), (104, .aload_n 0, 1), (105, .getfield 46, 3), (108, .iload 4, 2), (110, .iaload, 1), (111, .ireturn, 1), (112, .aload_n 0, 1), (113, .getfield 49, 3), (116, .iload 4, 2), (118, .iaload, 1), (119, .ireturn, 1), (120, .iconst (-1), 1), (121, .ireturn, 1)]
theorem kX7_told_ok : lp_okc kX7_told cX7_told (some .int) = true := by decide +kernel
def kX7_dealt : lpC := [(0, .aload_n 0, 1), (1, .getfield 119, 3), (4, .ifCond .le 25, 3), (7, .iload_n 1, 1), (8, .iload_n 2, 1), (9, .invokestatic 90, 3), (12, .ifCond .eq 17, 3), (15, .aload_n 0, 1), (16, .getfield 52, 3), (19, .bipush 11, 2), (21, .iload_n 1, 1), (22, .imul, 1), (23, .iload_n 2, 1), (24, .iadd, 1), (25, .iaload, 1), (26, .goto 4, 3), (29, .iconst 0, 1), (30, .ireturn, 1)]
theorem kX7_dealt_ok : lp_okc kX7_dealt cX7_dealt (some .int) = true := by decide +kernel
def kX7_taking : lpC := [(0, .iconst 0, 1), (1, .istore_n 3, 1), (2, .iload_n 2, 1), (3, .istore 4, 2), (5, .iload 4, 2), (7, .aload_n 0, 1), (8, .getfield 119, 3), (11, .if_icmp .ge 67, 3), (14, .bipush 20, 2), (16, .iload 4, 2), (18, .imul, 1), (19, .istore 5, 2), (21, .iload 5, 2), (23, .bipush 20, 2), (25, .iload 4, 2), (27, .imul, 1), (28, .aload_n 0, 1), (29, .getfield 31, 3), (32, .iload 4, 2), (34, .iaload, 1), (35, .iadd, 1), (36, .if_icmp .ge 36, 3), (39, .iload_n 3, 1), (40, .aload_n 0, 1), (41, .getfield 46, 3), (44, .iload 5, 2), (46, .iaload, 1), (47, .aload_n 0, 1), (48, .getfield 40, 3), (51, .iload 5, 2), (53, .iaload, 1), (54, .isub, 1), (55, .iload_n 1, 1), (56, .if_icmp .gt 7, 3), (59, .iconst 1, 1), (60, .goto 4, 3), (63, .iconst 0, 1), (64, .iadd, 1), (65, .istore_n 3, 1), (66, .iinc 5 1, 3), (69, .goto (-48), 3), (72, .iinc 4 1, 3), (75, .goto (-70), 3), (78, .iload_n 3, 1), (79, .ireturn, 1)]
theorem kX7_taking_ok : lp_okc kX7_taking cX7_taking (some .int) = true := by decide +kernel
def kX7_from : lpC := [(0, .iconst 0, 1), (1, .istore_n 2, 1), (2, .iload_n 1, 1), (3, .istore_n 3, 1), (4, .iload_n 3, 1), (5, .aload_n 0, 1), (6, .getfield 119, 3), (9, .if_icmp .ge 18, 3), (12, .iload_n 2, 1), (13, .aload_n 0, 1), (14, .getfield 31, 3), (17, .iload_n 3, 1), (18, .iaload, 1), (19, .iadd, 1), (20, .istore_n 2, 1), (21, .iinc 3 1, 3), (24, .goto (-20), 3), (27, .iload_n 2, 1), (28, .ireturn, 1)]
theorem kX7_from_ok : lp_okc kX7_from cX7_from (some .int) = true := by decide +kernel
def kX7_part : lpC := [(0, .iload_n 1, 1), (1, .iconst 1, 1), (2, .sipush 1000, 3), (5, .invokestatic 74, 3), (8, .ifCond .eq 21, 3), (11, .iload_n 2, 1), (12, .iconst 0, 1), (13, .bipush 59, 2), (15, .invokestatic 74, 3), (18, .ifCond .eq 11, 3), (21, .aload_n 0, 1), (22, .iload_n 2, 1), (23, .invokevirtual 142, 3), (26, .ifCond .ne 5, 3), (29, .iconst (-1), 1), (30, .ireturn, 1), (31, .aload_n 0, 1), (32, .iload_n 2, 1), (33, .invokevirtual 142, 3), (36, .istore_n 3, 1), (37, .iconst 0, 1), (38, .istore 4, 2), (40, .iconst 1, 1), (41, .istore 5, 2), (43, .aload_n 0, 1), (44, .iload 5, 2), (46, .iload_n 2, 1), (47, .invokevirtual 145, 3), (50, .iload_n 3, 1), (51, .if_icmp .ge 12, 3), (54, .iload 5, 2), (56, .iconst 2, 1), (57, .imul, 1), (58, .istore 5, 2), (60, .goto (-17), 3), (63, .iload 4, 2), (65, .iload 5, 2), (67, .if_icmp .ge 45, 3), (70, .iload 4, 2), (72, .iload 5, 2), (74, .iadd, 1), (75, .iconst 2, 1), (76, .idiv, 1), (77, .istore 6, 2), (79, .sipush 1000, 3), (82, .aload_n 0, 1), (83, .iload 6, 2), (85, .iload_n 2, 1), (86, .invokevirtual 145, 3), (89, .imul, 1), (90, .iload_n 1, 1), (91, .iload_n 3, 1), (92, .imul, 1), (93, .if_icmp .lt 10, 3), (96, .iload 6, 2), (98, .istore 5, 2), (100, .goto 9, 3), (103, .iload 6, 2), (105, .iconst 1, 1), (106, .iadd, 1), (107, .istore 4, 2), (109, .goto (-46), 3), (112, .iload 4, 2), (114, .ireturn, 1)]
theorem kX7_part_ok : lp_okc kX7_part cX7_part (some .int) = true := by decide +kernel
def kX7_late : lpC := [(0, .iload_n 1, 1), (1, .iconst 0, 1), (2, .ldc 148, 2), (4, .invokestatic 74, 3), (7, .ifCond .eq 17, 3), (10, .iload_n 2, 1), (11, .iconst 0, 1), (12, .aload_n 0, 1), (13, .getfield 119, 3), (16, .iconst 1, 1), (17, .isub, 1), (18, .invokestatic 74, 3), (21, .ifCond .ne 5, 3), (24, .iconst (-1), 1), (25, .ireturn, 1), (26, .aload_n 0, 1), (27, .iload_n 2, 1), (28, .invokevirtual 142, 3), (31, .aload_n 0, 1), (32, .iload_n 1, 1), (33, .iload_n 2, 1), (34, .invokevirtual 145, 3), (37, .isub, 1), (38, .ireturn, 1)]
theorem kX7_late_ok : lp_okc kX7_late cX7_late (some .int) = true := by decide +kernel
def kX7_waitingAt : lpC := [(0, .iconst 0, 1), (1, .istore_n 2, 1), (2, .iconst 0, 1), (3, .istore_n 3, 1), (4, .iload_n 3, 1), (5, .aload_n 0, 1), (6, .getfield 119, 3), (9, .if_icmp .ge 67, 3), (12, .bipush 20, 2), (14, .iload_n 3, 1), (15, .imul, 1), (16, .istore 4, 2), (18, .iload 4, 2), (20, .bipush 20, 2), (22, .iload_n 3, 1), (23, .imul, 1), (24, .aload_n 0, 1), (25, .getfield 31, 3), (28, .iload_n 3, 1), (29, .iaload, 1), (30, .iadd, 1), (31, .if_icmp .ge 39, 3), (34, .iload_n 2, 1), (35, .aload_n 0, 1), (36, .getfield 40, 3), (39, .iload 4, 2), (41, .iaload, 1), (42, .iload_n 1, 1), (43, .if_icmp .gt 18, 3), (46, .aload_n 0, 1), (47, .getfield 43, 3), (50, .iload 4, 2), (52, .iaload, 1), (53, .iload_n 1, 1), (54, .if_icmp .le 7, 3), (57, .iconst 1, 1), (58, .goto 4, 3), (61, .iconst 0, 1), (62, .iadd, 1), (63, .istore_n 2, 1), (64, .iinc 4 1, 3), (67, .goto (-49), 3), (70, .iinc 3 1, 3), (73, .goto (-69), 3), (76, .iload_n 2, 1), (77, .ireturn, 1)]
theorem kX7_waitingAt_ok : lp_okc kX7_waitingAt cX7_waitingAt (some .int) = true := by decide +kernel
def kX7_behind : lpC := [(0, .aload_n 0, 1), (1, .getfield 119, 3), (4, .ifCond .ne 5, 3), (7, .iconst (-1), 1), (8, .ireturn, 1), (9, .iconst 0, 1), (10, .istore_n 1, 1), (11, .iconst 0, 1), (12, .istore_n 2, 1), (13, .iload_n 2, 1), (14, .aload_n 0, 1), (15, .getfield 119, 3), (18, .if_icmp .ge 46, 3), (21, .bipush 20, 2), (23, .iload_n 2, 1), (24, .imul, 1), (25, .istore_n 3, 1), (26, .iload_n 3, 1), (27, .bipush 20, 2), (29, .iload_n 2, 1), (30, .imul, 1), (31, .aload_n 0, 1), (32, .getfield 31, 3), (35, .iload_n 2, 1), (36, .iaload, 1), (37, .iadd, 1), (38, .if_icmp .ge 20, 3), (41, .iload_n 1, 1), (42, .aload_n 0, 1), (43, .getfield 43, 3), (46, .iload_n 3, 1), (47, .iaload, 1), (48, .invokestatic 85, 3), (51, .istore_n 1, 1), (52, .iinc 3 1, 3), (55, .goto (-29), 3), (58, .iinc 2 1, 3), (61, .goto (-48), 3), (64, .iload_n 1, 1), (65, .istore_n 2, 1), (66, .iconst 1, 1), (67, .istore_n 3, 1), (68, .iload_n 3, 1), (69, .ifCond .eq 89, 3), (72, .iconst 0, 1), (73, .istore_n 3, 1), (74, .iconst 0, 1), (75, .istore 4, 2), (77, .iload 4, 2), (79, .aload_n 0, 1), (80, .getfield 119, 3), (83, .if_icmp .ge 72, 3), (86, .bipush 20, 2), (88, .iload 4, 2), (90, .imul, 1), (91, .istore 5, 2), (93, .iload 5, 2), (95, .bipush 20, 2), (97, .iload 4, 2), (99, .imul, 1), (100, .aload_n 0, 1), (101, .getfield 31, 3), (104, .iload 4, 2), (106, .iaload, 1), (107, .iadd, 1), (108, .if_icmp .ge 41, 3), (111, .aload_n 0, 1), (112, .getfield 43, 3), (115, .iload 5, 2), (117, .iaload, 1), (118, .iload_n 2, 1), (119, .if_icmp .lt 24, 3), (122, .aload_n 0, 1), (123, .getfield 40, 3), (126, .iload 5, 2), (128, .iaload, 1), (129, .iload_n 2, 1), (130, .if_icmp .ge 13, 3), (133, .aload_n 0, 1), (134, .getfield 40, 3), (137, .iload 5, 2), (139, .iaload, 1), (140, .istore_n 2, 1), (141, .iconst 1, 1), (142, .istore_n 3, 1), (143, .iinc 5 1, 3), (146, .goto (-53), 3), (149, .iinc 4 1, 3), (152, .goto (-75), 3), (155, .goto (-87), 3), (158, .iload_n 2, 1), (159, .iload_n 1, 1), (160, .if_icmp .ne 7, 3), (163, .iconst (-1), 1), (164, .goto 4, 3), (167, .iload_n 2, 1), (168, .ireturn, 1)]
theorem kX7_behind_ok : lp_okc kX7_behind cX7_behind (some .int) = true := by decide +kernel
def kX7_waiting : lpC := [(0, .iload_n 1, 1), (1, .iconst 0, 1), (2, .ldc 148, 2), (4, .invokestatic 74, 3), (7, .ifCond .eq 18, 3), (10, .aload_n 0, 1), (11, .getfield 119, 3), (14, .ifCond .le 11, 3), (17, .aload_n 0, 1), (18, .iload_n 1, 1), (19, .invokevirtual 149, 3), (22, .goto 4, 3), (25, .iconst (-1), 1), (26, .ireturn, 1)]
theorem kX7_waiting_ok : lp_okc kX7_waiting cX7_waiting (some .int) = true := by decide +kernel
def kX7_learn : lpC := [(0, .aload_n 0, 1), (1, .getfield 119, 3), (4, .ifCond .ne 5, 3), (7, .iconst (-1), 1), (8, .ireturn, 1), (9, .aload_n 0, 1), (10, .aload_n 0, 1), (11, .getfield 119, 3), (14, .putfield 70, 3), (17, .iconst 0, 1), (18, .istore_n 1, 1), (19, .iload_n 1, 1), (20, .aload_n 0, 1), (21, .getfield 119, 3), (24, .if_icmp .ge 83, 3), (27, .aload_n 0, 1), (28, .getfield 9, 3), (31, .iload_n 1, 1), (32, .aload_n 0, 1), (33, .getfield 31, 3), (36, .iload_n 1, 1), (37, .iaload, 1), (38, .iastore, 1), (39, .iconst 0, 1), (40, .istore_n 2, 1), (41, .iload_n 2, 1), (42, .aload_n 0, 1), (43, .getfield 31, 3), (46, .iload_n 1, 1), (47, .iaload, 1), (48, .if_icmp .ge 53, 3), (51, .aload_n 0, 1), (52, .getfield 13, 3), (55, .bipush 20, 2), (57, .iload_n 1, 1), (58, .imul, 1), (59, .iload_n 2, 1), (60, .iadd, 1), (61, .aload_n 0, 1), (62, .getfield 34, 3), (65, .bipush 20, 2), (67, .iload_n 1, 1), (68, .imul, 1), (69, .iload_n 2, 1), (70, .iadd, 1), (71, .iaload, 1), (72, .iastore, 1), (73, .aload_n 0, 1), (74, .getfield 16, 3), (77, .bipush 20, 2), (79, .iload_n 1, 1), (80, .imul, 1), (81, .iload_n 2, 1), (82, .iadd, 1), (83, .aload_n 0, 1), (84, .getfield 37, 3), (87, .bipush 20, 2), (89, .iload_n 1, 1), (90, .imul, 1), (91, .iload_n 2, 1), (92, .iadd, 1), (93, .iaload, 1), (94, .iastore, 1), (95, .iinc 2 1, 3), (98, .goto (-57), 3), (101, .iinc 1 1, 3), (104, .goto (-85), 3), (107, .aload_n 0, 1), (108, .getfield 122, 3), (111, .ireturn, 1)]
theorem kX7_learn_ok : lp_okc kX7_learn cX7_learn (some .int) = true := by decide +kernel
def kX7_count : lpC := [(0, .iconst 0, 1), (1, .istore_n 2, 1), (2, .iconst 0, 1), (3, .istore_n 3, 1), (4, .iconst 0, 1), (5, .istore 4, 2), (7, .iload 4, 2), (9, .aload_n 0, 1), (10, .getfield 70, 3), (13, .if_icmp .ge 19, 3), (16, .iload_n 2, 1), (17, .aload_n 0, 1), (18, .getfield 9, 3), (21, .iload 4, 2), (23, .iaload, 1), (24, .iadd, 1), (25, .istore_n 2, 1), (26, .iinc 4 1, 3), (29, .goto (-22), 3), (32, .iconst 0, 1), (33, .istore 4, 2), (35, .iload 4, 2), (37, .bipush 11, 2), (39, .if_icmp .ge 50, 3), (42, .iload_n 1, 1), (43, .bipush 6, 2), (45, .if_icmp .ne 44, 3), (48, .iconst 0, 1), (49, .istore 5, 2), (51, .iload 5, 2), (53, .bipush 11, 2), (55, .if_icmp .ge 28, 3), (58, .iload_n 3, 1), (59, .aload_n 0, 1), (60, .iload 4, 2), (62, .iload 5, 2), (64, .invokevirtual 82, 3), (67, .ifCond .le 7, 3), (70, .iconst 1, 1), (71, .goto 4, 3), (74, .iconst 0, 1), (75, .iadd, 1), (76, .istore_n 3, 1), (77, .iinc 5 1, 3), (80, .goto (-29), 3), (83, .iinc 4 1, 3), (86, .goto (-51), 3), (89, .iload_n 1, 1), (90, .tableswitch 71 0 6 #[42, 47, 49, 54, 59, 64, 69], 42), (132, .aload_n 0, 1), (133, .getfield 70, 3), (136, .ireturn, 1), (137, .iload_n 2, 1), (138, .ireturn, 1), (139, .aload_n 0, 1), (140, .getfield 119, 3), (143, .ireturn, 1), (144, .aload_n 0, 1), (145, .getfield 122, 3), (148, .ireturn, 1), (149, .aload_n 0, 1), (150, .getfield 128, 3), (153, .ireturn, 1), (154, .aload_n 0, 1), (155, .getfield 125, 3), (158, .ireturn, 1), (159, .iload_n 3, 1), (160, .ireturn, 1), (161, .iconst (-1), 1), (162, .ireturn, 1)]
theorem kX7_count_ok : lp_okc kX7_count cX7_count (some .int) = true := by decide +kernel
def flX7 : List (Nat × Nat × Nat) := [(9, 7, 1), (13, 7, 2), (16, 7, 3), (19, 7, 4), (22, 7, 5), (25, 7, 6), (28, 7, 7), (31, 7, 13), (34, 7, 14), (37, 7, 15), (40, 7, 16), (43, 7, 17), (46, 7, 18), (49, 7, 19), (52, 7, 20), (55, 7, 21), (58, 7, 22), (61, 7, 23), (64, 7, 24), (67, 7, 25), (70, 7, 0), (101, 7, 8), (119, 7, 9), (122, 7, 10), (125, 7, 12), (128, 7, 11)]
theorem flX7_ok : flX7.all (lp_flb RX7) = true := by decide +kernel
def pfX7 : List (Nat × Nat × Nat) := [(70, 7, 0), (101, 7, 8), (119, 7, 9), (122, 7, 10), (125, 7, 12), (128, 7, 11)]
theorem pfX7_ok : pfX7.all (lp_pfb RX7) = true := by decide +kernel
def kcX7 : List (Nat × Int32) := [(148, 1000000)]
theorem kcX7_ok : kcX7.all (lp_kcb RX7) = true := by decide +kernel
theorem lkX7_74 : lp_lnb RX7 74 none 3 yX7_in cX7_in 3 (some .boolean) = true := by decide +kernel
theorem lkX7_78 : lp_lnb RX7 78 (some 7) 2 yX7_next cX7_next 3 (some .int) = true := by decide +kernel
theorem lkX7_82 : lp_lnb RX7 82 (some 7) 2 yX7_inLog cX7_inLog 7 (some .int) = true := by decide +kernel
theorem lkX7_85 : lp_mxb RX7 85 = true := by decide +kernel
theorem lkX7_90 : lp_lnb RX7 90 none 2 yX7_arePlaces cX7_arePlaces 2 (some .boolean) = true := by decide +kernel
theorem lkX7_94 : lp_lnb RX7 94 (some 7) 2 yX7_countOf cX7_countOf 4 (some .int) = true := by decide +kernel
theorem lkX7_97 : lp_lnb RX7 97 (some 7) 3 yX7_waitsOf cX7_waitsOf 8 (some .int) = true := by decide +kernel
theorem lkX7_104 : lp_lnb RX7 104 (some 7) 1 yX7_findContexts cX7_findContexts 7 none = true := by decide +kernel
theorem lkX7_108 : lp_lnb RX7 108 (some 7) 1 yX7_all cX7_all 4 (some .int) = true := by decide +kernel
theorem lkX7_112 : lp_lnb RX7 112 (some 7) 2 yX7_areAlike cX7_areAlike 6 (some .boolean) = true := by decide +kernel
theorem lkX7_115 : lp_lnb RX7 115 none 4 yX7_deal cX7_deal 10 (some .int) = true := by decide +kernel
theorem lkX7_131 : lp_lnb RX7 131 (some 7) 1 yX7_walk cX7_walk 5 none = true := by decide +kernel
theorem lkX7_134 : lp_lnb RX7 134 (some 7) 2 yX7_serve cX7_serve 7 none = true := by decide +kernel
theorem lkX7_138 : lp_lnb RX7 138 (some 7) 1 yX7_isWalk cX7_isWalk 2 (some .boolean) = true := by decide +kernel
theorem lkX7_142 : lp_lnb RX7 142 (some 7) 1 yX7_from cX7_from 4 (some .int) = true := by decide +kernel
theorem lkX7_145 : lp_lnb RX7 145 (some 7) 2 yX7_taking cX7_taking 6 (some .int) = true := by decide +kernel
theorem lkX7_149 : lp_lnb RX7 149 (some 7) 1 yX7_waitingAt cX7_waitingAt 5 (some .int) = true := by decide +kernel
end
section
/-! ===== the abstract memory: regions, their layout, what of it lives ===== -/
abbrev lpV : Type := Int32 ⊕ Option (Nat × Nat)
abbrev lpM : Type := Nat → Nat → Nat → Int32
abbrev lpK : Type := (Nat × List (Option (Nat × (Nat → Nat)))) ⊕ ((Nat → Nat) ⊕ ((Nat → Nat) × Nat × (Nat → Nat)))
abbrev lpL : Type := List (Option lpV)
abbrev lpS : Type := List lpV → lpM → (Option Int32 → lpM → Prop) → Prop
def lp_nth {α : Type} : List α → Nat → Option α
  | [], _ => none
  | a :: _, 0 => some a
  | _ :: l, n + 1 => lp_nth l n
def lp_set {α : Type} : List α → Nat → α → List α
  | [], _, _ => []
  | _ :: l, 0, x => x :: l
  | a :: l, n + 1, x => a :: lp_set l n x
def lp_len {α : Type} : List α → Nat
  | [] => 0
  | _ :: l => lp_len l + 1
def lp_o (r : Nat) : Option (Nat × (Nat → Nat)) := some (r, fun _ => 0)
def lp_k (r : Nat) : Option (Nat × (Nat → Nat)) := some (r, fun k => k)
def lp_a (n : Nat) : Option lpK := some (.inr (.inl (fun _ => n)))
def lp_dl (k : Nat) : Nat := if k < 121 then 61 else 11
def lp_lays : List (Option lpK) := [none,
  some (.inl (6, [lp_o 2, lp_o 6, lp_o 10, lp_o 15, lp_o 16, lp_o 18])),
  some (.inl (4, [lp_k 3, lp_k 4, lp_k 5, none])), lp_a 1200, lp_a 1200, lp_a 61,
  some (.inl (2, [lp_o 7, lp_o 8, lp_o 9])), lp_a 121, lp_a 121, some (.inr (.inr (fun _ => 121, 26, fun j => j))),
  some (.inl (0, [lp_o 11, lp_o 12, lp_o 13, lp_o 14, none])), lp_a 1200, lp_a 1200, lp_a 11, lp_a 11,
  lp_a 10,
  some (.inl (5, [lp_o 17])), some (.inr (.inr (fun _ => 11, 26, fun j => 121 + j))),
  some (.inl (3, [some (2, fun _ => 1), lp_o 19, lp_o 20, lp_o 21, lp_o 22, lp_o 23, lp_o 24, lp_o 25, none, none, none, none, none])),
  lp_a 1200, lp_a 1200, lp_a 1200, lp_a 1200, lp_a 60, lp_a 60, lp_a 8,
  some (.inl (1, [lp_k 27, lp_k 28])), some (.inr (.inl lp_dl)), some (.inr (.inl lp_dl)),
  none,
  some (.inl (7, [none, lp_o 31, lp_o 32, lp_o 33, lp_o 34, lp_o 35, lp_o 36, lp_o 37, none, none, none, none, none, lp_o 38, lp_o 39, lp_o 40, lp_o 41, lp_o 42, lp_o 43, lp_o 44, lp_o 45, lp_o 46, lp_o 47, lp_o 48, lp_o 49, lp_o 50])),
  lp_a 60, lp_a 1200, lp_a 1200, lp_a 121, lp_a 11, lp_a 1200, lp_a 13200,
  lp_a 60, lp_a 1200, lp_a 1200, lp_a 1200, lp_a 1200, lp_a 1200, lp_a 1200, lp_a 121, lp_a 7381, lp_a 121, lp_a 7381, lp_a 8, lp_a 60]
def lp_lay (r : Nat) : Option lpK := match lp_nth lp_lays r with
  | some (some k) => some k
  | _ => none
def lp_cnts : List Nat := [0, 1, 2, 2, 2, 2, 1, 1, 1, 1, 1, 1, 1, 1, 1, 1, 1, 1, 1, 1, 1, 1, 1, 1, 1, 1, 132, 132, 132, 0, 1, 1, 1, 1, 1, 1, 1, 1, 1, 1, 1, 1, 1, 1, 1, 1, 1, 1, 1, 1, 1]
def lp_cnt (r : Nat) : Nat := match lp_nth lp_cnts r with
  | some n => n
  | none => 0
def lp_isD (r : Nat) : Bool := Nat.ble 26 r && Nat.ble r 28
/-- a cell of the memory that is made: all, but those Dealings of the Machine that have no flag yet -/
def lp_live (σ : lpM) (r k : Nat) : Prop := k < lp_cnt r ∧ (lp_isD r = true → k < 121 → σ 9 0 k ≠ 0)
def lp_dead (σ : lpM) : Nat := (List.range 121).countP (fun k => decide (σ 9 0 k = 0))
def lp_cv (ad : Nat → Nat → Nat) (v : lpV) : Value := match v with
  | .inl x => .int x
  | .inr none => .null
  | .inr (some q) => .ref (ad q.1 q.2)
def lp_fv (ad : Nat → Nat → Nat) (σ : lpM) (r k : Nat) : Nat → List (Option (Nat × (Nat → Nat))) → List Value
  | _, [] => []
  | j, none :: fs => .int (σ r k j) :: lp_fv ad σ r k (j + 1) fs
  | j, some q :: fs => .ref (ad q.1 (q.2 k)) :: lp_fv ad σ r k (j + 1) fs
def lp_rf (ad : Nat → Nat → Nat) (σ : lpM) (r k r' : Nat) (ix : Nat → Nat) (j : Nat) : Option Nat := if σ r k j = 0 then none else some (ad r' (ix j))
def lp_cell (cI cD : ClassId) (ad : Nat → Nat → Nat) (σ : lpM) (r k : Nat) : va_E := match lp_lay r with
  | some (.inl (ci, fs)) => .inr (ci, lp_fv ad σ r k 0 fs)
  | some (.inr (.inl len)) => .inl (cI, len k, .inl (σ r k))
  | some (.inr (.inr (len, r', ix))) => .inl (cD, len k, .inr (.inr (.inr (.inr (lp_rf ad σ r k r' ix)))))
  | none => .inr (0, [])
def lp_Rep (D : va_G) (cI cD : ClassId) (ad : Nat → Nat → Nat) (σ : lpM) (H : Heap) : Prop :=
  (∀ r k, lp_live σ r k → va_at D vwCl (ad r k, lp_cell cI cD ad σ r k) H) ∧ ∀ r k r' k', lp_live σ r k → lp_live σ r' k' → ad r k = ad r' k' → r = r' ∧ k = k'
def lp_Wd (D : va_G) (cI cD : ClassId) (U : State) : Prop := va_K D vwCl [(cI, .int), (cD, .object RX1)] U ∧ ∀ w ∈ lp_nest, va_Nw w U
def lp_TS (H : Heap) : Nat := (H.toList.map (fun c => c.slots.size)).sum
def lp_Dom (ad : Nat → Nat → Nat) (σ : lpM) (sz : Nat) : Nat → Prop := fun q => (∃ r k, lp_live σ r k ∧ ad r k = q) ∨ sz ≤ q
def lp_ok (σ : lpM) (v : lpV) : Prop := match v with
  | .inr (some q) => lp_live σ q.1 q.2
  | _ => True
def lp_Pc (D : va_G) (cI cD : ClassId) (ad : Nat → Nat → Nat) (σ : lpM) (as : List lpV) (sz : Nat) : Array Value → State → Prop := fun v U =>
  v = (as.map (lp_cv ad)).toArray ∧ U.heap.size = sz ∧ lp_Rep D cI cD ad σ U.heap ∧ lp_Wd D cI cD U
/-- what a call leaves: an answer and a memory, as Q has them; nothing else changed; no more made than Dealings came to life -/
def lp_Qc (D : va_G) (cI cD : ClassId) (ad : Nat → Nat → Nat) (σ : lpM) (sz : Nat) (Q : Option Int32 → lpM → Prop) : Array Value → State → Outcome → State → Prop := fun _ st oc t =>
  ∃ (r : Option Int32) (σ' : lpM) (ad' : Nat → Nat → Nat), oc = .returned (r.map Value.int) ∧ Q r σ' ∧ lp_Rep D cI cD ad' σ' t.heap ∧ lp_Wd D cI cD t ∧ (∀ r k, lp_live σ r k → lp_live σ' r k ∧ ad' r k = ad r k) ∧ (∀ r k, lp_live σ' r k → lp_Dom ad σ sz (ad' r k)) ∧
    (t.heap.size + 3 * lp_dead σ' ≤ st.heap.size + 3 * lp_dead σ ∧ lp_TS t.heap + 124 * lp_dead σ' ≤ lp_TS st.heap + 124 * lp_dead σ) ∧ va_F (lp_Dom ad σ sz) st t
def lp_Ct (l : Launch) (D : va_G) (cI cD : ClassId) (y : MethodName) (bytes : ByteArray) (nL : Nat) (ret : Option FieldType) (h : Nat) (spec : lpS) : Prop :=
  ∀ (ad : Nat → Nat → Nat) (σ : lpM) (as : List lpV) (Q : Option Int32 → lpM → Prop) (sz : Nat), (∀ v ∈ as, lp_ok σ v) → spec as σ Q →
    Met l y (.code y bytes nL ret :: lp_tbl) { frames := h, cells := 3 * lp_dead σ, slots := 124 * lp_dead σ, locals := 36 * h } (lp_Pc D cI cD ad σ as sz) (lp_Qc D cI cD ad σ sz Q) (3 * lp_dead σ) (124 * lp_dead σ) (lp_Dom ad σ sz)
def lp_w3 (σ : lpM) (r k j : Nat) (x : Int32) : lpM := va_up σ r (va_up (σ r) k (upd (σ r k) j x))
/-! ===== the walk of a method as a proposition over the memory ===== -/
def lp_fl : List (Nat × Nat × Nat) → Nat → Option (Nat × Nat)
  | [], _ => none
  | x :: l, i => bif Nat.beq x.1 i then some x.2 else lp_fl l i
def lp_kc : List (Nat × Int32) → Nat → Option Int32
  | [], _ => none
  | x :: l, i => bif Nat.beq x.1 i then some x.2 else lp_kc l i
def lp_cs : List (Nat × Option Nat × Nat × lpS) → Nat → Option (Option Nat × Nat × lpS)
  | [], _ => none
  | x :: l, i => bif Nat.beq x.1 i then some x.2 else lp_cs l i
def sp_max : lpS := fun as σ Q => match as with
  | [.inl a, .inl b] => Q (some (if a < b then b else a)) σ
  | _ => False
def sp_min : lpS := fun as σ Q => match as with
  | [.inl a, .inl b] => Q (some (if b < a then b else a)) σ
  | _ => False
def lp_pop : Nat → List lpV → List lpV → Option (List lpV × List lpV)
  | 0, st, acc => some (acc, st)
  | n + 1, v :: st, acc => lp_pop n st (v :: acc)
  | _ + 1, [], _ => none
def lp_mem (a : Nat) : List Nat → Bool
  | [] => false
  | b :: l => bif Nat.beq a b then true else lp_mem a l
def lp_to (t : Nat) : lpC → lpC
  | [] => []
  | x :: l => bif Nat.beq x.1 t then x :: l else lp_to t l
def lp_sw (x : Int32) (jp : Int → Prop) : Int → List Int → Prop
  | _, [] => True
  | lo, o :: os => (x.toInt = lo → jp o) ∧ lp_sw x jp (lo + 1) os
def lp_I (fl pf : List (Nat × Nat × Nat)) (kc : List (Nat × Int32)) (cs : List (Nat × Option Nat × Nat × lpS)) (bl : Bool) (I : Instr) (L : lpL) (st : List lpV) (σ : lpM)
    (nx : lpL → List lpV → lpM → Prop) (jp : Int → lpL → List lpV → lpM → Prop) (qr : Option Int32 → lpM → Prop) : Prop := match I with
  | .iconst n => nx L (.inl (Int32.ofInt n) :: st) σ
  | .bipush n => nx L (.inl (Int8.ofInt n).toInt32 :: st) σ
  | .sipush n => nx L (.inl (Int16.ofInt n).toInt32 :: st) σ
  | .ldc i => match lp_kc kc i with
    | some v => nx L (.inl v :: st) σ
    | none => False
  | .iload_n i => match lp_nth L i.val with
    | some (some (.inl x)) => nx L (.inl x :: st) σ
    | _ => False
  | .iload i => match lp_nth L i with
    | some (some (.inl x)) => nx L (.inl x :: st) σ
    | _ => False
  | .aload_n i => match lp_nth L i.val with
    | some (some (.inr x)) => nx L (.inr x :: st) σ
    | _ => False
  | .aload i => match lp_nth L i with
    | some (some (.inr x)) => nx L (.inr x :: st) σ
    | _ => False
  | .istore_n i => match st with
    | .inl x :: st => bif Nat.blt i.val (lp_len L) then nx (lp_set L i.val (some (.inl x))) st σ else False
    | _ => False
  | .istore i => match st with
    | .inl x :: st => bif Nat.blt i (lp_len L) then nx (lp_set L i (some (.inl x))) st σ else False
    | _ => False
  | .astore_n i => match st with
    | .inr x :: st => bif Nat.blt i.val (lp_len L) then nx (lp_set L i.val (some (.inr x))) st σ else False
    | _ => False
  | .astore i => match st with
    | .inr x :: st => bif Nat.blt i (lp_len L) then nx (lp_set L i (some (.inr x))) st σ else False
    | _ => False
  | .iinc i n => match lp_nth L i with
    | some (some (.inl x)) => nx (lp_set L i (some (.inl (x + Int32.ofInt n)))) st σ
    | _ => False
  | .iadd => match st with
    | .inl y :: .inl x :: st => nx L (.inl (x + y) :: st) σ
    | _ => False
  | .isub => match st with
    | .inl y :: .inl x :: st => nx L (.inl (x - y) :: st) σ
    | _ => False
  | .imul => match st with
    | .inl y :: .inl x :: st => nx L (.inl (x * y) :: st) σ
    | _ => False
  | .idiv => match st with
    | .inl y :: .inl x :: st => ¬ y = 0 ∧ nx L (.inl (x / y) :: st) σ
    | _ => False
  | .irem => match st with
    | .inl y :: .inl x :: st => ¬ y = 0 ∧ nx L (.inl (x - x / y * y) :: st) σ
    | _ => False
  | .dup => match st with
    | v :: st => nx L (v :: v :: st) σ
    | _ => False
  | .dup2 => match st with
    | v :: w :: st => nx L (v :: w :: v :: w :: st) σ
    | _ => False
  | .pop => match st with
    | _ :: st => nx L st σ
    | _ => False
  | .goto o => jp o L st σ
  | .if_icmp c o => match st with
    | .inl y :: .inl x :: st => (match c with
      | .eq => (x = y → jp o L st σ) ∧ (¬ x = y → nx L st σ)
      | .ne => (¬ x = y → jp o L st σ) ∧ (x = y → nx L st σ)
      | .lt => (x < y → jp o L st σ) ∧ (¬ x < y → nx L st σ)
      | .ge => (y ≤ x → jp o L st σ) ∧ (¬ y ≤ x → nx L st σ)
      | .gt => (y < x → jp o L st σ) ∧ (¬ y < x → nx L st σ)
      | .le => (x ≤ y → jp o L st σ) ∧ (¬ x ≤ y → nx L st σ))
    | _ => False
  | .ifCond c o => match st with
    | .inl x :: st => (match c with
      | .eq => (x = 0 → jp o L st σ) ∧ (¬ x = 0 → nx L st σ)
      | .ne => (¬ x = 0 → jp o L st σ) ∧ (x = 0 → nx L st σ)
      | .lt => (x < 0 → jp o L st σ) ∧ (¬ x < 0 → nx L st σ)
      | .ge => (0 ≤ x → jp o L st σ) ∧ (¬ 0 ≤ x → nx L st σ)
      | .gt => (0 < x → jp o L st σ) ∧ (¬ 0 < x → nx L st σ)
      | .le => (x ≤ 0 → jp o L st σ) ∧ (¬ x ≤ 0 → nx L st σ))
    | _ => False
  | .ifnull o => match st with
    | .inr none :: st => jp o L st σ
    | .inr (some _) :: st => nx L st σ
    | _ => False
  | .ifnonnull o => match st with
    | .inr none :: st => nx L st σ
    | .inr (some _) :: st => jp o L st σ
    | _ => False
  | .tableswitch d lo hi offs => match st with
    | .inl x :: st => (x.toInt < lo ∨ hi < x.toInt → jp d L st σ) ∧ lp_sw x (fun o => jp o L st σ) lo offs.toList
    | _ => False
  | .arraylength => match st with
    | .inr (some (r, k)) :: st => (match lp_lay r with
      | some (.inr (.inl len)) => nx L (.inl (nI (len k)) :: st) σ
      | some (.inr (.inr (len, _, _))) => nx L (.inl (nI (len k)) :: st) σ
      | _ => False)
    | _ => False
  | .iaload => match st with
    | .inl i :: .inr (some (r, k)) :: st => (match lp_lay r with
      | some (.inr (.inl len)) => vp_in i (len k) ∧ nx L (.inl (σ r k i.toNatClampNeg) :: st) σ
      | _ => False)
    | _ => False
  | .iastore => match st with
    | .inl x :: .inl i :: .inr (some (r, k)) :: st => (match lp_lay r with
      | some (.inr (.inl len)) => vp_in i (len k) ∧ nx L st (lp_w3 σ r k i.toNatClampNeg x)
      | _ => False)
    | _ => False
  | .aaload => match st with
    | .inl i :: .inr (some (r, k)) :: st => (match lp_lay r with
      | some (.inr (.inr (len, r', ix))) => vp_in i (len k) ∧ (σ r k i.toNatClampNeg = 0 → nx L (.inr none :: st) σ) ∧ (¬ σ r k i.toNatClampNeg = 0 → nx L (.inr (some (r', ix i.toNatClampNeg)) :: st) σ)
      | _ => False)
    | _ => False
  | .getfield i => match st with
    | .inr (some (r, k)) :: st => (match lp_fl fl i, lp_lay r with
      | some (ci, j), some (.inl (cj, fs)) => bif Nat.beq ci cj then (match lp_nth fs j with
        | some none => nx L (.inl (σ r k j) :: st) σ
        | some (some (r', g)) => nx L (.inr (some (r', g k)) :: st) σ
        | none => False) else False
      | _, _ => False)
    | _ => False
  | .putfield i => match st with
    | .inl x :: .inr (some (r, k)) :: st => (match lp_fl pf i, lp_lay r with
      | some (ci, j), some (.inl (cj, fs)) => bif Nat.beq ci cj then (match lp_nth fs j with
        | some none => nx L st (lp_w3 σ r k j x)
        | _ => False) else False
      | _, _ => False)
    | _ => False
  | .invokevirtual i => match lp_cs cs i with
    | some (some ci, n, spec) => (match lp_pop n st [] with
      | some (as, .inr (some (r, k)) :: st) => (match lp_lay r with
        | some (.inl (cj, _)) => bif Nat.beq ci cj && Nat.ble (lp_len st) 8 then spec (.inr (some (r, k)) :: as) σ (fun ro σ => match ro with
          | some x => nx L (.inl x :: st) σ
          | none => nx L st σ) else False
        | _ => False)
      | _ => False)
    | _ => False
  | .invokestatic i => match lp_cs cs i with
    | some (none, n, spec) => (match lp_pop n st [] with
      | some (as, st) => bif Nat.ble (lp_len st) 8 then spec as σ (fun ro σ => match ro with
          | some x => nx L (.inl x :: st) σ
          | none => nx L st σ) else False
      | _ => False)
    | _ => False
  | .ireturn => match st with
    | [.inl x] => bif bl then (x = 0 ∨ x = 1) ∧ qr (some x) σ else qr (some x) σ
    | _ => False
  | .return_ => match st with
    | [] => qr none σ
    | _ => False
  | _ => False
def lp_go (labs : List Nat) (lab : Nat → lpL → lpM → Prop) (w : lpC → lpL → List lpV → lpM → Prop) (k : lpC) (L : lpL) (st : List lpV) (σ : lpM) : Prop := match k with
  | [] => False
  | x :: _ => bif lp_mem x.1 labs then (match st with
    | [] => lab x.1 L σ
    | _ => False) else w k L st σ
def lp_wp (fl pf : List (Nat × Nat × Nat)) (kc : List (Nat × Int32)) (cs : List (Nat × Option Nat × Nat × lpS)) (bl : Bool) (code : lpC) (labs : List Nat) (lab : Nat → lpL → lpM → Prop) (qr : Option Int32 → lpM → Prop) : Nat → lpC → lpL → List lpV → lpM → Prop
  | 0, _, _, _, _ => False
  | _ + 1, [], _, _, _ => False
  | n + 1, x :: k, L, st, σ => lp_I fl pf kc cs bl x.2.1 L st σ (lp_go labs lab (lp_wp fl pf kc cs bl code labs lab qr n) k) (fun o L st σ => match (x.1 : Int) + o with
    | .ofNat t => lp_go labs lab (lp_wp fl pf kc cs bl code labs lab qr n) (lp_to t code) L st σ
    | .negSucc _ => False) qr
end
section
/-! ===== laws of the abstract memory ===== -/
theorem lp_len_eq {α : Type} : ∀ l : List α, lp_len l = l.length
  | [] => rfl
  | _ :: l => by simp [lp_len, lp_len_eq l]
theorem lp_nth_eq {α : Type} : ∀ (l : List α) (n : Nat), lp_nth l n = l[n]?
  | [], n => by simp [lp_nth]
  | a :: l, 0 => by simp [lp_nth]
  | a :: l, n + 1 => by simp [lp_nth, lp_nth_eq l n]
theorem lp_set_eq {α : Type} : ∀ (l : List α) (n : Nat) (x : α), lp_set l n x = l.set n x
  | [], n, x => by simp [lp_set]
  | a :: l, 0, x => by simp [lp_set]
  | a :: l, n + 1, x => by simp [lp_set, lp_set_eq l n x]
theorem lp_set_len {α : Type} (l : List α) (n : Nat) (x : α) : (lp_set l n x).length = l.length := by rw [lp_set_eq]; simp
def lp_fok (r k : Nat) (q : Option (Nat × (Nat → Nat))) : Bool := match q with
  | none => true
  | some (r', g) => Nat.blt (g k) (lp_cnt r') && (!lp_isD r' || (lp_isD r && Nat.beq (g k) k))
theorem lp_closed : ((List.range 60).all fun r => match lp_lay r with
  | some (.inl (_, fs)) => (List.range (lp_cnt r)).all fun k => fs.all (lp_fok r k)
  | _ => true) = true := by decide +kernel
theorem lp_cnt_lt {r k : Nat} (h : k < lp_cnt r) : r < 60 := by
  rcases Nat.lt_or_ge r 60 with q | q
  · exact q
  · exfalso
    have e : lp_nth lp_cnts r = none := by
      rw [lp_nth_eq, List.getElem?_eq_none_iff]
      have : lp_cnts.length = 51 := rfl
      omega
    simp [lp_cnt, e] at h
theorem lp_live_field {σ : lpM} {r k ci j r' : Nat} {fs : List (Option (Nat × (Nat → Nat)))} {g : Nat → Nat} (h : lp_live σ r k) (hl : lp_lay r = some (.inl (ci, fs))) (hf : lp_nth fs j = some (some (r', g))) : lp_live σ r' (g k) := by
  have hr := lp_cnt_lt h.1
  have h1 := List.all_eq_true.mp lp_closed r (List.mem_range.mpr hr)
  rw [hl] at h1
  have h2 := List.all_eq_true.mp h1 k (List.mem_range.mpr h.1)
  rw [lp_nth_eq] at hf
  have h3 := List.all_eq_true.mp h2 _ (List.mem_of_getElem? hf)
  simp only [lp_fok, Bool.and_eq_true, Bool.or_eq_true, Bool.not_eq_true', Nat.blt_eq] at h3
  refine ⟨h3.1, fun hd hk => ?_⟩
  rcases h3.2 with q | q
  · rw [q] at hd; cases hd
  · rw [Nat.eq_of_beq_eq_true q.2] at hk ⊢
    exact h.2 q.1 hk
theorem lp_rfs : ((List.range 60).all fun r => match lp_lay r with
  | some (.inr (.inr (len, r', ix))) => Nat.beq r' 26 && (Nat.beq (lp_cnt r) 1) && (List.range (len 0)).all fun j => (Nat.beq r 9 && Nat.beq (ix j) j && Nat.blt j 121) || (Nat.ble 121 (ix j) && Nat.blt (ix j) 132)
  | _ => true) = true := by decide +kernel
theorem lp_live_ref {σ : lpM} {r k r' j : Nat} {len ix : Nat → Nat} (h : lp_live σ r k) (hl : lp_lay r = some (.inr (.inr (len, r', ix)))) (hj : j < len k) (hz : σ r k j ≠ 0) : lp_live σ r' (ix j) := by
  have hr := lp_cnt_lt h.1
  have h1 := List.all_eq_true.mp lp_rfs r (List.mem_range.mpr hr)
  rw [hl] at h1
  simp only [Bool.and_eq_true] at h1
  obtain ⟨⟨e1, e2⟩, h2⟩ := h1
  have e1 := Nat.eq_of_beq_eq_true e1
  have e2 := Nat.eq_of_beq_eq_true e2
  have hk : k = 0 := by have := h.1; omega
  subst hk
  subst e1
  have h3 := List.all_eq_true.mp h2 j (List.mem_range.mpr hj)
  simp only [Bool.or_eq_true, Bool.and_eq_true, Nat.blt_eq] at h3
  have hc : lp_cnt 26 = 132 := rfl
  rcases h3 with ⟨⟨a, b⟩, c⟩ | ⟨a, b⟩
  · have a := Nat.eq_of_beq_eq_true a
    have b := Nat.eq_of_beq_eq_true b
    subst a
    rw [b]
    exact ⟨by omega, fun _ _ => hz⟩
  · have a := Nat.le_of_ble_eq_true a
    exact ⟨by omega, fun _ q => absurd q (by omega)⟩
theorem lp_w3_same (σ : lpM) (r k j : Nat) (x : Int32) : lp_w3 σ r k j x r k = upd (σ r k) j x := by simp [lp_w3, va_up]
theorem lp_w3_ne {σ : lpM} {r k j r' k' : Nat} {x : Int32} (h : ¬ (r' = r ∧ k' = k)) : lp_w3 σ r k j x r' k' = σ r' k' := by
  by_cases hr : r' = r
  · subst hr
    have hk : k' ≠ k := fun q => h ⟨rfl, q⟩
    simp [lp_w3, va_up, hk]
  · simp [lp_w3, va_up, hr]
theorem lp_w3_9 {σ : lpM} {r k j : Nat} {x : Int32} (h : r ≠ 9) : lp_w3 σ r k j x 9 = σ 9 := by
  simp [lp_w3, va_up, Ne.symm h]
theorem lp_live_w3 {σ : lpM} {r k j : Nat} {x : Int32} (h : r ≠ 9) (r' k' : Nat) : lp_live (lp_w3 σ r k j x) r' k' ↔ lp_live σ r' k' := by
  simp [lp_live, lp_w3_9 h]
theorem lp_dead_w3 {σ : lpM} {r k j : Nat} {x : Int32} (h : r ≠ 9) : lp_dead (lp_w3 σ r k j x) = lp_dead σ := by
  simp [lp_dead, lp_w3_9 h]
theorem lp_ok_w3 {σ : lpM} {r k j : Nat} {x : Int32} (h : r ≠ 9) (v : lpV) : lp_ok (lp_w3 σ r k j x) v ↔ lp_ok σ v := by
  rcases v with y | _ | q
  · exact Iff.rfl
  · exact Iff.rfl
  · exact lp_live_w3 h _ _
theorem lp_fv_congr {ad : Nat → Nat → Nat} {σ σ' : lpM} {r k : Nat} (h : σ' r k = σ r k) : ∀ (j : Nat) (fs : List (Option (Nat × (Nat → Nat)))), lp_fv ad σ' r k j fs = lp_fv ad σ r k j fs
  | _, [] => rfl
  | j, none :: fs => by simp [lp_fv, h, lp_fv_congr h (j + 1) fs]
  | j, some q :: fs => by simp [lp_fv, lp_fv_congr h (j + 1) fs]
theorem lp_cell_congr {cI cD : ClassId} {ad : Nat → Nat → Nat} {σ σ' : lpM} {r k : Nat} (h : σ' r k = σ r k) : lp_cell cI cD ad σ' r k = lp_cell cI cD ad σ r k := by
  unfold lp_cell
  split
  · rw [lp_fv_congr h]
  · rw [h]
  · have e : ∀ (r' : Nat) (ix : Nat → Nat), lp_rf ad σ' r k r' ix = lp_rf ad σ r k r' ix := fun r' ix => by
      funext j
      simp [lp_rf, h]
    rw [e]
  · rfl
/-- a cell of the memory is written: the others stay -/
theorem lp_Rep_w3 {D : va_G} {cI cD : ClassId} {ad : Nat → Nat → Nat} {σ : lpM} {H H' : Heap} {r k j : Nat} {x : Int32} (hR : lp_Rep D cI cD ad σ H) (h9 : r ≠ 9) (hl : lp_live σ r k) (ha : va_at D vwCl (ad r k, lp_cell cI cD ad (lp_w3 σ r k j x) r k) H') (ho : ∀ q : Nat, q ≠ ad r k → H'[q]? = H[q]?) : lp_Rep D cI cD ad (lp_w3 σ r k j x) H' := by
  refine ⟨fun r' k' h' => ?_, fun r1 k1 r2 k2 h1 h2 => hR.2 r1 k1 r2 k2 ((lp_live_w3 h9 _ _).mp h1) ((lp_live_w3 h9 _ _).mp h2)⟩
  have h' := (lp_live_w3 h9 _ _).mp h'
  by_cases e : r' = r ∧ k' = k
  · obtain ⟨rfl, rfl⟩ := e
    exact ha
  · rw [lp_cell_congr (lp_w3_ne e)]
    exact (hR.1 r' k' h').kept (ho _ (fun q => e (hR.2 r' k' r k h' hl q)))
theorem lp_fv_len (ad : Nat → Nat → Nat) (σ : lpM) (r k : Nat) : ∀ (j : Nat) (fs : List (Option (Nat × (Nat → Nat)))), (lp_fv ad σ r k j fs).length = fs.length
  | _, [] => rfl
  | j, none :: fs => by simp [lp_fv, lp_fv_len ad σ r k (j + 1) fs]
  | j, some q :: fs => by simp [lp_fv, lp_fv_len ad σ r k (j + 1) fs]
theorem lp_fv_int {ad : Nat → Nat → Nat} {σ : lpM} {r k : Nat} : ∀ {i j : Nat} {fs : List (Option (Nat × (Nat → Nat)))}, lp_nth fs i = some none → (lp_fv ad σ r k j fs)[i]? = some (.int (σ r k (j + i)))
  | _, _, [], h => by simp [lp_nth] at h
  | 0, j, none :: fs, _ => by simp [lp_fv]
  | 0, j, some q :: fs, h => by simp [lp_nth] at h
  | i + 1, j, none :: fs, h => by
    have := lp_fv_int (ad := ad) (σ := σ) (r := r) (k := k) (i := i) (j := j + 1) (fs := fs) h
    simp [lp_fv, this]
    congr 1
    omega
  | i + 1, j, some q :: fs, h => by
    have := lp_fv_int (ad := ad) (σ := σ) (r := r) (k := k) (i := i) (j := j + 1) (fs := fs) h
    simp [lp_fv, this]
    congr 1
    omega
theorem lp_fv_ref {ad : Nat → Nat → Nat} {σ : lpM} {r k : Nat} {q : Nat × (Nat → Nat)} : ∀ {i j : Nat} {fs : List (Option (Nat × (Nat → Nat)))}, lp_nth fs i = some (some q) → (lp_fv ad σ r k j fs)[i]? = some (.ref (ad q.1 (q.2 k)))
  | _, _, [], h => by simp [lp_nth] at h
  | 0, j, none :: fs, h => by simp [lp_nth] at h
  | 0, j, some q' :: fs, h => by
    simp [lp_nth] at h
    subst h
    simp [lp_fv]
  | i + 1, j, none :: fs, h => by
    have := lp_fv_ref (ad := ad) (σ := σ) (r := r) (k := k) (i := i) (j := j + 1) (fs := fs) h
    simp [lp_fv, this]
  | i + 1, j, some q' :: fs, h => by
    have := lp_fv_ref (ad := ad) (σ := σ) (r := r) (k := k) (i := i) (j := j + 1) (fs := fs) h
    simp [lp_fv, this]
theorem lp_fv_w3 {ad : Nat → Nat → Nat} {σ : lpM} {r k : Nat} {x : Int32} : ∀ {i j : Nat} {fs : List (Option (Nat × (Nat → Nat)))}, lp_nth fs i = some none → lp_fv ad (lp_w3 σ r k (j + i) x) r k j fs = (lp_fv ad σ r k j fs).set i (.int x)
  | _, _, [], h => by simp [lp_nth] at h
  | 0, j, none :: fs, _ => by
    have e : ∀ (j' : Nat) (fs : List (Option (Nat × (Nat → Nat)))), j < j' → lp_fv ad (lp_w3 σ r k j x) r k j' fs = lp_fv ad σ r k j' fs := by
      intro j' fs
      induction fs generalizing j' with
      | nil => intro _; rfl
      | cons a fs ih =>
        intro hj
        cases a with
        | none => simp [lp_fv, ih (j' + 1) (by omega), lp_w3_same, upd, show ¬ j' = j by omega]
        | some q => simp [lp_fv, ih (j' + 1) (by omega)]
    simp [lp_fv, lp_w3_same, upd, e (j + 1) fs (by omega)]
  | 0, j, some q :: fs, h => by simp [lp_nth] at h
  | i + 1, j, none :: fs, h => by
    have := lp_fv_w3 (ad := ad) (σ := σ) (r := r) (k := k) (x := x) (i := i) (j := j + 1) (fs := fs) h
    rw [show j + 1 + i = j + (i + 1) by omega] at this
    simp [lp_fv, this, lp_w3_same, upd]
  | i + 1, j, some q' :: fs, h => by
    have := lp_fv_w3 (ad := ad) (σ := σ) (r := r) (k := k) (x := x) (i := i) (j := j + 1) (fs := fs) h
    rw [show j + 1 + i = j + (i + 1) by omega] at this
    simp [lp_fv, this]
/-! locals -/
def lp_kl (ad : Nat → Nat → Nat) : Nat → lpL → List (Nat × Value)
  | _, [] => []
  | j, none :: L => lp_kl ad (j + 1) L
  | j, some v :: L => (j, lp_cv ad v) :: lp_kl ad (j + 1) L
def lp_loc (ad : Nat → Nat → Nat) (ls : Array Slot) (L : lpL) : Prop := lv_has ls L.length (lp_kl ad 0 L)
theorem lp_cat (ad : Nat → Nat → Nat) (v : lpV) : (lp_cv ad v).category = 1 := by
  rcases v with x | _ | q <;> rfl
theorem lp_kl_mem {ad : Nat → Nat → Nat} {v : lpV} : ∀ {i j : Nat} {L : lpL}, lp_nth L i = some (some v) → (j + i, lp_cv ad v) ∈ lp_kl ad j L
  | _, _, [], h => by simp [lp_nth] at h
  | 0, j, none :: L, h => by simp [lp_nth] at h
  | 0, j, some w :: L, h => by
    simp [lp_nth] at h
    subst h
    simp [lp_kl]
  | i + 1, j, none :: L, h => by
    have := lp_kl_mem (ad := ad) (v := v) (i := i) (j := j + 1) (L := L) h
    rw [show j + 1 + i = j + (i + 1) by omega] at this
    simpa [lp_kl] using this
  | i + 1, j, some w :: L, h => by
    have := lp_kl_mem (ad := ad) (v := v) (i := i) (j := j + 1) (L := L) h
    rw [show j + 1 + i = j + (i + 1) by omega] at this
    simp [lp_kl, this]
theorem lp_kl_ge {ad : Nat → Nat → Nat} {q : Nat × Value} : ∀ {j : Nat} {L : lpL}, q ∈ lp_kl ad j L → j ≤ q.1 ∧ q.2.category = 1
  | _, [], h => by simp [lp_kl] at h
  | j, none :: L, h => by
    have := lp_kl_ge (j := j + 1) (L := L) (by simpa [lp_kl] using h)
    exact ⟨by omega, this.2⟩
  | j, some w :: L, h => by
    rcases List.mem_cons.mp (show q ∈ (j, lp_cv ad w) :: lp_kl ad (j + 1) L from h) with rfl | h
    · exact ⟨Nat.le_refl _, lp_cat ad w⟩
    · have := lp_kl_ge (j := j + 1) (L := L) h
      exact ⟨by omega, this.2⟩
theorem lp_kl_set {ad : Nat → Nat → Nat} {v : lpV} {q : Nat × Value} : ∀ {i j : Nat} {L : lpL}, q ∈ lp_kl ad j (lp_set L i (some v)) → q = (j + i, lp_cv ad v) ∨ (q ∈ lp_kl ad j L ∧ q.1 ≠ j + i)
  | _, _, [], h => by simp [lp_set, lp_kl] at h
  | 0, j, a :: L, h => by
    rcases List.mem_cons.mp (show q ∈ (j, lp_cv ad v) :: lp_kl ad (j + 1) L from h) with h2 | h2
    · exact Or.inl h2
    · have := (lp_kl_ge h2).1
      refine Or.inr ⟨?_, by omega⟩
      cases a with
      | none => exact h2
      | some w => exact List.mem_cons_of_mem _ h2
  | i + 1, j, none :: L, h => by
    have := lp_kl_set (ad := ad) (v := v) (q := q) (i := i) (j := j + 1) (L := L) (by simpa [lp_set, lp_kl] using h)
    rw [show j + 1 + i = j + (i + 1) by omega] at this
    simpa [lp_kl] using this
  | i + 1, j, some w :: L, h => by
    rcases List.mem_cons.mp (show q ∈ (j, lp_cv ad w) :: lp_kl ad (j + 1) (lp_set L i (some v)) from h) with h | h
    · subst h
      exact Or.inr ⟨by simp [lp_kl], by show j ≠ _; omega⟩
    · have := lp_kl_set (ad := ad) (v := v) (q := q) (i := i) (j := j + 1) (L := L) h
      rw [show j + 1 + i = j + (i + 1) by omega] at this
      rcases this with h | h
      · exact Or.inl h
      · exact Or.inr ⟨by simp [lp_kl, h.1], h.2⟩
theorem lp_loc_at {ad : Nat → Nat → Nat} {ls : Array Slot} {L : lpL} {i : Nat} {v : lpV} (h : lp_loc ad ls L) (hi : lp_nth L i = some (some v)) : ls[i]? = some (.val (lp_cv ad v)) := by
  have := h.2.2 (0 + i, lp_cv ad v) (lp_kl_mem hi)
  simpa using this
theorem lp_loc_put {ad : Nat → Nat → Nat} {ls : Array Slot} {L : lpL} {i : Nat} {v : lpV} (h : lv_has ls L.length ((i, lp_cv ad v) :: (lp_kl ad 0 L).filter (fun q => !(q.1 == i) && !(q.1 + 1 == i && q.2.category == 2)))) : lp_loc ad ls (lp_set L i (some v)) := by
  refine ⟨by rw [lp_set_len]; exact h.1, h.2.1, fun q hq => h.2.2 q ?_⟩
  rcases lp_kl_set hq with e | ⟨h1, h2⟩
  · rw [e]
    simp
  · have h3 := (lp_kl_ge h1).2
    refine List.mem_cons_of_mem _ (List.mem_filter.mpr ⟨h1, ?_⟩)
    simp [h3]
    omega
theorem lp_kl_congr {ad ad' : Nat → Nat → Nat} : ∀ {L : lpL} {j : Nat}, (∀ v, some v ∈ L → lp_cv ad' v = lp_cv ad v) → lp_kl ad' j L = lp_kl ad j L
  | [], _, _ => rfl
  | none :: L, j, h => lp_kl_congr (L := L) (j := j + 1) (fun v hv => h v (List.mem_cons_of_mem _ hv))
  | some w :: L, j, h => by
    simp [lp_kl, h w List.mem_cons_self, lp_kl_congr (L := L) (j := j + 1) (fun v hv => h v (List.mem_cons_of_mem _ hv))]
theorem lp_pop_eq : ∀ {n : Nat} {st acc as st' : List lpV}, lp_pop n st acc = some (as, st') → as.reverse ++ st' = acc.reverse ++ st ∧ as.length = n + acc.length
  | 0, st, acc, as, st', h => by
    simp [lp_pop] at h
    obtain ⟨rfl, rfl⟩ := h
    simp
  | n + 1, [], acc, as, st', h => by simp [lp_pop] at h
  | n + 1, v :: st, acc, as, st', h => by
    have := lp_pop_eq (n := n) (st := st) (acc := v :: acc) h
    refine ⟨by rw [this.1]; simp, by rw [this.2]; simp; omega⟩
/-! how many slots a heap has -/
theorem lp_TS_set {H H' : Heap} (z : H'.size = H.size) (h : ∀ q : Nat, (H'[q]?).map (fun c => c.slots.size) = (H[q]?).map (fun c => c.slots.size)) : lp_TS H' = lp_TS H := by
  unfold lp_TS
  congr 1
  apply List.ext_getElem?
  intro i
  simp only [List.getElem?_map, Array.getElem?_toList]
  exact h i
theorem lp_TS_push (H : Heap) (c : Cell) : lp_TS (H.push c) = lp_TS H + c.slots.size := by
  simp [lp_TS]
theorem lp_TS_split {H0 H : Heap} (hle : H0.size ≤ H.size) (h : ∀ (a : Nat) (c : Cell), H0[a]? = some c → ∃ c', H[a]? = some c' ∧ c'.slots.size = c.slots.size) : lp_TS H = lp_TS H0 + ((H.toList.drop H0.size).map (fun c => c.slots.size)).sum := by
  have e : (H.toList.take H0.size).map (fun c => c.slots.size) = H0.toList.map (fun c => c.slots.size) := by
    apply List.ext_getElem?
    intro i
    simp only [List.getElem?_map, List.getElem?_take, Array.getElem?_toList]
    by_cases hi : i < H0.size
    · rw [if_pos hi]
      have hc : H0[i]? = some H0[i] := Array.getElem?_eq_getElem hi
      obtain ⟨c', h1, h2⟩ := h i _ hc
      rw [h1, hc]
      simp [h2]
    · rw [if_neg hi, Array.getElem?_eq_none (by omega)]
  unfold lp_TS
  rw [← e, ← List.sum_append, ← List.map_append, List.take_append_drop]
end
section
/-! ===== the walk is sound: what lp_wp says, the machine does ===== -/
def lp_lnk (own : String) (i : Nat) (y : MethodName) : Prop := Cond.methodLink own i y ∈ lp_tbl ∨ ∃ host, Cond.methodLinkNest own i y host ∈ lp_nest
def lp_CallC (l : Launch) (D : va_G) (cI cD : ClassId) (own : String) (h : Nat) (x : Nat × Option Nat × Nat × lpS) : Prop :=
  ∃ (y : MethodName) (bytes : ByteArray) (nL : Nat) (ret : Option FieldType) (h' : Nat), lp_Ct l D cI cD y bytes nL ret h' x.2.2.2 ∧ h' + 1 ≤ h ∧ nL ≤ 17 ∧ Cond.code y bytes nL ret ∈ lp_tbl ∧ Cond.initialized y.cls ∈ lp_tbl ∧
    (y.cls ≠ "java/lang/invoke/MethodHandle" ∧ y.cls ≠ "java/lang/invoke/VarHandle" ∧ (parseMethodDescriptor y.desc).map (fun d => d.parameters.length) = some x.2.2.1) ∧ lp_lnk own x.1 y ∧
    (match x.2.1 with
      | some ci => Cond.instanceMethod y ∈ lp_tbl ∧ Cond.selects y.cls y y ∈ lp_tbl ∧ ∃ q : vw_C, vwCl[ci]? = some q ∧ q.1 = y.cls
      | none => Cond.static y ∈ lp_tbl)
/-- Math.max, Math.min: the library's own -/
def lp_CallM (own : String) (h : Nat) (x : Nat × Option Nat × Nat × lpS) : Prop := x.2.1 = none ∧ x.2.2.1 = 2 ∧ 1 ≤ h ∧ Cond.initialized "java/lang/Math" ∈ lp_tbl ∧
  ((Cond.methodLink own x.1 Lib.Math.max.name ∈ lp_tbl ∧ Cond.static Lib.Math.max.name ∈ lp_tbl ∧ Cond.code Lib.Math.max.name Lib.Math.max.code 2 (some .int) ∈ lp_tbl ∧ x.2.2.2 = sp_max) ∨
   (Cond.methodLink own x.1 Lib.Math.min.name ∈ lp_tbl ∧ Cond.static Lib.Math.min.name ∈ lp_tbl ∧ Cond.code Lib.Math.min.name Lib.Math.min.code 2 (some .int) ∈ lp_tbl ∧ x.2.2.2 = sp_min))
def lp_CallOK (l : Launch) (D : va_G) (cI cD : ClassId) (own : String) (h : Nat) (x : Nat × Option Nat × Nat × lpS) : Prop := lp_CallC l D cI cD own h x ∨ lp_CallM own h x
theorem lp_fl_mem : ∀ {t : List (Nat × Nat × Nat)} {i : Nat} {x : Nat × Nat}, lp_fl t i = some x → (i, x) ∈ t
  | [], _, _, h => by simp [lp_fl] at h
  | a :: t, i, x, h => by
    unfold lp_fl at h
    cases hb : Nat.beq a.1 i with
    | true =>
      rw [hb] at h
      have e : a.2 = x := Option.some.inj h
      rw [← e, ← Nat.eq_of_beq_eq_true hb]
      exact List.mem_cons_self
    | false =>
      rw [hb] at h
      exact List.mem_cons_of_mem _ (lp_fl_mem h)
theorem lp_kc_mem : ∀ {t : List (Nat × Int32)} {i : Nat} {x : Int32}, lp_kc t i = some x → (i, x) ∈ t
  | [], _, _, h => by simp [lp_kc] at h
  | a :: t, i, x, h => by
    unfold lp_kc at h
    cases hb : Nat.beq a.1 i with
    | true =>
      rw [hb] at h
      have e : a.2 = x := Option.some.inj h
      rw [← e, ← Nat.eq_of_beq_eq_true hb]
      exact List.mem_cons_self
    | false =>
      rw [hb] at h
      exact List.mem_cons_of_mem _ (lp_kc_mem h)
theorem lp_cs_mem : ∀ {t : List (Nat × Option Nat × Nat × lpS)} {i : Nat} {x : Option Nat × Nat × lpS}, lp_cs t i = some x → (i, x) ∈ t
  | [], _, _, h => by simp [lp_cs] at h
  | a :: t, i, x, h => by
    unfold lp_cs at h
    cases hb : Nat.beq a.1 i with
    | true =>
      rw [hb] at h
      have e : a.2 = x := Option.some.inj h
      rw [← e, ← Nat.eq_of_beq_eq_true hb]
      exact List.mem_cons_self
    | false =>
      rw [hb] at h
      exact List.mem_cons_of_mem _ (lp_cs_mem h)
theorem lp_cls {ci : Nat} {C : String} {T : u_T} {N : Nat} (h : vwCl[ci]? = some (C, T, N)) : (∀ w ∈ u_ws C T N, w ∈ lp_tbl) ∧ (∃ ty0 : Nat → FieldType, ∀ k, k < N → parseFieldDescriptor (T k).2.2.1 = some (ty0 k)) ∧ (∀ a, a < N → ∀ b, b < N → a ≠ b → (T a).2.1 ≠ (T b).2.1) := by
  match ci, h with
  | 0, h => cases h; exact ⟨lp_u0, ⟨_, tyX0_ok⟩, nmX0⟩
  | 1, h => cases h; exact ⟨lp_u1, ⟨_, tyX1_ok⟩, nmX1⟩
  | 2, h => cases h; exact ⟨lp_u2, ⟨_, tyX2_ok⟩, nmX2⟩
  | 3, h => cases h; exact ⟨lp_u3, ⟨_, tyX3_ok⟩, nmX3⟩
  | 4, h => cases h; exact ⟨lp_u4, ⟨_, tyX4_ok⟩, nmX4⟩
  | 5, h => cases h; exact ⟨lp_u5, ⟨_, tyX5_ok⟩, nmX5⟩
  | 6, h => cases h; exact ⟨lp_u6, ⟨_, tyX6_ok⟩, nmX6⟩
  | 7, h => cases h; exact ⟨lp_u7, ⟨_, tyX7_ok⟩, nmX7⟩
  | n + 8, h => simp [vwCl] at h
theorem lp_nest_move {w : Cond} (hw : lp_isNest w = true) {s U : State} (hW : s.WarmedH U.vm) (h : va_Nw w s) : va_Nw w U := by
  cases w with
  | fieldLinkNest a i b n d hh => exact va_Nw.warmF hW h
  | methodLinkNest a i x hh => exact va_Nw.warmM hW h
  | _ => cases hw
theorem lp_nest_on {w : Cond} (hw : lp_isNest w = true) : w.onTables = true := by
  cases w with
  | fieldLinkNest a i b n d hh => rfl
  | methodLinkNest a i x hh => rfl
  | _ => cases hw
theorem lp_Wd_move {D : va_G} {cI cD : ClassId} {s U : State} (hW : s.WarmedH U.vm) (h : lp_Wd D cI cD s) : lp_Wd D cI cD U :=
  ⟨va_K.moved hW.alike h.1, fun w hw => lp_nest_move (List.mem_filter.mp hw).2 hW (h.2 w hw)⟩
theorem lp_blind {D : va_G} {cI cD : ClassId} {ad : Nat → Nat → Nat} {σ : lpM} {as : List lpV} {sz : Nat} : FrameBlind (lp_Pc D cI cD ad σ as sz) := by
  intro a U g mk h
  obtain ⟨h1, h2, h3, h4, h5⟩ := h
  exact ⟨h1, h2, h3, va_K.moved (u := U) (U := U.calling g mk a) (Vm.Alike.refl U.vm) h4, fun w hw => va_Nw.same (u := U) (lp_nest_on (List.mem_filter.mp hw).2) rfl (h5 w hw)⟩
theorem lp_good {w0 : Cond} {y : MethodName} {bytes : ByteArray} {nL : Nat} {ret : Option FieldType} (h : Cond.code y bytes nL ret ∈ lp_tbl) : GoodIn (w0 :: lp_tbl) (Cond.code y bytes nL ret :: lp_tbl) := by
  intro w hw
  have hm : w ∈ lp_tbl := by
    rcases List.mem_cons.mp hw with rfl | hw
    · exact h
    · exact hw
  exact ⟨List.mem_cons_of_mem _ hm, good_of_word (List.mem_filter.mp hm).2⟩
section LPW
variable {p : Program} {l : Launch} {e : Env} {R : Room} {s : State} {m : MethodId} {args : Array Value} {below : List Frame} {meth : Method} {c : Code} {H : Heap} {locs : List Loc} {cells slots : Nat} {Q : State → Prop}
/-- the heap itself says how much was made -/
theorem lp_tight {g : JFrame} {k n : Nat} (h1 : H.size ≤ s.heap.size + k) (h2 : lp_TS H ≤ lp_TS s.heap + n) (kk : W p l e R s m args below meth c H locs k n Q g) : W p l e R s m args below meth c H locs cells slots Q g := by
  intro T hT X
  refine kk T hT { X with same := ?_ }
  obtain ⟨a1, a2, a3, a4, a5, a6⟩ := X.same
  have hh : (T.setVm s.vm).heap = H := hT
  refine ⟨a1, a2, by rw [hh]; exact h1, a4, ?_, a6⟩
  have hs := lp_TS_split a2 (fun a c hc => by
    obtain ⟨c', h1, -, h3, -⟩ := a6 a c hc
    exact ⟨c', h1, h3⟩)
  rw [hh] at hs ⊢
  have : (List.map (fun x => x.slots.size) (List.drop s.heap.size H.toList)).sum = (List.map (fun c => c.slots.size) (List.drop s.heap.size H.toList)).sum := rfl
  omega
theorem lp_call {mc ms : Nat} {g : JFrame} {rest : List Value} {Qa : State → Outcome → State → Prop} {free : Addr → Prop} (hr : va_Run p l e R s m args below meth c H locs cells slots mc ms g rest Qa free)
    (kk : ∀ (v : Option Value) (st₀ t : State) (L : List Loc), st₀.heap = H → s.WarmedH t.vm → Qa st₀ (.returned v) t → (∀ q ∈ L, free q.base) → W p l e R s m args below meth c t.heap (locs ++ L) (cells + mc) (slots + ms) Q { g with pc := g.pc + 3, stack := v.toList ++ rest }) : W p l e R s m args below meth c H locs cells slots Q g := by
  intro T hT X
  obtain ⟨v, st₀, t, T', L, h0, X', hL, e1, e2, hq, st⟩ := hr T hT X
  obtain ⟨t2, a1, b1⟩ := kk v st₀ t L h0 (by rw [← e2]; exact X'.warmed) hq hL T' e1 X'
  exact ⟨t2, st t2 a1, b1⟩
variable {cc : ByteArray} {pc : Nat} {ls : Array Slot} {rest : List Value} {D : va_G} {cl : List vw_C} {a : Nat} {tys : List (ClassId × FieldType)}
/-- putfield, with the whole heap behind it -/
theorem lp_put (hexec : p.tables.exec = Jvm.exec) (hb : c.code = cc) {own ref C : String} {T : u_T} {N ci index : Nat} {Ts : List Cond} (hts : ∀ w ∈ Ts, w.before args s = true) (hin : ∀ w ∈ u_ws C T N, w ∈ Ts) (ty0 : Nat → FieldType) (hty : ∀ k, k < N → parseFieldDescriptor (T k).2.2.1 = some (ty0 k)) (hnm : ∀ a, a < N → ∀ b, b < N → a ≠ b → (T a).2.1 ≠ (T b).2.1) (hown : s.vm.findClass own = some m.cls) (hK : va_K D cl tys s) {fs : List Value} (hP : va_at D cl (a, .inr (ci, fs)) H) (hc : cl[ci]? = some (C, T, N)) (k : Nat) (hk : k < N) (hlink : (Cond.fieldLink own index ref (T k).2.1 (T k).2.2.1).before args s = true) (hsame : ∀ x, s.fieldFound? (T k).1 (T k).2.1 (T k).2.2.1 = some x → s.fieldFound? ref (T k).2.1 (T k).2.2.1 = some x) (hfin : (T k).2.2.2 = false) {ty : FieldType} {v : Value} (hd : parseFieldDescriptor (T k).2.2.1 = some ty) (hn : narrow ty v = v) (hfit : fits ty v = true) (hl : k < fs.length)
    (hdg : decode cc pc = .ok (.putfield index, 3)) (kk : ∀ (H1 : Heap) (j : Nat), va_at D cl (a, .inr (ci, fs.set k v)) H1 → H1.size = H.size → (∀ q : Nat, q ≠ a → H1[q]? = H[q]?) → (∀ q : Nat, (H1[q]?).map (fun c => c.slots.size) = (H[q]?).map (fun c => c.slots.size)) → W p l e R s m args below meth c H1 (locs ++ [⟨a, j⟩]) cells slots Q (F0 m (pc + 3) ls rest)) : W p l e R s m args below meth c H locs cells slots Q (F0 m pc ls (v :: .ref a :: rest)) := by
  have hap := va_apart (own := own) hts hin ty0 hty hnm hK hc
  obtain ⟨r, h1, cell, q1, q2, q3, q4⟩ := hP
  have hr : r = (C, T, N) := Option.some.inj (h1.symm.trans hc)
  subst hr
  obtain ⟨hS, hfc, kC, hkC, hkind⟩ := hK.1 ci _ hc
  obtain ⟨cf, kf, fi, f, hi, hsl⟩ := hS k hk
  have hlay := hts _ (hin _ (u_in_lay hk))
  unfold u_lay at hlay
  rw [if_neg (by rw [hfin]; decide)] at hlay
  have hst := (u_facts hfc hkC (u_lays hts hin hk) hi).1
  have h6 := u_store hfc hkC hkind hlay hi hd hn hfit
  refine W.putK hexec hb (f := f) ⟨hown, hlink, ⟨_, _, _, hsame _ hi⟩, hst⟩ (by rw [q2]; exact h6) q1 q3 (by rw [hsl]; exact k2_hasslot (q4 k hk)) rfl rfl hdg fun H' e1 e2 e3 => ?_
  rw [hsl] at e1 ⊢
  refine kk H' _ ⟨_, hc, t_OB.to (V := updV (vp_V fs) k v) ⟨_, e1, q2, q3, t_set q4 hap hk v⟩ (fun j _ => vp_updV_set hl v j)⟩ e2 e3 (fun q => ?_)
  by_cases hq : q = a
  · subst hq
    rw [e1, q1]
    simp [Cell.setSlot]
  · rw [e3 q hq]
/-- iastore, with the whole heap behind it -/
theorem lp_iast (hexec : p.tables.exec = Jvm.exec) (hb : c.code = cc) {cA : ClassId} (hK : ∀ (n : Nat) (z : Nat → Value), s.isArrayOf (arrV cA n z) .int) {n : Nat} {f : Nat → Int32} (ha : H[a]? = some (vp_cell cA (n, .inl f))) {i : Int32} {x : Int32} (hin : vp_in i n) (hdg : decode cc pc = .ok (.iastore, 1))
    (kk : ∀ (H1 : Heap) (j : Nat), H1[a]? = some (vp_cell cA (n, .inl (upd f i.toNatClampNeg x))) → H1.size = H.size → (∀ q : Nat, q ≠ a → H1[q]? = H[q]?) → (∀ q : Nat, (H1[q]?).map (fun c => c.slots.size) = (H[q]?).map (fun c => c.slots.size)) → W p l e R s m args below meth c H1 (locs ++ [⟨a, j⟩]) cells slots Q (F0 m (pc + 1) ls rest)) : W p l e R s m args below meth c H locs cells slots Q (F0 m pc ls (.int x :: .int i :: .ref a :: rest)) := by
  refine W.iast hexec hb ha (hK n (fun j => .int (f j))) (fun q => by cases q) (by show ¬ (i < 0 ∨ (arrV _ _ _).slots.size ≤ _); rw [arrV_size]; exact hin) rfl rfl hdg fun H1 e z oq => ?_
  refine kk H1 _ ?_ z oq (fun q => ?_)
  · rw [e]
    rw [vp_cell_i, vp_cell_i, arrV_store]
    congr 2
    funext q
    by_cases hq : q = i.toNatClampNeg
    · subst hq
      simp [updV, upd]
    · simp [updV, upd, hq]
  · by_cases hq : q = a
    · subst hq
      rw [e, ha]
      simp [Cell.setSlot]
    · rw [oq q hq]
end LPW
end
section
/-! ===== one instruction ===== -/
def lp_At (D : va_G) (cI cD : ClassId) (R : Room) (s : State) (ad0 : Nat → Nat → Nat) (σ0 : lpM) (sz nL : Nat) (ad : Nat → Nat → Nat) (σ : lpM) (H : Heap) (locs : List Loc) (cells slots : Nat) (ls : Array Slot) (L : lpL) : Prop :=
  lp_Rep D cI cD ad σ H ∧ (∀ r k, lp_live σ0 r k → lp_live σ r k ∧ ad r k = ad0 r k) ∧ (∀ r k, lp_live σ r k → lp_Dom ad0 σ0 sz (ad r k)) ∧ va_S (lp_Dom ad0 σ0 sz) s.heap H locs ∧ (lp_loc ad ls L ∧ (∀ v, some v ∈ L → lp_ok σ v) ∧ L.length = nL) ∧
  (cells + 3 * lp_dead σ ≤ R.cells ∧ slots + 124 * lp_dead σ ≤ R.slots) ∧ (H.size + 3 * lp_dead σ ≤ s.heap.size + R.cells ∧ lp_TS H + 124 * lp_dead σ ≤ lp_TS s.heap + R.slots)
def lp_ret (ro : Option Int32) (st : List lpV) : List lpV := match ro with
  | some x => .inl x :: st
  | none => st
theorem lp_ok_set {σ : lpM} : ∀ {L : lpL} {i : Nat} {v : lpV}, (∀ v, some v ∈ L → lp_ok σ v) → lp_ok σ v → ∀ w, some w ∈ lp_set L i (some v) → lp_ok σ w := by
  intro L i v h hv w hw
  rw [lp_set_eq] at hw
  rcases List.mem_or_eq_of_mem_set hw with h1 | h1
  · exact h w h1
  · cases h1
    exact hv
theorem lp_dead_mono {σ σ' : lpM} (h : ∀ r k, lp_live σ r k → lp_live σ' r k) : lp_dead σ' ≤ lp_dead σ := by
  unfold lp_dead
  refine List.countP_mono_left (fun k hk hz => ?_)
  have hk := List.mem_range.mp hk
  have hz : σ' 9 0 k = 0 := of_decide_eq_true hz
  refine decide_eq_true ?_
  rcases Classical.em (σ 9 0 k = 0) with q | q
  · exact q
  · have hc : lp_cnt 26 = 132 := rfl
    exact absurd hz ((h 26 k ⟨by omega, fun _ _ => q⟩).2 rfl hk)
theorem lp_narrow_b {x : Int32} (h : x = 0 ∨ x = 1) : narrow .boolean (.int x) = .int x := by
  rcases h with rfl | rfl <;> decide
theorem lp_At_put {D : va_G} {cI cD : ClassId} {R : Room} {s : State} {ad0 : Nat → Nat → Nat} {σ0 : lpM} {sz nL : Nat} {ad : Nat → Nat → Nat} {σ : lpM} {H H1 : Heap} {locs : List Loc} {cells slots : Nat} {ls : Array Slot} {L : lpL} {r k j j' : Nat} {x : Int32}
    (A : lp_At D cI cD R s ad0 σ0 sz nL ad σ H locs cells slots ls L) (h9 : r ≠ 9) (hl : lp_live σ r k) (ha : va_at D vwCl (ad r k, lp_cell cI cD ad (lp_w3 σ r k j x) r k) H1) (z : H1.size = H.size) (ho : ∀ q : Nat, q ≠ ad r k → H1[q]? = H[q]?) (ht : ∀ q : Nat, (H1[q]?).map (fun c => c.slots.size) = (H[q]?).map (fun c => c.slots.size)) : lp_At D cI cD R s ad0 σ0 sz nL ad (lp_w3 σ r k j x) H1 (locs ++ [⟨ad r k, j'⟩]) cells slots ls L := by
  obtain ⟨a1, a2, a3, a4, ⟨b1, b2, b3⟩, c1, c2⟩ := A
  refine ⟨lp_Rep_w3 a1 h9 hl ha ho, fun r k h => ?_, fun r k h => ?_, a4.put z ho (a3 r k hl), ⟨b1, fun v hv => (lp_ok_w3 h9 v).mpr (b2 v hv), b3⟩, ?_, ?_⟩
  · exact ⟨(lp_live_w3 h9 _ _).mpr (a2 r k h).1, (a2 r k h).2⟩
  · exact a3 r k ((lp_live_w3 h9 _ _).mp h)
  · rw [lp_dead_w3 h9]; exact c1
  · rw [lp_dead_w3 h9, z, lp_TS_set z ht]; exact c2
theorem lp_lay9 {r : Nat} {len : Nat → Nat} (h : lp_lay r = some (.inr (.inl len))) : r ≠ 9 := by
  rintro rfl
  cases h
theorem lp_lay9o {r : Nat} {q : Nat × List (Option (Nat × (Nat → Nat)))} (h : lp_lay r = some (.inl q)) : r ≠ 9 := by
  rintro rfl
  cases h
section LPI
variable {p : Program} {l : Launch} {e : Env} {R : Room} {s : State} {m : MethodId} {args : Array Value} {below : List Frame} {meth : Method} {c : Code}
variable {D : va_G} {cI cD : ClassId} {cc : ByteArray} {nL h : Nat} {own : String} {y0 : MethodName} {ret0 : Option FieldType} {ad0 : Nat → Nat → Nat} {σ0 : lpM} {sz : Nat} {Q0 : Option Int32 → lpM → Prop}
variable {fl pf : List (Nat × Nat × Nat)} {kc : List (Nat × Int32)} {cs : List (Nat × Option Nat × Nat × lpS)} {bl : Bool}
set_option maxHeartbeats 4000000 in
/-- a call out of a method -/
theorem lp_callS (hx : p.tables.exec = Jvm.exec) (hb : c.code = cc) (hml : c.maxLocals = nL) (hown : s.vm.findClass own = some m.cls) (hts : ∀ w ∈ (Cond.code y0 cc nL ret0 :: lp_tbl), w.before args s = true) (hWd : lp_Wd D cI cD s)
    (hR : R.frames = h ∧ R.locals = 36 * h) (hsz0 : s.heap.size = sz)
    {Q : State → Prop} {x : Nat × Option Nat × Nat × lpS} (hC : lp_CallC l D cI cD own h x) {ad : Nat → Nat → Nat} {σ : lpM} {H : Heap} {locs : List Loc} {cells slots : Nat} {ls : Array Slot} {L : lpL} {pc : Nat}
    (A : lp_At D cI cD R s ad0 σ0 sz nL ad σ H locs cells slots ls L) {as : List lpV} {st : List lpV} {I : Instr} (hn : as.length = (match x.2.1 with | some _ => x.2.2.1 + 1 | none => x.2.2.1)) (hoka : ∀ v ∈ as, lp_ok σ v) (hok : ∀ v ∈ st, lp_ok σ v) (hlen : st.length ≤ 8)
    (hI : I = (match x.2.1 with | some _ => .invokevirtual x.1 | none => .invokestatic x.1)) (hd : decode cc pc = .ok (I, 3))
    (hrecv : ∀ ci, x.2.1 = some ci → ∃ r k fs, as.head? = some (.inr (some (r, k))) ∧ lp_lay r = some (.inl (ci, fs)))
    {Qk : Option Int32 → lpM → Prop} (hspec : x.2.2.2 as σ Qk)
    (kk : ∀ (ro : Option Int32) (σ' : lpM) (ad' : Nat → Nat → Nat) (H' : Heap) (locs' : List Loc) (cells' slots' : Nat), Qk ro σ' → lp_At D cI cD R s ad0 σ0 sz nL ad' σ' H' locs' cells' slots' ls L → (∀ v ∈ st, lp_ok σ' v) →
      W p l e R s m args below meth c H' locs' cells' slots' Q (F0 m (pc + 3) ls ((lp_ret ro st).map (lp_cv ad')))) :
    W p l e R s m args below meth c H locs cells slots Q (F0 m pc ls ((as.reverse ++ st).map (lp_cv ad))) := by
  obtain ⟨y, bytes, nL', ret, h', hCt, hh, hnL, hcode, hini, ⟨hd1, hd2, hd3⟩, hlnk, hk⟩ := hC
  obtain ⟨a1, a2, a3, a4, ⟨b1, b2, b3⟩, ⟨c1, c2⟩, c3, c4⟩ := id A
  have hM := hCt ad σ as Qk H.size hoka hspec
  have hG := lp_good (w0 := Cond.code y0 cc nL ret0) hcode
  have T : ∀ w ∈ lp_tbl, w.before args s = true := fun w hw => hts w (List.mem_cons_of_mem _ hw)
  have hpre : ∀ U : State, U.heap = H → s.WarmedH U.vm → lp_Pc D cI cD ad σ as H.size (as.map (lp_cv ad)).toArray U := fun U hU hW => ⟨rfl, by rw [hU], by rw [hU]; exact a1, lp_Wd_move hW hWd⟩
  have hRm : ({ frames := h', cells := 3 * lp_dead σ, slots := 124 * lp_dead σ, locals := 36 * h' } : Room).frames + 1 ≤ R.frames ∧ 8 + (nL' + 11) + ({ frames := h', cells := 3 * lp_dead σ, slots := 124 * lp_dead σ, locals := 36 * h' } : Room).locals ≤ R.locals := by
    rw [hR.1, hR.2]
    exact ⟨hh, by show 8 + (nL' + 11) + 36 * h' ≤ 36 * h; omega⟩
  have hf : cells + 3 * lp_dead σ ≤ R.cells ∧ slots + 124 * lp_dead σ ≤ R.slots := ⟨c1, c2⟩
  have hroom : 2 * (F0 m pc ls ((as.reverse ++ st).map (lp_cv ad))).monitorRoom + ((st.map (lp_cv ad)).map fun v => v.category).sum ≤ 8 := by
    refine lv_room ?_
    have e : ((st.map (lp_cv ad)).map fun v => v.category) = List.replicate st.length 1 := by
      apply List.ext_getElem?
      intro i
      simp only [List.getElem?_map, List.getElem?_replicate]
      by_cases hi : i < st.length
      · rw [List.getElem?_eq_getElem hi]
        simp [hi, lp_cat]
      · rw [List.getElem?_eq_none (by omega)]
        simp [hi]
    rw [e]
    simp
    omega
  have hsz : ls.size = nL := b1.1.trans b3
  -- the run
  have hrun : va_Run p l e R s m args below meth c H locs cells slots (3 * lp_dead σ) (124 * lp_dead σ) (F0 m pc ls ((as.reverse ++ st).map (lp_cv ad))) (st.map (lp_cv ad)) (lp_Qc D cI cD ad σ H.size Qk (as.map (lp_cv ad)).toArray) (lp_Dom ad σ H.size) := by
    cases hx1 : x.2.1 with
    | none =>
      rw [hx1] at hn hI hk
      subst hI
      have hsta := T _ hk
      have hn' : (as.map (lp_cv ad)).length = x.2.2.1 := by simpa using hn
      have hst : (F0 m pc ls ((as.reverse ++ st).map (lp_cv ad))).stack = (as.map (lp_cv ad)).reverse ++ st.map (lp_cv ad) := by simp
      rcases hlnk with hl | ⟨host, hl⟩
      · exact va_runS (As := as.map (lp_cv ad)) ⟨hx, hb, hml, hown, hts⟩ hM ⟨callB_of x.2.2.1 hts hG rfl rfl rfl (T _ hini) (T _ hl) ⟨hd1, hd2, hd3⟩ hRm, hsta⟩ ⟨lp_blind, hpre⟩ rfl hn' hsz hst hroom hd hf
      · exact va_runSN (As := as.map (lp_cv ad)) ⟨hx, hb, hml, hown, hts⟩ hM ⟨va_cnB x.2.2.1 hts hG rfl rfl rfl (hWd.2 _ hl) (T _ hini) ⟨hd1, hd2, hd3⟩ hRm, hsta, trivial⟩ ⟨lp_blind, hpre⟩ rfl hn' hsz hst hroom hd hf
    | some ci =>
      rw [hx1] at hn hI hk
      subst hI
      obtain ⟨r, k, fs, hhd, hlay⟩ := hrecv ci hx1
      obtain ⟨hin, hsel, q, hq, hqy⟩ := hk
      rcases as with _ | ⟨v0, as⟩
      · cases hhd
      obtain rfl : v0 = .inr (some (r, k)) := by simpa using hhd
      have hlive : lp_live σ r k := hoka _ List.mem_cons_self
      have hn' : (as.map (lp_cv ad)).length = x.2.2.1 := by simpa using hn
      have hst : (F0 m pc ls (((.inr (some (r, k)) :: as).reverse ++ st).map (lp_cv ad))).stack = (as.map (lp_cv ad)).reverse ++ .ref (ad r k) :: st.map (lp_cv ad) := by simp [lp_cv]
      have hat := a1.1 r k hlive
      have hcell : lp_cell cI cD ad σ r k = .inr (ci, lp_fv ad σ r k 0 fs) := by simp [lp_cell, hlay]
      rw [hcell] at hat
      have hrc : ∃ cellB : Cell, H[ad r k]? = some cellB ∧ cellB.vm.isStatics = false ∧ s.vm.findClass y.cls = some cellB.cls := by
        have := va_recv (ws := [(ad r k, .inr (ci, lp_fv ad σ r k 0 fs))]) (q0 := 0) (a := ad r k) hWd.1 (fun k' q' hk' => by
          rcases k' with _ | k'
          · cases hk'; exact hat
          · simp at hk') hq rfl
        rw [hqy] at this
        exact this
      rcases hlnk with hl | ⟨host, hl⟩
      · exact va_runV (As := as.map (lp_cv ad)) (b := ad r k) (C := y.cls) ⟨hx, hb, hml, hown, hts⟩ hM ⟨callB_of x.2.2.1 hts hG rfl rfl rfl (T _ hini) (T _ hl) ⟨hd1, hd2, hd3⟩ hRm, T _ hin, T _ hsel⟩ ⟨lp_blind, hrc, hpre⟩ rfl hn' hsz hst hroom hd hf
      · exact va_runVN (As := as.map (lp_cv ad)) (b := ad r k) (C := y.cls) ⟨hx, hb, hml, hown, hts⟩ hM ⟨va_cnB x.2.2.1 hts hG rfl rfl rfl (hWd.2 _ hl) (T _ hini) ⟨hd1, hd2, hd3⟩ hRm, T _ hin, T _ hsel⟩ ⟨lp_blind, hrc, hpre⟩ rfl hn' hsz hst hroom hd hf
  refine lp_call hrun (fun v st₀ t LL h0 hW hq hL => ?_)
  obtain ⟨ro, σ', ad', e1, hQ, hRep, -, hlv, hdm, ⟨t1, t2⟩, hF⟩ := hq
  cases e1
  rw [h0] at t1 t2
  have hdom : ∀ q, lp_Dom ad σ H.size q → lp_Dom ad0 σ0 sz q := by
    rintro q (⟨r, k, hl, rfl⟩ | hq)
    · exact a3 r k hl
    · exact Or.inr (by rw [← hsz0]; exact Nat.le_trans a4.1 hq)
  have cvs : ∀ v, lp_ok σ v → lp_cv ad' v = lp_cv ad v ∧ lp_ok σ' v := by
    intro v hv
    rcases v with y | _ | q
    · exact ⟨rfl, trivial⟩
    · exact ⟨rfl, trivial⟩
    · have := hlv q.1 q.2 hv
      exact ⟨by simp [lp_cv, this.2], this.1⟩
  have est : st.map (lp_cv ad) = st.map (lp_cv ad') := List.map_congr_left (fun v hv => (cvs v (hok v hv)).1.symm)
  have eret : (Option.map Value.int ro).toList ++ st.map (lp_cv ad) = (lp_ret ro st).map (lp_cv ad') := by
    rw [est]
    cases ro <;> simp [lp_cv, lp_ret]
  have hdd := lp_dead_mono (fun r k h => (hlv r k h).1)
  refine lp_tight (k := R.cells - 3 * lp_dead σ') (n := R.slots - 124 * lp_dead σ') (by omega) (by omega) ?_
  refine W.eq (g2 := F0 m (pc + 3) ls ((lp_ret ro st).map (lp_cv ad'))) (by rw [← eret]) ?_
  refine kk ro σ' ad' t.heap (locs ++ LL) _ _ hQ ⟨hRep, fun r k h => ?_, fun r k h => hdom _ (hdm r k h), ⟨?_, fun q h1 h2 => ?_, fun q hq => ?_⟩, ⟨?_, fun v hv => (cvs v (b2 v hv)).2, b3⟩, ?_, ?_⟩ (fun v hv => (cvs v (hok v hv)).2)
  · have := a2 r k h
    have h2 := hlv r k this.1
    exact ⟨h2.1, h2.2.trans this.2⟩
  · exact Nat.le_trans a4.1 (by rw [← h0]; exact hF.1)
  · rw [hF.2 q (by rw [h0]; exact Nat.lt_of_lt_of_le h1 a4.1) (fun z => h2 (hdom q z)), h0]
    exact a4.2.1 q h1 h2
  · rcases List.mem_append.mp hq with h | h
    · exact a4.2.2 q h
    · exact hdom _ (hL q h)
  · show lv_has ls L.length (lp_kl ad' 0 L)
    rw [lp_kl_congr (ad := ad) (fun v hv => (cvs v (b2 v hv)).1)]
    exact b1
  · constructor <;> omega
  · constructor <;> omega
end LPI
end
section
/-! ===== every instruction ===== -/
section LPI2
variable {p : Program} {l : Launch} {e : Env} {R : Room} {s : State} {m : MethodId} {args : Array Value} {below : List Frame} {meth : Method} {c : Code}
variable {D : va_G} {cI cD : ClassId} {cc : ByteArray} {nL h : Nat} {own : String} {y0 : MethodName} {ret0 : Option FieldType} {ad0 : Nat → Nat → Nat} {σ0 : lpM} {sz : Nat} {Q0 : Option Int32 → lpM → Prop}
variable {fl pf : List (Nat × Nat × Nat)} {kc : List (Nat × Int32)} {cs : List (Nat × Option Nat × Nat × lpS)} {bl : Bool}
theorem lp_one {D : va_G} {cl : List vw_C} {q : Nat × va_E} {H : Heap} (h : va_at D cl q H) : va_P D cl [q] H := fun k q' hk => by
  rcases k with _ | k
  · cases hk; exact h
  · simp at hk
theorem lp_At_set {R : Room} {s : State} {nL : Nat} {ad : Nat → Nat → Nat} {σ : lpM} {H : Heap} {locs : List Loc} {cells slots : Nat} {ls ls' : Array Slot} {L : lpL} {i : Nat} {v : lpV} (A : lp_At D cI cD R s ad0 σ0 sz nL ad σ H locs cells slots ls L) (hv : lp_ok σ v)
    (hl : lv_has ls' L.length ((i, lp_cv ad v) :: (lp_kl ad 0 L).filter (fun q => !(q.1 == i) && !(q.1 + 1 == i && q.2.category == 2)))) : lp_At D cI cD R s ad0 σ0 sz nL ad σ H locs cells slots ls' (lp_set L i (some v)) := by
  obtain ⟨a1, a2, a3, a4, ⟨b1, b2, b3⟩, c1, c2⟩ := A
  exact ⟨a1, a2, a3, a4, ⟨lp_loc_put hl, lp_ok_set b2 hv, by rw [lp_set_len]; exact b3⟩, c1, c2⟩
set_option maxHeartbeats 8000000 in
set_option maxRecDepth 10000 in
theorem lp_instr (hx : p.tables.exec = Jvm.exec) (hb : c.code = cc) (hml : c.maxLocals = nL) (hown : s.vm.findClass own = some m.cls) (hts : ∀ w ∈ (Cond.code y0 cc nL ret0 :: lp_tbl), w.before args s = true) (hWd : lp_Wd D cI cD s)
    (hR : R.frames = h ∧ R.locals = 36 * h) (hRc : R.cells = 3 * lp_dead σ0 ∧ R.slots = 124 * lp_dead σ0) (hsz0 : s.heap.size = sz) (hr : meth.sig.returnType = ret0) (hlocks : meth.locks = false) (hret : ret0 = none ∨ ret0 = some .int ∨ (ret0 = some .boolean ∧ bl = true))
    (hfl : fl.all (lp_flb own) = true) (hpf : pf.all (lp_pfb own) = true) (hkc : kc.all (lp_kcb own) = true) (hcs : ∀ x ∈ cs, lp_CallOK l D cI cD own h x)
    {ad : Nat → Nat → Nat} {σ : lpM} {H : Heap} {locs : List Loc} {cells slots : Nat} {ls : Array Slot} {L : lpL} {st : List lpV} {pc len : Nat} {I : Instr}
    (A : lp_At D cI cD R s ad0 σ0 sz nL ad σ H locs cells slots ls L) (hok : ∀ v ∈ st, lp_ok σ v) (hd : decode cc pc = .ok (I, len)) (hlen : lp_lenb I len = true) (hnn : lp_nnb pc I = true) (hrt : lp_rtb ret0 I = true)
    {nx : lpL → List lpV → lpM → Prop} {jp : Int → lpL → List lpV → lpM → Prop} (hI : lp_I fl pf kc cs bl I L st σ nx jp Q0)
    (hnx : ∀ (L' : lpL) (st' : List lpV) (σ' : lpM) (ad' : Nat → Nat → Nat) (H' : Heap) (locs' : List Loc) (cells' slots' : Nat) (ls' : Array Slot), nx L' st' σ' → lp_At D cI cD R s ad0 σ0 sz nL ad' σ' H' locs' cells' slots' ls' L' → (∀ v ∈ st', lp_ok σ' v) → W p l e R s m args below meth c H' locs' cells' slots' (MQ below (lp_Qc D cI cD ad0 σ0 sz Q0) args s R.cells R.slots (lp_Dom ad0 σ0 sz)) (F0 m (pc + len) ls' (st'.map (lp_cv ad'))))
    (hjp : ∀ (o : Int) (L' : lpL) (st' : List lpV) (σ' : lpM) (ad' : Nat → Nat → Nat) (H' : Heap) (locs' : List Loc) (cells' slots' : Nat) (ls' : Array Slot), jp o L' st' σ' → lp_At D cI cD R s ad0 σ0 sz nL ad' σ' H' locs' cells' slots' ls' L' → (∀ v ∈ st', lp_ok σ' v) → ∃ tgt : Nat, (pc : Int) + o = (tgt : Int) ∧ W p l e R s m args below meth c H' locs' cells' slots' (MQ below (lp_Qc D cI cD ad0 σ0 sz Q0) args s R.cells R.slots (lp_Dom ad0 σ0 sz)) (F0 m tgt ls' (st'.map (lp_cv ad')))) :
    W p l e R s m args below meth c H locs cells slots (MQ below (lp_Qc D cI cD ad0 σ0 sz Q0) args s R.cells R.slots (lp_Dom ad0 σ0 sz)) (F0 m pc ls (st.map (lp_cv ad))) := by
  have T : ∀ w ∈ lp_tbl, w.before args s = true := fun w hw => hts w (List.mem_cons_of_mem _ hw)
  obtain ⟨a1, a2, a3, a4, ⟨b1, b2, b3⟩, ⟨c1, c2⟩, c3, c4⟩ := id A
  have okc : ∀ {v : lpV} {st : List lpV}, lp_ok σ v → (∀ w ∈ st, lp_ok σ w) → ∀ w ∈ v :: st, lp_ok σ w := fun h1 h2 w hw => by
    rcases List.mem_cons.mp hw with rfl | h
    · exact h1
    · exact h2 w h
  cases I
  case iconst n =>
    obtain rfl := Nat.eq_of_beq_eq_true hlen
    exact lv_iconst hx hb hd rfl (hnx _ _ _ _ _ _ _ _ _ hI A (okc trivial hok))
  case bipush n =>
    obtain rfl := Nat.eq_of_beq_eq_true hlen
    exact lv_bipush hx hb hd rfl (hnx _ _ _ _ _ _ _ _ _ hI A (okc trivial hok))
  case sipush n =>
    obtain rfl := Nat.eq_of_beq_eq_true hlen
    exact lv_sipush hx hb hd rfl (hnx _ _ _ _ _ _ _ _ _ hI A (okc trivial hok))
  case ldc i =>
    obtain rfl := Nat.eq_of_beq_eq_true hlen
    simp only [lp_I] at hI
    cases hk : lp_kc kc i with
    | none => rw [hk] at hI; exact hI.elim
    | some v =>
      rw [hk] at hI
      have := List.all_eq_true.mp hkc _ (lp_kc_mem hk)
      exact lv_ldc hx hb hown (T _ (of_decide_eq_true this)) hd (hnx _ _ _ _ _ _ _ _ _ hI A (okc trivial hok))
  case iload_n i =>
    obtain rfl := Nat.eq_of_beq_eq_true hlen
    simp only [lp_I] at hI
    rcases hk : lp_nth L i.val with _ | _ | x | x <;> rw [hk] at hI <;> try exact hI.elim
    exact lv_iload_n hx hb hd rfl (lp_loc_at b1 hk) (hnx _ _ _ _ _ _ _ _ _ hI A (okc trivial hok))
  case iload i =>
    obtain rfl := Nat.eq_of_beq_eq_true hlen
    simp only [lp_I] at hI
    rcases hk : lp_nth L i with _ | _ | x | x <;> rw [hk] at hI <;> try exact hI.elim
    exact lv_iload hx hb hd (lp_loc_at b1 hk) (hnx _ _ _ _ _ _ _ _ _ hI A (okc trivial hok))
  case aload_n i =>
    obtain rfl := Nat.eq_of_beq_eq_true hlen
    simp only [lp_I] at hI
    rcases hk : lp_nth L i.val with _ | _ | x | _ | x <;> rw [hk] at hI <;> try exact hI.elim
    · exact lv_aload_nN hx hb hd rfl (lp_loc_at b1 hk) (hnx _ _ _ _ _ _ _ _ _ hI A (okc trivial hok))
    · exact lv_aload_n hx hb hd rfl (lp_loc_at b1 hk) (hnx _ _ _ _ _ _ _ _ _ hI A (okc (b2 _ (by rw [lp_nth_eq] at hk; exact List.mem_of_getElem? hk)) hok))
  case aload i =>
    obtain rfl := Nat.eq_of_beq_eq_true hlen
    simp only [lp_I] at hI
    rcases hk : lp_nth L i with _ | _ | x | _ | x <;> rw [hk] at hI <;> try exact hI.elim
    · exact lv_aloadN hx hb hd (lp_loc_at b1 hk) (hnx _ _ _ _ _ _ _ _ _ hI A (okc trivial hok))
    · exact lv_aload hx hb hd (lp_loc_at b1 hk) (hnx _ _ _ _ _ _ _ _ _ hI A (okc (b2 _ (by rw [lp_nth_eq] at hk; exact List.mem_of_getElem? hk)) hok))
  case istore_n i =>
    obtain rfl := Nat.eq_of_beq_eq_true hlen
    rcases st with _ | ⟨x | x, st⟩ <;> try exact (hI : False).elim
    simp only [lp_I] at hI
    cases hlt : Nat.blt i.val (lp_len L) with
    | false => rw [hlt] at hI; exact hI.elim
    | true =>
      rw [hlt] at hI
      rw [Nat.blt_eq, lp_len_eq] at hlt
      exact lv_istore_n hx hb hd rfl b1 hlt rfl (fun ls' hl => hnx _ _ _ _ _ _ _ _ _ hI (lp_At_set A trivial hl) (fun v hv => hok v (List.mem_cons_of_mem _ hv)))
  case istore i =>
    obtain rfl := Nat.eq_of_beq_eq_true hlen
    rcases st with _ | ⟨x | x, st⟩ <;> try exact (hI : False).elim
    simp only [lp_I] at hI
    cases hlt : Nat.blt i (lp_len L) with
    | false => rw [hlt] at hI; exact hI.elim
    | true =>
      rw [hlt] at hI
      rw [Nat.blt_eq, lp_len_eq] at hlt
      exact lv_istore hx hb hd b1 hlt rfl (fun ls' hl => hnx _ _ _ _ _ _ _ _ _ hI (lp_At_set A trivial hl) (fun v hv => hok v (List.mem_cons_of_mem _ hv)))
  case astore_n i =>
    obtain rfl := Nat.eq_of_beq_eq_true hlen
    rcases st with _ | ⟨x | x, st⟩ <;> try exact (hI : False).elim
    simp only [lp_I] at hI
    cases hlt : Nat.blt i.val (lp_len L) with
    | false => rw [hlt] at hI; exact hI.elim
    | true =>
      rw [hlt] at hI
      rw [Nat.blt_eq, lp_len_eq] at hlt
      rcases x with _ | x
      · exact lv_astore_nN hx hb hd rfl b1 hlt rfl (fun ls' hl => hnx _ _ _ _ _ _ _ _ _ hI (lp_At_set A trivial hl) (fun v hv => hok v (List.mem_cons_of_mem _ hv)))
      · exact lv_astore_n hx hb hd rfl b1 hlt rfl (fun ls' hl => hnx _ _ _ _ _ _ _ _ _ hI (lp_At_set A (hok _ List.mem_cons_self) hl) (fun v hv => hok v (List.mem_cons_of_mem _ hv)))
  case astore i =>
    obtain rfl := Nat.eq_of_beq_eq_true hlen
    rcases st with _ | ⟨x | x, st⟩ <;> try exact (hI : False).elim
    simp only [lp_I] at hI
    cases hlt : Nat.blt i (lp_len L) with
    | false => rw [hlt] at hI; exact hI.elim
    | true =>
      rw [hlt] at hI
      rw [Nat.blt_eq, lp_len_eq] at hlt
      rcases x with _ | x
      · exact lv_astoreN hx hb hd b1 hlt rfl (fun ls' hl => hnx _ _ _ _ _ _ _ _ _ hI (lp_At_set A trivial hl) (fun v hv => hok v (List.mem_cons_of_mem _ hv)))
      · exact lv_astore hx hb hd b1 hlt rfl (fun ls' hl => hnx _ _ _ _ _ _ _ _ _ hI (lp_At_set A (hok _ List.mem_cons_self) hl) (fun v hv => hok v (List.mem_cons_of_mem _ hv)))
  case iinc i n =>
    obtain rfl := Nat.eq_of_beq_eq_true hlen
    simp only [lp_I] at hI
    rcases hk : lp_nth L i with _ | _ | x | x <;> rw [hk] at hI <;> try exact hI.elim
    have hm := lp_kl_mem (ad := ad) (j := 0) hk
    rw [Nat.zero_add] at hm
    obtain ⟨k, hk2⟩ := List.getElem?_of_mem hm
    have hlt : i < L.length := by rw [lp_nth_eq] at hk; exact (List.getElem?_eq_some_iff.mp hk).1
    exact lv_iinc hx hb hd b1 hk2 rfl hlt rfl (fun ls' hl => hnx _ _ _ _ _ _ _ _ _ hI (lp_At_set A trivial hl) hok)
  case iadd =>
    obtain rfl := Nat.eq_of_beq_eq_true hlen
    rcases st with _ | ⟨y | y, _ | ⟨x | x, st⟩⟩ <;> try exact (hI : False).elim
    exact lv_iadd hx hb hd (hnx _ _ _ _ _ _ _ _ _ hI A (okc trivial (fun v hv => hok v (List.mem_cons_of_mem _ (List.mem_cons_of_mem _ hv)))))
  case isub =>
    obtain rfl := Nat.eq_of_beq_eq_true hlen
    rcases st with _ | ⟨y | y, _ | ⟨x | x, st⟩⟩ <;> try exact (hI : False).elim
    exact lv_isub hx hb hd (hnx _ _ _ _ _ _ _ _ _ hI A (okc trivial (fun v hv => hok v (List.mem_cons_of_mem _ (List.mem_cons_of_mem _ hv)))))
  case imul =>
    obtain rfl := Nat.eq_of_beq_eq_true hlen
    rcases st with _ | ⟨y | y, _ | ⟨x | x, st⟩⟩ <;> try exact (hI : False).elim
    exact lv_imul hx hb hd (hnx _ _ _ _ _ _ _ _ _ hI A (okc trivial (fun v hv => hok v (List.mem_cons_of_mem _ (List.mem_cons_of_mem _ hv)))))
  case idiv =>
    obtain rfl := Nat.eq_of_beq_eq_true hlen
    rcases st with _ | ⟨y | y, _ | ⟨x | x, st⟩⟩ <;> try exact (hI : False).elim
    obtain ⟨hz, hI⟩ := hI
    exact lv_idiv hx hb hd hz (hnx _ _ _ _ _ _ _ _ _ hI A (okc trivial (fun v hv => hok v (List.mem_cons_of_mem _ (List.mem_cons_of_mem _ hv)))))
  case irem =>
    obtain rfl := Nat.eq_of_beq_eq_true hlen
    rcases st with _ | ⟨y | y, _ | ⟨x | x, st⟩⟩ <;> try exact (hI : False).elim
    obtain ⟨hz, hI⟩ := hI
    exact lv_irem hx hb hd hz (hnx _ _ _ _ _ _ _ _ _ hI A (okc trivial (fun v hv => hok v (List.mem_cons_of_mem _ (List.mem_cons_of_mem _ hv)))))
  case dup =>
    obtain rfl := Nat.eq_of_beq_eq_true hlen
    rcases st with _ | ⟨v, st⟩ <;> try exact (hI : False).elim
    exact lv_dup hx hb hd (lp_cat ad v) (hnx _ _ _ _ _ _ _ _ _ hI A (okc (hok _ List.mem_cons_self) hok))
  case dup2 =>
    obtain rfl := Nat.eq_of_beq_eq_true hlen
    rcases st with _ | ⟨v, _ | ⟨w, st⟩⟩ <;> try exact (hI : False).elim
    exact lv_dup2_11 hx hb hd (lp_cat ad v) (lp_cat ad w) (hnx _ _ _ _ _ _ _ _ _ hI A (okc (hok _ List.mem_cons_self) (okc (hok _ (List.mem_cons_of_mem _ List.mem_cons_self)) hok)))
  case pop =>
    obtain rfl := Nat.eq_of_beq_eq_true hlen
    rcases st with _ | ⟨v, st⟩ <;> try exact (hI : False).elim
    exact lv_pop hx hb hd (lp_cat ad v) (hnx _ _ _ _ _ _ _ _ _ hI A (fun v hv => hok v (List.mem_cons_of_mem _ hv)))
  case goto o =>
    obtain rfl := Nat.eq_of_beq_eq_true hlen
    obtain ⟨t, ht, w⟩ := hjp _ _ _ _ _ _ _ _ _ _ hI A hok
    exact lv_goto hx hb hd ht w
  case if_icmp cnd o =>
    obtain rfl := Nat.eq_of_beq_eq_true hlen
    rcases st with _ | ⟨y | y, _ | ⟨x | x, st⟩⟩ <;> try exact (hI : False).elim
    have hok2 : ∀ v ∈ st, lp_ok σ v := fun v hv => hok v (List.mem_cons_of_mem _ (List.mem_cons_of_mem _ hv))
    obtain ⟨t0, ht0⟩ : ∃ t : Nat, (pc : Int) + o = (t : Int) := ⟨((pc : Int) + o).toNat, (Int.toNat_of_nonneg (of_decide_eq_true hnn)).symm⟩
    have J : jp o L st σ → W p l e R s m args below meth c H locs cells slots (MQ below (lp_Qc D cI cD ad0 σ0 sz Q0) args s R.cells R.slots (lp_Dom ad0 σ0 sz)) (F0 m t0 ls (st.map (lp_cv ad))) := fun hj => by
      obtain ⟨t, ht, w⟩ := hjp _ _ _ _ _ _ _ _ _ _ hj A hok2
      obtain rfl : t = t0 := by omega
      exact w
    cases cnd
    case eq => exact lv_icmp_eq hx hb hd ht0 (fun q => J (hI.1 q)) (fun q => hnx _ _ _ _ _ _ _ _ _ (hI.2 q) A hok2)
    case ne => exact lv_icmp_ne hx hb hd ht0 (fun q => J (hI.1 q)) (fun q => hnx _ _ _ _ _ _ _ _ _ (hI.2 q) A hok2)
    case lt => exact lv_icmp_lt hx hb hd ht0 (fun q => J (hI.1 q)) (fun q => hnx _ _ _ _ _ _ _ _ _ (hI.2 q) A hok2)
    case ge => exact lv_icmp_ge hx hb hd ht0 (fun q => J (hI.1 q)) (fun q => hnx _ _ _ _ _ _ _ _ _ (hI.2 q) A hok2)
    case gt => exact lv_icmp_gt hx hb hd ht0 (fun q => J (hI.1 q)) (fun q => hnx _ _ _ _ _ _ _ _ _ (hI.2 q) A hok2)
    case le => exact lv_icmp_le hx hb hd ht0 (fun q => J (hI.1 q)) (fun q => hnx _ _ _ _ _ _ _ _ _ (hI.2 q) A hok2)
  case ifCond cnd o =>
    obtain rfl := Nat.eq_of_beq_eq_true hlen
    rcases st with _ | ⟨x | x, st⟩ <;> try exact (hI : False).elim
    have hok2 : ∀ v ∈ st, lp_ok σ v := fun v hv => hok v (List.mem_cons_of_mem _ hv)
    obtain ⟨t0, ht0⟩ : ∃ t : Nat, (pc : Int) + o = (t : Int) := ⟨((pc : Int) + o).toNat, (Int.toNat_of_nonneg (of_decide_eq_true hnn)).symm⟩
    have J : jp o L st σ → W p l e R s m args below meth c H locs cells slots (MQ below (lp_Qc D cI cD ad0 σ0 sz Q0) args s R.cells R.slots (lp_Dom ad0 σ0 sz)) (F0 m t0 ls (st.map (lp_cv ad))) := fun hj => by
      obtain ⟨t, ht, w⟩ := hjp _ _ _ _ _ _ _ _ _ _ hj A hok2
      obtain rfl : t = t0 := by omega
      exact w
    cases cnd
    case eq => exact lv_if_eq hx hb hd ht0 (fun q => J (hI.1 q)) (fun q => hnx _ _ _ _ _ _ _ _ _ (hI.2 q) A hok2)
    case ne => exact lv_if_ne hx hb hd ht0 (fun q => J (hI.1 q)) (fun q => hnx _ _ _ _ _ _ _ _ _ (hI.2 q) A hok2)
    case lt => exact lv_if_lt hx hb hd ht0 (fun q => J (hI.1 q)) (fun q => hnx _ _ _ _ _ _ _ _ _ (hI.2 q) A hok2)
    case ge => exact lv_if_ge hx hb hd ht0 (fun q => J (hI.1 q)) (fun q => hnx _ _ _ _ _ _ _ _ _ (hI.2 q) A hok2)
    case gt => exact lv_if_gt hx hb hd ht0 (fun q => J (hI.1 q)) (fun q => hnx _ _ _ _ _ _ _ _ _ (hI.2 q) A hok2)
    case le => exact lv_if_le hx hb hd ht0 (fun q => J (hI.1 q)) (fun q => hnx _ _ _ _ _ _ _ _ _ (hI.2 q) A hok2)
  case ifnull o =>
    obtain rfl := Nat.eq_of_beq_eq_true hlen
    rcases st with _ | ⟨x | _ | x, st⟩ <;> try exact (hI : False).elim
    all_goals have hok2 : ∀ v ∈ st, lp_ok σ v := fun v hv => hok v (List.mem_cons_of_mem _ hv)
    · obtain ⟨t, ht, w⟩ := hjp _ _ _ _ _ _ _ _ _ _ hI A hok2
      exact lv_ifnullN hx hb hd ht w
    · exact lv_ifnull hx hb hd (hnx _ _ _ _ _ _ _ _ _ hI A hok2)
  case ifnonnull o =>
    obtain rfl := Nat.eq_of_beq_eq_true hlen
    rcases st with _ | ⟨x | _ | x, st⟩ <;> try exact (hI : False).elim
    all_goals have hok2 : ∀ v ∈ st, lp_ok σ v := fun v hv => hok v (List.mem_cons_of_mem _ hv)
    · exact lv_ifnonnullN hx hb hd (hnx _ _ _ _ _ _ _ _ _ hI A hok2)
    · obtain ⟨t, ht, w⟩ := hjp _ _ _ _ _ _ _ _ _ _ hI A hok2
      exact lv_ifnonnull hx hb hd ht w
  case tableswitch dflt lo hi offs =>
    rcases st with _ | ⟨x | x, st⟩ <;> try exact (hI : False).elim
    have hok2 : ∀ v ∈ st, lp_ok σ v := fun v hv => hok v (List.mem_cons_of_mem _ hv)
    obtain ⟨h1, h2⟩ := hI
    by_cases hq : x.toInt < lo ∨ hi < x.toInt
    · obtain ⟨t, ht, w⟩ := hjp _ _ _ _ _ _ _ _ _ _ (h1 hq) A hok2
      exact lv_tableOut hx hb hd hq ht w
    · have key : ∀ (os : List Int) (b : Int), lp_sw x (fun o => jp o L st σ) b os → b ≤ x.toInt → x.toInt < b + os.length → ∃ o, os[(x.toInt - b).toNat]? = some o ∧ jp o L st σ := by
        intro os
        induction os with
        | nil => intro b _ q1 q2; simp at q2; omega
        | cons o os ih =>
          intro b hs q1 q2
          by_cases e : x.toInt = b
          · exact ⟨o, by rw [e]; simp, hs.1 e⟩
          · obtain ⟨o', g1, g2⟩ := ih (b + 1) hs.2 (by omega) (by simp at q2; omega)
            refine ⟨o', ?_, g2⟩
            rw [show (x.toInt - b).toNat = (x.toInt - (b + 1)).toNat + 1 by omega]
            simpa using g1
      obtain ⟨o, g1, g2⟩ := key offs.toList lo h2 (by omega) (by have := of_decide_eq_true hnn; omega)
      obtain ⟨t, ht, w⟩ := hjp _ _ _ _ _ _ _ _ _ _ g2 A hok2
      exact lv_tableIn hx hb hd (by omega) (by omega) (by rw [← Array.getElem?_toList]; exact g1) ht w
  case arraylength =>
    obtain rfl := Nat.eq_of_beq_eq_true hlen
    rcases st with _ | ⟨x | _ | ⟨r, k⟩, st⟩ <;> try exact (hI : False).elim
    have hok2 : ∀ v ∈ st, lp_ok σ v := fun v hv => hok v (List.mem_cons_of_mem _ hv)
    have hlive : lp_live σ r k := hok _ List.mem_cons_self
    have hat := a1.1 r k hlive
    simp only [lp_I] at hI
    rcases hl : lp_lay r with _ | ⟨ci, fs⟩ | len | ⟨len, r', ix⟩ <;> rw [hl] at hI <;> try exact hI.elim
    · have hcell : lp_cell cI cD ad σ r k = .inl (cI, len k, .inl (σ r k)) := by simp [lp_cell, hl]
      rw [hcell] at hat
      exact va_alen hx hb hWd.1 (lp_one hat) 0 0 rfl rfl rfl hd (hnx _ _ _ _ _ _ _ _ _ hI A (okc trivial hok2))
    · have hcell : lp_cell cI cD ad σ r k = .inl (cD, len k, .inr (.inr (.inr (.inr (lp_rf ad σ r k r' ix))))) := by simp [lp_cell, hl]
      rw [hcell] at hat
      exact va_alen hx hb hWd.1 (lp_one hat) 0 1 rfl rfl rfl hd (hnx _ _ _ _ _ _ _ _ _ hI A (okc trivial hok2))
  case iaload =>
    obtain rfl := Nat.eq_of_beq_eq_true hlen
    rcases st with _ | ⟨i | i, _ | ⟨x | _ | ⟨r, k⟩, st⟩⟩ <;> try exact (hI : False).elim
    have hok2 : ∀ v ∈ st, lp_ok σ v := fun v hv => hok v (List.mem_cons_of_mem _ (List.mem_cons_of_mem _ hv))
    have hlive : lp_live σ r k := hok _ (List.mem_cons_of_mem _ List.mem_cons_self)
    have hat := a1.1 r k hlive
    simp only [lp_I] at hI
    rcases hl : lp_lay r with _ | ⟨ci, fs⟩ | len | ⟨len, r', ix⟩ <;> rw [hl] at hI <;> try exact hI.elim
    have hcell : lp_cell cI cD ad σ r k = .inl (cI, len k, .inl (σ r k)) := by simp [lp_cell, hl]
    rw [hcell] at hat
    exact va_iald hx hb hWd.1 (lp_one hat) 0 0 rfl rfl hI.1 hd (hnx _ _ _ _ _ _ _ _ _ hI.2 A (okc trivial hok2))
  case iastore =>
    obtain rfl := Nat.eq_of_beq_eq_true hlen
    rcases st with _ | ⟨y | y, _ | ⟨i | i, _ | ⟨x | _ | ⟨r, k⟩, st⟩⟩⟩ <;> try exact (hI : False).elim
    have hok2 : ∀ v ∈ st, lp_ok σ v := fun v hv => hok v (List.mem_cons_of_mem _ (List.mem_cons_of_mem _ (List.mem_cons_of_mem _ hv)))
    have hlive : lp_live σ r k := hok _ (List.mem_cons_of_mem _ (List.mem_cons_of_mem _ List.mem_cons_self))
    have hat := a1.1 r k hlive
    simp only [lp_I] at hI
    rcases hl : lp_lay r with _ | ⟨ci, fs⟩ | len | ⟨len, r', ix⟩ <;> rw [hl] at hI <;> try exact hI.elim
    have hcell : lp_cell cI cD ad σ r k = .inl (cI, len k, .inl (σ r k)) := by simp [lp_cell, hl]
    rw [hcell] at hat
    have h9 := lp_lay9 hl
    refine lp_iast hx hb (hWd.1.2 0 _ rfl).1 hat hI.1 hd (fun H1 j e1 z ho ht => ?_)
    have hc2 : lp_cell cI cD ad (lp_w3 σ r k i.toNatClampNeg y) r k = .inl (cI, len k, .inl (upd (σ r k) i.toNatClampNeg y)) := by simp [lp_cell, hl, lp_w3_same]
    exact hnx _ _ _ _ _ _ _ _ _ hI.2 (lp_At_put A h9 hlive (by rw [hc2]; exact e1) z ho ht) (fun v hv => (lp_ok_w3 h9 v).mpr (hok2 v hv))
  case aaload =>
    obtain rfl := Nat.eq_of_beq_eq_true hlen
    rcases st with _ | ⟨i | i, _ | ⟨x | _ | ⟨r, k⟩, st⟩⟩ <;> try exact (hI : False).elim
    have hok2 : ∀ v ∈ st, lp_ok σ v := fun v hv => hok v (List.mem_cons_of_mem _ (List.mem_cons_of_mem _ hv))
    have hlive : lp_live σ r k := hok _ (List.mem_cons_of_mem _ List.mem_cons_self)
    have hat := a1.1 r k hlive
    simp only [lp_I] at hI
    rcases hl : lp_lay r with _ | ⟨ci, fs⟩ | len | ⟨len, r', ix⟩ <;> rw [hl] at hI <;> try exact hI.elim
    have hcell : lp_cell cI cD ad σ r k = .inl (cD, len k, .inr (.inr (.inr (.inr (lp_rf ad σ r k r' ix))))) := by simp [lp_cell, hl]
    rw [hcell] at hat
    obtain ⟨hin, hz, hnz⟩ := hI
    have hlt : i.toNatClampNeg < len k := Nat.not_le.mp fun q => hin (Or.inr q)
    refine va_aldq hx hb hWd.1 (lp_one hat) 0 1 rfl rfl hin hd ?_
    by_cases q : σ r k i.toNatClampNeg = 0
    · have e : va_rf (lp_rf ad σ r k r' ix i.toNatClampNeg) = lp_cv ad (.inr none) := by simp [lp_rf, q, va_rf, lp_cv]
      rw [e]
      exact hnx _ _ _ _ _ _ _ _ _ (hz q) A (okc trivial hok2)
    · have e : va_rf (lp_rf ad σ r k r' ix i.toNatClampNeg) = lp_cv ad (.inr (some (r', ix i.toNatClampNeg))) := by simp [lp_rf, q, va_rf, lp_cv]
      rw [e]
      exact hnx _ _ _ _ _ _ _ _ _ (hnz q) A (okc (lp_live_ref hlive hl hlt q) hok2)
  case getfield i =>
    obtain rfl := Nat.eq_of_beq_eq_true hlen
    rcases st with _ | ⟨x | _ | ⟨r, k⟩, st⟩ <;> try exact (hI : False).elim
    have hok2 : ∀ v ∈ st, lp_ok σ v := fun v hv => hok v (List.mem_cons_of_mem _ hv)
    have hlive : lp_live σ r k := hok _ List.mem_cons_self
    have hat := a1.1 r k hlive
    simp only [lp_I] at hI
    rcases hf : lp_fl fl i with _ | ⟨ci, j⟩ <;> rw [hf] at hI <;> try exact hI.elim
    rcases hl : lp_lay r with _ | ⟨cj, fs⟩ | len | ⟨len, r', ix⟩ <;> rw [hl] at hI <;> try exact hI.elim
    replace hI : (bif Nat.beq ci cj then (match lp_nth fs j with
        | some none => nx L (.inl (σ r k j) :: st) σ
        | some (some (r', g)) => nx L (.inr (some (r', g k)) :: st) σ
        | none => False) else False) := hI
    cases hcj : Nat.beq ci cj with
    | false => rw [hcj] at hI; exact hI.elim
    | true =>
    rw [hcj, cond_true] at hI
    obtain rfl := Nat.eq_of_beq_eq_true hcj
    have hcell : lp_cell cI cD ad σ r k = .inr (ci, lp_fv ad σ r k 0 fs) := by simp [lp_cell, hl]
    rw [hcell] at hat
    have hb1 := List.all_eq_true.mp hfl _ (lp_fl_mem hf)
    unfold lp_flb at hb1
    rcases hv : vwCl[ci]? with _ | ⟨C, TT, N⟩ <;> simp only [hv] at hb1
    · cases hb1
    simp only [Bool.and_eq_true, Bool.or_eq_true, decide_eq_true_eq] at hb1
    obtain ⟨hjN, hlnk⟩ := hb1
    obtain ⟨hu, -, -⟩ := lp_cls hv
    have G : ∀ v : lpV, lp_ok σ v → (lp_fv ad σ r k 0 fs)[j]? = some (lp_cv ad v) → nx L (v :: st) σ → W p l e R s m args below meth c H locs cells slots (MQ below (lp_Qc D cI cD ad0 σ0 sz Q0) args s R.cells R.slots (lp_Dom ad0 σ0 sz)) (F0 m pc ls (.ref (ad r k) :: st.map (lp_cv ad))) := by
      intro v hvok hfv hn
      have w := hnx _ _ _ _ _ _ _ _ _ hn A (okc hvok hok2)
      rcases hlnk with q | q
      · exact va_get hx hb T hu hown hWd.1 (lp_one hat) 0 rfl hv j hjN (T _ q) (fun _ h9 => h9) hfv hd w
      · obtain ⟨w0, hw0, hw1⟩ := List.any_eq_true.mp q
        cases w0 <;> simp only [Bool.false_eq_true] at hw1
        rename_i e1 e2 e3 e4 e5 e6
        simp only [Bool.and_eq_true, decide_eq_true_eq] at hw1
        obtain ⟨⟨⟨⟨rfl, rfl⟩, rfl⟩, rfl⟩, rfl⟩ := hw1
        exact va_getN hx hb T hu hown hWd.1 (lp_one hat) 0 rfl hv j hjN (va_Nw.use rfl (hWd.2 _ hw0)) (fun _ h9 => h9) hfv hd w
    rcases hn : lp_nth fs j with _ | _ | ⟨r', g⟩ <;> rw [hn] at hI <;> try exact hI.elim
    · exact G (.inl (σ r k j)) trivial (by have := lp_fv_int (ad := ad) (σ := σ) (r := r) (k := k) (j := 0) hn; rw [Nat.zero_add] at this; exact this) hI
    · exact G (.inr (some (r', g k))) (lp_live_field hlive hl hn) (lp_fv_ref hn) hI
  case putfield i =>
    obtain rfl := Nat.eq_of_beq_eq_true hlen
    rcases st with _ | ⟨y | y, _ | ⟨x | _ | ⟨r, k⟩, st⟩⟩ <;> try exact (hI : False).elim
    have hok2 : ∀ v ∈ st, lp_ok σ v := fun v hv => hok v (List.mem_cons_of_mem _ (List.mem_cons_of_mem _ hv))
    have hlive : lp_live σ r k := hok _ (List.mem_cons_of_mem _ List.mem_cons_self)
    have hat := a1.1 r k hlive
    simp only [lp_I] at hI
    rcases hf : lp_fl pf i with _ | ⟨ci, j⟩ <;> rw [hf] at hI <;> try exact hI.elim
    rcases hl : lp_lay r with _ | ⟨cj, fs⟩ | len | ⟨len, r', ix⟩ <;> rw [hl] at hI <;> try exact hI.elim
    replace hI : (bif Nat.beq ci cj then (match lp_nth fs j with
        | some none => nx L st (lp_w3 σ r k j y)
        | _ => False) else False) := hI
    cases hcj : Nat.beq ci cj with
    | false => rw [hcj] at hI; exact hI.elim
    | true =>
    rw [hcj, cond_true] at hI
    obtain rfl := Nat.eq_of_beq_eq_true hcj
    rcases hn : lp_nth fs j with _ | _ | ⟨r', g⟩ <;> rw [hn] at hI <;> try exact hI.elim
    have hcell : lp_cell cI cD ad σ r k = .inr (ci, lp_fv ad σ r k 0 fs) := by simp [lp_cell, hl]
    rw [hcell] at hat
    have hb1 := List.all_eq_true.mp hpf _ (lp_fl_mem hf)
    unfold lp_pfb at hb1
    rcases hv : vwCl[ci]? with _ | ⟨C, TT, N⟩ <;> simp only [hv] at hb1
    · cases hb1
    simp only [Bool.and_eq_true, decide_eq_true_eq] at hb1
    obtain ⟨⟨⟨hjN, hlnk⟩, hfin⟩, hpd⟩ := hb1
    obtain ⟨hu, ⟨ty0, hty⟩, hnm⟩ := lp_cls hv
    have h9 := lp_lay9o hl
    have hjl : j < (lp_fv ad σ r k 0 fs).length := by
      rw [lp_fv_len]
      rw [lp_nth_eq] at hn
      exact (List.getElem?_eq_some_iff.mp hn).1
    refine lp_put hx hb T hu ty0 hty hnm hown hWd.1 hat hv j hjN (T _ hlnk) (fun _ h9 => h9) hfin hpd (vp_nar_int y) rfl hjl hd (fun H1 j' e1 z ho ht => ?_)
    have hc2 : lp_cell cI cD ad (lp_w3 σ r k j y) r k = .inr (ci, (lp_fv ad σ r k 0 fs).set j (.int y)) := by
      have := lp_fv_w3 (ad := ad) (σ := σ) (r := r) (k := k) (x := y) (j := 0) hn
      rw [Nat.zero_add] at this
      simp [lp_cell, hl, this]
    exact hnx _ _ _ _ _ _ _ _ _ hI (lp_At_put A h9 hlive (by rw [hc2]; exact e1) z ho ht) (fun v hv => (lp_ok_w3 h9 v).mpr (hok2 v hv))
  case invokevirtual i =>
    obtain rfl := Nat.eq_of_beq_eq_true hlen
    simp only [lp_I] at hI
    rcases hc : lp_cs cs i with _ | ⟨_ | ci, n, spec⟩ <;> rw [hc] at hI <;> try exact hI.elim
    replace hI : (match lp_pop n st [] with
      | some (as, .inr (some (r, k)) :: st) => (match lp_lay r with
        | some (.inl (cj, _)) => bif Nat.beq ci cj && Nat.ble (lp_len st) 8 then spec (.inr (some (r, k)) :: as) σ (fun ro σ => match ro with
          | some x => nx L (.inl x :: st) σ
          | none => nx L st σ) else False
        | _ => False)
      | _ => False) := hI
    rcases hp : lp_pop n st [] with _ | ⟨as, _ | ⟨x | _ | ⟨r, k⟩, st'⟩⟩ <;> rw [hp] at hI <;> try exact hI.elim
    replace hI : (match lp_lay r with
        | some (.inl (cj, _)) => bif Nat.beq ci cj && Nat.ble (lp_len st') 8 then spec (.inr (some (r, k)) :: as) σ (fun ro σ => match ro with
          | some x => nx L (.inl x :: st') σ
          | none => nx L st' σ) else False
        | _ => False) := hI
    obtain ⟨hp1, hp2⟩ := lp_pop_eq hp
    simp at hp1 hp2
    subst hp1
    rcases hl : lp_lay r with _ | ⟨cj, fs⟩ | len | ⟨len, r', ix⟩ <;> rw [hl] at hI <;> try exact hI.elim
    replace hI : (bif Nat.beq ci cj && Nat.ble (lp_len st') 8 then spec (.inr (some (r, k)) :: as) σ (fun ro σ => match ro with
          | some x => nx L (.inl x :: st') σ
          | none => nx L st' σ) else False) := hI
    cases hcj : (Nat.beq ci cj && Nat.ble (lp_len st') 8) with
    | false => rw [hcj] at hI; exact hI.elim
    | true =>
    rw [hcj, cond_true] at hI
    simp only [Bool.and_eq_true] at hcj
    obtain rfl := Nat.eq_of_beq_eq_true hcj.1
    have h8 : st'.length ≤ 8 := by rw [← lp_len_eq]; exact Nat.le_of_ble_eq_true hcj.2
    have hC : lp_CallC l D cI cD own h (i, some ci, n, spec) := by
      rcases hcs _ (lp_cs_mem hc) with q | q
      · exact q
      · cases q.1
    have key := lp_callS (ad0 := ad0) (σ0 := σ0) (Q := MQ below (lp_Qc D cI cD ad0 σ0 sz Q0) args s R.cells R.slots (lp_Dom ad0 σ0 sz)) (below := below) (meth := meth) (e := e) hx hb hml hown hts hWd hR hsz0 hC A (as := .inr (some (r, k)) :: as) (st := st') (by simp [hp2]) (fun v hv => by
        rcases List.mem_cons.mp hv with rfl | hv
        · exact hok _ (by simp)
        · exact hok _ (by simp [hv])) (fun v hv => hok v (by simp [hv])) h8 rfl hd (fun ci' hci => by cases hci; exact ⟨r, k, fs, rfl, hl⟩) hI
      (fun ro σ' ad' H' locs' cells' slots' hq hA hok' => by
        cases ro with
        | none => exact hnx _ _ _ _ _ _ _ _ _ hq hA hok'
        | some v => exact hnx _ _ _ _ _ _ _ _ _ hq hA (fun w hw => by
            rcases List.mem_cons.mp hw with rfl | hw
            · exact trivial
            · exact hok' w hw))
    simpa using key
  case invokestatic i =>
    obtain rfl := Nat.eq_of_beq_eq_true hlen
    simp only [lp_I] at hI
    rcases hc : lp_cs cs i with _ | ⟨_ | ci, n, spec⟩ <;> rw [hc] at hI <;> try exact hI.elim
    replace hI : (match lp_pop n st [] with
      | some (as, st) => bif Nat.ble (lp_len st) 8 then spec as σ (fun ro σ => match ro with
          | some x => nx L (.inl x :: st) σ
          | none => nx L st σ) else False
      | _ => False) := hI
    rcases hp : lp_pop n st [] with _ | ⟨as, st'⟩ <;> rw [hp] at hI <;> try exact hI.elim
    replace hI : (bif Nat.ble (lp_len st') 8 then spec as σ (fun ro σ => match ro with
          | some x => nx L (.inl x :: st') σ
          | none => nx L st' σ) else False) := hI
    obtain ⟨hp1, hp2⟩ := lp_pop_eq hp
    simp at hp1 hp2
    subst hp1
    cases hcj : (Nat.ble (lp_len st') 8) with
    | false => rw [hcj] at hI; exact hI.elim
    | true =>
    rw [hcj, cond_true] at hI
    have h8 : st'.length ≤ 8 := by rw [← lp_len_eq]; exact Nat.le_of_ble_eq_true hcj
    rcases hcs _ (lp_cs_mem hc) with hC | hC
    rotate_left
    · obtain ⟨-, hn2, hh1, hmi, hmm⟩ := hC
      have hn2 : n = 2 := hn2
      subst hn2
      have hsum : ((st'.map (lp_cv ad)).map fun v => v.category).sum + 13 ≤ R.locals := by
        have e : ((st'.map (lp_cv ad)).map fun v => v.category) = List.replicate st'.length 1 := by
          apply List.ext_getElem?
          intro i
          simp only [List.getElem?_map, List.getElem?_replicate]
          by_cases hi : i < st'.length
          · rw [List.getElem?_eq_getElem hi]
            simp [hi, lp_cat]
          · rw [List.getElem?_eq_none (by omega)]
            simp [hi]
        rw [e, hR.2]
        simp
        omega
      have hok3 : ∀ v ∈ st', lp_ok σ v := fun v hv => hok v (by simp [hv])
      have hls : c.maxLocals = ls.size := by rw [hml, b1.1, b3]
      rcases hmm with ⟨m1, m2, m3, m4⟩ | ⟨m1, m2, m3, m4⟩ <;> have m4 : spec = _ := m4 <;> subst m4 <;> rcases as with _ | ⟨a | a, _ | ⟨b | b, _ | ⟨c, as⟩⟩⟩ <;> try exact (hI : False).elim
      · exact va_mmax hx hb hls hown (T _ m1) (T _ m2) (T _ hmi) (T _ m3) (by omega) hsum (by omega) (by omega) hd (hnx _ _ _ _ _ _ _ _ _ hI A (okc trivial hok3))
      · exact va_mmin hx hb hls hown (T _ m1) (T _ m2) (T _ hmi) (T _ m3) (by omega) hsum (by omega) (by omega) hd (hnx _ _ _ _ _ _ _ _ _ hI A (okc trivial hok3))
    have key := lp_callS (ad0 := ad0) (σ0 := σ0) (Q := MQ below (lp_Qc D cI cD ad0 σ0 sz Q0) args s R.cells R.slots (lp_Dom ad0 σ0 sz)) (below := below) (meth := meth) (e := e) hx hb hml hown hts hWd hR hsz0 hC A (as := as) (st := st') (by simp [hp2]) (fun v hv => hok _ (by simp [hv])) (fun v hv => hok v (by simp [hv])) h8 rfl hd (fun ci' hci => by cases hci) hI
      (fun ro σ' ad' H' locs' cells' slots' hq hA hok' => by
        cases ro with
        | none => exact hnx _ _ _ _ _ _ _ _ _ hq hA hok'
        | some v => exact hnx _ _ _ _ _ _ _ _ _ hq hA (fun w hw => by
            rcases List.mem_cons.mp hw with rfl | hw
            · exact trivial
            · exact hok' w hw))
    simpa using key
  case ireturn =>
    obtain rfl := Nat.eq_of_beq_eq_true hlen
    rcases st with _ | ⟨x | x, _ | ⟨z, st⟩⟩ <;> try exact (hI : False).elim
    replace hI : (bif bl then (x = 0 ∨ x = 1) ∧ Q0 (some x) σ else Q0 (some x) σ) := hI
    have hQ : Q0 (some x) σ := by
      cases bl with
      | true => exact hI.2
      | false => exact hI
    have fin : ∀ t : State, t.heap = H → s.WarmedH t.vm → lp_Qc D cI cD ad0 σ0 sz Q0 args s (.returned (some (.int x))) t := fun t ht hW =>
      ⟨some x, σ, ad, rfl, hQ, by rw [ht]; exact a1, lp_Wd_move hW hWd, a2, a3, by rw [ht]; omega, a4.F ht⟩
    refine W.widen (k := R.cells) (n := R.slots) (by omega) (by omega) ?_
    rcases hret with q | q | ⟨q, q2⟩
    · rw [q] at hrt
      cases hrt
    · exact W.iret hx hb (hr.trans q) fin a4.2.2 hd hlocks
    · rw [q2] at hI
      exact W.zret hx hb (hr.trans q) (lp_narrow_b hI.1) fin a4.2.2 hd hlocks
  case return_ =>
    obtain rfl := Nat.eq_of_beq_eq_true hlen
    rcases st with _ | ⟨x, st⟩ <;> try exact (hI : False).elim
    have fin : ∀ t : State, t.heap = H → s.WarmedH t.vm → lp_Qc D cI cD ad0 σ0 sz Q0 args s (.returned none) t := fun t ht hW =>
      ⟨none, σ, ad, rfl, hI, by rw [ht]; exact a1, lp_Wd_move hW hWd, a2, a3, by rw [ht]; omega, a4.F ht⟩
    refine W.widen (k := R.cells) (n := R.slots) (by omega) (by omega) ?_
    have hn : ret0 = none := by
      cases ret0 with
      | none => rfl
      | some q => cases hrt
    exact W.vret hx hb (hr.trans hn) fin a4.2.2 hd hlocks
  all_goals exact (hI : False).elim
end LPI2
end
section
/-! ===== a method's contract out of its walk ===== -/
theorem lp_to_suf (t : Nat) : ∀ k : lpC, lp_to t k <:+ k
  | [] => List.suffix_refl _
  | x :: k => by
    unfold lp_to
    cases Nat.beq x.1 t with
    | true => exact List.suffix_refl _
    | false => exact (lp_to_suf t k).trans (List.suffix_cons x k)
theorem lp_to_hd {t : Nat} {x : Nat × Instr × Nat} {k' : lpC} : ∀ {k : lpC}, lp_to t k = x :: k' → x.1 = t
  | [], h => by simp [lp_to] at h
  | a :: k, h => by
    unfold lp_to at h
    cases hb : Nat.beq a.1 t with
    | true =>
      rw [hb] at h
      have := Nat.eq_of_beq_eq_true hb
      cases h
      exact this
    | false =>
      rw [hb] at h
      exact lp_to_hd h
theorem lp_seq_suf {k' : lpC} : ∀ {k : lpC}, lp_seq k = true → k' <:+ k → lp_seq k' = true
  | [], _, h => by
    rw [List.suffix_nil.mp h]; rfl
  | [x], hs, h => by
    rcases List.suffix_cons_iff.mp h with rfl | h
    · exact hs
    · rw [List.suffix_nil.mp h]; rfl
  | x :: y :: k, hs, h => by
    rcases List.suffix_cons_iff.mp h with rfl | h
    · exact hs
    · simp only [lp_seq, Bool.and_eq_true] at hs
      exact lp_seq_suf hs.2 h
section LPM
variable {p : Program} {l : Launch} {e : Env} {R : Room} {s : State} {m : MethodId} {args : Array Value} {below : List Frame} {meth : Method} {c : Code}
variable {D : va_G} {cI cD : ClassId} {cc : ByteArray} {nL h : Nat} {own : String} {y0 : MethodName} {ret0 : Option FieldType} {ad0 : Nat → Nat → Nat} {σ0 : lpM} {sz : Nat} {Q0 : Option Int32 → lpM → Prop}
variable {fl pf : List (Nat × Nat × Nat)} {kc : List (Nat × Int32)} {cs : List (Nat × Option Nat × Nat × lpS)} {bl : Bool} {code : lpC} {labs : List Nat}
set_option maxHeartbeats 4000000 in
theorem lp_sound (hx : p.tables.exec = Jvm.exec) (hb : c.code = cc) (hml : c.maxLocals = nL) (hown : s.vm.findClass own = some m.cls) (hts : ∀ w ∈ (Cond.code y0 cc nL ret0 :: lp_tbl), w.before args s = true) (hWd : lp_Wd D cI cD s)
    (hR : R.frames = h ∧ R.locals = 36 * h) (hRc : R.cells = 3 * lp_dead σ0 ∧ R.slots = 124 * lp_dead σ0) (hsz0 : s.heap.size = sz) (hr : meth.sig.returnType = ret0) (hlocks : meth.locks = false) (hret : ret0 = none ∨ ret0 = some .int ∨ (ret0 = some .boolean ∧ bl = true))
    (hfl : fl.all (lp_flb own) = true) (hpf : pf.all (lp_pfb own) = true) (hkc : kc.all (lp_kcb own) = true) (hcs : ∀ x ∈ cs, lp_CallOK l D cI cD own h x) (hcode : lp_okc code cc ret0 = true) {lab : Nat → lpL → lpM → Prop}
    (hlab : ∀ (pc : Nat) (L' : lpL) (σ' : lpM) (ad' : Nat → Nat → Nat) (H' : Heap) (locs' : List Loc) (cells' slots' : Nat) (ls' : Array Slot), lab pc L' σ' → lp_At D cI cD R s ad0 σ0 sz nL ad' σ' H' locs' cells' slots' ls' L' → W p l e R s m args below meth c H' locs' cells' slots' (MQ below (lp_Qc D cI cD ad0 σ0 sz Q0) args s R.cells R.slots (lp_Dom ad0 σ0 sz)) (F0 m pc ls' [])) :
    ∀ (n : Nat) (k : lpC) (L : lpL) (st : List lpV) (σ : lpM) (ad : Nat → Nat → Nat) (H : Heap) (locs : List Loc) (cells slots : Nat) (ls : Array Slot) (x : Nat × Instr × Nat), k.head? = some x → k <:+ code → lp_wp fl pf kc cs bl code labs lab Q0 n k L st σ → lp_At D cI cD R s ad0 σ0 sz nL ad σ H locs cells slots ls L → (∀ v ∈ st, lp_ok σ v) →
      W p l e R s m args below meth c H locs cells slots (MQ below (lp_Qc D cI cD ad0 σ0 sz Q0) args s R.cells R.slots (lp_Dom ad0 σ0 sz)) (F0 m x.1 ls (st.map (lp_cv ad))) := by
  have hcode' := hcode
  simp only [lp_okc, Bool.and_eq_true] at hcode'
  obtain ⟨⟨hdec, hall⟩, hseq⟩ := hcode'
  intro n
  induction n with
  | zero => intro k L st σ ad H locs cells slots ls x _ _ h; exact h.elim
  | succ n ih =>
    intro k L st σ ad H locs cells slots ls x hhd hsuf hw A hok
    rcases k with _ | ⟨x', k⟩
    · cases hhd
    cases hhd
    have hmem : x ∈ code := hsuf.subset List.mem_cons_self
    have hd : decode cc x.1 = .ok (x.2.1, x.2.2) := of_decide_eq_true (List.all_eq_true.mp hdec x hmem)
    have h3 := List.all_eq_true.mp hall x hmem
    simp only [Bool.and_eq_true] at h3
    have go : ∀ (k : lpC) (t : Nat) (L' : lpL) (st' : List lpV) (σ' : lpM) (ad' : Nat → Nat → Nat) (H' : Heap) (locs' : List Loc) (cells' slots' : Nat) (ls' : Array Slot), k <:+ code → (∀ y, k.head? = some y → y.1 = t) → lp_go labs lab (lp_wp fl pf kc cs bl code labs lab Q0 n) k L' st' σ' → lp_At D cI cD R s ad0 σ0 sz nL ad' σ' H' locs' cells' slots' ls' L' → (∀ v ∈ st', lp_ok σ' v) →
        W p l e R s m args below meth c H' locs' cells' slots' (MQ below (lp_Qc D cI cD ad0 σ0 sz Q0) args s R.cells R.slots (lp_Dom ad0 σ0 sz)) (F0 m t ls' (st'.map (lp_cv ad'))) := by
      intro k t L' st' σ' ad' H' locs' cells' slots' ls' hs ht hg A' hok'
      rcases k with _ | ⟨y, k⟩
      · exact hg.elim
      obtain rfl := ht y rfl
      unfold lp_go at hg
      dsimp only at hg
      cases hm : lp_mem y.1 labs with
      | true =>
        rw [hm, cond_true] at hg
        rcases st' with _ | ⟨v, st'⟩
        · exact hlab _ _ _ _ _ _ _ _ _ hg A'
        · exact hg.elim
      | false =>
        rw [hm, cond_false] at hg
        exact ih (y :: k) L' st' σ' ad' H' locs' cells' slots' ls' y rfl hs hg A' hok'
    refine lp_instr hx hb hml hown hts hWd hR hRc hsz0 hr hlocks hret hfl hpf hkc hcs A hok hd h3.1.1 h3.1.2 h3.2 hw (fun L' st' σ' ad' H' locs' cells' slots' ls' hn A' hok' => ?_) (fun o L' st' σ' ad' H' locs' cells' slots' ls' hj A' hok' => ?_)
    · refine go k _ L' st' σ' ad' H' locs' cells' slots' ls' ((List.suffix_cons x k).trans hsuf) (fun y hy => ?_) hn A' hok'
      rcases k with _ | ⟨y', k⟩
      · cases hy
      cases hy
      have := lp_seq_suf hseq hsuf
      simp only [lp_seq, Bool.and_eq_true] at this
      exact (Nat.eq_of_beq_eq_true this.1).symm
    · replace hj : (match (x.1 : Int) + o with
        | .ofNat t => lp_go labs lab (lp_wp fl pf kc cs bl code labs lab Q0 n) (lp_to t code) L' st' σ'
        | .negSucc _ => False) := hj
      rcases ho : (x.1 : Int) + o with t | t
      · rw [ho] at hj
        exact ⟨t, rfl, go (lp_to t code) t L' st' σ' ad' H' locs' cells' slots' ls' (lp_to_suf t code) (fun y hy => by
          cases hk : lp_to t code with
          | nil => rw [hk] at hy; cases hy
          | cons z k' =>
            rw [hk] at hy
            cases hy
            exact lp_to_hd hk) hj A' hok'⟩
      · rw [ho] at hj
        exact hj.elim
end LPM
/-- the locals at a method's entry -/
def lp_ent (as : List lpV) (nL : Nat) : lpL := as.map some ++ List.replicate (nL - as.length) none
theorem lp_kl_ent (ad : Nat → Nat → Nat) : ∀ (as : List lpV) (j n : Nat), ∀ q ∈ lp_kl ad j (as.map some ++ List.replicate n none), q ∈ lv_args j (as.map (lp_cv ad))
  | [], j, n, q, h => by
    exfalso
    induction n generalizing j with
    | zero => simp [lp_kl] at h
    | succ n ih => exact ih (j + 1) (by simpa [lp_kl, List.replicate_succ] using h)
  | a :: as, j, n, q, h => by
    rcases List.mem_cons.mp (show q ∈ (j, lp_cv ad a) :: lp_kl ad (j + 1) (as.map some ++ List.replicate n none) from h) with rfl | h
    · simp [lv_args]
    · have := lp_kl_ent ad as (j + 1) n q h
      simp [lv_args, lp_cat]
      exact Or.inr this
set_option maxHeartbeats 4000000 in
theorem lp_method {l : Launch} {D : va_G} {cI cD : ClassId} {y : MethodName} {bytes : ByteArray} {nL : Nat} {ret : Option FieldType} {h : Nat} {spec : lpS} {own : String} (fl pf : List (Nat × Nat × Nat)) (kc : List (Nat × Int32)) (cs : List (Nat × Option Nat × Nat × lpS)) (bl : Bool) (code : lpC) (labs : List Nat)
    (hy : plainName y.cls = true) (hown : y.cls = own) (hret : ret = none ∨ ret = some .int ∨ (ret = some .boolean ∧ bl = true)) (hfl : fl.all (lp_flb own) = true) (hpf : pf.all (lp_pfb own) = true) (hkc : kc.all (lp_kcb own) = true) (hcode : lp_okc code bytes ret = true) (hc0 : ∃ x k, code = x :: k ∧ x.1 = 0)
    (hcs : ∀ x ∈ cs, lp_CallOK l D cI cD own h x)
    (hE : ∀ (as : List lpV) (σ : lpM) (Q : Option Int32 → lpM → Prop), (∀ v ∈ as, lp_ok σ v) → spec as σ Q → as.length ≤ nL ∧ ∃ Lab : Nat → Nat → lpL → lpM → Prop, lp_wp fl pf kc cs bl code labs (fun pc L σ => ∃ m, Lab m pc L σ) Q 500 code (lp_ent as nL) [] σ ∧
      ∀ m pc L σ, Lab m pc L σ → lp_wp fl pf kc cs bl code labs (fun pc' L' σ' => ∃ m', m' < m ∧ Lab m' pc' L' σ') Q 500 (lp_to pc code) L [] σ) : lp_Ct l D cI cD y bytes nL ret h spec := by
  intro ad σ as Q sz hoka hspec
  obtain ⟨hlen, Lab, hw, hl⟩ := hE as σ Q hoka hspec
  refine Met.ofW (cc := bytes) (maxL := nL) (ret := ret) hy rfl ?_
  intro p e s m args below meth c s₁ B hml hv
  obtain ⟨rfl, hsz, hRep, hWd⟩ := hv
  have hx := B.exec
  have hb := B.bytes
  have hr := B.returns
  have hts := atoms_spec (ws := Cond.code y bytes nL ret :: lp_tbl) B.pre
  have hown' : s.vm.findClass own = some m.cls := by rw [← hown]; exact findClass_of_methodNamed B.named
  have hlocks := B.notSynchronized
  have hsl : (lg_sl (as.map (lp_cv ad))).length = as.length := by
    have : lg_sl (as.map (lp_cv ad)) = (as.map (lp_cv ad)).map Slot.val := by
      unfold lg_sl
      generalize hg : as.map (lp_cv ad) = vs
      have hcat : ∀ v ∈ vs, v.category = 1 := by
        intro v hv
        rw [← hg] at hv
        obtain ⟨w, -, rfl⟩ := List.mem_map.mp hv
        exact lp_cat ad w
      clear hg
      induction vs with
      | nil => rfl
      | cons v vs ih =>
        simp only [List.flatMap_cons, List.map_cons, hcat v List.mem_cons_self]
        rw [ih (fun w hw => hcat w (List.mem_cons_of_mem _ hw))]
        simp
    rw [this]
    simp
  have hlv := lv_entry (as.map (lp_cv ad)) (n := nL) (by rw [hsl]; exact hlen)
  rw [lg_entry_eq]
  generalize (lg_sl (as.map (lp_cv ad)) ++ List.replicate (nL - (lg_sl (as.map (lp_cv ad))).length) Slot.unset).toArray = ls at hlv ⊢
  have hLl : (lp_ent as nL).length = nL := by simp [lp_ent]; omega
  have A0 : lp_At D cI cD (headSpec (Cond.code y bytes nL ret :: lp_tbl) { frames := h, cells := 3 * lp_dead σ, slots := 124 * lp_dead σ, locals := 36 * h }).room s ad σ sz nL ad σ s.heap [] 0 0 ls (lp_ent as nL) := by
    refine ⟨hRep, fun r k h => ⟨h, rfl⟩, fun r k h => Or.inl ⟨r, k, h, rfl⟩, va_S.rf, ⟨⟨by rw [hLl]; exact hlv.1, hlv.2.1, fun q hq => hlv.2.2 q (lp_kl_ent ad as 0 _ q hq)⟩, fun v hv => ?_, hLl⟩, ?_, ?_⟩
    · rcases List.mem_append.mp hv with q | q
      · obtain ⟨w, hw, e⟩ := List.mem_map.mp q
        cases e
        exact hoka _ hw
      · have := List.eq_of_mem_replicate q
        cases this
    · exact ⟨Nat.le_of_eq (Nat.zero_add _), Nat.le_of_eq (Nat.zero_add _)⟩
    · exact ⟨Nat.le_refl _, Nat.le_refl _⟩
  have loop : ∀ (n : Nat) (mm : Nat), mm < n → ∀ (pc : Nat) (L' : lpL) (σ' : lpM) (ad' : Nat → Nat → Nat) (H' : Heap) (locs' : List Loc) (cells' slots' : Nat) (ls' : Array Slot), Lab mm pc L' σ' → lp_At D cI cD (headSpec (Cond.code y bytes nL ret :: lp_tbl) { frames := h, cells := 3 * lp_dead σ, slots := 124 * lp_dead σ, locals := 36 * h }).room s ad σ sz nL ad' σ' H' locs' cells' slots' ls' L' →
      W p l e (headSpec (Cond.code y bytes nL ret :: lp_tbl) { frames := h, cells := 3 * lp_dead σ, slots := 124 * lp_dead σ, locals := 36 * h }).room s m (as.map (lp_cv ad)).toArray below meth c H' locs' cells' slots' (MQ below (lp_Qc D cI cD ad σ sz Q) (as.map (lp_cv ad)).toArray s (3 * lp_dead σ) (124 * lp_dead σ) (lp_Dom ad σ sz)) (F0 m pc ls' []) := by
    intro n
    induction n with
    | zero => intro mm h; exact absurd h (Nat.not_lt_zero _)
    | succ n ih =>
      intro mm hmm pc L' σ' ad' H' locs' cells' slots' ls' hLab A'
      have hw' := hl mm pc L' σ' hLab
      cases hk : lp_to pc code with
      | nil => rw [hk] at hw'; exact hw'.elim
      | cons x k =>
        have hpc := lp_to_hd hk
        rw [← hpc]
        exact lp_sound (own := own) (y0 := y) (Q0 := Q) hx hb hml hown' hts hWd ⟨rfl, rfl⟩ ⟨rfl, rfl⟩ hsz hr hlocks hret hfl hpf hkc hcs hcode (lab := fun pc' L' σ' => ∃ m', m' < mm ∧ Lab m' pc' L' σ')
          (fun pc L' σ' ad' H' locs' cells' slots' ls' hlb A' => by
            obtain ⟨m', hm', hL'⟩ := hlb
            exact ih m' (by omega) pc L' σ' ad' H' locs' cells' slots' ls' hL' A') 500 (x :: k) L' [] σ' ad' H' locs' cells' slots' ls' x rfl (by rw [← hk]; exact lp_to_suf pc code) (by rw [← hk]; exact hw') A' (fun v hv => by cases hv)
  obtain ⟨x, k, hk, hx0⟩ := hc0
  have := lp_sound (own := own) (y0 := y) (Q0 := Q) hx hb hml hown' hts hWd ⟨rfl, rfl⟩ ⟨rfl, rfl⟩ hsz hr hlocks hret hfl hpf hkc hcs hcode (lab := fun pc' L' σ' => ∃ m', Lab m' pc' L' σ')
    (fun pc L' σ' ad' H' locs' cells' slots' ls' hlb A' => by
      obtain ⟨m', hL'⟩ := hlb
      exact loop (m' + 1) m' (Nat.lt_succ_self _) pc L' σ' ad' H' locs' cells' slots' ls' hL' A') 500 code (lp_ent as nL) [] σ ad s.heap [] 0 0 ls x (by rw [hk]; rfl) (List.suffix_refl _) hw A0 (fun v hv => by cases hv)
  rw [hx0] at this
  exact this
/-! ===== links ===== -/
theorem lp_mkCall {own : String} {i : Nat} {ci : Option Nat} {n : Nat} {y : MethodName} {bytes : ByteArray} {nL : Nat} {ret : Option FieldType} (hb : lp_lnb own i ci n y bytes nL ret = true) {l : Launch} {D : va_G} {cI cD : ClassId} {h h' : Nat} {spec : lpS} (hC : lp_Ct l D cI cD y bytes nL ret h' spec) (hh : h' + 1 ≤ h) : lp_CallOK l D cI cD own h (i, ci, n, spec) := by
  refine Or.inl ?_
  simp only [lp_lnb, Bool.and_eq_true, decide_eq_true_eq, Bool.or_eq_true] at hb
  obtain ⟨⟨⟨⟨⟨b1, b2⟩, b3⟩, ⟨b4, b5⟩, b6⟩, b7⟩, b8⟩ := hb
  refine ⟨y, bytes, nL, ret, h', hC, hh, Nat.le_of_ble_eq_true b1, b2, b3, ⟨b4, b5, b6⟩, ?_, ?_⟩
  · rcases b7 with q | q
    · exact Or.inl q
    · obtain ⟨w, hw, hw1⟩ := List.any_eq_true.mp q
      cases w <;> simp only [Bool.false_eq_true] at hw1
      simp only [Bool.and_eq_true, decide_eq_true_eq] at hw1
      obtain ⟨⟨rfl, rfl⟩, rfl⟩ := hw1
      exact Or.inr ⟨_, hw⟩
  · cases ci with
    | none => exact of_decide_eq_true b8
    | some c =>
      simp only [Bool.and_eq_true, decide_eq_true_eq] at b8
      refine ⟨b8.1.1, b8.1.2, ?_⟩
      rcases hq : vwCl[c]? with _ | q <;> simp only [hq] at b8
      · cases b8.2
      · exact ⟨q, rfl, of_decide_eq_true b8.2⟩
theorem lp_mkMax {own : String} {i : Nat} (hb : lp_mxb own i = true) {l : Launch} {D : va_G} {cI cD : ClassId} {h : Nat} (hh : 1 ≤ h) : lp_CallOK l D cI cD own h (i, none, 2, sp_max) := by
  simp only [lp_mxb, Bool.and_eq_true, decide_eq_true_eq] at hb
  exact Or.inr ⟨rfl, rfl, hh, hb.1.1.1, Or.inl ⟨hb.1.1.2, hb.1.2, hb.2, rfl⟩⟩
theorem lp_mkMin {own : String} {i : Nat} (hb : lp_mnb own i = true) {l : Launch} {D : va_G} {cI cD : ClassId} {h : Nat} (hh : 1 ≤ h) : lp_CallOK l D cI cD own h (i, none, 2, sp_min) := by
  simp only [lp_mnb, Bool.and_eq_true, decide_eq_true_eq] at hb
  exact Or.inr ⟨rfl, rfl, hh, hb.1.1.1, Or.inr ⟨hb.1.1.2, hb.1.2, hb.2, rfl⟩⟩
end
section
/-! ===== pure rows: sums, dealing ===== -/
def lsum (f : Nat → Nat) : Nat → Nat
  | 0 => 0
  | n + 1 => lsum f n + f n
theorem lsum_le {f g : Nat → Nat} : ∀ {n : Nat}, (∀ i, i < n → f i ≤ g i) → lsum f n ≤ lsum g n
  | 0, _ => Nat.le_refl _
  | n + 1, h => Nat.add_le_add (lsum_le (fun i hi => h i (by omega))) (h n (by omega))
theorem lsum_congr {f g : Nat → Nat} : ∀ {n : Nat}, (∀ i, i < n → f i = g i) → lsum f n = lsum g n
  | 0, _ => rfl
  | n + 1, h => by
    show lsum f n + f n = lsum g n + g n
    rw [lsum_congr (fun i hi => h i (by omega)), h n (by omega)]
theorem lsum_mem {f : Nat → Nat} : ∀ {n i : Nat}, i < n → f i ≤ lsum f n
  | 0, _, h => absurd h (Nat.not_lt_zero _)
  | n + 1, i, h => by
    show f i ≤ lsum f n + f n
    by_cases e : i = n
    · subst e; omega
    · have := lsum_mem (f := f) (n := n) (i := i) (by omega)
      omega
theorem lsum_mono {f : Nat → Nat} {i n : Nat} (h : i ≤ n) : lsum f i ≤ lsum f n := by
  induction n with
  | zero => obtain rfl : i = 0 := by omega
            exact Nat.le_refl _
  | succ n ih =>
    by_cases e : i = n + 1
    · subst e; exact Nat.le_refl _
    · exact Nat.le_trans (ih (by omega)) (Nat.le_add_right _ _)
theorem lsum_pos {f : Nat → Nat} : ∀ {n : Nat}, 0 < lsum f n → ∃ i, i < n ∧ 0 < f i
  | 0, h => absurd h (Nat.lt_irrefl _)
  | n + 1, h => by
    rcases Nat.eq_zero_or_pos (f n) with e | e
    · obtain ⟨i, h1, h2⟩ := lsum_pos (f := f) (n := n) (by have : lsum f (n + 1) = lsum f n + f n := rfl; omega)
      exact ⟨i, by omega, h2⟩
    · exact ⟨n, by omega, e⟩
theorem lsum_zero {f : Nat → Nat} {n : Nat} (h : ∀ i, i < n → f i = 0) : lsum f n = 0 := by
  induction n with
  | zero => rfl
  | succ n ih =>
    show lsum f n + f n = 0
    rw [ih (fun i hi => h i (by omega)), h n (by omega)]
theorem lsum_add (f g : Nat → Nat) : ∀ n, lsum (fun i => f i + g i) n = lsum f n + lsum g n
  | 0 => rfl
  | n + 1 => by
    show lsum (fun i => f i + g i) n + (f n + g n) = lsum f n + f n + (lsum g n + g n)
    rw [lsum_add f g n]; omega
/-- one place changed -/
theorem lsum_upd {f g : Nat → Nat} {i : Nat} : ∀ {n : Nat}, i < n → (∀ j, j < n → j ≠ i → g j = f j) → lsum g n + f i = lsum f n + g i
  | 0, h, _ => absurd h (Nat.not_lt_zero _)
  | n + 1, h, hg => by
    show lsum g n + g n + f i = lsum f n + f n + g i
    by_cases e : i = n
    · subst e
      rw [lsum_congr (f := g) (g := f) (fun j hj => hg j (by omega) (by omega))]
      omega
    · have := lsum_upd (f := f) (g := g) (i := i) (n := n) (by omega) (fun j hj => hg j (by omega))
      rw [hg n (by omega) (by omega)]
      omega
def dlT (N c m : Nat) : Nat := ((c + 1) * N + m - 1) / m
/-- of the first n: which one is dealt, and by when it must come -/
def dlS (cnt came : Nat → Nat) (N j : Nat) : Nat → Option (Nat × Nat)
  | 0 => none
  | i + 1 => if cnt i = 0 ∨ j ≤ came i * N / cnt i then dlS cnt came N j i else match dlS cnt came N j i with
    | none => some (i, dlT N (came i) (cnt i))
    | some (b, t) => if dlT N (came i) (cnt i) < t then some (i, dlT N (came i) (cnt i)) else some (b, t)
theorem dlS_skip {cnt came : Nat → Nat} {N j i : Nat} (h : cnt i = 0 ∨ j ≤ came i * N / cnt i) : dlS cnt came N j (i + 1) = dlS cnt came N j i := if_pos h
def dl (cnt came : Nat → Nat) (n : Nat) : Option Nat := (dlS cnt came (lsum cnt n) (lsum came n + 1) n).map (fun q => q.1)
theorem dlS_lt {cnt came : Nat → Nat} {N j b t : Nat} : ∀ {n : Nat}, dlS cnt came N j n = some (b, t) → b < n ∧ 0 < cnt b ∧ t = dlT N (came b) (cnt b) ∧ came b * N / cnt b < j
  | 0, h => by simp [dlS] at h
  | i + 1, h => by
    unfold dlS at h
    by_cases hc : cnt i = 0 ∨ j ≤ came i * N / cnt i
    · rw [if_pos hc] at h
      have := dlS_lt h
      exact ⟨by omega, this.2⟩
    · rw [if_neg hc] at h
      have hi : i < i + 1 ∧ 0 < cnt i ∧ dlT N (came i) (cnt i) = dlT N (came i) (cnt i) ∧ came i * N / cnt i < j := ⟨by omega, by omega, rfl, by omega⟩
      rcases hd : dlS cnt came N j i with _ | ⟨b', t'⟩ <;> rw [hd] at h
      · cases h; exact hi
      · dsimp only at h
        split at h
        · cases h; exact hi
        · cases h
          have := dlS_lt hd
          exact ⟨by omega, this.2⟩
/-- somebody may always come -/
theorem dl_some {cnt came : Nat → Nat} {n : Nat} (h : 0 < lsum cnt n) : ∃ b, dl cnt came n = some b ∧ b < n ∧ 0 < cnt b := by
  rcases hd : dlS cnt came (lsum cnt n) (lsum came n + 1) n with _ | ⟨b, t⟩
  · exfalso
    have key : ∀ (m : Nat) (N j : Nat), dlS cnt came N j m = none → ∀ i, i < m → cnt i = 0 ∨ j ≤ came i * N / cnt i := by
      intro m
      induction m with
      | zero => intro N j _ i hi; omega
      | succ m ih =>
        intro N j h i hi
        unfold dlS at h
        by_cases hc : cnt m = 0 ∨ j ≤ came m * N / cnt m
        · rw [if_pos hc] at h
          by_cases e : i = m
          · subst e; exact hc
          · exact ih N j h i (by omega)
        · rw [if_neg hc] at h
          rcases hd : dlS cnt came N j m with _ | ⟨b', t'⟩ <;> rw [hd] at h
          · cases h
          · dsimp only at h
            split at h <;> cases h
    have k2 := key n _ _ hd
    have k3 : ∀ i, i < n → (lsum came n + 1) * cnt i ≤ came i * lsum cnt n := by
      intro i hi
      rcases k2 i hi with q | q
      · rw [q]; omega
      · rcases Nat.eq_zero_or_pos (cnt i) with z | z
        · rw [z]; omega
        · exact (Nat.le_div_iff_mul_le z).mp q
    have k4 : ∀ m, m ≤ n → (lsum came n + 1) * lsum cnt m ≤ lsum came m * lsum cnt n := by
      intro m
      induction m with
      | zero => intro _; simp [lsum]
      | succ m ih =>
        intro hm
        have a := ih (by omega)
        have b := k3 m (by omega)
        show (lsum came n + 1) * (lsum cnt m + cnt m) ≤ (lsum came m + came m) * lsum cnt n
        have e1 := Nat.mul_add (lsum came n + 1) (lsum cnt m) (cnt m)
        have e2 := Nat.add_mul (lsum came m) (came m) (lsum cnt n)
        omega
    have := k4 n (Nat.le_refl _)
    have h2 : (lsum came n + 1) * lsum cnt n = lsum came n * lsum cnt n + lsum cnt n := Nat.succ_mul _ _
    omega
  · have := dlS_lt hd
    exact ⟨b, by simp [dl, hd], this.1, this.2.1⟩
theorem dlS_congr {cnt cnt' came came' : Nat → Nat} {N j : Nat} : ∀ {n : Nat}, (∀ i, i < n → cnt' i = cnt i ∧ came' i = came i) → dlS cnt' came' N j n = dlS cnt came N j n
  | 0, _ => rfl
  | n + 1, h => by
    unfold dlS
    rw [dlS_congr (fun i hi => h i (by omega)), (h n (by omega)).1, (h n (by omega)).2]
theorem dl_congr {cnt cnt' came came' : Nat → Nat} {n : Nat} (h : ∀ i, i < n → cnt' i = cnt i ∧ came' i = came i) : dl cnt' came' n = dl cnt came n := by
  unfold dl
  rw [dlS_congr h, lsum_congr (f := cnt') (g := cnt) (fun i hi => (h i hi).1), lsum_congr (f := came') (g := came) (fun i hi => (h i hi).2)]
end
section
/-! ===== pure: WALKS are dealt ===== -/
def nu (f : Nat → Nat) (k x : Nat) : Nat → Nat := fun j => if j = k then x else f j
def u2 (f : Nat → Nat → Nat) (a b : Nat) : Nat → Nat → Nat := fun x y => if x = a ∧ y = b then f x y + 1 else f x y
theorem nu_same (f : Nat → Nat) (k x : Nat) : nu f k x k = x := if_pos rfl
theorem nu_ne {f : Nat → Nat} {k x j : Nat} (h : j ≠ k) : nu f k x j = f j := if_neg h
/-- how many ASKS, their PAGES and WAITS, what came of the STEPS and of their WAITS -/
abbrev lpW : Type := Nat × (Nat → Nat) × (Nat → Nat) × (Nat → Nat → Nat) × (Nat → Nat → Nat)
def wk (cn wn : Nat → Nat → Nat) : Nat → Nat → lpW → lpW
  | 0, _, S => S
  | n + 1, a, S => match dl (cn a) (S.2.2.2.1 a) 11 with
    | none => S
    | some t => if 10 ≤ t then (S.1, S.2.1, S.2.2.1, u2 S.2.2.2.1 a t, S.2.2.2.2) else match dl (wn (a * 11 + t)) (S.2.2.2.2 (a * 11 + t)) 61 with
      | none => S
      | some w => wk cn wn n t (S.1 + 1, nu S.2.1 S.1 t, nu S.2.2.1 S.1 w, u2 S.2.2.2.1 a t, u2 S.2.2.2.2 (a * 11 + t) w)
def wks (cn wn : Nat → Nat → Nat) : Nat → Nat → (Nat → Nat) → lpW → (Nat → Nat) × lpW
  | 0, _, s, S => (s, S)
  | n + 1, v, s, S => wks cn wn n (v + 1) (nu s (v + 1) (wk cn wn 20 10 S).1) (wk cn wn 20 10 S)
/-- counts that a LOG can give -/
def lpG (cn wn : Nat → Nat → Nat) : Prop := (∀ f, f ≤ 10 → lsum (cn f) 11 < 30000) ∧ (∀ j, j < 121 → lsum (wn j) 61 < 30000) ∧ 0 < lsum (cn 10) 11 ∧ (∀ f t, f ≤ 10 → t < 10 → 0 < cn f t → 0 < lsum (wn (f * 11 + t)) 61 ∧ 0 < lsum (cn t) 11)
/-- what came so far, in D steps -/
def lpB (D : Nat) (S : lpW) : Prop := (∀ f, lsum (S.2.2.2.1 f) 11 ≤ D) ∧ (∀ j, lsum (S.2.2.2.2 j) 61 ≤ D)
theorem u2_row (f : Nat → Nat → Nat) (a b x : Nat) : u2 f a b x = if x = a then nu (f a) b (f a b + 1) else f x := by
  funext y
  by_cases hx : x = a
  · subst hx
    by_cases hy : y = b
    · subst hy; simp [u2, nu]
    · simp [u2, nu, hy]
  · simp [u2, hx]
theorem lsum_u2 {f : Nat → Nat → Nat} {a b x n : Nat} : lsum (u2 f a b x) n ≤ lsum (f x) n + 1 := by
  rw [u2_row]
  split
  · rename_i h
    subst h
    by_cases hb : b < n
    · have := lsum_upd (f := f x) (g := nu (f x) b (f x b + 1)) hb (fun j _ hj => nu_ne hj)
      rw [nu_same] at this
      omega
    · rw [lsum_congr (f := nu (f x) b (f x b + 1)) (g := f x) (fun i hi => nu_ne (by omega))]
      omega
  · omega
theorem lpB_step {D : Nat} {c : Nat} {pg wt : Nat → Nat} {S : lpW} {a t j w : Nat} (h : lpB D S) : lpB (D + 1) (c, pg, wt, u2 S.2.2.2.1 a t, u2 S.2.2.2.2 j w) :=
  ⟨fun f => Nat.le_trans lsum_u2 (Nat.succ_le_succ (h.1 f)), fun j => Nat.le_trans lsum_u2 (Nat.succ_le_succ (h.2 j))⟩
theorem lpB_step1 {D : Nat} {c : Nat} {pg wt : Nat → Nat} {S : lpW} {a t : Nat} (h : lpB D S) : lpB (D + 1) (c, pg, wt, u2 S.2.2.2.1 a t, S.2.2.2.2) :=
  ⟨fun f => Nat.le_trans lsum_u2 (Nat.succ_le_succ (h.1 f)), fun j => Nat.le_trans (h.2 j) (Nat.le_succ _)⟩
theorem lpB_mono {D E : Nat} {S : lpW} (h : lpB D S) (hD : D ≤ E) : lpB E S := ⟨fun f => Nat.le_trans (h.1 f) hD, fun j => Nat.le_trans (h.2 j) hD⟩
/-- one step of a WALK -/
theorem wk_step {cn wn : Nat → Nat → Nat} (hG : lpG cn wn) {n a : Nat} {S : lpW} (ha : a ≤ 10) (hs : 0 < lsum (cn a) 11) :
    ∃ t, t < 11 ∧ 0 < cn a t ∧ dl (cn a) (S.2.2.2.1 a) 11 = some t ∧ ((t = 10 ∧ wk cn wn (n + 1) a S = (S.1, S.2.1, S.2.2.1, u2 S.2.2.2.1 a t, S.2.2.2.2)) ∨
      (t < 10 ∧ 0 < lsum (cn t) 11 ∧ ∃ w, w < 61 ∧ 0 < wn (a * 11 + t) w ∧ dl (wn (a * 11 + t)) (S.2.2.2.2 (a * 11 + t)) 61 = some w ∧ wk cn wn (n + 1) a S = wk cn wn n t (S.1 + 1, nu S.2.1 S.1 t, nu S.2.2.1 S.1 w, u2 S.2.2.2.1 a t, u2 S.2.2.2.2 (a * 11 + t) w))) := by
  obtain ⟨t, h1, h2, h3⟩ := dl_some (cnt := cn a) (came := S.2.2.2.1 a) hs
  refine ⟨t, h2, h3, h1, ?_⟩
  by_cases ht : t = 10
  · refine Or.inl ⟨ht, ?_⟩
    conv => lhs; unfold wk
    simp only [h1]
    rw [if_pos (by omega)]
  · obtain ⟨g1, g2⟩ := hG.2.2.2 a t ha (by omega) h3
    obtain ⟨w, h4, h5, h6⟩ := dl_some (cnt := wn (a * 11 + t)) (came := S.2.2.2.2 (a * 11 + t)) g1
    refine Or.inr ⟨by omega, g2, w, h5, h6, h4, ?_⟩
    conv => lhs; unfold wk
    simp only [h1, h4]
    rw [if_neg (by omega)]
/-- what a WALK keeps: the ASKS ahead of it, how many it may add, bounds -/
theorem wk_keep {cn wn : Nat → Nat → Nat} (hG : lpG cn wn) : ∀ (n a D : Nat) (S : lpW), a ≤ 10 → 0 < lsum (cn a) 11 → lpB D S →
    S.1 ≤ (wk cn wn n a S).1 ∧ (wk cn wn n a S).1 ≤ S.1 + n ∧ lpB (D + n) (wk cn wn n a S) ∧ (∀ j, j < S.1 → (wk cn wn n a S).2.1 j = S.2.1 j ∧ (wk cn wn n a S).2.2.1 j = S.2.2.1 j) ∧ (∀ j, S.1 ≤ j → j < (wk cn wn n a S).1 → (wk cn wn n a S).2.1 j < 10 ∧ (wk cn wn n a S).2.2.1 j ≤ 60)
  | 0, a, D, S, ha, hs, hB => ⟨Nat.le_refl _, Nat.le_refl _, hB, fun _ _ => ⟨rfl, rfl⟩, fun j h1 h2 => absurd h2 (by show ¬ j < S.1; omega)⟩
  | n + 1, a, D, S, ha, hs, hB => by
    obtain ⟨t, h1, h2, h3, h4⟩ := wk_step hG (n := n) (S := S) ha hs
    rcases h4 with ⟨rfl, h5⟩ | ⟨h5, h6, w, h7, h8, h9, h10⟩
    · rw [h5]
      exact ⟨Nat.le_refl _, by dsimp only; omega, lpB_mono (lpB_step1 hB) (by omega), fun _ _ => ⟨rfl, rfl⟩, fun j a b => absurd b (by dsimp only; omega)⟩
    · rw [h10]
      obtain ⟨k1, k2, k3, k4, k5⟩ := wk_keep hG n t (D + 1) (S.1 + 1, nu S.2.1 S.1 t, nu S.2.2.1 S.1 w, u2 S.2.2.2.1 a t, u2 S.2.2.2.2 (a * 11 + t) w) (by omega) h6 (lpB_step hB)
      dsimp only at k1 k2 k4 k5
      refine ⟨by omega, by omega, lpB_mono k3 (by omega), fun j hj => ?_, fun j hj1 hj2 => ?_⟩
      · have := k4 j (by omega)
        rw [this.1, this.2, nu_ne (by omega), nu_ne (by omega)]
        exact ⟨rfl, rfl⟩
      · by_cases e : j = S.1
        · subst e
          have := k4 S.1 (by omega)
          rw [this.1, this.2, nu_same, nu_same]
          exact ⟨h5, by omega⟩
        · exact k5 j (by omega) hj2
end
section
/-! ===== pure: the stepped system ===== -/
/-- of the first n that go on, the one that is due first -/
def pv (act : Nat → Bool) (nd : Nat → Nat) : Nat → Option Nat
  | 0 => none
  | v + 1 => match pv act nd v with
    | none => if act v = true then some v else none
    | some b => if act v = true ∧ nd v < nd b then some v else some b
theorem pv_some {act : Nat → Bool} {nd : Nat → Nat} : ∀ {n v : Nat}, v < n → act v = true → ∃ b, pv act nd n = some b
  | 0, v, h, _ => absurd h (Nat.not_lt_zero _)
  | n + 1, v, h, ha => by
    unfold pv
    rcases hp : pv act nd n with _ | b
    · by_cases e : v = n
      · subst e; exact ⟨v, by simp [ha]⟩
      · obtain ⟨b, hb⟩ := pv_some (nd := nd) (n := n) (v := v) (by omega) ha
        rw [hp] at hb; cases hb
    · dsimp only
      split
      · exact ⟨_, rfl⟩
      · exact ⟨_, rfl⟩
theorem pv_spec {act : Nat → Bool} {nd : Nat → Nat} : ∀ {n b : Nat}, pv act nd n = some b → b < n ∧ act b = true ∧ ∀ v, v < n → act v = true → nd b ≤ nd v
  | 0, b, h => by simp [pv] at h
  | n + 1, b, h => by
    unfold pv at h
    rcases hp : pv act nd n with _ | b' <;> rw [hp] at h <;> dsimp only at h
    · by_cases ha : act n = true
      · rw [if_pos ha] at h
        cases h
        refine ⟨by omega, ha, fun v hv hv2 => ?_⟩
        by_cases e : v = n
        · subst e; exact Nat.le_refl _
        · obtain ⟨b, hb⟩ := pv_some (nd := nd) (n := n) (v := v) (by omega) hv2
          rw [hp] at hb; cases hb
      · rw [if_neg ha] at h; cases h
    · obtain ⟨h1, h2, h3⟩ := pv_spec hp
      by_cases hc : act n = true ∧ nd n < nd b'
      · rw [if_pos hc] at h
        cases h
        refine ⟨by omega, hc.1, fun v hv hv2 => ?_⟩
        by_cases e : v = n
        · subst e; exact Nat.le_refl _
        · have := h3 v (by omega) hv2; omega
      · rw [if_neg hc] at h
        obtain rfl : b' = b := Option.some.inj h
        refine ⟨by omega, h2, fun v hv hv2 => ?_⟩
        by_cases e : v = n
        · subst e
          rcases Nat.lt_or_ge (nd v) (nd b') with q | q
          · exact absurd ⟨hv2, q⟩ hc
          · exact q
        · exact h3 v (by omega) hv2
theorem pv_congr {act act' : Nat → Bool} {nd nd' : Nat → Nat} : ∀ {n : Nat}, (∀ v, v < n → act' v = act v ∧ (act v = true → nd' v = nd v)) → pv act' nd' n = pv act nd n
  | 0, _ => rfl
  | n + 1, h => by
    have ih := pv_congr (n := n) (fun v hv => h v (by omega))
    unfold pv
    rw [ih, (h n (by omega)).1]
    rcases hp : pv act nd n with _ | b
    · rfl
    · dsimp only
      have hb := pv_spec hp
      by_cases ha : act n = true
      · rw [(h n (by omega)).2 ha, (h b (by omega)).2 hb.2.1]
      · simp [ha]
/-- of the first n SERVERS the one that is free first -/
def ps (fr : Nat → Nat) : Nat → Nat
  | 0 => 0
  | 1 => 0
  | k + 2 => if fr (k + 1) < fr (ps fr (k + 1)) then k + 1 else ps fr (k + 1)
theorem ps_spec (fr : Nat → Nat) : ∀ k, ps fr (k + 1) ≤ k ∧ ∀ j, j ≤ k → fr (ps fr (k + 1)) ≤ fr j
  | 0 => ⟨Nat.le_refl _, fun j hj => by obtain rfl : j = 0 := by omega
                                        exact Nat.le_refl _⟩
  | k + 1 => by
    obtain ⟨h1, h2⟩ := ps_spec fr k
    show (if fr (k + 1) < fr (ps fr (k + 1)) then k + 1 else ps fr (k + 1)) ≤ k + 1 ∧ ∀ j, j ≤ k + 1 → fr (if fr (k + 1) < fr (ps fr (k + 1)) then k + 1 else ps fr (k + 1)) ≤ fr j
    split
    · refine ⟨Nat.le_refl _, fun j hj => ?_⟩
      by_cases e : j = k + 1
      · subst e; exact Nat.le_refl _
      · have := h2 j (by omega); omega
    · refine ⟨by omega, fun j hj => ?_⟩
      by_cases e : j = k + 1
      · subst e; omega
      · exact h2 j (by omega)
/-- a state of it: 0 the next slot of a VISIT, 1 when it is due, 2 when a SERVER is free, 3 .. 6 of a slot: due, begun, ended, SERVER; 7: the last end, the work, the last beginning, since when it is behind -/
def pu (P : Nat → Nat → Nat) (a b x : Nat) : Nat → Nat → Nat := fun i j => if i = a ∧ j = b then x else P i j
theorem pu_same (P : Nat → Nat → Nat) (a b x : Nat) : pu P a b x a b = x := if_pos ⟨rfl, rfl⟩
theorem pu_ne {P : Nat → Nat → Nat} {a b x i j : Nat} (h : ¬ (i = a ∧ j = b)) : pu P a b x i j = P i j := if_neg h
def pact (s : Nat → Nat) (P : Nat → Nat → Nat) : Nat → Bool := fun v => decide (P 0 v < s (v + 1))
/-- the ASK of VISIT v is begun on SERVER k -/
def svA (s wt : Nat → Nat) (c v k : Nat) (P : Nat → Nat → Nat) : Nat → Nat → Nat :=
  pu (pu (pu (pu (pu (pu (pu (pu (pu (pu (pu P 3 (P 0 v) (P 1 v)) 4 (P 0 v) (max (P 1 v) (P 2 k))) 5 (P 0 v) (max (P 1 v) (P 2 k) + c)) 6 (P 0 v) k) 2 k (max (P 1 v) (P 2 k) + c)) 7 0 (max (P 7 0) (max (P 1 v) (P 2 k) + c))) 7 1 (P 7 1 + c)) 7 3 (if P 7 2 < P 1 v then P 1 v else min (P 7 3) (P 1 v))) 7 2 (max (P 1 v) (P 2 k))) 0 v (P 0 v + 1)) 1 v (if P 0 v + 1 < s (v + 1) then max (P 1 v) (P 2 k) + c + wt (P 0 v + 1) else max (P 1 v) (P 2 k) + c)
def svS (s wt cst : Nat → Nat) (n S : Nat) (P : Nat → Nat → Nat) : Nat → Nat → Nat := match pv (pact s P) (P 1) n with
  | none => P
  | some v => svA s wt (cst (P 0 v)) v (ps (P 2) S) P
def svs (s wt cst : Nat → Nat) (n S : Nat) : Nat → (Nat → Nat → Nat) → Nat → Nat → Nat
  | 0, P => P
  | m + 1, P => svs s wt cst n S m (svS s wt cst n S P)
def p0 (s wt : Nat → Nat) (G : Nat) : Nat → Nat → Nat := fun a b => if a = 0 then s b else if a = 1 then b * G + wt (s b) else 0
/-- VISITS as they lie in slots -/
def lpV0 (n : Nat) (s wt : Nat → Nat) : Prop := n ≤ 60 ∧ s 0 = 0 ∧ (∀ v, v < n → s v ≤ s (v + 1) ∧ s (v + 1) ≤ s v + 20) ∧ ∀ j, j < s n → wt j ≤ 60
/-- where it stands behind k ASKS -/
def lpI (n : Nat) (s : Nat → Nat) (k : Nat) (P : Nat → Nat → Nat) : Prop := (∀ v, v < n → s v ≤ P 0 v ∧ P 0 v ≤ s (v + 1)) ∧ lsum (fun v => P 0 v - s v) n = k
/-- its numbers are small -/
def lpN (n : Nat) (s : Nat → Nat) (K : Nat) (P : Nat → Nat → Nat) : Prop := (∀ v, v < n → P 0 v < s (v + 1) → P 1 v ≤ K) ∧ (∀ k, P 2 k ≤ K) ∧ (∀ j, P 7 j ≤ K) ∧ (∀ v sl, v < n → s v ≤ sl → sl < P 0 v → P 3 sl ≤ P 4 sl ∧ P 4 sl < P 5 sl ∧ P 5 sl ≤ K ∧ P 6 sl < 8)
theorem lpV0_tel {n : Nat} {s wt : Nat → Nat} (h : lpV0 n s wt) : ∀ m, m ≤ n → lsum (fun v => s (v + 1) - s v) m = s m
  | 0, _ => h.2.1.symm
  | m + 1, hm => by
    show lsum (fun v => s (v + 1) - s v) m + (s (m + 1) - s m) = s (m + 1)
    rw [lpV0_tel h m (by omega)]
    have := (h.2.2.1 m (by omega)).1
    omega
theorem lpV0_mono {n : Nat} {s wt : Nat → Nat} (h : lpV0 n s wt) {v : Nat} : ∀ d, v + d ≤ n → s v ≤ s (v + d)
  | 0, _ => Nat.le_refl _
  | d + 1, hd => by
    have := lpV0_mono h (v := v) d (by omega)
    have := (h.2.2.1 (v + d) (by omega)).1
    rw [← Nat.add_assoc]; omega
theorem lpV0_le {n : Nat} {s wt : Nat → Nat} (h : lpV0 n s wt) {v w : Nat} (hv : v ≤ w) (hw : w ≤ n) : s v ≤ s w := by
  have := lpV0_mono h (v := v) (w - v) (by omega)
  rwa [show v + (w - v) = w by omega] at this
/-- while ASKS are left, one goes on -/
theorem lpI_pv {n k : Nat} {s wt : Nat → Nat} {P : Nat → Nat → Nat} (hV : lpV0 n s wt) (h : lpI n s k P) (hk : k < s n) : ∃ v, pv (pact s P) (P 1) n = some v ∧ v < n ∧ P 0 v < s (v + 1) := by
  rcases Classical.em (∃ v, v < n ∧ P 0 v < s (v + 1)) with ⟨v, h1, h2⟩ | hno
  · obtain ⟨b, hb⟩ := pv_some (act := pact s P) (nd := P 1) h1 (decide_eq_true h2)
    have := pv_spec hb
    exact ⟨b, hb, this.1, of_decide_eq_true this.2.1⟩
  · exfalso
    have e : lsum (fun v => P 0 v - s v) n = lsum (fun v => s (v + 1) - s v) n := by
      refine lsum_congr (fun v hv => ?_)
      have := h.1 v hv
      have h2 : ¬ P 0 v < s (v + 1) := fun q => hno ⟨v, hv, q⟩
      have : P 0 v = s (v + 1) := by omega
      rw [this]
    rw [h.2, lpV0_tel hV n (Nat.le_refl _)] at e
    omega
theorem svA_0 {s wt : Nat → Nat} {c v k : Nat} {P : Nat → Nat → Nat} (x : Nat) : svA s wt c v k P 0 x = if x = v then P 0 v + 1 else P 0 x := by
  by_cases e : x = v
  · subst e; simp [svA, pu]
  · simp [svA, pu, e]
theorem svA_1 {s wt : Nat → Nat} {c v k : Nat} {P : Nat → Nat → Nat} (x : Nat) : svA s wt c v k P 1 x = if x = v then (if P 0 v + 1 < s (v + 1) then max (P 1 v) (P 2 k) + c + wt (P 0 v + 1) else max (P 1 v) (P 2 k) + c) else P 1 x := by
  by_cases e : x = v
  · subst e; simp [svA, pu]
  · simp [svA, pu, e]
theorem svA_2 {s wt : Nat → Nat} {c v k : Nat} {P : Nat → Nat → Nat} (x : Nat) : svA s wt c v k P 2 x = if x = k then max (P 1 v) (P 2 k) + c else P 2 x := by
  by_cases e : x = k
  · subst e; simp [svA, pu]
  · simp [svA, pu, e]
theorem svA_3 {s wt : Nat → Nat} {c v k : Nat} {P : Nat → Nat → Nat} (x : Nat) : svA s wt c v k P 3 x = if x = P 0 v then P 1 v else P 3 x := by
  by_cases e : x = P 0 v
  · subst e; simp [svA, pu]
  · simp [svA, pu, e]
theorem svA_4 {s wt : Nat → Nat} {c v k : Nat} {P : Nat → Nat → Nat} (x : Nat) : svA s wt c v k P 4 x = if x = P 0 v then max (P 1 v) (P 2 k) else P 4 x := by
  by_cases e : x = P 0 v
  · subst e; simp [svA, pu]
  · simp [svA, pu, e]
theorem svA_5 {s wt : Nat → Nat} {c v k : Nat} {P : Nat → Nat → Nat} (x : Nat) : svA s wt c v k P 5 x = if x = P 0 v then max (P 1 v) (P 2 k) + c else P 5 x := by
  by_cases e : x = P 0 v
  · subst e; simp [svA, pu]
  · simp [svA, pu, e]
theorem svA_6 {s wt : Nat → Nat} {c v k : Nat} {P : Nat → Nat → Nat} (x : Nat) : svA s wt c v k P 6 x = if x = P 0 v then k else P 6 x := by
  by_cases e : x = P 0 v
  · subst e; simp [svA, pu]
  · simp [svA, pu, e]
theorem svA_70 {s wt : Nat → Nat} {c v k : Nat} {P : Nat → Nat → Nat} : svA s wt c v k P 7 0 = max (P 7 0) (max (P 1 v) (P 2 k) + c) := by simp [svA, pu]
theorem svA_71 {s wt : Nat → Nat} {c v k : Nat} {P : Nat → Nat → Nat} : svA s wt c v k P 7 1 = P 7 1 + c := by simp [svA, pu]
theorem svA_72 {s wt : Nat → Nat} {c v k : Nat} {P : Nat → Nat → Nat} : svA s wt c v k P 7 2 = max (P 1 v) (P 2 k) := by simp [svA, pu]
theorem svA_73 {s wt : Nat → Nat} {c v k : Nat} {P : Nat → Nat → Nat} : svA s wt c v k P 7 3 = if P 7 2 < P 1 v then P 1 v else min (P 7 3) (P 1 v) := by simp [svA, pu]
theorem svA_7o {s wt : Nat → Nat} {c v k : Nat} {P : Nat → Nat → Nat} {j : Nat} (h : 4 ≤ j) : svA s wt c v k P 7 j = P 7 j := by
  simp [svA, pu, show ¬ j = 0 by omega, show ¬ j = 1 by omega, show ¬ j = 2 by omega, show ¬ j = 3 by omega]
theorem lpI_step {n k c : Nat} {s wt : Nat → Nat} {P : Nat → Nat → Nat} {v q : Nat} (h : lpI n s k P) (hv : v < n) (ha : P 0 v < s (v + 1)) : lpI n s (k + 1) (svA s wt c v q P) := by
  refine ⟨fun x hx => ?_, ?_⟩
  · rw [svA_0]
    have := h.1 x hx
    split
    · rename_i e; subst e; omega
    · exact this
  · have hu := lsum_upd (f := fun x => P 0 x - s x) (g := fun x => svA s wt c v q P 0 x - s x) hv (fun j _ hj => by rw [svA_0, if_neg hj])
    rw [svA_0, if_pos rfl, h.2] at hu
    have := h.1 v hv
    omega
theorem lpN_step {n K c : Nat} {s wt : Nat → Nat} {P : Nat → Nat → Nat} {v q : Nat} (hV : lpV0 n s wt) {k : Nat} (hI : lpI n s k P) (h : lpN n s K P) (hv : v < n) (ha : P 0 v < s (v + 1)) (hc : 1 ≤ c ∧ c ≤ 50) (hq : q < 8) : lpN n s (K + 110) (svA s wt c v q P) := by
  obtain ⟨h1, h2, h3, h4⟩ := h
  have a1 := h1 v hv ha
  have a2 := h2 q
  have m1 : max (P 1 v) (P 2 q) ≤ K := Nat.max_le.mpr ⟨a1, a2⟩
  refine ⟨fun x hx hx2 => ?_, fun x => ?_, fun j => ?_, fun x sl hx g1 g2 => ?_⟩
  · rw [svA_0] at hx2
    rw [svA_1]
    by_cases e : x = v
    · subst e
      rw [if_pos rfl] at hx2 ⊢
      rw [if_pos hx2]
      have : wt (P 0 x + 1) ≤ 60 := hV.2.2.2 _ (by have := lpV0_le hV (show x + 1 ≤ n by omega) (Nat.le_refl n); omega)
      omega
    · rw [if_neg e] at hx2 ⊢
      have := h1 x hx hx2
      omega
  · rw [svA_2]
    split
    · omega
    · have := h2 x; omega
  · by_cases j0 : j = 0
    · subst j0; rw [svA_70]; have := h3 0; exact Nat.max_le.mpr ⟨by omega, by omega⟩
    by_cases j1 : j = 1
    · subst j1; rw [svA_71]; have := h3 1; omega
    by_cases j2 : j = 2
    · subst j2; rw [svA_72]; omega
    by_cases j3 : j = 3
    · subst j3; rw [svA_73]; have := h3 3; split <;> omega
    rw [svA_7o (by omega)]
    have := h3 j; omega
  · rw [svA_0] at g2
    rw [svA_3, svA_4, svA_5, svA_6]
    by_cases e : sl = P 0 v
    · simp only [e, if_true]
      refine ⟨Nat.le_max_left _ _, by omega, by omega, hq⟩
    · simp only [if_neg e]
      have : sl < P 0 x := by
        by_cases ex : x = v
        · subst ex; rw [if_pos rfl] at g2; omega
        · rw [if_neg ex] at g2; exact g2
      have := h4 x sl hx g1 this
      omega
end
section
/-! ===== pure: how many unlike values; CONTEXTS ===== -/
/-- how many unlike values below N the first m of a row have -/
noncomputable def dist (N : Nat) (f : Nat → Nat) (m : Nat) : Nat := lsum (fun c => if (∃ i, i < m ∧ f i = c) then 1 else 0) N
theorem dist_0 (N : Nat) (f : Nat → Nat) : dist N f 0 = 0 := lsum_zero (fun c _ => if_neg (fun ⟨i, h, _⟩ => absurd h (Nat.not_lt_zero _)))
theorem dist_old {N : Nat} {f : Nat → Nat} {m : Nat} (h : ∃ j, j < m ∧ f j = f m) : dist N f (m + 1) = dist N f m := by
  unfold dist
  refine lsum_congr (fun c _ => ?_)
  have : (∃ i, i < m + 1 ∧ f i = c) ↔ (∃ i, i < m ∧ f i = c) := by
    constructor
    · rintro ⟨i, h1, h2⟩
      by_cases e1 : i = m
      · subst e1
        obtain ⟨j, h3, h4⟩ := h
        exact ⟨j, h3, h4.trans h2⟩
      · exact ⟨i, by omega, h2⟩
    · rintro ⟨i, h1, h2⟩
      exact ⟨i, by omega, h2⟩
  simp only [this]
theorem dist_new {N : Nat} {f : Nat → Nat} {m : Nat} (hN : f m < N) (h : ∀ j, j < m → f j ≠ f m) : dist N f (m + 1) = dist N f m + 1 := by
  unfold dist
  have := lsum_upd (f := fun c => if (∃ i, i < m ∧ f i = c) then 1 else 0) (g := fun c => if (∃ i, i < m + 1 ∧ f i = c) then 1 else 0) hN (fun c _ hc => by
    have : (∃ i, i < m + 1 ∧ f i = c) ↔ (∃ i, i < m ∧ f i = c) := by
      constructor
      · rintro ⟨i, h1, h2⟩
        by_cases e1 : i = m
        · subst e1; exact absurd h2.symm hc
        · exact ⟨i, by omega, h2⟩
      · rintro ⟨i, h1, h2⟩
        exact ⟨i, by omega, h2⟩
    simp only [this])
  rw [if_neg (fun ⟨i, h1, h2⟩ => h i h1 h2), if_pos ⟨m, by omega, rfl⟩] at this
  omega
theorem dist_congr {N : Nat} {f g : Nat → Nat} {m q : Nat} (h : ∀ c, (∃ i, i < m ∧ f i = c) ↔ (∃ i, i < q ∧ g i = c)) : dist N f m = dist N g q := by
  unfold dist
  refine lsum_congr (fun c _ => ?_)
  simp only [h c]
theorem dist_le {N : Nat} {f : Nat → Nat} : ∀ m, dist N f m ≤ m
  | 0 => by rw [dist_0]; omega
  | m + 1 => by
    have := dist_le (N := N) (f := f) m
    by_cases h : ∃ j, j < m ∧ f j = f m
    · rw [dist_old h]; omega
    · by_cases hN : f m < N
      · rw [dist_new hN (fun j hj e1 => h ⟨j, hj, e1⟩)]; omega
      · have : dist N f (m + 1) = dist N f m := by
          unfold dist
          refine lsum_congr (fun c hc => ?_)
          have : (∃ i, i < m + 1 ∧ f i = c) ↔ (∃ i, i < m ∧ f i = c) := by
            constructor
            · rintro ⟨i, h1, h2⟩
              by_cases e1 : i = m
              · subst e1; omega
              · exact ⟨i, by omega, h2⟩
            · rintro ⟨i, h1, h2⟩
              exact ⟨i, by omega, h2⟩
          simp only [this]
        omega
/-- the key of the CONTEXT of k PAGES from slot a on -/
def ckey (pg : Nat → Nat) (a : Nat) : Nat → Nat
  | 0 => 0
  | k + 1 => ckey pg a k * 10 + pg (a + k)
theorem ckey_lt {pg : Nat → Nat} {a : Nat} : ∀ {k : Nat}, (∀ i, i < k → pg (a + i) < 10) → ckey pg a k < 10 ^ k
  | 0, _ => by simp [ckey]
  | k + 1, h => by
    have h1 := ckey_lt (pg := pg) (a := a) (k := k) (fun i hi => h i (by omega))
    have h2 := h k (by omega)
    show ckey pg a k * 10 + pg (a + k) < 10 ^ (k + 1)
    rw [Nat.pow_succ]
    omega
/-- what comes behind: the CONTEXT that ends ahead of slot p, in a VISIT that ends ahead of e1 -/
def ccod (pg : Nat → Nat) (k e1 p : Nat) : Nat := ckey pg (p - k) k * 11 + (if p < e1 then pg p else 10)
abbrev lpR : Type := Nat × (Nat → Nat)
def gthP (pg : Nat → Nat) (k e1 : Nat) : Nat → Nat → lpR → lpR
  | 0, _, S => S
  | r + 1, p, S => gthP pg k e1 r (p + 1) (S.1 + 1, nu S.2 S.1 (ccod pg k e1 p))
def gthV (s pg : Nat → Nat) (k : Nat) : Nat → Nat → lpR → lpR
  | 0, _, S => S
  | r + 1, v, S => gthV s pg k r (v + 1) (gthP pg k (s (v + 1)) (s (v + 1) + 1 - (s v + k)) (s v + k) S)
/-- the row of all comings of CONTEXTS of k -/
def gth (n : Nat) (s pg : Nat → Nat) (k : Nat) : lpR := gthV s pg k n 0 (0, fun _ => 0)
/-- how often a value comes -/
def occ (C : Nat → Nat) (m c : Nat) : Nat := lsum (fun i => if C i = c then 1 else 0) m
def ctot (C : Nat → Nat) (m key : Nat) : Nat := lsum (fun i => if C i / 11 = key then 1 else 0) m
/-- ALIKE: the same proportions -/
def calk (C : Nat → Nat) (m a b : Nat) : Prop := ∀ p, p < 11 → occ C m (a * 11 + p) * ctot C m b = occ C m (b * 11 + p) * ctot C m a
theorem ctot_pos {C : Nat → Nat} {m key : Nat} : 0 < ctot C m key ↔ ∃ i, i < m ∧ C i / 11 = key := by
  constructor
  · intro h
    obtain ⟨i, h1, h2⟩ := lsum_pos h
    refine ⟨i, h1, ?_⟩
    by_cases e1 : C i / 11 = key
    · exact e1
    · rw [if_neg e1] at h2; omega
  · rintro ⟨i, h1, h2⟩
    have := lsum_mem (f := fun i => if C i / 11 = key then 1 else 0) h1
    rw [if_pos h2] at this
    exact this
theorem calk_rf (C : Nat → Nat) (m a : Nat) : calk C m a a := fun _ _ => rfl
theorem calk_sy {C : Nat → Nat} {m a b : Nat} (h : calk C m a b) : calk C m b a := fun p hp => (h p hp).symm
theorem calk_tr {C : Nat → Nat} {m a b d : Nat} (hb : 0 < ctot C m b) (h1 : calk C m a b) (h2 : calk C m b d) : calk C m a d := by
  intro p hp
  have e1 := h1 p hp
  have e2 := h2 p hp
  apply Nat.eq_of_mul_eq_mul_right hb
  calc occ C m (a * 11 + p) * ctot C m d * ctot C m b = (occ C m (a * 11 + p) * ctot C m b) * ctot C m d := by rw [Nat.mul_right_comm]
    _ = (occ C m (b * 11 + p) * ctot C m a) * ctot C m d := by rw [e1]
    _ = (occ C m (b * 11 + p) * ctot C m d) * ctot C m a := by rw [Nat.mul_right_comm]
    _ = (occ C m (d * 11 + p) * ctot C m b) * ctot C m a := by rw [e2]
    _ = occ C m (d * 11 + p) * ctot C m a * ctot C m b := by rw [Nat.mul_right_comm]
/-- the least below n that is so, or n -/
noncomputable def lfnd (p : Nat → Prop) : Nat → Nat
  | 0 => 0
  | n + 1 => if lfnd p n < n then lfnd p n else @ite _ (p n) (Classical.propDecidable _) n (n + 1)
theorem lfnd_spec {p : Nat → Prop} : ∀ n, (lfnd p n ≤ n) ∧ (lfnd p n < n → p (lfnd p n)) ∧ ∀ j, j < lfnd p n → ¬ p j
  | 0 => ⟨Nat.le_refl _, fun h => absurd h (Nat.not_lt_zero _), fun j hj => absurd hj (Nat.not_lt_zero _)⟩
  | n + 1 => by
    obtain ⟨h1, h2, h3⟩ := lfnd_spec (p := p) n
    unfold lfnd
    by_cases hl : lfnd p n < n
    · rw [if_pos hl]
      exact ⟨by omega, fun _ => h2 hl, h3⟩
    · rw [if_neg hl]
      have e1 : lfnd p n = n := by omega
      rw [e1] at h3
      by_cases hp : p n
      · rw [if_pos hp]
        exact ⟨by omega, fun _ => hp, h3⟩
      · rw [if_neg hp]
        refine ⟨by omega, fun h => absurd h (by omega), fun j hj => ?_⟩
        by_cases ej : j = n
        · subst ej; exact hp
        · exact h3 j (by omega)
theorem lfnd_lt {p : Nat → Prop} {n : Nat} (h : ∃ i, i < n ∧ p i) : lfnd p n < n := by
  obtain ⟨i, h1, h2⟩ := h
  rcases Nat.lt_or_ge (lfnd p n) n with q | q
  · exact q
  · exact absurd h2 ((lfnd_spec (p := p) n).2.2 i (by omega))
theorem lfnd_congr {p q : Nat → Prop} {n : Nat} (h : ∀ i, i < n → (p i ↔ q i)) : lfnd p n = lfnd q n := by
  have a := lfnd_spec (p := p) n
  have b := lfnd_spec (p := q) n
  rcases Nat.lt_trichotomy (lfnd p n) (lfnd q n) with z | z | z
  · have hn : lfnd p n < n := by omega
    exact absurd ((h _ hn).mp (a.2.1 hn)) (b.2.2 _ z)
  · exact z
  · have hn : lfnd q n < n := by omega
    exact absurd ((h _ hn).mpr (b.2.1 hn)) (a.2.2 _ z)
noncomputable def crep (C : Nat → Nat) (m N a : Nat) : Nat := lfnd (fun b => 0 < ctot C m b ∧ calk C m b a) N
theorem crep_lt {C : Nat → Nat} {m N a : Nat} (ha : a < N) (hp : 0 < ctot C m a) : crep C m N a < N := lfnd_lt ⟨a, ha, hp, calk_rf C m a⟩
theorem crep_iff {C : Nat → Nat} {m N a b : Nat} (ha : a < N) (hpa : 0 < ctot C m a) (hb : b < N) (hpb : 0 < ctot C m b) : crep C m N a = crep C m N b ↔ calk C m a b := by
  constructor
  · intro h
    have a1 := (lfnd_spec (p := fun x => 0 < ctot C m x ∧ calk C m x a) N).2.1 (crep_lt ha hpa)
    have b1 := (lfnd_spec (p := fun x => 0 < ctot C m x ∧ calk C m x b) N).2.1 (crep_lt hb hpb)
    have h' : lfnd (fun x => 0 < ctot C m x ∧ calk C m x a) N = lfnd (fun x => 0 < ctot C m x ∧ calk C m x b) N := h
    rw [← h'] at b1
    exact calk_tr a1.1 (calk_sy a1.2) b1.2
  · intro h
    exact lfnd_congr (fun c _ => ⟨fun ⟨x, y⟩ => ⟨x, calk_tr hpa y h⟩, fun ⟨x, y⟩ => ⟨x, calk_tr hpb y (calk_sy h)⟩⟩)
/-- how many unlike CONTEXTS, and STATES -/
noncomputable def cnum (S : lpR) : Nat := dist 10000 (fun i => S.2 i / 11) S.1
noncomputable def cstt (S : lpR) : Nat := dist 10000 (fun i => crep S.2 S.1 10000 (S.2 i / 11)) S.1
/-- two rows with the same values as often -/
def prm (C D : Nat → Nat) (m : Nat) : Prop := ∀ g : Nat → Nat, lsum (fun i => g (D i)) m = lsum (fun i => g (C i)) m
theorem prm_ctot {C D : Nat → Nat} {m : Nat} (h : prm C D m) : ctot D m = ctot C m := by
  funext key
  exact h (fun x => if x / 11 = key then 1 else 0)
theorem prm_occ {C D : Nat → Nat} {m : Nat} (h : prm C D m) : occ D m = occ C m := by
  funext c
  exact h (fun x => if x = c then 1 else 0)
theorem prm_calk {C D : Nat → Nat} {m : Nat} (h : prm C D m) : calk D m = calk C m := by
  funext a b
  unfold calk
  rw [prm_ctot h, prm_occ h]
theorem prm_crep {C D : Nat → Nat} {m N : Nat} (h : prm C D m) : crep D m N = crep C m N := by
  funext a
  unfold crep
  rw [prm_ctot h, prm_calk h]
theorem prm_key {C D : Nat → Nat} {m : Nat} (h : prm C D m) (key : Nat) : (∃ i, i < m ∧ D i / 11 = key) ↔ (∃ i, i < m ∧ C i / 11 = key) := by
  rw [← ctot_pos, ← ctot_pos, prm_ctot h]
theorem prm_cnum {C D : Nat → Nat} {m : Nat} (h : prm C D m) : cnum (m, D) = cnum (m, C) := dist_congr (fun key => prm_key h key)
theorem prm_cstt {C D : Nat → Nat} {m : Nat} (h : prm C D m) : cstt (m, D) = cstt (m, C) := by
  unfold cstt
  dsimp only
  rw [prm_crep h]
  refine dist_congr (fun x => ?_)
  constructor
  · rintro ⟨i, h1, h2⟩
    obtain ⟨j, h3, h4⟩ := (prm_key h (D i / 11)).mp ⟨i, h1, rfl⟩
    exact ⟨j, h3, by rw [h4]; exact h2⟩
  · rintro ⟨i, h1, h2⟩
    obtain ⟨j, h3, h4⟩ := (prm_key h (C i / 11)).mpr ⟨i, h1, rfl⟩
    exact ⟨j, h3, by rw [h4]; exact h2⟩
def srt (D : Nat → Nat) (m : Nat) : Prop := ∀ i j, i ≤ j → j < m → D i ≤ D j
def cfst (D : Nat → Nat) (i : Nat) : Prop := i = 0 ∨ D i / 11 ≠ D (i - 1) / 11
/-- in order: a first one is a new one -/
theorem cfst_new {D : Nat → Nat} {m i : Nat} (hs : srt D m) (hi : i < m) : cfst D i ↔ ∀ j, j < i → D j / 11 ≠ D i / 11 := by
  constructor
  · rintro (rfl | h) j hj
    · omega
    · have a := hs j (i - 1) (by omega) (by omega)
      have b := hs (i - 1) i (by omega) hi
      have a2 := Nat.div_le_div_right (c := 11) a
      have b2 := Nat.div_le_div_right (c := 11) b
      omega
  · intro h
    rcases Nat.eq_zero_or_pos i with z | z
    · exact Or.inl z
    · exact Or.inr (fun q => h (i - 1) (by omega) q.symm)
theorem gthP_keep (pg : Nat → Nat) (k e1 : Nat) : ∀ (r p : Nat) (S : lpR), (gthP pg k e1 r p S).1 = S.1 + r ∧ (∀ j, j < S.1 → (gthP pg k e1 r p S).2 j = S.2 j)
  | 0, p, S => ⟨rfl, fun _ _ => rfl⟩
  | r + 1, p, S => by
    obtain ⟨h1, h2⟩ := gthP_keep pg k e1 r (p + 1) (S.1 + 1, nu S.2 S.1 (ccod pg k e1 p))
    refine ⟨by show (gthP pg k e1 r (p + 1) _).1 = _; rw [h1]; dsimp only; omega, fun j hj => ?_⟩
    show (gthP pg k e1 r (p + 1) _).2 j = _
    rw [h2 j (by dsimp only; omega)]
    exact nu_ne (by omega)
end
section
/-! ===== pure: what a LOG counts ===== -/
def lp_mc (c r : Nat) : Nat := if c = 0 then 0 else max c r
def lfr (s pg : Nat → Nat) (v i : Nat) : Nat := if i = 0 then 10 else pg (s v + i - 1)
def ltt (s pg : Nat → Nat) (v i : Nat) : Nat := if i < s (v + 1) - s v then pg (s v + i) else 10
def inV (s pg : Nat → Nat) (f t v : Nat) : Nat := if s (v + 1) - s v = 0 then 0 else lsum (fun i => if lfr s pg v i = f ∧ ltt s pg v i = t then 1 else 0) (s (v + 1) - s v + 1)
/-- how often a STEP is in the LOG -/
def inL (n : Nat) (s pg : Nat → Nat) (f t : Nat) : Nat := lsum (inV s pg f t) n
def wV (s pg wt : Nat → Nat) (f t w v : Nat) : Nat := lsum (fun i => if lfr s pg v i = f ∧ pg (s v + i) = t ∧ wt (s v + i) = w then 1 else 0) (s (v + 1) - s v)
/-- how often a WAIT comes with it -/
def wL (n : Nat) (s pg wt : Nat → Nat) (f t w : Nat) : Nat := lsum (wV s pg wt f t w) n
theorem lfr_congr {s s' pg pg' : Nat → Nat} {v i : Nat} (h1 : s' v = s v) (h3 : ∀ j, j < s (v + 1) - s v → pg' (s v + j) = pg (s v + j)) (hi : i ≤ s (v + 1) - s v) : lfr s' pg' v i = lfr s pg v i := by
  unfold lfr
  by_cases z : i = 0
  · rw [if_pos z, if_pos z]
  · rw [if_neg z, if_neg z, h1]
    have := h3 (i - 1) (by omega)
    rw [show s v + (i - 1) = s v + i - 1 by omega] at this
    exact this
theorem inV_congr {s s' pg pg' : Nat → Nat} {f t v : Nat} (h1 : s' v = s v) (h2 : s' (v + 1) = s (v + 1)) (h3 : ∀ j, j < s (v + 1) - s v → pg' (s v + j) = pg (s v + j)) : inV s' pg' f t v = inV s pg f t v := by
  unfold inV
  rw [h1, h2]
  by_cases z : s (v + 1) - s v = 0
  · rw [if_pos z, if_pos z]
  · rw [if_neg z, if_neg z]
    refine lsum_congr (fun i hi => ?_)
    rw [lfr_congr h1 h3 (by omega)]
    have : ltt s' pg' v i = ltt s pg v i := by
      unfold ltt
      rw [h1, h2]
      by_cases y : i < s (v + 1) - s v
      · rw [if_pos y, if_pos y]; exact h3 i y
      · rw [if_neg y, if_neg y]
    rw [this]
theorem wV_congr {s s' pg pg' wt wt' : Nat → Nat} {f t w v : Nat} (h1 : s' v = s v) (h2 : s' (v + 1) = s (v + 1)) (h3 : ∀ j, j < s (v + 1) - s v → pg' (s v + j) = pg (s v + j) ∧ wt' (s v + j) = wt (s v + j)) : wV s' pg' wt' f t w v = wV s pg wt f t w v := by
  unfold wV
  rw [h1, h2]
  refine lsum_congr (fun i hi => ?_)
  rw [lfr_congr h1 (fun j hj => (h3 j hj).1) (by omega), (h3 i hi).1, (h3 i hi).2]
theorem inL_congr {n : Nat} {s s' pg pg' wt : Nat → Nat} {f t : Nat} (hV : lpV0 n s wt) (h1 : ∀ v, v ≤ n → s' v = s v) (h3 : ∀ j, j < s n → pg' j = pg j) : inL n s' pg' f t = inL n s pg f t := by
  refine lsum_congr (fun v hv => inV_congr (h1 v (by omega)) (h1 (v + 1) (by omega)) (fun j hj => h3 _ ?_))
  have := lpV0_le hV (show v + 1 ≤ n by omega) (Nat.le_refl n)
  omega
theorem wL_congr {n : Nat} {s s' pg pg' wt wt' : Nat → Nat} {f t w : Nat} (hV : lpV0 n s wt) (h1 : ∀ v, v ≤ n → s' v = s v) (h3 : ∀ j, j < s n → pg' j = pg j ∧ wt' j = wt j) : wL n s' pg' wt' f t w = wL n s pg wt f t w := by
  refine lsum_congr (fun v hv => wV_congr (h1 v (by omega)) (h1 (v + 1) (by omega)) (fun j hj => h3 _ ?_))
  have := lpV0_le hV (show v + 1 ≤ n by omega) (Nat.le_refl n)
  omega
theorem inL_open {n : Nat} {s pg wt : Nat → Nat} {f t : Nat} (hV : lpV0 n s wt) : inL (n + 1) (nu s (n + 1) (s n)) pg f t = inL n s pg f t := by
  show lsum (inV (nu s (n + 1) (s n)) pg f t) n + inV (nu s (n + 1) (s n)) pg f t n = _
  have e1 : inV (nu s (n + 1) (s n)) pg f t n = 0 := by
    unfold inV
    rw [nu_same, nu_ne (by omega), if_pos (by omega)]
  rw [e1]
  exact inL_congr hV (fun v hv => nu_ne (by omega)) (fun _ _ => rfl)
theorem wL_open {n : Nat} {s pg wt : Nat → Nat} {f t w : Nat} (hV : lpV0 n s wt) : wL (n + 1) (nu s (n + 1) (s n)) pg wt f t w = wL n s pg wt f t w := by
  show lsum (wV (nu s (n + 1) (s n)) pg wt f t w) n + wV (nu s (n + 1) (s n)) pg wt f t w n = _
  have e1 : wV (nu s (n + 1) (s n)) pg wt f t w n = 0 := by
    unfold wV
    rw [nu_same, nu_ne (by omega), Nat.sub_self]
    rfl
  rw [e1]
  exact wL_congr hV (fun v hv => nu_ne (by omega)) (fun _ _ => ⟨rfl, rfl⟩)
/-- where the latest VISIT stands -/
def lpl (s pg : Nat → Nat) (v : Nat) : Nat := if s (v + 1) - s v = 0 then 10 else pg (s (v + 1) - 1)
theorem inL_add {v p : Nat} {s pg wt : Nat → Nat} (hV : lpV0 (v + 1) s wt) (f t : Nat) :
    inL (v + 1) (nu s (v + 1) (s (v + 1) + 1)) (nu pg (s (v + 1)) p) f t + (if s (v + 1) - s v ≠ 0 ∧ f = lpl s pg v ∧ t = 10 then 1 else 0) = inL (v + 1) s pg f t + (if f = lpl s pg v ∧ t = p then 1 else 0) + (if f = p ∧ t = 10 then 1 else 0) := by
  have hsv := (hV.2.2.1 v (by omega)).1
  have hV' : lpV0 v s wt := ⟨by have := hV.1; omega, hV.2.1, fun x hx => hV.2.2.1 x (by omega), fun j hj => hV.2.2.2 j (by omega)⟩
  have e1 : lsum (inV (nu s (v + 1) (s (v + 1) + 1)) (nu pg (s (v + 1)) p) f t) v = lsum (inV s pg f t) v := inL_congr hV' (fun x hx => nu_ne (by omega)) (fun j hj => nu_ne (by omega))
  show lsum (inV (nu s (v + 1) (s (v + 1) + 1)) (nu pg (s (v + 1)) p) f t) v + inV (nu s (v + 1) (s (v + 1) + 1)) (nu pg (s (v + 1)) p) f t v + _ = lsum (inV s pg f t) v + inV s pg f t v + _ + _
  rw [e1]
  generalize lsum (inV s pg f t) v = X
  have a1 : nu s (v + 1) (s (v + 1) + 1) v = s v := nu_ne (by omega)
  have a2 : nu s (v + 1) (s (v + 1) + 1) (v + 1) = s (v + 1) + 1 := nu_same _ _ _
  have hlen : nu s (v + 1) (s (v + 1) + 1) (v + 1) - nu s (v + 1) (s (v + 1) + 1) v = s (v + 1) - s v + 1 := by rw [a1, a2]; omega
  have b1 : inV (nu s (v + 1) (s (v + 1) + 1)) (nu pg (s (v + 1)) p) f t v = lsum (fun i => if lfr s pg v i = f ∧ pg (s v + i) = t then 1 else 0) (s (v + 1) - s v) + (if f = lpl s pg v ∧ t = p then 1 else 0) + (if f = p ∧ t = 10 then 1 else 0) := by
    unfold inV
    rw [hlen, if_neg (by omega)]
    show lsum _ (s (v + 1) - s v) + _ + _ = _
    have c1 : ∀ i, i ≤ s (v + 1) - s v → lfr (nu s (v + 1) (s (v + 1) + 1)) (nu pg (s (v + 1)) p) v i = lfr s pg v i := fun i hi => lfr_congr a1 (fun j hj => nu_ne (by omega)) hi
    have c2 : ∀ i, i < s (v + 1) - s v → ltt (nu s (v + 1) (s (v + 1) + 1)) (nu pg (s (v + 1)) p) v i = pg (s v + i) := fun i hi => by
      unfold ltt
      rw [hlen, if_pos (by omega), a1]
      exact nu_ne (by omega)
    have c3 : ltt (nu s (v + 1) (s (v + 1) + 1)) (nu pg (s (v + 1)) p) v (s (v + 1) - s v) = p := by
      unfold ltt
      rw [hlen, if_pos (by omega), a1, show s v + (s (v + 1) - s v) = s (v + 1) by omega]
      exact nu_same _ _ _
    have c4 : lfr (nu s (v + 1) (s (v + 1) + 1)) (nu pg (s (v + 1)) p) v (s (v + 1) - s v + 1) = p := by
      unfold lfr
      rw [if_neg (by omega), a1, show s v + (s (v + 1) - s v + 1) - 1 = s (v + 1) by omega]
      exact nu_same _ _ _
    have c5 : ltt (nu s (v + 1) (s (v + 1) + 1)) (nu pg (s (v + 1)) p) v (s (v + 1) - s v + 1) = 10 := by
      unfold ltt
      rw [hlen, if_neg (by omega)]
    have c6 : lfr s pg v (s (v + 1) - s v) = lpl s pg v := by
      unfold lfr lpl
      by_cases z : s (v + 1) - s v = 0
      · rw [if_pos z, if_pos z]
      · rw [if_neg z, if_neg z, show s v + (s (v + 1) - s v) - 1 = s (v + 1) - 1 by omega]
    have d1 : lsum (fun i => if lfr (nu s (v + 1) (s (v + 1) + 1)) (nu pg (s (v + 1)) p) v i = f ∧ ltt (nu s (v + 1) (s (v + 1) + 1)) (nu pg (s (v + 1)) p) v i = t then 1 else 0) (s (v + 1) - s v) = lsum (fun i => if lfr s pg v i = f ∧ pg (s v + i) = t then 1 else 0) (s (v + 1) - s v) := lsum_congr (fun i hi => by rw [c1 i (by omega), c2 i hi])
    have d2 : (if lfr (nu s (v + 1) (s (v + 1) + 1)) (nu pg (s (v + 1)) p) v (s (v + 1) - s v) = f ∧ ltt (nu s (v + 1) (s (v + 1) + 1)) (nu pg (s (v + 1)) p) v (s (v + 1) - s v) = t then 1 else 0) = (if f = lpl s pg v ∧ t = p then 1 else 0) := by
      rw [c1 _ (Nat.le_refl _), c6, c3]
      simp only [eq_comm]
    have d3 : (if lfr (nu s (v + 1) (s (v + 1) + 1)) (nu pg (s (v + 1)) p) v (s (v + 1) - s v + 1) = f ∧ ltt (nu s (v + 1) (s (v + 1) + 1)) (nu pg (s (v + 1)) p) v (s (v + 1) - s v + 1) = t then 1 else 0) = (if f = p ∧ t = 10 then 1 else 0) := by
      rw [c4, c5]
      simp only [eq_comm]
    rw [d1]
    dsimp only
    rw [d2, d3]
  have b2 : inV s pg f t v = lsum (fun i => if lfr s pg v i = f ∧ pg (s v + i) = t then 1 else 0) (s (v + 1) - s v) + (if s (v + 1) - s v ≠ 0 ∧ f = lpl s pg v ∧ t = 10 then 1 else 0) := by
    unfold inV
    by_cases z : s (v + 1) - s v = 0
    · rw [if_pos z, z, if_neg (fun q => q.1 rfl)]
      rfl
    · rw [if_neg z]
      show lsum _ (s (v + 1) - s v) + _ = _
      have d1 : lsum (fun i => if lfr s pg v i = f ∧ ltt s pg v i = t then 1 else 0) (s (v + 1) - s v) = lsum (fun i => if lfr s pg v i = f ∧ pg (s v + i) = t then 1 else 0) (s (v + 1) - s v) := lsum_congr (fun i hi => by
        rw [show ltt s pg v i = pg (s v + i) from if_pos hi])
      have d2 : (if lfr s pg v (s (v + 1) - s v) = f ∧ ltt s pg v (s (v + 1) - s v) = t then 1 else 0) = (if s (v + 1) - s v ≠ 0 ∧ f = lpl s pg v ∧ t = 10 then 1 else 0) := by
        have q1 : lfr s pg v (s (v + 1) - s v) = lpl s pg v := by
          unfold lfr lpl
          rw [if_neg z, if_neg z, show s v + (s (v + 1) - s v) - 1 = s (v + 1) - 1 by omega]
        have q2 : ltt s pg v (s (v + 1) - s v) = 10 := if_neg (by omega)
        rw [q1, q2]
        by_cases y : f = lpl s pg v ∧ t = 10
        · rw [if_pos ⟨y.1.symm, y.2.symm⟩, if_pos ⟨z, y⟩]
        · rw [if_neg (fun x => y ⟨x.1.symm, x.2.symm⟩), if_neg (fun x => y x.2)]
      rw [d1]
      dsimp only
      rw [d2]
  rw [b1, b2]
  omega
theorem wL_add {v p u : Nat} {s pg wt : Nat → Nat} (hV : lpV0 (v + 1) s wt) (f t w : Nat) :
    wL (v + 1) (nu s (v + 1) (s (v + 1) + 1)) (nu pg (s (v + 1)) p) (nu wt (s (v + 1)) u) f t w = wL (v + 1) s pg wt f t w + (if f = lpl s pg v ∧ t = p ∧ w = u then 1 else 0) := by
  have hsv := (hV.2.2.1 v (by omega)).1
  have hV' : lpV0 v s wt := ⟨by have := hV.1; omega, hV.2.1, fun x hx => hV.2.2.1 x (by omega), fun j hj => hV.2.2.2 j (by omega)⟩
  have e1 : lsum (wV (nu s (v + 1) (s (v + 1) + 1)) (nu pg (s (v + 1)) p) (nu wt (s (v + 1)) u) f t w) v = lsum (wV s pg wt f t w) v := wL_congr hV' (fun x hx => nu_ne (by omega)) (fun j hj => ⟨nu_ne (by omega), nu_ne (by omega)⟩)
  show lsum (wV (nu s (v + 1) (s (v + 1) + 1)) (nu pg (s (v + 1)) p) (nu wt (s (v + 1)) u) f t w) v + wV (nu s (v + 1) (s (v + 1) + 1)) (nu pg (s (v + 1)) p) (nu wt (s (v + 1)) u) f t w v = lsum (wV s pg wt f t w) v + wV s pg wt f t w v + _
  rw [e1, Nat.add_assoc]
  congr 1
  have a1 : nu s (v + 1) (s (v + 1) + 1) v = s v := nu_ne (by omega)
  have a2 : nu s (v + 1) (s (v + 1) + 1) (v + 1) = s (v + 1) + 1 := nu_same _ _ _
  unfold wV
  rw [a2, a1, show s (v + 1) + 1 - s v = s (v + 1) - s v + 1 by omega]
  show lsum _ (s (v + 1) - s v) + _ = _
  have c1 : ∀ i, i ≤ s (v + 1) - s v → lfr (nu s (v + 1) (s (v + 1) + 1)) (nu pg (s (v + 1)) p) v i = lfr s pg v i := fun i hi => lfr_congr a1 (fun j hj => nu_ne (by omega)) hi
  have c6 : lfr s pg v (s (v + 1) - s v) = lpl s pg v := by
    unfold lfr lpl
    by_cases z : s (v + 1) - s v = 0
    · rw [if_pos z, if_pos z]
    · rw [if_neg z, if_neg z, show s v + (s (v + 1) - s v) - 1 = s (v + 1) - 1 by omega]
  have d1 : lsum (fun i => if lfr (nu s (v + 1) (s (v + 1) + 1)) (nu pg (s (v + 1)) p) v i = f ∧ nu pg (s (v + 1)) p (s v + i) = t ∧ nu wt (s (v + 1)) u (s v + i) = w then 1 else 0) (s (v + 1) - s v) = lsum (fun i => if lfr s pg v i = f ∧ pg (s v + i) = t ∧ wt (s v + i) = w then 1 else 0) (s (v + 1) - s v) := lsum_congr (fun i hi => by
    rw [c1 i (by omega), nu_ne (show s v + i ≠ s (v + 1) by omega), nu_ne (show s v + i ≠ s (v + 1) by omega)])
  rw [d1]
  congr 1
  dsimp only
  rw [c1 _ (Nat.le_refl _), c6, show s v + (s (v + 1) - s v) = s (v + 1) by omega, nu_same, nu_same]
  simp only [eq_comm]
theorem inV_le {s pg : Nat → Nat} {f t v : Nat} (h : s (v + 1) ≤ s v + 20) : inV s pg f t v ≤ 21 := by
  unfold inV
  split
  · omega
  · have : lsum (fun i => if lfr s pg v i = f ∧ ltt s pg v i = t then 1 else 0) (s (v + 1) - s v + 1) ≤ lsum (fun _ => 1) (s (v + 1) - s v + 1) := lsum_le (fun i _ => by split <;> omega)
    have h1 : ∀ m, lsum (fun _ => 1) m = m := fun m => by
      induction m with
      | zero => rfl
      | succ m ih => show lsum (fun _ => 1) m + 1 = m + 1; rw [ih]
    rw [h1] at this
    omega
theorem lsum_bd {f : Nat → Nat} {K : Nat} : ∀ {n : Nat}, (∀ i, i < n → f i ≤ K) → lsum f n ≤ n * K
  | 0, _ => by simp [lsum]
  | n + 1, h => by
    have a := lsum_bd (f := f) (K := K) (n := n) (fun i hi => h i (by omega))
    have b := h n (by omega)
    show lsum f n + f n ≤ (n + 1) * K
    rw [Nat.succ_mul]
    omega
theorem inL_le {n : Nat} {s pg wt : Nat → Nat} (hV : lpV0 n s wt) (f t : Nat) : inL n s pg f t ≤ 1260 := by
  have h := lsum_bd (f := inV s pg f t) (K := 21) (n := n) (fun v hv => inV_le (hV.2.2.1 v hv).2)
  have := hV.1
  have h2 : n * 21 ≤ 60 * 21 := Nat.mul_le_mul_right _ this
  exact Nat.le_trans h h2
theorem lsum_comm (g : Nat → Nat → Nat) (n : Nat) : ∀ m, lsum (fun w => lsum (fun v => g v w) n) m = lsum (fun v => lsum (g v) m) n
  | 0 => (lsum_zero (fun _ _ => rfl)).symm
  | m + 1 => by
    show lsum (fun w => lsum (fun v => g v w) n) m + lsum (fun v => g v m) n = lsum (fun v => lsum (g v) m + g v m) n
    rw [lsum_comm g n m, lsum_add]
theorem lsum_one {a : Nat} {p : Prop} [Decidable p] : ∀ {m : Nat}, lsum (fun w => if p ∧ a = w then 1 else 0) m ≤ 1
  | 0 => by simp [lsum]
  | m + 1 => by
    show lsum (fun w => if p ∧ a = w then 1 else 0) m + (if p ∧ a = m then 1 else 0) ≤ 1
    by_cases h : p ∧ a = m
    · rw [if_pos h, lsum_zero (fun i hi => if_neg (fun q => by omega))]
      omega
    · rw [if_neg h]
      have := lsum_one (a := a) (p := p) (m := m)
      omega
theorem wL_sum {n : Nat} {s pg wt : Nat → Nat} (hV : lpV0 n s wt) (f t : Nat) : lsum (wL n s pg wt f t) 61 ≤ 1200 := by
  have e1 : lsum (wL n s pg wt f t) 61 = lsum (fun v => lsum (fun w => wV s pg wt f t w v) 61) n := lsum_comm (fun v w => wV s pg wt f t w v) n 61
  rw [e1]
  have h := lsum_bd (f := fun v => lsum (fun w => wV s pg wt f t w v) 61) (K := 20) (n := n) (fun v hv => by
    have e2 : lsum (fun w => wV s pg wt f t w v) 61 = lsum (fun i => lsum (fun w => if lfr s pg v i = f ∧ pg (s v + i) = t ∧ wt (s v + i) = w then 1 else 0) 61) (s (v + 1) - s v) := lsum_comm (fun i w => if lfr s pg v i = f ∧ pg (s v + i) = t ∧ wt (s v + i) = w then 1 else 0) (s (v + 1) - s v) 61
    show lsum (fun w => wV s pg wt f t w v) 61 ≤ 20
    rw [e2]
    have h2 := lsum_bd (f := fun i => lsum (fun w => if lfr s pg v i = f ∧ pg (s v + i) = t ∧ wt (s v + i) = w then 1 else 0) 61) (K := 1) (n := s (v + 1) - s v) (fun i _ => by
      have h3 := lsum_one (a := wt (s v + i)) (p := lfr s pg v i = f ∧ pg (s v + i) = t) (m := 61)
      simp only [and_assoc] at h3
      exact h3)
    have := hV.2.2.1 v hv
    omega)
  have := hV.1
  omega
/-- the counts of a LOG that has an ASK: WALKS can be dealt of them -/
theorem lpG_log {n : Nat} {s pg wt rr : Nat → Nat} (hV : lpV0 n s wt) (hpg : ∀ j, j < s n → pg j < 10) (hrr : ∀ j, j < 121 → rr j ≤ 100) (h0 : 0 < s n) :
    lpG (fun f t => lp_mc (inL n s pg ((f * 11 + t) / 11) ((f * 11 + t) % 11)) (rr (f * 11 + t))) (fun j w => wL n s pg wt (j / 11) (j % 11) w) := by
  have hpos : ∀ f t, t < 11 → 0 < inL n s pg f t → 0 < lp_mc (inL n s pg ((f * 11 + t) / 11) ((f * 11 + t) % 11)) (rr (f * 11 + t)) := by
    intro f t ht h
    rw [show (f * 11 + t) / 11 = f by omega, show (f * 11 + t) % 11 = t by omega]
    unfold lp_mc
    rw [if_neg (by omega)]
    exact Nat.lt_of_lt_of_le h (Nat.le_max_left _ _)
  have hmem : ∀ v i, v < n → i < s (v + 1) - s v → 0 < inL n s pg (lfr s pg v i) (pg (s v + i)) ∧ 0 < inL n s pg (pg (s v + i)) (ltt s pg v (i + 1)) ∧ ltt s pg v (i + 1) < 11 ∧ 0 < wL n s pg wt (lfr s pg v i) (pg (s v + i)) (wt (s v + i)) := by
    intro v i hv hi
    have hz : ¬ s (v + 1) - s v = 0 := by omega
    have e1 : ltt s pg v i = pg (s v + i) := if_pos hi
    have e2 : lfr s pg v (i + 1) = pg (s v + i) := by
      unfold lfr
      rw [if_neg (by omega)]
      congr 1
    have hle := lpV0_le hV (show v + 1 ≤ n by omega) (Nat.le_refl n)
    have k1 : ∀ f t x, x ≤ s (v + 1) - s v → lfr s pg v x = f → ltt s pg v x = t → 0 < inL n s pg f t := by
      intro f t x hx h1 h2
      have a := lsum_mem (f := inV s pg f t) hv
      have b : 0 < inV s pg f t v := by
        unfold inV
        rw [if_neg hz]
        have c := lsum_mem (f := fun i => if lfr s pg v i = f ∧ ltt s pg v i = t then 1 else 0) (show x < s (v + 1) - s v + 1 by omega)
        rw [if_pos ⟨h1, h2⟩] at c
        exact c
      exact Nat.lt_of_lt_of_le b a
    refine ⟨k1 _ _ i (by omega) rfl e1, k1 _ _ (i + 1) (by omega) e2 rfl, ?_, ?_⟩
    · unfold ltt
      split
      · have := hpg (s v + (i + 1)) (by omega)
        omega
      · omega
    · have a := lsum_mem (f := wV s pg wt (lfr s pg v i) (pg (s v + i)) (wt (s v + i))) hv
      have c := lsum_mem (f := fun x => if lfr s pg v x = lfr s pg v i ∧ pg (s v + x) = pg (s v + i) ∧ wt (s v + x) = wt (s v + i) then 1 else 0) hi
      rw [if_pos ⟨rfl, rfl, rfl⟩] at c
      exact Nat.lt_of_lt_of_le (Nat.lt_of_lt_of_le (by omega) c) a
  have hsum : ∀ (g : Nat → Nat) (x m : Nat), x < m → 0 < g x → 0 < lsum g m := fun g x m hx h => Nat.lt_of_lt_of_le h (lsum_mem hx)
  refine ⟨fun f hf => ?_, fun j hj => ?_, ?_, fun f t hf ht hc => ?_⟩
  · have := lsum_bd (f := fun t => lp_mc (inL n s pg ((f * 11 + t) / 11) ((f * 11 + t) % 11)) (rr (f * 11 + t))) (K := 1260) (n := 11) (fun t ht => by
      have a := inL_le (pg := pg) hV ((f * 11 + t) / 11) ((f * 11 + t) % 11)
      have b := hrr (f * 11 + t) (by omega)
      unfold lp_mc
      split
      · omega
      · exact Nat.max_le.mpr ⟨a, by omega⟩)
    exact Nat.lt_of_le_of_lt this (by omega)
  · have := wL_sum (pg := pg) hV (j / 11) (j % 11)
    exact Nat.lt_of_le_of_lt this (by omega)
  · have h1 : ∃ v, v < n ∧ 0 < s (v + 1) - s v := by
      have h2 := lpV0_tel hV n (Nat.le_refl _)
      rw [← h2] at h0
      exact lsum_pos h0
    obtain ⟨v, h2, h3⟩ := h1
    obtain ⟨a, -, -, -⟩ := hmem v 0 h2 h3
    have hle := lpV0_le hV (show v + 1 ≤ n by omega) (Nat.le_refl n)
    have hp := hpg (s v + 0) (by omega)
    exact hsum _ (pg (s v + 0)) 11 (by omega) (hpos 10 _ (by omega) a)
  · have hin : 0 < inL n s pg f t := by
      dsimp only at hc
      rw [show (f * 11 + t) / 11 = f by omega, show (f * 11 + t) % 11 = t by omega] at hc
      unfold lp_mc at hc
      by_cases z : inL n s pg f t = 0
      · rw [if_pos z] at hc; omega
      · omega
    obtain ⟨v, h1, h2⟩ := lsum_pos hin
    have hz : ¬ s (v + 1) - s v = 0 := fun z => by unfold inV at h2; rw [if_pos z] at h2; omega
    unfold inV at h2
    rw [if_neg hz] at h2
    obtain ⟨i, h3, h4⟩ := lsum_pos h2
    have h5 : lfr s pg v i = f ∧ ltt s pg v i = t := by
      by_cases y : lfr s pg v i = f ∧ ltt s pg v i = t
      · exact y
      · rw [if_neg y] at h4; omega
    have hi : i < s (v + 1) - s v := by
      by_cases y : i < s (v + 1) - s v
      · exact y
      · have : ltt s pg v i = 10 := if_neg y
        omega
    have e1 : pg (s v + i) = t := by
      have : ltt s pg v i = pg (s v + i) := if_pos hi
      rw [← this]; exact h5.2
    obtain ⟨-, b, c, d⟩ := hmem v i h1 hi
    rw [e1] at b d
    rw [h5.1] at d
    have hle := lpV0_le hV (show v + 1 ≤ n by omega) (Nat.le_refl n)
    have hw := hV.2.2.2 (s v + i) (by omega)
    refine ⟨hsum _ (wt (s v + i)) 61 (by omega) ?_, hsum _ (ltt s pg v (i + 1)) 11 c (hpos t _ c b)⟩
    show 0 < wL n s pg wt ((f * 11 + t) / 11) ((f * 11 + t) % 11) (wt (s v + i))
    rw [show (f * 11 + t) / 11 = f by omega, show (f * 11 + t) % 11 = t by omega]
    exact d
end
section
/-! ===== numbers, and the leaves ===== -/
theorem lp_method0 {l : Launch} {D : va_G} {cI cD : ClassId} {y : MethodName} {bytes : ByteArray} {nL : Nat} {ret : Option FieldType} {h : Nat} {spec : lpS} {own : String} (fl pf : List (Nat × Nat × Nat)) (kc : List (Nat × Int32)) (cs : List (Nat × Option Nat × Nat × lpS)) (bl : Bool) (code : lpC)
    (hy : plainName y.cls = true) (hown : y.cls = own) (hret : ret = none ∨ ret = some .int ∨ (ret = some .boolean ∧ bl = true)) (hfl : fl.all (lp_flb own) = true) (hpf : pf.all (lp_pfb own) = true) (hkc : kc.all (lp_kcb own) = true) (hcode : lp_okc code bytes ret = true) (hc0 : ∃ x k, code = x :: k ∧ x.1 = 0)
    (hcs : ∀ x ∈ cs, lp_CallOK l D cI cD own h x)
    (hE : ∀ (as : List lpV) (σ : lpM) (Q : Option Int32 → lpM → Prop), spec as σ Q → as.length ≤ nL ∧ lp_wp fl pf kc cs bl code [] (fun _ _ _ => False) Q 500 code (lp_ent as nL) [] σ) : lp_Ct l D cI cD y bytes nL ret h spec := by
  refine lp_method fl pf kc cs bl code [] hy hown hret hfl hpf hkc hcode hc0 hcs (fun as σ Q _ hs => ?_)
  obtain ⟨h1, h2⟩ := hE as σ Q hs
  refine ⟨h1, fun _ _ _ _ => False, ?_, fun _ _ _ _ h => h.elim⟩
  rw [show (fun (pc : Nat) (L : lpL) (σ : lpM) => ∃ m : Nat, (fun (_ _ : Nat) (_ : lpL) (_ : lpM) => False) m pc L σ) = (fun _ _ _ => False) from by
    funext a b c; simp]
  exact h2
theorem lp_rI : ∀ {r : Option FieldType}, r = some .int → r = none ∨ r = some .int ∨ (r = some .boolean ∧ false = true) := fun h => Or.inr (Or.inl h)
theorem lp_rB : ∀ {r : Option FieldType}, r = some .boolean → r = none ∨ r = some .int ∨ (r = some .boolean ∧ true = true) := fun h => Or.inr (Or.inr ⟨h, rfl⟩)
theorem lp_rV : ∀ {r : Option FieldType}, r = none → r = none ∨ r = some .int ∨ (r = some .boolean ∧ false = true) := fun h => Or.inl h
theorem lp_cs0 {l : Launch} {D : va_G} {cI cD : ClassId} {own : String} {h : Nat} : ∀ x ∈ ([] : List (Nat × Option Nat × Nat × lpS)), lp_CallOK l D cI cD own h x := fun x hx => by cases hx
theorem lp_cs1 {l : Launch} {D : va_G} {cI cD : ClassId} {own : String} {h : Nat} {a : Nat × Option Nat × Nat × lpS} {t : List (Nat × Option Nat × Nat × lpS)} (h1 : lp_CallOK l D cI cD own h a) (h2 : ∀ x ∈ t, lp_CallOK l D cI cD own h x) : ∀ x ∈ a :: t, lp_CallOK l D cI cD own h x := fun x hx => by
  rcases List.mem_cons.mp hx with rfl | hx
  · exact h1
  · exact h2 x hx
theorem lp_toInt {n : Nat} (h : n < 2 ^ 31) : (nI n).toInt = (n : Int) := nI_toInt h
theorem lp_subI {a b : Nat} (ha : a < 2 ^ 31) (hb : b < 2 ^ 31) : (nI a - nI b).toInt = (a : Int) - b := by
  have h1 := nI_toInt ha
  have h2 := nI_toInt hb
  rw [Int32.toInt_sub, h1, h2]
  have : (a : Int) - b < 2 ^ 31 ∧ -(2 ^ 31) ≤ (a : Int) - b := by omega
  rw [Int.bmod_eq_of_le (by omega) (by omega)]
/-- an index below n, or none -/
theorem lp_rng {x : Int32} {n : Nat} (hn : n < 2 ^ 31) : ((0 : Int32) ≤ x ∧ x ≤ nI n - 1) ↔ ∃ v, v < n ∧ x = nI v := by
  have e : (nI n - 1).toInt = (n : Int) - 1 := lp_subI (a := n) (b := 1) hn (by omega)
  constructor
  · rintro ⟨h1, h2⟩
    rw [Int32.le_iff_toInt_le] at h1 h2
    rw [e] at h2
    have h1 : 0 ≤ x.toInt := h1
    refine ⟨x.toInt.toNat, by omega, ?_⟩
    apply Int32.toInt_inj.mp
    rw [nI_toInt (by omega)]
    omega
  · rintro ⟨v, hv, rfl⟩
    rw [Int32.le_iff_toInt_le, Int32.le_iff_toInt_le, e, nI_toInt (by omega)]
    have : (0 : Int32).toInt = 0 := rfl
    omega
theorem lp_rng2 {x : Int32} {n : Nat} (hn : n < 2 ^ 31) : ((0 : Int32) ≤ x ∧ x ≤ nI n) ↔ ∃ v, v ≤ n ∧ x = nI v := by
  constructor
  · rintro ⟨h1, h2⟩
    rw [Int32.le_iff_toInt_le] at h1 h2
    rw [nI_toInt hn] at h2
    have h1 : 0 ≤ x.toInt := h1
    refine ⟨x.toInt.toNat, by omega, ?_⟩
    apply Int32.toInt_inj.mp
    rw [nI_toInt (by omega)]
    omega
  · rintro ⟨v, hv, rfl⟩
    rw [Int32.le_iff_toInt_le, Int32.le_iff_toInt_le, nI_toInt hn, nI_toInt (by omega)]
    have : (0 : Int32).toInt = 0 := rfl
    omega
theorem lp_rng1 {x : Int32} {n : Nat} (hn : n < 2 ^ 31) : ((1 : Int32) ≤ x ∧ x ≤ nI n) ↔ ∃ v, 1 ≤ v ∧ v ≤ n ∧ x = nI v := by
  have e1 : (1 : Int32).toInt = 1 := rfl
  constructor
  · rintro ⟨h1, h2⟩
    rw [Int32.le_iff_toInt_le] at h1 h2
    rw [nI_toInt hn] at h2
    rw [e1] at h1
    refine ⟨x.toInt.toNat, by omega, by omega, ?_⟩
    apply Int32.toInt_inj.mp
    rw [nI_toInt (by omega)]
    omega
  · rintro ⟨v, hv1, hv, rfl⟩
    rw [Int32.le_iff_toInt_le, Int32.le_iff_toInt_le, nI_toInt hn, nI_toInt (by omega), e1]
    omega
theorem lp_inj {a b : Nat} (ha : a < 2 ^ 31) (hb : b < 2 ^ 31) (h : nI a = nI b) : a = b := (nI_eq ha hb).mp h
theorem lp_neg1 {a : Nat} (ha : a < 2 ^ 31) : nI a ≠ -1 := by
  intro h
  have := congrArg Int32.toInt h
  rw [nI_toInt ha] at this
  have e : (-1 : Int32).toInt = -1 := rfl
  omega
theorem lp_vin {a n : Nat} (h : a < n) (hn : n < 2 ^ 31) : vp_in (nI a) n := vp_in_nI h hn
theorem lp_clm {a : Nat} (h : a < 2 ^ 31) : (nI a).toNatClampNeg = a := nI_clamp h
theorem lp_fill_0 (σ : lpM) (r k : Nat) (x : Int32) : True := trivial
/-- Arrays.fill of a row, up to n -/
def lp_fill (σ : lpM) (r k n : Nat) (x : Int32) : lpM := va_up σ r (va_up (σ r) k (fun j => if j < n then x else σ r k j))
theorem lp_fill_zero (σ : lpM) (r k : Nat) (x : Int32) : lp_fill σ r k 0 x = σ := by
  funext r' k' j
  by_cases hr : r' = r
  · subst hr
    by_cases hk : k' = k
    · subst hk; simp [lp_fill, va_up]
    · simp [lp_fill, va_up, hk]
  · simp [lp_fill, va_up, hr]
theorem lp_fill_succ (σ : lpM) (r k i : Nat) (x : Int32) : lp_w3 (lp_fill σ r k i x) r k i x = lp_fill σ r k (i + 1) x := by
  funext r' k' j
  by_cases hr : r' = r
  · subst hr
    by_cases hk : k' = k
    · subst hk
      by_cases hj : j = i
      · subst hj; simp [lp_fill, va_up, lp_w3, upd]
      · have : (j < i + 1) ↔ j < i := by omega
        simp [lp_fill, va_up, lp_w3, upd, hj, this]
    · simp [lp_fill, va_up, lp_w3, hk]
  · simp [lp_fill, va_up, lp_w3, hr]
def sp_J7_fill : lpS := fun as σ Q => match as with
  | [.inr (some (r, k)), .inl x] => ∃ len : Nat → Nat, lp_lay r = some (.inr (.inl len)) ∧ len k < 2 ^ 31 ∧ Q none (lp_fill σ r k (len k) x)
  | _ => False
theorem ct_J7_fill (l : Launch) (D : va_G) (cI cD : ClassId) : lp_Ct l D cI cD yJ7_fill_53178 cJ7_fill_53178 4 none 0 sp_J7_fill := by
  refine lp_method flJ7 pfJ7 kcJ7 [] false kJ7_fill_53178 [5] rfl rfl (lp_rV rfl) flJ7_ok pfJ7_ok kcJ7_ok kJ7_fill_53178_ok ⟨_, _, rfl, rfl⟩ lp_cs0 ?_
  intro as σ Q hok hs
  rcases as with _ | ⟨a | _ | ⟨r, k⟩, _ | ⟨x | b, _ | ⟨c, as⟩⟩⟩ <;> try exact (hs : False).elim
  obtain ⟨len, hl, h31, hq⟩ := hs
  refine ⟨by show 2 ≤ 4; omega, fun m pc L τ => pc = 5 ∧ ∃ i, m + i = len k ∧ i ≤ len k ∧ τ = lp_fill σ r k i x ∧ L = [some (.inr (some (r, k))), some (.inl x), some (.inl (nI i)), some (.inl (nI (len k)))], ?_, ?_⟩
  · conv => whnf
    rw [hl]
    conv => whnf
    exact ⟨len k, rfl, 0, rfl, Nat.zero_le _, (lp_fill_zero σ r k x).symm, rfl⟩
  · rintro m pc L τ ⟨rfl, i, hm, hi, rfl, rfl⟩
    conv => whnf
    refine ⟨fun h => ?_, fun h => ?_⟩ <;> conv => whnf
    · rw [nI_leI h31 (by omega)] at h
      obtain rfl : i = len k := by omega
      exact hq
    · rw [nI_leI h31 (by omega)] at h
      rw [hl]
      conv => whnf
      refine ⟨lp_vin (by omega) h31, ?_⟩
      conv => whnf
      rw [lp_clm (by omega), lp_fill_succ]
      exact ⟨len k - (i + 1), by omega, rfl, i + 1, by omega, by omega, rfl, by rw [nI_succ]; rfl⟩
def sp_X6_isWithin : lpS := fun as σ Q => match as with
  | [.inl a, .inl b, .inl c] => (b ≤ a ∧ a ≤ c ∧ Q (some 1) σ) ∨ (¬ (b ≤ a ∧ a ≤ c) ∧ Q (some 0) σ)
  | _ => False
theorem ct_X6_isWithin (l : Launch) (D : va_G) (cI cD : ClassId) : lp_Ct l D cI cD yX6_isWithin cX6_isWithin 3 (some .boolean) 0 sp_X6_isWithin := by
  refine lp_method0 flX6 pfX6 kcX6 [] true kX6_isWithin rfl rfl (lp_rB rfl) flX6_ok pfX6_ok kcX6_ok kX6_isWithin_ok ⟨_, _, rfl, rfl⟩ lp_cs0 ?_
  intro as σ Q hs
  rcases as with _ | ⟨a | a, _ | ⟨b | b, _ | ⟨c | c, _ | ⟨d, as⟩⟩⟩⟩ <;> try exact (hs : False).elim
  refine ⟨Nat.le_refl 3, ?_⟩
  conv => whnf
  refine ⟨fun q1 => ?_, fun q1 => ?_⟩ <;> conv => whnf
  · refine ⟨Or.inl rfl, ?_⟩
    rcases hs with ⟨p1, p2, hq⟩ | ⟨p1, hq⟩
    · exact absurd q1 (Int32.not_lt.mpr p1)
    · exact hq
  · refine ⟨fun q2 => ?_, fun q2 => ?_⟩ <;> conv => whnf
    · refine ⟨Or.inl rfl, ?_⟩
      rcases hs with ⟨p1, p2, hq⟩ | ⟨p1, hq⟩
      · exact absurd q2 (Int32.not_lt.mpr p2)
      · exact hq
    · refine ⟨Or.inr rfl, ?_⟩
      rcases hs with ⟨p1, p2, hq⟩ | ⟨p1, hq⟩
      · exact hq
      · exact absurd ⟨Int32.not_lt.mp q1, Int32.not_lt.mp q2⟩ p1
/-- an argument that is one of 0 .. n, or not -/
def sp_upto (n : Nat) : lpS := fun as σ Q => match as with
  | [.inl a] => (∃ v, v ≤ n ∧ a = nI v ∧ Q (some 1) σ) ∨ ((∀ v, v ≤ n → a ≠ nI v) ∧ Q (some 0) σ)
  | _ => False
theorem lp_upto {n : Nat} {a : Int32} {P1 P0 : Prop} (hn : n < 2 ^ 31) (h : (∃ v, v ≤ n ∧ a = nI v ∧ P1) ∨ ((∀ v, v ≤ n → a ≠ nI v) ∧ P0)) : ((0 : Int32) ≤ a ∧ a ≤ nI n ∧ P1) ∨ (¬ ((0 : Int32) ≤ a ∧ a ≤ nI n) ∧ P0) := by
  rcases h with ⟨v, hv, rfl, hq⟩ | ⟨hv, hq⟩
  · have := (lp_rng2 (x := nI v) hn).mpr ⟨v, hv, rfl⟩
    exact Or.inl ⟨this.1, this.2, hq⟩
  · exact Or.inr ⟨fun q => by
      obtain ⟨v, h1, h2⟩ := (lp_rng2 hn).mp q
      exact hv v h1 h2, hq⟩
/-- an argument that is one of 1 .. n, or not -/
theorem lp_upto1 {n : Nat} {a : Int32} {P1 P0 : Prop} (hn : n < 2 ^ 31) (h : (∃ v, 1 ≤ v ∧ v ≤ n ∧ a = nI v ∧ P1) ∨ ((∀ v, 1 ≤ v → v ≤ n → a ≠ nI v) ∧ P0)) : ((1 : Int32) ≤ a ∧ a ≤ nI n ∧ P1) ∨ (¬ ((1 : Int32) ≤ a ∧ a ≤ nI n) ∧ P0) := by
  rcases h with ⟨v, hv1, hv, rfl, hq⟩ | ⟨hv, hq⟩
  · have := (lp_rng1 (x := nI v) hn).mpr ⟨v, hv1, hv, rfl⟩
    exact Or.inl ⟨this.1, this.2, hq⟩
  · exact Or.inr ⟨fun q => by
      obtain ⟨v, h0, h1, h2⟩ := (lp_rng1 hn).mp q
      exact hv v h0 h1 h2, hq⟩
/-- an argument that is an index below n, or not -/
theorem lp_below {n : Nat} {a : Int32} {P1 P0 : Prop} (hn : n < 2 ^ 31) (h : (∃ v, v < n ∧ a = nI v ∧ P1) ∨ ((∀ v, v < n → a ≠ nI v) ∧ P0)) : ((0 : Int32) ≤ a ∧ a ≤ nI n - 1 ∧ P1) ∨ (¬ ((0 : Int32) ≤ a ∧ a ≤ nI n - 1) ∧ P0) := by
  rcases h with ⟨v, hv, rfl, hq⟩ | ⟨hv, hq⟩
  · have := (lp_rng (x := nI v) hn).mpr ⟨v, hv, rfl⟩
    exact Or.inl ⟨this.1, this.2, hq⟩
  · exact Or.inr ⟨fun q => by
      obtain ⟨v, h1, h2⟩ := (lp_rng hn).mp q
      exact hv v h1 h2, hq⟩
def sp_X6_isPage : lpS := sp_upto 9
def sp_X6_isPlace : lpS := sp_upto 10
def sp_X6_isWait : lpS := sp_upto 60
theorem ct_X6_isPage (l : Launch) (D : va_G) (cI cD : ClassId) : lp_Ct l D cI cD yX6_isPage cX6_isPage 1 (some .boolean) 1 sp_X6_isPage := by
  refine lp_method0 flX6 pfX6 kcX6 [(86, none, 3, sp_X6_isWithin)] true kX6_isPage rfl rfl (lp_rB rfl) flX6_ok pfX6_ok kcX6_ok kX6_isPage_ok ⟨_, _, rfl, rfl⟩ (lp_cs1 (lp_mkCall lkX6_86 (ct_X6_isWithin l D cI cD) (by omega)) lp_cs0) ?_
  intro as σ Q hs
  rcases as with _ | ⟨a | a, _ | ⟨b, as⟩⟩ <;> try exact (hs : False).elim
  refine ⟨Nat.le_refl 1, ?_⟩
  conv => whnf
  refine lp_upto (n := 9) (by decide) ?_
  rcases hs with ⟨v, h1, h2, hq⟩ | ⟨hv, hq⟩
  · exact Or.inl ⟨v, h1, h2, Or.inr rfl, hq⟩
  · exact Or.inr ⟨hv, Or.inl rfl, hq⟩
theorem ct_X6_isPlace (l : Launch) (D : va_G) (cI cD : ClassId) : lp_Ct l D cI cD yX6_isPlace cX6_isPlace 1 (some .boolean) 1 sp_X6_isPlace := by
  refine lp_method0 flX6 pfX6 kcX6 [(86, none, 3, sp_X6_isWithin)] true kX6_isPlace rfl rfl (lp_rB rfl) flX6_ok pfX6_ok kcX6_ok kX6_isPlace_ok ⟨_, _, rfl, rfl⟩ (lp_cs1 (lp_mkCall lkX6_86 (ct_X6_isWithin l D cI cD) (by omega)) lp_cs0) ?_
  intro as σ Q hs
  rcases as with _ | ⟨a | a, _ | ⟨b, as⟩⟩ <;> try exact (hs : False).elim
  refine ⟨Nat.le_refl 1, ?_⟩
  conv => whnf
  refine lp_upto (n := 10) (by decide) ?_
  rcases hs with ⟨v, h1, h2, hq⟩ | ⟨hv, hq⟩
  · exact Or.inl ⟨v, h1, h2, Or.inr rfl, hq⟩
  · exact Or.inr ⟨hv, Or.inl rfl, hq⟩
theorem ct_X6_isWait (l : Launch) (D : va_G) (cI cD : ClassId) : lp_Ct l D cI cD yX6_isWait cX6_isWait 1 (some .boolean) 1 sp_X6_isWait := by
  refine lp_method0 flX6 pfX6 kcX6 [(86, none, 3, sp_X6_isWithin)] true kX6_isWait rfl rfl (lp_rB rfl) flX6_ok pfX6_ok kcX6_ok kX6_isWait_ok ⟨_, _, rfl, rfl⟩ (lp_cs1 (lp_mkCall lkX6_86 (ct_X6_isWithin l D cI cD) (by omega)) lp_cs0) ?_
  intro as σ Q hs
  rcases as with _ | ⟨a | a, _ | ⟨b, as⟩⟩ <;> try exact (hs : False).elim
  refine ⟨Nat.le_refl 1, ?_⟩
  conv => whnf
  refine lp_upto (n := 60) (by decide) ?_
  rcases hs with ⟨v, h1, h2, hq⟩ | ⟨hv, hq⟩
  · exact Or.inl ⟨v, h1, h2, Or.inr rfl, hq⟩
  · exact Or.inr ⟨hv, Or.inl rfl, hq⟩
def sp_X6_stepOf : lpS := fun as σ Q => match as with
  | [.inl a, .inl b] => Q (some (a * nI 11 + b)) σ
  | _ => False
theorem ct_X6_stepOf (l : Launch) (D : va_G) (cI cD : ClassId) : lp_Ct l D cI cD yX6_stepOf cX6_stepOf 2 (some .int) 0 sp_X6_stepOf := by
  refine lp_method0 flX6 pfX6 kcX6 [] false kX6_stepOf rfl rfl (lp_rI rfl) flX6_ok pfX6_ok kcX6_ok kX6_stepOf_ok ⟨_, _, rfl, rfl⟩ lp_cs0 ?_
  intro as σ Q hs
  rcases as with _ | ⟨a | a, _ | ⟨b | b, _ | ⟨c, as⟩⟩⟩ <;> try exact (hs : False).elim
  exact ⟨Nat.le_refl 2, hs⟩
end
section
/-! ===== Visits: k = 0 the LOG, k = 1 the WALKS ===== -/
/-- n VISITS; the ASKS of v are the slots s v .. s (v + 1) - 1; pages pg, waits wt -/
def lp_Vis (σ : lpM) (k n : Nat) (s pg wt : Nat → Nat) : Prop :=
  σ 2 k 3 = nI n ∧ n ≤ 60 ∧ (∀ v, v ≤ n → σ 5 k v = nI (s v)) ∧ s 0 = 0 ∧ (∀ v, v < n → s v ≤ s (v + 1) ∧ s (v + 1) ≤ s v + 20) ∧ (∀ j, j < s n → σ 3 k j = nI (pg j) ∧ pg j < 10 ∧ σ 4 k j = nI (wt j) ∧ wt j ≤ 60)
theorem lp_Vis_le {σ : lpM} {k n : Nat} {s pg wt : Nat → Nat} (h : lp_Vis σ k n s pg wt) : ∀ v, v ≤ n → s v ≤ 20 * v := by
  intro v
  induction v with
  | zero => intro _; have := h.2.2.2.1; omega
  | succ v ih => intro hv; have := h.2.2.2.2.1 v (by omega); have := ih (by omega); omega
theorem lp_Vis_mono {σ : lpM} {k n : Nat} {s pg wt : Nat → Nat} (h : lp_Vis σ k n s pg wt) {v : Nat} : ∀ d, v + d ≤ n → s v ≤ s (v + d) := by
  intro d
  induction d with
  | zero => intro _; exact Nat.le_refl _
  | succ d ih => intro hv; have := h.2.2.2.2.1 (v + d) (by omega); have := ih (by omega); rw [← Nat.add_assoc]; omega
theorem lp_Vis_bd {σ : lpM} {k n : Nat} {s pg wt : Nat → Nat} (h : lp_Vis σ k n s pg wt) : s n ≤ 1200 := by
  have := lp_Vis_le h n (Nat.le_refl _)
  have := h.2.1
  omega
theorem lp_Vis_sn {σ : lpM} {k n : Nat} {s pg wt : Nat → Nat} (h : lp_Vis σ k n s pg wt) {v : Nat} (hv : v ≤ n) : s v ≤ s n := by
  have := lp_Vis_mono h (v := v) (n - v) (by omega)
  rwa [show v + (n - v) = n by omega] at this
def sp_X4_empty : lpS := fun as σ Q => match as with
  | [.inr (some (r, k))] => r = 2 ∧ Q none (lp_w3 σ 2 k 3 (nI 0))
  | _ => False
set_option maxHeartbeats 4000000 in
set_option maxRecDepth 100000 in
theorem ct_X4_empty (l : Launch) (D : va_G) (cI cD : ClassId) : lp_Ct l D cI cD yX4_empty cX4_empty 1 none 0 sp_X4_empty := by
  refine lp_method0 flX4 pfX4 kcX4 [] false kX4_empty rfl rfl (lp_rV rfl) flX4_ok pfX4_ok kcX4_ok kX4_empty_ok ⟨_, _, rfl, rfl⟩ lp_cs0 ?_
  intro as σ Q hs
  rcases as with _ | ⟨_ | _ | ⟨r, k⟩, _ | ⟨c, as⟩⟩ <;> try exact (hs : False).elim
  obtain ⟨rfl, hq⟩ := hs
  refine ⟨Nat.le_refl 1, ?_⟩
  ((conv => whnf); (try dsimp only))
  exact hq
def sp_X4_asks : lpS := fun as σ Q => match as with
  | [.inr (some (r, k))] => r = 2 ∧ ∃ n s pg wt, lp_Vis σ k n s pg wt ∧ Q (some (nI (s n))) σ
  | _ => False
set_option maxHeartbeats 4000000 in
set_option maxRecDepth 100000 in
theorem ct_X4_asks (l : Launch) (D : va_G) (cI cD : ClassId) : lp_Ct l D cI cD yX4_asks cX4_asks 1 (some .int) 0 sp_X4_asks := by
  refine lp_method0 flX4 pfX4 kcX4 [] false kX4_asks rfl rfl (lp_rI rfl) flX4_ok pfX4_ok kcX4_ok kX4_asks_ok ⟨_, _, rfl, rfl⟩ lp_cs0 ?_
  intro as σ Q hs
  rcases as with _ | ⟨_ | _ | ⟨r, k⟩, _ | ⟨c, as⟩⟩ <;> try exact (hs : False).elim
  obtain ⟨rfl, n, s, pg, wt, hV, hq⟩ := hs
  refine ⟨Nat.le_refl 1, ?_⟩
  have hn := hV.2.1
  ((conv => whnf); (try dsimp only))
  rw [hV.1]
  refine ⟨lp_vin (by omega) (by omega), ?_⟩
  ((conv => whnf); (try dsimp only))
  rw [lp_clm (by omega), hV.2.2.1 n (Nat.le_refl _)]
  exact hq
def sp_X4_has : lpS := fun as σ Q => match as with
  | [.inr (some (r, k)), .inl x] => r = 2 ∧ ∃ n s pg wt, lp_Vis σ k n s pg wt ∧ ((∃ v, v < n ∧ x = nI v ∧ Q (some 1) σ) ∨ ((∀ v, v < n → x ≠ nI v) ∧ Q (some 0) σ))
  | _ => False
set_option maxHeartbeats 4000000 in
set_option maxRecDepth 100000 in
theorem ct_X4_has (l : Launch) (D : va_G) (cI cD : ClassId) : lp_Ct l D cI cD yX4_has cX4_has 2 (some .boolean) 1 sp_X4_has := by
  refine lp_method0 flX4 pfX4 kcX4 [(29, none, 3, sp_X6_isWithin)] true kX4_has rfl rfl (lp_rB rfl) flX4_ok pfX4_ok kcX4_ok kX4_has_ok ⟨_, _, rfl, rfl⟩ (lp_cs1 (lp_mkCall lkX4_29 (ct_X6_isWithin l D cI cD) (by omega)) lp_cs0) ?_
  intro as σ Q hs
  rcases as with _ | ⟨_ | _ | ⟨r, k⟩, _ | ⟨x | _, _ | ⟨c, as⟩⟩⟩ <;> try exact (hs : False).elim
  obtain ⟨rfl, n, s, pg, wt, hV, hq⟩ := hs
  refine ⟨Nat.le_refl 2, ?_⟩
  have hn := hV.2.1
  ((conv => whnf); (try dsimp only))
  rw [hV.1]
  refine lp_below (by omega) ?_
  rcases hq with ⟨v, h1, h2, hq⟩ | ⟨h1, hq⟩
  · exact Or.inl ⟨v, h1, h2, Or.inr rfl, hq⟩
  · exact Or.inr ⟨h1, Or.inl rfl, hq⟩
def sp_X4_startOf : lpS := fun as σ Q => match as with
  | [.inr (some (r, k)), .inl x] => r = 2 ∧ ∃ n s pg wt, lp_Vis σ k n s pg wt ∧ ((∃ v, v < n ∧ x = nI v ∧ Q (some (nI (s v))) σ) ∨ ((∀ v, v < n → x ≠ nI v) ∧ Q (some (nI (s n))) σ))
  | _ => False
set_option maxHeartbeats 4000000 in
set_option maxRecDepth 100000 in
theorem ct_X4_startOf (l : Launch) (D : va_G) (cI cD : ClassId) : lp_Ct l D cI cD yX4_startOf cX4_startOf 2 (some .int) 2 sp_X4_startOf := by
  refine lp_method0 flX4 pfX4 kcX4 [(33, some 4, 1, sp_X4_has), (37, some 4, 0, sp_X4_asks)] false kX4_startOf rfl rfl (lp_rI rfl) flX4_ok pfX4_ok kcX4_ok kX4_startOf_ok ⟨_, _, rfl, rfl⟩ (lp_cs1 (lp_mkCall lkX4_33 (ct_X4_has l D cI cD) (by omega)) (lp_cs1 (lp_mkCall lkX4_37 (ct_X4_asks l D cI cD) (by omega)) lp_cs0)) ?_
  intro as σ Q hs
  rcases as with _ | ⟨_ | _ | ⟨r, k⟩, _ | ⟨x | _, _ | ⟨c, as⟩⟩⟩ <;> try exact (hs : False).elim
  obtain ⟨rfl, n, s, pg, wt, hV, hq⟩ := hs
  refine ⟨Nat.le_refl 2, ?_⟩
  have hn := hV.2.1
  ((conv => whnf); (try dsimp only))
  refine ⟨rfl, n, s, pg, wt, hV, ?_⟩
  rcases hq with ⟨v, h1, rfl, hq⟩ | ⟨h1, hq⟩
  · refine Or.inl ⟨v, h1, rfl, ?_⟩
    ((conv => whnf); (try dsimp only))
    refine ⟨fun q => absurd q (by decide), fun _ => ?_⟩
    ((conv => whnf); (try dsimp only))
    refine ⟨lp_vin (by omega) (by omega), ?_⟩
    ((conv => whnf); (try dsimp only))
    rw [lp_clm (by omega), hV.2.2.1 v (by omega)]
    exact hq
  · refine Or.inr ⟨h1, ?_⟩
    ((conv => whnf); (try dsimp only))
    refine ⟨fun _ => ?_, fun q => absurd rfl q⟩
    ((conv => whnf); (try dsimp only))
    exact ⟨rfl, n, s, pg, wt, hV, hq⟩
def sp_X4_endOf : lpS := fun as σ Q => match as with
  | [.inr (some (r, k)), .inl x] => r = 2 ∧ ∃ n s pg wt, lp_Vis σ k n s pg wt ∧ ((∃ v, v < n ∧ x = nI v ∧ Q (some (nI (s (v + 1)))) σ) ∨ ((∀ v, v < n → x ≠ nI v) ∧ Q (some (nI (s n))) σ))
  | _ => False
set_option maxHeartbeats 4000000 in
set_option maxRecDepth 100000 in
theorem ct_X4_endOf (l : Launch) (D : va_G) (cI cD : ClassId) : lp_Ct l D cI cD yX4_endOf cX4_endOf 2 (some .int) 2 sp_X4_endOf := by
  refine lp_method0 flX4 pfX4 kcX4 [(33, some 4, 1, sp_X4_has), (37, some 4, 0, sp_X4_asks)] false kX4_endOf rfl rfl (lp_rI rfl) flX4_ok pfX4_ok kcX4_ok kX4_endOf_ok ⟨_, _, rfl, rfl⟩ (lp_cs1 (lp_mkCall lkX4_33 (ct_X4_has l D cI cD) (by omega)) (lp_cs1 (lp_mkCall lkX4_37 (ct_X4_asks l D cI cD) (by omega)) lp_cs0)) ?_
  intro as σ Q hs
  rcases as with _ | ⟨_ | _ | ⟨r, k⟩, _ | ⟨x | _, _ | ⟨c, as⟩⟩⟩ <;> try exact (hs : False).elim
  obtain ⟨rfl, n, s, pg, wt, hV, hq⟩ := hs
  refine ⟨Nat.le_refl 2, ?_⟩
  have hn := hV.2.1
  ((conv => whnf); (try dsimp only))
  refine ⟨rfl, n, s, pg, wt, hV, ?_⟩
  rcases hq with ⟨v, h1, rfl, hq⟩ | ⟨h1, hq⟩
  · refine Or.inl ⟨v, h1, rfl, ?_⟩
    ((conv => whnf); (try dsimp only))
    refine ⟨fun q => absurd q (by decide), fun _ => ?_⟩
    ((conv => whnf); (try dsimp only))
    rw [show nI v + Int32.ofInt 1 = nI (v + 1) from (nI_succ v).symm]
    refine ⟨lp_vin (by omega) (by omega), ?_⟩
    ((conv => whnf); (try dsimp only))
    rw [lp_clm (by omega), hV.2.2.1 (v + 1) (by omega)]
    exact hq
  · refine Or.inr ⟨h1, ?_⟩
    ((conv => whnf); (try dsimp only))
    refine ⟨fun _ => ?_, fun q => absurd rfl q⟩
    ((conv => whnf); (try dsimp only))
    exact ⟨rfl, n, s, pg, wt, hV, hq⟩
def sp_X4_lengthOf : lpS := fun as σ Q => match as with
  | [.inr (some (r, k)), .inl x] => r = 2 ∧ ∃ n s pg wt, lp_Vis σ k n s pg wt ∧ ((∃ v, v < n ∧ x = nI v ∧ Q (some (nI (s (v + 1) - s v))) σ) ∨ ((∀ v, v < n → x ≠ nI v) ∧ Q (some (-1)) σ))
  | _ => False
set_option maxHeartbeats 4000000 in
set_option maxRecDepth 100000 in
theorem ct_X4_lengthOf (l : Launch) (D : va_G) (cI cD : ClassId) : lp_Ct l D cI cD yX4_lengthOf cX4_lengthOf 2 (some .int) 2 sp_X4_lengthOf := by
  refine lp_method0 flX4 pfX4 kcX4 [(33, some 4, 1, sp_X4_has)] false kX4_lengthOf rfl rfl (lp_rI rfl) flX4_ok pfX4_ok kcX4_ok kX4_lengthOf_ok ⟨_, _, rfl, rfl⟩ (lp_cs1 (lp_mkCall lkX4_33 (ct_X4_has l D cI cD) (by omega)) lp_cs0) ?_
  intro as σ Q hs
  rcases as with _ | ⟨_ | _ | ⟨r, k⟩, _ | ⟨x | _, _ | ⟨c, as⟩⟩⟩ <;> try exact (hs : False).elim
  obtain ⟨rfl, n, s, pg, wt, hV, hq⟩ := hs
  refine ⟨Nat.le_refl 2, ?_⟩
  have hn := hV.2.1
  ((conv => whnf); (try dsimp only))
  refine ⟨rfl, n, s, pg, wt, hV, ?_⟩
  rcases hq with ⟨v, h1, rfl, hq⟩ | ⟨h1, hq⟩
  · refine Or.inl ⟨v, h1, rfl, ?_⟩
    ((conv => whnf); (try dsimp only))
    refine ⟨fun q => absurd q (by decide), fun _ => ?_⟩
    ((conv => whnf); (try dsimp only))
    rw [show nI v + Int32.ofInt 1 = nI (v + 1) from (nI_succ v).symm]
    refine ⟨lp_vin (by omega) (by omega), ?_⟩
    ((conv => whnf); (try dsimp only))
    refine ⟨lp_vin (by omega) (by omega), ?_⟩
    ((conv => whnf); (try dsimp only))
    rw [lp_clm (by omega), lp_clm (by omega), hV.2.2.1 (v + 1) (by omega), hV.2.2.1 v (by omega), pk_sub (hV.2.2.2.2.1 v h1).1]
    exact hq
  · refine Or.inr ⟨h1, ?_⟩
    ((conv => whnf); (try dsimp only))
    refine ⟨fun _ => ?_, fun q => absurd rfl q⟩
    ((conv => whnf); (try dsimp only))
    exact hq
def sp_X4_slotOf : lpS := fun as σ Q => match as with
  | [.inr (some (r, k)), .inl x, .inl y] => r = 2 ∧ ∃ n s pg wt, lp_Vis σ k n s pg wt ∧ ((∃ v i, v < n ∧ i < s (v + 1) - s v ∧ x = nI v ∧ y = nI i ∧ Q (some (nI (s v + i))) σ) ∨ ((∀ v i, v < n → i < s (v + 1) - s v → ¬ (x = nI v ∧ y = nI i)) ∧ Q (some (-1)) σ))
  | _ => False
set_option maxHeartbeats 4000000 in
set_option maxRecDepth 100000 in
theorem ct_X4_slotOf (l : Launch) (D : va_G) (cI cD : ClassId) : lp_Ct l D cI cD yX4_slotOf cX4_slotOf 3 (some .int) 3 sp_X4_slotOf := by
  refine lp_method0 flX4 pfX4 kcX4 [(25, some 4, 1, sp_X4_lengthOf), (29, none, 3, sp_X6_isWithin)] false kX4_slotOf rfl rfl (lp_rI rfl) flX4_ok pfX4_ok kcX4_ok kX4_slotOf_ok ⟨_, _, rfl, rfl⟩ (lp_cs1 (lp_mkCall lkX4_25 (ct_X4_lengthOf l D cI cD) (by omega)) (lp_cs1 (lp_mkCall lkX4_29 (ct_X6_isWithin l D cI cD) (by omega)) lp_cs0)) ?_
  intro as σ Q hs
  rcases as with _ | ⟨_ | _ | ⟨r, k⟩, _ | ⟨x | _, _ | ⟨y | _, _ | ⟨c, as⟩⟩⟩⟩ <;> try exact (hs : False).elim
  obtain ⟨rfl, n, s, pg, wt, hV, hq⟩ := hs
  refine ⟨Nat.le_refl 3, ?_⟩
  have hn := hV.2.1
  ((conv => whnf); (try dsimp only))
  refine ⟨rfl, n, s, pg, wt, hV, ?_⟩
  rcases Classical.em (∃ v, v < n ∧ x = nI v) with ⟨v, h1, rfl⟩ | h1
  · refine Or.inl ⟨v, h1, rfl, ?_⟩
    have hv := hV.2.2.2.2.1 v h1
    ((conv => whnf); (try dsimp only))
    refine lp_below (by omega) ?_
    rcases hq with ⟨v', i, h2, h3, h4, rfl, hq⟩ | ⟨h2, hq⟩
    · obtain rfl := lp_inj (by omega) (by omega) h4
      refine Or.inl ⟨i, h3, rfl, ?_⟩
      ((conv => whnf); (try dsimp only))
      refine ⟨fun q => absurd q (by decide), fun _ => ?_⟩
      ((conv => whnf); (try dsimp only))
      refine ⟨lp_vin (by omega) (by omega), ?_⟩
      ((conv => whnf); (try dsimp only))
      rw [lp_clm (by omega), hV.2.2.1 v (by omega), nI_add]
      exact hq
    · refine Or.inr ⟨fun i hi e => h2 v i h1 hi ⟨rfl, e⟩, ?_⟩
      ((conv => whnf); (try dsimp only))
      refine ⟨fun _ => ?_, fun q => absurd rfl q⟩
      ((conv => whnf); (try dsimp only))
      exact hq
  · refine Or.inr ⟨fun v hv e => h1 ⟨v, hv, e⟩, ?_⟩
    ((conv => whnf); (try dsimp only))
    rcases hq with ⟨v', i, h2, h3, h4, rfl, hq⟩ | ⟨h2, hq⟩
    · exact absurd ⟨v', h2, h4⟩ h1
    · refine Or.inr ⟨fun q => ?_, ?_⟩
      · have h5 := Int32.le_iff_toInt_le.mp (Int32.le_trans q.1 q.2)
        have e1 : (Int32.ofInt 0).toInt = 0 := rfl
        have e2 : (-1 - Int32.ofInt 1).toInt = -2 := rfl
        omega
      · ((conv => whnf); (try dsimp only))
        refine ⟨fun _ => ?_, fun q => absurd rfl q⟩
        ((conv => whnf); (try dsimp only))
        exact hq
def sp_X4_pageAt : lpS := fun as σ Q => match as with
  | [.inr (some (r, k)), .inl x] => r = 2 ∧ ∃ n s pg wt, lp_Vis σ k n s pg wt ∧ ((∃ j, j < s n ∧ x = nI j ∧ Q (some (nI (pg j))) σ) ∨ ((∀ j, j < s n → x ≠ nI j) ∧ Q (some (-1)) σ))
  | _ => False
set_option maxHeartbeats 4000000 in
set_option maxRecDepth 100000 in
theorem ct_X4_pageAt (l : Launch) (D : va_G) (cI cD : ClassId) : lp_Ct l D cI cD yX4_pageAt cX4_pageAt 2 (some .int) 1 sp_X4_pageAt := by
  refine lp_method0 flX4 pfX4 kcX4 [(29, none, 3, sp_X6_isWithin), (37, some 4, 0, sp_X4_asks)] false kX4_pageAt rfl rfl (lp_rI rfl) flX4_ok pfX4_ok kcX4_ok kX4_pageAt_ok ⟨_, _, rfl, rfl⟩ (lp_cs1 (lp_mkCall lkX4_29 (ct_X6_isWithin l D cI cD) (by omega)) (lp_cs1 (lp_mkCall lkX4_37 (ct_X4_asks l D cI cD) (by omega)) lp_cs0)) ?_
  intro as σ Q hs
  rcases as with _ | ⟨_ | _ | ⟨r, k⟩, _ | ⟨x | _, _ | ⟨c, as⟩⟩⟩ <;> try exact (hs : False).elim
  obtain ⟨rfl, n, s, pg, wt, hV, hq⟩ := hs
  refine ⟨Nat.le_refl 2, ?_⟩
  have hn := lp_Vis_bd hV
  ((conv => whnf); (try dsimp only))
  refine ⟨rfl, n, s, pg, wt, hV, ?_⟩
  ((conv => whnf); (try dsimp only))
  refine lp_below (by omega) ?_
  rcases hq with ⟨j, h1, rfl, hq⟩ | ⟨h1, hq⟩
  · refine Or.inl ⟨j, h1, rfl, ?_⟩
    ((conv => whnf); (try dsimp only))
    refine ⟨fun q => absurd q (by decide), fun _ => ?_⟩
    ((conv => whnf); (try dsimp only))
    refine ⟨lp_vin (by omega) (by omega), ?_⟩
    ((conv => whnf); (try dsimp only))
    rw [lp_clm (by omega), (hV.2.2.2.2.2 j h1).1]
    exact hq
  · refine Or.inr ⟨h1, ?_⟩
    ((conv => whnf); (try dsimp only))
    refine ⟨fun _ => ?_, fun q => absurd rfl q⟩
    ((conv => whnf); (try dsimp only))
    exact hq
def sp_X4_waitAt : lpS := fun as σ Q => match as with
  | [.inr (some (r, k)), .inl x] => r = 2 ∧ ∃ n s pg wt, lp_Vis σ k n s pg wt ∧ ((∃ j, j < s n ∧ x = nI j ∧ Q (some (nI (wt j))) σ) ∨ ((∀ j, j < s n → x ≠ nI j) ∧ Q (some (-1)) σ))
  | _ => False
set_option maxHeartbeats 4000000 in
set_option maxRecDepth 100000 in
theorem ct_X4_waitAt (l : Launch) (D : va_G) (cI cD : ClassId) : lp_Ct l D cI cD yX4_waitAt cX4_waitAt 2 (some .int) 1 sp_X4_waitAt := by
  refine lp_method0 flX4 pfX4 kcX4 [(29, none, 3, sp_X6_isWithin), (37, some 4, 0, sp_X4_asks)] false kX4_waitAt rfl rfl (lp_rI rfl) flX4_ok pfX4_ok kcX4_ok kX4_waitAt_ok ⟨_, _, rfl, rfl⟩ (lp_cs1 (lp_mkCall lkX4_29 (ct_X6_isWithin l D cI cD) (by omega)) (lp_cs1 (lp_mkCall lkX4_37 (ct_X4_asks l D cI cD) (by omega)) lp_cs0)) ?_
  intro as σ Q hs
  rcases as with _ | ⟨_ | _ | ⟨r, k⟩, _ | ⟨x | _, _ | ⟨c, as⟩⟩⟩ <;> try exact (hs : False).elim
  obtain ⟨rfl, n, s, pg, wt, hV, hq⟩ := hs
  refine ⟨Nat.le_refl 2, ?_⟩
  have hn := lp_Vis_bd hV
  ((conv => whnf); (try dsimp only))
  refine ⟨rfl, n, s, pg, wt, hV, ?_⟩
  ((conv => whnf); (try dsimp only))
  refine lp_below (by omega) ?_
  rcases hq with ⟨j, h1, rfl, hq⟩ | ⟨h1, hq⟩
  · refine Or.inl ⟨j, h1, rfl, ?_⟩
    ((conv => whnf); (try dsimp only))
    refine ⟨fun q => absurd q (by decide), fun _ => ?_⟩
    ((conv => whnf); (try dsimp only))
    refine ⟨lp_vin (by omega) (by omega), ?_⟩
    ((conv => whnf); (try dsimp only))
    rw [lp_clm (by omega), (hV.2.2.2.2.2 j h1).2.2.1]
    exact hq
  · refine Or.inr ⟨h1, ?_⟩
    ((conv => whnf); (try dsimp only))
    refine ⟨fun _ => ?_, fun q => absurd rfl q⟩
    ((conv => whnf); (try dsimp only))
    exact hq
theorem lp_m1 {n : Nat} (h : n < 2 ^ 31) : (∃ v, v < n ∧ nI n - Int32.ofInt 1 = nI v ∧ n = v + 1) ∨ (n = 0 ∧ ∀ v, v < n → nI n - Int32.ofInt 1 ≠ nI v) := by
  rcases n with _ | n
  · exact Or.inr ⟨rfl, fun v hv => absurd hv (Nat.not_lt_zero _)⟩
  · exact Or.inl ⟨n, Nat.lt_succ_self _, nI_pred n, rfl⟩
def sp_X4_lastPlace : lpS := fun as σ Q => match as with
  | [.inr (some (r, k))] => r = 2 ∧ ∃ n s pg wt, lp_Vis σ k n s pg wt ∧ ((∃ v, n = v + 1 ∧ s v < s n ∧ Q (some (nI (pg (s n - 1)))) σ) ∨ ((∀ v, n = v + 1 → s v = s n) ∧ Q (some (nI 10)) σ))
  | _ => False
set_option maxHeartbeats 4000000 in
set_option maxRecDepth 100000 in
theorem ct_X4_lastPlace (l : Launch) (D : va_G) (cI cD : ClassId) : lp_Ct l D cI cD yX4_lastPlace cX4_lastPlace 1 (some .int) 3 sp_X4_lastPlace := by
  refine lp_method0 flX4 pfX4 kcX4 [(25, some 4, 1, sp_X4_lengthOf), (37, some 4, 0, sp_X4_asks)] false kX4_lastPlace rfl rfl (lp_rI rfl) flX4_ok pfX4_ok kcX4_ok kX4_lastPlace_ok ⟨_, _, rfl, rfl⟩ (lp_cs1 (lp_mkCall lkX4_25 (ct_X4_lengthOf l D cI cD) (by omega)) (lp_cs1 (lp_mkCall lkX4_37 (ct_X4_asks l D cI cD) (by omega)) lp_cs0)) ?_
  intro as σ Q hs
  rcases as with _ | ⟨_ | _ | ⟨r, k⟩, _ | ⟨c, as⟩⟩ <;> try exact (hs : False).elim
  obtain ⟨rfl, n, s, pg, wt, hV, hq⟩ := hs
  refine ⟨Nat.le_refl 1, ?_⟩
  have hn := hV.2.1
  have hb := lp_Vis_bd hV
  ((conv => whnf); (try dsimp only))
  rw [hV.1]
  refine ⟨rfl, n, s, pg, wt, hV, ?_⟩
  rcases lp_m1 (n := n) (by omega) with ⟨v, h1, h2, rfl⟩ | ⟨rfl, h2⟩
  · refine Or.inl ⟨v, h1, h2, ?_⟩
    have hv := hV.2.2.2.2.1 v h1
    ((conv => whnf); (try dsimp only))
    rcases hq with ⟨v', e, h3, hq⟩ | ⟨h3, hq⟩
    · obtain rfl : v = v' := by omega
      refine ⟨fun q => absurd q (nI_nle (by omega) (by omega)), fun _ => ?_⟩
      ((conv => whnf); (try dsimp only))
      refine ⟨rfl, _, s, pg, wt, hV, ?_⟩
      ((conv => whnf); (try dsimp only))
      rw [show nI (s (v + 1)) - Int32.ofInt 1 = nI (s (v + 1) - 1) from by
        rw [show nI (s (v + 1)) = nI (s (v + 1) - 1 + 1) by congr 1; omega]; exact nI_pred _]
      refine ⟨lp_vin (by omega) (by omega), ?_⟩
      ((conv => whnf); (try dsimp only))
      rw [lp_clm (by omega), (hV.2.2.2.2.2 _ (by omega)).1]
      exact hq
    · have := h3 v rfl
      refine ⟨fun _ => ?_, fun q => absurd (by rw [this, Nat.sub_self]; decide) q⟩
      ((conv => whnf); (try dsimp only))
      exact hq
  · refine Or.inr ⟨h2, ?_⟩
    ((conv => whnf); (try dsimp only))
    refine ⟨fun _ => ?_, fun q => absurd (by decide) q⟩
    ((conv => whnf); (try dsimp only))
    rcases hq with ⟨v', e, h3, hq⟩ | ⟨h3, hq⟩
    · omega
    · exact hq
def sp_X4_open : lpS := fun as σ Q => match as with
  | [.inr (some (r, k))] => r = 2 ∧ ∃ n s pg wt, lp_Vis σ k n s pg wt ∧ ((n < 60 ∧ Q (some (nI n)) (lp_w3 (lp_w3 σ 5 k (n + 1) (nI (s n))) 2 k 3 (nI (n + 1)))) ∨ (n = 60 ∧ Q (some (-1)) σ))
  | _ => False
set_option maxHeartbeats 4000000 in
set_option maxRecDepth 100000 in
theorem ct_X4_open (l : Launch) (D : va_G) (cI cD : ClassId) : lp_Ct l D cI cD yX4_open cX4_open 1 (some .int) 0 sp_X4_open := by
  refine lp_method0 flX4 pfX4 kcX4 [] false kX4_open rfl rfl (lp_rI rfl) flX4_ok pfX4_ok kcX4_ok kX4_open_ok ⟨_, _, rfl, rfl⟩ lp_cs0 ?_
  intro as σ Q hs
  rcases as with _ | ⟨_ | _ | ⟨r, k⟩, _ | ⟨c, as⟩⟩ <;> try exact (hs : False).elim
  obtain ⟨rfl, n, s, pg, wt, hV, hq⟩ := hs
  refine ⟨Nat.le_refl 1, ?_⟩
  have hn := hV.2.1
  ((conv => whnf); (try dsimp only))
  rw [hV.1]
  refine ⟨fun q => ?_, fun q => ?_⟩ <;> ((conv => whnf); (try dsimp only))
  · have q : n < 60 := (nI_ltI (b := 60) (by omega) (by omega)).mp q
    rw [hV.1]
    refine ⟨lp_vin (by omega) (by omega), ?_⟩
    ((conv => whnf); (try dsimp only))
    rw [show nI n + Int32.ofInt 1 = nI (n + 1) from (nI_succ n).symm]
    refine ⟨lp_vin (by omega) (by omega), ?_⟩
    rw [lp_clm (by omega), lp_clm (by omega), hV.2.2.1 n (Nat.le_refl _)]
    ((conv => whnf); (try dsimp only))
    have e1 : lp_w3 σ 5 k (n + 1) (nI (s n)) 2 k 3 = nI n := by rw [lp_w3_ne (by omega)]; exact hV.1
    rw [e1, show nI n + Int32.ofInt 1 = nI (n + 1) from (nI_succ n).symm, lp_w3_same]
    rw [show upd (lp_w3 σ 5 k (n + 1) (nI (s n)) 2 k) 3 (nI (n + 1)) 3 - Int32.ofInt 1 = nI n from nI_pred n]
    rcases hq with ⟨h1, hq⟩ | ⟨h1, hq⟩
    · exact hq
    · omega
  · have q : ¬ n < 60 := fun h => q ((nI_ltI (b := 60) (by omega) (by omega)).mpr h)
    rcases hq with ⟨h1, hq⟩ | ⟨h1, hq⟩
    · omega
    · exact hq
def sp_X4_add : lpS := fun as σ Q => match as with
  | [.inr (some (r, k)), .inl x, .inl y] => r = 2 ∧ ∃ n s pg wt, lp_Vis σ k n s pg wt ∧ ((∃ v, n = v + 1 ∧ s n - s v < 20 ∧ Q (some (nI (s n - s v + 1))) (lp_w3 (lp_w3 (lp_w3 σ 3 k (s n) x) 4 k (s n) y) 5 k n (nI (s n + 1)))) ∨ ((∀ v, n = v + 1 → s n = s v + 20) ∧ Q (some (-1)) σ))
  | _ => False
set_option maxHeartbeats 4000000 in
set_option maxRecDepth 100000 in
theorem ct_X4_add (l : Launch) (D : va_G) (cI cD : ClassId) : lp_Ct l D cI cD yX4_add cX4_add 5 (some .int) 3 sp_X4_add := by
  refine lp_method0 flX4 pfX4 kcX4 [(25, some 4, 1, sp_X4_lengthOf)] false kX4_add rfl rfl (lp_rI rfl) flX4_ok pfX4_ok kcX4_ok kX4_add_ok ⟨_, _, rfl, rfl⟩ (lp_cs1 (lp_mkCall lkX4_25 (ct_X4_lengthOf l D cI cD) (by omega)) lp_cs0) ?_
  intro as σ Q hs
  rcases as with _ | ⟨_ | _ | ⟨r, k⟩, _ | ⟨x | _, _ | ⟨y | _, _ | ⟨c, as⟩⟩⟩⟩ <;> try exact (hs : False).elim
  obtain ⟨rfl, n, s, pg, wt, hV, hq⟩ := hs
  refine ⟨by show 3 ≤ 5; omega, ?_⟩
  have hn := hV.2.1
  have hb := lp_Vis_bd hV
  ((conv => whnf); (try dsimp only))
  rw [hV.1]
  refine ⟨rfl, n, s, pg, wt, hV, ?_⟩
  rcases lp_m1 (n := n) (by omega) with ⟨v, h1, h2, rfl⟩ | ⟨rfl, h2⟩
  · refine Or.inl ⟨v, h1, h2, ?_⟩
    have hv := hV.2.2.2.2.1 v h1
    ((conv => whnf); (try dsimp only))
    refine ⟨fun q => absurd q (lp_neg1 (by omega)), fun _ => ?_⟩
    ((conv => whnf); (try dsimp only))
    refine ⟨fun q => ?_, fun q => ?_⟩ <;> ((conv => whnf); (try dsimp only))
    · have q : s (v + 1) - s v < 20 := (nI_ltI (b := 20) (by omega) (by omega)).mp q
      rw [hV.1]
      refine ⟨lp_vin (by omega) (by omega), ?_⟩
      rw [lp_clm (by omega), hV.2.2.1 _ (Nat.le_refl _)]
      have hsn : s (v + 1) < 1200 := by have := lp_Vis_le hV v (by omega); omega
      ((conv => whnf); (try dsimp only))
      refine ⟨lp_vin (by omega) (by omega), ?_⟩
      rw [lp_clm (by omega)]
      ((conv => whnf); (try dsimp only))
      refine ⟨lp_vin (by omega) (by omega), ?_⟩
      rw [lp_clm (by omega)]
      ((conv => whnf); (try dsimp only))
      have e1 : lp_w3 (lp_w3 σ 3 k (s (v + 1)) x) 4 k (s (v + 1)) y 2 k 3 = nI (v + 1) := by rw [lp_w3_ne (by omega), lp_w3_ne (by omega)]; exact hV.1
      rw [e1]
      refine ⟨lp_vin (by omega) (by omega), ?_⟩
      rw [lp_clm (by omega), show nI (s (v + 1)) + Int32.ofInt 1 = nI (s (v + 1) + 1) from (nI_succ _).symm]
      ((conv => whnf); (try dsimp only))
      rw [show nI (s (v + 1) - s v) + Int32.ofInt 1 = nI (s (v + 1) - s v + 1) from (nI_succ _).symm]
      rcases hq with ⟨v', e, h3, hq⟩ | ⟨h3, hq⟩
      · obtain rfl : v = v' := by omega
        exact hq
      · have := h3 v rfl
        omega
    · have q : ¬ s (v + 1) - s v < 20 := fun h => q ((nI_ltI (b := 20) (by omega) (by omega)).mpr h)
      rcases hq with ⟨v', e, h3, hq⟩ | ⟨h3, hq⟩
      · obtain rfl : v = v' := by omega
        omega
      · exact hq
  · refine Or.inr ⟨h2, ?_⟩
    ((conv => whnf); (try dsimp only))
    refine ⟨fun _ => ?_, fun q => absurd rfl q⟩
    ((conv => whnf); (try dsimp only))
    rcases hq with ⟨v', e, h3, hq⟩ | ⟨h3, hq⟩
    · omega
    · exact hq
end
section
/-! ===== Dealing: the cell (26, k), its counts (27, k), what came (28, k) ===== -/
def sp_X1_sumOf : lpS := fun as σ Q => match as with
  | [.inr (some (r, k))] => ∃ (len f : Nat → Nat), lp_lay r = some (.inr (.inl len)) ∧ len k < 2 ^ 31 ∧ (∀ i, i < len k → σ r k i = nI (f i)) ∧ Q (some (nI (lsum f (len k)))) σ
  | _ => False
set_option maxHeartbeats 4000000 in
set_option maxRecDepth 100000 in
theorem ct_X1_sumOf (l : Launch) (D : va_G) (cI cD : ClassId) : lp_Ct l D cI cD yX1_sumOf cX1_sumOf 6 (some .int) 0 sp_X1_sumOf := by
  refine lp_method flX1 pfX1 kcX1 [] false kX1_sumOf [10] rfl rfl (lp_rI rfl) flX1_ok pfX1_ok kcX1_ok kX1_sumOf_ok ⟨_, _, rfl, rfl⟩ lp_cs0 ?_
  intro as σ Q hok hs
  rcases as with _ | ⟨_ | _ | ⟨r, k⟩, _ | ⟨c, as⟩⟩ <;> try exact (hs : False).elim
  obtain ⟨len, f, hl, h31, hf, hq⟩ := hs
  refine ⟨by show 1 ≤ 6; omega, fun m pc L τ => pc = 10 ∧ ∃ i x5, m + i = len k ∧ i ≤ len k ∧ σ = τ ∧ L = [some (.inr (some (r, k))), some (.inl (nI (lsum f i))), some (.inr (some (r, k))), some (.inl (nI (len k))), some (.inl (nI i)), x5], ?_, ?_⟩
  · ((conv => whnf); (try dsimp only))
    rw [hl]
    ((conv => whnf); (try dsimp only))
    exact ⟨len k, rfl, 0, none, rfl, Nat.zero_le _, rfl, rfl⟩
  · rintro m pc L τ ⟨rfl, i, x5, hm, hi, rfl, rfl⟩
    ((conv => whnf); (try dsimp only))
    refine ⟨fun h => ?_, fun h => ?_⟩ <;> ((conv => whnf); (try dsimp only))
    · rw [nI_leI h31 (by omega)] at h
      obtain rfl : i = len k := by omega
      exact hq
    · rw [nI_leI h31 (by omega)] at h
      rw [hl]
      ((conv => whnf); (try dsimp only))
      refine ⟨lp_vin (by omega) h31, ?_⟩
      rw [lp_clm (by omega), hf i (by omega)]
      ((conv => whnf); (try dsimp only))
      refine ⟨len k - (i + 1), by omega, rfl, i + 1, some (.inl (nI (f i))), by omega, by omega, rfl, ?_⟩
      rw [nI_succ i, show lsum f (i + 1) = lsum f i + f i from rfl, ← nI_add]
      rfl
def sp_X1_beginAnew : lpS := fun as σ Q => match as with
  | [.inr (some (r, k))] => r = 26 ∧ Q none (lp_fill σ 28 k (lp_dl k) (nI 0))
  | _ => False
theorem lp_dl_lt (k : Nat) : lp_dl k < 2 ^ 31 := by unfold lp_dl; split <;> omega
set_option maxHeartbeats 4000000 in
set_option maxRecDepth 100000 in
theorem ct_X1_beginAnew (l : Launch) (D : va_G) (cI cD : ClassId) : lp_Ct l D cI cD yX1_beginAnew cX1_beginAnew 1 none 1 sp_X1_beginAnew := by
  refine lp_method0 flX1 pfX1 kcX1 [(24, none, 2, sp_J7_fill)] false kX1_beginAnew rfl rfl (lp_rV rfl) flX1_ok pfX1_ok kcX1_ok kX1_beginAnew_ok ⟨_, _, rfl, rfl⟩ (lp_cs1 (lp_mkCall lkX1_24 (ct_J7_fill l D cI cD) (by omega)) lp_cs0) ?_
  intro as σ Q hs
  rcases as with _ | ⟨_ | _ | ⟨r, k⟩, _ | ⟨c, as⟩⟩ <;> try exact (hs : False).elim
  obtain ⟨rfl, hq⟩ := hs
  refine ⟨Nat.le_refl 1, ?_⟩
  ((conv => whnf); (try dsimp only))
  exact ⟨lp_dl, rfl, lp_dl_lt k, hq⟩
/-- a Dealing of n choices: its counts, what came -/
def lp_Deal (σ : lpM) (k : Nat) (cnt came : Nat → Nat) : Prop := ∀ i, i < lp_dl k → σ 27 k i = nI (cnt i) ∧ σ 28 k i = nI (came i)
def lp_dlc (o : Option (Nat × Nat)) : Int32 × Int32 := match o with
  | none => (-1, nI 0)
  | some (b, t) => (nI b, nI t)
def sp_X1_deal : lpS := fun as σ Q => match as with
  | [.inr (some (r, k))] => r = 26 ∧ ∃ (cnt came : Nat → Nat) (b : Nat), lp_Deal σ k cnt came ∧ lsum cnt (lp_dl k) < 30000 ∧ lsum came (lp_dl k) < 30000 ∧ dl cnt came (lp_dl k) = some b ∧ Q (some (nI b)) (lp_w3 σ 28 k b (nI (came b + 1)))
  | _ => False
set_option maxHeartbeats 4000000 in
set_option maxRecDepth 100000 in
theorem ct_X1_deal (l : Launch) (D : va_G) (cI cD : ClassId) : lp_Ct l D cI cD yX1_deal cX1_deal 7 (some .int) 1 sp_X1_deal := by
  refine lp_method flX1 pfX1 kcX1 [(30, none, 1, sp_X1_sumOf)] false kX1_deal [26] rfl rfl (lp_rI rfl) flX1_ok pfX1_ok kcX1_ok kX1_deal_ok ⟨_, _, rfl, rfl⟩ (lp_cs1 (lp_mkCall lkX1_30 (ct_X1_sumOf l D cI cD) (by omega)) lp_cs0) ?_
  intro as σ Q hok hs
  rcases as with _ | ⟨_ | _ | ⟨r, k⟩, _ | ⟨c, as⟩⟩ <;> try exact (hs : False).elim
  obtain ⟨rfl, cnt, came, b, hD, hB1, hB2, hdl, hq⟩ := hs
  have h31 := lp_dl_lt k
  generalize hN : lsum cnt (lp_dl k) = N at *
  generalize hj : lsum came (lp_dl k) = j at *
  have hS : ∃ t, dlS cnt came N (j + 1) (lp_dl k) = some (b, t) := by
    unfold dl at hdl
    rw [hN, hj] at hdl
    rcases hd : dlS cnt came N (j + 1) (lp_dl k) with _ | ⟨b', t⟩ <;> rw [hd] at hdl <;> simp at hdl
    exact ⟨t, by rw [hdl]⟩
  refine ⟨by show 1 ≤ 7; omega, fun m pc L τ => pc = 26 ∧ ∃ i x6, m + i = lp_dl k ∧ i ≤ lp_dl k ∧ σ = τ ∧ L = [some (.inr (some (26, k))), some (.inl (nI N)), some (.inl (nI (j + 1))), some (.inl (lp_dlc (dlS cnt came N (j + 1) i)).1), some (.inl (lp_dlc (dlS cnt came N (j + 1) i)).2), some (.inl (nI i)), x6], ?_, ?_⟩
  · ((conv => whnf); (try dsimp only))
    refine ⟨lp_dl, cnt, rfl, h31, fun i hi => (hD i hi).1, ?_⟩
    ((conv => whnf); (try dsimp only))
    refine ⟨lp_dl, came, rfl, h31, fun i hi => (hD i hi).2, ?_⟩
    ((conv => whnf); (try dsimp only))
    refine ⟨lp_dl k, rfl, 0, none, rfl, Nat.zero_le _, rfl, ?_⟩
    rw [hN, hj, nI_succ j]
    rfl
  · rintro m pc L τ ⟨rfl, i, x6, hm, hi, rfl, rfl⟩
    ((conv => whnf); (try dsimp only))
    refine ⟨fun h => ?_, fun h => ?_⟩ <;> ((conv => whnf); (try dsimp only))
    · rw [nI_leI h31 (by omega)] at h
      obtain rfl : i = lp_dl k := by omega
      obtain ⟨t, ht⟩ := hS
      have hlt := dlS_lt ht
      rw [ht]
      dsimp only [lp_dlc]
      refine ⟨fun q => absurd q (lp_neg1 (by omega)), fun _ => ?_⟩
      ((conv => whnf); (try dsimp only))
      refine ⟨lp_vin (by omega) h31, ?_⟩
      ((conv => whnf); (try dsimp only))
      refine ⟨lp_vin (by omega) h31, ?_⟩
      rw [lp_clm (by omega), (hD b hlt.1).2]
      ((conv => whnf); (try dsimp only))
      rw [show nI (came b) + Int32.ofInt 1 = nI (came b + 1) from (nI_succ _).symm]
      exact hq
    · rw [nI_leI h31 (by omega)] at h
      have hi2 : i < lp_dl k := by omega
      obtain ⟨d1, d2⟩ := hD i hi2
      have hc1 : cnt i ≤ N := by rw [← hN]; exact lsum_mem hi2
      have hc2 : came i ≤ j := by rw [← hj]; exact lsum_mem hi2
      refine ⟨lp_vin hi2 h31, ?_⟩
      rw [lp_clm (by omega), d1]
      have step : ∀ (o : Option (Nat × Nat)) (x6 : Option lpV), dlS cnt came N (j + 1) (i + 1) = o → ∃ m', m' < m ∧ (fun (m pc : Nat) (L : lpL) (τ : lpM) => pc = 26 ∧ ∃ i x6, m + i = lp_dl k ∧ i ≤ lp_dl k ∧ σ = τ ∧ L = [some (.inr (some (26, k))), some (.inl (nI N)), some (.inl (nI (j + 1))), some (.inl (lp_dlc (dlS cnt came N (j + 1) i)).1), some (.inl (lp_dlc (dlS cnt came N (j + 1) i)).2), some (.inl (nI i)), x6]) m' 26 [some (.inr (some (26, k))), some (.inl (nI N)), some (.inl (nI (j + 1))), some (.inl (lp_dlc o).1), some (.inl (lp_dlc o).2), some (.inl (nI i + Int32.ofInt 1)), x6] σ := by
        intro o x6 ho
        subst ho
        exact ⟨lp_dl k - (i + 1), by omega, rfl, i + 1, x6, by omega, by omega, rfl, by rw [nI_succ i]; rfl⟩
      ((conv => whnf); (try dsimp only))
      refine ⟨fun q => ?_, fun q => ?_⟩ <;> ((conv => whnf); (try dsimp only))
      · have hz : cnt i = 0 := by
          rcases Nat.eq_zero_or_pos (cnt i) with z | z
          · exact z
          · exact absurd q (nI_nle z (by omega))
        exact step _ x6 (dlS_skip (Or.inl hz))
      · have hz : 0 < cnt i := by
          rcases Nat.eq_zero_or_pos (cnt i) with z | z
          · rw [z] at q; exact absurd (by decide) q
          · exact z
        refine ⟨lp_vin hi2 h31, ?_⟩
        rw [lp_clm (by omega), d2]
        ((conv => whnf); (try dsimp only))
        refine ⟨lp_vin hi2 h31, ?_⟩
        rw [lp_clm (by omega), d1]
        ((conv => whnf); (try dsimp only))
        have hm1 : came i * N ≤ 30000 * 30000 := Nat.mul_le_mul (by omega) (by omega)
        have hm2 : (came i + 1) * N ≤ 30000 * 30000 := Nat.mul_le_mul (by omega) (by omega)
        refine ⟨nI_ne0 hz (by omega), ?_⟩
        rw [pk_mul, pk_div (by omega) hz (by omega)]
        have hdv : came i * N / cnt i ≤ came i * N := Nat.div_le_self _ _
        ((conv => whnf); (try dsimp only))
        refine ⟨fun q2 => ?_, fun q2 => ?_⟩ <;> ((conv => whnf); (try dsimp only))
        · rw [nI_ltI (by omega) (by omega)] at q2
          refine ⟨lp_vin hi2 h31, ?_⟩
          rw [lp_clm (by omega), d2]
          ((conv => whnf); (try dsimp only))
          refine ⟨lp_vin hi2 h31, ?_⟩
          rw [lp_clm (by omega), d1]
          ((conv => whnf); (try dsimp only))
          refine ⟨lp_vin hi2 h31, ?_⟩
          rw [lp_clm (by omega), d1]
          ((conv => whnf); (try dsimp only))
          refine ⟨nI_ne0 hz (by omega), ?_⟩
          rw [show nI (came i) + Int32.ofInt 1 = nI (came i + 1) from (nI_succ _).symm, pk_mul, nI_add, show nI ((came i + 1) * N + cnt i) - Int32.ofInt 1 = nI ((came i + 1) * N + cnt i - 1) from pk_sub (a := (came i + 1) * N + cnt i) (b := 1) (by omega), pk_div (by omega) hz (by omega)]
          rw [show ((came i + 1) * N + cnt i - 1) / cnt i = dlT N (came i) (cnt i) from rfl]
          have hT : dlT N (came i) (cnt i) ≤ (came i + 1) * N + cnt i - 1 := Nat.div_le_self _ _
          have hS2 : dlS cnt came N (j + 1) (i + 1) = (match dlS cnt came N (j + 1) i with
            | none => some (i, dlT N (came i) (cnt i))
            | some (b, t) => if dlT N (came i) (cnt i) < t then some (i, dlT N (came i) (cnt i)) else some (b, t)) := by
            conv => lhs; unfold dlS
            rw [if_neg (by omega)]
            rfl
          ((conv => whnf); (try dsimp only))
          rcases hd : dlS cnt came N (j + 1) i with _ | ⟨b', t'⟩ <;> rw [hd] at hS2
          · dsimp only [lp_dlc]
            refine ⟨fun _ => ?_, fun q3 => absurd rfl q3⟩
            ((conv => whnf); (try dsimp only))
            exact step _ _ hS2
          · have hlt := dlS_lt hd
            have hc1' : cnt b' ≤ N := by rw [← hN]; exact lsum_mem (by omega)
            have hc2' : came b' ≤ j := by rw [← hj]; exact lsum_mem (by omega)
            have hm2' : (came b' + 1) * N ≤ 30000 * 30000 := Nat.mul_le_mul (by omega) (by omega)
            have hT' : t' ≤ (came b' + 1) * N + cnt b' - 1 := by rw [hlt.2.2.1]; exact Nat.div_le_self _ _
            dsimp only [lp_dlc] at hS2 ⊢
            refine ⟨fun q3 => absurd q3 (lp_neg1 (by omega)), fun _ => ?_⟩
            ((conv => whnf); (try dsimp only))
            refine ⟨fun q3 => ?_, fun q3 => ?_⟩ <;> ((conv => whnf); (try dsimp only))
            · rw [nI_leI (by omega) (by omega)] at q3
              rw [if_neg (by omega)] at hS2
              exact step _ _ hS2
            · rw [nI_leI (by omega) (by omega)] at q3
              rw [if_pos (by omega)] at hS2
              exact step _ _ hS2
        · rw [nI_ltI (by omega) (by omega)] at q2
          exact step _ x6 (dlS_skip (Or.inr (by omega)))
end
section
/-! ===== Machine: times (7, 0), rares (8, 0), waits (9, 0): flags of the Dealings (26 .., step) ===== -/
def lp_Mach (σ : lpM) (ct rr : Nat → Nat) (wc : Nat → Nat → Nat) : Prop := (∀ j, j < 121 → σ 7 0 j = nI (ct j) ∧ ct j < 30000) ∧ (∀ j, j < 121 → σ 8 0 j = nI (rr j) ∧ rr j ≤ 100) ∧ (∀ j, j < 121 → σ 9 0 j = 0 → ∀ w, w < 61 → wc j w = 0) ∧ (∀ j, j < 121 → σ 9 0 j ≠ 0 → ∀ w, w < 61 → σ 27 j w = nI (wc j w))
theorem lp_step {a b : Nat} : nI a * nI 11 + nI b = nI (a * 11 + b) := by rw [pk_mul, nI_add]
def sp_X2_countOf : lpS := fun as σ Q => match as with
  | [.inr (some (r, k)), .inl x, .inl y] => r = 6 ∧ k = 0 ∧ ∃ ct rr wc, lp_Mach σ ct rr wc ∧ ((∃ a b, a ≤ 10 ∧ b ≤ 10 ∧ x = nI a ∧ y = nI b ∧ Q (some (nI (lp_mc (ct (a * 11 + b)) (rr (a * 11 + b))))) σ) ∨ ((∀ a b, a ≤ 10 → b ≤ 10 → ¬ (x = nI a ∧ y = nI b)) ∧ Q (some (nI 0)) σ))
  | _ => False
set_option maxHeartbeats 4000000 in
set_option maxRecDepth 100000 in
theorem ct_X2_countOf (l : Launch) (D : va_G) (cI cD : ClassId) : lp_Ct l D cI cD yX2_countOf cX2_countOf 4 (some .int) 2 sp_X2_countOf := by
  refine lp_method0 flX2 pfX2 kcX2 [(33, none, 1, sp_X6_isPlace), (43, none, 2, sp_X6_stepOf), (54, none, 2, sp_max)] false kX2_countOf rfl rfl (lp_rI rfl) flX2_ok pfX2_ok kcX2_ok kX2_countOf_ok ⟨_, _, rfl, rfl⟩ (lp_cs1 (lp_mkCall lkX2_33 (ct_X6_isPlace l D cI cD) (by omega)) (lp_cs1 (lp_mkCall lkX2_43 (ct_X6_stepOf l D cI cD) (by omega)) (lp_cs1 (lp_mkMax lkX2_54 (by omega)) lp_cs0))) ?_
  intro as σ Q hs
  rcases as with _ | ⟨_ | _ | ⟨r, k⟩, _ | ⟨x | _, _ | ⟨y | _, _ | ⟨c, as⟩⟩⟩⟩ <;> try exact (hs : False).elim
  obtain ⟨rfl, rfl, ct, rr, wc, hM, hq⟩ := hs
  refine ⟨by show 3 ≤ 4; omega, ?_⟩
  ((conv => whnf); (try dsimp only))
  rcases Classical.em (∃ a, a ≤ 10 ∧ x = nI a) with ⟨a, h1, rfl⟩ | h1
  rotate_left
  · refine Or.inr ⟨fun v hv e => h1 ⟨v, hv, e⟩, ?_⟩
    ((conv => whnf); (try dsimp only))
    refine ⟨fun _ => ?_, fun q => absurd rfl q⟩
    ((conv => whnf); (try dsimp only))
    rcases hq with ⟨a, b, h2, h3, h4, h5, hq⟩ | ⟨h2, hq⟩
    · exact absurd ⟨a, h2, h4⟩ h1
    · exact hq
  refine Or.inl ⟨a, h1, rfl, ?_⟩
  ((conv => whnf); (try dsimp only))
  refine ⟨fun q => absurd q (by decide), fun _ => ?_⟩
  ((conv => whnf); (try dsimp only))
  rcases Classical.em (∃ b, b ≤ 10 ∧ y = nI b) with ⟨b, h2, rfl⟩ | h2
  rotate_left
  · refine Or.inr ⟨fun v hv e => h2 ⟨v, hv, e⟩, ?_⟩
    ((conv => whnf); (try dsimp only))
    refine ⟨fun q => absurd rfl q, fun _ => ?_⟩
    ((conv => whnf); (try dsimp only))
    rcases hq with ⟨a, b, h2', h3, h4, h5, hq⟩ | ⟨h2, hq⟩
    · exact absurd ⟨b, h3, h5⟩ h2
    · exact hq
  refine Or.inl ⟨b, h2, rfl, ?_⟩
  ((conv => whnf); (try dsimp only))
  refine ⟨fun _ => ?_, fun q => absurd q (by decide)⟩
  ((conv => whnf); (try dsimp only))
  have hq : Q (some (nI (lp_mc (ct (a * 11 + b)) (rr (a * 11 + b))))) σ := by
    rcases hq with ⟨a', b', h2', h3, h4, h5, hq⟩ | ⟨h2', hq⟩
    · obtain rfl := lp_inj (by omega) (by omega) h4
      obtain rfl := lp_inj (by omega) (by omega) h5
      exact hq
    · exact absurd ⟨rfl, rfl⟩ (h2' a b h1 h2)
  rw [lp_step]
  have hj : a * 11 + b < 121 := by omega
  generalize a * 11 + b = j at *
  obtain ⟨m1, m2⟩ := hM.1 j hj
  obtain ⟨m3, m4⟩ := hM.2.1 j hj
  refine ⟨lp_vin hj (by omega), ?_⟩
  rw [lp_clm (by omega), m1]
  ((conv => whnf); (try dsimp only))
  refine ⟨fun q => ?_, fun q => ?_⟩ <;> ((conv => whnf); (try dsimp only))
  · refine ⟨lp_vin hj (by omega), ?_⟩
    rw [lp_clm (by omega), m1]
    ((conv => whnf); (try dsimp only))
    refine ⟨lp_vin hj (by omega), ?_⟩
    rw [lp_clm (by omega), m3]
    ((conv => whnf); (try dsimp only))
    have hz : ¬ ct j = 0 := fun z => q (by rw [z]; rfl)
    rw [lp_mc, if_neg hz] at hq
    by_cases hlt : ct j < rr j
    · rw [if_pos (nI_lt hlt (by omega))]
      rw [Nat.max_eq_right (by omega)] at hq
      exact hq
    · rw [if_neg (fun z => hlt ((nI_ltI (by omega) (by omega)).mp z))]
      rw [Nat.max_eq_left (by omega)] at hq
      exact hq
  · have hz : ct j = 0 := lp_inj (by omega) (by omega) q
    rw [lp_mc, if_pos hz] at hq
    exact hq
def sp_X2_tellRare : lpS := fun as σ Q => match as with
  | [.inr (some (r, k)), .inl x, .inl y, .inl z] => r = 6 ∧ k = 0 ∧ ((∃ a b c, a ≤ 10 ∧ b ≤ 10 ∧ c ≤ 100 ∧ x = nI a ∧ y = nI b ∧ z = nI c ∧ Q (some 1) (lp_w3 σ 8 0 (a * 11 + b) (nI c))) ∨ ((∀ a b c, a ≤ 10 → b ≤ 10 → c ≤ 100 → ¬ (x = nI a ∧ y = nI b ∧ z = nI c)) ∧ Q (some 0) σ))
  | _ => False
set_option maxHeartbeats 4000000 in
set_option maxRecDepth 100000 in
theorem ct_X2_tellRare (l : Launch) (D : va_G) (cI cD : ClassId) : lp_Ct l D cI cD yX2_tellRare cX2_tellRare 4 (some .boolean) 2 sp_X2_tellRare := by
  refine lp_method0 flX2 pfX2 kcX2 [(33, none, 1, sp_X6_isPlace), (43, none, 2, sp_X6_stepOf), (50, none, 3, sp_X6_isWithin)] true kX2_tellRare rfl rfl (lp_rB rfl) flX2_ok pfX2_ok kcX2_ok kX2_tellRare_ok ⟨_, _, rfl, rfl⟩ (lp_cs1 (lp_mkCall lkX2_33 (ct_X6_isPlace l D cI cD) (by omega)) (lp_cs1 (lp_mkCall lkX2_43 (ct_X6_stepOf l D cI cD) (by omega)) (lp_cs1 (lp_mkCall lkX2_50 (ct_X6_isWithin l D cI cD) (by omega)) lp_cs0))) ?_
  intro as σ Q hs
  rcases as with _ | ⟨_ | _ | ⟨r, k⟩, _ | ⟨x | _, _ | ⟨y | _, _ | ⟨z | _, _ | ⟨c, as⟩⟩⟩⟩⟩ <;> try exact (hs : False).elim
  obtain ⟨rfl, rfl, hq⟩ := hs
  refine ⟨by show 4 ≤ 4; omega, ?_⟩
  ((conv => whnf); (try dsimp only))
  rcases Classical.em (∃ a, a ≤ 10 ∧ x = nI a) with ⟨a, h1, rfl⟩ | h1
  rotate_left
  · refine Or.inr ⟨fun v hv e => h1 ⟨v, hv, e⟩, ?_⟩
    ((conv => whnf); (try dsimp only))
    refine ⟨fun _ => ?_, fun q => absurd rfl q⟩
    ((conv => whnf); (try dsimp only))
    refine ⟨Or.inl rfl, ?_⟩
    rcases hq with ⟨a, b, c, h2, h3, h4, h5, h6, h7, hq⟩ | ⟨h2, hq⟩
    · exact absurd ⟨a, h2, h5⟩ h1
    · exact hq
  refine Or.inl ⟨a, h1, rfl, ?_⟩
  ((conv => whnf); (try dsimp only))
  refine ⟨fun q => absurd q (by decide), fun _ => ?_⟩
  ((conv => whnf); (try dsimp only))
  rcases Classical.em (∃ b, b ≤ 10 ∧ y = nI b) with ⟨b, h2, rfl⟩ | h2
  rotate_left
  · refine Or.inr ⟨fun v hv e => h2 ⟨v, hv, e⟩, ?_⟩
    ((conv => whnf); (try dsimp only))
    refine ⟨fun _ => ?_, fun q => absurd rfl q⟩
    ((conv => whnf); (try dsimp only))
    refine ⟨Or.inl rfl, ?_⟩
    rcases hq with ⟨a, b, c, h2', h3, h4, h5, h6, h7, hq⟩ | ⟨h2, hq⟩
    · exact absurd ⟨b, h3, h6⟩ h2
    · exact hq
  refine Or.inl ⟨b, h2, rfl, ?_⟩
  ((conv => whnf); (try dsimp only))
  refine ⟨fun q => absurd q (by decide), fun _ => ?_⟩
  ((conv => whnf); (try dsimp only))
  refine lp_upto (n := 100) (by decide) ?_
  rcases hq with ⟨a', b', c, h2', h3, h4, h5, h6, rfl, hq⟩ | ⟨h3, hq⟩
  · obtain rfl := lp_inj (by omega) (by omega) h5
    obtain rfl := lp_inj (by omega) (by omega) h6
    refine Or.inl ⟨c, h4, rfl, ?_⟩
    ((conv => whnf); (try dsimp only))
    refine ⟨fun _ => ?_, fun q => absurd q (by decide)⟩
    ((conv => whnf); (try dsimp only))
    rw [lp_step]
    refine ⟨lp_vin (by omega) (by omega), ?_⟩
    rw [lp_clm (by omega)]
    ((conv => whnf); (try dsimp only))
    exact ⟨Or.inr rfl, hq⟩
  · refine Or.inr ⟨fun c hc e => h3 a b c h1 h2 hc ⟨rfl, rfl, e⟩, ?_⟩
    ((conv => whnf); (try dsimp only))
    refine ⟨fun q => absurd rfl q, fun _ => ?_⟩
    ((conv => whnf); (try dsimp only))
    exact ⟨Or.inl rfl, hq⟩
def sp_X2_timesOfWait : lpS := fun as σ Q => match as with
  | [.inr (some (r, k)), .inl x, .inl y, .inl z] => r = 6 ∧ k = 0 ∧ ∃ ct rr wc, lp_Mach σ ct rr wc ∧ ((∃ a b c, a ≤ 10 ∧ b ≤ 9 ∧ c ≤ 60 ∧ x = nI a ∧ y = nI b ∧ z = nI c ∧ Q (some (nI (wc (a * 11 + b) c))) σ) ∨ ((∀ a b c, a ≤ 10 → b ≤ 9 → c ≤ 60 → ¬ (x = nI a ∧ y = nI b ∧ z = nI c)) ∧ Q (some (nI 0)) σ))
  | _ => False
set_option maxHeartbeats 4000000 in
set_option maxRecDepth 100000 in
theorem ct_X2_timesOfWait (l : Launch) (D : va_G) (cI cD : ClassId) : lp_Ct l D cI cD yX2_timesOfWait cX2_timesOfWait 5 (some .int) 2 sp_X2_timesOfWait := by
  refine lp_method0 flX2 pfX2 kcX2 [(33, none, 1, sp_X6_isPlace), (37, none, 1, sp_X6_isPage), (40, none, 1, sp_X6_isWait), (43, none, 2, sp_X6_stepOf)] false kX2_timesOfWait rfl rfl (lp_rI rfl) flX2_ok pfX2_ok kcX2_ok kX2_timesOfWait_ok ⟨_, _, rfl, rfl⟩ (lp_cs1 (lp_mkCall lkX2_33 (ct_X6_isPlace l D cI cD) (by omega)) (lp_cs1 (lp_mkCall lkX2_37 (ct_X6_isPage l D cI cD) (by omega)) (lp_cs1 (lp_mkCall lkX2_40 (ct_X6_isWait l D cI cD) (by omega)) (lp_cs1 (lp_mkCall lkX2_43 (ct_X6_stepOf l D cI cD) (by omega)) lp_cs0)))) ?_
  intro as σ Q hs
  rcases as with _ | ⟨_ | _ | ⟨r, k⟩, _ | ⟨x | _, _ | ⟨y | _, _ | ⟨z | _, _ | ⟨c, as⟩⟩⟩⟩⟩ <;> try exact (hs : False).elim
  obtain ⟨rfl, rfl, ct, rr, wc, hM, hq⟩ := hs
  refine ⟨by show 4 ≤ 5; omega, ?_⟩
  ((conv => whnf); (try dsimp only))
  rcases Classical.em (∃ a, a ≤ 10 ∧ x = nI a) with ⟨a, h1, rfl⟩ | h1
  rotate_left
  · refine Or.inr ⟨fun v hv e => h1 ⟨v, hv, e⟩, ?_⟩
    ((conv => whnf); (try dsimp only))
    refine ⟨fun _ => ?_, fun q => absurd rfl q⟩
    ((conv => whnf); (try dsimp only))
    rcases hq with ⟨a, b, c, h2, h3, h4, h5, h6, h7, hq⟩ | ⟨h2, hq⟩
    · exact absurd ⟨a, h2, h5⟩ h1
    · exact hq
  refine Or.inl ⟨a, h1, rfl, ?_⟩
  ((conv => whnf); (try dsimp only))
  refine ⟨fun q => absurd q (by decide), fun _ => ?_⟩
  ((conv => whnf); (try dsimp only))
  rcases Classical.em (∃ b, b ≤ 9 ∧ y = nI b) with ⟨b, h2, rfl⟩ | h2
  rotate_left
  · refine Or.inr ⟨fun v hv e => h2 ⟨v, hv, e⟩, ?_⟩
    ((conv => whnf); (try dsimp only))
    refine ⟨fun _ => ?_, fun q => absurd rfl q⟩
    ((conv => whnf); (try dsimp only))
    rcases hq with ⟨a, b, c, h2', h3, h4, h5, h6, h7, hq⟩ | ⟨h2, hq⟩
    · exact absurd ⟨b, h3, h6⟩ h2
    · exact hq
  refine Or.inl ⟨b, h2, rfl, ?_⟩
  ((conv => whnf); (try dsimp only))
  refine ⟨fun q => absurd q (by decide), fun _ => ?_⟩
  ((conv => whnf); (try dsimp only))
  rcases Classical.em (∃ c, c ≤ 60 ∧ z = nI c) with ⟨c, h3, rfl⟩ | h3
  rotate_left
  · refine Or.inr ⟨fun v hv e => h3 ⟨v, hv, e⟩, ?_⟩
    ((conv => whnf); (try dsimp only))
    refine ⟨fun q => absurd rfl q, fun _ => ?_⟩
    ((conv => whnf); (try dsimp only))
    rcases hq with ⟨a, b, c, h2', h3', h4, h5, h6, h7, hq⟩ | ⟨h2, hq⟩
    · exact absurd ⟨c, h4, h7⟩ h3
    · exact hq
  refine Or.inl ⟨c, h3, rfl, ?_⟩
  ((conv => whnf); (try dsimp only))
  refine ⟨fun _ => ?_, fun q => absurd q (by decide)⟩
  ((conv => whnf); (try dsimp only))
  have hq : Q (some (nI (wc (a * 11 + b) c))) σ := by
    rcases hq with ⟨a', b', c', h2', h3', h4, h5, h6, h7, hq⟩ | ⟨h2', hq⟩
    · obtain rfl := lp_inj (by omega) (by omega) h5
      obtain rfl := lp_inj (by omega) (by omega) h6
      obtain rfl := lp_inj (by omega) (by omega) h7
      exact hq
    · exact absurd ⟨rfl, rfl, rfl⟩ (h2' a b c h1 h2 h3)
  rw [lp_step]
  have hj : a * 11 + b < 121 := by omega
  generalize a * 11 + b = j at *
  refine ⟨lp_vin hj (by omega), ?_⟩
  rw [lp_clm (by omega)]
  refine ⟨fun q => ?_, fun q => ?_⟩ <;> ((conv => whnf); (try dsimp only))
  · rw [hM.2.2.1 j hj q c (by omega)] at hq
    exact hq
  · have hd : lp_dl j = 61 := if_pos hj
    refine ⟨lp_vin (by rw [hd]; omega) (lp_dl_lt _), ?_⟩
    rw [lp_clm (by omega), hM.2.2.2 j hj q c (by omega)]
    ((conv => whnf); (try dsimp only))
    exact hq
/-- a row of every Dealing of the Machine that is made, up to the n-th, set to 0 -/
def lp_clr (R : Nat) (σ : lpM) (n : Nat) : lpM := fun r k j => if r = R ∧ k < n ∧ k < 121 ∧ σ 9 0 k ≠ 0 ∧ j < 61 then nI 0 else σ r k j
theorem lp_clr_0 (R : Nat) (σ : lpM) : lp_clr R σ 0 = σ := by
  funext r k j
  simp [lp_clr]
theorem lp_clr_9 {R : Nat} (h : R ≠ 9) (σ : lpM) (n : Nat) : lp_clr R σ n 9 = σ 9 := by
  funext k j
  simp [lp_clr, Ne.symm h]
theorem lp_clr_dead {R : Nat} {σ : lpM} {i : Nat} (h : σ 9 0 i = 0) : lp_clr R σ (i + 1) = lp_clr R σ i := by
  funext r k j
  by_cases hk : k = i
  · subst hk
    simp [lp_clr, h]
  · have : k < i + 1 ↔ k < i := by omega
    simp [lp_clr, this]
theorem lp_clr_live {R : Nat} {σ : lpM} {i : Nat} (hi : i < 121) (h : σ 9 0 i ≠ 0) : lp_fill (lp_clr R σ i) R i 61 (nI 0) = lp_clr R σ (i + 1) := by
  funext r k j
  by_cases hr : r = R
  · subst hr
    by_cases hk : k = i
    · subst hk
      by_cases hj : j < 61
      · simp [lp_fill, va_up, lp_clr, hi, h, hj]
      · simp [lp_fill, va_up, lp_clr, hj]
    · have : k < i + 1 ↔ k < i := by omega
      simp [lp_fill, va_up, lp_clr, hk, this]
  · simp [lp_fill, va_up, lp_clr, hr]
def sp_X2_beginWaitsAnew : lpS := fun as σ Q => match as with
  | [.inr (some (r, k))] => r = 6 ∧ k = 0 ∧ Q none (lp_clr 28 σ 121)
  | _ => False
set_option maxHeartbeats 4000000 in
set_option maxRecDepth 100000 in
theorem ct_X2_beginWaitsAnew (l : Launch) (D : va_G) (cI cD : ClassId) : lp_Ct l D cI cD yX2_beginWaitsAnew cX2_beginWaitsAnew 5 none 2 sp_X2_beginWaitsAnew := by
  refine lp_method flX2 pfX2 kcX2 [(59, some 1, 0, sp_X1_beginAnew)] false kX2_beginWaitsAnew [10] rfl rfl (lp_rV rfl) flX2_ok pfX2_ok kcX2_ok kX2_beginWaitsAnew_ok ⟨_, _, rfl, rfl⟩ (lp_cs1 (lp_mkCall lkX2_59 (ct_X1_beginAnew l D cI cD) (by omega)) lp_cs0) ?_
  intro as σ Q hok hs
  rcases as with _ | ⟨_ | _ | ⟨r, k⟩, _ | ⟨c, as⟩⟩ <;> try exact (hs : False).elim
  obtain ⟨rfl, rfl, hq⟩ := hs
  refine ⟨by show 1 ≤ 5; omega, fun m pc L τ => pc = 10 ∧ ∃ i x4, m + i = 121 ∧ i ≤ 121 ∧ lp_clr 28 σ i = τ ∧ L = [some (.inr (some (6, 0))), some (.inr (some (9, 0))), some (.inl (nI 121)), some (.inl (nI i)), x4], ?_, ?_⟩
  · ((conv => whnf); (try dsimp only))
    exact ⟨121, rfl, 0, none, rfl, Nat.zero_le _, lp_clr_0 28 σ, rfl⟩
  · rintro m pc L τ ⟨rfl, i, x4, hm, hi, rfl, rfl⟩
    ((conv => whnf); (try dsimp only))
    refine ⟨fun h => ?_, fun h => ?_⟩ <;> ((conv => whnf); (try dsimp only))
    · rw [nI_leI (by omega) (by omega)] at h
      obtain rfl : i = 121 := by omega
      exact hq
    · rw [nI_leI (by omega) (by omega)] at h
      refine ⟨lp_vin (by omega) (by omega), ?_⟩
      rw [lp_clm (by omega), lp_clr_9 (by decide)]
      refine ⟨fun q => ?_, fun q => ?_⟩ <;> ((conv => whnf); (try dsimp only))
      · exact ⟨121 - (i + 1), by omega, rfl, i + 1, _, by omega, by omega, lp_clr_dead q, by rw [nI_succ i]; rfl⟩
      · refine ⟨rfl, ?_⟩
        ((conv => whnf); (try dsimp only))
        exact ⟨121 - (i + 1), by omega, rfl, i + 1, _, by omega, by omega, by rw [← lp_clr_live (by omega) q, show lp_dl i = 61 from if_pos (by omega)], by rw [nI_succ i]; rfl⟩
def sp_X2_forget : lpS := fun as σ Q => match as with
  | [.inr (some (r, k))] => r = 6 ∧ k = 0 ∧ Q none (lp_clr 27 (lp_fill σ 7 0 121 (nI 0)) 121)
  | _ => False
set_option maxHeartbeats 4000000 in
set_option maxRecDepth 100000 in
theorem ct_X2_forget (l : Launch) (D : va_G) (cI cD : ClassId) : lp_Ct l D cI cD yX2_forget cX2_forget 5 none 1 sp_X2_forget := by
  refine lp_method flX2 pfX2 kcX2 [(24, none, 2, sp_J7_fill)] false kX2_forget [18] rfl rfl (lp_rV rfl) flX2_ok pfX2_ok kcX2_ok kX2_forget_ok ⟨_, _, rfl, rfl⟩ (lp_cs1 (lp_mkCall lkX2_24 (ct_J7_fill l D cI cD) (by omega)) lp_cs0) ?_
  intro as σ Q hok hs
  rcases as with _ | ⟨_ | _ | ⟨r, k⟩, _ | ⟨c, as⟩⟩ <;> try exact (hs : False).elim
  obtain ⟨rfl, rfl, hq⟩ := hs
  generalize hσ : lp_fill σ 7 0 121 (nI 0) = σ1 at hq
  refine ⟨by show 1 ≤ 5; omega, fun m pc L τ => pc = 18 ∧ ∃ i x4, m + i = 121 ∧ i ≤ 121 ∧ lp_clr 27 σ1 i = τ ∧ L = [some (.inr (some (6, 0))), some (.inr (some (9, 0))), some (.inl (nI 121)), some (.inl (nI i)), x4], ?_, ?_⟩
  · ((conv => whnf); (try dsimp only))
    refine ⟨fun _ => 121, rfl, by show 121 < 2 ^ 31; omega, ?_⟩
    ((conv => whnf); (try dsimp only))
    exact ⟨121, rfl, 0, none, rfl, Nat.zero_le _, by rw [lp_clr_0, ← hσ]; rfl, rfl⟩
  · rintro m pc L τ ⟨rfl, i, x4, hm, hi, rfl, rfl⟩
    ((conv => whnf); (try dsimp only))
    refine ⟨fun h => ?_, fun h => ?_⟩ <;> ((conv => whnf); (try dsimp only))
    · rw [nI_leI (by omega) (by omega)] at h
      obtain rfl : i = 121 := by omega
      exact hq
    · rw [nI_leI (by omega) (by omega)] at h
      refine ⟨lp_vin (by omega) (by omega), ?_⟩
      rw [lp_clm (by omega), lp_clr_9 (by decide)]
      refine ⟨fun q => ?_, fun q => ?_⟩ <;> ((conv => whnf); (try dsimp only))
      · exact ⟨121 - (i + 1), by omega, rfl, i + 1, _, by omega, by omega, lp_clr_dead q, by rw [nI_succ i]; rfl⟩
      · refine ⟨lp_dl, rfl, lp_dl_lt _, ?_⟩
        ((conv => whnf); (try dsimp only))
        exact ⟨121 - (i + 1), by omega, rfl, i + 1, _, by omega, by omega, by rw [← lp_clr_live (by omega) q, show lp_dl i = 61 from if_pos (by omega)]; rfl, by rw [nI_succ i]; rfl⟩
def sp_X2_dealWait : lpS := fun as σ Q => match as with
  | [.inr (some (r, k)), .inl x, .inl y] => r = 6 ∧ k = 0 ∧ ∃ a b, a ≤ 10 ∧ b ≤ 9 ∧ x = nI a ∧ y = nI b ∧ σ 9 0 (a * 11 + b) ≠ 0 ∧ ∃ (cnt came : Nat → Nat) (c : Nat), lp_Deal σ (a * 11 + b) cnt came ∧ lsum cnt 61 < 30000 ∧ lsum came 61 < 30000 ∧ dl cnt came 61 = some c ∧ Q (some (nI c)) (lp_w3 σ 28 (a * 11 + b) c (nI (came c + 1)))
  | _ => False
set_option maxHeartbeats 4000000 in
set_option maxRecDepth 100000 in
theorem ct_X2_dealWait (l : Launch) (D : va_G) (cI cD : ClassId) : lp_Ct l D cI cD yX2_dealWait cX2_dealWait 4 (some .int) 2 sp_X2_dealWait := by
  refine lp_method0 flX2 pfX2 kcX2 [(33, none, 1, sp_X6_isPlace), (37, none, 1, sp_X6_isPage), (43, none, 2, sp_X6_stepOf), (62, some 1, 0, sp_X1_deal)] false kX2_dealWait rfl rfl (lp_rI rfl) flX2_ok pfX2_ok kcX2_ok kX2_dealWait_ok ⟨_, _, rfl, rfl⟩ (lp_cs1 (lp_mkCall lkX2_33 (ct_X6_isPlace l D cI cD) (by omega)) (lp_cs1 (lp_mkCall lkX2_37 (ct_X6_isPage l D cI cD) (by omega)) (lp_cs1 (lp_mkCall lkX2_43 (ct_X6_stepOf l D cI cD) (by omega)) (lp_cs1 (lp_mkCall lkX2_62 (ct_X1_deal l D cI cD) (by omega)) lp_cs0)))) ?_
  intro as σ Q hs
  rcases as with _ | ⟨_ | _ | ⟨r, k⟩, _ | ⟨x | _, _ | ⟨y | _, _ | ⟨c, as⟩⟩⟩⟩ <;> try exact (hs : False).elim
  obtain ⟨rfl, rfl, a, b, h1, h2, rfl, rfl, h3, cnt, came, c, h4, h5, h6, h7, hq⟩ := hs
  refine ⟨by show 3 ≤ 4; omega, ?_⟩
  ((conv => whnf); (try dsimp only))
  refine Or.inl ⟨a, h1, rfl, ?_⟩
  ((conv => whnf); (try dsimp only))
  refine ⟨fun q => absurd q (by decide), fun _ => ?_⟩
  ((conv => whnf); (try dsimp only))
  refine Or.inl ⟨b, h2, rfl, ?_⟩
  ((conv => whnf); (try dsimp only))
  refine ⟨fun _ => ?_, fun q => absurd q (by decide)⟩
  ((conv => whnf); (try dsimp only))
  rw [lp_step]
  have hj : a * 11 + b < 121 := by omega
  generalize a * 11 + b = j at *
  refine ⟨lp_vin hj (by omega), ?_⟩
  rw [lp_clm (by omega)]
  refine ⟨fun q => absurd q h3, fun _ => ?_⟩
  ((conv => whnf); (try dsimp only))
  have hd : lp_dl j = 61 := if_pos hj
  refine ⟨rfl, cnt, came, c, h4, by rw [hd]; exact h5, by rw [hd]; exact h6, by rw [hd]; exact h7, ?_⟩
  ((conv => whnf); (try dsimp only))
  exact hq
def sp_X2_unlikeSteps : lpS := fun as σ Q => match as with
  | [.inr (some (r, k))] => r = 6 ∧ k = 0 ∧ ∃ ct rr wc, lp_Mach σ ct rr wc ∧ Q (some (nI (lsum (fun j => if 0 < ct j then 1 else 0) 121))) σ
  | _ => False
set_option maxHeartbeats 4000000 in
set_option maxRecDepth 100000 in
theorem ct_X2_unlikeSteps (l : Launch) (D : va_G) (cI cD : ClassId) : lp_Ct l D cI cD yX2_unlikeSteps cX2_unlikeSteps 6 (some .int) 0 sp_X2_unlikeSteps := by
  refine lp_method flX2 pfX2 kcX2 [] false kX2_unlikeSteps [13] rfl rfl (lp_rI rfl) flX2_ok pfX2_ok kcX2_ok kX2_unlikeSteps_ok ⟨_, _, rfl, rfl⟩ lp_cs0 ?_
  intro as σ Q hok hs
  rcases as with _ | ⟨_ | _ | ⟨r, k⟩, _ | ⟨c, as⟩⟩ <;> try exact (hs : False).elim
  obtain ⟨rfl, rfl, ct, rr, wc, hM, hq⟩ := hs
  refine ⟨by show 1 ≤ 6; omega, fun m pc L τ => pc = 13 ∧ ∃ i x5, m + i = 121 ∧ i ≤ 121 ∧ σ = τ ∧ L = [some (.inr (some (6, 0))), some (.inl (nI (lsum (fun j => if 0 < ct j then 1 else 0) i))), some (.inr (some (7, 0))), some (.inl (nI 121)), some (.inl (nI i)), x5], ?_, ?_⟩
  · ((conv => whnf); (try dsimp only))
    exact ⟨121, rfl, 0, none, rfl, Nat.zero_le _, rfl, rfl⟩
  · rintro m pc L τ ⟨rfl, i, x5, hm, hi, rfl, rfl⟩
    ((conv => whnf); (try dsimp only))
    refine ⟨fun h => ?_, fun h => ?_⟩ <;> ((conv => whnf); (try dsimp only))
    · rw [nI_leI (by omega) (by omega)] at h
      obtain rfl : i = 121 := by omega
      exact hq
    · rw [nI_leI (by omega) (by omega)] at h
      obtain ⟨m1, m2⟩ := hM.1 i (by omega)
      refine ⟨lp_vin (by omega) (by omega), ?_⟩
      rw [lp_clm (by omega), m1]
      ((conv => whnf); (try dsimp only))
      have hs1 : lsum (fun j => if 0 < ct j then 1 else 0) (i + 1) = lsum (fun j => if 0 < ct j then 1 else 0) i + (if 0 < ct i then 1 else 0) := rfl
      refine ⟨fun q => ?_, fun q => ?_⟩ <;> ((conv => whnf); (try dsimp only))
      · have hz : ¬ 0 < ct i := fun z => nI_nle z (by omega) q
        rw [if_neg hz] at hs1
        exact ⟨121 - (i + 1), by omega, rfl, i + 1, some (.inl (nI (ct i))), by omega, by omega, rfl, by rw [hs1, nI_succ i]; rfl⟩
      · have hz : 0 < ct i := by
          rcases Nat.eq_zero_or_pos (ct i) with z | z
          · rw [z] at q; exact absurd (by decide) q
          · exact z
        rw [if_pos hz] at hs1
        exact ⟨121 - (i + 1), by omega, rfl, i + 1, some (.inl (nI (ct i))), by omega, by omega, rfl, by rw [hs1, nI_succ i, nI_succ (lsum (fun j => if 0 < ct j then 1 else 0) i)]; rfl⟩
end
section
/-! ===== Walker: the cell (16, 0), its Dealings (26 .., 121 + place) ===== -/
theorem lp_Vis_congr {σ τ : lpM} {k n : Nat} {s pg wt : Nat → Nat} (h : lp_Vis σ k n s pg wt) (h2 : τ 2 k = σ 2 k) (h3 : τ 3 k = σ 3 k) (h4 : τ 4 k = σ 4 k) (h5 : τ 5 k = σ 5 k) : lp_Vis τ k n s pg wt := by
  unfold lp_Vis
  rw [h2, h3, h4, h5]
  exact h
theorem lp_Vis_add {σ : lpM} {k v t w : Nat} {s pg wt : Nat → Nat} (h : lp_Vis σ k (v + 1) s pg wt) (hl : s (v + 1) - s v < 20) (ht : t < 10) (hw : w ≤ 60) :
    lp_Vis (lp_w3 (lp_w3 (lp_w3 σ 3 k (s (v + 1)) (nI t)) 4 k (s (v + 1)) (nI w)) 5 k (v + 1) (nI (s (v + 1) + 1))) k (v + 1) (nu s (v + 1) (s (v + 1) + 1)) (nu pg (s (v + 1)) t) (nu wt (s (v + 1)) w) := by
  obtain ⟨h1, h2, h3, h4, h5, h6⟩ := h
  refine ⟨?_, h2, fun x hx => ?_, ?_, fun x hx => ?_, fun j hj => ?_⟩
  · rw [lp_w3_ne (by omega), lp_w3_ne (by omega), lp_w3_ne (by omega)]
    exact h1
  · rw [lp_w3_same]
    by_cases e : x = v + 1
    · subst e
      rw [nu_same]
      exact pk_us
    · rw [nu_ne e, pk_un e, lp_w3_ne (by omega), lp_w3_ne (by omega)]
      exact h3 x hx
  · rw [nu_ne (by omega)]
    exact h4
  · have := h5 x hx
    by_cases e : x = v
    · subst e
      rw [nu_same, nu_ne (by omega)]
      omega
    · rw [nu_ne (by omega), nu_ne (by omega)]
      exact this
  · rw [nu_same] at hj
    rw [lp_w3_ne (by omega), lp_w3_ne (by omega), lp_w3_same, lp_w3_ne (σ := lp_w3 (lp_w3 σ 3 k (s (v + 1)) (nI t)) 4 k (s (v + 1)) (nI w)) (by omega), lp_w3_same, lp_w3_ne (by omega)]
    by_cases e : j = s (v + 1)
    · subst e
      rw [pk_us, pk_us, nu_same, nu_same]
      exact ⟨rfl, ht, rfl, hw⟩
    · rw [pk_un e, pk_un e, nu_ne e, nu_ne e]
      exact h6 j (by omega)
theorem lp_Vis_open {σ : lpM} {k n : Nat} {s pg wt : Nat → Nat} (h : lp_Vis σ k n s pg wt) (hn : n < 60) : lp_Vis (lp_w3 (lp_w3 σ 5 k (n + 1) (nI (s n))) 2 k 3 (nI (n + 1))) k (n + 1) (nu s (n + 1) (s n)) pg wt := by
  obtain ⟨h1, h2, h3, h4, h5, h6⟩ := h
  refine ⟨?_, by omega, fun x hx => ?_, ?_, fun x hx => ?_, fun j hj => ?_⟩
  · rw [lp_w3_same]
    exact pk_us
  · rw [lp_w3_ne (by omega), lp_w3_same]
    by_cases e : x = n + 1
    · subst e
      rw [nu_same]
      exact pk_us
    · rw [nu_ne e, pk_un e]
      exact h3 x (by omega)
  · rw [nu_ne (by omega)]
    exact h4
  · by_cases e : x = n
    · subst e
      rw [nu_same, nu_ne (by omega)]
      omega
    · rw [nu_ne (by omega), nu_ne (by omega)]
      exact h5 x (by omega)
  · rw [nu_same] at hj
    rw [lp_w3_ne (by omega), lp_w3_ne (by omega), lp_w3_ne (by omega), lp_w3_ne (by omega)]
    exact h6 j hj
def lp_Wk (σ : lpM) (cn wn cm cw : Nat → Nat → Nat) : Prop := (∀ f, f < 11 → σ 17 0 f ≠ 0) ∧ (∀ f, f < 11 → ∀ t, t < 11 → σ 27 (121 + f) t = nI (cn f t) ∧ σ 28 (121 + f) t = nI (cm f t)) ∧
  (∀ j, j < 121 → σ 9 0 j ≠ 0 → ∀ w, w < 61 → σ 27 j w = nI (wn j w) ∧ σ 28 j w = nI (cw j w)) ∧ (∀ f t, f ≤ 10 → t < 10 → 0 < cn f t → σ 9 0 (f * 11 + t) ≠ 0)
theorem lp_Wk_congr {σ τ : lpM} {cn wn cm cw : Nat → Nat → Nat} (h : lp_Wk σ cn wn cm cw) (h17 : τ 17 = σ 17) (h9 : τ 9 = σ 9) (h27 : τ 27 = σ 27) (h28 : τ 28 = σ 28) : lp_Wk τ cn wn cm cw := by
  unfold lp_Wk
  rw [h17, h9, h27, h28]
  exact h
theorem lp_Wk_place {σ : lpM} {cn wn cm cw : Nat → Nat → Nat} {a t : Nat} (h : lp_Wk σ cn wn cm cw) (ha : a < 11) : lp_Wk (lp_w3 σ 28 (121 + a) t (nI (cm a t + 1))) cn wn (u2 cm a t) cw := by
  obtain ⟨h1, h2, h3, h4⟩ := h
  refine ⟨fun f hf => ?_, fun f hf y hy => ?_, fun j hj hz w hw => ?_, fun f y hf hy hc => ?_⟩
  · rw [lp_w3_ne (by omega)]; exact h1 f hf
  · refine ⟨by rw [lp_w3_ne (by omega)]; exact (h2 f hf y hy).1, ?_⟩
    by_cases e : f = a
    · subst e
      rw [lp_w3_same, u2_row, if_pos rfl]
      by_cases ey : y = t
      · subst ey
        rw [nu_same]; exact pk_us
      · rw [nu_ne ey, pk_un ey]; exact (h2 f hf y hy).2
    · rw [lp_w3_ne (by omega), u2_row, if_neg e]
      exact (h2 f hf y hy).2
  · rw [lp_w3_ne (by omega)] at hz
    rw [lp_w3_ne (by omega), lp_w3_ne (by omega)]
    exact h3 j hj hz w hw
  · rw [lp_w3_ne (by omega)]; exact h4 f y hf hy hc
theorem lp_Wk_wait {σ : lpM} {cn wn cm cw : Nat → Nat → Nat} {i w : Nat} (h : lp_Wk σ cn wn cm cw) (hi : i < 121) : lp_Wk (lp_w3 σ 28 i w (nI (cw i w + 1))) cn wn cm (u2 cw i w) := by
  obtain ⟨h1, h2, h3, h4⟩ := h
  refine ⟨fun f hf => ?_, fun f hf y hy => ?_, fun j hj hz w' hw => ?_, fun f y hf hy hc => ?_⟩
  · rw [lp_w3_ne (by omega)]; exact h1 f hf
  · exact ⟨by rw [lp_w3_ne (by omega)]; exact (h2 f hf y hy).1, by rw [lp_w3_ne (by omega)]; exact (h2 f hf y hy).2⟩
  · rw [lp_w3_ne (by omega)] at hz
    refine ⟨by rw [lp_w3_ne (by omega)]; exact (h3 j hj hz w' hw).1, ?_⟩
    by_cases e : j = i
    · subst e
      rw [lp_w3_same, u2_row, if_pos rfl]
      by_cases ey : w' = w
      · subst ey
        rw [nu_same]; exact pk_us
      · rw [nu_ne ey, pk_un ey]; exact (h3 j hj hz w' hw).2
    · rw [lp_w3_ne (by omega), u2_row, if_neg e]
      exact (h3 j hj hz w' hw).2
  · rw [lp_w3_ne (by omega)]; exact h4 f y hf hy hc
/-- what a WALK leaves as it was -/
def lp_F5 (σ τ : lpM) : Prop := (∀ r, r ≠ 3 → r ≠ 4 → r ≠ 5 → r ≠ 28 → τ r = σ r) ∧ τ 3 0 = σ 3 0 ∧ τ 4 0 = σ 4 0 ∧ τ 5 0 = σ 5 0
def sp_X5_timesOf : lpS := fun as σ Q => match as with
  | [.inr (some (r, k)), .inl x, .inl y] => r = 16 ∧ k = 0 ∧ (∀ f, f < 11 → σ 17 0 f ≠ 0) ∧ ((∃ a b, a ≤ 10 ∧ b ≤ 10 ∧ x = nI a ∧ y = nI b ∧ Q (some (σ 28 (121 + a) b)) σ) ∨ ((∀ a b, a ≤ 10 → b ≤ 10 → ¬ (x = nI a ∧ y = nI b)) ∧ Q (some (nI 0)) σ))
  | _ => False
set_option maxHeartbeats 4000000 in
set_option maxRecDepth 100000 in
theorem ct_X5_timesOf (l : Launch) (D : va_G) (cI cD : ClassId) : lp_Ct l D cI cD yX5_timesOf cX5_timesOf 3 (some .int) 2 sp_X5_timesOf := by
  refine lp_method0 flX5 pfX5 kcX5 [(62, none, 1, sp_X6_isPlace)] false kX5_timesOf rfl rfl (lp_rI rfl) flX5_ok pfX5_ok kcX5_ok kX5_timesOf_ok ⟨_, _, rfl, rfl⟩ (lp_cs1 (lp_mkCall lkX5_62 (ct_X6_isPlace l D cI cD) (by omega)) lp_cs0) ?_
  intro as σ Q hs
  rcases as with _ | ⟨_ | _ | ⟨r, k⟩, _ | ⟨x | _, _ | ⟨y | _, _ | ⟨c, as⟩⟩⟩⟩ <;> try exact (hs : False).elim
  obtain ⟨rfl, rfl, h17, hq⟩ := hs
  refine ⟨by show 3 ≤ 3; omega, ?_⟩
  ((conv => whnf); (try dsimp only))
  rcases Classical.em (∃ a, a ≤ 10 ∧ x = nI a) with ⟨a, h1, rfl⟩ | h1
  rotate_left
  · refine Or.inr ⟨fun v hv e => h1 ⟨v, hv, e⟩, ?_⟩
    ((conv => whnf); (try dsimp only))
    refine ⟨fun _ => ?_, fun q => absurd rfl q⟩
    ((conv => whnf); (try dsimp only))
    rcases hq with ⟨a, b, h2, h3, h4, h5, hq⟩ | ⟨h2, hq⟩
    · exact absurd ⟨a, h2, h4⟩ h1
    · exact hq
  refine Or.inl ⟨a, h1, rfl, ?_⟩
  ((conv => whnf); (try dsimp only))
  refine ⟨fun q => absurd q (by decide), fun _ => ?_⟩
  ((conv => whnf); (try dsimp only))
  rcases Classical.em (∃ b, b ≤ 10 ∧ y = nI b) with ⟨b, h2, rfl⟩ | h2
  rotate_left
  · refine Or.inr ⟨fun v hv e => h2 ⟨v, hv, e⟩, ?_⟩
    ((conv => whnf); (try dsimp only))
    refine ⟨fun _ => ?_, fun q => absurd rfl q⟩
    ((conv => whnf); (try dsimp only))
    rcases hq with ⟨a, b, h2', h3, h4, h5, hq⟩ | ⟨h2, hq⟩
    · exact absurd ⟨b, h3, h5⟩ h2
    · exact hq
  refine Or.inl ⟨b, h2, rfl, ?_⟩
  ((conv => whnf); (try dsimp only))
  refine ⟨fun q => absurd q (by decide), fun _ => ?_⟩
  ((conv => whnf); (try dsimp only))
  refine ⟨lp_vin (by omega) (by omega), ?_⟩
  rw [lp_clm (by omega)]
  refine ⟨fun q => absurd q (h17 a (by omega)), fun _ => ?_⟩
  ((conv => whnf); (try dsimp only))
  have hd : lp_dl (121 + a) = 11 := if_neg (by omega)
  refine ⟨lp_vin (by rw [hd]; omega) (lp_dl_lt _), ?_⟩
  rw [lp_clm (by omega)]
  ((conv => whnf); (try dsimp only))
  rcases hq with ⟨a', b', h2', h3, h4, h5, hq⟩ | ⟨h2', hq⟩
  · obtain rfl := lp_inj (by omega) (by omega) h4
    obtain rfl := lp_inj (by omega) (by omega) h5
    exact hq
  · exact absurd ⟨rfl, rfl⟩ (h2' a b h1 h2)
def sp_X5_dealWalk : lpS := fun as σ Q => match as with
  | [.inr (some (r, k)), .inr (some (r1, k1)), .inr (some (r2, k2))] => r = 16 ∧ k = 0 ∧ r1 = 6 ∧ k1 = 0 ∧ r2 = 2 ∧ k2 = 1 ∧ ∃ (cn wn : Nat → Nat → Nat) (s : Nat → Nat) (v D : Nat) (S : lpW), lpG cn wn ∧ lp_Wk σ cn wn S.2.2.2.1 S.2.2.2.2 ∧ lp_Vis σ 1 (v + 1) (nu s (v + 1) S.1) S.2.1 S.2.2.1 ∧ S.1 = s v ∧ lpB D S ∧ D < 20000 ∧
      ∀ τ, lp_Wk τ cn wn (wk cn wn 20 10 S).2.2.2.1 (wk cn wn 20 10 S).2.2.2.2 → lp_Vis τ 1 (v + 1) (nu s (v + 1) (wk cn wn 20 10 S).1) (wk cn wn 20 10 S).2.1 (wk cn wn 20 10 S).2.2.1 → lp_F5 σ τ → Q none τ
  | _ => False
set_option maxHeartbeats 4000000 in
set_option maxRecDepth 100000 in
theorem ct_X5_dealWalk (l : Launch) (D : va_G) (cI cD : ClassId) : lp_Ct l D cI cD yX5_dealWalk cX5_dealWalk 6 none 4 sp_X5_dealWalk := by
  refine lp_method flX5 pfX5 kcX5 [(49, some 1, 0, sp_X1_deal), (52, none, 1, sp_X6_isPage), (56, some 2, 2, sp_X2_dealWait), (59, some 4, 2, sp_X4_add)] false kX5_dealWalk [6] rfl rfl (lp_rV rfl) flX5_ok pfX5_ok kcX5_ok kX5_dealWalk_ok ⟨_, _, rfl, rfl⟩ (lp_cs1 (lp_mkCall lkX5_49 (ct_X1_deal l D cI cD) (by omega)) (lp_cs1 (lp_mkCall lkX5_52 (ct_X6_isPage l D cI cD) (by omega)) (lp_cs1 (lp_mkCall lkX5_56 (ct_X2_dealWait l D cI cD) (by omega)) (lp_cs1 (lp_mkCall lkX5_59 (ct_X4_add l D cI cD) (by omega)) lp_cs0)))) ?_
  intro as σ Q hok hs
  rcases as with _ | ⟨_ | _ | ⟨r, k⟩, _ | ⟨_ | _ | ⟨r1, k1⟩, _ | ⟨_ | _ | ⟨r2, k2⟩, _ | ⟨c, as⟩⟩⟩⟩ <;> try exact (hs : False).elim
  obtain ⟨rfl, rfl, rfl, rfl, rfl, rfl, cn, wn, s, v, D, S, hG, hW, hV, hS, hB, hD, hq⟩ := hs
  generalize hF : wk cn wn 20 10 S = F at hq
  have hv := hV.2.1
  refine ⟨by show 3 ≤ 6; omega, fun m pc L τ => pc = 6 ∧ ∃ (i a : Nat) (x5 : Option lpV) (S' : lpW), m + i = 20 ∧ i ≤ 20 ∧ a ≤ 10 ∧ 0 < lsum (cn a) 11 ∧ wk cn wn (20 - i) a S' = F ∧ lp_Wk τ cn wn S'.2.2.2.1 S'.2.2.2.2 ∧ lp_Vis τ 1 (v + 1) (nu s (v + 1) S'.1) S'.2.1 S'.2.2.1 ∧ S'.1 ≤ s v + i ∧ lpB (D + i) S' ∧ lp_F5 σ τ ∧
    L = [some (.inr (some (16, 0))), some (.inr (some (6, 0))), some (.inr (some (2, 1))), some (.inl (nI a)), some (.inl (nI i)), x5], ?_, ?_⟩
  · ((conv => whnf); (try dsimp only))
    exact ⟨20, rfl, 0, 10, none, S, rfl, Nat.zero_le _, Nat.le_refl _, hG.2.2.1, hF, hW, hV, by omega, hB, ⟨fun _ _ _ _ _ => rfl, rfl, rfl, rfl⟩, rfl⟩
  · rintro m pc L τ ⟨rfl, i, a, x5, S', hm, hi, ha, hsa, hwk, hW', hV', hS', hB', hF5, rfl⟩
    ((conv => whnf); (try dsimp only))
    refine ⟨fun h => ?_, fun h => ?_⟩ <;> ((conv => whnf); (try dsimp only))
    · have h : 20 ≤ i := (nI_leI (a := 20) (by omega) (by omega)).mp h
      obtain rfl : i = 20 := by omega
      have hwk : S' = F := hwk
      subst hwk
      exact hq τ hW' hV' hF5
    · have h : ¬ 20 ≤ i := fun z => h ((nI_leI (a := 20) (by omega) (by omega)).mpr z)
      refine ⟨lp_vin (by omega) (by omega), ?_⟩
      rw [lp_clm (by omega)]
      refine ⟨fun q => absurd q (hW'.1 a (by omega)), fun _ => ?_⟩
      ((conv => whnf); (try dsimp only))
      have hd : lp_dl (121 + a) = 11 := if_neg (by omega)
      obtain ⟨t, t1, t2, t3, t4⟩ := wk_step hG (n := 20 - i - 1) (S := S') ha hsa
      rw [show 20 - i - 1 + 1 = 20 - i by omega, hwk] at t4
      refine ⟨rfl, cn a, S'.2.2.2.1 a, t, fun x hx => by rw [hd] at hx; exact hW'.2.1 a (by omega) x hx, by rw [hd]; exact hG.1 a ha, by rw [hd]; have := hB'.1 a; omega, by rw [hd]; exact t3, ?_⟩
      ((conv => whnf); (try dsimp only))
      have hW1 := lp_Wk_place (t := t) hW' (show a < 11 by omega)
      generalize hσ1 : lp_w3 τ 28 (121 + a) t (nI (S'.2.2.2.1 a t + 1)) = σ1 at hW1 ⊢
      have hV1 : lp_Vis σ1 1 (v + 1) (nu s (v + 1) S'.1) S'.2.1 S'.2.2.1 := by
        rw [← hσ1]
        exact lp_Vis_congr hV' (lp_w3_ne (by omega)) (lp_w3_ne (by omega)) (lp_w3_ne (by omega)) (lp_w3_ne (by omega))
      have hF1 : lp_F5 σ σ1 := by
        rw [← hσ1]
        refine ⟨fun r h3 h4 h5 h28 => ?_, ?_, ?_, ?_⟩
        · funext k
          rw [lp_w3_ne (by omega), hF5.1 r h3 h4 h5 h28]
        · rw [lp_w3_ne (by omega)]; exact hF5.2.1
        · rw [lp_w3_ne (by omega)]; exact hF5.2.2.1
        · rw [lp_w3_ne (by omega)]; exact hF5.2.2.2
      rcases t4 with ⟨rfl, t5⟩ | ⟨t5, t6, w, t7, t8, t9, t10⟩
      · refine Or.inr ⟨fun x hx e => by have := lp_inj (by omega) (by omega) e; omega, ?_⟩
        ((conv => whnf); (try dsimp only))
        refine ⟨fun q => absurd rfl q, fun _ => ?_⟩
        ((conv => whnf); (try dsimp only))
        subst t5
        exact hq σ1 hW1 hV1 hF1
      · refine Or.inl ⟨t, by omega, rfl, ?_⟩
        ((conv => whnf); (try dsimp only))
        refine ⟨fun _ => ?_, fun q => absurd q (by decide)⟩
        ((conv => whnf); (try dsimp only))
        have hfl := hW1.2.2.2 a t ha t5 t2
        have hj : a * 11 + t < 121 := by omega
        refine ⟨rfl, rfl, a, t, ha, by omega, rfl, rfl, hfl, wn (a * 11 + t), S'.2.2.2.2 (a * 11 + t), w, fun x hx => hW1.2.2.1 _ hj hfl x (by rw [show lp_dl (a * 11 + t) = 61 from if_pos hj] at hx; exact hx), hG.2.1 _ hj, by have := hB'.2 (a * 11 + t); omega, t9, ?_⟩
        have hW2 := lp_Wk_wait (w := w) hW1 hj
        generalize hσ2 : lp_w3 σ1 28 (a * 11 + t) w (nI (S'.2.2.2.2 (a * 11 + t) w + 1)) = σ2 at hW2 ⊢
        have hV2 : lp_Vis σ2 1 (v + 1) (nu s (v + 1) S'.1) S'.2.1 S'.2.2.1 := by
          rw [← hσ2]
          exact lp_Vis_congr hV1 (lp_w3_ne (by omega)) (lp_w3_ne (by omega)) (lp_w3_ne (by omega)) (lp_w3_ne (by omega))
        ((conv => whnf); (try dsimp only))
        have e1 : nu s (v + 1) S'.1 (v + 1) = S'.1 := nu_same _ _ _
        have e2 : nu s (v + 1) S'.1 v = s v := nu_ne (by omega)
        have hV3 := lp_Vis_add (t := t) (w := w) hV2 (by rw [e1, e2]; omega) t5 (by omega)
        refine ⟨rfl, v + 1, _, _, _, hV2, Or.inl ⟨v, rfl, by rw [e1, e2]; omega, ?_⟩⟩
        rw [e1] at hV3 ⊢
        ((conv => whnf); (try dsimp only))
        generalize hσ3 : lp_w3 (lp_w3 (lp_w3 σ2 3 1 S'.1 (nI t)) 4 1 S'.1 (nI w)) 5 1 (v + 1) (nI (S'.1 + 1)) = σ3 at hV3 ⊢
        rw [show nu (nu s (v + 1) S'.1) (v + 1) (S'.1 + 1) = nu s (v + 1) (S'.1 + 1) from by
          funext x; unfold nu; split <;> rfl] at hV3
        refine ⟨20 - (i + 1), by omega, rfl, i + 1, t, some (.inl (nI t)), (S'.1 + 1, nu S'.2.1 S'.1 t, nu S'.2.2.1 S'.1 w, u2 S'.2.2.2.1 a t, u2 S'.2.2.2.2 (a * 11 + t) w), by omega, by omega, by omega, t6, ?_, ?_, hV3, by dsimp only; omega, lpB_step hB', ?_, by rw [nI_succ i]; rfl⟩
        · rw [t10, show 20 - (i + 1) = 20 - i - 1 by omega]
        · rw [← hσ3]
          exact lp_Wk_congr hW2 (by funext k; rw [lp_w3_ne (by omega), lp_w3_ne (by omega), lp_w3_ne (by omega)]) (by funext k; rw [lp_w3_ne (by omega), lp_w3_ne (by omega), lp_w3_ne (by omega)]) (by funext k; rw [lp_w3_ne (by omega), lp_w3_ne (by omega), lp_w3_ne (by omega)]) (by funext k; rw [lp_w3_ne (by omega), lp_w3_ne (by omega), lp_w3_ne (by omega)])
        · rw [← hσ3, ← hσ2]
          refine ⟨fun r h3 h4 h5 h28 => ?_, ?_, ?_, ?_⟩
          · funext k
            rw [lp_w3_ne (by omega), lp_w3_ne (by omega), lp_w3_ne (by omega), lp_w3_ne (by omega), hF1.1 r h3 h4 h5 h28]
          · rw [lp_w3_ne (by omega), lp_w3_ne (by omega), lp_w3_ne (by omega), lp_w3_ne (by omega)]; exact hF1.2.1
          · rw [lp_w3_ne (by omega), lp_w3_ne (by omega), lp_w3_ne (by omega), lp_w3_ne (by omega)]; exact hF1.2.2.1
          · rw [lp_w3_ne (by omega), lp_w3_ne (by omega), lp_w3_ne (by omega), lp_w3_ne (by omega)]; exact hF1.2.2.2
end
section
/-! ===== Walker.dealWalks ===== -/
theorem lp_Mach_congr {σ τ : lpM} {ct rr : Nat → Nat} {wc : Nat → Nat → Nat} (h : lp_Mach σ ct rr wc) (h7 : τ 7 = σ 7) (h8 : τ 8 = σ 8) (h9 : τ 9 = σ 9) (h27 : ∀ k, k < 121 → τ 27 k = σ 27 k) : lp_Mach τ ct rr wc := by
  obtain ⟨a, b, c, d⟩ := h
  refine ⟨fun j hj => by rw [h7]; exact a j hj, fun j hj => by rw [h8]; exact b j hj, fun j hj hz => c j hj (by rw [← h9]; exact hz), fun j hj hz w hw => ?_⟩
  rw [h27 j hj]
  exact d j hj (by rw [← h9]; exact hz) w hw
def lp_F6 (σ τ : lpM) : Prop := (∀ r, r ≠ 2 → r ≠ 3 → r ≠ 4 → r ≠ 5 → r ≠ 27 → r ≠ 28 → τ r = σ r) ∧ (∀ r, r = 2 ∨ r = 3 ∨ r = 4 ∨ r = 5 → τ r 0 = σ r 0) ∧ (∀ k, k < 121 → τ 27 k = σ 27 k)
def lp_W0 : lpW := (0, fun _ => 0, fun _ => 0, fun _ _ => 0, fun _ _ => 0)
theorem lpB_W0 : lpB 0 lp_W0 := ⟨fun f => Nat.le_of_eq (lsum_zero (fun _ _ => rfl)), fun f => Nat.le_of_eq (lsum_zero (fun _ _ => rfl))⟩
def sp_X5_dealWalks : lpS := fun as σ Q => match as with
  | [.inr (some (r, k)), .inr (some (r1, k1)), .inr (some (r2, k2)), .inl x] => r = 16 ∧ k = 0 ∧ r1 = 6 ∧ k1 = 0 ∧ r2 = 2 ∧ k2 = 1 ∧ ∃ (ct rr : Nat → Nat) (wc : Nat → Nat → Nat) (N : Nat), x = nI N ∧ N ≤ 60 ∧ lp_Mach σ ct rr wc ∧ (∀ f, f < 11 → σ 17 0 f ≠ 0) ∧ σ 5 1 0 = nI 0 ∧ lpG (fun f t => lp_mc (ct (f * 11 + t)) (rr (f * 11 + t))) wc ∧
      ∀ τ, lp_Wk τ (fun f t => lp_mc (ct (f * 11 + t)) (rr (f * 11 + t))) wc (wks (fun f t => lp_mc (ct (f * 11 + t)) (rr (f * 11 + t))) wc N 0 (fun _ => 0) lp_W0).2.2.2.2.1 (wks (fun f t => lp_mc (ct (f * 11 + t)) (rr (f * 11 + t))) wc N 0 (fun _ => 0) lp_W0).2.2.2.2.2 →
        lp_Vis τ 1 N (wks (fun f t => lp_mc (ct (f * 11 + t)) (rr (f * 11 + t))) wc N 0 (fun _ => 0) lp_W0).1 (wks (fun f t => lp_mc (ct (f * 11 + t)) (rr (f * 11 + t))) wc N 0 (fun _ => 0) lp_W0).2.2.1 (wks (fun f t => lp_mc (ct (f * 11 + t)) (rr (f * 11 + t))) wc N 0 (fun _ => 0) lp_W0).2.2.2.1 → lp_F6 σ τ → Q none τ
  | _ => False
set_option maxHeartbeats 4000000 in
set_option maxRecDepth 100000 in
theorem ct_X5_dealWalks (l : Launch) (D : va_G) (cI cD : ClassId) : lp_Ct l D cI cD yX5_dealWalks cX5_dealWalks 6 none 5 sp_X5_dealWalks := by
  refine lp_method flX5 pfX5 kcX5 [(20, some 2, 0, sp_X2_beginWaitsAnew), (25, some 1, 0, sp_X1_beginAnew), (32, some 2, 2, sp_X2_countOf), (36, some 4, 0, sp_X4_empty), (41, some 4, 0, sp_X4_open), (45, some 5, 2, sp_X5_dealWalk)] false kX5_dealWalks [7, 27, 74] rfl rfl (lp_rV rfl) flX5_ok pfX5_ok kcX5_ok kX5_dealWalks_ok ⟨_, _, rfl, rfl⟩ (lp_cs1 (lp_mkCall lkX5_20 (ct_X2_beginWaitsAnew l D cI cD) (by omega)) (lp_cs1 (lp_mkCall lkX5_25 (ct_X1_beginAnew l D cI cD) (by omega)) (lp_cs1 (lp_mkCall lkX5_32 (ct_X2_countOf l D cI cD) (by omega)) (lp_cs1 (lp_mkCall lkX5_36 (ct_X4_empty l D cI cD) (by omega)) (lp_cs1 (lp_mkCall lkX5_41 (ct_X4_open l D cI cD) (by omega)) (lp_cs1 (lp_mkCall lkX5_45 (ct_X5_dealWalk l D cI cD) (by omega)) lp_cs0)))))) ?_
  intro as σ Q hok hs
  rcases as with _ | ⟨_ | _ | ⟨r, k⟩, _ | ⟨_ | _ | ⟨r1, k1⟩, _ | ⟨_ | _ | ⟨r2, k2⟩, _ | ⟨x | _, _ | ⟨c, as⟩⟩⟩⟩⟩ <;> try exact (hs : False).elim
  obtain ⟨rfl, rfl, rfl, rfl, rfl, rfl, ct, rr, wc, N, rfl, hN, hM, h17, h50, hG, hq⟩ := hs
  generalize hcn : (fun f t => lp_mc (ct (f * 11 + t)) (rr (f * 11 + t))) = cn at hG hq
  generalize hFF : wks cn wc N 0 (fun _ => 0) lp_W0 = FF at hq
  have hcn' : ∀ f t, lp_mc (ct (f * 11 + t)) (rr (f * 11 + t)) = cn f t := fun f t => by rw [← hcn]
  obtain ⟨J, hJ⟩ : ∃ J : Nat → Nat → lpM → Prop, J = fun f t τ => (∀ r, r ≠ 27 → r ≠ 28 → τ r = σ r) ∧ (∀ k, k < 121 → τ 27 k = σ 27 k) ∧ (∀ j, j < 121 → σ 9 0 j ≠ 0 → ∀ w, w < 61 → τ 28 j w = nI 0) ∧ (∀ f', f' < f → ∀ t, t < 11 → τ 27 (121 + f') t = nI (cn f' t) ∧ τ 28 (121 + f') t = nI 0) ∧ (∀ t', t' < t → τ 27 (121 + f) t' = nI (cn f t')) := ⟨_, rfl⟩
  refine ⟨by show 4 ≤ 6; omega, fun m pc L τ =>
    (pc = 7 ∧ ∃ (f : Nat) (x5 : Option lpV), m = 10000 + (11 - f) * 100 + 50 ∧ f ≤ 11 ∧ J f 0 τ ∧ L = [some (.inr (some (16, 0))), some (.inr (some (6, 0))), some (.inr (some (2, 1))), some (.inl (nI N)), some (.inl (nI f)), x5]) ∨
    (pc = 27 ∧ ∃ (f t : Nat), m = 10000 + (11 - f) * 100 + (11 - t) ∧ f < 11 ∧ t ≤ 11 ∧ J f t τ ∧ (∀ t, t < 11 → τ 28 (121 + f) t = nI 0) ∧ L = [some (.inr (some (16, 0))), some (.inr (some (6, 0))), some (.inr (some (2, 1))), some (.inl (nI N)), some (.inl (nI f)), some (.inl (nI t))]) ∨
    (pc = 74 ∧ ∃ (v : Nat) (x5 : Option lpV) (s : Nat → Nat) (S : lpW), m = N - v ∧ v ≤ N ∧ wks cn wc (N - v) v s S = FF ∧ S.1 = s v ∧ lpB (20 * v) S ∧ lp_Wk τ cn wc S.2.2.2.1 S.2.2.2.2 ∧ lp_Vis τ 1 v s S.2.1 S.2.2.1 ∧ lp_F6 σ τ ∧ L = [some (.inr (some (16, 0))), some (.inr (some (6, 0))), some (.inr (some (2, 1))), some (.inl (nI N)), some (.inl (nI v)), x5]), ?_, ?_⟩
  · ((conv => whnf); (try dsimp only))
    refine ⟨rfl, rfl, ?_⟩
    ((conv => whnf); (try dsimp only))
    refine ⟨_, Or.inl ⟨rfl, 0, none, rfl, by omega, ?_, rfl⟩⟩
    rw [hJ]
    refine ⟨fun r h27 h28 => ?_, fun k hk => ?_, fun j hj hz w hw => ?_, fun f' hf => absurd hf (by omega), fun t ht => absurd ht (by omega)⟩
    · funext k j; simp [lp_clr, h28]
    · funext j; simp [lp_clr]
    · simp [lp_clr, hj, hz, hw]
  · rintro m pc L τ (⟨rfl, f, x5, rfl, hf, hJ0, rfl⟩ | ⟨rfl, f, t, rfl, hf, ht, hJ0, h28, rfl⟩ | ⟨rfl, v, x5, s, S, rfl, hv, hwk, hS, hB, hW, hV, hF6, rfl⟩)
    · rw [hJ] at hJ0
      obtain ⟨j1, j2, j3, j4, j5⟩ := hJ0
      ((conv => whnf); (try dsimp only))
      refine ⟨fun h => ?_, fun h => ?_⟩ <;> ((conv => whnf); (try dsimp only))
      · have h : 11 ≤ f := (nI_leI (a := 11) (by omega) (by omega)).mp h
        obtain rfl : f = 11 := by omega
        refine ⟨rfl, ?_⟩
        ((conv => whnf); (try dsimp only))
        refine ⟨N - 0, by omega, Or.inr (Or.inr ⟨rfl, 0, x5, fun _ => 0, lp_W0, rfl, Nat.zero_le _, hFF, rfl, lpB_W0, ?_, ?_, ?_, rfl⟩)⟩
        · refine ⟨fun f hf => ?_, fun f hf t ht => ?_, fun j hj hz w hw => ?_, fun f t hf ht hc => ?_⟩
          · rw [lp_w3_ne (by omega), j1 17 (by omega) (by omega)]
            exact h17 f hf
          · rw [lp_w3_ne (by omega), lp_w3_ne (by omega)]
            exact j4 f hf t ht
          · rw [lp_w3_ne (by omega), j1 9 (by omega) (by omega)] at hz
            rw [lp_w3_ne (by omega), lp_w3_ne (by omega), j2 j hj]
            exact ⟨hM.2.2.2 j hj hz w hw, j3 j hj hz w hw⟩
          · rw [lp_w3_ne (by omega), j1 9 (by omega) (by omega)]
            intro hz
            have := (hG.2.2.2 f t hf ht hc).1
            rw [lsum_zero (fun w hw => hM.2.2.1 (f * 11 + t) (by omega) hz w hw)] at this
            omega
        · refine ⟨?_, by omega, fun x hx => ?_, rfl, fun x hx => absurd hx (by omega), fun j hj => absurd hj (by show ¬ j < 0; omega)⟩
          · rw [lp_w3_same]; exact pk_us
          · obtain rfl : x = 0 := by omega
            rw [lp_w3_ne (by omega), j1 5 (by omega) (by omega)]
            exact h50
        · refine ⟨fun r h2 h3 h4 h5 h27 h28 => ?_, fun r hr => ?_, fun k hk => ?_⟩
          · funext k
            rw [lp_w3_ne (by omega), j1 r h27 h28]
          · rw [lp_w3_ne (by omega), j1 r (by omega) (by omega)]
          · rw [lp_w3_ne (by omega)]; exact j2 k hk
      · have h : ¬ 11 ≤ f := fun z => h ((nI_leI (a := 11) (by omega) (by omega)).mpr z)
        refine ⟨lp_vin (by omega) (by omega), ?_⟩
        rw [lp_clm (by omega), j1 17 (by omega) (by omega)]
        refine ⟨fun q => absurd q (h17 f (by omega)), fun _ => ?_⟩
        ((conv => whnf); (try dsimp only))
        refine ⟨rfl, ?_⟩
        ((conv => whnf); (try dsimp only))
        have hd : lp_dl (121 + f) = 11 := if_neg (by omega)
        refine ⟨_, ?_, Or.inr (Or.inl ⟨rfl, f, 0, rfl, by omega, by omega, ?_, fun t ht => ?_, rfl⟩)⟩
        · omega
        · rw [hJ]
          refine ⟨fun r h27 h28 => ?_, fun k hk => ?_, fun j hj hz w hw => ?_, fun f' hf' t ht => ?_, fun t ht => absurd ht (by omega)⟩
          · rw [← j1 r h27 h28]
            simp [lp_fill, va_up, h28]
          · rw [← j2 k hk]
            simp [lp_fill, va_up]
          · rw [← j3 j hj hz w hw]
            simp [lp_fill, va_up, show ¬ j = 121 + f by omega]
          · have := j4 f' hf' t ht
            refine ⟨?_, ?_⟩
            · rw [← this.1]; simp [lp_fill, va_up]
            · rw [← this.2]; simp [lp_fill, va_up, show ¬ f' = f by omega]
        · simp [lp_fill, va_up, hd, ht]
    · rw [hJ] at hJ0
      obtain ⟨j1, j2, j3, j4, j5⟩ := hJ0
      have hd : lp_dl (121 + f) = 11 := if_neg (by omega)
      ((conv => whnf); (try dsimp only))
      refine ⟨fun h => ?_, fun h => ?_⟩ <;> ((conv => whnf); (try dsimp only))
      · have h : 11 ≤ t := (nI_leI (a := 11) (by omega) (by omega)).mp h
        obtain rfl : t = 11 := by omega
        refine ⟨_, ?_, Or.inl ⟨rfl, f + 1, some (.inl (nI 11)), rfl, by omega, ?_, by rw [nI_succ f]; rfl⟩⟩
        · omega
        · rw [hJ]
          refine ⟨j1, j2, j3, fun f' hf' t ht => ?_, fun t ht => absurd ht (by omega)⟩
          by_cases e : f' = f
          · subst e
            exact ⟨j5 t ht, h28 t ht⟩
          · exact j4 f' (by omega) t ht
      · have h : ¬ 11 ≤ t := fun z => h ((nI_leI (a := 11) (by omega) (by omega)).mpr z)
        refine ⟨lp_vin (by omega) (by omega), ?_⟩
        rw [lp_clm (by omega), j1 17 (by omega) (by omega)]
        refine ⟨fun q => absurd q (h17 f (by omega)), fun _ => ?_⟩
        ((conv => whnf); (try dsimp only))
        have hMτ : lp_Mach τ ct rr wc := lp_Mach_congr hM (j1 7 (by omega) (by omega)) (j1 8 (by omega) (by omega)) (j1 9 (by omega) (by omega)) j2
        refine ⟨rfl, rfl, ct, rr, wc, hMτ, Or.inl ⟨f, t, by omega, by omega, rfl, rfl, ?_⟩⟩
        ((conv => whnf); (try dsimp only))
        refine ⟨lp_vin (by rw [hd]; omega) (lp_dl_lt _), ?_⟩
        rw [lp_clm (by omega), hcn' f t]
        ((conv => whnf); (try dsimp only))
        refine ⟨_, ?_, Or.inr (Or.inl ⟨rfl, f, t + 1, rfl, by omega, by omega, ?_, fun t' ht' => ?_, by rw [nI_succ t]; rfl⟩)⟩
        · omega
        · rw [hJ]
          refine ⟨fun r h27 h28 => ?_, fun k hk => ?_, fun j hj hz w hw => ?_, fun f' hf' t' ht' => ?_, fun t' ht' => ?_⟩
          · funext k
            rw [lp_w3_ne (by omega), j1 r h27 h28]
          · rw [lp_w3_ne (by omega)]; exact j2 k hk
          · rw [lp_w3_ne (by omega)]; exact j3 j hj hz w hw
          · rw [lp_w3_ne (by omega), lp_w3_ne (by omega)]; exact j4 f' hf' t' ht'
          · rw [lp_w3_same]
            by_cases e : t' = t
            · subst e; exact pk_us
            · rw [pk_un e]; exact j5 t' (by omega)
        · rw [lp_w3_ne (by omega)]; exact h28 t' ht'
    · ((conv => whnf); (try dsimp only))
      refine ⟨fun h => ?_, fun h => ?_⟩ <;> ((conv => whnf); (try dsimp only))
      · rw [nI_leI (by omega) (by omega)] at h
        obtain rfl : v = N := by omega
        rw [Nat.sub_self] at hwk
        have hwk : (s, S) = FF := hwk
        subst hwk
        exact hq τ hW hV hF6
      · rw [nI_leI (by omega) (by omega)] at h
        have hVo := lp_Vis_open hV (by omega)
        refine ⟨rfl, v, s, S.2.1, S.2.2.1, hV, Or.inl ⟨by omega, ?_⟩⟩
        generalize hσ1 : lp_w3 (lp_w3 τ 5 1 (v + 1) (nI (s v))) 2 1 3 (nI (v + 1)) = σ1 at hVo ⊢
        ((conv => whnf); (try dsimp only))
        rw [← hS] at hVo
        have hWo : lp_Wk σ1 cn wc S.2.2.2.1 S.2.2.2.2 := by
          rw [← hσ1]
          exact lp_Wk_congr hW (by funext k; rw [lp_w3_ne (by omega), lp_w3_ne (by omega)]) (by funext k; rw [lp_w3_ne (by omega), lp_w3_ne (by omega)]) (by funext k; rw [lp_w3_ne (by omega), lp_w3_ne (by omega)]) (by funext k; rw [lp_w3_ne (by omega), lp_w3_ne (by omega)])
        refine ⟨rfl, rfl, rfl, rfl, rfl, rfl, cn, wc, s, v, 20 * v, S, hG, hWo, hVo, hS, hB, by omega, fun τ' hW' hV' hF' => ?_⟩
        ((conv => whnf); (try dsimp only))
        refine ⟨N - (v + 1), by omega, Or.inr (Or.inr ⟨rfl, v + 1, x5, nu s (v + 1) (wk cn wc 20 10 S).1, wk cn wc 20 10 S, rfl, by omega, ?_, (nu_same _ _ _).symm, ?_, hW', hV', ?_, by rw [nI_succ v]; rfl⟩)⟩
        · rw [← hwk, show N - v = N - (v + 1) + 1 by omega]
          rfl
        · exact lpB_mono ((wk_keep hG 20 10 (20 * v) S (by omega) hG.2.2.1 hB).2.2.1) (by omega)
        · refine ⟨fun r h2 h3 h4 h5 h27 h28 => ?_, fun r hr => ?_, fun k hk => ?_⟩
          · rw [hF'.1 r h3 h4 h5 h28, ← hσ1, ← hF6.1 r h2 h3 h4 h5 h27 h28]
            funext k
            rw [lp_w3_ne (by omega), lp_w3_ne (by omega)]
          · have e : σ1 r 0 = σ r 0 := by
              rw [← hσ1, lp_w3_ne (by omega), lp_w3_ne (by omega)]
              exact hF6.2.1 r hr
            rw [← e]
            rcases hr with rfl | rfl | rfl | rfl
            · rw [hF'.1 2 (by omega) (by omega) (by omega) (by omega)]
            · exact hF'.2.1
            · exact hF'.2.2.1
            · exact hF'.2.2.2
          · rw [hF'.1 27 (by omega) (by omega) (by omega) (by omega), ← hσ1, lp_w3_ne (by omega), lp_w3_ne (by omega)]
            exact hF6.2.2 k hk
end
section
/-! ===== Press: the cell (18, 0), its rows (19 .. 25, 0) ===== -/
theorem lp_rd (σ : lpM) (r k j : Nat) (x : Int32) (r' k' j' : Nat) : lp_w3 σ r k j x r' k' j' = if r' = r ∧ k' = k ∧ j' = j then x else σ r' k' j' := by
  by_cases hr : r' = r
  · subst hr
    by_cases hk : k' = k
    · subst hk
      by_cases hj : j' = j
      · subst hj; simp [lp_w3_same, upd]
      · simp [lp_w3_same, upd, hj]
    · rw [lp_w3_ne (by omega)]; simp [hk]
  · rw [lp_w3_ne (by omega)]; simp [hr]
def lp_Sv (σ : lpM) (n S : Nat) (s : Nat → Nat) (P : Nat → Nat → Nat) : Prop := (∀ v, v < n → σ 23 0 v = nI (P 0 v) ∧ (P 0 v < s (v + 1) → σ 24 0 v = nI (P 1 v))) ∧ (∀ k, k < 8 → σ 25 0 k = nI (P 2 k)) ∧
  (∀ v sl, v < n → s v ≤ sl → sl < P 0 v → σ 19 0 sl = nI (P 3 sl) ∧ σ 20 0 sl = nI (P 4 sl) ∧ σ 21 0 sl = nI (P 5 sl) ∧ σ 22 0 sl = nI (P 6 sl)) ∧ σ 18 0 8 = nI S ∧ σ 18 0 9 = nI (P 7 2) ∧ σ 18 0 10 = nI (P 7 3) ∧ σ 18 0 11 = nI (P 7 0) ∧ σ 18 0 12 = nI (P 7 1)
def lp_F8 (σ τ : lpM) : Prop := ∀ r, ¬ (18 ≤ r ∧ r ≤ 25) → τ r = σ r
theorem lp_F8_Vis {σ τ : lpM} {k n : Nat} {s pg wt : Nat → Nat} (h : lp_Vis σ k n s pg wt) (hF : lp_F8 σ τ) : lp_Vis τ k n s pg wt :=
  lp_Vis_congr h (by rw [hF 2 (by omega)]) (by rw [hF 3 (by omega)]) (by rw [hF 4 (by omega)]) (by rw [hF 5 (by omega)])
theorem lp_F8_w3 {σ τ : lpM} {r k j : Nat} {x : Int32} (h : lp_F8 σ τ) (hr : 18 ≤ r ∧ r ≤ 25) : lp_F8 σ (lp_w3 τ r k j x) := fun r' h' => by
  rw [← h r' h']
  funext k'
  exact lp_w3_ne (by omega)
theorem lp_F8_rf (σ : lpM) : lp_F8 σ σ := fun _ _ => rfl
theorem lp_F8_fill {σ τ : lpM} {r k n : Nat} {x : Int32} (h : lp_F8 σ τ) (hr : 18 ≤ r ∧ r ≤ 25) : lp_F8 σ (lp_fill τ r k n x) := fun r' h' => by
  rw [← h r' h']
  simp [lp_fill, va_up, show ¬ r' = r by omega]
def sp_X3_noteBehind : lpS := fun as σ Q => match as with
  | [.inr (some (r, k)), .inl x, .inl y] => r = 18 ∧ k = 0 ∧ ∃ d lb bs, x = nI d ∧ σ 18 0 9 = nI lb ∧ σ 18 0 10 = nI bs ∧ d < 2 ^ 31 ∧ lb < 2 ^ 31 ∧ bs < 2 ^ 31 ∧ Q none (lp_w3 (lp_w3 σ 18 0 10 (nI (if lb < d then d else min bs d))) 18 0 9 y)
  | _ => False
set_option maxHeartbeats 4000000 in
set_option maxRecDepth 100000 in
theorem ct_X3_noteBehind (l : Launch) (D : va_G) (cI cD : ClassId) : lp_Ct l D cI cD yX3_noteBehind cX3_noteBehind 3 none 1 sp_X3_noteBehind := by
  refine lp_method0 flX3 pfX3 kcX3 [(62, none, 2, sp_min)] false kX3_noteBehind rfl rfl (lp_rV rfl) flX3_ok pfX3_ok kcX3_ok kX3_noteBehind_ok ⟨_, _, rfl, rfl⟩ (lp_cs1 (lp_mkMin lkX3_62 (by omega)) lp_cs0) ?_
  intro as σ Q hs
  rcases as with _ | ⟨_ | _ | ⟨r, k⟩, _ | ⟨x | _, _ | ⟨y | _, _ | ⟨c, as⟩⟩⟩⟩ <;> try exact (hs : False).elim
  obtain ⟨rfl, rfl, d, lb, bs, rfl, e1, e2, b1, b2, b3, hq⟩ := hs
  refine ⟨Nat.le_refl 3, ?_⟩
  ((conv => whnf); (try dsimp only))
  rw [e1]
  refine ⟨fun q => ?_, fun q => ?_⟩ <;> ((conv => whnf); (try dsimp only))
  · rw [nI_leI b1 b2] at q
    rw [if_neg (by omega)] at hq
    rw [e2]
    by_cases hlt : d < bs
    · rw [if_pos (nI_lt hlt b3)]
      rw [Nat.min_eq_right (by omega)] at hq
      exact hq
    · rw [if_neg (fun z => hlt ((nI_ltI b1 b3).mp z))]
      rw [Nat.min_eq_left (by omega)] at hq
      exact hq
  · rw [nI_leI b1 b2] at q
    rw [if_pos (by omega)] at hq
    exact hq
def sp_X3_fallsBehind : lpS := fun as σ Q => match as with
  | [.inr (some (r, k))] => r = 18 ∧ k = 0 ∧ ∃ lb bs, σ 18 0 9 = nI lb ∧ σ 18 0 10 = nI bs ∧ lb < 2 ^ 31 ∧ bs < 2 ^ 31 ∧ ((bs < lb ∧ Q (some (nI bs)) σ) ∨ (lb ≤ bs ∧ Q (some (-1)) σ))
  | _ => False
set_option maxHeartbeats 4000000 in
set_option maxRecDepth 100000 in
theorem ct_X3_fallsBehind (l : Launch) (D : va_G) (cI cD : ClassId) : lp_Ct l D cI cD yX3_fallsBehind cX3_fallsBehind 1 (some .int) 0 sp_X3_fallsBehind := by
  refine lp_method0 flX3 pfX3 kcX3 [] false kX3_fallsBehind rfl rfl (lp_rI rfl) flX3_ok pfX3_ok kcX3_ok kX3_fallsBehind_ok ⟨_, _, rfl, rfl⟩ lp_cs0 ?_
  intro as σ Q hs
  rcases as with _ | ⟨_ | _ | ⟨r, k⟩, _ | ⟨c, as⟩⟩ <;> try exact (hs : False).elim
  obtain ⟨rfl, rfl, lb, bs, e1, e2, b1, b2, hq⟩ := hs
  refine ⟨Nat.le_refl 1, ?_⟩
  ((conv => whnf); (try dsimp only))
  rw [e1, e2]
  refine ⟨fun q => ?_, fun q => ?_⟩ <;> ((conv => whnf); (try dsimp only))
  · rw [nI_leI b1 b2] at q
    rcases hq with ⟨h, hq⟩ | ⟨h, hq⟩
    · omega
    · exact hq
  · rw [nI_leI b1 b2] at q
    rw [e2]
    rcases hq with ⟨h, hq⟩ | ⟨h, hq⟩
    · exact hq
    · omega
def sp_X3_serverFreeFirst : lpS := fun as σ Q => match as with
  | [.inr (some (r, k))] => r = 18 ∧ k = 0 ∧ ∃ (S : Nat) (fr : Nat → Nat), σ 18 0 8 = nI (S + 1) ∧ S < 8 ∧ (∀ k, k < 8 → σ 25 0 k = nI (fr k) ∧ fr k < 2 ^ 31) ∧ Q (some (nI (ps fr (S + 1)))) σ
  | _ => False
set_option maxHeartbeats 4000000 in
set_option maxRecDepth 100000 in
theorem ct_X3_serverFreeFirst (l : Launch) (D : va_G) (cI cD : ClassId) : lp_Ct l D cI cD yX3_serverFreeFirst cX3_serverFreeFirst 3 (some .int) 0 sp_X3_serverFreeFirst := by
  refine lp_method flX3 pfX3 kcX3 [] false kX3_serverFreeFirst [4] rfl rfl (lp_rI rfl) flX3_ok pfX3_ok kcX3_ok kX3_serverFreeFirst_ok ⟨_, _, rfl, rfl⟩ lp_cs0 ?_
  intro as σ Q hok hs
  rcases as with _ | ⟨_ | _ | ⟨r, k⟩, _ | ⟨c, as⟩⟩ <;> try exact (hs : False).elim
  obtain ⟨rfl, rfl, S, fr, e1, hS, hfr, hq⟩ := hs
  refine ⟨by show 1 ≤ 3; omega, fun m pc L τ => pc = 4 ∧ ∃ i, m + i = S + 1 ∧ 1 ≤ i ∧ i ≤ S + 1 ∧ σ = τ ∧ L = [some (.inr (some (18, 0))), some (.inl (nI (ps fr i))), some (.inl (nI i))], ?_, ?_⟩
  · ((conv => whnf); (try dsimp only))
    exact ⟨S, rfl, 1, rfl, by omega, by omega, rfl, rfl⟩
  · rintro m pc L τ ⟨rfl, i, hm, hi1, hi, rfl, rfl⟩
    ((conv => whnf); (try dsimp only))
    rw [e1]
    refine ⟨fun h => ?_, fun h => ?_⟩ <;> ((conv => whnf); (try dsimp only))
    · rw [nI_leI (by omega) (by omega)] at h
      obtain rfl : i = S + 1 := by omega
      exact hq
    · rw [nI_leI (by omega) (by omega)] at h
      obtain ⟨j, rfl⟩ : ∃ j, i = j + 1 := ⟨i - 1, by omega⟩
      have hp := (ps_spec fr j).1
      refine ⟨lp_vin (by omega) (by omega), ?_⟩
      rw [lp_clm (by omega), (hfr _ (by omega)).1]
      ((conv => whnf); (try dsimp only))
      refine ⟨lp_vin (by omega) (by omega), ?_⟩
      rw [lp_clm (by omega), (hfr _ (by omega)).1]
      ((conv => whnf); (try dsimp only))
      have hstep : ps fr (j + 2) = if fr (j + 1) < fr (ps fr (j + 1)) then j + 1 else ps fr (j + 1) := rfl
      refine ⟨fun q => ?_, fun q => ?_⟩ <;> ((conv => whnf); (try dsimp only))
      · rw [nI_leI (hfr _ (by omega)).2 (hfr _ (by omega)).2] at q
        rw [if_neg (by omega)] at hstep
        exact ⟨S + 1 - (j + 2), by omega, rfl, j + 2, by omega, by omega, by omega, rfl, by rw [hstep, nI_succ (j + 1)]; rfl⟩
      · rw [nI_leI (hfr _ (by omega)).2 (hfr _ (by omega)).2] at q
        rw [if_pos (by omega)] at hstep
        exact ⟨S + 1 - (j + 2), by omega, rfl, j + 2, by omega, by omega, by omega, rfl, by rw [hstep, nI_succ (j + 1)]; rfl⟩
def lp_oi (o : Option Nat) : Int32 := match o with
  | none => -1
  | some b => nI b
def sp_X3_visitDueFirst : lpS := fun as σ Q => match as with
  | [.inr (some (r, k))] => r = 18 ∧ k = 0 ∧ ∃ (n S K : Nat) (s pg wt : Nat → Nat) (P : Nat → Nat → Nat), lp_Vis σ 1 n s pg wt ∧ lp_Sv σ n S s P ∧ K < 2 ^ 30 ∧ (∀ v, v < n → P 0 v ≤ s (v + 1)) ∧ (∀ v, v < n → P 0 v < s (v + 1) → P 1 v ≤ K) ∧ Q (some (lp_oi (pv (pact s P) (P 1) n))) σ
  | _ => False
set_option maxHeartbeats 4000000 in
set_option maxRecDepth 100000 in
theorem ct_X3_visitDueFirst (l : Launch) (D : va_G) (cI cD : ClassId) : lp_Ct l D cI cD yX3_visitDueFirst cX3_visitDueFirst 4 (some .int) 3 sp_X3_visitDueFirst := by
  refine lp_method flX3 pfX3 kcX3 [(99, some 4, 1, sp_X4_endOf)] false kX3_visitDueFirst [4] rfl rfl (lp_rI rfl) flX3_ok pfX3_ok kcX3_ok kX3_visitDueFirst_ok ⟨_, _, rfl, rfl⟩ (lp_cs1 (lp_mkCall lkX3_99 (ct_X4_endOf l D cI cD) (by omega)) lp_cs0) ?_
  intro as σ Q hok hs
  rcases as with _ | ⟨_ | _ | ⟨r, k⟩, _ | ⟨c, as⟩⟩ <;> try exact (hs : False).elim
  obtain ⟨rfl, rfl, n, S, K, s, pg, wt, P, hV, hSv, hK, hP, hN, hq⟩ := hs
  have hn := hV.2.1
  refine ⟨by show 1 ≤ 4; omega, fun m pc L τ => pc = 4 ∧ ∃ i x3, m + i = n ∧ i ≤ n ∧ σ = τ ∧ L = [some (.inr (some (18, 0))), some (.inl (lp_oi (pv (pact s P) (P 1) i))), some (.inl (nI i)), x3], ?_, ?_⟩
  · ((conv => whnf); (try dsimp only))
    exact ⟨n, rfl, 0, none, rfl, by omega, rfl, rfl⟩
  · rintro m pc L τ ⟨rfl, i, x3, hm, hi, rfl, rfl⟩
    have step : ∀ (o : Option Nat) (x3 : Option lpV), pv (pact s P) (P 1) (i + 1) = o → i < n → ∃ m', m' < m ∧ (fun (m pc : Nat) (L : lpL) (τ : lpM) => pc = 4 ∧ ∃ i x3, m + i = n ∧ i ≤ n ∧ σ = τ ∧ L = [some (.inr (some (18, 0))), some (.inl (lp_oi (pv (pact s P) (P 1) i))), some (.inl (nI i)), x3]) m' 4 [some (.inr (some (18, 0))), some (.inl (lp_oi o)), some (.inl (nI i + Int32.ofInt 1)), x3] σ := by
      intro o x3 ho hlt
      subst ho
      exact ⟨n - (i + 1), by omega, rfl, i + 1, x3, by omega, by omega, rfl, by rw [nI_succ i]; rfl⟩
    ((conv => whnf); (try dsimp only))
    rw [hV.1]
    refine ⟨fun h => ?_, fun h => ?_⟩ <;> ((conv => whnf); (try dsimp only))
    · rw [nI_leI (by omega) (by omega)] at h
      obtain rfl : i = n := by omega
      exact hq
    · rw [nI_leI (by omega) (by omega)] at h
      have hin : i < n := by omega
      have hb := lp_Vis_sn hV (v := i + 1) (by omega)
      have hb2 := lp_Vis_bd hV
      refine ⟨lp_vin (by omega) (by omega), ?_⟩
      rw [lp_clm (by omega), (hSv.1 i hin).1]
      ((conv => whnf); (try dsimp only))
      refine ⟨rfl, n, s, pg, wt, hV, Or.inl ⟨i, hin, rfl, ?_⟩⟩
      ((conv => whnf); (try dsimp only))
      have hPi := hP i hin
      have hpv : pv (pact s P) (P 1) (i + 1) = (match pv (pact s P) (P 1) i with
        | none => if pact s P i = true then some i else none
        | some b => if pact s P i = true ∧ P 1 i < P 1 b then some i else some b) := rfl
      refine ⟨fun q => ?_, fun q => ?_⟩ <;> ((conv => whnf); (try dsimp only))
      · rw [nI_leI (by omega) (by omega)] at q
        have hact : ¬ pact s P i = true := fun z => by have := of_decide_eq_true z; omega
        refine ⟨fun _ => ?_, fun z => absurd rfl z⟩
        ((conv => whnf); (try dsimp only))
        refine step _ _ ?_ hin
        rw [hpv]
        rcases pv (pact s P) (P 1) i with _ | b <;> simp [hact]
      · rw [nI_leI (by omega) (by omega)] at q
        have hact : pact s P i = true := decide_eq_true (by omega)
        refine ⟨fun z => absurd z (by decide), fun _ => ?_⟩
        ((conv => whnf); (try dsimp only))
        rcases hd : pv (pact s P) (P 1) i with _ | b <;> rw [hd] at hpv <;> dsimp only [lp_oi] at hpv ⊢
        · refine ⟨fun _ => ?_, fun z => absurd rfl z⟩
          ((conv => whnf); (try dsimp only))
          rw [if_pos hact] at hpv
          exact step _ _ hpv hin
        · have hbs := pv_spec hd
          have hbact : P 0 b < s (b + 1) := of_decide_eq_true hbs.2.1
          refine ⟨fun z => absurd z (lp_neg1 (by omega)), fun _ => ?_⟩
          ((conv => whnf); (try dsimp only))
          refine ⟨lp_vin (by omega) (by omega), ?_⟩
          rw [lp_clm (by omega), (hSv.1 i hin).2 (by omega)]
          ((conv => whnf); (try dsimp only))
          refine ⟨lp_vin (by omega) (by omega), ?_⟩
          rw [lp_clm (by omega), (hSv.1 b (by omega)).2 hbact]
          ((conv => whnf); (try dsimp only))
          have k1 := hN i hin (by omega)
          have k2 := hN b (by omega) hbact
          refine ⟨fun z => ?_, fun z => ?_⟩ <;> ((conv => whnf); (try dsimp only))
          · rw [nI_leI (by omega) (by omega)] at z
            rw [if_neg (by omega)] at hpv
            exact step _ _ hpv hin
          · rw [nI_leI (by omega) (by omega)] at z
            rw [if_pos ⟨hact, by omega⟩] at hpv
            exact step _ _ hpv hin
end
section
/-! ===== Press: begin, serve, run ===== -/
def sp_X3_begin : lpS := fun as σ Q => match as with
  | [.inr (some (r, k)), .inl x, .inl y] => r = 18 ∧ k = 0 ∧ ∃ (n G S : Nat) (s pg wt : Nat → Nat), lp_Vis σ 1 n s pg wt ∧ x = nI G ∧ y = nI S ∧ G ≤ 100 ∧ S ≤ 8 ∧ ∀ τ, lp_Sv τ n S s (p0 s wt G) → lp_F8 σ τ → Q none τ
  | _ => False
set_option maxHeartbeats 4000000 in
set_option maxRecDepth 100000 in
theorem ct_X3_begin (l : Launch) (D : va_G) (cI cD : ClassId) : lp_Ct l D cI cD yX3_begin cX3_begin 4 none 3 sp_X3_begin := by
  refine lp_method flX3 pfX3 kcX3 [(62, none, 2, sp_min), (72, none, 2, sp_J7_fill), (93, some 4, 1, sp_X4_startOf), (96, some 4, 1, sp_X4_waitAt)] false kX3_begin [40] rfl rfl (lp_rV rfl) flX3_ok pfX3_ok kcX3_ok kX3_begin_ok ⟨_, _, rfl, rfl⟩ (lp_cs1 (lp_mkMin lkX3_62 (by omega)) (lp_cs1 (lp_mkCall lkX3_72 (ct_J7_fill l D cI cD) (by omega)) (lp_cs1 (lp_mkCall lkX3_93 (ct_X4_startOf l D cI cD) (by omega)) (lp_cs1 (lp_mkCall lkX3_96 (ct_X4_waitAt l D cI cD) (by omega)) lp_cs0)))) ?_
  intro as σ Q hok hs
  rcases as with _ | ⟨_ | _ | ⟨r, k⟩, _ | ⟨x | _, _ | ⟨y | _, _ | ⟨c, as⟩⟩⟩⟩ <;> try exact (hs : False).elim
  obtain ⟨rfl, rfl, n, G, S, s, pg, wt, hV, rfl, rfl, hG, hS, hq⟩ := hs
  have hn := hV.2.1
  have hb := lp_Vis_bd hV
  refine ⟨by show 3 ≤ 4; omega, fun m pc L τ => pc = 40 ∧ ∃ i, m + i = n ∧ i ≤ n ∧ lp_F8 σ τ ∧ (∀ v, v < i → τ 23 0 v = nI (s v) ∧ (s v < s (v + 1) → τ 24 0 v = nI (v * G + wt (s v)))) ∧ (∀ k, k < 8 → τ 25 0 k = nI 0) ∧ τ 18 0 8 = nI S ∧ τ 18 0 9 = nI 0 ∧ τ 18 0 10 = nI 0 ∧ τ 18 0 11 = nI 0 ∧ τ 18 0 12 = nI 0 ∧ L = [some (.inr (some (18, 0))), some (.inl (nI G)), some (.inl (nI S)), some (.inl (nI i))], ?_, ?_⟩
  · ((conv => whnf); (try dsimp only))
    rw [if_neg (show ¬ (Int8.ofInt 8).toInt32 < nI S from fun z => by have : 8 < S := (nI_ltI (a := 8) (by omega) (by omega)).mp z; omega)]
    refine ⟨fun _ => 8, rfl, by show 8 < 2 ^ 31; omega, ?_⟩
    ((conv => whnf); (try dsimp only))
    refine ⟨n, rfl, 0, rfl, Nat.zero_le _, ?_, fun v hv => absurd hv (by omega), fun k hk => ?_, ?_, ?_, ?_, ?_, ?_, rfl⟩
    · exact lp_F8_w3 (lp_F8_w3 (lp_F8_w3 (lp_F8_w3 (lp_F8_fill (lp_F8_w3 (lp_F8_rf σ) (by omega)) (by omega)) (by omega)) (by omega)) (by omega)) (by omega)
    · simp [lp_rd, lp_fill, va_up, hk]; rfl
    · simp [lp_rd, lp_fill, va_up]
    · simp [lp_rd, lp_fill, va_up]; rfl
    · simp [lp_rd, lp_fill, va_up]; rfl
    · simp [lp_rd, lp_fill, va_up]; rfl
    · simp [lp_rd, lp_fill, va_up]; rfl
  · rintro m pc L τ ⟨rfl, i, hm, hi, hF, h1, h2, h3, h4, h5, h6, h7, rfl⟩
    have hVτ := lp_F8_Vis hV hF
    ((conv => whnf); (try dsimp only))
    rw [hVτ.1]
    refine ⟨fun h => ?_, fun h => ?_⟩ <;> ((conv => whnf); (try dsimp only))
    · rw [nI_leI (by omega) (by omega)] at h
      obtain rfl : i = n := by omega
      refine hq τ ⟨fun v hv => ?_, fun k hk => h2 k hk, fun v sl hv g1 g2 => ?_, h3, h4, h5, h6, h7⟩ hF
      · exact ⟨(h1 v hv).1, fun z => (h1 v hv).2 z⟩
      · have : sl < s v := g2
        omega
    · rw [nI_leI (by omega) (by omega)] at h
      have hin : i < n := by omega
      refine ⟨rfl, n, s, pg, wt, hVτ, Or.inl ⟨i, hin, rfl, ?_⟩⟩
      ((conv => whnf); (try dsimp only))
      refine ⟨lp_vin (by omega) (by omega), ?_⟩
      rw [lp_clm (by omega)]
      ((conv => whnf); (try dsimp only))
      refine ⟨lp_vin (by omega) (by omega), ?_⟩
      rw [lp_clm (by omega), lp_rd, if_pos ⟨rfl, rfl, rfl⟩]
      generalize hσ1 : lp_w3 τ 23 0 i (nI (s i)) = σ1
      have hF1 : lp_F8 σ σ1 := by rw [← hσ1]; exact lp_F8_w3 hF (by omega)
      have hV1 := lp_F8_Vis hV hF1
      have hsi := lp_Vis_sn hV (v := i) (by omega)
      have fin : ∀ w : Int32, (s i < s (i + 1) → w = nI (wt (s i))) → ∃ m', m' < m ∧ (fun (m pc : Nat) (L : lpL) (τ : lpM) => pc = 40 ∧ ∃ i, m + i = n ∧ i ≤ n ∧ lp_F8 σ τ ∧ (∀ v, v < i → τ 23 0 v = nI (s v) ∧ (s v < s (v + 1) → τ 24 0 v = nI (v * G + wt (s v)))) ∧ (∀ k, k < 8 → τ 25 0 k = nI 0) ∧ τ 18 0 8 = nI S ∧ τ 18 0 9 = nI 0 ∧ τ 18 0 10 = nI 0 ∧ τ 18 0 11 = nI 0 ∧ τ 18 0 12 = nI 0 ∧ L = [some (.inr (some (18, 0))), some (.inl (nI G)), some (.inl (nI S)), some (.inl (nI i))]) m' 40 [some (.inr (some (18, 0))), some (.inl (nI G)), some (.inl (nI S)), some (.inl (nI i + Int32.ofInt 1))] (lp_w3 σ1 24 0 i (nI i * nI G + w)) := by
        intro w hw
        refine ⟨n - (i + 1), by omega, rfl, i + 1, by omega, by omega, lp_F8_w3 hF1 (by omega), fun v hv => ?_, fun k hk => ?_, ?_, ?_, ?_, ?_, ?_, by rw [nI_succ i]; rfl⟩
        · rw [← hσ1]
          by_cases e : v = i
          · subst e
            refine ⟨by simp [lp_rd], fun z => ?_⟩
            rw [lp_rd, if_pos ⟨rfl, rfl, rfl⟩, hw z, pk_mul, nI_add]
          · refine ⟨by simp [lp_rd, e]; exact (h1 v (by omega)).1, fun z => ?_⟩
            simp [lp_rd, e]; exact (h1 v (by omega)).2 z
        · rw [← hσ1]; simp [lp_rd]; exact h2 k hk
        · rw [← hσ1]; simp [lp_rd]; exact h3
        · rw [← hσ1]; simp [lp_rd]; exact h4
        · rw [← hσ1]; simp [lp_rd]; exact h5
        · rw [← hσ1]; simp [lp_rd]; exact h6
        · rw [← hσ1]; simp [lp_rd]; exact h7
      refine ⟨rfl, n, s, pg, wt, hV1, ?_⟩
      by_cases hlt : s i < s n
      · refine Or.inl ⟨s i, hlt, rfl, ?_⟩
        ((conv => whnf); (try dsimp only))
        refine ⟨lp_vin (by omega) (by omega), ?_⟩
        rw [lp_clm (by omega)]
        ((conv => whnf); (try dsimp only))
        exact fin _ (fun _ => rfl)
      · refine Or.inr ⟨fun j hj e => by have := lp_inj (by omega) (by omega) e; omega, ?_⟩
        ((conv => whnf); (try dsimp only))
        refine ⟨lp_vin (by omega) (by omega), ?_⟩
        rw [lp_clm (by omega)]
        ((conv => whnf); (try dsimp only))
        have hs1 := lp_Vis_sn hV (v := i + 1) (by omega)
        exact fin _ (fun z => by omega)
def sp_X3_serve : lpS := fun as σ Q => match as with
  | [.inr (some (r, k)), .inl x, .inl y] => r = 18 ∧ k = 0 ∧ ∃ (n S K q v c : Nat) (s pg wt : Nat → Nat) (P : Nat → Nat → Nat), lp_Vis σ 1 n s pg wt ∧ lp_Sv σ n (S + 1) s P ∧ S < 8 ∧ lpI n s q P ∧ lpN n s K P ∧ K < 2 ^ 29 ∧ v < n ∧ P 0 v < s (v + 1) ∧ x = nI v ∧ y = nI c ∧ c ≤ 50 ∧ ∀ τ, lp_Sv τ n (S + 1) s (svA s wt c v (ps (P 2) (S + 1)) P) → lp_F8 σ τ → Q none τ
  | _ => False
set_option maxHeartbeats 4000000 in
set_option maxRecDepth 100000 in
theorem ct_X3_serve (l : Launch) (D : va_G) (cI cD : ClassId) : lp_Ct l D cI cD yX3_serve cX3_serve 5 none 2 sp_X3_serve := by
  refine lp_method0 flX3 pfX3 kcX3 [(96, some 4, 1, sp_X4_waitAt), (102, some 3, 0, sp_X3_serverFreeFirst), (105, none, 2, sp_max), (108, some 3, 2, sp_X3_noteBehind)] false kX3_serve rfl rfl (lp_rV rfl) flX3_ok pfX3_ok kcX3_ok kX3_serve_ok ⟨_, _, rfl, rfl⟩ (lp_cs1 (lp_mkCall lkX3_96 (ct_X4_waitAt l D cI cD) (by omega)) (lp_cs1 (lp_mkCall lkX3_102 (ct_X3_serverFreeFirst l D cI cD) (by omega)) (lp_cs1 (lp_mkMax lkX3_105 (by omega)) (lp_cs1 (lp_mkCall lkX3_108 (ct_X3_noteBehind l D cI cD) (by omega)) lp_cs0)))) ?_
  intro as σ Q hs
  rcases as with _ | ⟨_ | _ | ⟨r, k⟩, _ | ⟨x | _, _ | ⟨y | _, _ | ⟨c, as⟩⟩⟩⟩ <;> try exact (hs : False).elim
  obtain ⟨rfl, rfl, n, S, K, q, v, c, s, pg, wt, P, hV, hSv, hS, hI, hN, hK, hv, ha, rfl, rfl, hc, hq⟩ := hs
  refine ⟨by show 3 ≤ 5; omega, ?_⟩
  have hn := hV.2.1
  have hb := lp_Vis_bd hV
  have hb2 := lp_Vis_sn hV (v := v + 1) (by omega)
  obtain ⟨e23, e24⟩ := hSv.1 v hv
  have e24b := e24 ha
  clear e24
  have hd := hN.1 v hv ha
  have hps := (ps_spec (P 2) S).1
  have e25 := hSv.2.1 (ps (P 2) (S + 1)) (by omega)
  have hfr := hN.2.1 (ps (P 2) (S + 1))
  obtain ⟨hs3, hs4, hs5, hs6, hs7, hs8⟩ := hSv.2.2
  have b0 := hN.2.2.1 0
  have b1 := hN.2.2.1 1
  have b2 := hN.2.2.1 2
  have b3 := hN.2.2.1 3
  have hIv := hI.1
  ((conv => whnf); (try dsimp only))
  refine ⟨lp_vin (by omega) (by omega), ?_⟩
  rw [lp_clm (by omega), e23]
  ((conv => whnf); (try dsimp only))
  refine ⟨rfl, rfl, S, P 2, hs4, hS, fun k hk => ⟨hSv.2.1 k hk, by have := hN.2.1 k; omega⟩, ?_⟩
  ((conv => whnf); (try dsimp only))
  generalize hsl : P 0 v = sl at *
  generalize hdd : P 1 v = d at *
  generalize hkk : ps (P 2) (S + 1) = k at *
  generalize hff : P 2 k = f at *
  refine ⟨lp_vin (by omega) (by omega), ?_⟩
  rw [lp_clm (by omega), e24b]
  ((conv => whnf); (try dsimp only))
  refine ⟨lp_vin (by omega) (by omega), ?_⟩
  rw [lp_clm (by omega)]
  ((conv => whnf); (try dsimp only))
  refine ⟨lp_vin (by omega) (by omega), ?_⟩
  rw [lp_clm (by omega), lp_rd, if_pos ⟨rfl, rfl, rfl⟩]
  ((conv => whnf); (try dsimp only))
  refine ⟨lp_vin (by omega) (by omega), ?_⟩
  rw [lp_clm (by omega), lp_rd, if_neg (by omega), e25]
  ((conv => whnf); (try dsimp only))
  rw [show (if nI d < nI f then nI f else nI d) = nI (max d f) from by
    by_cases z : d < f
    · rw [if_pos (nI_lt z (by omega)), Nat.max_eq_right (by omega)]
    · rw [if_neg (fun y => z ((nI_ltI (by omega) (by omega)).mp y)), Nat.max_eq_left (by omega)]]
  have hmx : max d f ≤ K := Nat.max_le.mpr ⟨hd, hfr⟩
  generalize hbb : max d f = b at *
  refine ⟨lp_vin (by omega) (by omega), ?_⟩
  rw [lp_clm (by omega)]
  ((conv => whnf); (try dsimp only))
  refine ⟨lp_vin (by omega) (by omega), ?_⟩
  rw [lp_clm (by omega), lp_rd, if_pos ⟨rfl, rfl, rfl⟩]
  ((conv => whnf); (try dsimp only))
  refine ⟨lp_vin (by omega) (by omega), ?_⟩
  rw [lp_clm (by omega), nI_add]
  ((conv => whnf); (try dsimp only))
  refine ⟨lp_vin (by omega) (by omega), ?_⟩
  rw [lp_clm (by omega)]
  ((conv => whnf); (try dsimp only))
  refine ⟨lp_vin (by omega) (by omega), ?_⟩
  rw [lp_clm (by omega), lp_rd, if_neg (by omega), lp_rd, if_pos ⟨rfl, rfl, rfl⟩]
  ((conv => whnf); (try dsimp only))
  refine ⟨lp_vin (by omega) (by omega), ?_⟩
  rw [lp_clm (by omega)]
  generalize hσ5 : lp_w3 (lp_w3 (lp_w3 (lp_w3 (lp_w3 σ 19 0 sl (nI d)) 20 0 sl (nI b)) 21 0 sl (nI (b + c))) 22 0 sl (nI k)) 25 0 k (nI (b + c)) = σ5
  have r21 : σ5 21 0 sl = nI (b + c) := by rw [← hσ5]; simp [lp_rd]
  have r20 : σ5 20 0 sl = nI b := by rw [← hσ5]; simp [lp_rd]
  have r19 : σ5 19 0 sl = nI d := by rw [← hσ5]; simp [lp_rd]
  have r18 : ∀ j, σ5 18 0 j = σ 18 0 j := fun j => by rw [← hσ5]; simp [lp_rd]
  have hF5 : lp_F8 σ σ5 := by rw [← hσ5]; exact lp_F8_w3 (lp_F8_w3 (lp_F8_w3 (lp_F8_w3 (lp_F8_w3 (lp_F8_rf σ) (by omega)) (by omega)) (by omega)) (by omega)) (by omega)
  ((conv => whnf); (try dsimp only))
  refine ⟨lp_vin (by omega) (by omega), ?_⟩
  rw [lp_clm (by omega), r21]
  ((conv => whnf); (try dsimp only))
  rw [r18 11, hs7]
  rw [show (if nI (P 7 0) < nI (b + c) then nI (b + c) else nI (P 7 0)) = nI (max (P 7 0) (b + c)) from by
    by_cases z : P 7 0 < b + c
    · rw [if_pos (nI_lt z (by omega)), Nat.max_eq_right (by omega)]
    · rw [if_neg (fun y => z ((nI_ltI (by omega) (by omega)).mp y)), Nat.max_eq_left (by omega)]]
  have e12 : lp_w3 σ5 18 0 11 (nI (max (P 7 0) (b + c))) 18 0 12 = nI (P 7 1) := by rw [lp_rd, if_neg (by omega), r18 12]; exact hs8
  rw [e12, nI_add]
  refine ⟨lp_vin (by omega) (by omega), ?_⟩
  rw [lp_clm (by omega)]
  rw [show lp_w3 (lp_w3 σ5 18 0 11 (nI (max (P 7 0) (b + c)))) 18 0 12 (nI (P 7 1 + c)) 19 0 sl = nI d from by simp [lp_rd, r19]]
  ((conv => whnf); (try dsimp only))
  refine ⟨lp_vin (by omega) (by omega), ?_⟩
  rw [lp_clm (by omega)]
  rw [show lp_w3 (lp_w3 σ5 18 0 11 (nI (max (P 7 0) (b + c)))) 18 0 12 (nI (P 7 1 + c)) 20 0 sl = nI b from by simp [lp_rd, r20]]
  ((conv => whnf); (try dsimp only))
  refine ⟨rfl, rfl, d, P 7 2, P 7 3, rfl, by rw [lp_rd, if_neg (by omega), lp_rd, if_neg (by omega), r18 9]; exact hs5, by rw [lp_rd, if_neg (by omega), lp_rd, if_neg (by omega), r18 10]; exact hs6, by omega, by omega, by omega, ?_⟩
  ((conv => whnf); (try dsimp only))
  refine ⟨lp_vin (by omega) (by omega), ?_⟩
  rw [lp_clm (by omega), show nI sl + Int32.ofInt 1 = nI (sl + 1) from (nI_succ sl).symm]
  generalize hbs : (if P 7 2 < d then d else min (P 7 3) d) = bs
  generalize hσ9 : lp_w3 (lp_w3 (lp_w3 (lp_w3 (lp_w3 σ5 18 0 11 (nI (max (P 7 0) (b + c)))) 18 0 12 (nI (P 7 1 + c))) 18 0 10 (nI bs)) 18 0 9 (nI b)) 23 0 v (nI (sl + 1)) = σ9
  have hF9 : lp_F8 σ σ9 := by rw [← hσ9]; exact lp_F8_w3 (lp_F8_w3 (lp_F8_w3 (lp_F8_w3 (lp_F8_w3 hF5 (by omega)) (by omega)) (by omega)) (by omega)) (by omega)
  have hV9 := lp_F8_Vis hV hF9
  ((conv => whnf); (try dsimp only))
  refine ⟨lp_vin (by omega) (by omega), ?_⟩
  rw [lp_clm (by omega), show σ9 21 0 sl = nI (b + c) from by rw [← hσ9]; simp [lp_rd, r21]]
  ((conv => whnf); (try dsimp only))
  rw [show nI sl + Int32.ofInt 1 = nI (sl + 1) from (nI_succ sl).symm]
  have fin : ∀ w : Int32, (sl + 1 < s (v + 1) → w = nI (b + c + wt (sl + 1))) → Q none (lp_w3 σ9 24 0 v w) := by
    intro w hw
    refine hq _ ⟨fun x hx => ?_, fun x hx => ?_, fun x y hx g1 g2 => ?_, ?_, ?_, ?_, ?_, ?_⟩ (lp_F8_w3 hF9 (by omega))
    · rw [svA_0, svA_1]
      by_cases e : x = v
      · subst e
        simp only [if_true]
        refine ⟨by rw [← hσ9]; simp [lp_rd, hsl], fun z => ?_⟩
        rw [lp_rd, if_pos ⟨rfl, rfl, rfl⟩]
        rw [hsl] at z ⊢
        rw [if_pos z, hdd, hff, hbb]
        exact hw z
      · simp only [if_neg e]
        have := hSv.1 x hx
        have e1 : lp_w3 σ9 24 0 v w 23 0 x = σ 23 0 x := by rw [← hσ9, ← hσ5]; simp [lp_rd, e]
        have e2 : lp_w3 σ9 24 0 v w 24 0 x = σ 24 0 x := by rw [← hσ9, ← hσ5]; simp [lp_rd, e]
        rw [e1, e2]
        exact this
    · rw [svA_2]
      by_cases e : x = k
      · subst e
        rw [if_pos rfl, hdd, hff, hbb, ← hσ9, ← hσ5]; simp [lp_rd]
      · rw [if_neg e, ← hσ9, ← hσ5]; simp [lp_rd, e]; exact hSv.2.1 x hx
    · rw [svA_0] at g2
      rw [svA_3, svA_4, svA_5, svA_6, hsl, hdd, hff, hbb]
      by_cases e : y = sl
      · subst e
        simp only [if_true]
        rw [← hσ9]
        simp [lp_rd, r19, r20, r21]
        rw [← hσ5]; simp [lp_rd]
      · simp only [if_neg e]
        have hy : y < P 0 x := by
          by_cases ex : x = v
          · subst ex; rw [if_pos rfl] at g2; omega
          · rw [if_neg ex] at g2; exact g2
        have := hs3 x y hx g1 hy
        rw [← hσ9, ← hσ5]
        simp [lp_rd, e]
        exact this
    · rw [← hσ9]; simp [lp_rd, r18 8]; exact hs4
    · rw [svA_72, hdd, hff, hbb, ← hσ9]; simp [lp_rd]
    · rw [svA_73, hdd, hbs, ← hσ9]; simp [lp_rd]
    · rw [svA_70, hdd, hff, hbb, ← hσ9]; simp [lp_rd]
    · rw [svA_71, ← hσ9]; simp [lp_rd]
  refine ⟨rfl, n, s, pg, wt, hV9, ?_⟩
  by_cases hlt : sl + 1 < s n
  · refine Or.inl ⟨sl + 1, hlt, rfl, ?_⟩
    ((conv => whnf); (try dsimp only))
    refine ⟨lp_vin (by omega) (by omega), ?_⟩
    rw [lp_clm (by omega), nI_add]
    ((conv => whnf); (try dsimp only))
    exact fin _ (fun _ => rfl)
  · refine Or.inr ⟨fun j hj e => by have := lp_inj (by omega) (by omega) e; omega, ?_⟩
    ((conv => whnf); (try dsimp only))
    refine ⟨lp_vin (by omega) (by omega), ?_⟩
    rw [lp_clm (by omega)]
    ((conv => whnf); (try dsimp only))
    exact fin _ (fun z => by omega)
def sp_X3_run : lpS := fun as σ Q => match as with
  | [.inr (some (r, k)), .inl x, .inl y, .inr (some (r2, k2))] => r = 18 ∧ k = 0 ∧ r2 = 15 ∧ k2 = 0 ∧ ∃ (n G S : Nat) (s pg wt co : Nat → Nat), lp_Vis σ 1 n s pg wt ∧ x = nI G ∧ y = nI (S + 1) ∧ G ≤ 100 ∧ S < 8 ∧ (∀ j, j < 10 → σ 15 0 j = nI (co j) ∧ 1 ≤ co j ∧ co j ≤ 50) ∧
      ∀ τ, lp_Sv τ n (S + 1) s (svs s wt (fun sl => co (pg sl)) n (S + 1) (s n) (p0 s wt G)) → lp_F8 σ τ → Q none τ
  | _ => False
theorem lp_Vis_V0 {σ : lpM} {k n : Nat} {s pg wt : Nat → Nat} (h : lp_Vis σ k n s pg wt) : lpV0 n s wt := ⟨h.2.1, h.2.2.2.1, h.2.2.2.2.1, fun j hj => (h.2.2.2.2.2 j hj).2.2.2⟩
theorem lpI_0 {n : Nat} {s wt : Nat → Nat} (hV : lpV0 n s wt) (G : Nat) : lpI n s 0 (p0 s wt G) := ⟨fun v hv => ⟨Nat.le_refl _, (hV.2.2.1 v hv).1⟩, lsum_zero (fun v _ => Nat.sub_self _)⟩
theorem lpN_0 {n : Nat} {s wt : Nat → Nat} (hV : lpV0 n s wt) {G : Nat} (hG : G ≤ 100) : lpN n s 6060 (p0 s wt G) := by
  refine ⟨fun v hv h => ?_, fun k => Nat.zero_le _, fun j => Nat.zero_le _, fun v sl hv h1 h2 => ?_⟩
  · have h : s v < s (v + 1) := h
    have h2 : wt (s v) ≤ 60 := hV.2.2.2 _ (by have := lpV0_le hV (show v + 1 ≤ n by omega) (Nat.le_refl n); omega)
    show v * G + wt (s v) ≤ 6060
    have : v * G ≤ 60 * 100 := Nat.mul_le_mul (by have := hV.1; omega) hG
    omega
  · have : sl < s v := h2
    omega
set_option maxHeartbeats 4000000 in
set_option maxRecDepth 100000 in
theorem ct_X3_run (l : Launch) (D : va_G) (cI cD : ClassId) : lp_Ct l D cI cD yX3_run cX3_run 7 none 4 sp_X3_run := by
  refine lp_method flX3 pfX3 kcX3 [(40, some 3, 2, sp_X3_begin), (44, some 4, 0, sp_X4_asks), (48, some 3, 0, sp_X3_visitDueFirst), (51, some 4, 1, sp_X4_pageAt), (55, none, 3, sp_X6_isWithin), (59, some 3, 2, sp_X3_serve)] false kX3_run [9] rfl rfl (lp_rV rfl) flX3_ok pfX3_ok kcX3_ok kX3_run_ok ⟨_, _, rfl, rfl⟩ (lp_cs1 (lp_mkCall lkX3_40 (ct_X3_begin l D cI cD) (by omega)) (lp_cs1 (lp_mkCall lkX3_44 (ct_X4_asks l D cI cD) (by omega)) (lp_cs1 (lp_mkCall lkX3_48 (ct_X3_visitDueFirst l D cI cD) (by omega)) (lp_cs1 (lp_mkCall lkX3_51 (ct_X4_pageAt l D cI cD) (by omega)) (lp_cs1 (lp_mkCall lkX3_55 (ct_X6_isWithin l D cI cD) (by omega)) (lp_cs1 (lp_mkCall lkX3_59 (ct_X3_serve l D cI cD) (by omega)) lp_cs0)))))) ?_
  intro as σ Q hok hs
  rcases as with _ | ⟨_ | _ | ⟨r, k⟩, _ | ⟨x | _, _ | ⟨y | _, _ | ⟨_ | _ | ⟨r2, k2⟩, _ | ⟨c, as⟩⟩⟩⟩⟩ <;> try exact (hs : False).elim
  obtain ⟨rfl, rfl, rfl, rfl, n, G, S, s, pg, wt, co, hV, rfl, rfl, hG, hS, hco, hq⟩ := hs
  have hn := hV.2.1
  have hb := lp_Vis_bd hV
  have hV0 := lp_Vis_V0 hV
  generalize hFF : svs s wt (fun sl => co (pg sl)) n (S + 1) (s n) (p0 s wt G) = FF at hq
  refine ⟨by show 4 ≤ 7; omega, fun m pc L τ => pc = 9 ∧ ∃ (i : Nat) (x5 x6 : Option lpV) (P : Nat → Nat → Nat), m + i = s n ∧ i ≤ s n ∧ svs s wt (fun sl => co (pg sl)) n (S + 1) (s n - i) P = FF ∧ lpI n s i P ∧ lpN n s (6060 + 110 * i) P ∧ lp_Sv τ n (S + 1) s P ∧ lp_F8 σ τ ∧ L = [some (.inr (some (18, 0))), some (.inl (nI G)), some (.inl (nI (S + 1))), some (.inr (some (15, 0))), some (.inl (nI i)), x5, x6], ?_, ?_⟩
  · ((conv => whnf); (try dsimp only))
    refine ⟨rfl, rfl, n, G, S + 1, s, pg, wt, hV, rfl, rfl, hG, by omega, fun τ h1 h2 => ?_⟩
    ((conv => whnf); (try dsimp only))
    exact ⟨s n, rfl, 0, none, none, p0 s wt G, rfl, Nat.zero_le _, hFF, lpI_0 hV0 G, lpN_0 hV0 hG, h1, h2, rfl⟩
  · rintro m pc L τ ⟨rfl, i, x5, x6, P, hm, hi, hsv, hI, hN, hSv, hF, rfl⟩
    have hVτ := lp_F8_Vis hV hF
    ((conv => whnf); (try dsimp only))
    refine ⟨rfl, n, s, pg, wt, hVτ, ?_⟩
    ((conv => whnf); (try dsimp only))
    refine ⟨fun h => ?_, fun h => ?_⟩ <;> ((conv => whnf); (try dsimp only))
    · rw [nI_leI (by omega) (by omega)] at h
      obtain rfl : i = s n := by omega
      rw [Nat.sub_self] at hsv
      have hsv : P = FF := hsv
      subst hsv
      exact hq τ hSv hF
    · rw [nI_leI (by omega) (by omega)] at h
      obtain ⟨v, h1, h2, h3⟩ := lpI_pv hV0 hI (show i < s n by omega)
      refine ⟨rfl, rfl, n, S + 1, 6060 + 110 * i, s, pg, wt, P, hVτ, hSv, by omega, fun v hv => (hI.1 v hv).2, hN.1, ?_⟩
      rw [h1, show lp_oi (some v) = nI v from rfl]
      ((conv => whnf); (try dsimp only))
      refine ⟨fun _ => ?_, fun q => absurd q (lp_neg1 (by omega))⟩
      ((conv => whnf); (try dsimp only))
      refine ⟨lp_vin (by omega) (by omega), ?_⟩
      rw [lp_clm (by omega), (hSv.1 v h2).1]
      ((conv => whnf); (try dsimp only))
      have hsl := lp_Vis_sn hV (v := v + 1) (by omega)
      refine ⟨rfl, n, s, pg, wt, hVτ, Or.inl ⟨P 0 v, by omega, rfl, ?_⟩⟩
      have hpg := (hV.2.2.2.2.2 (P 0 v) (by omega)).2.1
      ((conv => whnf); (try dsimp only))
      refine lp_below (n := 10) (by decide) (Or.inl ⟨pg (P 0 v), hpg, rfl, ?_⟩)
      ((conv => whnf); (try dsimp only))
      refine ⟨fun q => absurd q (by decide), fun _ => ?_⟩
      ((conv => whnf); (try dsimp only))
      refine ⟨lp_vin hpg (by omega), ?_⟩
      rw [lp_clm (by omega), hF 15 (by omega), (hco _ hpg).1]
      ((conv => whnf); (try dsimp only))
      refine ⟨rfl, rfl, n, S, 6060 + 110 * i, i, v, co (pg (P 0 v)), s, pg, wt, P, hVτ, hSv, hS, hI, hN, by omega, h2, h3, rfl, rfl, (hco _ hpg).2.2, fun τ' g1 g2 => ?_⟩
      ((conv => whnf); (try dsimp only))
      have hps := (ps_spec (P 2) S).1
      refine ⟨s n - (i + 1), by omega, rfl, i + 1, some (.inl (nI v)), some (.inl (nI (pg (P 0 v)))), _, by omega, by omega, ?_, lpI_step hI h2 h3, lpN_step hV0 hI hN h2 h3 (hco _ hpg).2 (by omega), g1, fun r hr => by rw [g2 r hr, hF r hr], by rw [nI_succ i]; rfl⟩
      rw [← hsv, show s n - i = s n - (i + 1) + 1 by omega]
      show _ = svs s wt (fun sl => co (pg sl)) n (S + 1) (s n - (i + 1)) (svS s wt (fun sl => co (pg sl)) n (S + 1) P)
      unfold svS
      rw [h1]
end
section
/-! ===== Press: what is read of it ===== -/
def lp_Done (σ : lpM) (m : Nat) (P : Nat → Nat → Nat) : Prop := ∀ sl, sl < m → (σ 19 0 sl = nI (P 3 sl) ∧ σ 20 0 sl = nI (P 4 sl) ∧ σ 21 0 sl = nI (P 5 sl) ∧ σ 22 0 sl = nI (P 6 sl)) ∧ P 3 sl ≤ P 4 sl ∧ P 4 sl < P 5 sl ∧ P 5 sl < 2 ^ 18 ∧ P 6 sl < 8
theorem lp_ti {x : Int32} {c : Nat} (hc : c < 2 ^ 31) : x.toInt = (c : Int) ↔ x = nI c := by
  rw [← nI_toInt hc]
  exact Int32.toInt_inj
/-- a row of six answers by a number -/
def lp_tv (a0 a1 a2 a3 a4 a5 : Nat) (y : Int32) : Int32 := if y = nI 0 then nI a0 else if y = nI 1 then nI a1 else if y = nI 2 then nI a2 else if y = nI 3 then nI a3 else if y = nI 4 then nI a4 else if y = nI 5 then nI a5 else -1
theorem lp_tv_out {a0 a1 a2 a3 a4 a5 : Nat} {y : Int32} (h : y.toInt < 0 ∨ 5 < y.toInt) : lp_tv a0 a1 a2 a3 a4 a5 y = -1 := by
  have k : ∀ c : Nat, c < 6 → y ≠ nI c := fun c hc e => by
    have := (lp_ti (x := y) (c := c) (by omega)).mpr e
    omega
  simp [lp_tv, k 0 (by omega), k 1 (by omega), k 2 (by omega), k 3 (by omega), k 4 (by omega), k 5 (by omega)]
def sp_X3_tell : lpS := fun as σ Q => match as with
  | [.inr (some (r, k)), .inl x, .inl y] => r = 18 ∧ k = 0 ∧ ∃ (n : Nat) (s pg wt : Nat → Nat) (P : Nat → Nat → Nat), lp_Vis σ 1 n s pg wt ∧ lp_Done σ (s n) P ∧ ((∃ j, j < s n ∧ x = nI j ∧ Q (some (lp_tv (pg j) (wt j) (P 3 j) (P 4 j) (P 5 j) (P 6 j) y)) σ) ∨ ((∀ j, j < s n → x ≠ nI j) ∧ Q (some (-1)) σ))
  | _ => False
set_option maxHeartbeats 4000000 in
set_option maxRecDepth 100000 in
theorem ct_X3_tell (l : Launch) (D : va_G) (cI cD : ClassId) : lp_Ct l D cI cD yX3_tell cX3_tell 3 (some .int) 2 sp_X3_tell := by
  refine lp_method0 flX3 pfX3 kcX3 [(44, some 4, 0, sp_X4_asks), (51, some 4, 1, sp_X4_pageAt), (55, none, 3, sp_X6_isWithin), (96, some 4, 1, sp_X4_waitAt)] false kX3_tell rfl rfl (lp_rI rfl) flX3_ok pfX3_ok kcX3_ok kX3_tell_ok ⟨_, _, rfl, rfl⟩ (lp_cs1 (lp_mkCall lkX3_44 (ct_X4_asks l D cI cD) (by omega)) (lp_cs1 (lp_mkCall lkX3_51 (ct_X4_pageAt l D cI cD) (by omega)) (lp_cs1 (lp_mkCall lkX3_55 (ct_X6_isWithin l D cI cD) (by omega)) (lp_cs1 (lp_mkCall lkX3_96 (ct_X4_waitAt l D cI cD) (by omega)) lp_cs0)))) ?_
  intro as σ Q hs
  rcases as with _ | ⟨_ | _ | ⟨r, k⟩, _ | ⟨x | _, _ | ⟨y | _, _ | ⟨c, as⟩⟩⟩⟩ <;> try exact (hs : False).elim
  obtain ⟨rfl, rfl, n, s, pg, wt, P, hV, hD, hq⟩ := hs
  refine ⟨Nat.le_refl 3, ?_⟩
  have hb := lp_Vis_bd hV
  ((conv => whnf); (try dsimp only))
  refine ⟨rfl, n, s, pg, wt, hV, ?_⟩
  ((conv => whnf); (try dsimp only))
  refine lp_below (by omega) ?_
  rcases hq with ⟨j, h1, rfl, hq⟩ | ⟨h1, hq⟩
  rotate_left
  · refine Or.inr ⟨h1, ?_⟩
    ((conv => whnf); (try dsimp only))
    refine ⟨fun z => absurd rfl z, fun _ => ?_⟩
    ((conv => whnf); (try dsimp only))
    exact hq
  refine Or.inl ⟨j, h1, rfl, ?_⟩
  ((conv => whnf); (try dsimp only))
  refine ⟨fun _ => ?_, fun z => absurd z (by decide)⟩
  obtain ⟨⟨d1, d2, d3, d4⟩, -⟩ := hD j h1
  ((conv => whnf); (try dsimp only))
  refine ⟨fun z => ?_, fun z => ?_, fun z => ?_, fun z => ?_, fun z => ?_, fun z => ?_, fun z => ?_, trivial⟩ <;> ((conv => whnf); (try dsimp only))
  · rw [lp_tv_out z] at hq
    exact hq
  · have z : y = nI 0 := (lp_ti (c := 0) (by omega)).mp z
    subst z
    exact ⟨rfl, n, s, pg, wt, hV, Or.inl ⟨j, h1, rfl, hq⟩⟩
  · have z : y = nI 1 := (lp_ti (c := 1) (by omega)).mp z
    subst z
    exact ⟨rfl, n, s, pg, wt, hV, Or.inl ⟨j, h1, rfl, hq⟩⟩
  · have z : y = nI 2 := (lp_ti (c := 2) (by omega)).mp z
    subst z
    refine ⟨lp_vin (by omega) (by omega), ?_⟩
    rw [lp_clm (by omega), d1]
    exact hq
  · have z : y = nI 3 := (lp_ti (c := 3) (by omega)).mp z
    subst z
    refine ⟨lp_vin (by omega) (by omega), ?_⟩
    rw [lp_clm (by omega), d2]
    exact hq
  · have z : y = nI 4 := (lp_ti (c := 4) (by omega)).mp z
    subst z
    refine ⟨lp_vin (by omega) (by omega), ?_⟩
    rw [lp_clm (by omega), d3]
    exact hq
  · have z : y = nI 5 := (lp_ti (c := 5) (by omega)).mp z
    subst z
    refine ⟨lp_vin (by omega) (by omega), ?_⟩
    rw [lp_clm (by omega), d4]
    exact hq
def lp_lt (P : Nat → Nat → Nat) (a T : Nat) : Nat → Nat := fun j => if a ≤ j ∧ T < P 5 j - P 3 j then 1 else 0
theorem lp_lt_z {P : Nat → Nat → Nat} {a T b : Nat} (h : b ≤ a) : lsum (lp_lt P a T) b = 0 := lsum_zero (fun i hi => if_neg (by omega))
theorem lp_lt_le {P : Nat → Nat → Nat} {a T : Nat} : ∀ n, a ≤ n → lsum (lp_lt P a T) n ≤ n - a
  | 0, h => by simp [lsum]
  | n + 1, h => by
    show lsum (lp_lt P a T) n + lp_lt P a T n ≤ n + 1 - a
    by_cases e : a = n + 1
    · subst e
      rw [lp_lt_z (by omega), show lp_lt P (n + 1) T n = 0 from if_neg (by omega)]
      omega
    · have := lp_lt_le (P := P) (a := a) (T := T) n (by omega)
      have : lp_lt P a T n ≤ 1 := by unfold lp_lt; split <;> omega
      omega
def sp_X3_longerThan : lpS := fun as σ Q => match as with
  | [.inr (some (r, k)), .inl x, .inl y] => r = 18 ∧ k = 0 ∧ ∃ (n T f : Nat) (s pg wt : Nat → Nat) (P : Nat → Nat → Nat), lp_Vis σ 1 n s pg wt ∧ lp_Done σ (s n) P ∧ x = nI T ∧ T < 2 ^ 31 ∧ y = nI f ∧ f < n ∧ Q (some (nI (lsum (lp_lt P (s f) T) (s n)))) σ
  | _ => False
set_option maxHeartbeats 4000000 in
set_option maxRecDepth 100000 in
theorem ct_X3_longerThan (l : Launch) (D : va_G) (cI cD : ClassId) : lp_Ct l D cI cD yX3_longerThan cX3_longerThan 5 (some .int) 3 sp_X3_longerThan := by
  refine lp_method flX3 pfX3 kcX3 [(44, some 4, 0, sp_X4_asks), (93, some 4, 1, sp_X4_startOf)] false kX3_longerThan [12] rfl rfl (lp_rI rfl) flX3_ok pfX3_ok kcX3_ok kX3_longerThan_ok ⟨_, _, rfl, rfl⟩ (lp_cs1 (lp_mkCall lkX3_44 (ct_X4_asks l D cI cD) (by omega)) (lp_cs1 (lp_mkCall lkX3_93 (ct_X4_startOf l D cI cD) (by omega)) lp_cs0)) ?_
  intro as σ Q hok hs
  rcases as with _ | ⟨_ | _ | ⟨r, k⟩, _ | ⟨x | _, _ | ⟨y | _, _ | ⟨c, as⟩⟩⟩⟩ <;> try exact (hs : False).elim
  obtain ⟨rfl, rfl, n, T, f, s, pg, wt, P, hV, hD, rfl, hT, rfl, hf, hq⟩ := hs
  have hb := lp_Vis_bd hV
  have hsf := lp_Vis_sn hV (v := f) (by omega)
  refine ⟨by show 3 ≤ 5; omega, fun m pc L τ => pc = 12 ∧ ∃ i, m + i = s n ∧ s f ≤ i ∧ i ≤ s n ∧ σ = τ ∧ L = [some (.inr (some (18, 0))), some (.inl (nI T)), some (.inl (nI f)), some (.inl (nI (lsum (lp_lt P (s f) T) i))), some (.inl (nI i))], ?_, ?_⟩
  · ((conv => whnf); (try dsimp only))
    refine ⟨rfl, n, s, pg, wt, hV, Or.inl ⟨f, hf, rfl, ?_⟩⟩
    ((conv => whnf); (try dsimp only))
    exact ⟨s n - s f, rfl, s f, by omega, Nat.le_refl _, hsf, rfl, by rw [lp_lt_z (Nat.le_refl _)]; rfl⟩
  · rintro m pc L τ ⟨rfl, i, hm, hi1, hi, rfl, rfl⟩
    ((conv => whnf); (try dsimp only))
    refine ⟨rfl, n, s, pg, wt, hV, ?_⟩
    ((conv => whnf); (try dsimp only))
    refine ⟨fun h => ?_, fun h => ?_⟩ <;> ((conv => whnf); (try dsimp only))
    · rw [nI_leI (by omega) (by omega)] at h
      obtain rfl : i = s n := by omega
      exact hq
    · rw [nI_leI (by omega) (by omega)] at h
      obtain ⟨⟨d1, d2, d3, d4⟩, e1, e2, e3, e4⟩ := hD i (by omega)
      refine ⟨lp_vin (by omega) (by omega), ?_⟩
      rw [lp_clm (by omega), d3]
      ((conv => whnf); (try dsimp only))
      refine ⟨lp_vin (by omega) (by omega), ?_⟩
      rw [lp_clm (by omega), d1]
      ((conv => whnf); (try dsimp only))
      rw [pk_sub (show P 3 i ≤ P 5 i by omega)]
      have hs1 : lsum (lp_lt P (s f) T) (i + 1) = lsum (lp_lt P (s f) T) i + (if s f ≤ i ∧ T < P 5 i - P 3 i then 1 else 0) := rfl
      refine ⟨fun q => ?_, fun q => ?_⟩ <;> ((conv => whnf); (try dsimp only))
      · rw [nI_leI (by omega) (by omega)] at q
        rw [if_neg (by omega)] at hs1
        exact ⟨s n - (i + 1), by omega, rfl, i + 1, by omega, by omega, by omega, rfl, by rw [hs1, nI_succ i]; rfl⟩
      · rw [nI_leI (by omega) (by omega)] at q
        rw [if_pos (by omega)] at hs1
        exact ⟨s n - (i + 1), by omega, rfl, i + 1, by omega, by omega, by omega, rfl, by rw [hs1, nI_succ i, nI_succ (lsum (lp_lt P (s f) T) i)]; rfl⟩
def lp_wa (P : Nat → Nat → Nat) (T : Nat) : Nat → Nat := fun j => if P 3 j ≤ T ∧ T < P 4 j then 1 else 0
def sp_X3_notBegunAt : lpS := fun as σ Q => match as with
  | [.inr (some (r, k)), .inl x] => r = 18 ∧ k = 0 ∧ ∃ (n T : Nat) (s pg wt : Nat → Nat) (P : Nat → Nat → Nat), lp_Vis σ 1 n s pg wt ∧ lp_Done σ (s n) P ∧ x = nI T ∧ T < 2 ^ 31 ∧ Q (some (nI (lsum (lp_wa P T) (s n)))) σ
  | _ => False
set_option maxHeartbeats 4000000 in
set_option maxRecDepth 100000 in
theorem ct_X3_notBegunAt (l : Launch) (D : va_G) (cI cD : ClassId) : lp_Ct l D cI cD yX3_notBegunAt cX3_notBegunAt 4 (some .int) 1 sp_X3_notBegunAt := by
  refine lp_method flX3 pfX3 kcX3 [(44, some 4, 0, sp_X4_asks)] false kX3_notBegunAt [4] rfl rfl (lp_rI rfl) flX3_ok pfX3_ok kcX3_ok kX3_notBegunAt_ok ⟨_, _, rfl, rfl⟩ (lp_cs1 (lp_mkCall lkX3_44 (ct_X4_asks l D cI cD) (by omega)) lp_cs0) ?_
  intro as σ Q hok hs
  rcases as with _ | ⟨_ | _ | ⟨r, k⟩, _ | ⟨x | _, _ | ⟨c, as⟩⟩⟩ <;> try exact (hs : False).elim
  obtain ⟨rfl, rfl, n, T, s, pg, wt, P, hV, hD, rfl, hT, hq⟩ := hs
  have hb := lp_Vis_bd hV
  refine ⟨by show 2 ≤ 4; omega, fun m pc L τ => pc = 4 ∧ ∃ i, m + i = s n ∧ i ≤ s n ∧ σ = τ ∧ L = [some (.inr (some (18, 0))), some (.inl (nI T)), some (.inl (nI (lsum (lp_wa P T) i))), some (.inl (nI i))], ?_, ?_⟩
  · ((conv => whnf); (try dsimp only))
    exact ⟨s n, rfl, 0, rfl, Nat.zero_le _, rfl, rfl⟩
  · rintro m pc L τ ⟨rfl, i, hm, hi, rfl, rfl⟩
    ((conv => whnf); (try dsimp only))
    refine ⟨rfl, n, s, pg, wt, hV, ?_⟩
    ((conv => whnf); (try dsimp only))
    refine ⟨fun h => ?_, fun h => ?_⟩ <;> ((conv => whnf); (try dsimp only))
    · rw [nI_leI (by omega) (by omega)] at h
      obtain rfl : i = s n := by omega
      exact hq
    · rw [nI_leI (by omega) (by omega)] at h
      obtain ⟨⟨d1, d2, d3, d4⟩, e1, e2, e3, e4⟩ := hD i (by omega)
      have hs1 : lsum (lp_wa P T) (i + 1) = lsum (lp_wa P T) i + (if P 3 i ≤ T ∧ T < P 4 i then 1 else 0) := rfl
      refine ⟨lp_vin (by omega) (by omega), ?_⟩
      rw [lp_clm (by omega), d1]
      ((conv => whnf); (try dsimp only))
      refine ⟨fun q => ?_, fun q => ?_⟩ <;> ((conv => whnf); (try dsimp only))
      · rw [nI_ltI (by omega) (by omega)] at q
        rw [if_neg (by omega)] at hs1
        exact ⟨s n - (i + 1), by omega, rfl, i + 1, by omega, by omega, rfl, by rw [hs1, nI_succ i]; rfl⟩
      · rw [nI_ltI (by omega) (by omega)] at q
        refine ⟨lp_vin (by omega) (by omega), ?_⟩
        rw [lp_clm (by omega), d2]
        ((conv => whnf); (try dsimp only))
        refine ⟨fun q2 => ?_, fun q2 => ?_⟩ <;> ((conv => whnf); (try dsimp only))
        · rw [nI_leI (by omega) (by omega)] at q2
          rw [if_neg (by omega)] at hs1
          exact ⟨s n - (i + 1), by omega, rfl, i + 1, by omega, by omega, rfl, by rw [hs1, nI_succ i]; rfl⟩
        · rw [nI_leI (by omega) (by omega)] at q2
          rw [if_pos (by omega)] at hs1
          exact ⟨s n - (i + 1), by omega, rfl, i + 1, by omega, by omega, rfl, by rw [hs1, nI_succ i, nI_succ (lsum (lp_wa P T) i)]; rfl⟩
/-- so many of a thousand are done within t ticks -/
def lp_prt (P : Nat → Nat → Nat) (a b th t : Nat) : Prop := th * (b - a) ≤ (b - a - lsum (lp_lt P a t) b) * 1000
def sp_X3_leastTicks : lpS := fun as σ Q => match as with
  | [.inr (some (r, k)), .inl x, .inl y] => r = 18 ∧ k = 0 ∧ ∃ (n th f : Nat) (s pg wt : Nat → Nat) (P : Nat → Nat → Nat), lp_Vis σ 1 n s pg wt ∧ lp_Done σ (s n) P ∧ x = nI th ∧ 1 ≤ th ∧ th ≤ 1000 ∧ y = nI f ∧ f < n ∧ ((s f = s n ∧ Q (some (-1)) σ) ∨ (s f < s n ∧ ∀ t, ¬ lp_prt P (s f) (s n) th t → lp_prt P (s f) (s n) th (t + 1) → Q (some (nI (t + 1))) σ))
  | _ => False
theorem lp_lt_all {P : Nat → Nat → Nat} {a T b : Nat} (h : ∀ j, j < b → P 5 j - P 3 j ≤ T) : lsum (lp_lt P a T) b = 0 := lsum_zero (fun i hi => if_neg (by have := h i hi; omega))
theorem lp_lt_none {P : Nat → Nat → Nat} {a : Nat} : ∀ {b : Nat}, a ≤ b → (∀ j, j < b → P 3 j < P 5 j) → lsum (lp_lt P a 0) b = b - a
  | 0, h, _ => by simp [lsum]
  | b + 1, h, hp => by
    show lsum (lp_lt P a 0) b + (if a ≤ b ∧ 0 < P 5 b - P 3 b then 1 else 0) = b + 1 - a
    have := hp b (by omega)
    by_cases e : a = b + 1
    · subst e
      rw [lp_lt_z (by omega), if_neg (by omega)]
      omega
    · rw [lp_lt_none (b := b) (by omega) (fun j hj => hp j (by omega)), if_pos (by omega)]
      omega
theorem lp_half (k : Nat) : 2 ^ (k + 1) / 2 = 2 ^ k := by rw [Nat.pow_succ]; omega
set_option maxHeartbeats 4000000 in
set_option maxRecDepth 100000 in
theorem ct_X3_leastTicks (l : Launch) (D : va_G) (cI cD : ClassId) : lp_Ct l D cI cD yX3_leastTicks cX3_leastTicks 7 (some .int) 4 sp_X3_leastTicks := by
  refine lp_method flX3 pfX3 kcX3 [(44, some 4, 0, sp_X4_asks), (93, some 4, 1, sp_X4_startOf), (112, some 3, 2, sp_X3_longerThan)] false kX3_leastTicks [30] rfl rfl (lp_rI rfl) flX3_ok pfX3_ok kcX3_ok kX3_leastTicks_ok ⟨_, _, rfl, rfl⟩ (lp_cs1 (lp_mkCall lkX3_44 (ct_X4_asks l D cI cD) (by omega)) (lp_cs1 (lp_mkCall lkX3_93 (ct_X4_startOf l D cI cD) (by omega)) (lp_cs1 (lp_mkCall lkX3_112 (ct_X3_longerThan l D cI cD) (by omega)) lp_cs0))) ?_
  intro as σ Q hok hs
  rcases as with _ | ⟨_ | _ | ⟨r, k⟩, _ | ⟨x | _, _ | ⟨y | _, _ | ⟨c, as⟩⟩⟩⟩ <;> try exact (hs : False).elim
  obtain ⟨rfl, rfl, n, th, f, s, pg, wt, P, hV, hD, rfl, ht1, ht2, rfl, hf, hq⟩ := hs
  have hb := lp_Vis_bd hV
  have hsf := lp_Vis_sn hV (v := f) (by omega)
  refine ⟨by show 3 ≤ 7; omega, fun m pc L τ => pc = 30 ∧ ∃ (eX tf : Nat) (x6 : Option lpV), eX = m ∧ eX ≤ 20 ∧ s f < s n ∧ tf + 2 ^ eX ≤ 2 ^ 20 ∧ ¬ lp_prt P (s f) (s n) th tf ∧ lp_prt P (s f) (s n) th (tf + 2 ^ eX) ∧ σ = τ ∧ L = [some (.inr (some (18, 0))), some (.inl (nI th)), some (.inl (nI f)), some (.inl (nI (s n - s f))), some (.inl (nI tf)), some (.inl (nI (2 ^ eX / 2))), x6], ?_, ?_⟩
  · ((conv => whnf); (try dsimp only))
    refine ⟨rfl, n, s, pg, wt, hV, ?_⟩
    ((conv => whnf); (try dsimp only))
    refine ⟨rfl, n, s, pg, wt, hV, Or.inl ⟨f, hf, rfl, ?_⟩⟩
    ((conv => whnf); (try dsimp only))
    rw [pk_sub hsf]
    refine ⟨fun q => ?_, fun q => ?_⟩ <;> ((conv => whnf); (try dsimp only))
    · have hlt : s f < s n := by
        rcases Nat.lt_or_ge (s f) (s n) with z | z
        · exact z
        · rw [show s n - s f = 0 by omega] at q
          exact absurd q (by decide)
      refine ⟨20, rfl, 20, 0, none, rfl, Nat.le_refl _, hlt, by decide, ?_, ?_, rfl, rfl⟩
      · unfold lp_prt
        rw [lp_lt_none hsf (fun j hj => by have := (hD j hj).2; omega)]
        have : 1 ≤ th * (s n - s f) := Nat.mul_le_mul ht1 (show 1 ≤ s n - s f by omega)
        omega
      · unfold lp_prt
        rw [lp_lt_all (fun j hj => by have := (hD j hj).2; omega)]
        have : th * (s n - s f) ≤ 1000 * (s n - s f) := Nat.mul_le_mul_right _ ht2
        omega
    · have hz : s f = s n := by
        rcases Nat.lt_or_ge (s f) (s n) with z | z
        · exact absurd (Int32.not_le.mp (nI_nle (n := s n - s f) (by omega) (by omega))) q
        · omega
      rcases hq with ⟨z, hq⟩ | ⟨z, hq⟩
      · exact hq
      · omega
  · rintro m pc L τ ⟨rfl, eX, tf, x6, rfl, he, hlt, htf, hn1, hp1, rfl, rfl⟩
    have hp2 : 2 ^ eX ≤ 2 ^ 20 := Nat.pow_le_pow_right (by omega) he
    ((conv => whnf); (try dsimp only))
    rcases eX with _ | eX
    · refine ⟨fun _ => ?_, fun q => absurd (by decide) q⟩
      ((conv => whnf); (try dsimp only))
      rcases hq with ⟨z, hq⟩ | ⟨z, hq⟩
      · omega
      · have := hq tf hn1 hp1
        rw [nI_succ tf] at this
        exact this
    · rw [lp_half]
      have h2e : 2 ^ (eX + 1) = 2 * 2 ^ eX := by rw [Nat.pow_succ]; omega
      have h1e : 1 ≤ 2 ^ eX := Nat.one_le_two_pow
      refine ⟨fun q => absurd q (nI_nle (by omega) (by omega)), fun _ => ?_⟩
      ((conv => whnf); (try dsimp only))
      rw [nI_add]
      refine ⟨rfl, rfl, n, tf + 2 ^ eX, f, s, pg, wt, P, hV, hD, rfl, by omega, rfl, hf, ?_⟩
      ((conv => whnf); (try dsimp only))
      have hle := lp_lt_le (P := P) (a := s f) (T := tf + 2 ^ eX) (s n) hsf
      have m1 : th * (s n - s f) ≤ 1000 * 1200 := Nat.mul_le_mul ht2 (by omega)
      rw [pk_sub hle, show nI (s n - s f - lsum (lp_lt P (s f) (tf + 2 ^ eX)) (s n)) * (Int16.ofInt 1000).toInt32 = nI ((s n - s f - lsum (lp_lt P (s f) (tf + 2 ^ eX)) (s n)) * 1000) from pk_mul _ 1000, pk_mul]
      refine ⟨fun q => ?_, fun q => ?_⟩ <;> ((conv => whnf); (try dsimp only))
      · rw [nI_leI (by omega) (by omega)] at q
        refine ⟨by decide, ?_⟩
        ((conv => whnf); (try dsimp only))
        exact ⟨eX, by omega, rfl, eX, tf, _, rfl, by omega, hlt, by omega, hn1, q, rfl, by rw [← pk_div (a := 2 ^ eX) (d := 2) (by omega) (by omega) (by omega)]; rfl⟩
      · rw [nI_leI (by omega) (by omega)] at q
        refine ⟨by decide, ?_⟩
        ((conv => whnf); (try dsimp only))
        exact ⟨eX, by omega, rfl, eX, tf + 2 ^ eX, _, rfl, by omega, hlt, by omega, q, by rw [show tf + 2 ^ eX + 2 ^ eX = tf + 2 ^ (eX + 1) by omega]; exact hp1, rfl, by rw [← pk_div (a := 2 ^ eX) (d := 2) (by omega) (by omega) (by omega), ← nI_add]; rfl⟩
end
section
/-! ===== Contexts: the cell (10, 0), comings (11, 0), unlike (12, 0), nextOfOne (13, 0), nextOfOther (14, 0) ===== -/
def lp_Cx (σ : lpM) (m : Nat) (C : Nat → Nat) : Prop := σ 10 0 4 = nI m ∧ m ≤ 1200 ∧ ∀ i, i < m → σ 11 0 i = nI (C i) ∧ C i < 110000
def lp_FX (σ τ : lpM) : Prop := ∀ r, ¬ (10 ≤ r ∧ r ≤ 14) → τ r = σ r
theorem lp_FX_Vis {σ τ : lpM} {k n : Nat} {s pg wt : Nat → Nat} (h : lp_Vis σ k n s pg wt) (hF : lp_FX σ τ) : lp_Vis τ k n s pg wt :=
  lp_Vis_congr h (by rw [hF 2 (by omega)]) (by rw [hF 3 (by omega)]) (by rw [hF 4 (by omega)]) (by rw [hF 5 (by omega)])
theorem lp_FX_w3 {σ τ : lpM} {r k j : Nat} {x : Int32} (h : lp_FX σ τ) (hr : 10 ≤ r ∧ r ≤ 14) : lp_FX σ (lp_w3 τ r k j x) := fun r' h' => by
  rw [← h r' h']
  funext k'
  exact lp_w3_ne (by omega)
theorem lp_FX_fill {σ τ : lpM} {r k n : Nat} {x : Int32} (h : lp_FX σ τ) (hr : 10 ≤ r ∧ r ≤ 14) : lp_FX σ (lp_fill τ r k n x) := fun r' h' => by
  rw [← h r' h']
  simp [lp_fill, va_up, show ¬ r' = r by omega]
theorem lp_FX_rf (σ : lpM) : lp_FX σ σ := fun _ _ => rfl
theorem lp_FX_tr {σ τ υ : lpM} (h1 : lp_FX σ τ) (h2 : lp_FX τ υ) : lp_FX σ υ := fun r hr => by rw [h2 r hr, h1 r hr]
def sp_X0_isFirstOfContext : lpS := fun as σ Q => match as with
  | [.inr (some (r, k)), .inl x] => r = 10 ∧ k = 0 ∧ ∃ (m j : Nat) (D : Nat → Nat), lp_Cx σ m D ∧ j < m ∧ x = nI j ∧ ((cfst D j ∧ Q (some 1) σ) ∨ (¬ cfst D j ∧ Q (some 0) σ))
  | _ => False
set_option maxHeartbeats 4000000 in
set_option maxRecDepth 100000 in
theorem ct_X0_isFirstOfContext (l : Launch) (D : va_G) (cI cD : ClassId) : lp_Ct l D cI cD yX0_isFirstOfContext cX0_isFirstOfContext 2 (some .boolean) 0 sp_X0_isFirstOfContext := by
  refine lp_method0 flX0 pfX0 kcX0 [] true kX0_isFirstOfContext rfl rfl (lp_rB rfl) flX0_ok pfX0_ok kcX0_ok kX0_isFirstOfContext_ok ⟨_, _, rfl, rfl⟩ lp_cs0 ?_
  intro as σ Q hs
  rcases as with _ | ⟨_ | _ | ⟨r, k⟩, _ | ⟨x | _, _ | ⟨c, as⟩⟩⟩ <;> try exact (hs : False).elim
  obtain ⟨rfl, rfl, m, j, D, hC, hj, rfl, hq⟩ := hs
  refine ⟨Nat.le_refl 2, ?_⟩
  have hm := hC.2.1
  ((conv => whnf); (try dsimp only))
  refine ⟨fun q => ?_, fun q => ?_⟩ <;> ((conv => whnf); (try dsimp only))
  · have hz : j = 0 := lp_inj (by omega) (by omega) q
    refine ⟨Or.inr rfl, ?_⟩
    rcases hq with ⟨h, hq⟩ | ⟨h, hq⟩
    · exact hq
    · exact absurd (Or.inl hz) h
  · have hz : ¬ j = 0 := fun z => q (by rw [z]; rfl)
    obtain ⟨i, rfl⟩ : ∃ i, j = i + 1 := ⟨j - 1, by omega⟩
    obtain ⟨c1, c2⟩ := hC.2.2 (i + 1) hj
    obtain ⟨c3, c4⟩ := hC.2.2 i (by omega)
    refine ⟨lp_vin (by omega) (by omega), ?_⟩
    rw [lp_clm (by omega), c1]
    ((conv => whnf); (try dsimp only))
    refine ⟨by decide, ?_⟩
    rw [show nI (D (i + 1)) / (Int8.ofInt 11).toInt32 = nI (D (i + 1) / 11) from pk_div (d := 11) (by omega) (by omega) (by omega)]
    ((conv => whnf); (try dsimp only))
    rw [show nI (i + 1) - Int32.ofInt 1 = nI i from nI_pred i]
    refine ⟨lp_vin (by omega) (by omega), ?_⟩
    rw [lp_clm (by omega), c3]
    ((conv => whnf); (try dsimp only))
    refine ⟨by decide, ?_⟩
    rw [show nI (D i) / (Int8.ofInt 11).toInt32 = nI (D i / 11) from pk_div (d := 11) (by omega) (by omega) (by omega)]
    ((conv => whnf); (try dsimp only))
    have hc : cfst D (i + 1) ↔ D (i + 1) / 11 ≠ D i / 11 := ⟨fun h => h.elim (fun z => absurd z (by omega)) id, Or.inr⟩
    refine ⟨fun q2 => ?_, fun q2 => ?_⟩ <;> ((conv => whnf); (try dsimp only))
    · rw [nI_eq (by omega) (by omega)] at q2
      refine ⟨Or.inl rfl, ?_⟩
      rcases hq with ⟨h, hq⟩ | ⟨h, hq⟩
      · exact absurd q2 (hc.mp h)
      · exact hq
    · rw [nI_eq (by omega) (by omega)] at q2
      refine ⟨Or.inr rfl, ?_⟩
      rcases hq with ⟨h, hq⟩ | ⟨h, hq⟩
      · exact hq
      · exact absurd (hc.mpr q2) h
def sp_X0_number : lpS := fun as σ Q => match as with
  | [.inr (some (r, k))] => r = 10 ∧ k = 0 ∧ ∃ (m : Nat) (D : Nat → Nat), lp_Cx σ m D ∧ srt D m ∧ Q (some (nI (cnum (m, D)))) σ
  | _ => False
set_option maxHeartbeats 4000000 in
set_option maxRecDepth 100000 in
theorem ct_X0_number (l : Launch) (D : va_G) (cI cD : ClassId) : lp_Ct l D cI cD yX0_number cX0_number 3 (some .int) 1 sp_X0_number := by
  refine lp_method flX0 pfX0 kcX0 [(52, some 0, 1, sp_X0_isFirstOfContext)] false kX0_number [4] rfl rfl (lp_rI rfl) flX0_ok pfX0_ok kcX0_ok kX0_number_ok ⟨_, _, rfl, rfl⟩ (lp_cs1 (lp_mkCall lkX0_52 (ct_X0_isFirstOfContext l D cI cD) (by omega)) lp_cs0) ?_
  intro as σ Q hok hs
  rcases as with _ | ⟨_ | _ | ⟨r, k⟩, _ | ⟨c, as⟩⟩ <;> try exact (hs : False).elim
  obtain ⟨rfl, rfl, m, D, hC, hS, hq⟩ := hs
  have hm := hC.2.1
  have hkey : ∀ i, i < m → D i / 11 < 10000 := fun i hi => by have := (hC.2.2 i hi).2; omega
  refine ⟨by show 1 ≤ 3; omega, fun mm pc L τ => pc = 4 ∧ ∃ i, mm + i = m ∧ i ≤ m ∧ σ = τ ∧ L = [some (.inr (some (10, 0))), some (.inl (nI (dist 10000 (fun j => D j / 11) i))), some (.inl (nI i))], ?_, ?_⟩
  · ((conv => whnf); (try dsimp only))
    exact ⟨m, rfl, 0, rfl, Nat.zero_le _, rfl, by rw [dist_0]; rfl⟩
  · rintro mm pc L τ ⟨rfl, i, hmm, hi, rfl, rfl⟩
    ((conv => whnf); (try dsimp only))
    rw [hC.1]
    refine ⟨fun h => ?_, fun h => ?_⟩ <;> ((conv => whnf); (try dsimp only))
    · rw [nI_leI (by omega) (by omega)] at h
      obtain rfl : i = m := by omega
      exact hq
    · rw [nI_leI (by omega) (by omega)] at h
      have him : i < m := by omega
      refine ⟨rfl, rfl, m, i, D, hC, him, rfl, ?_⟩
      rcases Classical.em (cfst D i) with hf | hf
      · refine Or.inl ⟨hf, ?_⟩
        ((conv => whnf); (try dsimp only))
        refine ⟨fun z => absurd z (by decide), fun _ => ?_⟩
        ((conv => whnf); (try dsimp only))
        have hd := dist_new (N := 10000) (f := fun j => D j / 11) (m := i) (hkey i him) (fun j hj => (cfst_new hS him).mp hf j hj)
        exact ⟨m - (i + 1), by omega, rfl, i + 1, by omega, by omega, rfl, by rw [hd, nI_succ i, nI_succ (dist 10000 (fun j => D j / 11) i)]; rfl⟩
      · refine Or.inr ⟨hf, ?_⟩
        ((conv => whnf); (try dsimp only))
        refine ⟨fun _ => ?_, fun z => absurd rfl z⟩
        ((conv => whnf); (try dsimp only))
        have hd := dist_old (N := 10000) (f := fun j => D j / 11) (m := i) (by
          rcases Classical.em (∃ j, j < i ∧ D j / 11 = D i / 11) with z | z
          · exact z
          · exact absurd ((cfst_new hS him).mpr (fun j hj q => z ⟨j, hj, q⟩)) hf)
        exact ⟨m - (i + 1), by omega, rfl, i + 1, by omega, by omega, rfl, by rw [hd, nI_succ i]; rfl⟩
def sp_X0_areInProportion : lpS := fun as σ Q => match as with
  | [.inr (some (r, k)), .inl x, .inl y] => r = 10 ∧ k = 0 ∧ ∃ (t u : Nat) (f g : Nat → Nat), x = nI t ∧ y = nI u ∧ t ≤ 1200 ∧ u ≤ 1200 ∧ (∀ p, p < 11 → σ 13 0 p = nI (f p) ∧ f p ≤ 1200 ∧ σ 14 0 p = nI (g p) ∧ g p ≤ 1200) ∧ (((∀ p, p < 11 → f p * u = g p * t) ∧ Q (some 1) σ) ∨ (¬ (∀ p, p < 11 → f p * u = g p * t) ∧ Q (some 0) σ))
  | _ => False
set_option maxHeartbeats 4000000 in
set_option maxRecDepth 100000 in
theorem ct_X0_areInProportion (l : Launch) (D : va_G) (cI cD : ClassId) : lp_Ct l D cI cD yX0_areInProportion cX0_areInProportion 4 (some .boolean) 0 sp_X0_areInProportion := by
  refine lp_method flX0 pfX0 kcX0 [] true kX0_areInProportion [2] rfl rfl (lp_rB rfl) flX0_ok pfX0_ok kcX0_ok kX0_areInProportion_ok ⟨_, _, rfl, rfl⟩ lp_cs0 ?_
  intro as σ Q hok hs
  rcases as with _ | ⟨_ | _ | ⟨r, k⟩, _ | ⟨x | _, _ | ⟨y | _, _ | ⟨c, as⟩⟩⟩⟩ <;> try exact (hs : False).elim
  obtain ⟨rfl, rfl, t, u, f, g, rfl, rfl, ht, hu, hfg, hq⟩ := hs
  refine ⟨by show 3 ≤ 4; omega, fun mm pc L τ => pc = 2 ∧ ∃ i, mm + i = 11 ∧ i ≤ 11 ∧ (∀ p, p < i → f p * u = g p * t) ∧ σ = τ ∧ L = [some (.inr (some (10, 0))), some (.inl (nI t)), some (.inl (nI u)), some (.inl (nI i))], ?_, ?_⟩
  · ((conv => whnf); (try dsimp only))
    exact ⟨11, rfl, 0, rfl, Nat.zero_le _, fun p hp => absurd hp (by omega), rfl, rfl⟩
  · rintro mm pc L τ ⟨rfl, i, hmm, hi, hall, rfl, rfl⟩
    ((conv => whnf); (try dsimp only))
    refine ⟨fun h => ?_, fun h => ?_⟩ <;> ((conv => whnf); (try dsimp only))
    · have h : 11 ≤ i := (nI_leI (a := 11) (by omega) (by omega)).mp h
      obtain rfl : i = 11 := by omega
      refine ⟨Or.inr rfl, ?_⟩
      rcases hq with ⟨z, hq⟩ | ⟨z, hq⟩
      · exact hq
      · exact absurd hall z
    · have h : ¬ 11 ≤ i := fun z => h ((nI_leI (a := 11) (by omega) (by omega)).mpr z)
      obtain ⟨f1, f2, g1, g2⟩ := hfg i (by omega)
      refine ⟨lp_vin (by omega) (by omega), ?_⟩
      rw [lp_clm (by omega), f1]
      ((conv => whnf); (try dsimp only))
      refine ⟨lp_vin (by omega) (by omega), ?_⟩
      rw [lp_clm (by omega), g1]
      ((conv => whnf); (try dsimp only))
      have m1 : f i * u ≤ 1200 * 1200 := Nat.mul_le_mul f2 hu
      have m2 : g i * t ≤ 1200 * 1200 := Nat.mul_le_mul g2 ht
      rw [pk_mul, pk_mul]
      refine ⟨fun q => ?_, fun q => ?_⟩ <;> ((conv => whnf); (try dsimp only))
      · rw [nI_eq (by omega) (by omega)] at q
        refine ⟨11 - (i + 1), by omega, rfl, i + 1, by omega, by omega, fun p hp => ?_, rfl, by rw [nI_succ i]; rfl⟩
        by_cases ep : p = i
        · subst ep; exact q
        · exact hall p (by omega)
      · rw [nI_eq (by omega) (by omega)] at q
        refine ⟨Or.inl rfl, ?_⟩
        rcases hq with ⟨z, hq⟩ | ⟨z, hq⟩
        · exact absurd (z i (by omega)) q
        · exact hq
end
section
def sp_X0_countNext : lpS := fun as σ Q => match as with
  | [.inr (some (r, k)), .inl x, .inr (some (r2, k2))] => r = 10 ∧ k = 0 ∧ (r2 = 13 ∨ r2 = 14) ∧ k2 = 0 ∧ ∃ (m a : Nat) (D : Nat → Nat), lp_Cx σ m D ∧ srt D m ∧ a < m ∧ x = nI a ∧ cfst D a ∧ ∀ τ, (∀ r, r ≠ r2 → τ r = σ r) → (∀ p, p < 11 → τ r2 0 p = nI (occ D m (D a / 11 * 11 + p))) → Q (some (nI (ctot D m (D a / 11)))) τ
  | _ => False
theorem occ_le {C : Nat → Nat} {c : Nat} : ∀ m, occ C m c ≤ m
  | 0 => Nat.le_refl _
  | m + 1 => by
    have := occ_le (C := C) (c := c) m
    show occ C m c + (if C m = c then 1 else 0) ≤ m + 1
    split <;> omega
theorem ctot_le {C : Nat → Nat} {c : Nat} : ∀ m, ctot C m c ≤ m
  | 0 => Nat.le_refl _
  | m + 1 => by
    have := ctot_le (C := C) (c := c) m
    show ctot C m c + (if C m / 11 = c then 1 else 0) ≤ m + 1
    split <;> omega
theorem lsum_rest {f : Nat → Nat} {i : Nat} : ∀ {m : Nat}, i ≤ m → (∀ j, i ≤ j → j < m → f j = 0) → lsum f m = lsum f i
  | 0, h, _ => by rw [show i = 0 by omega]
  | m + 1, h, hz => by
    by_cases ei : i = m + 1
    · rw [ei]
    · show lsum f m + f m = lsum f i
      rw [lsum_rest (m := m) (by omega) (fun j h1 h2 => hz j h1 (by omega)), hz m (by omega) (by omega)]
      rfl
set_option maxHeartbeats 4000000 in
set_option maxRecDepth 100000 in
theorem ct_X0_countNext (l : Launch) (D : va_G) (cI cD : ClassId) : lp_Ct l D cI cD yX0_countNext cX0_countNext 5 (some .int) 1 sp_X0_countNext := by
  refine lp_method flX0 pfX0 kcX0 [(52, some 0, 1, sp_X0_isFirstOfContext), (67, none, 2, sp_J7_fill)] false kX0_countNext [10, 34] rfl rfl (lp_rI rfl) flX0_ok pfX0_ok kcX0_ok kX0_countNext_ok ⟨_, _, rfl, rfl⟩ (lp_cs1 (lp_mkCall lkX0_52 (ct_X0_isFirstOfContext l D cI cD) (by omega)) (lp_cs1 (lp_mkCall lkX0_67 (ct_J7_fill l D cI cD) (by omega)) lp_cs0)) ?_
  intro as σ Q hok hs
  rcases as with _ | ⟨_ | _ | ⟨r, k⟩, _ | ⟨x | _, _ | ⟨_ | _ | ⟨r2, k2⟩, _ | ⟨c, as⟩⟩⟩⟩ <;> try exact (hs : False).elim
  obtain ⟨rfl, rfl, hr2, rfl, m, a, D, hC, hS, ha, rfl, hf, hq⟩ := hs
  have hm := hC.2.1
  have hbef := (cfst_new hS ha).mp hf
  have h9 : lp_lay r2 = some (.inr (.inl (fun _ => 11))) := by rcases hr2 with rfl | rfl <;> rfl
  refine ⟨by show 3 ≤ 5; omega, fun mm pc L τ => ∃ i, ((pc = 10 ∧ mm = 2 * (m - i) + 1) ∨ (pc = 34 ∧ mm = 2 * (m - i) ∧ i < m ∧ D i / 11 = D a / 11)) ∧ a ≤ i ∧ i ≤ m ∧ (∀ j, a ≤ j → j < i → D j / 11 = D a / 11) ∧ (∀ r, r ≠ r2 → τ r = σ r) ∧ (∀ p, p < 11 → τ r2 0 p = nI (occ D i (D a / 11 * 11 + p))) ∧ L = [some (.inr (some (10, 0))), some (.inl (nI a)), some (.inr (some (r2, 0))), some (.inl (nI (ctot D i (D a / 11)))), some (.inl (nI i))], ?_, ?_⟩
  · ((conv => whnf); (try dsimp only))
    refine ⟨fun _ => 11, h9, by show 11 < 2 ^ 31; omega, ?_⟩
    ((conv => whnf); (try dsimp only))
    have hz : ctot D a (D a / 11) = 0 := lsum_zero (fun j hj => if_neg (hbef j hj))
    refine ⟨_, a, Or.inl ⟨rfl, rfl⟩, Nat.le_refl _, by omega, fun j h1 h2 => absurd h2 (by omega), fun r hr => ?_, fun p hp => ?_, by rw [hz]; rfl⟩
    · simp [lp_fill, va_up, hr]
    · rw [show occ D a (D a / 11 * 11 + p) = 0 from lsum_zero (fun j hj => if_neg (fun q => hbef j hj (by rw [q]; omega)))]
      simp [lp_fill, va_up, hp]
      rfl
  · rintro mm pc L τ ⟨i, hpc, hai, hi, hblk, hfr, hoc, rfl⟩
    have hCτ : τ 10 = σ 10 ∧ τ 11 = σ 11 := ⟨hfr 10 (by rcases hr2 with rfl | rfl <;> omega), hfr 11 (by rcases hr2 with rfl | rfl <;> omega)⟩
    have hCx : lp_Cx τ m D := by unfold lp_Cx; rw [hCτ.1, hCτ.2]; exact hC
    have fin : (∀ j, i ≤ j → j < m → D j / 11 ≠ D a / 11) → Q (some (nI (ctot D i (D a / 11)))) τ := by
      intro hrest
      have e1 : ctot D m (D a / 11) = ctot D i (D a / 11) := lsum_rest hi (fun j h1 h2 => if_neg (hrest j h1 h2))
      rw [← e1]
      refine hq τ hfr (fun p hp => ?_)
      rw [hoc p hp]
      congr 1
      exact (lsum_rest hi (fun j h1 h2 => if_neg (fun q => hrest j h1 h2 (by rw [q]; omega)))).symm
    rcases hpc with ⟨rfl, hmm⟩ | ⟨rfl, hmm, him, hkey⟩
    rotate_left
    · obtain ⟨c1, c2⟩ := hC.2.2 i him
      ((conv => whnf); (try dsimp only))
      refine ⟨lp_vin (by omega) (by omega), ?_⟩
      rw [lp_clm (by omega), hCτ.2, c1]
      ((conv => whnf); (try dsimp only))
      refine ⟨by decide, ?_⟩
      rw [show nI (D i) - nI (D i) / (Int8.ofInt 11).toInt32 * (Int8.ofInt 11).toInt32 = nI (D i % 11) from pk_rem (d := 11) (by omega) (by omega) (by omega)]
      ((conv => whnf); (try dsimp only))
      rw [h9]
      ((conv => whnf); (try dsimp only))
      have hp11 : D i % 11 < 11 := Nat.mod_lt _ (by omega)
      refine ⟨lp_vin hp11 (by omega), ?_⟩
      rw [lp_clm (by omega), hoc _ hp11]
      ((conv => whnf); (try dsimp only))
      rw [h9]
      ((conv => whnf); (try dsimp only))
      refine ⟨lp_vin hp11 (by omega), ?_⟩
      rw [lp_clm (by omega)]
      ((conv => whnf); (try dsimp only))
      have e2 : ctot D (i + 1) (D a / 11) = ctot D i (D a / 11) + 1 := by
        show ctot D i (D a / 11) + (if D i / 11 = D a / 11 then 1 else 0) = _
        rw [if_pos hkey]
      refine ⟨2 * (m - (i + 1)) + 1, by omega, i + 1, Or.inl ⟨rfl, rfl⟩, by omega, by omega, fun j h1 h2 => ?_, fun r hr => ?_, fun p hp => ?_, by rw [e2, nI_succ i, nI_succ (ctot D i (D a / 11))]; rfl⟩
      · by_cases ej : j = i
        · subst ej; exact hkey
        · exact hblk j h1 (by omega)
      · rw [← hfr r hr]
        funext k'
        exact lp_w3_ne (fun z => hr z.1)
      · have e3 : occ D (i + 1) (D a / 11 * 11 + p) = occ D i (D a / 11 * 11 + p) + (if D i = D a / 11 * 11 + p then 1 else 0) := rfl
        rw [e3, lp_rd]
        by_cases ep : p = D i % 11
        · rw [if_pos ⟨rfl, rfl, ep⟩, if_pos (by omega), ep, nI_succ]
          rfl
        · rw [if_neg (fun z => ep z.2.2), if_neg (by omega)]
          exact hoc p hp
    ((conv => whnf); (try dsimp only))
    rw [hCx.1]
    refine ⟨fun h => ?_, fun h => ?_⟩ <;> ((conv => whnf); (try dsimp only))
    · rw [nI_leI (by omega) (by omega)] at h
      exact fin (fun j h1 h2 => absurd h2 (by omega))
    · rw [nI_leI (by omega) (by omega)] at h
      have him : i < m := by omega
      refine ⟨fun q => ?_, fun q => ?_⟩ <;> ((conv => whnf); (try dsimp only))
      · rw [nI_eq (by omega) (by omega)] at q
        exact ⟨2 * (m - i), by omega, i, Or.inr ⟨rfl, rfl, him, by rw [q]⟩, hai, hi, hblk, hfr, hoc, rfl⟩
      · rw [nI_eq (by omega) (by omega)] at q
        refine ⟨rfl, rfl, m, i, D, hCx, him, rfl, ?_⟩
        rcases Classical.em (cfst D i) with hfi | hfi
        · refine Or.inl ⟨hfi, ?_⟩
          ((conv => whnf); (try dsimp only))
          refine ⟨fun _ => ?_, fun z => absurd z (by decide)⟩
          ((conv => whnf); (try dsimp only))
          refine fin (fun j h1 h2 => ?_)
          have g1 := (cfst_new hS him).mp hfi a (by omega)
          have g2 := Nat.div_le_div_right (c := 11) (hS a i (by omega) him)
          have g3 := Nat.div_le_div_right (c := 11) (hS i j h1 h2)
          omega
        · refine Or.inr ⟨hfi, ?_⟩
          ((conv => whnf); (try dsimp only))
          refine ⟨fun z => absurd rfl z, fun _ => ?_⟩
          ((conv => whnf); (try dsimp only))
          have g1 : D i / 11 = D (i - 1) / 11 := by
            rcases Classical.em (D i / 11 = D (i - 1) / 11) with z | z
            · exact z
            · exact absurd (Or.inr z) hfi
          exact ⟨2 * (m - i), by omega, i, Or.inr ⟨rfl, rfl, him, by rw [g1]; exact hblk (i - 1) (by omega) (by omega)⟩, hai, hi, hblk, hfr, hoc, rfl⟩
end
section
/-! ===== Contexts: which are ALIKE ===== -/
def sp_X0_isAlikeToOneOf : lpS := fun as σ Q => match as with
  | [.inr (some (r, k)), .inl x, .inl y] => r = 10 ∧ k = 0 ∧ ∃ (m q a : Nat) (D u : Nat → Nat), lp_Cx σ m D ∧ srt D m ∧ x = nI q ∧ q ≤ 1200 ∧ y = nI a ∧ a < m ∧ cfst D a ∧ (∀ t, t < q → σ 12 0 t = nI (u t) ∧ u t < m ∧ cfst D (u t)) ∧
      ∀ τ, (∀ r, r ≠ 13 → r ≠ 14 → τ r = σ r) → (((∃ t, t < q ∧ calk D m (D a / 11) (D (u t) / 11)) → Q (some 1) τ) ∧ ((∀ t, t < q → ¬ calk D m (D a / 11) (D (u t) / 11)) → Q (some 0) τ))
  | _ => False
set_option maxHeartbeats 4000000 in
set_option maxRecDepth 100000 in
theorem ct_X0_isAlikeToOneOf (l : Launch) (D : va_G) (cI cD : ClassId) : lp_Ct l D cI cD yX0_isAlikeToOneOf cX0_isAlikeToOneOf 6 (some .boolean) 2 sp_X0_isAlikeToOneOf := by
  refine lp_method flX0 pfX0 kcX0 [(60, some 0, 2, sp_X0_countNext), (64, some 0, 2, sp_X0_areInProportion)] true kX0_isAlikeToOneOf [13] rfl rfl (lp_rB rfl) flX0_ok pfX0_ok kcX0_ok kX0_isAlikeToOneOf_ok ⟨_, _, rfl, rfl⟩ (lp_cs1 (lp_mkCall lkX0_60 (ct_X0_countNext l D cI cD) (by omega)) (lp_cs1 (lp_mkCall lkX0_64 (ct_X0_areInProportion l D cI cD) (by omega)) lp_cs0)) ?_
  intro as σ Q hok hs
  rcases as with _ | ⟨_ | _ | ⟨r, k⟩, _ | ⟨x | _, _ | ⟨y | _, _ | ⟨c, as⟩⟩⟩⟩ <;> try exact (hs : False).elim
  obtain ⟨rfl, rfl, m, q, a, D, u, hC, hS, rfl, hq1, rfl, ha, hfa, hu, hq⟩ := hs
  have hm := hC.2.1
  refine ⟨by show 3 ≤ 6; omega, fun mm pc L τ => pc = 13 ∧ ∃ (i : Nat) (x5 : Option lpV), mm + i = q ∧ i ≤ q ∧ (∀ t, t < i → ¬ calk D m (D a / 11) (D (u t) / 11)) ∧ (∀ r, r ≠ 13 → r ≠ 14 → τ r = σ r) ∧ (∀ p, p < 11 → τ 13 0 p = nI (occ D m (D a / 11 * 11 + p))) ∧ L = [some (.inr (some (10, 0))), some (.inl (nI q)), some (.inl (nI a)), some (.inl (nI (ctot D m (D a / 11)))), some (.inl (nI i)), x5], ?_, ?_⟩
  · ((conv => whnf); (try dsimp only))
    refine ⟨rfl, rfl, Or.inl rfl, rfl, m, a, D, hC, hS, ha, rfl, hfa, fun τ h1 h2 => ?_⟩
    ((conv => whnf); (try dsimp only))
    exact ⟨q, rfl, 0, none, rfl, Nat.zero_le _, fun t ht => absurd ht (by omega), fun r h13 h14 => h1 r h13, h2, rfl⟩
  · rintro mm pc L τ ⟨rfl, i, x5, hmm, hi, hno, hfr, hoc, rfl⟩
    have hCx : lp_Cx τ m D := by unfold lp_Cx; rw [hfr 10 (by omega) (by omega), hfr 11 (by omega) (by omega)]; exact hC
    ((conv => whnf); (try dsimp only))
    refine ⟨fun h => ?_, fun h => ?_⟩ <;> ((conv => whnf); (try dsimp only))
    · rw [nI_leI (by omega) (by omega)] at h
      obtain rfl : i = q := by omega
      exact ⟨Or.inl rfl, (hq τ hfr).2 hno⟩
    · rw [nI_leI (by omega) (by omega)] at h
      have hiq : i < q := by omega
      obtain ⟨u1, u2, u3⟩ := hu i hiq
      refine ⟨lp_vin (by omega) (by omega), ?_⟩
      rw [lp_clm (by omega), hfr 12 (by omega) (by omega), u1]
      ((conv => whnf); (try dsimp only))
      refine ⟨rfl, rfl, Or.inr rfl, rfl, m, u i, D, hCx, hS, u2, rfl, u3, fun τ' h1 h2 => ?_⟩
      ((conv => whnf); (try dsimp only))
      have hfr' : ∀ r, r ≠ 13 → r ≠ 14 → τ' r = σ r := fun r h13 h14 => by rw [h1 r h14, hfr r h13 h14]
      have hoc' : ∀ p, p < 11 → τ' 13 0 p = nI (occ D m (D a / 11 * 11 + p)) := fun p hp => by rw [h1 13 (by omega)]; exact hoc p hp
      refine ⟨rfl, rfl, ctot D m (D a / 11), ctot D m (D (u i) / 11), fun p => occ D m (D a / 11 * 11 + p), fun p => occ D m (D (u i) / 11 * 11 + p), rfl, rfl, by have := ctot_le (C := D) (c := D a / 11) m; omega, by have := ctot_le (C := D) (c := D (u i) / 11) m; omega, fun p hp => ⟨hoc' p hp, Nat.le_trans (occ_le m) hm, h2 p hp, Nat.le_trans (occ_le m) hm⟩, ?_⟩
      rcases Classical.em (calk D m (D a / 11) (D (u i) / 11)) with hal | hal
      · refine Or.inl ⟨hal, ?_⟩
        ((conv => whnf); (try dsimp only))
        refine ⟨fun z => absurd z (by decide), fun _ => ?_⟩
        ((conv => whnf); (try dsimp only))
        exact ⟨Or.inr rfl, (hq τ' hfr').1 ⟨i, hiq, hal⟩⟩
      · refine Or.inr ⟨hal, ?_⟩
        ((conv => whnf); (try dsimp only))
        refine ⟨fun _ => ?_, fun z => absurd rfl z⟩
        ((conv => whnf); (try dsimp only))
        refine ⟨q - (i + 1), by omega, rfl, i + 1, some (.inl (nI (ctot D m (D (u i) / 11)))), by omega, by omega, fun t ht => ?_, hfr', hoc', by rw [nI_succ i]; rfl⟩
        by_cases et : t = i
        · subst et; exact hal
        · exact hno t (by omega)
def sp_X0_numberOfUnlike : lpS := fun as σ Q => match as with
  | [.inr (some (r, k))] => r = 10 ∧ k = 0 ∧ ∃ (m : Nat) (D : Nat → Nat), lp_Cx σ m D ∧ srt D m ∧ ∀ τ, lp_FX σ τ → Q (some (nI (cstt (m, D)))) τ
  | _ => False
set_option maxHeartbeats 4000000 in
set_option maxRecDepth 100000 in
theorem ct_X0_numberOfUnlike (l : Launch) (D : va_G) (cI cD : ClassId) : lp_Ct l D cI cD yX0_numberOfUnlike cX0_numberOfUnlike 3 (some .int) 3 sp_X0_numberOfUnlike := by
  refine lp_method flX0 pfX0 kcX0 [(52, some 0, 1, sp_X0_isFirstOfContext), (56, some 0, 2, sp_X0_isAlikeToOneOf)] false kX0_numberOfUnlike [4] rfl rfl (lp_rI rfl) flX0_ok pfX0_ok kcX0_ok kX0_numberOfUnlike_ok ⟨_, _, rfl, rfl⟩ (lp_cs1 (lp_mkCall lkX0_52 (ct_X0_isFirstOfContext l D cI cD) (by omega)) (lp_cs1 (lp_mkCall lkX0_56 (ct_X0_isAlikeToOneOf l D cI cD) (by omega)) lp_cs0)) ?_
  intro as σ Q hok hs
  rcases as with _ | ⟨_ | _ | ⟨r, k⟩, _ | ⟨c, as⟩⟩ <;> try exact (hs : False).elim
  obtain ⟨rfl, rfl, m, D, hC, hS, hq⟩ := hs
  have hm := hC.2.1
  have hkey : ∀ i, i < m → D i / 11 < 10000 := fun i hi => by have := (hC.2.2 i hi).2; omega
  have hpos : ∀ i, i < m → 0 < ctot D m (D i / 11) := fun i hi => ctot_pos.mpr ⟨i, hi, rfl⟩
  obtain ⟨f, hf⟩ : ∃ f : Nat → Nat, f = fun i => crep D m 10000 (D i / 11) := ⟨_, rfl⟩
  have hfi : ∀ i j, i < m → j < m → (f i = f j ↔ calk D m (D i / 11) (D j / 11)) := fun i j hi hj => by rw [hf]; exact crep_iff (hkey i hi) (hpos i hi) (hkey j hj) (hpos j hj)
  have hfl : ∀ i, i < m → f i < 10000 := fun i hi => by rw [hf]; exact crep_lt (hkey i hi) (hpos i hi)
  have hq' : ∀ τ, lp_FX σ τ → Q (some (nI (dist 10000 f m))) τ := by rw [hf]; exact hq
  refine ⟨by show 1 ≤ 3; omega, fun mm pc L τ => pc = 4 ∧ ∃ (i : Nat) (u : Nat → Nat), mm + i = m ∧ i ≤ m ∧ lp_FX σ τ ∧ lp_Cx τ m D ∧ (∀ t, t < dist 10000 f i → τ 12 0 t = nI (u t) ∧ u t < i ∧ cfst D (u t)) ∧ (∀ j, j < i → ∃ t, t < dist 10000 f i ∧ f (u t) = f j) ∧ L = [some (.inr (some (10, 0))), some (.inl (nI (dist 10000 f i))), some (.inl (nI i))], ?_, ?_⟩
  · ((conv => whnf); (try dsimp only))
    exact ⟨m, rfl, 0, fun _ => 0, rfl, Nat.zero_le _, lp_FX_rf σ, hC, fun t ht => absurd ht (by rw [dist_0]; omega), fun j hj => absurd hj (by omega), by rw [dist_0]; rfl⟩
  · rintro mm pc L τ ⟨rfl, i, u, hmm, hi, hF, hCx, hu, hcov, rfl⟩
    have hdi := dist_le (N := 10000) (f := f) i
    ((conv => whnf); (try dsimp only))
    rw [hCx.1]
    refine ⟨fun h => ?_, fun h => ?_⟩ <;> ((conv => whnf); (try dsimp only))
    · rw [nI_leI (by omega) (by omega)] at h
      obtain rfl : i = m := by omega
      exact hq' τ hF
    · rw [nI_leI (by omega) (by omega)] at h
      have him : i < m := by omega
      have old : ∀ τ' : lpM, lp_FX σ τ' → lp_Cx τ' m D → τ' 12 = τ 12 → (∃ j, j < i ∧ f j = f i) → ∃ m', m' < mm ∧ (fun (mm pc : Nat) (L : lpL) (τ : lpM) => pc = 4 ∧ ∃ (i : Nat) (u : Nat → Nat), mm + i = m ∧ i ≤ m ∧ lp_FX σ τ ∧ lp_Cx τ m D ∧ (∀ t, t < dist 10000 f i → τ 12 0 t = nI (u t) ∧ u t < i ∧ cfst D (u t)) ∧ (∀ j, j < i → ∃ t, t < dist 10000 f i ∧ f (u t) = f j) ∧ L = [some (.inr (some (10, 0))), some (.inl (nI (dist 10000 f i))), some (.inl (nI i))]) m' 4 [some (.inr (some (10, 0))), some (.inl (nI (dist 10000 f i))), some (.inl (nI i + Int32.ofInt 1))] τ' := by
        intro τ' g1 g2 g3 hex
        refine ⟨m - (i + 1), by omega, rfl, i + 1, u, by omega, by omega, g1, g2, fun t ht => ?_, fun j hj => ?_, by rw [dist_old hex, nI_succ i]; rfl⟩
        · rw [dist_old hex] at ht
          rw [g3]
          have := hu t ht
          exact ⟨this.1, by omega, this.2.2⟩
        · rw [dist_old hex]
          by_cases ej : j = i
          · subst ej
            obtain ⟨j', h3, h4⟩ := hex
            obtain ⟨t, h5, h6⟩ := hcov j' h3
            exact ⟨t, h5, h6.trans h4⟩
          · exact hcov j (by omega)
      refine ⟨rfl, rfl, m, i, D, hCx, him, rfl, ?_⟩
      rcases Classical.em (cfst D i) with hfs | hfs
      · refine Or.inl ⟨hfs, ?_⟩
        ((conv => whnf); (try dsimp only))
        refine ⟨fun z => absurd z (by decide), fun _ => ?_⟩
        ((conv => whnf); (try dsimp only))
        refine ⟨rfl, rfl, m, dist 10000 f i, i, D, u, hCx, hS, rfl, by omega, rfl, him, hfs, fun t ht => by have := hu t ht; exact ⟨this.1, by omega, this.2.2⟩, fun τ' g1 => ⟨fun hex => ?_, fun hno => ?_⟩⟩
        · ((conv => whnf); (try dsimp only))
          refine ⟨fun _ => ?_, fun z => absurd z (by decide)⟩
          ((conv => whnf); (try dsimp only))
          obtain ⟨t, h3, h4⟩ := hex
          have h5 := hu t h3
          refine old τ' (fun r hr => by rw [g1 r (by omega) (by omega), hF r hr]) (by unfold lp_Cx; rw [g1 10 (by omega) (by omega), g1 11 (by omega) (by omega)]; exact hCx) (g1 12 (by omega) (by omega)) ⟨u t, h5.2.1, ?_⟩
          exact (hfi (u t) i (by omega) him).mpr (calk_sy h4)
        · ((conv => whnf); (try dsimp only))
          refine ⟨fun z => absurd rfl z, fun _ => ?_⟩
          ((conv => whnf); (try dsimp only))
          refine ⟨lp_vin (by omega) (by omega), ?_⟩
          rw [lp_clm (by omega)]
          ((conv => whnf); (try dsimp only))
          have hnew := dist_new (N := 10000) (f := f) (m := i) (hfl i him) (fun j hj e1 => by
            obtain ⟨t, h5, h6⟩ := hcov j hj
            have h7 := hu t h5
            exact hno t h5 ((hfi i (u t) him (by omega)).mp (h6.trans e1).symm))
          refine ⟨m - (i + 1), by omega, rfl, i + 1, nu u (dist 10000 f i) i, by omega, by omega, lp_FX_w3 (fun r hr => by rw [g1 r (by omega) (by omega), hF r hr]) (by omega), ?_, fun t ht => ?_, fun j hj => ?_, by rw [hnew, nI_succ i, nI_succ (dist 10000 f i)]; rfl⟩
          · unfold lp_Cx
            rw [lp_w3_ne (by omega), lp_w3_ne (by omega), g1 10 (by omega) (by omega), g1 11 (by omega) (by omega)]
            exact hCx
          · rw [hnew] at ht
            by_cases et : t = dist 10000 f i
            · subst et
              rw [nu_same, lp_rd, if_pos ⟨rfl, rfl, rfl⟩]
              exact ⟨rfl, by omega, hfs⟩
            · rw [nu_ne et, lp_rd, if_neg (fun z => et z.2.2), g1 12 (by omega) (by omega)]
              have := hu t (by omega)
              exact ⟨this.1, by omega, this.2.2⟩
          · rw [hnew]
            by_cases ej : j = i
            · subst ej
              exact ⟨dist 10000 f j, by omega, by rw [nu_same]⟩
            · obtain ⟨t, h5, h6⟩ := hcov j (by omega)
              exact ⟨t, by omega, by rw [nu_ne (by omega)]; exact h6⟩
      · refine Or.inr ⟨hfs, ?_⟩
        ((conv => whnf); (try dsimp only))
        refine ⟨fun _ => ?_, fun z => absurd rfl z⟩
        ((conv => whnf); (try dsimp only))
        refine old τ hF hCx rfl ⟨i - 1, ?_, ?_⟩
        · rcases Nat.eq_zero_or_pos i with z | z
          · exact absurd (Or.inl z) hfs
          · omega
        · have g1 : D i / 11 = D (i - 1) / 11 := by
            rcases Classical.em (D i / 11 = D (i - 1) / 11) with z | z
            · exact z
            · exact absurd (Or.inr z) hfs
          rw [hf]
          dsimp only
          rw [g1]
end
section
/-! ===== Contexts: gatherFrom, sort, gather ===== -/
def sp_X0_gatherFrom : lpS := fun as σ Q => match as with
  | [.inr (some (r, k)), .inr (some (r2, k2)), .inl x, .inl y] => r = 10 ∧ k = 0 ∧ r2 = 2 ∧ k2 = 0 ∧ ∃ (n v kk : Nat) (s pg wt : Nat → Nat) (S : lpR), lp_Vis σ 0 n s pg wt ∧ v < n ∧ x = nI v ∧ y = nI kk ∧ 1 ≤ kk ∧ kk ≤ 4 ∧ lp_Cx σ S.1 S.2 ∧ S.1 ≤ s v ∧
      ∀ τ, lp_FX σ τ → lp_Cx τ (gthP pg kk (s (v + 1)) (s (v + 1) + 1 - (s v + kk)) (s v + kk) S).1 (gthP pg kk (s (v + 1)) (s (v + 1) + 1 - (s v + kk)) (s v + kk) S).2 → Q none τ
  | _ => False
theorem ccod_lt {pg : Nat → Nat} {kk e1 p : Nat} (hk : kk ≤ 4) (hp : kk ≤ p) (h : ∀ i, i < p → pg i < 10) (hpp : p < e1 → pg p < 10) : ccod pg kk e1 p < 110000 := by
  have h1 := ckey_lt (pg := pg) (a := p - kk) (k := kk) (fun i hi => h _ (by omega))
  have h2 : 10 ^ kk ≤ 10 ^ 4 := Nat.pow_le_pow_right (by omega) hk
  unfold ccod
  split
  · rename_i hlt
    have := hpp hlt
    omega
  · omega
set_option maxHeartbeats 4000000 in
set_option maxRecDepth 100000 in
theorem ct_X0_gatherFrom (l : Launch) (D : va_G) (cI cD : ClassId) : lp_Ct l D cI cD yX0_gatherFrom cX0_gatherFrom 8 none 3 sp_X0_gatherFrom := by
  refine lp_method flX0 pfX0 kcX0 [(38, some 4, 1, sp_X4_endOf), (42, some 4, 1, sp_X4_startOf), (45, some 4, 1, sp_X4_pageAt), (48, none, 2, sp_X6_stepOf)] false kX0_gatherFrom [16, 42] rfl rfl (lp_rV rfl) flX0_ok pfX0_ok kcX0_ok kX0_gatherFrom_ok ⟨_, _, rfl, rfl⟩ (lp_cs1 (lp_mkCall lkX0_38 (ct_X4_endOf l D cI cD) (by omega)) (lp_cs1 (lp_mkCall lkX0_42 (ct_X4_startOf l D cI cD) (by omega)) (lp_cs1 (lp_mkCall lkX0_45 (ct_X4_pageAt l D cI cD) (by omega)) (lp_cs1 (lp_mkCall lkX0_48 (ct_X6_stepOf l D cI cD) (by omega)) lp_cs0)))) ?_
  intro as σ Q hok hs
  rcases as with _ | ⟨_ | _ | ⟨r, k⟩, _ | ⟨_ | _ | ⟨r2, k2⟩, _ | ⟨x | _, _ | ⟨y | _, _ | ⟨c, as⟩⟩⟩⟩⟩ <;> try exact (hs : False).elim
  obtain ⟨rfl, rfl, rfl, rfl, n, v, kk, s, pg, wt, S, hV, hv, rfl, rfl, hk1, hk4, hC, hS, hq⟩ := hs
  have hn := hV.2.1
  have hb := lp_Vis_bd hV
  have hsv := hV.2.2.2.2.1 v hv
  have hsn := lp_Vis_sn hV (v := v + 1) (by omega)
  have hpg : ∀ j, j < s n → pg j < 10 := fun j hj => (hV.2.2.2.2.2 j hj).2.1
  generalize hFF : gthP pg kk (s (v + 1)) (s (v + 1) + 1 - (s v + kk)) (s v + kk) S = FF at hq
  refine ⟨by show 4 ≤ 8; omega, fun mm pc L τ => ∃ (p : Nat) (S' : lpR), s v + kk ≤ p ∧ gthP pg kk (s (v + 1)) (s (v + 1) + 1 - p) p S' = FF ∧ S'.1 + (s v + kk) = S.1 + p ∧ lp_FX σ τ ∧ lp_Cx τ S'.1 S'.2 ∧
    ((pc = 16 ∧ ∃ (x6 x7 : Option lpV), mm = (3000 - p) * 10 + 9 ∧ p ≤ s (v + 1) + 5 ∧ L = [some (.inr (some (10, 0))), some (.inr (some (2, 0))), some (.inl (nI v)), some (.inl (nI kk)), some (.inl (nI (s (v + 1)))), some (.inl (nI p)), x6, x7]) ∨
     (pc = 42 ∧ ∃ (j : Nat), mm = (3000 - p) * 10 + (kk - j) ∧ p ≤ s (v + 1) ∧ j ≤ kk ∧ L = [some (.inr (some (10, 0))), some (.inr (some (2, 0))), some (.inl (nI v)), some (.inl (nI kk)), some (.inl (nI (s (v + 1)))), some (.inl (nI p)), some (.inl (nI (ckey pg (p - kk) j))), some (.inl (nI (p - kk + j)))])), ?_, ?_⟩
  · ((conv => whnf); (try dsimp only))
    refine ⟨rfl, n, s, pg, wt, hV, Or.inl ⟨v, hv, rfl, ?_⟩⟩
    ((conv => whnf); (try dsimp only))
    refine ⟨rfl, n, s, pg, wt, hV, Or.inl ⟨v, hv, rfl, ?_⟩⟩
    ((conv => whnf); (try dsimp only))
    rw [nI_add]
    exact ⟨_, s v + kk, S, Nat.le_refl _, hFF, rfl, lp_FX_rf σ, hC, Or.inl ⟨rfl, none, none, rfl, by omega, rfl⟩⟩
  · rintro mm pc L τ ⟨p, S', hp, hg, hS', hF, hCx, (⟨rfl, x6, x7, hmm, hpe, rfl⟩ | ⟨rfl, j, hmm, hpe, hj, rfl⟩)⟩
    · have hVτ := lp_FX_Vis hV hF
      have hb1 := lp_Vis_bd hV
      ((conv => whnf); (try dsimp only))
      refine ⟨fun h => ?_, fun h => ?_⟩ <;> ((conv => whnf); (try dsimp only))
      · rw [nI_ltI (by omega) (by omega)] at h
        rw [show s (v + 1) + 1 - p = 0 by omega] at hg
        have hg : S' = FF := hg
        subst hg
        exact hq τ hF hCx
      · rw [nI_ltI (by omega) (by omega)] at h
        rw [hCx.1]
        refine ⟨fun z => ?_, fun _ => ?_⟩ <;> ((conv => whnf); (try dsimp only))
        · have : 1200 ≤ S'.1 := (nI_leI (a := 1200) (by omega) (by have := hCx.2.1; omega)).mp z
          omega
        · rw [pk_sub (show kk ≤ p by omega)]
          exact ⟨(3000 - p) * 10 + kk, by omega, p, S', hp, hg, hS', hF, hCx, Or.inr ⟨rfl, 0, rfl, by omega, by omega, rfl⟩⟩
    · have hVτ := lp_FX_Vis hV hF
      have hck : ∀ i, i ≤ kk → ckey pg (p - kk) i < 10 ^ i := fun i hi => ckey_lt (fun x hx => hpg _ (by omega))
      ((conv => whnf); (try dsimp only))
      refine ⟨fun h => ?_, fun h => ?_⟩ <;> ((conv => whnf); (try dsimp only))
      · rw [nI_leI (by omega) (by omega)] at h
        obtain rfl : j = kk := by omega
        have hlt := hck j (Nat.le_refl _)
        have hpw : 10 ^ j ≤ 10 ^ 4 := Nat.pow_le_pow_right (by omega) hk4
        have hsz : S'.1 < 1200 := by omega
        have fin : ∀ nx : Nat, (if p < s (v + 1) then pg p else 10) = nx → ∃ m', m' < mm ∧ (fun (mm pc : Nat) (L : lpL) (τ : lpM) => ∃ (p : Nat) (S' : lpR), s v + j ≤ p ∧ gthP pg j (s (v + 1)) (s (v + 1) + 1 - p) p S' = FF ∧ S'.1 + (s v + j) = S.1 + p ∧ lp_FX σ τ ∧ lp_Cx τ S'.1 S'.2 ∧
    ((pc = 16 ∧ ∃ (x6 x7 : Option lpV), mm = (3000 - p) * 10 + 9 ∧ p ≤ s (v + 1) + 5 ∧ L = [some (.inr (some (10, 0))), some (.inr (some (2, 0))), some (.inl (nI v)), some (.inl (nI j)), some (.inl (nI (s (v + 1)))), some (.inl (nI p)), x6, x7]) ∨
     (pc = 42 ∧ ∃ (j' : Nat), mm = (3000 - p) * 10 + (j - j') ∧ p ≤ s (v + 1) ∧ j' ≤ j ∧ L = [some (.inr (some (10, 0))), some (.inr (some (2, 0))), some (.inl (nI v)), some (.inl (nI j)), some (.inl (nI (s (v + 1)))), some (.inl (nI p)), some (.inl (nI (ckey pg (p - j) j'))), some (.inl (nI (p - j + j')))]))) m' 16 [some (.inr (some (10, 0))), some (.inr (some (2, 0))), some (.inl (nI v)), some (.inl (nI j)), some (.inl (nI (s (v + 1)))), some (.inl (nI p + Int32.ofInt 1)), some (.inl (nI (ckey pg (p - j) j))), some (.inl (nI (p - j + j)))] (lp_w3 (lp_w3 τ 11 0 S'.1 (nI (ckey pg (p - j) j * 11 + nx))) 10 0 4 (nI (S'.1 + 1))) := by
          intro nx hnx
          have hcod : ckey pg (p - j) j * 11 + nx = ccod pg j (s (v + 1)) p := by unfold ccod; rw [hnx]
          refine ⟨(3000 - (p + 1)) * 10 + 9, by omega, p + 1, (S'.1 + 1, nu S'.2 S'.1 (ccod pg j (s (v + 1)) p)), by omega, ?_, by dsimp only; omega, lp_FX_w3 (lp_FX_w3 hF (by omega)) (by omega), ⟨?_, by dsimp only; omega, fun i hi => ?_⟩, Or.inl ⟨rfl, _, _, rfl, by omega, by rw [nI_succ p]; rfl⟩⟩
          · rw [← hg, show s (v + 1) + 1 - p = s (v + 1) + 1 - (p + 1) + 1 by omega]
            rfl
          · simp [lp_rd]
          · dsimp only at hi ⊢
            have hi2 : i ≤ S'.1 := by omega
            by_cases ei : i = S'.1
            · subst ei
              rw [nu_same, lp_rd, if_neg (by omega), lp_rd, if_pos ⟨rfl, rfl, rfl⟩, hcod]
              exact ⟨rfl, ccod_lt hk4 (by omega) (fun x hx => hpg x (by omega)) (fun hx => hpg p (by omega))⟩
            · rw [nu_ne ei, lp_rd, if_neg (by omega), lp_rd, if_neg (fun z => ei z.2.2)]
              exact hCx.2.2 i (by omega)
        refine ⟨fun q => ?_, fun q => ?_⟩ <;> ((conv => whnf); (try dsimp only))
        · rw [nI_leI (by omega) (by omega)] at q
          rw [show nI (ckey pg (p - j) j) * nI 11 + (Int8.ofInt 10).toInt32 = nI (ckey pg (p - j) j * 11 + 10) from lp_step, hCx.1]
          refine ⟨lp_vin (by omega) (by omega), ?_⟩
          rw [lp_clm (by omega)]
          ((conv => whnf); (try dsimp only))
          rw [show lp_w3 τ 11 0 S'.1 (nI (ckey pg (p - j) j * 11 + 10)) 10 0 4 = nI S'.1 from by simp [lp_rd, hCx.1], show nI S'.1 + Int32.ofInt 1 = nI (S'.1 + 1) from (nI_succ _).symm]
          exact fin 10 (if_neg (by omega))
        · rw [nI_leI (by omega) (by omega)] at q
          refine ⟨rfl, n, s, pg, wt, hVτ, Or.inl ⟨p, by omega, rfl, ?_⟩⟩
          ((conv => whnf); (try dsimp only))
          rw [lp_step, hCx.1]
          refine ⟨lp_vin (by omega) (by omega), ?_⟩
          rw [lp_clm (by omega)]
          ((conv => whnf); (try dsimp only))
          rw [show lp_w3 τ 11 0 S'.1 (nI (ckey pg (p - j) j * 11 + pg p)) 10 0 4 = nI S'.1 from by simp [lp_rd, hCx.1], show nI S'.1 + Int32.ofInt 1 = nI (S'.1 + 1) from (nI_succ _).symm]
          exact fin (pg p) (if_pos (by omega))
      · rw [nI_leI (by omega) (by omega)] at h
        have hjk : j < kk := by omega
        refine ⟨rfl, n, s, pg, wt, hVτ, Or.inl ⟨p - kk + j, by omega, rfl, ?_⟩⟩
        ((conv => whnf); (try dsimp only))
        rw [show nI (ckey pg (p - kk) j) * (Int8.ofInt 10).toInt32 + nI (pg (p - kk + j)) = nI (ckey pg (p - kk) (j + 1)) from by
          rw [show nI (ckey pg (p - kk) j) * (Int8.ofInt 10).toInt32 = nI (ckey pg (p - kk) j * 10) from pk_mul _ 10, nI_add]; rfl]
        exact ⟨(3000 - p) * 10 + (kk - (j + 1)), by omega, p, S', hp, hg, hS', hF, hCx, Or.inr ⟨rfl, j + 1, rfl, hpe, by omega, by rw [← Nat.add_assoc, nI_succ (p - kk + j)]; rfl⟩⟩
end
section
/-! ===== Contexts: sort, gather ===== -/
theorem lsum_swap {f g : Nat → Nat} {a b m : Nat} (ha : a < m) (hb : b < m) (hab : a ≠ b) (h1 : g a = f b) (h2 : g b = f a) (h3 : ∀ j, j < m → j ≠ a → j ≠ b → g j = f j) : lsum g m = lsum f m := by
  have k1 := lsum_upd (f := f) (g := nu f a (f b)) ha (fun j _ hj => nu_ne hj)
  have k2 := lsum_upd (f := nu f a (f b)) (g := g) hb (fun j hj hjb => by
    by_cases ej : j = a
    · subst ej; rw [nu_same]; exact h1
    · rw [nu_ne ej]; exact h3 j hj ej hjb)
  rw [nu_same] at k1
  rw [nu_ne (Ne.symm hab), h2] at k2
  omega
theorem prm_shift {C D : Nat → Nat} {m q p c : Nat} (h : prm C (nu D q c) m) (hq : q < m) (hp : p < m) (hpq : p ≠ q) : prm C (nu (nu D q (D p)) p c) m := by
  intro G
  rw [← h G]
  refine lsum_swap (a := q) (b := p) hq hp (Ne.symm hpq) ?_ ?_ (fun j _ hj1 hj2 => ?_)
  · rw [nu_ne (Ne.symm hpq), nu_same, nu_ne hpq]
  · rw [nu_same, nu_same]
  · rw [nu_ne hj2, nu_ne hj1, nu_ne hj1]
def lp_arr (σ : lpM) (m : Nat) (D : Nat → Nat) : Prop := ∀ i, i < m → σ 11 0 i = nI (D i) ∧ D i < 110000
theorem lp_arr_w3 {σ : lpM} {m q x : Nat} {D : Nat → Nat} (h : lp_arr σ m D) (hx : x < 110000) : lp_arr (lp_w3 σ 11 0 q (nI x)) m (nu D q x) := by
  intro i hi
  by_cases ei : i = q
  · subst ei
    rw [nu_same, lp_rd, if_pos ⟨rfl, rfl, rfl⟩]
    exact ⟨rfl, hx⟩
  · rw [nu_ne ei, lp_rd, if_neg (fun z => ei z.2.2)]
    exact h i hi
/-- while one is put into its place: all but the hole in order, those behind it above it -/
def hol (D : Nat → Nat) (q i c : Nat) : Prop := (∀ a b, a ≤ b → b ≤ i → a ≠ q → b ≠ q → D a ≤ D b) ∧ (∀ b, q < b → b ≤ i → c < D b)
theorem hol_shift {D : Nat → Nat} {q i c : Nat} (h : hol D (q + 1) i c) (hq : q + 1 ≤ i) (hc : c < D q) : hol (nu D (q + 1) (D q)) q i c := by
  obtain ⟨h1, h2⟩ := h
  refine ⟨fun a b hab hb ha1 hb1 => ?_, fun b hb1 hb2 => ?_⟩
  · by_cases ea : a = q + 1
    · subst ea
      rw [nu_same]
      by_cases eb : b = q + 1
      · subst eb; rw [nu_same]; exact Nat.le_refl _
      · rw [nu_ne eb]; exact h1 q b (by omega) hb (by omega) eb
    · rw [nu_ne ea]
      by_cases eb : b = q + 1
      · subst eb; rw [nu_same]; exact h1 a q (by omega) (by omega) ea (by omega)
      · rw [nu_ne eb]; exact h1 a b hab hb ea eb
  · by_cases eb : b = q + 1
    · subst eb; rw [nu_same]; exact hc
    · rw [nu_ne eb]; exact h2 b (by omega) hb2
theorem hol_end {D : Nat → Nat} {q i c : Nat} (h : hol D q i c) (hq : q ≤ i) (hc : q = 0 ∨ D (q - 1) ≤ c) : srt (nu D q c) (i + 1) := by
  obtain ⟨h1, h2⟩ := h
  intro a b hab hb
  by_cases ea : a = q
  · subst ea
    rw [nu_same]
    by_cases eb : b = a
    · subst eb; rw [nu_same]; exact Nat.le_refl _
    · rw [nu_ne eb]; have := h2 b (by omega) (by omega); omega
  · rw [nu_ne ea]
    by_cases eb : b = q
    · subst eb
      rw [nu_same]
      rcases hc with z | z
      · omega
      · have := h1 a (b - 1) (by omega) (by omega) ea (by omega); omega
    · rw [nu_ne eb]; exact h1 a b hab (by omega) ea eb
theorem srt_1 {D : Nat → Nat} {m : Nat} (h : m ≤ 1) : srt D m := fun a b hab hb => by rw [show a = b by omega]; exact Nat.le_refl _
theorem nu_id (D : Nat → Nat) (i : Nat) : nu D i (D i) = D := by
  funext x
  by_cases ex : x = i
  · rw [ex, nu_same]
  · rw [nu_ne ex]
def sp_X0_sort : lpS := fun as σ Q => match as with
  | [.inr (some (r, k))] => r = 10 ∧ k = 0 ∧ ∃ (m : Nat) (C : Nat → Nat), lp_Cx σ m C ∧ ∀ τ D, lp_FX σ τ → lp_Cx τ m D → prm C D m → srt D m → Q none τ
  | _ => False
set_option maxHeartbeats 4000000 in
set_option maxRecDepth 100000 in
theorem ct_X0_sort (l : Launch) (D : va_G) (cI cD : ClassId) : lp_Ct l D cI cD yX0_sort cX0_sort 5 none 0 sp_X0_sort := by
  refine lp_method flX0 pfX0 kcX0 [] false kX0_sort [7, 13, 31] rfl rfl (lp_rV rfl) flX0_ok pfX0_ok kcX0_ok kX0_sort_ok ⟨_, _, rfl, rfl⟩ lp_cs0 ?_
  intro as σ Q hok hs
  rcases as with _ | ⟨_ | _ | ⟨r, k⟩, _ | ⟨c, as⟩⟩ <;> try exact (hs : False).elim
  obtain ⟨rfl, rfl, m, C, hC, hq⟩ := hs
  have hm := hC.2.1
  refine ⟨by show 1 ≤ 5; omega, fun mm pc L τ => (∀ r, r ≠ 11 → τ r = σ r) ∧ ∃ (D : Nat → Nat) (g : Nat), lp_arr τ m D ∧ 2 * g ≤ m ∧
    ((pc = 7 ∧ ∃ (x2 x3 x4 : Option lpV), mm = g * 10000000 + 9000000 ∧ prm C D m ∧ (g = 0 → srt D m) ∧ L = [some (.inr (some (10, 0))), some (.inl (nI g)), x2, x3, x4]) ∨
     (pc = 13 ∧ 0 < g ∧ ∃ (i : Nat) (x3 x4 : Option lpV), mm = g * 10000000 + (1200 - i) * 2000 + 1999 ∧ g ≤ i ∧ i ≤ m ∧ prm C D m ∧ (g = 1 → srt D i) ∧ L = [some (.inr (some (10, 0))), some (.inl (nI g)), some (.inl (nI i)), x3, x4]) ∨
     (pc = 31 ∧ 0 < g ∧ ∃ (i q c : Nat), mm = g * 10000000 + (1200 - i) * 2000 + q ∧ g ≤ i ∧ i < m ∧ q ≤ i ∧ c < 110000 ∧ prm C (nu D q c) m ∧ (g = 1 → hol D q i c) ∧ L = [some (.inr (some (10, 0))), some (.inl (nI g)), some (.inl (nI i)), some (.inl (nI c)), some (.inl (nI q))])), ?_, ?_⟩
  · ((conv => whnf); (try dsimp only))
    refine ⟨by decide, ?_⟩
    rw [hC.1, show nI m / Int32.ofInt 2 = nI (m / 2) from pk_div (d := 2) (by omega) (by omega) (by omega)]
    ((conv => whnf); (try dsimp only))
    exact ⟨_, fun r _ => rfl, C, m / 2, hC.2.2, by omega, Or.inl ⟨rfl, none, none, none, rfl, fun _ => rfl, fun z => srt_1 (by omega), rfl⟩⟩
  · rintro mm pc L τ ⟨hfr, D, g, hA, hg2, (⟨rfl, x2, x3, x4, hmm, hpr, hsr, rfl⟩ | ⟨rfl, hg0, i, x3, x4, hmm, hgi, hi, hpr, hsr, rfl⟩ | ⟨rfl, hg0, i, q, c, hmm, hgi, hi, hqi, hc, hpr, hho, rfl⟩)⟩
    · ((conv => whnf); (try dsimp only))
      refine ⟨fun h => ?_, fun h => ?_⟩ <;> ((conv => whnf); (try dsimp only))
      · have hz : g = 0 := by
          rcases Nat.eq_zero_or_pos g with z | z
          · exact z
          · exact absurd h (nI_nle z (by omega))
        exact hq τ D (fun r hr => hfr r (by omega)) ⟨by rw [hfr 10 (by omega)]; exact hC.1, hm, hA⟩ hpr (hsr hz)
      · have hz : 0 < g := by
          rcases Nat.eq_zero_or_pos g with z | z
          · rw [z] at h; exact absurd (by decide) h
          · exact z
        exact ⟨g * 10000000 + (1200 - g) * 2000 + 1999, by omega, hfr, D, g, hA, hg2, Or.inr (Or.inl ⟨rfl, hz, g, x3, x4, rfl, Nat.le_refl _, by omega, hpr, fun z => srt_1 (by omega), rfl⟩)⟩
    · ((conv => whnf); (try dsimp only))
      rw [hfr 10 (by omega), hC.1]
      refine ⟨fun h => ?_, fun h => ?_⟩ <;> ((conv => whnf); (try dsimp only))
      · rw [nI_leI (by omega) (by omega)] at h
        obtain rfl : i = m := by omega
        refine ⟨by decide, ?_⟩
        rw [show nI g / Int32.ofInt 2 = nI (g / 2) from pk_div (d := 2) (by omega) (by omega) (by omega)]
        ((conv => whnf); (try dsimp only))
        exact ⟨g / 2 * 10000000 + 9000000, by omega, hfr, D, g / 2, hA, by omega, Or.inl ⟨rfl, some (.inl (nI i)), x3, x4, rfl, hpr, fun z => hsr (by omega), rfl⟩⟩
      · rw [nI_leI (by omega) (by omega)] at h
        obtain ⟨c1, c2⟩ := hA i (by omega)
        refine ⟨lp_vin (by omega) (by omega), ?_⟩
        rw [lp_clm (by omega), c1]
        ((conv => whnf); (try dsimp only))
        refine ⟨g * 10000000 + (1200 - i) * 2000 + i, by omega, hfr, D, g, hA, hg2, Or.inr (Or.inr ⟨rfl, hg0, i, i, D i, rfl, hgi, by omega, Nat.le_refl _, c2, ?_, fun z => ⟨fun a b hab hb ha1 hb1 => hsr z a b hab (by omega), fun b h1 h2 => absurd h1 (by omega)⟩, rfl⟩)⟩
        rw [nu_id]
        exact hpr
    · ((conv => whnf); (try dsimp only))
      have stop : (q < g ∨ D (q - g) ≤ c) → ∃ m', m' < mm ∧ (fun (mm pc : Nat) (L : lpL) (τ : lpM) => (∀ r, r ≠ 11 → τ r = σ r) ∧ ∃ (D : Nat → Nat) (g : Nat), lp_arr τ m D ∧ 2 * g ≤ m ∧
    ((pc = 7 ∧ ∃ (x2 x3 x4 : Option lpV), mm = g * 10000000 + 9000000 ∧ prm C D m ∧ (g = 0 → srt D m) ∧ L = [some (.inr (some (10, 0))), some (.inl (nI g)), x2, x3, x4]) ∨
     (pc = 13 ∧ 0 < g ∧ ∃ (i : Nat) (x3 x4 : Option lpV), mm = g * 10000000 + (1200 - i) * 2000 + 1999 ∧ g ≤ i ∧ i ≤ m ∧ prm C D m ∧ (g = 1 → srt D i) ∧ L = [some (.inr (some (10, 0))), some (.inl (nI g)), some (.inl (nI i)), x3, x4]) ∨
     (pc = 31 ∧ 0 < g ∧ ∃ (i q c : Nat), mm = g * 10000000 + (1200 - i) * 2000 + q ∧ g ≤ i ∧ i < m ∧ q ≤ i ∧ c < 110000 ∧ prm C (nu D q c) m ∧ (g = 1 → hol D q i c) ∧ L = [some (.inr (some (10, 0))), some (.inl (nI g)), some (.inl (nI i)), some (.inl (nI c)), some (.inl (nI q))]))) m' 13 [some (.inr (some (10, 0))), some (.inl (nI g)), some (.inl (nI i + Int32.ofInt 1)), some (.inl (nI c)), some (.inl (nI q))] (lp_w3 τ 11 0 q (nI c)) := by
        intro hst
        refine ⟨g * 10000000 + (1200 - (i + 1)) * 2000 + 1999, by omega, fun r hr => by rw [← hfr r hr]; funext k'; exact lp_w3_ne (fun z => hr z.1), nu D q c, g, lp_arr_w3 hA hc, hg2, Or.inr (Or.inl ⟨rfl, hg0, i + 1, _, _, rfl, by omega, by omega, hpr, fun z => hol_end (hho z) hqi ?_, by rw [nI_succ i]; rfl⟩)⟩
        subst z
        rcases hst with z | z
        · exact Or.inl (by omega)
        · exact Or.inr z
      refine ⟨fun h => ?_, fun h => ?_⟩ <;> ((conv => whnf); (try dsimp only))
      · rw [nI_ltI (by omega) (by omega)] at h
        refine ⟨lp_vin (by omega) (by omega), ?_⟩
        rw [lp_clm (by omega)]
        ((conv => whnf); (try dsimp only))
        exact stop (Or.inl h)
      · rw [nI_ltI (by omega) (by omega)] at h
        obtain ⟨c1, c2⟩ := hA (q - g) (by omega)
        rw [pk_sub (show g ≤ q by omega)]
        refine ⟨lp_vin (by omega) (by omega), ?_⟩
        rw [lp_clm (by omega), c1]
        ((conv => whnf); (try dsimp only))
        refine ⟨fun h2 => ?_, fun h2 => ?_⟩ <;> ((conv => whnf); (try dsimp only))
        · rw [nI_leI (by omega) (by omega)] at h2
          refine ⟨lp_vin (by omega) (by omega), ?_⟩
          rw [lp_clm (by omega)]
          ((conv => whnf); (try dsimp only))
          exact stop (Or.inr h2)
        · rw [nI_leI (by omega) (by omega)] at h2
          rw [pk_sub (show g ≤ q by omega)]
          refine ⟨lp_vin (by omega) (by omega), ?_⟩
          rw [lp_clm (by omega), c1]
          ((conv => whnf); (try dsimp only))
          refine ⟨lp_vin (by omega) (by omega), ?_⟩
          rw [lp_clm (by omega)]
          ((conv => whnf); (try dsimp only))
          rw [pk_sub (show g ≤ q by omega)]
          refine ⟨g * 10000000 + (1200 - i) * 2000 + (q - g), by omega, fun r hr => by rw [← hfr r hr]; funext k'; exact lp_w3_ne (fun z => hr z.1), nu D q (D (q - g)), g, lp_arr_w3 hA c2, hg2, Or.inr (Or.inr ⟨rfl, hg0, i, q - g, c, rfl, hgi, hi, by omega, hc, prm_shift hpr (by omega) (by omega) (by omega), fun z => ?_, rfl⟩)⟩
          subst z
          obtain ⟨q', rfl⟩ : ∃ q', q = q' + 1 := ⟨q - 1, by omega⟩
          exact hol_shift (hho rfl) hqi (by rw [show q' + 1 - 1 = q' from rfl] at h2; omega)
def sp_X0_gather : lpS := fun as σ Q => match as with
  | [.inr (some (r, k)), .inr (some (r2, k2)), .inl y] => r = 10 ∧ k = 0 ∧ r2 = 2 ∧ k2 = 0 ∧ ∃ (n kk : Nat) (s pg wt : Nat → Nat), lp_Vis σ 0 n s pg wt ∧ y = nI kk ∧ 1 ≤ kk ∧ kk ≤ 4 ∧
      ∀ τ D, lp_FX σ τ → lp_Cx τ (gth n s pg kk).1 D → prm (gth n s pg kk).2 D (gth n s pg kk).1 → srt D (gth n s pg kk).1 → Q none τ
  | _ => False
set_option maxHeartbeats 4000000 in
set_option maxRecDepth 100000 in
theorem ct_X0_gather (l : Launch) (D : va_G) (cI cD : ClassId) : lp_Ct l D cI cD yX0_gather cX0_gather 4 none 4 sp_X0_gather := by
  refine lp_method flX0 pfX0 kcX0 [(31, some 0, 3, sp_X0_gatherFrom), (35, some 0, 0, sp_X0_sort)] false kX0_gather [7] rfl rfl (lp_rV rfl) flX0_ok pfX0_ok kcX0_ok kX0_gather_ok ⟨_, _, rfl, rfl⟩ (lp_cs1 (lp_mkCall lkX0_31 (ct_X0_gatherFrom l D cI cD) (by omega)) (lp_cs1 (lp_mkCall lkX0_35 (ct_X0_sort l D cI cD) (by omega)) lp_cs0)) ?_
  intro as σ Q hok hs
  rcases as with _ | ⟨_ | _ | ⟨r, k⟩, _ | ⟨_ | _ | ⟨r2, k2⟩, _ | ⟨y | _, _ | ⟨c, as⟩⟩⟩⟩ <;> try exact (hs : False).elim
  obtain ⟨rfl, rfl, rfl, rfl, n, kk, s, pg, wt, hV, rfl, hk1, hk4, hq⟩ := hs
  have hn := hV.2.1
  have hb := lp_Vis_bd hV
  generalize hFF : gth n s pg kk = FF at hq
  refine ⟨by show 3 ≤ 4; omega, fun mm pc L τ => pc = 7 ∧ ∃ (v : Nat) (S : lpR), mm + v = n ∧ v ≤ n ∧ gthV s pg kk (n - v) v S = FF ∧ S.1 ≤ s v ∧ lp_FX σ τ ∧ lp_Cx τ S.1 S.2 ∧ L = [some (.inr (some (10, 0))), some (.inr (some (2, 0))), some (.inl (nI kk)), some (.inl (nI v))], ?_, ?_⟩
  · ((conv => whnf); (try dsimp only))
    exact ⟨n, rfl, 0, (0, fun _ => 0), rfl, Nat.zero_le _, hFF, Nat.zero_le _, lp_FX_w3 (lp_FX_rf σ) (by omega), ⟨by simp [lp_rd]; rfl, by omega, fun i hi => absurd hi (Nat.not_lt_zero _)⟩, rfl⟩
  · rintro mm pc L τ ⟨rfl, v, S, hmm, hv, hg, hS, hF, hCx, rfl⟩
    have hVτ := lp_FX_Vis hV hF
    ((conv => whnf); (try dsimp only))
    rw [hVτ.1]
    refine ⟨fun h => ?_, fun h => ?_⟩ <;> ((conv => whnf); (try dsimp only))
    · rw [nI_leI (by omega) (by omega)] at h
      obtain rfl : v = n := by omega
      rw [Nat.sub_self] at hg
      have hg : S = FF := hg
      subst hg
      exact ⟨rfl, rfl, S.1, S.2, hCx, fun τ' D g1 g2 g3 g4 => hq τ' D (lp_FX_tr hF g1) g2 g3 g4⟩
    · rw [nI_leI (by omega) (by omega)] at h
      have hvn : v < n := by omega
      refine ⟨rfl, rfl, rfl, rfl, n, v, kk, s, pg, wt, S, hVτ, hvn, rfl, rfl, hk1, hk4, hCx, hS, fun τ' g1 g2 => ?_⟩
      ((conv => whnf); (try dsimp only))
      refine ⟨n - (v + 1), by omega, rfl, v + 1, _, by omega, by omega, ?_, ?_, lp_FX_tr hF g1, g2, by rw [nI_succ v]; rfl⟩
      · rw [← hg, show n - v = n - (v + 1) + 1 by omega]
        rfl
      · rw [(gthP_keep pg kk (s (v + 1)) _ _ S).1]
        have := (hV.2.2.2.2.1 v hvn).1
        omega
end
section
/-! ===== constructors: what their rows need ===== -/
abbrev lp_z (cI : ClassId) (n : Nat) : va_E := .inl (cI, n, .inl (fun _ => 0))
theorem lp_nneg {n : Nat} (h : n < 2 ^ 31) : ¬ nI n < (0 : Int32) := fun q => by
  have h1 := Int32.lt_iff_toInt_lt.mp q
  rw [nI_toInt h] at h1
  have : (0 : Int32).toInt = 0 := rfl
  omega
theorem lp_clm0 {n : Nat} (h : n < 2 ^ 31) : (nI n).toNatClampNeg = n := nI_clamp h
theorem lp_Wd_call {D : va_G} {cI cD : ClassId} {U : State} {g : JFrame} {mk : MethodId} {a : Array Value} (h : lp_Wd D cI cD U) : lp_Wd D cI cD (U.calling g mk a) :=
  ⟨va_K.moved (u := U) (U := U.calling g mk a) (Vm.Alike.refl U.vm) h.1, fun w hw => va_Nw.same (u := U) (lp_nest_on (List.mem_filter.mp hw).2) rfl (h.2 w hw)⟩
def lp_Wc (D : va_G) (cI cD : ClassId) (U : State) : Prop := lp_Wd D cI cD U ∧ va_AO RX1 U
theorem lp_Wc_call {D : va_G} {cI cD : ClassId} {U : State} {g : JFrame} {mk : MethodId} {a : Array Value} (h : lp_Wc D cI cD U) : lp_Wc D cI cD (U.calling g mk a) := ⟨lp_Wd_call h.1, va_AO.moved (u := U) (U := U.calling g mk a) (Vm.Alike.refl U.vm) h.2⟩
theorem lp_Wc_move {D : va_G} {cI cD : ClassId} {s U : State} (hW : s.WarmedH U.vm) (h : lp_Wc D cI cD s) : lp_Wc D cI cD U := ⟨lp_Wd_move hW h.1, va_AO.moved hW.alike h.2⟩
section LPC
variable {p : Program} {l : Launch} {e : Env} {R : Room} {s : State} {m : MethodId} {args : Array Value} {below : List Frame} {meth : Method} {c : Code} {H H0 : Heap} {locs : List Loc} {cells slots : Nat} {Q : State → Prop}
variable {cc : ByteArray} {pc : Nat} {ls : Array Slot} {rest : List Value} {D : va_G} {A : Nat → Prop} {ws : va_W} {cI cD : ClassId}
/-- what the counters say of the heap -/
theorem lp_loose {g : JFrame} (kk : H.size ≤ s.heap.size + cells → lp_TS H ≤ lp_TS s.heap + slots → W p l e R s m args below meth c H locs cells slots Q g) : W p l e R s m args below meth c H locs cells slots Q g := by
  intro T hT X
  obtain ⟨a1, a2, a3, a4, a5, a6⟩ := X.same
  have hh : (T.setVm s.vm).heap = H := hT
  have hs := lp_TS_split a2 (fun a c hc => by
    obtain ⟨c', h1, -, h3, -⟩ := a6 a c hc
    exact ⟨c', h1, h3⟩)
  rw [hh] at hs a3 a5
  have : (List.map (fun x => x.slots.size) (List.drop s.heap.size H.toList)).sum = (List.map (fun c => c.slots.size) (List.drop s.heap.size H.toList)).sum := rfl
  exact kk (by omega) (by omega) T hT X
theorem lp_newa (hexec : p.tables.exec = Jvm.exec) (hb : c.code = cc) (T : ∀ w ∈ lp_tbl, w.before args s = true) (hWd : lp_Wd D cI cD s) (hP : va_P D vwCl ws H) (hD : va_D A ws) (hS : va_S A H0 H locs) (hA : ∀ q, H0.size ≤ q → A q)
    {n : Int32} {N' : Nat} (hn : ¬ n < 0) (hN : n.toNatClampNeg = N') (hbytes : N' * 4 ≤ 536870912) (hcells : cells + 1 ≤ R.cells) (hslots : slots + N' ≤ R.slots) (hdg : decode cc pc = .ok (.newarray .int, 2))
    (kk : ∀ (q : Nat) (H1 : Heap), va_P D vwCl (ws ++ [(q, lp_z cI N')]) H1 → va_D A (ws ++ [(q, lp_z cI N')]) → va_S A H0 H1 locs →
      W p l e R s m args below meth c H1 locs (cells + 1) (slots + N') Q (F0 m (pc + 2) ls (.ref q :: rest))) : W p l e R s m args below meth c H locs cells slots Q (F0 m pc ls (.int n :: rest)) := by
  have hac : (Cond.arrayClass .int).before args s = true := T _ (by decide +kernel)
  refine va_newa (a0 := (N', .inl (fun _ => 0))) (ty := .int) (atype := .int) hexec hb hac rfl hWd.1 hP hD hS hA (fun cA => rfl) hn hN hbytes hcells hslots hdg (fun q cA H1 hK hP hD hS => ?_)
  have h1 : s.vm.findClass ("[" ++ (FieldType.int).toString) = some cA := (hK.2 2 (cA, .int) rfl).2
  have h2 : s.vm.findClass ("[" ++ (FieldType.int).toString) = some cI := (hWd.1.2 0 (cI, .int) rfl).2
  obtain rfl : cA = cI := Option.some.inj (h1.symm.trans h2)
  exact kk q H1 hP hD hS
theorem lp_newq (hexec : p.tables.exec = Jvm.exec) (hb : c.code = cc) {own : String} {index : Nat} (hown : s.vm.findClass own = some m.cls) (hclink : (Cond.classLink own index RX1).before args s = true) (hAO : va_AO RX1 s) (hWd : lp_Wd D cI cD s) (hP : va_P D vwCl ws H) (hD : va_D A ws) (hS : va_S A H0 H locs) (hA : ∀ q, H0.size ≤ q → A q)
    {n : Int32} {N' : Nat} (hn : ¬ n < 0) (hN : n.toNatClampNeg = N') (hbytes : N' * 4 ≤ 536870912) (hcells : cells + 1 ≤ R.cells) (hslots : slots + N' ≤ R.slots) (hdg : decode cc pc = .ok (.anewarray index, 3))
    (kk : ∀ (q : Nat) (H1 : Heap), va_P D vwCl (ws ++ [(q, .inl (cD, N', .inr (.inr (.inr (.inr (fun _ => none))))))]) H1 → va_D A (ws ++ [(q, .inl (cD, N', .inr (.inr (.inr (.inr (fun _ => none))))))]) → va_S A H0 H1 locs →
      W p l e R s m args below meth c H1 locs (cells + 1) (slots + N') Q (F0 m (pc + 3) ls (.ref q :: rest))) : W p l e R s m args below meth c H locs cells slots Q (F0 m pc ls (.int n :: rest)) := by
  refine va_newq hexec hb hown hclink hAO hWd.1 hP hD hS hA hn hN hbytes hcells hslots hdg (fun q cA H1 hK hP hD hS => ?_)
  obtain ⟨-, kA, comp, -, -, -, h1⟩ := hK.2 2 (cA, .object RX1) rfl
  obtain ⟨-, kA', comp', -, -, -, h2⟩ := hWd.1.2 1 (cD, .object RX1) rfl
  obtain rfl : cA = cD := Option.some.inj (h1.symm.trans h2)
  exact kk q H1 hP hD hS
end LPC
theorem dfill_0 : decode cJ7_fill_53178 0 = .ok (.iconst 0, 1) := by decide +kernel
theorem dfill_1 : decode cJ7_fill_53178 1 = .ok (.istore_n 2, 1) := by decide +kernel
theorem dfill_2 : decode cJ7_fill_53178 2 = .ok (.aload_n 0, 1) := by decide +kernel
theorem dfill_3 : decode cJ7_fill_53178 3 = .ok (.arraylength, 1) := by decide +kernel
theorem dfill_4 : decode cJ7_fill_53178 4 = .ok (.istore_n 3, 1) := by decide +kernel
theorem dfill_5 : decode cJ7_fill_53178 5 = .ok (.iload_n 2, 1) := by decide +kernel
theorem dfill_6 : decode cJ7_fill_53178 6 = .ok (.iload_n 3, 1) := by decide +kernel
theorem dfill_7 : decode cJ7_fill_53178 7 = .ok (.if_icmp .ge 13, 3) := by decide +kernel
theorem dfill_10 : decode cJ7_fill_53178 10 = .ok (.aload_n 0, 1) := by decide +kernel
theorem dfill_11 : decode cJ7_fill_53178 11 = .ok (.iload_n 2, 1) := by decide +kernel
theorem dfill_12 : decode cJ7_fill_53178 12 = .ok (.iload_n 1, 1) := by decide +kernel
theorem dfill_13 : decode cJ7_fill_53178 13 = .ok (.iastore, 1) := by decide +kernel
theorem dfill_14 : decode cJ7_fill_53178 14 = .ok (.iinc 2 1, 3) := by decide +kernel
theorem dfill_17 : decode cJ7_fill_53178 17 = .ok (.goto (-12), 3) := by decide +kernel
theorem dfill_20 : decode cJ7_fill_53178 20 = .ok (.return_, 1) := by decide +kernel
def lp_ff (f : Nat → Int32) (x : Int32) (i : Nat) : Nat → Int32 := fun j => if j < i then x else f j
theorem lp_ff_succ (f : Nat → Int32) (x : Int32) (i : Nat) : upd (lp_ff f x i) i x = lp_ff f x (i + 1) := by
  funext j
  by_cases hj : j = i
  · subst hj; simp [upd, lp_ff]
  · have : (j < i + 1) ↔ j < i := by omega
    simp [upd, lp_ff, hj, this]
set_option maxHeartbeats 16000000 in
set_option maxRecDepth 100000 in
theorem ci_fill (l : Launch) (D : va_G) (cI cD : ClassId) (h0 sz : Nat) (n : Nat) (hn : n ≤ 100000) (x : Int32) (f : Nat → Int32) : Met l yJ7_fill_53178 (.code yJ7_fill_53178 cJ7_fill_53178 4 none :: lp_tbl) { frames := 0, cells := 0, slots := 0, locals := 0 } (va_Pc [.ref h0, .int x] (fun U => U.heap.size = sz ∧ va_P D vwCl [(h0, .inl (cI, n, .inl f))] U.heap ∧ lp_Wd D cI cD U ∧ va_D (fun _ => True) [(h0, .inl (cI, n, .inl f))])) (va_Qv (fun _ : Unit => True) (fun _ t => va_P D vwCl [(h0, .inl (cI, n, .inl (lp_ff f x n)))] t.heap ∧ lp_Wd D cI cD t ∧ va_D (va_A [(h0, .inl (cI, n, .inl f))] sz) [(h0, .inl (cI, n, .inl (lp_ff f x n)))]) (va_A [(h0, .inl (cI, n, .inl f))] sz)) 0 0 (va_A [(h0, .inl (cI, n, .inl f))] sz) := by
  refine Met.ofW (cc := cJ7_fill_53178) (maxL := 4) (ret := none) (by decide) rfl ?_
  intro p e s m args below meth c s₁ B hml hv
  obtain ⟨rfl, hsz, hP, hWd, hD0⟩ := hv
  have hx := B.exec
  have hb := B.bytes
  have hr := B.returns
  have hlocks := B.notSynchronized
  subst hsz
  have hD := hD0.self (sz := s.heap.size)
  generalize hAe : va_A [(h0, .inl (cI, n, .inl f))] s.heap.size = A at hD ⊢
  have hS : va_S A s.heap s.heap [] := va_S.rf
  have hl := lv_entry ([.ref h0, .int x]) (n := 4) (Nat.le_of_ble_eq_true rfl)
  rw [lg_entry_eq]
  generalize (lg_sl ([.ref h0, .int x]) ++ List.replicate (4 - (lg_sl ([.ref h0, .int x])).length) Slot.unset).toArray = ls at hl ⊢
  have hl : lv_has ls 4 [(0, .ref h0), (1, .int x)] := hl
  refine lv_iconst (v := nI 0) hx hb dfill_0 (by decide) ?_
  refine lv_istore_n (lv' := [(2, .int (nI 0)), (0, .ref h0), (1, .int x)]) hx hb dfill_1 rfl hl (by decide) rfl (fun ls hl => ?_)
  refine lv_aload_n hx hb dfill_2 rfl (lv_at hl 1 rfl) ?_
  refine va_alen (v := nI n) hx hb hWd.1 hP 0 0 rfl rfl rfl dfill_3 ?_
  refine lv_istore_n (lv' := [(3, .int (nI n)), (2, .int (nI 0)), (0, .ref h0), (1, .int x)]) hx hb dfill_4 rfl hl (by decide) rfl (fun ls hl => ?_)
  have loop : ∀ (k i : Nat) (H : Heap) (locs : List Loc) (ls : Array Slot), i + k = n → va_P D vwCl [(h0, .inl (cI, n, .inl (lp_ff f x i)))] H → va_D A [(h0, .inl (cI, n, .inl (lp_ff f x i)))] → va_S A s.heap H locs → lv_has ls 4 [(3, .int (nI n)), (2, .int (nI i)), (0, .ref h0), (1, .int x)] →
      W p l e (headSpec (Cond.code yJ7_fill_53178 cJ7_fill_53178 4 none :: lp_tbl) { frames := 0, cells := 0, slots := 0, locals := 0 }).room s m ([.ref h0, .int x] : List Value).toArray below meth c H locs 0 0 (MQ below (va_Qv (fun _ : Unit => True) (fun _ t => va_P D vwCl [(h0, .inl (cI, n, .inl (lp_ff f x n)))] t.heap ∧ lp_Wd D cI cD t ∧ va_D A [(h0, .inl (cI, n, .inl (lp_ff f x n)))]) A) ([.ref h0, .int x] : List Value).toArray s 0 0 A) (F0 m 5 ls []) := by
    intro k
    induction k with
    | zero =>
      intro i H locs ls hi hP hD hS hl
      obtain rfl : i = n := by omega
      refine lv_iload_n hx hb dfill_5 rfl (lv_at hl 1 rfl) ?_
      refine lv_iload_n hx hb dfill_6 rfl (lv_at hl 0 rfl) ?_
      refine lv_icmp_ge (tgt := 20) hx hb dfill_7 (by decide) (fun _ => ?_) (fun q => absurd (Int32.le_refl _) q)
      exact W.vret hx hb hr (fun t ht hW => ⟨⟨(), rfl, trivial, by rw [ht]; exact hP, lp_Wd_move hW hWd, hD⟩, hS.F ht⟩) hS.2.2 dfill_20
    | succ k ih =>
      intro i H locs ls hi hP hD hS hl
      refine lv_iload_n hx hb dfill_5 rfl (lv_at hl 1 rfl) ?_
      refine lv_iload_n hx hb dfill_6 rfl (lv_at hl 0 rfl) ?_
      refine lv_icmp_ge (tgt := 20) hx hb dfill_7 (by decide) (fun q => absurd ((nI_leI (by omega) (by omega)).mp q) (by omega)) (fun _ => ?_)
      refine lv_aload_n hx hb dfill_10 rfl (lv_at hl 2 rfl) ?_
      refine lv_iload_n hx hb dfill_11 rfl (lv_at hl 1 rfl) ?_
      refine lv_iload_n hx hb dfill_12 rfl (lv_at hl 3 rfl) ?_
      refine va_iast hx hb hWd.1 hP hD hS 0 0 rfl rfl (lp_vin (a := i) (by omega) (by omega)) dfill_13 (fun H locs hP hD hS => ?_)
      rw [lp_clm0 (by omega), lp_ff_succ] at hP hD
      refine lv_iinc (v := nI (i + 1)) (lv' := [(2, .int (nI (i + 1))), (3, .int (nI n)), (0, .ref h0), (1, .int x)]) hx hb dfill_14 hl (k := 1) rfl (nI_succ i).symm (by decide) rfl (fun ls hl => ?_)
      refine lv_goto (tgt := 5) hx hb dfill_17 (by decide) ?_
      exact ih (i + 1) H locs ls (by omega) hP hD hS (lv_sub hl [1, 0, 2, 3] rfl)
  have e0 : lp_ff f x 0 = f := by funext j; simp [lp_ff]
  exact loop n 0 _ _ ls (by omega) (by rw [e0]; exact hP) (by rw [e0]; exact hD) hS hl
end
section
/-! ===== constructor of X1 ===== -/
theorem dX1_init_0 : decode cX1_init 0 = .ok (.aload_n 0, 1) := by decide +kernel
theorem dX1_init_1 : decode cX1_init 1 = .ok (.invokespecial 3, 3) := by decide +kernel
theorem dX1_init_4 : decode cX1_init 4 = .ok (.iload_n 1, 1) := by decide +kernel
theorem dX1_init_5 : decode cX1_init 5 = .ok (.iconst 0, 1) := by decide +kernel
theorem dX1_init_6 : decode cX1_init 6 = .ok (.invokestatic 9, 3) := by decide +kernel
theorem dX1_init_9 : decode cX1_init 9 = .ok (.istore_n 2, 1) := by decide +kernel
theorem dX1_init_10 : decode cX1_init 10 = .ok (.aload_n 0, 1) := by decide +kernel
theorem dX1_init_11 : decode cX1_init 11 = .ok (.iload_n 2, 1) := by decide +kernel
theorem dX1_init_12 : decode cX1_init 12 = .ok (.newarray .int, 2) := by decide +kernel
theorem dX1_init_14 : decode cX1_init 14 = .ok (.putfield 15, 3) := by decide +kernel
theorem dX1_init_17 : decode cX1_init 17 = .ok (.aload_n 0, 1) := by decide +kernel
theorem dX1_init_18 : decode cX1_init 18 = .ok (.iload_n 2, 1) := by decide +kernel
theorem dX1_init_19 : decode cX1_init 19 = .ok (.newarray .int, 2) := by decide +kernel
theorem dX1_init_21 : decode cX1_init 21 = .ok (.putfield 21, 3) := by decide +kernel
theorem dX1_init_24 : decode cX1_init 24 = .ok (.return_, 1) := by decide +kernel
def wX1 (cI cD : ClassId) (h : Nat) (q : Nat → Nat) (n : Nat) : va_W := [(h, .inr (1, [.ref (q 0), .ref (q 1)])), (q 0, lp_z cI n), (q 1, lp_z cI n)]
set_option maxHeartbeats 16000000 in
set_option maxRecDepth 100000 in
theorem ci_X1 (l : Launch) (D : va_G) (cI cD : ClassId) (h0 sz : Nat) (n : Nat) (hn : n ≤ 10000) : Met l yX1_init (.code yX1_init cX1_init 3 none :: lp_tbl) { frames := 1, cells := 2, slots := 2 * n, locals := 36 } (va_Pc [.ref h0, .int (nI n)] (fun U => U.heap.size = sz ∧ va_P D vwCl [(h0, .inr (1, [.null, .null]))] U.heap ∧ lp_Wd D cI cD U ∧ va_D (fun _ => True) [(h0, .inr (1, [.null, .null]))])) (va_Qv (fun _ : Nat → Nat => True) (fun q t => va_P D vwCl (wX1 cI cD h0 q n) t.heap ∧ lp_Wd D cI cD t ∧ va_D (va_A [(h0, .inr (1, [.null, .null]))] sz) (wX1 cI cD h0 q n)) (va_A [(h0, .inr (1, [.null, .null]))] sz)) 2 (2 * n) (va_A [(h0, .inr (1, [.null, .null]))] sz) := by
  refine Met.ofW (cc := cX1_init) (maxL := 3) (ret := none) (by decide) rfl ?_
  intro p e s m args below meth c s₁ B hml hv
  obtain ⟨rfl, hsz, hP, hWd, hD0⟩ := hv
  have hx := B.exec
  have hb := B.bytes
  have hr := B.returns
  have hts := atoms_spec (ws := Cond.code yX1_init cX1_init 3 none :: lp_tbl) B.pre
  have T : ∀ w ∈ lp_tbl, w.before ([.ref h0, .int (nI n)] : List Value).toArray s = true := fun w hw => hts w (List.mem_cons_of_mem _ hw)
  have hown : s.vm.findClass RX1 = some m.cls := findClass_of_methodNamed B.named
  have hlocks := B.notSynchronized
  have hin : meth.name = "<init>" := (name_of_methodNamed B.named B.method).1
  subst hsz
  have hD := hD0.self (sz := s.heap.size)
  generalize hAe : va_A [(h0, .inr (1, [.null, .null]))] s.heap.size = A at hD ⊢
  have hA : ∀ q : Nat, s.heap.size ≤ q → A q := fun q h => by rw [← hAe]; exact Or.inr h
  have hS : va_S A s.heap s.heap [] := va_S.rf
  have hl := lv_entry ([.ref h0, .int (nI n)]) (n := 3) (Nat.le_of_ble_eq_true rfl)
  rw [lg_entry_eq]
  generalize (lg_sl ([.ref h0, .int (nI n)]) ++ List.replicate (3 - (lg_sl ([.ref h0, .int (nI n)])).length) Slot.unset).toArray = ls at hl ⊢
  have hl : lv_has ls 3 [(0, .ref h0), (1, .int (nI n))] := hl
  have hRf : (headSpec (Cond.code yX1_init cX1_init 3 none :: lp_tbl) { frames := 1, cells := 2, slots := 2 * n, locals := 36 }).room.frames = 1 := rfl
  have hRl : (headSpec (Cond.code yX1_init cX1_init 3 none :: lp_tbl) { frames := 1, cells := 2, slots := 2 * n, locals := 36 }).room.locals = 36 := rfl
  have hRc : (headSpec (Cond.code yX1_init cX1_init 3 none :: lp_tbl) { frames := 1, cells := 2, slots := 2 * n, locals := 36 }).room.cells = 2 := rfl
  have hRs : (headSpec (Cond.code yX1_init cX1_init 3 none :: lp_tbl) { frames := 1, cells := 2, slots := 2 * n, locals := 36 }).room.slots = 2 * n := rfl
  refine lv_aload_n hx hb dX1_init_0 rfl (lv_at hl 0 rfl) ?_
  refine W.objInit hx hb hown (T (.methodLink RX1 3 objectInit) (by decide +kernel)) (T (.instanceMethod objectInit) (by decide +kernel)) (T (.code objectInit ⟨#[0xb1]⟩ 1 none) (by decide +kernel)) rfl (by rw [hml]; exact hl.1) rfl dX1_init_1 (Nat.le_of_ble_eq_true rfl) (Nat.le_of_ble_eq_true rfl) ?_
  refine W.eq (g2 := F0 m 4 ls []) rfl ?_
  refine lv_iload_n hx hb dX1_init_4 rfl (lv_at hl 1 rfl) ?_
  refine lv_iconst (v := 0) hx hb dX1_init_5 (by decide) ?_
  refine va_mmax hx hb (by rw [hml]; exact hl.1.symm) hown (T (.methodLink RX1 9 Lib.Math.max.name) (by decide +kernel)) (T (.static Lib.Math.max.name) (by decide +kernel)) (T (.initialized "java/lang/Math") (by decide +kernel)) (T (.code Lib.Math.max.name Lib.Math.max.code 2 (some .int)) (by decide +kernel)) (Nat.le_of_ble_eq_true rfl) (Nat.le_of_ble_eq_true rfl) (Nat.zero_le _) (Nat.zero_le _) dX1_init_6 ?_
  rw [show (if nI n < (0 : Int32) then (0 : Int32) else nI n) = nI n from if_neg (lp_nneg (by omega))]
  refine lv_istore_n (lv' := [(2, .int (nI n)), (0, .ref h0), (1, .int (nI n))]) hx hb dX1_init_9 rfl hl (by decide) rfl (fun ls hl => ?_)
  refine lv_aload_n hx hb dX1_init_10 rfl (lv_at hl 1 rfl) ?_
  refine lv_iload_n hx hb dX1_init_11 rfl (lv_at hl 0 rfl) ?_
  refine lp_newa (N' := n) hx hb T hWd hP hD hS hA (lp_nneg (by omega)) (lp_clm0 (by omega)) (by omega) (by rw [hRc]; exact Nat.le_of_ble_eq_true rfl) (by rw [hRs]; omega) dX1_init_12 (fun a12_9 H hP hD hS => ?_)
  refine W.widen (k := 1) (n := 1 * n) (by omega) (by omega) ?_
  have hP : va_P D vwCl [(h0, .inr (1, [.null, .null])), (a12_9, lp_z cI n)] H := hP
  have hD : va_D A [(h0, .inr (1, [.null, .null])), (a12_9, lp_z cI n)] := hD
  refine va_putF (D := D) (ci := 1) (v := .ref a12_9) (ty := .array .int) (C := RX1) (T := TX1) (N := 2) hx hb T lp_u1 tyX1 tyX1_ok nmX1 hown hWd.1 hP hD hS 0 rfl rfl 0 (by decide) (T (.fieldLink RX1 15 "LoadPress$Dealing" "counts" "[I") (by decide +kernel)) (fun _ h9 => h9) rfl hin rfl (by decide +kernel) rfl rfl (Nat.le_of_ble_eq_true rfl) dX1_init_14 (fun H locs hP hD hS => ?_)
  have hP : va_P D vwCl [(h0, .inr (1, [.ref a12_9, .null])), (a12_9, lp_z cI n)] H := hP
  have hD : va_D A [(h0, .inr (1, [.ref a12_9, .null])), (a12_9, lp_z cI n)] := hD
  refine lv_aload_n hx hb dX1_init_17 rfl (lv_at hl 1 rfl) ?_
  refine lv_iload_n hx hb dX1_init_18 rfl (lv_at hl 0 rfl) ?_
  refine lp_newa (N' := n) hx hb T hWd hP hD hS hA (lp_nneg (by omega)) (lp_clm0 (by omega)) (by omega) (by rw [hRc]; exact Nat.le_of_ble_eq_true rfl) (by rw [hRs]; omega) dX1_init_19 (fun a19_13 H hP hD hS => ?_)
  refine W.widen (k := 2) (n := 2 * n) (by omega) (by omega) ?_
  have hP : va_P D vwCl [(h0, .inr (1, [.ref a12_9, .null])), (a12_9, lp_z cI n), (a19_13, lp_z cI n)] H := hP
  have hD : va_D A [(h0, .inr (1, [.ref a12_9, .null])), (a12_9, lp_z cI n), (a19_13, lp_z cI n)] := hD
  refine va_putF (D := D) (ci := 1) (v := .ref a19_13) (ty := .array .int) (C := RX1) (T := TX1) (N := 2) hx hb T lp_u1 tyX1 tyX1_ok nmX1 hown hWd.1 hP hD hS 0 rfl rfl 1 (by decide) (T (.fieldLink RX1 21 "LoadPress$Dealing" "came" "[I") (by decide +kernel)) (fun _ h9 => h9) rfl hin rfl (by decide +kernel) rfl rfl (Nat.le_of_ble_eq_true rfl) dX1_init_21 (fun H locs hP hD hS => ?_)
  have hP : va_P D vwCl [(h0, .inr (1, [.ref a12_9, .ref a19_13])), (a12_9, lp_z cI n), (a19_13, lp_z cI n)] H := hP
  have hD : va_D A [(h0, .inr (1, [.ref a12_9, .ref a19_13])), (a12_9, lp_z cI n), (a19_13, lp_z cI n)] := hD
  have hP9 := hP.sub (ws' := [(h0, .inr (1, [.ref a12_9, .ref a19_13])), (a12_9, lp_z cI n), (a19_13, lp_z cI n)]) [0, 1, 2] rfl
  have hD9 := hD.sub (ws' := [(h0, .inr (1, [.ref a12_9, .ref a19_13])), (a12_9, lp_z cI n), (a19_13, lp_z cI n)]) [0, 1, 2] (by decide) rfl
  exact W.vret hx hb hr (fun t ht hW => ⟨⟨fun k => ([a12_9, a19_13] : List Nat).getD k 0, rfl, trivial, by rw [ht]; exact hP9, lp_Wd_move hW hWd, hD9⟩, hS.F ht⟩) hS.2.2 dX1_init_24
end
section
/-! ===== constructor of X4 ===== -/
theorem dX4_init_0 : decode cX4_init 0 = .ok (.aload_n 0, 1) := by decide +kernel
theorem dX4_init_1 : decode cX4_init 1 = .ok (.invokespecial 3, 3) := by decide +kernel
theorem dX4_init_4 : decode cX4_init 4 = .ok (.aload_n 0, 1) := by decide +kernel
theorem dX4_init_5 : decode cX4_init 5 = .ok (.sipush 1200, 3) := by decide +kernel
theorem dX4_init_8 : decode cX4_init 8 = .ok (.newarray .int, 2) := by decide +kernel
theorem dX4_init_10 : decode cX4_init 10 = .ok (.putfield 9, 3) := by decide +kernel
theorem dX4_init_13 : decode cX4_init 13 = .ok (.aload_n 0, 1) := by decide +kernel
theorem dX4_init_14 : decode cX4_init 14 = .ok (.sipush 1200, 3) := by decide +kernel
theorem dX4_init_17 : decode cX4_init 17 = .ok (.newarray .int, 2) := by decide +kernel
theorem dX4_init_19 : decode cX4_init 19 = .ok (.putfield 15, 3) := by decide +kernel
theorem dX4_init_22 : decode cX4_init 22 = .ok (.aload_n 0, 1) := by decide +kernel
theorem dX4_init_23 : decode cX4_init 23 = .ok (.bipush 61, 2) := by decide +kernel
theorem dX4_init_25 : decode cX4_init 25 = .ok (.newarray .int, 2) := by decide +kernel
theorem dX4_init_27 : decode cX4_init 27 = .ok (.putfield 18, 3) := by decide +kernel
theorem dX4_init_30 : decode cX4_init 30 = .ok (.return_, 1) := by decide +kernel
def wX4 (cI cD : ClassId) (h : Nat) (q : Nat → Nat) : va_W := [(h, .inr (4, [.ref (q 0), .ref (q 1), .ref (q 2), .int 0])), (q 0, lp_z cI 1200), (q 1, lp_z cI 1200), (q 2, lp_z cI 61)]
set_option maxHeartbeats 16000000 in
set_option maxRecDepth 100000 in
theorem ci_X4 (l : Launch) (D : va_G) (cI cD : ClassId) (h0 sz : Nat) : Met l yX4_init (.code yX4_init cX4_init 1 none :: lp_tbl) { frames := 1, cells := 3, slots := 2461, locals := 36 } (va_Pc [.ref h0] (fun U => U.heap.size = sz ∧ va_P D vwCl [(h0, .inr (4, [.null, .null, .null, .int 0]))] U.heap ∧ lp_Wd D cI cD U ∧ va_D (fun _ => True) [(h0, .inr (4, [.null, .null, .null, .int 0]))])) (va_Qv (fun _ : Nat → Nat => True) (fun q t => va_P D vwCl (wX4 cI cD h0 q) t.heap ∧ lp_Wd D cI cD t ∧ va_D (va_A [(h0, .inr (4, [.null, .null, .null, .int 0]))] sz) (wX4 cI cD h0 q)) (va_A [(h0, .inr (4, [.null, .null, .null, .int 0]))] sz)) 3 (2461) (va_A [(h0, .inr (4, [.null, .null, .null, .int 0]))] sz) := by
  refine Met.ofW (cc := cX4_init) (maxL := 1) (ret := none) (by decide) rfl ?_
  intro p e s m args below meth c s₁ B hml hv
  obtain ⟨rfl, hsz, hP, hWd, hD0⟩ := hv
  have hx := B.exec
  have hb := B.bytes
  have hr := B.returns
  have hts := atoms_spec (ws := Cond.code yX4_init cX4_init 1 none :: lp_tbl) B.pre
  have T : ∀ w ∈ lp_tbl, w.before ([.ref h0] : List Value).toArray s = true := fun w hw => hts w (List.mem_cons_of_mem _ hw)
  have hown : s.vm.findClass RX4 = some m.cls := findClass_of_methodNamed B.named
  have hlocks := B.notSynchronized
  have hin : meth.name = "<init>" := (name_of_methodNamed B.named B.method).1
  subst hsz
  have hD := hD0.self (sz := s.heap.size)
  generalize hAe : va_A [(h0, .inr (4, [.null, .null, .null, .int 0]))] s.heap.size = A at hD ⊢
  have hA : ∀ q : Nat, s.heap.size ≤ q → A q := fun q h => by rw [← hAe]; exact Or.inr h
  have hS : va_S A s.heap s.heap [] := va_S.rf
  have hl := lv_entry ([.ref h0]) (n := 1) (Nat.le_of_ble_eq_true rfl)
  rw [lg_entry_eq]
  generalize (lg_sl ([.ref h0]) ++ List.replicate (1 - (lg_sl ([.ref h0])).length) Slot.unset).toArray = ls at hl ⊢
  have hl : lv_has ls 1 [(0, .ref h0)] := hl
  have hRf : (headSpec (Cond.code yX4_init cX4_init 1 none :: lp_tbl) { frames := 1, cells := 3, slots := 2461, locals := 36 }).room.frames = 1 := rfl
  have hRl : (headSpec (Cond.code yX4_init cX4_init 1 none :: lp_tbl) { frames := 1, cells := 3, slots := 2461, locals := 36 }).room.locals = 36 := rfl
  have hRc : (headSpec (Cond.code yX4_init cX4_init 1 none :: lp_tbl) { frames := 1, cells := 3, slots := 2461, locals := 36 }).room.cells = 3 := rfl
  have hRs : (headSpec (Cond.code yX4_init cX4_init 1 none :: lp_tbl) { frames := 1, cells := 3, slots := 2461, locals := 36 }).room.slots = 2461 := rfl
  refine lv_aload_n hx hb dX4_init_0 rfl (lv_at hl 0 rfl) ?_
  refine W.objInit hx hb hown (T (.methodLink RX4 3 objectInit) (by decide +kernel)) (T (.instanceMethod objectInit) (by decide +kernel)) (T (.code objectInit ⟨#[0xb1]⟩ 1 none) (by decide +kernel)) rfl (by rw [hml]; exact hl.1) rfl dX4_init_1 (Nat.le_of_ble_eq_true rfl) (Nat.le_of_ble_eq_true rfl) ?_
  refine W.eq (g2 := F0 m 4 ls []) rfl ?_
  refine lv_aload_n hx hb dX4_init_4 rfl (lv_at hl 0 rfl) ?_
  refine lv_sipush (v := 1200) hx hb dX4_init_5 (by decide) ?_
  refine lp_newa (N' := 1200) hx hb T hWd hP hD hS hA (by decide) (by decide) (by omega) (by rw [hRc]; exact Nat.le_of_ble_eq_true rfl) (by rw [hRs]; exact Nat.le_of_ble_eq_true rfl) dX4_init_8 (fun a8_5 H hP hD hS => ?_)
  refine W.widen (k := 1) (n := 1200) (by omega) (by omega) ?_
  have hP : va_P D vwCl [(h0, .inr (4, [.null, .null, .null, .int 0])), (a8_5, lp_z cI 1200)] H := hP
  have hD : va_D A [(h0, .inr (4, [.null, .null, .null, .int 0])), (a8_5, lp_z cI 1200)] := hD
  refine va_putF (D := D) (ci := 4) (v := .ref a8_5) (ty := .array .int) (C := RX4) (T := TX4) (N := 4) hx hb T lp_u4 tyX4 tyX4_ok nmX4 hown hWd.1 hP hD hS 0 rfl rfl 0 (by decide) (T (.fieldLink RX4 9 "LoadPress$Visits" "pages" "[I") (by decide +kernel)) (fun _ h9 => h9) rfl hin rfl (by decide +kernel) rfl rfl (Nat.le_of_ble_eq_true rfl) dX4_init_10 (fun H locs hP hD hS => ?_)
  have hP : va_P D vwCl [(h0, .inr (4, [.ref a8_5, .null, .null, .int 0])), (a8_5, lp_z cI 1200)] H := hP
  have hD : va_D A [(h0, .inr (4, [.ref a8_5, .null, .null, .int 0])), (a8_5, lp_z cI 1200)] := hD
  refine lv_aload_n hx hb dX4_init_13 rfl (lv_at hl 0 rfl) ?_
  refine lv_sipush (v := 1200) hx hb dX4_init_14 (by decide) ?_
  refine lp_newa (N' := 1200) hx hb T hWd hP hD hS hA (by decide) (by decide) (by omega) (by rw [hRc]; exact Nat.le_of_ble_eq_true rfl) (by rw [hRs]; exact Nat.le_of_ble_eq_true rfl) dX4_init_17 (fun a17_9 H hP hD hS => ?_)
  refine W.widen (k := 2) (n := 2400) (by omega) (by omega) ?_
  have hP : va_P D vwCl [(h0, .inr (4, [.ref a8_5, .null, .null, .int 0])), (a8_5, lp_z cI 1200), (a17_9, lp_z cI 1200)] H := hP
  have hD : va_D A [(h0, .inr (4, [.ref a8_5, .null, .null, .int 0])), (a8_5, lp_z cI 1200), (a17_9, lp_z cI 1200)] := hD
  refine va_putF (D := D) (ci := 4) (v := .ref a17_9) (ty := .array .int) (C := RX4) (T := TX4) (N := 4) hx hb T lp_u4 tyX4 tyX4_ok nmX4 hown hWd.1 hP hD hS 0 rfl rfl 1 (by decide) (T (.fieldLink RX4 15 "LoadPress$Visits" "waits" "[I") (by decide +kernel)) (fun _ h9 => h9) rfl hin rfl (by decide +kernel) rfl rfl (Nat.le_of_ble_eq_true rfl) dX4_init_19 (fun H locs hP hD hS => ?_)
  have hP : va_P D vwCl [(h0, .inr (4, [.ref a8_5, .ref a17_9, .null, .int 0])), (a8_5, lp_z cI 1200), (a17_9, lp_z cI 1200)] H := hP
  have hD : va_D A [(h0, .inr (4, [.ref a8_5, .ref a17_9, .null, .int 0])), (a8_5, lp_z cI 1200), (a17_9, lp_z cI 1200)] := hD
  refine lv_aload_n hx hb dX4_init_22 rfl (lv_at hl 0 rfl) ?_
  refine lv_bipush (v := 61) hx hb dX4_init_23 (by decide) ?_
  refine lp_newa (N' := 61) hx hb T hWd hP hD hS hA (by decide) (by decide) (by omega) (by rw [hRc]; exact Nat.le_of_ble_eq_true rfl) (by rw [hRs]; exact Nat.le_of_ble_eq_true rfl) dX4_init_25 (fun a25_13 H hP hD hS => ?_)
  refine W.widen (k := 3) (n := 2461) (by omega) (by omega) ?_
  have hP : va_P D vwCl [(h0, .inr (4, [.ref a8_5, .ref a17_9, .null, .int 0])), (a8_5, lp_z cI 1200), (a17_9, lp_z cI 1200), (a25_13, lp_z cI 61)] H := hP
  have hD : va_D A [(h0, .inr (4, [.ref a8_5, .ref a17_9, .null, .int 0])), (a8_5, lp_z cI 1200), (a17_9, lp_z cI 1200), (a25_13, lp_z cI 61)] := hD
  refine va_putF (D := D) (ci := 4) (v := .ref a25_13) (ty := .array .int) (C := RX4) (T := TX4) (N := 4) hx hb T lp_u4 tyX4 tyX4_ok nmX4 hown hWd.1 hP hD hS 0 rfl rfl 2 (by decide) (T (.fieldLink RX4 18 "LoadPress$Visits" "starts" "[I") (by decide +kernel)) (fun _ h9 => h9) rfl hin rfl (by decide +kernel) rfl rfl (Nat.le_of_ble_eq_true rfl) dX4_init_27 (fun H locs hP hD hS => ?_)
  have hP : va_P D vwCl [(h0, .inr (4, [.ref a8_5, .ref a17_9, .ref a25_13, .int 0])), (a8_5, lp_z cI 1200), (a17_9, lp_z cI 1200), (a25_13, lp_z cI 61)] H := hP
  have hD : va_D A [(h0, .inr (4, [.ref a8_5, .ref a17_9, .ref a25_13, .int 0])), (a8_5, lp_z cI 1200), (a17_9, lp_z cI 1200), (a25_13, lp_z cI 61)] := hD
  have hP9 := hP.sub (ws' := [(h0, .inr (4, [.ref a8_5, .ref a17_9, .ref a25_13, .int 0])), (a8_5, lp_z cI 1200), (a17_9, lp_z cI 1200), (a25_13, lp_z cI 61)]) [0, 1, 2, 3] rfl
  have hD9 := hD.sub (ws' := [(h0, .inr (4, [.ref a8_5, .ref a17_9, .ref a25_13, .int 0])), (a8_5, lp_z cI 1200), (a17_9, lp_z cI 1200), (a25_13, lp_z cI 61)]) [0, 1, 2, 3] (by decide) rfl
  exact W.vret hx hb hr (fun t ht hW => ⟨⟨fun k => ([a8_5, a17_9, a25_13] : List Nat).getD k 0, rfl, trivial, by rw [ht]; exact hP9, lp_Wd_move hW hWd, hD9⟩, hS.F ht⟩) hS.2.2 dX4_init_30
end
section
/-! ===== constructor of X2 ===== -/
theorem dX2_init_0 : decode cX2_init 0 = .ok (.aload_n 0, 1) := by decide +kernel
theorem dX2_init_1 : decode cX2_init 1 = .ok (.invokespecial 3, 3) := by decide +kernel
theorem dX2_init_4 : decode cX2_init 4 = .ok (.aload_n 0, 1) := by decide +kernel
theorem dX2_init_5 : decode cX2_init 5 = .ok (.bipush 121, 2) := by decide +kernel
theorem dX2_init_7 : decode cX2_init 7 = .ok (.newarray .int, 2) := by decide +kernel
theorem dX2_init_9 : decode cX2_init 9 = .ok (.putfield 9, 3) := by decide +kernel
theorem dX2_init_12 : decode cX2_init 12 = .ok (.aload_n 0, 1) := by decide +kernel
theorem dX2_init_13 : decode cX2_init 13 = .ok (.bipush 121, 2) := by decide +kernel
theorem dX2_init_15 : decode cX2_init 15 = .ok (.newarray .int, 2) := by decide +kernel
theorem dX2_init_17 : decode cX2_init 17 = .ok (.putfield 15, 3) := by decide +kernel
theorem dX2_init_20 : decode cX2_init 20 = .ok (.aload_n 0, 1) := by decide +kernel
theorem dX2_init_21 : decode cX2_init 21 = .ok (.bipush 121, 2) := by decide +kernel
theorem dX2_init_23 : decode cX2_init 23 = .ok (.anewarray 18, 3) := by decide +kernel
theorem dX2_init_26 : decode cX2_init 26 = .ok (.putfield 20, 3) := by decide +kernel
theorem dX2_init_29 : decode cX2_init 29 = .ok (.return_, 1) := by decide +kernel
def wX2 (cI cD : ClassId) (h : Nat) (q : Nat → Nat) : va_W := [(h, .inr (2, [.ref (q 0), .ref (q 1), .ref (q 2)])), (q 0, lp_z cI 121), (q 1, lp_z cI 121), (q 2, .inl (cD, 121, .inr (.inr (.inr (.inr (fun _ => none))))))]
set_option maxHeartbeats 16000000 in
set_option maxRecDepth 100000 in
theorem ci_X2 (l : Launch) (D : va_G) (cI cD : ClassId) (h0 sz : Nat) : Met l yX2_init (.code yX2_init cX2_init 1 none :: lp_tbl) { frames := 1, cells := 3, slots := 363, locals := 36 } (va_Pc [.ref h0] (fun U => U.heap.size = sz ∧ va_P D vwCl [(h0, .inr (2, [.null, .null, .null]))] U.heap ∧ lp_Wc D cI cD U ∧ va_D (fun _ => True) [(h0, .inr (2, [.null, .null, .null]))])) (va_Qv (fun _ : Nat → Nat => True) (fun q t => va_P D vwCl (wX2 cI cD h0 q) t.heap ∧ lp_Wd D cI cD t ∧ va_D (va_A [(h0, .inr (2, [.null, .null, .null]))] sz) (wX2 cI cD h0 q)) (va_A [(h0, .inr (2, [.null, .null, .null]))] sz)) 3 (363) (va_A [(h0, .inr (2, [.null, .null, .null]))] sz) := by
  refine Met.ofW (cc := cX2_init) (maxL := 1) (ret := none) (by decide) rfl ?_
  intro p e s m args below meth c s₁ B hml hv
  obtain ⟨rfl, hsz, hP, ⟨hWd, hAO⟩, hD0⟩ := hv
  have hx := B.exec
  have hb := B.bytes
  have hr := B.returns
  have hts := atoms_spec (ws := Cond.code yX2_init cX2_init 1 none :: lp_tbl) B.pre
  have T : ∀ w ∈ lp_tbl, w.before ([.ref h0] : List Value).toArray s = true := fun w hw => hts w (List.mem_cons_of_mem _ hw)
  have hown : s.vm.findClass RX2 = some m.cls := findClass_of_methodNamed B.named
  have hlocks := B.notSynchronized
  have hin : meth.name = "<init>" := (name_of_methodNamed B.named B.method).1
  subst hsz
  have hD := hD0.self (sz := s.heap.size)
  generalize hAe : va_A [(h0, .inr (2, [.null, .null, .null]))] s.heap.size = A at hD ⊢
  have hA : ∀ q : Nat, s.heap.size ≤ q → A q := fun q h => by rw [← hAe]; exact Or.inr h
  have hS : va_S A s.heap s.heap [] := va_S.rf
  have hl := lv_entry ([.ref h0]) (n := 1) (Nat.le_of_ble_eq_true rfl)
  rw [lg_entry_eq]
  generalize (lg_sl ([.ref h0]) ++ List.replicate (1 - (lg_sl ([.ref h0])).length) Slot.unset).toArray = ls at hl ⊢
  have hl : lv_has ls 1 [(0, .ref h0)] := hl
  have hRf : (headSpec (Cond.code yX2_init cX2_init 1 none :: lp_tbl) { frames := 1, cells := 3, slots := 363, locals := 36 }).room.frames = 1 := rfl
  have hRl : (headSpec (Cond.code yX2_init cX2_init 1 none :: lp_tbl) { frames := 1, cells := 3, slots := 363, locals := 36 }).room.locals = 36 := rfl
  have hRc : (headSpec (Cond.code yX2_init cX2_init 1 none :: lp_tbl) { frames := 1, cells := 3, slots := 363, locals := 36 }).room.cells = 3 := rfl
  have hRs : (headSpec (Cond.code yX2_init cX2_init 1 none :: lp_tbl) { frames := 1, cells := 3, slots := 363, locals := 36 }).room.slots = 363 := rfl
  refine lv_aload_n hx hb dX2_init_0 rfl (lv_at hl 0 rfl) ?_
  refine W.objInit hx hb hown (T (.methodLink RX2 3 objectInit) (by decide +kernel)) (T (.instanceMethod objectInit) (by decide +kernel)) (T (.code objectInit ⟨#[0xb1]⟩ 1 none) (by decide +kernel)) rfl (by rw [hml]; exact hl.1) rfl dX2_init_1 (Nat.le_of_ble_eq_true rfl) (Nat.le_of_ble_eq_true rfl) ?_
  refine W.eq (g2 := F0 m 4 ls []) rfl ?_
  refine lv_aload_n hx hb dX2_init_4 rfl (lv_at hl 0 rfl) ?_
  refine lv_bipush (v := 121) hx hb dX2_init_5 (by decide) ?_
  refine lp_newa (N' := 121) hx hb T hWd hP hD hS hA (by decide) (by decide) (by omega) (by rw [hRc]; exact Nat.le_of_ble_eq_true rfl) (by rw [hRs]; exact Nat.le_of_ble_eq_true rfl) dX2_init_7 (fun a7_5 H hP hD hS => ?_)
  refine W.widen (k := 1) (n := 121) (by omega) (by omega) ?_
  have hP : va_P D vwCl [(h0, .inr (2, [.null, .null, .null])), (a7_5, lp_z cI 121)] H := hP
  have hD : va_D A [(h0, .inr (2, [.null, .null, .null])), (a7_5, lp_z cI 121)] := hD
  refine va_putF (D := D) (ci := 2) (v := .ref a7_5) (ty := .array .int) (C := RX2) (T := TX2) (N := 3) hx hb T lp_u2 tyX2 tyX2_ok nmX2 hown hWd.1 hP hD hS 0 rfl rfl 0 (by decide) (T (.fieldLink RX2 9 "LoadPress$Machine" "times" "[I") (by decide +kernel)) (fun _ h9 => h9) rfl hin rfl (by decide +kernel) rfl rfl (Nat.le_of_ble_eq_true rfl) dX2_init_9 (fun H locs hP hD hS => ?_)
  have hP : va_P D vwCl [(h0, .inr (2, [.ref a7_5, .null, .null])), (a7_5, lp_z cI 121)] H := hP
  have hD : va_D A [(h0, .inr (2, [.ref a7_5, .null, .null])), (a7_5, lp_z cI 121)] := hD
  refine lv_aload_n hx hb dX2_init_12 rfl (lv_at hl 0 rfl) ?_
  refine lv_bipush (v := 121) hx hb dX2_init_13 (by decide) ?_
  refine lp_newa (N' := 121) hx hb T hWd hP hD hS hA (by decide) (by decide) (by omega) (by rw [hRc]; exact Nat.le_of_ble_eq_true rfl) (by rw [hRs]; exact Nat.le_of_ble_eq_true rfl) dX2_init_15 (fun a15_9 H hP hD hS => ?_)
  refine W.widen (k := 2) (n := 242) (by omega) (by omega) ?_
  have hP : va_P D vwCl [(h0, .inr (2, [.ref a7_5, .null, .null])), (a7_5, lp_z cI 121), (a15_9, lp_z cI 121)] H := hP
  have hD : va_D A [(h0, .inr (2, [.ref a7_5, .null, .null])), (a7_5, lp_z cI 121), (a15_9, lp_z cI 121)] := hD
  refine va_putF (D := D) (ci := 2) (v := .ref a15_9) (ty := .array .int) (C := RX2) (T := TX2) (N := 3) hx hb T lp_u2 tyX2 tyX2_ok nmX2 hown hWd.1 hP hD hS 0 rfl rfl 1 (by decide) (T (.fieldLink RX2 15 "LoadPress$Machine" "rares" "[I") (by decide +kernel)) (fun _ h9 => h9) rfl hin rfl (by decide +kernel) rfl rfl (Nat.le_of_ble_eq_true rfl) dX2_init_17 (fun H locs hP hD hS => ?_)
  have hP : va_P D vwCl [(h0, .inr (2, [.ref a7_5, .ref a15_9, .null])), (a7_5, lp_z cI 121), (a15_9, lp_z cI 121)] H := hP
  have hD : va_D A [(h0, .inr (2, [.ref a7_5, .ref a15_9, .null])), (a7_5, lp_z cI 121), (a15_9, lp_z cI 121)] := hD
  refine lv_aload_n hx hb dX2_init_20 rfl (lv_at hl 0 rfl) ?_
  refine lv_bipush (v := 121) hx hb dX2_init_21 (by decide) ?_
  refine lp_newq (N' := 121) (index := 18) hx hb hown (T (.classLink RX2 18 RX1) (by decide +kernel)) hAO hWd hP hD hS hA (by decide) (by decide) (by omega) (by rw [hRc]; exact Nat.le_of_ble_eq_true rfl) (by rw [hRs]; exact Nat.le_of_ble_eq_true rfl) dX2_init_23 (fun a23_13 H hP hD hS => ?_)
  refine W.widen (k := 3) (n := 363) (by omega) (by omega) ?_
  have hP : va_P D vwCl [(h0, .inr (2, [.ref a7_5, .ref a15_9, .null])), (a7_5, lp_z cI 121), (a15_9, lp_z cI 121), (a23_13, .inl (cD, 121, .inr (.inr (.inr (.inr (fun _ => none))))))] H := hP
  have hD : va_D A [(h0, .inr (2, [.ref a7_5, .ref a15_9, .null])), (a7_5, lp_z cI 121), (a15_9, lp_z cI 121), (a23_13, .inl (cD, 121, .inr (.inr (.inr (.inr (fun _ => none))))))] := hD
  refine va_putF (D := D) (ci := 2) (v := .ref a23_13) (ty := .array (.object "LoadPress$Dealing")) (C := RX2) (T := TX2) (N := 3) hx hb T lp_u2 tyX2 tyX2_ok nmX2 hown hWd.1 hP hD hS 0 rfl rfl 2 (by decide) (T (.fieldLink RX2 20 "LoadPress$Machine" "waits" "[LLoadPress$Dealing;") (by decide +kernel)) (fun _ h9 => h9) rfl hin rfl (by decide +kernel) rfl rfl (Nat.le_of_ble_eq_true rfl) dX2_init_26 (fun H locs hP hD hS => ?_)
  have hP : va_P D vwCl [(h0, .inr (2, [.ref a7_5, .ref a15_9, .ref a23_13])), (a7_5, lp_z cI 121), (a15_9, lp_z cI 121), (a23_13, .inl (cD, 121, .inr (.inr (.inr (.inr (fun _ => none))))))] H := hP
  have hD : va_D A [(h0, .inr (2, [.ref a7_5, .ref a15_9, .ref a23_13])), (a7_5, lp_z cI 121), (a15_9, lp_z cI 121), (a23_13, .inl (cD, 121, .inr (.inr (.inr (.inr (fun _ => none))))))] := hD
  have hP9 := hP.sub (ws' := [(h0, .inr (2, [.ref a7_5, .ref a15_9, .ref a23_13])), (a7_5, lp_z cI 121), (a15_9, lp_z cI 121), (a23_13, .inl (cD, 121, .inr (.inr (.inr (.inr (fun _ => none))))))]) [0, 1, 2, 3] rfl
  have hD9 := hD.sub (ws' := [(h0, .inr (2, [.ref a7_5, .ref a15_9, .ref a23_13])), (a7_5, lp_z cI 121), (a15_9, lp_z cI 121), (a23_13, .inl (cD, 121, .inr (.inr (.inr (.inr (fun _ => none))))))]) [0, 1, 2, 3] (by decide) rfl
  exact W.vret hx hb hr (fun t ht hW => ⟨⟨fun k => ([a7_5, a15_9, a23_13] : List Nat).getD k 0, rfl, trivial, by rw [ht]; exact hP9, lp_Wd_move hW hWd, hD9⟩, hS.F ht⟩) hS.2.2 dX2_init_29
end
section
/-! ===== constructor of X0 ===== -/
theorem dX0_init_0 : decode cX0_init 0 = .ok (.aload_n 0, 1) := by decide +kernel
theorem dX0_init_1 : decode cX0_init 1 = .ok (.invokespecial 3, 3) := by decide +kernel
theorem dX0_init_4 : decode cX0_init 4 = .ok (.aload_n 0, 1) := by decide +kernel
theorem dX0_init_5 : decode cX0_init 5 = .ok (.sipush 1200, 3) := by decide +kernel
theorem dX0_init_8 : decode cX0_init 8 = .ok (.newarray .int, 2) := by decide +kernel
theorem dX0_init_10 : decode cX0_init 10 = .ok (.putfield 9, 3) := by decide +kernel
theorem dX0_init_13 : decode cX0_init 13 = .ok (.aload_n 0, 1) := by decide +kernel
theorem dX0_init_14 : decode cX0_init 14 = .ok (.sipush 1200, 3) := by decide +kernel
theorem dX0_init_17 : decode cX0_init 17 = .ok (.newarray .int, 2) := by decide +kernel
theorem dX0_init_19 : decode cX0_init 19 = .ok (.putfield 15, 3) := by decide +kernel
theorem dX0_init_22 : decode cX0_init 22 = .ok (.aload_n 0, 1) := by decide +kernel
theorem dX0_init_23 : decode cX0_init 23 = .ok (.bipush 11, 2) := by decide +kernel
theorem dX0_init_25 : decode cX0_init 25 = .ok (.newarray .int, 2) := by decide +kernel
theorem dX0_init_27 : decode cX0_init 27 = .ok (.putfield 18, 3) := by decide +kernel
theorem dX0_init_30 : decode cX0_init 30 = .ok (.aload_n 0, 1) := by decide +kernel
theorem dX0_init_31 : decode cX0_init 31 = .ok (.bipush 11, 2) := by decide +kernel
theorem dX0_init_33 : decode cX0_init 33 = .ok (.newarray .int, 2) := by decide +kernel
theorem dX0_init_35 : decode cX0_init 35 = .ok (.putfield 21, 3) := by decide +kernel
theorem dX0_init_38 : decode cX0_init 38 = .ok (.return_, 1) := by decide +kernel
def wX0 (cI cD : ClassId) (h : Nat) (q : Nat → Nat) : va_W := [(h, .inr (0, [.ref (q 0), .ref (q 1), .ref (q 2), .ref (q 3), .int 0])), (q 0, lp_z cI 1200), (q 1, lp_z cI 1200), (q 2, lp_z cI 11), (q 3, lp_z cI 11)]
set_option maxHeartbeats 16000000 in
set_option maxRecDepth 100000 in
theorem ci_X0 (l : Launch) (D : va_G) (cI cD : ClassId) (h0 sz : Nat) : Met l yX0_init (.code yX0_init cX0_init 1 none :: lp_tbl) { frames := 1, cells := 4, slots := 2422, locals := 36 } (va_Pc [.ref h0] (fun U => U.heap.size = sz ∧ va_P D vwCl [(h0, .inr (0, [.null, .null, .null, .null, .int 0]))] U.heap ∧ lp_Wd D cI cD U ∧ va_D (fun _ => True) [(h0, .inr (0, [.null, .null, .null, .null, .int 0]))])) (va_Qv (fun _ : Nat → Nat => True) (fun q t => va_P D vwCl (wX0 cI cD h0 q) t.heap ∧ lp_Wd D cI cD t ∧ va_D (va_A [(h0, .inr (0, [.null, .null, .null, .null, .int 0]))] sz) (wX0 cI cD h0 q)) (va_A [(h0, .inr (0, [.null, .null, .null, .null, .int 0]))] sz)) 4 (2422) (va_A [(h0, .inr (0, [.null, .null, .null, .null, .int 0]))] sz) := by
  refine Met.ofW (cc := cX0_init) (maxL := 1) (ret := none) (by decide) rfl ?_
  intro p e s m args below meth c s₁ B hml hv
  obtain ⟨rfl, hsz, hP, hWd, hD0⟩ := hv
  have hx := B.exec
  have hb := B.bytes
  have hr := B.returns
  have hts := atoms_spec (ws := Cond.code yX0_init cX0_init 1 none :: lp_tbl) B.pre
  have T : ∀ w ∈ lp_tbl, w.before ([.ref h0] : List Value).toArray s = true := fun w hw => hts w (List.mem_cons_of_mem _ hw)
  have hown : s.vm.findClass RX0 = some m.cls := findClass_of_methodNamed B.named
  have hlocks := B.notSynchronized
  have hin : meth.name = "<init>" := (name_of_methodNamed B.named B.method).1
  subst hsz
  have hD := hD0.self (sz := s.heap.size)
  generalize hAe : va_A [(h0, .inr (0, [.null, .null, .null, .null, .int 0]))] s.heap.size = A at hD ⊢
  have hA : ∀ q : Nat, s.heap.size ≤ q → A q := fun q h => by rw [← hAe]; exact Or.inr h
  have hS : va_S A s.heap s.heap [] := va_S.rf
  have hl := lv_entry ([.ref h0]) (n := 1) (Nat.le_of_ble_eq_true rfl)
  rw [lg_entry_eq]
  generalize (lg_sl ([.ref h0]) ++ List.replicate (1 - (lg_sl ([.ref h0])).length) Slot.unset).toArray = ls at hl ⊢
  have hl : lv_has ls 1 [(0, .ref h0)] := hl
  have hRf : (headSpec (Cond.code yX0_init cX0_init 1 none :: lp_tbl) { frames := 1, cells := 4, slots := 2422, locals := 36 }).room.frames = 1 := rfl
  have hRl : (headSpec (Cond.code yX0_init cX0_init 1 none :: lp_tbl) { frames := 1, cells := 4, slots := 2422, locals := 36 }).room.locals = 36 := rfl
  have hRc : (headSpec (Cond.code yX0_init cX0_init 1 none :: lp_tbl) { frames := 1, cells := 4, slots := 2422, locals := 36 }).room.cells = 4 := rfl
  have hRs : (headSpec (Cond.code yX0_init cX0_init 1 none :: lp_tbl) { frames := 1, cells := 4, slots := 2422, locals := 36 }).room.slots = 2422 := rfl
  refine lv_aload_n hx hb dX0_init_0 rfl (lv_at hl 0 rfl) ?_
  refine W.objInit hx hb hown (T (.methodLink RX0 3 objectInit) (by decide +kernel)) (T (.instanceMethod objectInit) (by decide +kernel)) (T (.code objectInit ⟨#[0xb1]⟩ 1 none) (by decide +kernel)) rfl (by rw [hml]; exact hl.1) rfl dX0_init_1 (Nat.le_of_ble_eq_true rfl) (Nat.le_of_ble_eq_true rfl) ?_
  refine W.eq (g2 := F0 m 4 ls []) rfl ?_
  refine lv_aload_n hx hb dX0_init_4 rfl (lv_at hl 0 rfl) ?_
  refine lv_sipush (v := 1200) hx hb dX0_init_5 (by decide) ?_
  refine lp_newa (N' := 1200) hx hb T hWd hP hD hS hA (by decide) (by decide) (by omega) (by rw [hRc]; exact Nat.le_of_ble_eq_true rfl) (by rw [hRs]; exact Nat.le_of_ble_eq_true rfl) dX0_init_8 (fun a8_5 H hP hD hS => ?_)
  refine W.widen (k := 1) (n := 1200) (by omega) (by omega) ?_
  have hP : va_P D vwCl [(h0, .inr (0, [.null, .null, .null, .null, .int 0])), (a8_5, lp_z cI 1200)] H := hP
  have hD : va_D A [(h0, .inr (0, [.null, .null, .null, .null, .int 0])), (a8_5, lp_z cI 1200)] := hD
  refine va_putF (D := D) (ci := 0) (v := .ref a8_5) (ty := .array .int) (C := RX0) (T := TX0) (N := 5) hx hb T lp_u0 tyX0 tyX0_ok nmX0 hown hWd.1 hP hD hS 0 rfl rfl 0 (by decide) (T (.fieldLink RX0 9 "LoadPress$Contexts" "comings" "[I") (by decide +kernel)) (fun _ h9 => h9) rfl hin rfl (by decide +kernel) rfl rfl (Nat.le_of_ble_eq_true rfl) dX0_init_10 (fun H locs hP hD hS => ?_)
  have hP : va_P D vwCl [(h0, .inr (0, [.ref a8_5, .null, .null, .null, .int 0])), (a8_5, lp_z cI 1200)] H := hP
  have hD : va_D A [(h0, .inr (0, [.ref a8_5, .null, .null, .null, .int 0])), (a8_5, lp_z cI 1200)] := hD
  refine lv_aload_n hx hb dX0_init_13 rfl (lv_at hl 0 rfl) ?_
  refine lv_sipush (v := 1200) hx hb dX0_init_14 (by decide) ?_
  refine lp_newa (N' := 1200) hx hb T hWd hP hD hS hA (by decide) (by decide) (by omega) (by rw [hRc]; exact Nat.le_of_ble_eq_true rfl) (by rw [hRs]; exact Nat.le_of_ble_eq_true rfl) dX0_init_17 (fun a17_9 H hP hD hS => ?_)
  refine W.widen (k := 2) (n := 2400) (by omega) (by omega) ?_
  have hP : va_P D vwCl [(h0, .inr (0, [.ref a8_5, .null, .null, .null, .int 0])), (a8_5, lp_z cI 1200), (a17_9, lp_z cI 1200)] H := hP
  have hD : va_D A [(h0, .inr (0, [.ref a8_5, .null, .null, .null, .int 0])), (a8_5, lp_z cI 1200), (a17_9, lp_z cI 1200)] := hD
  refine va_putF (D := D) (ci := 0) (v := .ref a17_9) (ty := .array .int) (C := RX0) (T := TX0) (N := 5) hx hb T lp_u0 tyX0 tyX0_ok nmX0 hown hWd.1 hP hD hS 0 rfl rfl 1 (by decide) (T (.fieldLink RX0 15 "LoadPress$Contexts" "unlike" "[I") (by decide +kernel)) (fun _ h9 => h9) rfl hin rfl (by decide +kernel) rfl rfl (Nat.le_of_ble_eq_true rfl) dX0_init_19 (fun H locs hP hD hS => ?_)
  have hP : va_P D vwCl [(h0, .inr (0, [.ref a8_5, .ref a17_9, .null, .null, .int 0])), (a8_5, lp_z cI 1200), (a17_9, lp_z cI 1200)] H := hP
  have hD : va_D A [(h0, .inr (0, [.ref a8_5, .ref a17_9, .null, .null, .int 0])), (a8_5, lp_z cI 1200), (a17_9, lp_z cI 1200)] := hD
  refine lv_aload_n hx hb dX0_init_22 rfl (lv_at hl 0 rfl) ?_
  refine lv_bipush (v := 11) hx hb dX0_init_23 (by decide) ?_
  refine lp_newa (N' := 11) hx hb T hWd hP hD hS hA (by decide) (by decide) (by omega) (by rw [hRc]; exact Nat.le_of_ble_eq_true rfl) (by rw [hRs]; exact Nat.le_of_ble_eq_true rfl) dX0_init_25 (fun a25_13 H hP hD hS => ?_)
  refine W.widen (k := 3) (n := 2411) (by omega) (by omega) ?_
  have hP : va_P D vwCl [(h0, .inr (0, [.ref a8_5, .ref a17_9, .null, .null, .int 0])), (a8_5, lp_z cI 1200), (a17_9, lp_z cI 1200), (a25_13, lp_z cI 11)] H := hP
  have hD : va_D A [(h0, .inr (0, [.ref a8_5, .ref a17_9, .null, .null, .int 0])), (a8_5, lp_z cI 1200), (a17_9, lp_z cI 1200), (a25_13, lp_z cI 11)] := hD
  refine va_putF (D := D) (ci := 0) (v := .ref a25_13) (ty := .array .int) (C := RX0) (T := TX0) (N := 5) hx hb T lp_u0 tyX0 tyX0_ok nmX0 hown hWd.1 hP hD hS 0 rfl rfl 2 (by decide) (T (.fieldLink RX0 18 "LoadPress$Contexts" "nextOfOne" "[I") (by decide +kernel)) (fun _ h9 => h9) rfl hin rfl (by decide +kernel) rfl rfl (Nat.le_of_ble_eq_true rfl) dX0_init_27 (fun H locs hP hD hS => ?_)
  have hP : va_P D vwCl [(h0, .inr (0, [.ref a8_5, .ref a17_9, .ref a25_13, .null, .int 0])), (a8_5, lp_z cI 1200), (a17_9, lp_z cI 1200), (a25_13, lp_z cI 11)] H := hP
  have hD : va_D A [(h0, .inr (0, [.ref a8_5, .ref a17_9, .ref a25_13, .null, .int 0])), (a8_5, lp_z cI 1200), (a17_9, lp_z cI 1200), (a25_13, lp_z cI 11)] := hD
  refine lv_aload_n hx hb dX0_init_30 rfl (lv_at hl 0 rfl) ?_
  refine lv_bipush (v := 11) hx hb dX0_init_31 (by decide) ?_
  refine lp_newa (N' := 11) hx hb T hWd hP hD hS hA (by decide) (by decide) (by omega) (by rw [hRc]; exact Nat.le_of_ble_eq_true rfl) (by rw [hRs]; exact Nat.le_of_ble_eq_true rfl) dX0_init_33 (fun a33_17 H hP hD hS => ?_)
  refine W.widen (k := 4) (n := 2422) (by omega) (by omega) ?_
  have hP : va_P D vwCl [(h0, .inr (0, [.ref a8_5, .ref a17_9, .ref a25_13, .null, .int 0])), (a8_5, lp_z cI 1200), (a17_9, lp_z cI 1200), (a25_13, lp_z cI 11), (a33_17, lp_z cI 11)] H := hP
  have hD : va_D A [(h0, .inr (0, [.ref a8_5, .ref a17_9, .ref a25_13, .null, .int 0])), (a8_5, lp_z cI 1200), (a17_9, lp_z cI 1200), (a25_13, lp_z cI 11), (a33_17, lp_z cI 11)] := hD
  refine va_putF (D := D) (ci := 0) (v := .ref a33_17) (ty := .array .int) (C := RX0) (T := TX0) (N := 5) hx hb T lp_u0 tyX0 tyX0_ok nmX0 hown hWd.1 hP hD hS 0 rfl rfl 3 (by decide) (T (.fieldLink RX0 21 "LoadPress$Contexts" "nextOfOther" "[I") (by decide +kernel)) (fun _ h9 => h9) rfl hin rfl (by decide +kernel) rfl rfl (Nat.le_of_ble_eq_true rfl) dX0_init_35 (fun H locs hP hD hS => ?_)
  have hP : va_P D vwCl [(h0, .inr (0, [.ref a8_5, .ref a17_9, .ref a25_13, .ref a33_17, .int 0])), (a8_5, lp_z cI 1200), (a17_9, lp_z cI 1200), (a25_13, lp_z cI 11), (a33_17, lp_z cI 11)] H := hP
  have hD : va_D A [(h0, .inr (0, [.ref a8_5, .ref a17_9, .ref a25_13, .ref a33_17, .int 0])), (a8_5, lp_z cI 1200), (a17_9, lp_z cI 1200), (a25_13, lp_z cI 11), (a33_17, lp_z cI 11)] := hD
  have hP9 := hP.sub (ws' := [(h0, .inr (0, [.ref a8_5, .ref a17_9, .ref a25_13, .ref a33_17, .int 0])), (a8_5, lp_z cI 1200), (a17_9, lp_z cI 1200), (a25_13, lp_z cI 11), (a33_17, lp_z cI 11)]) [0, 1, 2, 3, 4] rfl
  have hD9 := hD.sub (ws' := [(h0, .inr (0, [.ref a8_5, .ref a17_9, .ref a25_13, .ref a33_17, .int 0])), (a8_5, lp_z cI 1200), (a17_9, lp_z cI 1200), (a25_13, lp_z cI 11), (a33_17, lp_z cI 11)]) [0, 1, 2, 3, 4] (by decide) rfl
  exact W.vret hx hb hr (fun t ht hW => ⟨⟨fun k => ([a8_5, a17_9, a25_13, a33_17] : List Nat).getD k 0, rfl, trivial, by rw [ht]; exact hP9, lp_Wd_move hW hWd, hD9⟩, hS.F ht⟩) hS.2.2 dX0_init_38
end
section
/-! ===== constructor of X5 ===== -/
theorem dX5_init_0 : decode cX5_init 0 = .ok (.aload_n 0, 1) := by decide +kernel
theorem dX5_init_1 : decode cX5_init 1 = .ok (.invokespecial 3, 3) := by decide +kernel
theorem dX5_init_4 : decode cX5_init 4 = .ok (.aload_n 0, 1) := by decide +kernel
theorem dX5_init_5 : decode cX5_init 5 = .ok (.bipush 11, 2) := by decide +kernel
theorem dX5_init_7 : decode cX5_init 7 = .ok (.anewarray 9, 3) := by decide +kernel
theorem dX5_init_10 : decode cX5_init 10 = .ok (.putfield 11, 3) := by decide +kernel
theorem dX5_init_13 : decode cX5_init 13 = .ok (.iconst 0, 1) := by decide +kernel
theorem dX5_init_14 : decode cX5_init 14 = .ok (.istore_n 1, 1) := by decide +kernel
theorem dX5_init_15 : decode cX5_init 15 = .ok (.iload_n 1, 1) := by decide +kernel
theorem dX5_init_16 : decode cX5_init 16 = .ok (.bipush 11, 2) := by decide +kernel
theorem dX5_init_18 : decode cX5_init 18 = .ok (.if_icmp .ge 24, 3) := by decide +kernel
theorem dX5_init_21 : decode cX5_init 21 = .ok (.aload_n 0, 1) := by decide +kernel
theorem dX5_init_22 : decode cX5_init 22 = .ok (.getfield 11, 3) := by decide +kernel
theorem dX5_init_25 : decode cX5_init 25 = .ok (.iload_n 1, 1) := by decide +kernel
theorem dX5_init_26 : decode cX5_init 26 = .ok (.new 9, 3) := by decide +kernel
theorem dX5_init_29 : decode cX5_init 29 = .ok (.dup, 1) := by decide +kernel
theorem dX5_init_30 : decode cX5_init 30 = .ok (.bipush 11, 2) := by decide +kernel
theorem dX5_init_32 : decode cX5_init 32 = .ok (.invokespecial 17, 3) := by decide +kernel
theorem dX5_init_35 : decode cX5_init 35 = .ok (.aastore, 1) := by decide +kernel
theorem dX5_init_36 : decode cX5_init 36 = .ok (.iinc 1 1, 3) := by decide +kernel
theorem dX5_init_39 : decode cX5_init 39 = .ok (.goto (-24), 3) := by decide +kernel
theorem dX5_init_42 : decode cX5_init 42 = .ok (.return_, 1) := by decide +kernel
def wX5 (cI cD : ClassId) (h : Nat) (q : Nat → Nat) : va_W := [(h, .inr (5, [.ref (q 0)])), (q 0, .inl (cD, 11, .inr (.inr (.inr (.inr (va_up (va_up (va_up (va_up (va_up (va_up (va_up (va_up (va_up (va_up (va_up (fun _ => none) 0 (some ((q 1)))) 1 (some ((q 4)))) 2 (some ((q 7)))) 3 (some ((q 10)))) 4 (some ((q 13)))) 5 (some ((q 16)))) 6 (some ((q 19)))) 7 (some ((q 22)))) 8 (some ((q 25)))) 9 (some ((q 28)))) 10 (some ((q 31))))))))), (q 1, .inr (1, [.ref (q 2), .ref (q 3)])), (q 2, lp_z cI 11), (q 3, lp_z cI 11), (q 4, .inr (1, [.ref (q 5), .ref (q 6)])), (q 5, lp_z cI 11), (q 6, lp_z cI 11), (q 7, .inr (1, [.ref (q 8), .ref (q 9)])), (q 8, lp_z cI 11), (q 9, lp_z cI 11), (q 10, .inr (1, [.ref (q 11), .ref (q 12)])), (q 11, lp_z cI 11), (q 12, lp_z cI 11), (q 13, .inr (1, [.ref (q 14), .ref (q 15)])), (q 14, lp_z cI 11), (q 15, lp_z cI 11), (q 16, .inr (1, [.ref (q 17), .ref (q 18)])), (q 17, lp_z cI 11), (q 18, lp_z cI 11), (q 19, .inr (1, [.ref (q 20), .ref (q 21)])), (q 20, lp_z cI 11), (q 21, lp_z cI 11), (q 22, .inr (1, [.ref (q 23), .ref (q 24)])), (q 23, lp_z cI 11), (q 24, lp_z cI 11), (q 25, .inr (1, [.ref (q 26), .ref (q 27)])), (q 26, lp_z cI 11), (q 27, lp_z cI 11), (q 28, .inr (1, [.ref (q 29), .ref (q 30)])), (q 29, lp_z cI 11), (q 30, lp_z cI 11), (q 31, .inr (1, [.ref (q 32), .ref (q 33)])), (q 32, lp_z cI 11), (q 33, lp_z cI 11)]
set_option maxHeartbeats 16000000 in
set_option maxRecDepth 100000 in
theorem ci_X5 (l : Launch) (D : va_G) (cI cD : ClassId) (h0 sz : Nat) : Met l yX5_init (.code yX5_init cX5_init 2 none :: lp_tbl) { frames := 2, cells := 34, slots := 275, locals := 72 } (va_Pc [.ref h0] (fun U => U.heap.size = sz ∧ va_P D vwCl [(h0, .inr (5, [.null]))] U.heap ∧ lp_Wc D cI cD U ∧ va_D (fun _ => True) [(h0, .inr (5, [.null]))])) (va_Qv (fun _ : Nat → Nat => True) (fun q t => va_P D vwCl (wX5 cI cD h0 q) t.heap ∧ lp_Wd D cI cD t ∧ va_D (va_A [(h0, .inr (5, [.null]))] sz) (wX5 cI cD h0 q)) (va_A [(h0, .inr (5, [.null]))] sz)) 34 (275) (va_A [(h0, .inr (5, [.null]))] sz) := by
  refine Met.ofW (cc := cX5_init) (maxL := 2) (ret := none) (by decide) rfl ?_
  intro p e s m args below meth c s₁ B hml hv
  obtain ⟨rfl, hsz, hP, ⟨hWd, hAO⟩, hD0⟩ := hv
  have hx := B.exec
  have hb := B.bytes
  have hr := B.returns
  have hts := atoms_spec (ws := Cond.code yX5_init cX5_init 2 none :: lp_tbl) B.pre
  have T : ∀ w ∈ lp_tbl, w.before ([.ref h0] : List Value).toArray s = true := fun w hw => hts w (List.mem_cons_of_mem _ hw)
  have hown : s.vm.findClass RX5 = some m.cls := findClass_of_methodNamed B.named
  have hlocks := B.notSynchronized
  have hin : meth.name = "<init>" := (name_of_methodNamed B.named B.method).1
  subst hsz
  have hD := hD0.self (sz := s.heap.size)
  generalize hAe : va_A [(h0, .inr (5, [.null]))] s.heap.size = A at hD ⊢
  have hA : ∀ q : Nat, s.heap.size ≤ q → A q := fun q h => by rw [← hAe]; exact Or.inr h
  have hS : va_S A s.heap s.heap [] := va_S.rf
  have hl := lv_entry ([.ref h0]) (n := 2) (Nat.le_of_ble_eq_true rfl)
  rw [lg_entry_eq]
  generalize (lg_sl ([.ref h0]) ++ List.replicate (2 - (lg_sl ([.ref h0])).length) Slot.unset).toArray = ls at hl ⊢
  have hl : lv_has ls 2 [(0, .ref h0)] := hl
  have hRf : (headSpec (Cond.code yX5_init cX5_init 2 none :: lp_tbl) { frames := 2, cells := 34, slots := 275, locals := 72 }).room.frames = 2 := rfl
  have hRl : (headSpec (Cond.code yX5_init cX5_init 2 none :: lp_tbl) { frames := 2, cells := 34, slots := 275, locals := 72 }).room.locals = 72 := rfl
  have hRc : (headSpec (Cond.code yX5_init cX5_init 2 none :: lp_tbl) { frames := 2, cells := 34, slots := 275, locals := 72 }).room.cells = 34 := rfl
  have hRs : (headSpec (Cond.code yX5_init cX5_init 2 none :: lp_tbl) { frames := 2, cells := 34, slots := 275, locals := 72 }).room.slots = 275 := rfl
  refine lv_aload_n hx hb dX5_init_0 rfl (lv_at hl 0 rfl) ?_
  refine W.objInit hx hb hown (T (.methodLink RX5 3 objectInit) (by decide +kernel)) (T (.instanceMethod objectInit) (by decide +kernel)) (T (.code objectInit ⟨#[0xb1]⟩ 1 none) (by decide +kernel)) rfl (by rw [hml]; exact hl.1) rfl dX5_init_1 (Nat.le_of_ble_eq_true rfl) (Nat.le_of_ble_eq_true rfl) ?_
  refine W.eq (g2 := F0 m 4 ls []) rfl ?_
  refine lv_aload_n hx hb dX5_init_4 rfl (lv_at hl 0 rfl) ?_
  refine lv_bipush (v := 11) hx hb dX5_init_5 (by decide) ?_
  refine lp_newq (N' := 11) (index := 9) hx hb hown (T (.classLink RX5 9 RX1) (by decide +kernel)) hAO hWd hP hD hS hA (by decide) (by decide) (by omega) (by rw [hRc]; exact Nat.le_of_ble_eq_true rfl) (by rw [hRs]; exact Nat.le_of_ble_eq_true rfl) dX5_init_7 (fun a7_5 H hP hD hS => ?_)
  refine W.widen (k := 1) (n := 11) (by omega) (by omega) ?_
  have hP : va_P D vwCl [(h0, .inr (5, [.null])), (a7_5, .inl (cD, 11, .inr (.inr (.inr (.inr (fun _ => none))))))] H := hP
  have hD : va_D A [(h0, .inr (5, [.null])), (a7_5, .inl (cD, 11, .inr (.inr (.inr (.inr (fun _ => none))))))] := hD
  refine va_putF (D := D) (ci := 5) (v := .ref a7_5) (ty := .array (.object "LoadPress$Dealing")) (C := RX5) (T := TX5) (N := 1) hx hb T lp_u5 tyX5 tyX5_ok nmX5 hown hWd.1 hP hD hS 0 rfl rfl 0 (by decide) (T (.fieldLink RX5 11 "LoadPress$Walker" "places" "[LLoadPress$Dealing;") (by decide +kernel)) (fun _ h9 => h9) rfl hin rfl (by decide +kernel) rfl rfl (Nat.le_of_ble_eq_true rfl) dX5_init_10 (fun H locs hP hD hS => ?_)
  have hP : va_P D vwCl [(h0, .inr (5, [.ref a7_5])), (a7_5, .inl (cD, 11, .inr (.inr (.inr (.inr (fun _ => none))))))] H := hP
  have hD : va_D A [(h0, .inr (5, [.ref a7_5])), (a7_5, .inl (cD, 11, .inr (.inr (.inr (.inr (fun _ => none))))))] := hD
  refine lv_iconst (v := 0) hx hb dX5_init_13 (by decide) ?_
  refine lv_istore_n (lv' := [(1, .int 0), (0, .ref h0)]) hx hb dX5_init_14 rfl hl (by decide) rfl (fun ls hl => ?_)
  refine lv_iload_n hx hb dX5_init_15 rfl (lv_at hl 0 rfl) ?_
  refine lv_bipush (v := 11) hx hb dX5_init_16 (by decide) ?_
  refine lv_icmp_ge (tgt := 42) hx hb dX5_init_18 (by decide) (fun q => absurd q (by decide)) (fun _ => ?_)
  refine lv_aload_n hx hb dX5_init_21 rfl (lv_at hl 1 rfl) ?_
  refine va_get (D := D) (ci := 5) (v := .ref a7_5) (C := RX5) (T := TX5) (N := 1) hx hb T lp_u5 hown hWd.1 hP 0 rfl rfl 0 (by decide) (T (.fieldLink RX5 11 "LoadPress$Walker" "places" "[LLoadPress$Dealing;") (by decide +kernel)) (fun _ h9 => h9) rfl dX5_init_22 ?_
  refine lv_iload_n hx hb dX5_init_25 rfl (lv_at hl 0 rfl) ?_
  refine va_new (ci := 1) (fs := [.null, .null]) (C := RX1) (T := TX1) (N := 2) hx hb T lp_u1 tyX1 tyX1_ok hown (T (.classLink RX5 9 RX1) (by decide +kernel)) (T (.instantiable RX1 2) (by decide +kernel)) (T (.initialized RX1) (by decide +kernel)) hWd.1 hP hD hS hA rfl (fun j hj => by rcases (show j = 0 ∨ j = 1 by omega) with rfl | rfl <;> rfl) (by rw [hRc]; exact Nat.le_of_ble_eq_true rfl) (by rw [hRs]; exact Nat.le_of_ble_eq_true rfl) dX5_init_26 (fun a26_15 H hP hD hS => ?_)
  refine W.widen (k := 2) (n := 13) (by omega) (by omega) ?_
  have hP : va_P D vwCl [(h0, .inr (5, [.ref a7_5])), (a7_5, .inl (cD, 11, .inr (.inr (.inr (.inr (fun _ => none)))))), (a26_15, .inr (1, [.null, .null]))] H := hP
  have hD : va_D A [(h0, .inr (5, [.ref a7_5])), (a7_5, .inl (cD, 11, .inr (.inr (.inr (.inr (fun _ => none)))))), (a26_15, .inr (1, [.null, .null]))] := hD
  refine lv_dup hx hb dX5_init_29 rfl ?_
  refine lv_bipush (v := 11) hx hb dX5_init_30 (by decide) ?_
  have hPc := hP.sub (ws' := [(a26_15, .inr (1, [.null, .null]))]) [2] rfl
  have hDc := hD.sub (ws' := [(a26_15, .inr (1, [.null, .null]))]) [2] (by decide) rfl
  have hFc := va_free (wc := [(a26_15, .inr (1, [.null, .null]))]) hD hS hA [2] rfl
  have eA : (.int 11 : Value) = .int (nI 11) := rfl
  refine va_callv (va_runI (As := [.int 11]) (rest := [.ref a26_15, .int 0, .ref a7_5]) ⟨hx, hb, hml, hown, hts⟩ (ci_X1 l D cI cD a26_15 H.size 11 (by omega)) (cwI 1 hts (lp_good (w0 := Cond.code yX5_init cX5_init 2 none) (y := yX1_init) (bytes := cX1_init) (nL := 3) (ret := none) (by decide +kernel)) rfl rfl rfl (T (.initialized RX1) (by decide +kernel)) (T (.methodLink RX5 17 yX1_init) (by decide +kernel)) (T (.instanceMethod yX1_init) (by decide +kernel)) rfl (by decide +kernel) ⟨by rw [hRf]; exact Nat.le_of_ble_eq_true rfl, by rw [hRl]; exact Nat.le_of_ble_eq_true rfl⟩) ⟨fun a U g mk q => by obtain ⟨q0, q1, qP, qW, qD⟩ := q; exact ⟨q0, q1, qP, lp_Wd_call qW, qD⟩, fun U hU hW => ⟨rfl, by rw [hU], by rw [hU]; exact hPc, lp_Wd_move hW hWd, hDc.weaken (fun _ _ _ _ => trivial)⟩⟩ rfl rfl hl.1 rfl (lv_room (Nat.le_of_ble_eq_true rfl)) dX5_init_32 ⟨by rw [hRc]; exact Nat.le_of_ble_eq_true rfl, by rw [hRs]; exact Nat.le_of_ble_eq_true rfl⟩) hS (fun q _ h => hFc q h) hFc (fun Q0 t H1 locs ht hvm hw hB hz1 hk1 hS => ?_)
  obtain ⟨hP1, hW1, hD1⟩ := hB
  rw [ht] at hP1
  unfold wX1 at hP1 hD1
  obtain ⟨hP, hD⟩ := va_join (wr := [(h0, .inr (5, [.ref a7_5])), (a7_5, .inl (cD, 11, .inr (.inr (.inr (.inr (fun _ => none))))))]) (w1 := [(a26_15, .inr (1, [.ref (Q0 0), .ref (Q0 1)])), ((Q0 0), lp_z cI 11), ((Q0 1), lp_z cI 11)]) hP hD [2] [0, 1] rfl rfl (by decide) (by decide) hk1 hFc hP1 hD1
  generalize H1 = H at hP hS ⊢
  refine W.widen (k := 4) (n := 35) (by omega) (by omega) ?_
  have hP : va_P D vwCl [(h0, .inr (5, [.ref a7_5])), (a7_5, .inl (cD, 11, .inr (.inr (.inr (.inr (fun _ => none)))))), (a26_15, .inr (1, [.ref (Q0 0), .ref (Q0 1)])), ((Q0 0), lp_z cI 11), ((Q0 1), lp_z cI 11)] H := hP
  have hD : va_D A [(h0, .inr (5, [.ref a7_5])), (a7_5, .inl (cD, 11, .inr (.inr (.inr (.inr (fun _ => none)))))), (a26_15, .inr (1, [.ref (Q0 0), .ref (Q0 1)])), ((Q0 0), lp_z cI 11), ((Q0 1), lp_z cI 11)] := hD
  refine va_astq hx hb hWd.1 hP hD hS 1 1 2 1 rfl rfl rfl rfl (lp_vin (a := 0) (by omega) (by omega)) dX5_init_35 (fun H locs hP hD hS => ?_)
  have hP : va_P D vwCl [(h0, .inr (5, [.ref a7_5])), (a7_5, .inl (cD, 11, .inr (.inr (.inr (.inr (va_up (fun _ => none) 0 (some (a26_15)))))))), (a26_15, .inr (1, [.ref (Q0 0), .ref (Q0 1)])), ((Q0 0), lp_z cI 11), ((Q0 1), lp_z cI 11)] H := hP
  have hD : va_D A [(h0, .inr (5, [.ref a7_5])), (a7_5, .inl (cD, 11, .inr (.inr (.inr (.inr (va_up (fun _ => none) 0 (some (a26_15)))))))), (a26_15, .inr (1, [.ref (Q0 0), .ref (Q0 1)])), ((Q0 0), lp_z cI 11), ((Q0 1), lp_z cI 11)] := hD
  refine lv_iinc (v := 1) (lv' := [(1, .int 1), (0, .ref h0)]) hx hb dX5_init_36 hl (k := 0) rfl (by decide) (by decide) rfl (fun ls hl => ?_)
  refine lv_goto (tgt := 15) hx hb dX5_init_39 (by decide) ?_
  refine lv_iload_n hx hb dX5_init_15 rfl (lv_at hl 0 rfl) ?_
  refine lv_bipush (v := 11) hx hb dX5_init_16 (by decide) ?_
  refine lv_icmp_ge (tgt := 42) hx hb dX5_init_18 (by decide) (fun q => absurd q (by decide)) (fun _ => ?_)
  refine lv_aload_n hx hb dX5_init_21 rfl (lv_at hl 1 rfl) ?_
  refine va_get (D := D) (ci := 5) (v := .ref a7_5) (C := RX5) (T := TX5) (N := 1) hx hb T lp_u5 hown hWd.1 hP 0 rfl rfl 0 (by decide) (T (.fieldLink RX5 11 "LoadPress$Walker" "places" "[LLoadPress$Dealing;") (by decide +kernel)) (fun _ h9 => h9) rfl dX5_init_22 ?_
  refine lv_iload_n hx hb dX5_init_25 rfl (lv_at hl 0 rfl) ?_
  refine va_new (ci := 1) (fs := [.null, .null]) (C := RX1) (T := TX1) (N := 2) hx hb T lp_u1 tyX1 tyX1_ok hown (T (.classLink RX5 9 RX1) (by decide +kernel)) (T (.instantiable RX1 2) (by decide +kernel)) (T (.initialized RX1) (by decide +kernel)) hWd.1 hP hD hS hA rfl (fun j hj => by rcases (show j = 0 ∨ j = 1 by omega) with rfl | rfl <;> rfl) (by rw [hRc]; exact Nat.le_of_ble_eq_true rfl) (by rw [hRs]; exact Nat.le_of_ble_eq_true rfl) dX5_init_26 (fun a26_28 H hP hD hS => ?_)
  refine W.widen (k := 5) (n := 37) (by omega) (by omega) ?_
  have hP : va_P D vwCl [(h0, .inr (5, [.ref a7_5])), (a7_5, .inl (cD, 11, .inr (.inr (.inr (.inr (va_up (fun _ => none) 0 (some (a26_15)))))))), (a26_15, .inr (1, [.ref (Q0 0), .ref (Q0 1)])), ((Q0 0), lp_z cI 11), ((Q0 1), lp_z cI 11), (a26_28, .inr (1, [.null, .null]))] H := hP
  have hD : va_D A [(h0, .inr (5, [.ref a7_5])), (a7_5, .inl (cD, 11, .inr (.inr (.inr (.inr (va_up (fun _ => none) 0 (some (a26_15)))))))), (a26_15, .inr (1, [.ref (Q0 0), .ref (Q0 1)])), ((Q0 0), lp_z cI 11), ((Q0 1), lp_z cI 11), (a26_28, .inr (1, [.null, .null]))] := hD
  refine lv_dup hx hb dX5_init_29 rfl ?_
  refine lv_bipush (v := 11) hx hb dX5_init_30 (by decide) ?_
  have hPc := hP.sub (ws' := [(a26_28, .inr (1, [.null, .null]))]) [5] rfl
  have hDc := hD.sub (ws' := [(a26_28, .inr (1, [.null, .null]))]) [5] (by decide) rfl
  have hFc := va_free (wc := [(a26_28, .inr (1, [.null, .null]))]) hD hS hA [5] rfl
  have eA : (.int 11 : Value) = .int (nI 11) := rfl
  refine va_callv (va_runI (As := [.int 11]) (rest := [.ref a26_28, .int 1, .ref a7_5]) ⟨hx, hb, hml, hown, hts⟩ (ci_X1 l D cI cD a26_28 H.size 11 (by omega)) (cwI 1 hts (lp_good (w0 := Cond.code yX5_init cX5_init 2 none) (y := yX1_init) (bytes := cX1_init) (nL := 3) (ret := none) (by decide +kernel)) rfl rfl rfl (T (.initialized RX1) (by decide +kernel)) (T (.methodLink RX5 17 yX1_init) (by decide +kernel)) (T (.instanceMethod yX1_init) (by decide +kernel)) rfl (by decide +kernel) ⟨by rw [hRf]; exact Nat.le_of_ble_eq_true rfl, by rw [hRl]; exact Nat.le_of_ble_eq_true rfl⟩) ⟨fun a U g mk q => by obtain ⟨q0, q1, qP, qW, qD⟩ := q; exact ⟨q0, q1, qP, lp_Wd_call qW, qD⟩, fun U hU hW => ⟨rfl, by rw [hU], by rw [hU]; exact hPc, lp_Wd_move hW hWd, hDc.weaken (fun _ _ _ _ => trivial)⟩⟩ rfl rfl hl.1 rfl (lv_room (Nat.le_of_ble_eq_true rfl)) dX5_init_32 ⟨by rw [hRc]; exact Nat.le_of_ble_eq_true rfl, by rw [hRs]; exact Nat.le_of_ble_eq_true rfl⟩) hS (fun q _ h => hFc q h) hFc (fun Q1 t H1 locs ht hvm hw hB hz1 hk1 hS => ?_)
  obtain ⟨hP1, hW1, hD1⟩ := hB
  rw [ht] at hP1
  unfold wX1 at hP1 hD1
  obtain ⟨hP, hD⟩ := va_join (wr := [(h0, .inr (5, [.ref a7_5])), (a7_5, .inl (cD, 11, .inr (.inr (.inr (.inr (va_up (fun _ => none) 0 (some (a26_15)))))))), (a26_15, .inr (1, [.ref (Q0 0), .ref (Q0 1)])), ((Q0 0), lp_z cI 11), ((Q0 1), lp_z cI 11)]) (w1 := [(a26_28, .inr (1, [.ref (Q1 0), .ref (Q1 1)])), ((Q1 0), lp_z cI 11), ((Q1 1), lp_z cI 11)]) hP hD [5] [0, 1, 2, 3, 4] rfl rfl (by decide) (by decide) hk1 hFc hP1 hD1
  generalize H1 = H at hP hS ⊢
  refine W.widen (k := 7) (n := 59) (by omega) (by omega) ?_
  have hP : va_P D vwCl [(h0, .inr (5, [.ref a7_5])), (a7_5, .inl (cD, 11, .inr (.inr (.inr (.inr (va_up (fun _ => none) 0 (some (a26_15)))))))), (a26_15, .inr (1, [.ref (Q0 0), .ref (Q0 1)])), ((Q0 0), lp_z cI 11), ((Q0 1), lp_z cI 11), (a26_28, .inr (1, [.ref (Q1 0), .ref (Q1 1)])), ((Q1 0), lp_z cI 11), ((Q1 1), lp_z cI 11)] H := hP
  have hD : va_D A [(h0, .inr (5, [.ref a7_5])), (a7_5, .inl (cD, 11, .inr (.inr (.inr (.inr (va_up (fun _ => none) 0 (some (a26_15)))))))), (a26_15, .inr (1, [.ref (Q0 0), .ref (Q0 1)])), ((Q0 0), lp_z cI 11), ((Q0 1), lp_z cI 11), (a26_28, .inr (1, [.ref (Q1 0), .ref (Q1 1)])), ((Q1 0), lp_z cI 11), ((Q1 1), lp_z cI 11)] := hD
  refine va_astq hx hb hWd.1 hP hD hS 1 1 5 1 rfl rfl rfl rfl (lp_vin (a := 1) (by omega) (by omega)) dX5_init_35 (fun H locs hP hD hS => ?_)
  have hP : va_P D vwCl [(h0, .inr (5, [.ref a7_5])), (a7_5, .inl (cD, 11, .inr (.inr (.inr (.inr (va_up (va_up (fun _ => none) 0 (some (a26_15))) 1 (some (a26_28)))))))), (a26_15, .inr (1, [.ref (Q0 0), .ref (Q0 1)])), ((Q0 0), lp_z cI 11), ((Q0 1), lp_z cI 11), (a26_28, .inr (1, [.ref (Q1 0), .ref (Q1 1)])), ((Q1 0), lp_z cI 11), ((Q1 1), lp_z cI 11)] H := hP
  have hD : va_D A [(h0, .inr (5, [.ref a7_5])), (a7_5, .inl (cD, 11, .inr (.inr (.inr (.inr (va_up (va_up (fun _ => none) 0 (some (a26_15))) 1 (some (a26_28)))))))), (a26_15, .inr (1, [.ref (Q0 0), .ref (Q0 1)])), ((Q0 0), lp_z cI 11), ((Q0 1), lp_z cI 11), (a26_28, .inr (1, [.ref (Q1 0), .ref (Q1 1)])), ((Q1 0), lp_z cI 11), ((Q1 1), lp_z cI 11)] := hD
  refine lv_iinc (v := 2) (lv' := [(1, .int 2), (0, .ref h0)]) hx hb dX5_init_36 hl (k := 0) rfl (by decide) (by decide) rfl (fun ls hl => ?_)
  refine lv_goto (tgt := 15) hx hb dX5_init_39 (by decide) ?_
  refine lv_iload_n hx hb dX5_init_15 rfl (lv_at hl 0 rfl) ?_
  refine lv_bipush (v := 11) hx hb dX5_init_16 (by decide) ?_
  refine lv_icmp_ge (tgt := 42) hx hb dX5_init_18 (by decide) (fun q => absurd q (by decide)) (fun _ => ?_)
  refine lv_aload_n hx hb dX5_init_21 rfl (lv_at hl 1 rfl) ?_
  refine va_get (D := D) (ci := 5) (v := .ref a7_5) (C := RX5) (T := TX5) (N := 1) hx hb T lp_u5 hown hWd.1 hP 0 rfl rfl 0 (by decide) (T (.fieldLink RX5 11 "LoadPress$Walker" "places" "[LLoadPress$Dealing;") (by decide +kernel)) (fun _ h9 => h9) rfl dX5_init_22 ?_
  refine lv_iload_n hx hb dX5_init_25 rfl (lv_at hl 0 rfl) ?_
  refine va_new (ci := 1) (fs := [.null, .null]) (C := RX1) (T := TX1) (N := 2) hx hb T lp_u1 tyX1 tyX1_ok hown (T (.classLink RX5 9 RX1) (by decide +kernel)) (T (.instantiable RX1 2) (by decide +kernel)) (T (.initialized RX1) (by decide +kernel)) hWd.1 hP hD hS hA rfl (fun j hj => by rcases (show j = 0 ∨ j = 1 by omega) with rfl | rfl <;> rfl) (by rw [hRc]; exact Nat.le_of_ble_eq_true rfl) (by rw [hRs]; exact Nat.le_of_ble_eq_true rfl) dX5_init_26 (fun a26_41 H hP hD hS => ?_)
  refine W.widen (k := 8) (n := 61) (by omega) (by omega) ?_
  have hP : va_P D vwCl [(h0, .inr (5, [.ref a7_5])), (a7_5, .inl (cD, 11, .inr (.inr (.inr (.inr (va_up (va_up (fun _ => none) 0 (some (a26_15))) 1 (some (a26_28)))))))), (a26_15, .inr (1, [.ref (Q0 0), .ref (Q0 1)])), ((Q0 0), lp_z cI 11), ((Q0 1), lp_z cI 11), (a26_28, .inr (1, [.ref (Q1 0), .ref (Q1 1)])), ((Q1 0), lp_z cI 11), ((Q1 1), lp_z cI 11), (a26_41, .inr (1, [.null, .null]))] H := hP
  have hD : va_D A [(h0, .inr (5, [.ref a7_5])), (a7_5, .inl (cD, 11, .inr (.inr (.inr (.inr (va_up (va_up (fun _ => none) 0 (some (a26_15))) 1 (some (a26_28)))))))), (a26_15, .inr (1, [.ref (Q0 0), .ref (Q0 1)])), ((Q0 0), lp_z cI 11), ((Q0 1), lp_z cI 11), (a26_28, .inr (1, [.ref (Q1 0), .ref (Q1 1)])), ((Q1 0), lp_z cI 11), ((Q1 1), lp_z cI 11), (a26_41, .inr (1, [.null, .null]))] := hD
  refine lv_dup hx hb dX5_init_29 rfl ?_
  refine lv_bipush (v := 11) hx hb dX5_init_30 (by decide) ?_
  have hPc := hP.sub (ws' := [(a26_41, .inr (1, [.null, .null]))]) [8] rfl
  have hDc := hD.sub (ws' := [(a26_41, .inr (1, [.null, .null]))]) [8] (by decide) rfl
  have hFc := va_free (wc := [(a26_41, .inr (1, [.null, .null]))]) hD hS hA [8] rfl
  have eA : (.int 11 : Value) = .int (nI 11) := rfl
  refine va_callv (va_runI (As := [.int 11]) (rest := [.ref a26_41, .int 2, .ref a7_5]) ⟨hx, hb, hml, hown, hts⟩ (ci_X1 l D cI cD a26_41 H.size 11 (by omega)) (cwI 1 hts (lp_good (w0 := Cond.code yX5_init cX5_init 2 none) (y := yX1_init) (bytes := cX1_init) (nL := 3) (ret := none) (by decide +kernel)) rfl rfl rfl (T (.initialized RX1) (by decide +kernel)) (T (.methodLink RX5 17 yX1_init) (by decide +kernel)) (T (.instanceMethod yX1_init) (by decide +kernel)) rfl (by decide +kernel) ⟨by rw [hRf]; exact Nat.le_of_ble_eq_true rfl, by rw [hRl]; exact Nat.le_of_ble_eq_true rfl⟩) ⟨fun a U g mk q => by obtain ⟨q0, q1, qP, qW, qD⟩ := q; exact ⟨q0, q1, qP, lp_Wd_call qW, qD⟩, fun U hU hW => ⟨rfl, by rw [hU], by rw [hU]; exact hPc, lp_Wd_move hW hWd, hDc.weaken (fun _ _ _ _ => trivial)⟩⟩ rfl rfl hl.1 rfl (lv_room (Nat.le_of_ble_eq_true rfl)) dX5_init_32 ⟨by rw [hRc]; exact Nat.le_of_ble_eq_true rfl, by rw [hRs]; exact Nat.le_of_ble_eq_true rfl⟩) hS (fun q _ h => hFc q h) hFc (fun Q2 t H1 locs ht hvm hw hB hz1 hk1 hS => ?_)
  obtain ⟨hP1, hW1, hD1⟩ := hB
  rw [ht] at hP1
  unfold wX1 at hP1 hD1
  obtain ⟨hP, hD⟩ := va_join (wr := [(h0, .inr (5, [.ref a7_5])), (a7_5, .inl (cD, 11, .inr (.inr (.inr (.inr (va_up (va_up (fun _ => none) 0 (some (a26_15))) 1 (some (a26_28)))))))), (a26_15, .inr (1, [.ref (Q0 0), .ref (Q0 1)])), ((Q0 0), lp_z cI 11), ((Q0 1), lp_z cI 11), (a26_28, .inr (1, [.ref (Q1 0), .ref (Q1 1)])), ((Q1 0), lp_z cI 11), ((Q1 1), lp_z cI 11)]) (w1 := [(a26_41, .inr (1, [.ref (Q2 0), .ref (Q2 1)])), ((Q2 0), lp_z cI 11), ((Q2 1), lp_z cI 11)]) hP hD [8] [0, 1, 2, 3, 4, 5, 6, 7] rfl rfl (by decide) (by decide) hk1 hFc hP1 hD1
  generalize H1 = H at hP hS ⊢
  refine W.widen (k := 10) (n := 83) (by omega) (by omega) ?_
  have hP : va_P D vwCl [(h0, .inr (5, [.ref a7_5])), (a7_5, .inl (cD, 11, .inr (.inr (.inr (.inr (va_up (va_up (fun _ => none) 0 (some (a26_15))) 1 (some (a26_28)))))))), (a26_15, .inr (1, [.ref (Q0 0), .ref (Q0 1)])), ((Q0 0), lp_z cI 11), ((Q0 1), lp_z cI 11), (a26_28, .inr (1, [.ref (Q1 0), .ref (Q1 1)])), ((Q1 0), lp_z cI 11), ((Q1 1), lp_z cI 11), (a26_41, .inr (1, [.ref (Q2 0), .ref (Q2 1)])), ((Q2 0), lp_z cI 11), ((Q2 1), lp_z cI 11)] H := hP
  have hD : va_D A [(h0, .inr (5, [.ref a7_5])), (a7_5, .inl (cD, 11, .inr (.inr (.inr (.inr (va_up (va_up (fun _ => none) 0 (some (a26_15))) 1 (some (a26_28)))))))), (a26_15, .inr (1, [.ref (Q0 0), .ref (Q0 1)])), ((Q0 0), lp_z cI 11), ((Q0 1), lp_z cI 11), (a26_28, .inr (1, [.ref (Q1 0), .ref (Q1 1)])), ((Q1 0), lp_z cI 11), ((Q1 1), lp_z cI 11), (a26_41, .inr (1, [.ref (Q2 0), .ref (Q2 1)])), ((Q2 0), lp_z cI 11), ((Q2 1), lp_z cI 11)] := hD
  refine va_astq hx hb hWd.1 hP hD hS 1 1 8 1 rfl rfl rfl rfl (lp_vin (a := 2) (by omega) (by omega)) dX5_init_35 (fun H locs hP hD hS => ?_)
  have hP : va_P D vwCl [(h0, .inr (5, [.ref a7_5])), (a7_5, .inl (cD, 11, .inr (.inr (.inr (.inr (va_up (va_up (va_up (fun _ => none) 0 (some (a26_15))) 1 (some (a26_28))) 2 (some (a26_41)))))))), (a26_15, .inr (1, [.ref (Q0 0), .ref (Q0 1)])), ((Q0 0), lp_z cI 11), ((Q0 1), lp_z cI 11), (a26_28, .inr (1, [.ref (Q1 0), .ref (Q1 1)])), ((Q1 0), lp_z cI 11), ((Q1 1), lp_z cI 11), (a26_41, .inr (1, [.ref (Q2 0), .ref (Q2 1)])), ((Q2 0), lp_z cI 11), ((Q2 1), lp_z cI 11)] H := hP
  have hD : va_D A [(h0, .inr (5, [.ref a7_5])), (a7_5, .inl (cD, 11, .inr (.inr (.inr (.inr (va_up (va_up (va_up (fun _ => none) 0 (some (a26_15))) 1 (some (a26_28))) 2 (some (a26_41)))))))), (a26_15, .inr (1, [.ref (Q0 0), .ref (Q0 1)])), ((Q0 0), lp_z cI 11), ((Q0 1), lp_z cI 11), (a26_28, .inr (1, [.ref (Q1 0), .ref (Q1 1)])), ((Q1 0), lp_z cI 11), ((Q1 1), lp_z cI 11), (a26_41, .inr (1, [.ref (Q2 0), .ref (Q2 1)])), ((Q2 0), lp_z cI 11), ((Q2 1), lp_z cI 11)] := hD
  refine lv_iinc (v := 3) (lv' := [(1, .int 3), (0, .ref h0)]) hx hb dX5_init_36 hl (k := 0) rfl (by decide) (by decide) rfl (fun ls hl => ?_)
  refine lv_goto (tgt := 15) hx hb dX5_init_39 (by decide) ?_
  refine lv_iload_n hx hb dX5_init_15 rfl (lv_at hl 0 rfl) ?_
  refine lv_bipush (v := 11) hx hb dX5_init_16 (by decide) ?_
  refine lv_icmp_ge (tgt := 42) hx hb dX5_init_18 (by decide) (fun q => absurd q (by decide)) (fun _ => ?_)
  refine lv_aload_n hx hb dX5_init_21 rfl (lv_at hl 1 rfl) ?_
  refine va_get (D := D) (ci := 5) (v := .ref a7_5) (C := RX5) (T := TX5) (N := 1) hx hb T lp_u5 hown hWd.1 hP 0 rfl rfl 0 (by decide) (T (.fieldLink RX5 11 "LoadPress$Walker" "places" "[LLoadPress$Dealing;") (by decide +kernel)) (fun _ h9 => h9) rfl dX5_init_22 ?_
  refine lv_iload_n hx hb dX5_init_25 rfl (lv_at hl 0 rfl) ?_
  refine va_new (ci := 1) (fs := [.null, .null]) (C := RX1) (T := TX1) (N := 2) hx hb T lp_u1 tyX1 tyX1_ok hown (T (.classLink RX5 9 RX1) (by decide +kernel)) (T (.instantiable RX1 2) (by decide +kernel)) (T (.initialized RX1) (by decide +kernel)) hWd.1 hP hD hS hA rfl (fun j hj => by rcases (show j = 0 ∨ j = 1 by omega) with rfl | rfl <;> rfl) (by rw [hRc]; exact Nat.le_of_ble_eq_true rfl) (by rw [hRs]; exact Nat.le_of_ble_eq_true rfl) dX5_init_26 (fun a26_54 H hP hD hS => ?_)
  refine W.widen (k := 11) (n := 85) (by omega) (by omega) ?_
  have hP : va_P D vwCl [(h0, .inr (5, [.ref a7_5])), (a7_5, .inl (cD, 11, .inr (.inr (.inr (.inr (va_up (va_up (va_up (fun _ => none) 0 (some (a26_15))) 1 (some (a26_28))) 2 (some (a26_41)))))))), (a26_15, .inr (1, [.ref (Q0 0), .ref (Q0 1)])), ((Q0 0), lp_z cI 11), ((Q0 1), lp_z cI 11), (a26_28, .inr (1, [.ref (Q1 0), .ref (Q1 1)])), ((Q1 0), lp_z cI 11), ((Q1 1), lp_z cI 11), (a26_41, .inr (1, [.ref (Q2 0), .ref (Q2 1)])), ((Q2 0), lp_z cI 11), ((Q2 1), lp_z cI 11), (a26_54, .inr (1, [.null, .null]))] H := hP
  have hD : va_D A [(h0, .inr (5, [.ref a7_5])), (a7_5, .inl (cD, 11, .inr (.inr (.inr (.inr (va_up (va_up (va_up (fun _ => none) 0 (some (a26_15))) 1 (some (a26_28))) 2 (some (a26_41)))))))), (a26_15, .inr (1, [.ref (Q0 0), .ref (Q0 1)])), ((Q0 0), lp_z cI 11), ((Q0 1), lp_z cI 11), (a26_28, .inr (1, [.ref (Q1 0), .ref (Q1 1)])), ((Q1 0), lp_z cI 11), ((Q1 1), lp_z cI 11), (a26_41, .inr (1, [.ref (Q2 0), .ref (Q2 1)])), ((Q2 0), lp_z cI 11), ((Q2 1), lp_z cI 11), (a26_54, .inr (1, [.null, .null]))] := hD
  refine lv_dup hx hb dX5_init_29 rfl ?_
  refine lv_bipush (v := 11) hx hb dX5_init_30 (by decide) ?_
  have hPc := hP.sub (ws' := [(a26_54, .inr (1, [.null, .null]))]) [11] rfl
  have hDc := hD.sub (ws' := [(a26_54, .inr (1, [.null, .null]))]) [11] (by decide) rfl
  have hFc := va_free (wc := [(a26_54, .inr (1, [.null, .null]))]) hD hS hA [11] rfl
  have eA : (.int 11 : Value) = .int (nI 11) := rfl
  refine va_callv (va_runI (As := [.int 11]) (rest := [.ref a26_54, .int 3, .ref a7_5]) ⟨hx, hb, hml, hown, hts⟩ (ci_X1 l D cI cD a26_54 H.size 11 (by omega)) (cwI 1 hts (lp_good (w0 := Cond.code yX5_init cX5_init 2 none) (y := yX1_init) (bytes := cX1_init) (nL := 3) (ret := none) (by decide +kernel)) rfl rfl rfl (T (.initialized RX1) (by decide +kernel)) (T (.methodLink RX5 17 yX1_init) (by decide +kernel)) (T (.instanceMethod yX1_init) (by decide +kernel)) rfl (by decide +kernel) ⟨by rw [hRf]; exact Nat.le_of_ble_eq_true rfl, by rw [hRl]; exact Nat.le_of_ble_eq_true rfl⟩) ⟨fun a U g mk q => by obtain ⟨q0, q1, qP, qW, qD⟩ := q; exact ⟨q0, q1, qP, lp_Wd_call qW, qD⟩, fun U hU hW => ⟨rfl, by rw [hU], by rw [hU]; exact hPc, lp_Wd_move hW hWd, hDc.weaken (fun _ _ _ _ => trivial)⟩⟩ rfl rfl hl.1 rfl (lv_room (Nat.le_of_ble_eq_true rfl)) dX5_init_32 ⟨by rw [hRc]; exact Nat.le_of_ble_eq_true rfl, by rw [hRs]; exact Nat.le_of_ble_eq_true rfl⟩) hS (fun q _ h => hFc q h) hFc (fun Q3 t H1 locs ht hvm hw hB hz1 hk1 hS => ?_)
  obtain ⟨hP1, hW1, hD1⟩ := hB
  rw [ht] at hP1
  unfold wX1 at hP1 hD1
  obtain ⟨hP, hD⟩ := va_join (wr := [(h0, .inr (5, [.ref a7_5])), (a7_5, .inl (cD, 11, .inr (.inr (.inr (.inr (va_up (va_up (va_up (fun _ => none) 0 (some (a26_15))) 1 (some (a26_28))) 2 (some (a26_41)))))))), (a26_15, .inr (1, [.ref (Q0 0), .ref (Q0 1)])), ((Q0 0), lp_z cI 11), ((Q0 1), lp_z cI 11), (a26_28, .inr (1, [.ref (Q1 0), .ref (Q1 1)])), ((Q1 0), lp_z cI 11), ((Q1 1), lp_z cI 11), (a26_41, .inr (1, [.ref (Q2 0), .ref (Q2 1)])), ((Q2 0), lp_z cI 11), ((Q2 1), lp_z cI 11)]) (w1 := [(a26_54, .inr (1, [.ref (Q3 0), .ref (Q3 1)])), ((Q3 0), lp_z cI 11), ((Q3 1), lp_z cI 11)]) hP hD [11] [0, 1, 2, 3, 4, 5, 6, 7, 8, 9, 10] rfl rfl (by decide) (by decide) hk1 hFc hP1 hD1
  generalize H1 = H at hP hS ⊢
  refine W.widen (k := 13) (n := 107) (by omega) (by omega) ?_
  have hP : va_P D vwCl [(h0, .inr (5, [.ref a7_5])), (a7_5, .inl (cD, 11, .inr (.inr (.inr (.inr (va_up (va_up (va_up (fun _ => none) 0 (some (a26_15))) 1 (some (a26_28))) 2 (some (a26_41)))))))), (a26_15, .inr (1, [.ref (Q0 0), .ref (Q0 1)])), ((Q0 0), lp_z cI 11), ((Q0 1), lp_z cI 11), (a26_28, .inr (1, [.ref (Q1 0), .ref (Q1 1)])), ((Q1 0), lp_z cI 11), ((Q1 1), lp_z cI 11), (a26_41, .inr (1, [.ref (Q2 0), .ref (Q2 1)])), ((Q2 0), lp_z cI 11), ((Q2 1), lp_z cI 11), (a26_54, .inr (1, [.ref (Q3 0), .ref (Q3 1)])), ((Q3 0), lp_z cI 11), ((Q3 1), lp_z cI 11)] H := hP
  have hD : va_D A [(h0, .inr (5, [.ref a7_5])), (a7_5, .inl (cD, 11, .inr (.inr (.inr (.inr (va_up (va_up (va_up (fun _ => none) 0 (some (a26_15))) 1 (some (a26_28))) 2 (some (a26_41)))))))), (a26_15, .inr (1, [.ref (Q0 0), .ref (Q0 1)])), ((Q0 0), lp_z cI 11), ((Q0 1), lp_z cI 11), (a26_28, .inr (1, [.ref (Q1 0), .ref (Q1 1)])), ((Q1 0), lp_z cI 11), ((Q1 1), lp_z cI 11), (a26_41, .inr (1, [.ref (Q2 0), .ref (Q2 1)])), ((Q2 0), lp_z cI 11), ((Q2 1), lp_z cI 11), (a26_54, .inr (1, [.ref (Q3 0), .ref (Q3 1)])), ((Q3 0), lp_z cI 11), ((Q3 1), lp_z cI 11)] := hD
  refine va_astq hx hb hWd.1 hP hD hS 1 1 11 1 rfl rfl rfl rfl (lp_vin (a := 3) (by omega) (by omega)) dX5_init_35 (fun H locs hP hD hS => ?_)
  have hP : va_P D vwCl [(h0, .inr (5, [.ref a7_5])), (a7_5, .inl (cD, 11, .inr (.inr (.inr (.inr (va_up (va_up (va_up (va_up (fun _ => none) 0 (some (a26_15))) 1 (some (a26_28))) 2 (some (a26_41))) 3 (some (a26_54)))))))), (a26_15, .inr (1, [.ref (Q0 0), .ref (Q0 1)])), ((Q0 0), lp_z cI 11), ((Q0 1), lp_z cI 11), (a26_28, .inr (1, [.ref (Q1 0), .ref (Q1 1)])), ((Q1 0), lp_z cI 11), ((Q1 1), lp_z cI 11), (a26_41, .inr (1, [.ref (Q2 0), .ref (Q2 1)])), ((Q2 0), lp_z cI 11), ((Q2 1), lp_z cI 11), (a26_54, .inr (1, [.ref (Q3 0), .ref (Q3 1)])), ((Q3 0), lp_z cI 11), ((Q3 1), lp_z cI 11)] H := hP
  have hD : va_D A [(h0, .inr (5, [.ref a7_5])), (a7_5, .inl (cD, 11, .inr (.inr (.inr (.inr (va_up (va_up (va_up (va_up (fun _ => none) 0 (some (a26_15))) 1 (some (a26_28))) 2 (some (a26_41))) 3 (some (a26_54)))))))), (a26_15, .inr (1, [.ref (Q0 0), .ref (Q0 1)])), ((Q0 0), lp_z cI 11), ((Q0 1), lp_z cI 11), (a26_28, .inr (1, [.ref (Q1 0), .ref (Q1 1)])), ((Q1 0), lp_z cI 11), ((Q1 1), lp_z cI 11), (a26_41, .inr (1, [.ref (Q2 0), .ref (Q2 1)])), ((Q2 0), lp_z cI 11), ((Q2 1), lp_z cI 11), (a26_54, .inr (1, [.ref (Q3 0), .ref (Q3 1)])), ((Q3 0), lp_z cI 11), ((Q3 1), lp_z cI 11)] := hD
  refine lv_iinc (v := 4) (lv' := [(1, .int 4), (0, .ref h0)]) hx hb dX5_init_36 hl (k := 0) rfl (by decide) (by decide) rfl (fun ls hl => ?_)
  refine lv_goto (tgt := 15) hx hb dX5_init_39 (by decide) ?_
  refine lv_iload_n hx hb dX5_init_15 rfl (lv_at hl 0 rfl) ?_
  refine lv_bipush (v := 11) hx hb dX5_init_16 (by decide) ?_
  refine lv_icmp_ge (tgt := 42) hx hb dX5_init_18 (by decide) (fun q => absurd q (by decide)) (fun _ => ?_)
  refine lv_aload_n hx hb dX5_init_21 rfl (lv_at hl 1 rfl) ?_
  refine va_get (D := D) (ci := 5) (v := .ref a7_5) (C := RX5) (T := TX5) (N := 1) hx hb T lp_u5 hown hWd.1 hP 0 rfl rfl 0 (by decide) (T (.fieldLink RX5 11 "LoadPress$Walker" "places" "[LLoadPress$Dealing;") (by decide +kernel)) (fun _ h9 => h9) rfl dX5_init_22 ?_
  refine lv_iload_n hx hb dX5_init_25 rfl (lv_at hl 0 rfl) ?_
  refine va_new (ci := 1) (fs := [.null, .null]) (C := RX1) (T := TX1) (N := 2) hx hb T lp_u1 tyX1 tyX1_ok hown (T (.classLink RX5 9 RX1) (by decide +kernel)) (T (.instantiable RX1 2) (by decide +kernel)) (T (.initialized RX1) (by decide +kernel)) hWd.1 hP hD hS hA rfl (fun j hj => by rcases (show j = 0 ∨ j = 1 by omega) with rfl | rfl <;> rfl) (by rw [hRc]; exact Nat.le_of_ble_eq_true rfl) (by rw [hRs]; exact Nat.le_of_ble_eq_true rfl) dX5_init_26 (fun a26_67 H hP hD hS => ?_)
  refine W.widen (k := 14) (n := 109) (by omega) (by omega) ?_
  have hP : va_P D vwCl [(h0, .inr (5, [.ref a7_5])), (a7_5, .inl (cD, 11, .inr (.inr (.inr (.inr (va_up (va_up (va_up (va_up (fun _ => none) 0 (some (a26_15))) 1 (some (a26_28))) 2 (some (a26_41))) 3 (some (a26_54)))))))), (a26_15, .inr (1, [.ref (Q0 0), .ref (Q0 1)])), ((Q0 0), lp_z cI 11), ((Q0 1), lp_z cI 11), (a26_28, .inr (1, [.ref (Q1 0), .ref (Q1 1)])), ((Q1 0), lp_z cI 11), ((Q1 1), lp_z cI 11), (a26_41, .inr (1, [.ref (Q2 0), .ref (Q2 1)])), ((Q2 0), lp_z cI 11), ((Q2 1), lp_z cI 11), (a26_54, .inr (1, [.ref (Q3 0), .ref (Q3 1)])), ((Q3 0), lp_z cI 11), ((Q3 1), lp_z cI 11), (a26_67, .inr (1, [.null, .null]))] H := hP
  have hD : va_D A [(h0, .inr (5, [.ref a7_5])), (a7_5, .inl (cD, 11, .inr (.inr (.inr (.inr (va_up (va_up (va_up (va_up (fun _ => none) 0 (some (a26_15))) 1 (some (a26_28))) 2 (some (a26_41))) 3 (some (a26_54)))))))), (a26_15, .inr (1, [.ref (Q0 0), .ref (Q0 1)])), ((Q0 0), lp_z cI 11), ((Q0 1), lp_z cI 11), (a26_28, .inr (1, [.ref (Q1 0), .ref (Q1 1)])), ((Q1 0), lp_z cI 11), ((Q1 1), lp_z cI 11), (a26_41, .inr (1, [.ref (Q2 0), .ref (Q2 1)])), ((Q2 0), lp_z cI 11), ((Q2 1), lp_z cI 11), (a26_54, .inr (1, [.ref (Q3 0), .ref (Q3 1)])), ((Q3 0), lp_z cI 11), ((Q3 1), lp_z cI 11), (a26_67, .inr (1, [.null, .null]))] := hD
  refine lv_dup hx hb dX5_init_29 rfl ?_
  refine lv_bipush (v := 11) hx hb dX5_init_30 (by decide) ?_
  have hPc := hP.sub (ws' := [(a26_67, .inr (1, [.null, .null]))]) [14] rfl
  have hDc := hD.sub (ws' := [(a26_67, .inr (1, [.null, .null]))]) [14] (by decide) rfl
  have hFc := va_free (wc := [(a26_67, .inr (1, [.null, .null]))]) hD hS hA [14] rfl
  have eA : (.int 11 : Value) = .int (nI 11) := rfl
  refine va_callv (va_runI (As := [.int 11]) (rest := [.ref a26_67, .int 4, .ref a7_5]) ⟨hx, hb, hml, hown, hts⟩ (ci_X1 l D cI cD a26_67 H.size 11 (by omega)) (cwI 1 hts (lp_good (w0 := Cond.code yX5_init cX5_init 2 none) (y := yX1_init) (bytes := cX1_init) (nL := 3) (ret := none) (by decide +kernel)) rfl rfl rfl (T (.initialized RX1) (by decide +kernel)) (T (.methodLink RX5 17 yX1_init) (by decide +kernel)) (T (.instanceMethod yX1_init) (by decide +kernel)) rfl (by decide +kernel) ⟨by rw [hRf]; exact Nat.le_of_ble_eq_true rfl, by rw [hRl]; exact Nat.le_of_ble_eq_true rfl⟩) ⟨fun a U g mk q => by obtain ⟨q0, q1, qP, qW, qD⟩ := q; exact ⟨q0, q1, qP, lp_Wd_call qW, qD⟩, fun U hU hW => ⟨rfl, by rw [hU], by rw [hU]; exact hPc, lp_Wd_move hW hWd, hDc.weaken (fun _ _ _ _ => trivial)⟩⟩ rfl rfl hl.1 rfl (lv_room (Nat.le_of_ble_eq_true rfl)) dX5_init_32 ⟨by rw [hRc]; exact Nat.le_of_ble_eq_true rfl, by rw [hRs]; exact Nat.le_of_ble_eq_true rfl⟩) hS (fun q _ h => hFc q h) hFc (fun Q4 t H1 locs ht hvm hw hB hz1 hk1 hS => ?_)
  obtain ⟨hP1, hW1, hD1⟩ := hB
  rw [ht] at hP1
  unfold wX1 at hP1 hD1
  obtain ⟨hP, hD⟩ := va_join (wr := [(h0, .inr (5, [.ref a7_5])), (a7_5, .inl (cD, 11, .inr (.inr (.inr (.inr (va_up (va_up (va_up (va_up (fun _ => none) 0 (some (a26_15))) 1 (some (a26_28))) 2 (some (a26_41))) 3 (some (a26_54)))))))), (a26_15, .inr (1, [.ref (Q0 0), .ref (Q0 1)])), ((Q0 0), lp_z cI 11), ((Q0 1), lp_z cI 11), (a26_28, .inr (1, [.ref (Q1 0), .ref (Q1 1)])), ((Q1 0), lp_z cI 11), ((Q1 1), lp_z cI 11), (a26_41, .inr (1, [.ref (Q2 0), .ref (Q2 1)])), ((Q2 0), lp_z cI 11), ((Q2 1), lp_z cI 11), (a26_54, .inr (1, [.ref (Q3 0), .ref (Q3 1)])), ((Q3 0), lp_z cI 11), ((Q3 1), lp_z cI 11)]) (w1 := [(a26_67, .inr (1, [.ref (Q4 0), .ref (Q4 1)])), ((Q4 0), lp_z cI 11), ((Q4 1), lp_z cI 11)]) hP hD [14] [0, 1, 2, 3, 4, 5, 6, 7, 8, 9, 10, 11, 12, 13] rfl rfl (by decide) (by decide) hk1 hFc hP1 hD1
  generalize H1 = H at hP hS ⊢
  refine W.widen (k := 16) (n := 131) (by omega) (by omega) ?_
  have hP : va_P D vwCl [(h0, .inr (5, [.ref a7_5])), (a7_5, .inl (cD, 11, .inr (.inr (.inr (.inr (va_up (va_up (va_up (va_up (fun _ => none) 0 (some (a26_15))) 1 (some (a26_28))) 2 (some (a26_41))) 3 (some (a26_54)))))))), (a26_15, .inr (1, [.ref (Q0 0), .ref (Q0 1)])), ((Q0 0), lp_z cI 11), ((Q0 1), lp_z cI 11), (a26_28, .inr (1, [.ref (Q1 0), .ref (Q1 1)])), ((Q1 0), lp_z cI 11), ((Q1 1), lp_z cI 11), (a26_41, .inr (1, [.ref (Q2 0), .ref (Q2 1)])), ((Q2 0), lp_z cI 11), ((Q2 1), lp_z cI 11), (a26_54, .inr (1, [.ref (Q3 0), .ref (Q3 1)])), ((Q3 0), lp_z cI 11), ((Q3 1), lp_z cI 11), (a26_67, .inr (1, [.ref (Q4 0), .ref (Q4 1)])), ((Q4 0), lp_z cI 11), ((Q4 1), lp_z cI 11)] H := hP
  have hD : va_D A [(h0, .inr (5, [.ref a7_5])), (a7_5, .inl (cD, 11, .inr (.inr (.inr (.inr (va_up (va_up (va_up (va_up (fun _ => none) 0 (some (a26_15))) 1 (some (a26_28))) 2 (some (a26_41))) 3 (some (a26_54)))))))), (a26_15, .inr (1, [.ref (Q0 0), .ref (Q0 1)])), ((Q0 0), lp_z cI 11), ((Q0 1), lp_z cI 11), (a26_28, .inr (1, [.ref (Q1 0), .ref (Q1 1)])), ((Q1 0), lp_z cI 11), ((Q1 1), lp_z cI 11), (a26_41, .inr (1, [.ref (Q2 0), .ref (Q2 1)])), ((Q2 0), lp_z cI 11), ((Q2 1), lp_z cI 11), (a26_54, .inr (1, [.ref (Q3 0), .ref (Q3 1)])), ((Q3 0), lp_z cI 11), ((Q3 1), lp_z cI 11), (a26_67, .inr (1, [.ref (Q4 0), .ref (Q4 1)])), ((Q4 0), lp_z cI 11), ((Q4 1), lp_z cI 11)] := hD
  refine va_astq hx hb hWd.1 hP hD hS 1 1 14 1 rfl rfl rfl rfl (lp_vin (a := 4) (by omega) (by omega)) dX5_init_35 (fun H locs hP hD hS => ?_)
  have hP : va_P D vwCl [(h0, .inr (5, [.ref a7_5])), (a7_5, .inl (cD, 11, .inr (.inr (.inr (.inr (va_up (va_up (va_up (va_up (va_up (fun _ => none) 0 (some (a26_15))) 1 (some (a26_28))) 2 (some (a26_41))) 3 (some (a26_54))) 4 (some (a26_67)))))))), (a26_15, .inr (1, [.ref (Q0 0), .ref (Q0 1)])), ((Q0 0), lp_z cI 11), ((Q0 1), lp_z cI 11), (a26_28, .inr (1, [.ref (Q1 0), .ref (Q1 1)])), ((Q1 0), lp_z cI 11), ((Q1 1), lp_z cI 11), (a26_41, .inr (1, [.ref (Q2 0), .ref (Q2 1)])), ((Q2 0), lp_z cI 11), ((Q2 1), lp_z cI 11), (a26_54, .inr (1, [.ref (Q3 0), .ref (Q3 1)])), ((Q3 0), lp_z cI 11), ((Q3 1), lp_z cI 11), (a26_67, .inr (1, [.ref (Q4 0), .ref (Q4 1)])), ((Q4 0), lp_z cI 11), ((Q4 1), lp_z cI 11)] H := hP
  have hD : va_D A [(h0, .inr (5, [.ref a7_5])), (a7_5, .inl (cD, 11, .inr (.inr (.inr (.inr (va_up (va_up (va_up (va_up (va_up (fun _ => none) 0 (some (a26_15))) 1 (some (a26_28))) 2 (some (a26_41))) 3 (some (a26_54))) 4 (some (a26_67)))))))), (a26_15, .inr (1, [.ref (Q0 0), .ref (Q0 1)])), ((Q0 0), lp_z cI 11), ((Q0 1), lp_z cI 11), (a26_28, .inr (1, [.ref (Q1 0), .ref (Q1 1)])), ((Q1 0), lp_z cI 11), ((Q1 1), lp_z cI 11), (a26_41, .inr (1, [.ref (Q2 0), .ref (Q2 1)])), ((Q2 0), lp_z cI 11), ((Q2 1), lp_z cI 11), (a26_54, .inr (1, [.ref (Q3 0), .ref (Q3 1)])), ((Q3 0), lp_z cI 11), ((Q3 1), lp_z cI 11), (a26_67, .inr (1, [.ref (Q4 0), .ref (Q4 1)])), ((Q4 0), lp_z cI 11), ((Q4 1), lp_z cI 11)] := hD
  refine lv_iinc (v := 5) (lv' := [(1, .int 5), (0, .ref h0)]) hx hb dX5_init_36 hl (k := 0) rfl (by decide) (by decide) rfl (fun ls hl => ?_)
  refine lv_goto (tgt := 15) hx hb dX5_init_39 (by decide) ?_
  refine lv_iload_n hx hb dX5_init_15 rfl (lv_at hl 0 rfl) ?_
  refine lv_bipush (v := 11) hx hb dX5_init_16 (by decide) ?_
  refine lv_icmp_ge (tgt := 42) hx hb dX5_init_18 (by decide) (fun q => absurd q (by decide)) (fun _ => ?_)
  refine lv_aload_n hx hb dX5_init_21 rfl (lv_at hl 1 rfl) ?_
  refine va_get (D := D) (ci := 5) (v := .ref a7_5) (C := RX5) (T := TX5) (N := 1) hx hb T lp_u5 hown hWd.1 hP 0 rfl rfl 0 (by decide) (T (.fieldLink RX5 11 "LoadPress$Walker" "places" "[LLoadPress$Dealing;") (by decide +kernel)) (fun _ h9 => h9) rfl dX5_init_22 ?_
  refine lv_iload_n hx hb dX5_init_25 rfl (lv_at hl 0 rfl) ?_
  refine va_new (ci := 1) (fs := [.null, .null]) (C := RX1) (T := TX1) (N := 2) hx hb T lp_u1 tyX1 tyX1_ok hown (T (.classLink RX5 9 RX1) (by decide +kernel)) (T (.instantiable RX1 2) (by decide +kernel)) (T (.initialized RX1) (by decide +kernel)) hWd.1 hP hD hS hA rfl (fun j hj => by rcases (show j = 0 ∨ j = 1 by omega) with rfl | rfl <;> rfl) (by rw [hRc]; exact Nat.le_of_ble_eq_true rfl) (by rw [hRs]; exact Nat.le_of_ble_eq_true rfl) dX5_init_26 (fun a26_80 H hP hD hS => ?_)
  refine W.widen (k := 17) (n := 133) (by omega) (by omega) ?_
  have hP : va_P D vwCl [(h0, .inr (5, [.ref a7_5])), (a7_5, .inl (cD, 11, .inr (.inr (.inr (.inr (va_up (va_up (va_up (va_up (va_up (fun _ => none) 0 (some (a26_15))) 1 (some (a26_28))) 2 (some (a26_41))) 3 (some (a26_54))) 4 (some (a26_67)))))))), (a26_15, .inr (1, [.ref (Q0 0), .ref (Q0 1)])), ((Q0 0), lp_z cI 11), ((Q0 1), lp_z cI 11), (a26_28, .inr (1, [.ref (Q1 0), .ref (Q1 1)])), ((Q1 0), lp_z cI 11), ((Q1 1), lp_z cI 11), (a26_41, .inr (1, [.ref (Q2 0), .ref (Q2 1)])), ((Q2 0), lp_z cI 11), ((Q2 1), lp_z cI 11), (a26_54, .inr (1, [.ref (Q3 0), .ref (Q3 1)])), ((Q3 0), lp_z cI 11), ((Q3 1), lp_z cI 11), (a26_67, .inr (1, [.ref (Q4 0), .ref (Q4 1)])), ((Q4 0), lp_z cI 11), ((Q4 1), lp_z cI 11), (a26_80, .inr (1, [.null, .null]))] H := hP
  have hD : va_D A [(h0, .inr (5, [.ref a7_5])), (a7_5, .inl (cD, 11, .inr (.inr (.inr (.inr (va_up (va_up (va_up (va_up (va_up (fun _ => none) 0 (some (a26_15))) 1 (some (a26_28))) 2 (some (a26_41))) 3 (some (a26_54))) 4 (some (a26_67)))))))), (a26_15, .inr (1, [.ref (Q0 0), .ref (Q0 1)])), ((Q0 0), lp_z cI 11), ((Q0 1), lp_z cI 11), (a26_28, .inr (1, [.ref (Q1 0), .ref (Q1 1)])), ((Q1 0), lp_z cI 11), ((Q1 1), lp_z cI 11), (a26_41, .inr (1, [.ref (Q2 0), .ref (Q2 1)])), ((Q2 0), lp_z cI 11), ((Q2 1), lp_z cI 11), (a26_54, .inr (1, [.ref (Q3 0), .ref (Q3 1)])), ((Q3 0), lp_z cI 11), ((Q3 1), lp_z cI 11), (a26_67, .inr (1, [.ref (Q4 0), .ref (Q4 1)])), ((Q4 0), lp_z cI 11), ((Q4 1), lp_z cI 11), (a26_80, .inr (1, [.null, .null]))] := hD
  refine lv_dup hx hb dX5_init_29 rfl ?_
  refine lv_bipush (v := 11) hx hb dX5_init_30 (by decide) ?_
  have hPc := hP.sub (ws' := [(a26_80, .inr (1, [.null, .null]))]) [17] rfl
  have hDc := hD.sub (ws' := [(a26_80, .inr (1, [.null, .null]))]) [17] (by decide) rfl
  have hFc := va_free (wc := [(a26_80, .inr (1, [.null, .null]))]) hD hS hA [17] rfl
  have eA : (.int 11 : Value) = .int (nI 11) := rfl
  refine va_callv (va_runI (As := [.int 11]) (rest := [.ref a26_80, .int 5, .ref a7_5]) ⟨hx, hb, hml, hown, hts⟩ (ci_X1 l D cI cD a26_80 H.size 11 (by omega)) (cwI 1 hts (lp_good (w0 := Cond.code yX5_init cX5_init 2 none) (y := yX1_init) (bytes := cX1_init) (nL := 3) (ret := none) (by decide +kernel)) rfl rfl rfl (T (.initialized RX1) (by decide +kernel)) (T (.methodLink RX5 17 yX1_init) (by decide +kernel)) (T (.instanceMethod yX1_init) (by decide +kernel)) rfl (by decide +kernel) ⟨by rw [hRf]; exact Nat.le_of_ble_eq_true rfl, by rw [hRl]; exact Nat.le_of_ble_eq_true rfl⟩) ⟨fun a U g mk q => by obtain ⟨q0, q1, qP, qW, qD⟩ := q; exact ⟨q0, q1, qP, lp_Wd_call qW, qD⟩, fun U hU hW => ⟨rfl, by rw [hU], by rw [hU]; exact hPc, lp_Wd_move hW hWd, hDc.weaken (fun _ _ _ _ => trivial)⟩⟩ rfl rfl hl.1 rfl (lv_room (Nat.le_of_ble_eq_true rfl)) dX5_init_32 ⟨by rw [hRc]; exact Nat.le_of_ble_eq_true rfl, by rw [hRs]; exact Nat.le_of_ble_eq_true rfl⟩) hS (fun q _ h => hFc q h) hFc (fun Q5 t H1 locs ht hvm hw hB hz1 hk1 hS => ?_)
  obtain ⟨hP1, hW1, hD1⟩ := hB
  rw [ht] at hP1
  unfold wX1 at hP1 hD1
  obtain ⟨hP, hD⟩ := va_join (wr := [(h0, .inr (5, [.ref a7_5])), (a7_5, .inl (cD, 11, .inr (.inr (.inr (.inr (va_up (va_up (va_up (va_up (va_up (fun _ => none) 0 (some (a26_15))) 1 (some (a26_28))) 2 (some (a26_41))) 3 (some (a26_54))) 4 (some (a26_67)))))))), (a26_15, .inr (1, [.ref (Q0 0), .ref (Q0 1)])), ((Q0 0), lp_z cI 11), ((Q0 1), lp_z cI 11), (a26_28, .inr (1, [.ref (Q1 0), .ref (Q1 1)])), ((Q1 0), lp_z cI 11), ((Q1 1), lp_z cI 11), (a26_41, .inr (1, [.ref (Q2 0), .ref (Q2 1)])), ((Q2 0), lp_z cI 11), ((Q2 1), lp_z cI 11), (a26_54, .inr (1, [.ref (Q3 0), .ref (Q3 1)])), ((Q3 0), lp_z cI 11), ((Q3 1), lp_z cI 11), (a26_67, .inr (1, [.ref (Q4 0), .ref (Q4 1)])), ((Q4 0), lp_z cI 11), ((Q4 1), lp_z cI 11)]) (w1 := [(a26_80, .inr (1, [.ref (Q5 0), .ref (Q5 1)])), ((Q5 0), lp_z cI 11), ((Q5 1), lp_z cI 11)]) hP hD [17] [0, 1, 2, 3, 4, 5, 6, 7, 8, 9, 10, 11, 12, 13, 14, 15, 16] rfl rfl (by decide) (by decide) hk1 hFc hP1 hD1
  generalize H1 = H at hP hS ⊢
  refine W.widen (k := 19) (n := 155) (by omega) (by omega) ?_
  have hP : va_P D vwCl [(h0, .inr (5, [.ref a7_5])), (a7_5, .inl (cD, 11, .inr (.inr (.inr (.inr (va_up (va_up (va_up (va_up (va_up (fun _ => none) 0 (some (a26_15))) 1 (some (a26_28))) 2 (some (a26_41))) 3 (some (a26_54))) 4 (some (a26_67)))))))), (a26_15, .inr (1, [.ref (Q0 0), .ref (Q0 1)])), ((Q0 0), lp_z cI 11), ((Q0 1), lp_z cI 11), (a26_28, .inr (1, [.ref (Q1 0), .ref (Q1 1)])), ((Q1 0), lp_z cI 11), ((Q1 1), lp_z cI 11), (a26_41, .inr (1, [.ref (Q2 0), .ref (Q2 1)])), ((Q2 0), lp_z cI 11), ((Q2 1), lp_z cI 11), (a26_54, .inr (1, [.ref (Q3 0), .ref (Q3 1)])), ((Q3 0), lp_z cI 11), ((Q3 1), lp_z cI 11), (a26_67, .inr (1, [.ref (Q4 0), .ref (Q4 1)])), ((Q4 0), lp_z cI 11), ((Q4 1), lp_z cI 11), (a26_80, .inr (1, [.ref (Q5 0), .ref (Q5 1)])), ((Q5 0), lp_z cI 11), ((Q5 1), lp_z cI 11)] H := hP
  have hD : va_D A [(h0, .inr (5, [.ref a7_5])), (a7_5, .inl (cD, 11, .inr (.inr (.inr (.inr (va_up (va_up (va_up (va_up (va_up (fun _ => none) 0 (some (a26_15))) 1 (some (a26_28))) 2 (some (a26_41))) 3 (some (a26_54))) 4 (some (a26_67)))))))), (a26_15, .inr (1, [.ref (Q0 0), .ref (Q0 1)])), ((Q0 0), lp_z cI 11), ((Q0 1), lp_z cI 11), (a26_28, .inr (1, [.ref (Q1 0), .ref (Q1 1)])), ((Q1 0), lp_z cI 11), ((Q1 1), lp_z cI 11), (a26_41, .inr (1, [.ref (Q2 0), .ref (Q2 1)])), ((Q2 0), lp_z cI 11), ((Q2 1), lp_z cI 11), (a26_54, .inr (1, [.ref (Q3 0), .ref (Q3 1)])), ((Q3 0), lp_z cI 11), ((Q3 1), lp_z cI 11), (a26_67, .inr (1, [.ref (Q4 0), .ref (Q4 1)])), ((Q4 0), lp_z cI 11), ((Q4 1), lp_z cI 11), (a26_80, .inr (1, [.ref (Q5 0), .ref (Q5 1)])), ((Q5 0), lp_z cI 11), ((Q5 1), lp_z cI 11)] := hD
  refine va_astq hx hb hWd.1 hP hD hS 1 1 17 1 rfl rfl rfl rfl (lp_vin (a := 5) (by omega) (by omega)) dX5_init_35 (fun H locs hP hD hS => ?_)
  have hP : va_P D vwCl [(h0, .inr (5, [.ref a7_5])), (a7_5, .inl (cD, 11, .inr (.inr (.inr (.inr (va_up (va_up (va_up (va_up (va_up (va_up (fun _ => none) 0 (some (a26_15))) 1 (some (a26_28))) 2 (some (a26_41))) 3 (some (a26_54))) 4 (some (a26_67))) 5 (some (a26_80)))))))), (a26_15, .inr (1, [.ref (Q0 0), .ref (Q0 1)])), ((Q0 0), lp_z cI 11), ((Q0 1), lp_z cI 11), (a26_28, .inr (1, [.ref (Q1 0), .ref (Q1 1)])), ((Q1 0), lp_z cI 11), ((Q1 1), lp_z cI 11), (a26_41, .inr (1, [.ref (Q2 0), .ref (Q2 1)])), ((Q2 0), lp_z cI 11), ((Q2 1), lp_z cI 11), (a26_54, .inr (1, [.ref (Q3 0), .ref (Q3 1)])), ((Q3 0), lp_z cI 11), ((Q3 1), lp_z cI 11), (a26_67, .inr (1, [.ref (Q4 0), .ref (Q4 1)])), ((Q4 0), lp_z cI 11), ((Q4 1), lp_z cI 11), (a26_80, .inr (1, [.ref (Q5 0), .ref (Q5 1)])), ((Q5 0), lp_z cI 11), ((Q5 1), lp_z cI 11)] H := hP
  have hD : va_D A [(h0, .inr (5, [.ref a7_5])), (a7_5, .inl (cD, 11, .inr (.inr (.inr (.inr (va_up (va_up (va_up (va_up (va_up (va_up (fun _ => none) 0 (some (a26_15))) 1 (some (a26_28))) 2 (some (a26_41))) 3 (some (a26_54))) 4 (some (a26_67))) 5 (some (a26_80)))))))), (a26_15, .inr (1, [.ref (Q0 0), .ref (Q0 1)])), ((Q0 0), lp_z cI 11), ((Q0 1), lp_z cI 11), (a26_28, .inr (1, [.ref (Q1 0), .ref (Q1 1)])), ((Q1 0), lp_z cI 11), ((Q1 1), lp_z cI 11), (a26_41, .inr (1, [.ref (Q2 0), .ref (Q2 1)])), ((Q2 0), lp_z cI 11), ((Q2 1), lp_z cI 11), (a26_54, .inr (1, [.ref (Q3 0), .ref (Q3 1)])), ((Q3 0), lp_z cI 11), ((Q3 1), lp_z cI 11), (a26_67, .inr (1, [.ref (Q4 0), .ref (Q4 1)])), ((Q4 0), lp_z cI 11), ((Q4 1), lp_z cI 11), (a26_80, .inr (1, [.ref (Q5 0), .ref (Q5 1)])), ((Q5 0), lp_z cI 11), ((Q5 1), lp_z cI 11)] := hD
  refine lv_iinc (v := 6) (lv' := [(1, .int 6), (0, .ref h0)]) hx hb dX5_init_36 hl (k := 0) rfl (by decide) (by decide) rfl (fun ls hl => ?_)
  refine lv_goto (tgt := 15) hx hb dX5_init_39 (by decide) ?_
  refine lv_iload_n hx hb dX5_init_15 rfl (lv_at hl 0 rfl) ?_
  refine lv_bipush (v := 11) hx hb dX5_init_16 (by decide) ?_
  refine lv_icmp_ge (tgt := 42) hx hb dX5_init_18 (by decide) (fun q => absurd q (by decide)) (fun _ => ?_)
  refine lv_aload_n hx hb dX5_init_21 rfl (lv_at hl 1 rfl) ?_
  refine va_get (D := D) (ci := 5) (v := .ref a7_5) (C := RX5) (T := TX5) (N := 1) hx hb T lp_u5 hown hWd.1 hP 0 rfl rfl 0 (by decide) (T (.fieldLink RX5 11 "LoadPress$Walker" "places" "[LLoadPress$Dealing;") (by decide +kernel)) (fun _ h9 => h9) rfl dX5_init_22 ?_
  refine lv_iload_n hx hb dX5_init_25 rfl (lv_at hl 0 rfl) ?_
  refine va_new (ci := 1) (fs := [.null, .null]) (C := RX1) (T := TX1) (N := 2) hx hb T lp_u1 tyX1 tyX1_ok hown (T (.classLink RX5 9 RX1) (by decide +kernel)) (T (.instantiable RX1 2) (by decide +kernel)) (T (.initialized RX1) (by decide +kernel)) hWd.1 hP hD hS hA rfl (fun j hj => by rcases (show j = 0 ∨ j = 1 by omega) with rfl | rfl <;> rfl) (by rw [hRc]; exact Nat.le_of_ble_eq_true rfl) (by rw [hRs]; exact Nat.le_of_ble_eq_true rfl) dX5_init_26 (fun a26_93 H hP hD hS => ?_)
  refine W.widen (k := 20) (n := 157) (by omega) (by omega) ?_
  have hP : va_P D vwCl [(h0, .inr (5, [.ref a7_5])), (a7_5, .inl (cD, 11, .inr (.inr (.inr (.inr (va_up (va_up (va_up (va_up (va_up (va_up (fun _ => none) 0 (some (a26_15))) 1 (some (a26_28))) 2 (some (a26_41))) 3 (some (a26_54))) 4 (some (a26_67))) 5 (some (a26_80)))))))), (a26_15, .inr (1, [.ref (Q0 0), .ref (Q0 1)])), ((Q0 0), lp_z cI 11), ((Q0 1), lp_z cI 11), (a26_28, .inr (1, [.ref (Q1 0), .ref (Q1 1)])), ((Q1 0), lp_z cI 11), ((Q1 1), lp_z cI 11), (a26_41, .inr (1, [.ref (Q2 0), .ref (Q2 1)])), ((Q2 0), lp_z cI 11), ((Q2 1), lp_z cI 11), (a26_54, .inr (1, [.ref (Q3 0), .ref (Q3 1)])), ((Q3 0), lp_z cI 11), ((Q3 1), lp_z cI 11), (a26_67, .inr (1, [.ref (Q4 0), .ref (Q4 1)])), ((Q4 0), lp_z cI 11), ((Q4 1), lp_z cI 11), (a26_80, .inr (1, [.ref (Q5 0), .ref (Q5 1)])), ((Q5 0), lp_z cI 11), ((Q5 1), lp_z cI 11), (a26_93, .inr (1, [.null, .null]))] H := hP
  have hD : va_D A [(h0, .inr (5, [.ref a7_5])), (a7_5, .inl (cD, 11, .inr (.inr (.inr (.inr (va_up (va_up (va_up (va_up (va_up (va_up (fun _ => none) 0 (some (a26_15))) 1 (some (a26_28))) 2 (some (a26_41))) 3 (some (a26_54))) 4 (some (a26_67))) 5 (some (a26_80)))))))), (a26_15, .inr (1, [.ref (Q0 0), .ref (Q0 1)])), ((Q0 0), lp_z cI 11), ((Q0 1), lp_z cI 11), (a26_28, .inr (1, [.ref (Q1 0), .ref (Q1 1)])), ((Q1 0), lp_z cI 11), ((Q1 1), lp_z cI 11), (a26_41, .inr (1, [.ref (Q2 0), .ref (Q2 1)])), ((Q2 0), lp_z cI 11), ((Q2 1), lp_z cI 11), (a26_54, .inr (1, [.ref (Q3 0), .ref (Q3 1)])), ((Q3 0), lp_z cI 11), ((Q3 1), lp_z cI 11), (a26_67, .inr (1, [.ref (Q4 0), .ref (Q4 1)])), ((Q4 0), lp_z cI 11), ((Q4 1), lp_z cI 11), (a26_80, .inr (1, [.ref (Q5 0), .ref (Q5 1)])), ((Q5 0), lp_z cI 11), ((Q5 1), lp_z cI 11), (a26_93, .inr (1, [.null, .null]))] := hD
  refine lv_dup hx hb dX5_init_29 rfl ?_
  refine lv_bipush (v := 11) hx hb dX5_init_30 (by decide) ?_
  have hPc := hP.sub (ws' := [(a26_93, .inr (1, [.null, .null]))]) [20] rfl
  have hDc := hD.sub (ws' := [(a26_93, .inr (1, [.null, .null]))]) [20] (by decide) rfl
  have hFc := va_free (wc := [(a26_93, .inr (1, [.null, .null]))]) hD hS hA [20] rfl
  have eA : (.int 11 : Value) = .int (nI 11) := rfl
  refine va_callv (va_runI (As := [.int 11]) (rest := [.ref a26_93, .int 6, .ref a7_5]) ⟨hx, hb, hml, hown, hts⟩ (ci_X1 l D cI cD a26_93 H.size 11 (by omega)) (cwI 1 hts (lp_good (w0 := Cond.code yX5_init cX5_init 2 none) (y := yX1_init) (bytes := cX1_init) (nL := 3) (ret := none) (by decide +kernel)) rfl rfl rfl (T (.initialized RX1) (by decide +kernel)) (T (.methodLink RX5 17 yX1_init) (by decide +kernel)) (T (.instanceMethod yX1_init) (by decide +kernel)) rfl (by decide +kernel) ⟨by rw [hRf]; exact Nat.le_of_ble_eq_true rfl, by rw [hRl]; exact Nat.le_of_ble_eq_true rfl⟩) ⟨fun a U g mk q => by obtain ⟨q0, q1, qP, qW, qD⟩ := q; exact ⟨q0, q1, qP, lp_Wd_call qW, qD⟩, fun U hU hW => ⟨rfl, by rw [hU], by rw [hU]; exact hPc, lp_Wd_move hW hWd, hDc.weaken (fun _ _ _ _ => trivial)⟩⟩ rfl rfl hl.1 rfl (lv_room (Nat.le_of_ble_eq_true rfl)) dX5_init_32 ⟨by rw [hRc]; exact Nat.le_of_ble_eq_true rfl, by rw [hRs]; exact Nat.le_of_ble_eq_true rfl⟩) hS (fun q _ h => hFc q h) hFc (fun Q6 t H1 locs ht hvm hw hB hz1 hk1 hS => ?_)
  obtain ⟨hP1, hW1, hD1⟩ := hB
  rw [ht] at hP1
  unfold wX1 at hP1 hD1
  obtain ⟨hP, hD⟩ := va_join (wr := [(h0, .inr (5, [.ref a7_5])), (a7_5, .inl (cD, 11, .inr (.inr (.inr (.inr (va_up (va_up (va_up (va_up (va_up (va_up (fun _ => none) 0 (some (a26_15))) 1 (some (a26_28))) 2 (some (a26_41))) 3 (some (a26_54))) 4 (some (a26_67))) 5 (some (a26_80)))))))), (a26_15, .inr (1, [.ref (Q0 0), .ref (Q0 1)])), ((Q0 0), lp_z cI 11), ((Q0 1), lp_z cI 11), (a26_28, .inr (1, [.ref (Q1 0), .ref (Q1 1)])), ((Q1 0), lp_z cI 11), ((Q1 1), lp_z cI 11), (a26_41, .inr (1, [.ref (Q2 0), .ref (Q2 1)])), ((Q2 0), lp_z cI 11), ((Q2 1), lp_z cI 11), (a26_54, .inr (1, [.ref (Q3 0), .ref (Q3 1)])), ((Q3 0), lp_z cI 11), ((Q3 1), lp_z cI 11), (a26_67, .inr (1, [.ref (Q4 0), .ref (Q4 1)])), ((Q4 0), lp_z cI 11), ((Q4 1), lp_z cI 11), (a26_80, .inr (1, [.ref (Q5 0), .ref (Q5 1)])), ((Q5 0), lp_z cI 11), ((Q5 1), lp_z cI 11)]) (w1 := [(a26_93, .inr (1, [.ref (Q6 0), .ref (Q6 1)])), ((Q6 0), lp_z cI 11), ((Q6 1), lp_z cI 11)]) hP hD [20] [0, 1, 2, 3, 4, 5, 6, 7, 8, 9, 10, 11, 12, 13, 14, 15, 16, 17, 18, 19] rfl rfl (by decide) (by decide) hk1 hFc hP1 hD1
  generalize H1 = H at hP hS ⊢
  refine W.widen (k := 22) (n := 179) (by omega) (by omega) ?_
  have hP : va_P D vwCl [(h0, .inr (5, [.ref a7_5])), (a7_5, .inl (cD, 11, .inr (.inr (.inr (.inr (va_up (va_up (va_up (va_up (va_up (va_up (fun _ => none) 0 (some (a26_15))) 1 (some (a26_28))) 2 (some (a26_41))) 3 (some (a26_54))) 4 (some (a26_67))) 5 (some (a26_80)))))))), (a26_15, .inr (1, [.ref (Q0 0), .ref (Q0 1)])), ((Q0 0), lp_z cI 11), ((Q0 1), lp_z cI 11), (a26_28, .inr (1, [.ref (Q1 0), .ref (Q1 1)])), ((Q1 0), lp_z cI 11), ((Q1 1), lp_z cI 11), (a26_41, .inr (1, [.ref (Q2 0), .ref (Q2 1)])), ((Q2 0), lp_z cI 11), ((Q2 1), lp_z cI 11), (a26_54, .inr (1, [.ref (Q3 0), .ref (Q3 1)])), ((Q3 0), lp_z cI 11), ((Q3 1), lp_z cI 11), (a26_67, .inr (1, [.ref (Q4 0), .ref (Q4 1)])), ((Q4 0), lp_z cI 11), ((Q4 1), lp_z cI 11), (a26_80, .inr (1, [.ref (Q5 0), .ref (Q5 1)])), ((Q5 0), lp_z cI 11), ((Q5 1), lp_z cI 11), (a26_93, .inr (1, [.ref (Q6 0), .ref (Q6 1)])), ((Q6 0), lp_z cI 11), ((Q6 1), lp_z cI 11)] H := hP
  have hD : va_D A [(h0, .inr (5, [.ref a7_5])), (a7_5, .inl (cD, 11, .inr (.inr (.inr (.inr (va_up (va_up (va_up (va_up (va_up (va_up (fun _ => none) 0 (some (a26_15))) 1 (some (a26_28))) 2 (some (a26_41))) 3 (some (a26_54))) 4 (some (a26_67))) 5 (some (a26_80)))))))), (a26_15, .inr (1, [.ref (Q0 0), .ref (Q0 1)])), ((Q0 0), lp_z cI 11), ((Q0 1), lp_z cI 11), (a26_28, .inr (1, [.ref (Q1 0), .ref (Q1 1)])), ((Q1 0), lp_z cI 11), ((Q1 1), lp_z cI 11), (a26_41, .inr (1, [.ref (Q2 0), .ref (Q2 1)])), ((Q2 0), lp_z cI 11), ((Q2 1), lp_z cI 11), (a26_54, .inr (1, [.ref (Q3 0), .ref (Q3 1)])), ((Q3 0), lp_z cI 11), ((Q3 1), lp_z cI 11), (a26_67, .inr (1, [.ref (Q4 0), .ref (Q4 1)])), ((Q4 0), lp_z cI 11), ((Q4 1), lp_z cI 11), (a26_80, .inr (1, [.ref (Q5 0), .ref (Q5 1)])), ((Q5 0), lp_z cI 11), ((Q5 1), lp_z cI 11), (a26_93, .inr (1, [.ref (Q6 0), .ref (Q6 1)])), ((Q6 0), lp_z cI 11), ((Q6 1), lp_z cI 11)] := hD
  refine va_astq hx hb hWd.1 hP hD hS 1 1 20 1 rfl rfl rfl rfl (lp_vin (a := 6) (by omega) (by omega)) dX5_init_35 (fun H locs hP hD hS => ?_)
  have hP : va_P D vwCl [(h0, .inr (5, [.ref a7_5])), (a7_5, .inl (cD, 11, .inr (.inr (.inr (.inr (va_up (va_up (va_up (va_up (va_up (va_up (va_up (fun _ => none) 0 (some (a26_15))) 1 (some (a26_28))) 2 (some (a26_41))) 3 (some (a26_54))) 4 (some (a26_67))) 5 (some (a26_80))) 6 (some (a26_93)))))))), (a26_15, .inr (1, [.ref (Q0 0), .ref (Q0 1)])), ((Q0 0), lp_z cI 11), ((Q0 1), lp_z cI 11), (a26_28, .inr (1, [.ref (Q1 0), .ref (Q1 1)])), ((Q1 0), lp_z cI 11), ((Q1 1), lp_z cI 11), (a26_41, .inr (1, [.ref (Q2 0), .ref (Q2 1)])), ((Q2 0), lp_z cI 11), ((Q2 1), lp_z cI 11), (a26_54, .inr (1, [.ref (Q3 0), .ref (Q3 1)])), ((Q3 0), lp_z cI 11), ((Q3 1), lp_z cI 11), (a26_67, .inr (1, [.ref (Q4 0), .ref (Q4 1)])), ((Q4 0), lp_z cI 11), ((Q4 1), lp_z cI 11), (a26_80, .inr (1, [.ref (Q5 0), .ref (Q5 1)])), ((Q5 0), lp_z cI 11), ((Q5 1), lp_z cI 11), (a26_93, .inr (1, [.ref (Q6 0), .ref (Q6 1)])), ((Q6 0), lp_z cI 11), ((Q6 1), lp_z cI 11)] H := hP
  have hD : va_D A [(h0, .inr (5, [.ref a7_5])), (a7_5, .inl (cD, 11, .inr (.inr (.inr (.inr (va_up (va_up (va_up (va_up (va_up (va_up (va_up (fun _ => none) 0 (some (a26_15))) 1 (some (a26_28))) 2 (some (a26_41))) 3 (some (a26_54))) 4 (some (a26_67))) 5 (some (a26_80))) 6 (some (a26_93)))))))), (a26_15, .inr (1, [.ref (Q0 0), .ref (Q0 1)])), ((Q0 0), lp_z cI 11), ((Q0 1), lp_z cI 11), (a26_28, .inr (1, [.ref (Q1 0), .ref (Q1 1)])), ((Q1 0), lp_z cI 11), ((Q1 1), lp_z cI 11), (a26_41, .inr (1, [.ref (Q2 0), .ref (Q2 1)])), ((Q2 0), lp_z cI 11), ((Q2 1), lp_z cI 11), (a26_54, .inr (1, [.ref (Q3 0), .ref (Q3 1)])), ((Q3 0), lp_z cI 11), ((Q3 1), lp_z cI 11), (a26_67, .inr (1, [.ref (Q4 0), .ref (Q4 1)])), ((Q4 0), lp_z cI 11), ((Q4 1), lp_z cI 11), (a26_80, .inr (1, [.ref (Q5 0), .ref (Q5 1)])), ((Q5 0), lp_z cI 11), ((Q5 1), lp_z cI 11), (a26_93, .inr (1, [.ref (Q6 0), .ref (Q6 1)])), ((Q6 0), lp_z cI 11), ((Q6 1), lp_z cI 11)] := hD
  refine lv_iinc (v := 7) (lv' := [(1, .int 7), (0, .ref h0)]) hx hb dX5_init_36 hl (k := 0) rfl (by decide) (by decide) rfl (fun ls hl => ?_)
  refine lv_goto (tgt := 15) hx hb dX5_init_39 (by decide) ?_
  refine lv_iload_n hx hb dX5_init_15 rfl (lv_at hl 0 rfl) ?_
  refine lv_bipush (v := 11) hx hb dX5_init_16 (by decide) ?_
  refine lv_icmp_ge (tgt := 42) hx hb dX5_init_18 (by decide) (fun q => absurd q (by decide)) (fun _ => ?_)
  refine lv_aload_n hx hb dX5_init_21 rfl (lv_at hl 1 rfl) ?_
  refine va_get (D := D) (ci := 5) (v := .ref a7_5) (C := RX5) (T := TX5) (N := 1) hx hb T lp_u5 hown hWd.1 hP 0 rfl rfl 0 (by decide) (T (.fieldLink RX5 11 "LoadPress$Walker" "places" "[LLoadPress$Dealing;") (by decide +kernel)) (fun _ h9 => h9) rfl dX5_init_22 ?_
  refine lv_iload_n hx hb dX5_init_25 rfl (lv_at hl 0 rfl) ?_
  refine va_new (ci := 1) (fs := [.null, .null]) (C := RX1) (T := TX1) (N := 2) hx hb T lp_u1 tyX1 tyX1_ok hown (T (.classLink RX5 9 RX1) (by decide +kernel)) (T (.instantiable RX1 2) (by decide +kernel)) (T (.initialized RX1) (by decide +kernel)) hWd.1 hP hD hS hA rfl (fun j hj => by rcases (show j = 0 ∨ j = 1 by omega) with rfl | rfl <;> rfl) (by rw [hRc]; exact Nat.le_of_ble_eq_true rfl) (by rw [hRs]; exact Nat.le_of_ble_eq_true rfl) dX5_init_26 (fun a26_106 H hP hD hS => ?_)
  refine W.widen (k := 23) (n := 181) (by omega) (by omega) ?_
  have hP : va_P D vwCl [(h0, .inr (5, [.ref a7_5])), (a7_5, .inl (cD, 11, .inr (.inr (.inr (.inr (va_up (va_up (va_up (va_up (va_up (va_up (va_up (fun _ => none) 0 (some (a26_15))) 1 (some (a26_28))) 2 (some (a26_41))) 3 (some (a26_54))) 4 (some (a26_67))) 5 (some (a26_80))) 6 (some (a26_93)))))))), (a26_15, .inr (1, [.ref (Q0 0), .ref (Q0 1)])), ((Q0 0), lp_z cI 11), ((Q0 1), lp_z cI 11), (a26_28, .inr (1, [.ref (Q1 0), .ref (Q1 1)])), ((Q1 0), lp_z cI 11), ((Q1 1), lp_z cI 11), (a26_41, .inr (1, [.ref (Q2 0), .ref (Q2 1)])), ((Q2 0), lp_z cI 11), ((Q2 1), lp_z cI 11), (a26_54, .inr (1, [.ref (Q3 0), .ref (Q3 1)])), ((Q3 0), lp_z cI 11), ((Q3 1), lp_z cI 11), (a26_67, .inr (1, [.ref (Q4 0), .ref (Q4 1)])), ((Q4 0), lp_z cI 11), ((Q4 1), lp_z cI 11), (a26_80, .inr (1, [.ref (Q5 0), .ref (Q5 1)])), ((Q5 0), lp_z cI 11), ((Q5 1), lp_z cI 11), (a26_93, .inr (1, [.ref (Q6 0), .ref (Q6 1)])), ((Q6 0), lp_z cI 11), ((Q6 1), lp_z cI 11), (a26_106, .inr (1, [.null, .null]))] H := hP
  have hD : va_D A [(h0, .inr (5, [.ref a7_5])), (a7_5, .inl (cD, 11, .inr (.inr (.inr (.inr (va_up (va_up (va_up (va_up (va_up (va_up (va_up (fun _ => none) 0 (some (a26_15))) 1 (some (a26_28))) 2 (some (a26_41))) 3 (some (a26_54))) 4 (some (a26_67))) 5 (some (a26_80))) 6 (some (a26_93)))))))), (a26_15, .inr (1, [.ref (Q0 0), .ref (Q0 1)])), ((Q0 0), lp_z cI 11), ((Q0 1), lp_z cI 11), (a26_28, .inr (1, [.ref (Q1 0), .ref (Q1 1)])), ((Q1 0), lp_z cI 11), ((Q1 1), lp_z cI 11), (a26_41, .inr (1, [.ref (Q2 0), .ref (Q2 1)])), ((Q2 0), lp_z cI 11), ((Q2 1), lp_z cI 11), (a26_54, .inr (1, [.ref (Q3 0), .ref (Q3 1)])), ((Q3 0), lp_z cI 11), ((Q3 1), lp_z cI 11), (a26_67, .inr (1, [.ref (Q4 0), .ref (Q4 1)])), ((Q4 0), lp_z cI 11), ((Q4 1), lp_z cI 11), (a26_80, .inr (1, [.ref (Q5 0), .ref (Q5 1)])), ((Q5 0), lp_z cI 11), ((Q5 1), lp_z cI 11), (a26_93, .inr (1, [.ref (Q6 0), .ref (Q6 1)])), ((Q6 0), lp_z cI 11), ((Q6 1), lp_z cI 11), (a26_106, .inr (1, [.null, .null]))] := hD
  refine lv_dup hx hb dX5_init_29 rfl ?_
  refine lv_bipush (v := 11) hx hb dX5_init_30 (by decide) ?_
  have hPc := hP.sub (ws' := [(a26_106, .inr (1, [.null, .null]))]) [23] rfl
  have hDc := hD.sub (ws' := [(a26_106, .inr (1, [.null, .null]))]) [23] (by decide) rfl
  have hFc := va_free (wc := [(a26_106, .inr (1, [.null, .null]))]) hD hS hA [23] rfl
  have eA : (.int 11 : Value) = .int (nI 11) := rfl
  refine va_callv (va_runI (As := [.int 11]) (rest := [.ref a26_106, .int 7, .ref a7_5]) ⟨hx, hb, hml, hown, hts⟩ (ci_X1 l D cI cD a26_106 H.size 11 (by omega)) (cwI 1 hts (lp_good (w0 := Cond.code yX5_init cX5_init 2 none) (y := yX1_init) (bytes := cX1_init) (nL := 3) (ret := none) (by decide +kernel)) rfl rfl rfl (T (.initialized RX1) (by decide +kernel)) (T (.methodLink RX5 17 yX1_init) (by decide +kernel)) (T (.instanceMethod yX1_init) (by decide +kernel)) rfl (by decide +kernel) ⟨by rw [hRf]; exact Nat.le_of_ble_eq_true rfl, by rw [hRl]; exact Nat.le_of_ble_eq_true rfl⟩) ⟨fun a U g mk q => by obtain ⟨q0, q1, qP, qW, qD⟩ := q; exact ⟨q0, q1, qP, lp_Wd_call qW, qD⟩, fun U hU hW => ⟨rfl, by rw [hU], by rw [hU]; exact hPc, lp_Wd_move hW hWd, hDc.weaken (fun _ _ _ _ => trivial)⟩⟩ rfl rfl hl.1 rfl (lv_room (Nat.le_of_ble_eq_true rfl)) dX5_init_32 ⟨by rw [hRc]; exact Nat.le_of_ble_eq_true rfl, by rw [hRs]; exact Nat.le_of_ble_eq_true rfl⟩) hS (fun q _ h => hFc q h) hFc (fun Q7 t H1 locs ht hvm hw hB hz1 hk1 hS => ?_)
  obtain ⟨hP1, hW1, hD1⟩ := hB
  rw [ht] at hP1
  unfold wX1 at hP1 hD1
  obtain ⟨hP, hD⟩ := va_join (wr := [(h0, .inr (5, [.ref a7_5])), (a7_5, .inl (cD, 11, .inr (.inr (.inr (.inr (va_up (va_up (va_up (va_up (va_up (va_up (va_up (fun _ => none) 0 (some (a26_15))) 1 (some (a26_28))) 2 (some (a26_41))) 3 (some (a26_54))) 4 (some (a26_67))) 5 (some (a26_80))) 6 (some (a26_93)))))))), (a26_15, .inr (1, [.ref (Q0 0), .ref (Q0 1)])), ((Q0 0), lp_z cI 11), ((Q0 1), lp_z cI 11), (a26_28, .inr (1, [.ref (Q1 0), .ref (Q1 1)])), ((Q1 0), lp_z cI 11), ((Q1 1), lp_z cI 11), (a26_41, .inr (1, [.ref (Q2 0), .ref (Q2 1)])), ((Q2 0), lp_z cI 11), ((Q2 1), lp_z cI 11), (a26_54, .inr (1, [.ref (Q3 0), .ref (Q3 1)])), ((Q3 0), lp_z cI 11), ((Q3 1), lp_z cI 11), (a26_67, .inr (1, [.ref (Q4 0), .ref (Q4 1)])), ((Q4 0), lp_z cI 11), ((Q4 1), lp_z cI 11), (a26_80, .inr (1, [.ref (Q5 0), .ref (Q5 1)])), ((Q5 0), lp_z cI 11), ((Q5 1), lp_z cI 11), (a26_93, .inr (1, [.ref (Q6 0), .ref (Q6 1)])), ((Q6 0), lp_z cI 11), ((Q6 1), lp_z cI 11)]) (w1 := [(a26_106, .inr (1, [.ref (Q7 0), .ref (Q7 1)])), ((Q7 0), lp_z cI 11), ((Q7 1), lp_z cI 11)]) hP hD [23] [0, 1, 2, 3, 4, 5, 6, 7, 8, 9, 10, 11, 12, 13, 14, 15, 16, 17, 18, 19, 20, 21, 22] rfl rfl (by decide) (by decide) hk1 hFc hP1 hD1
  generalize H1 = H at hP hS ⊢
  refine W.widen (k := 25) (n := 203) (by omega) (by omega) ?_
  have hP : va_P D vwCl [(h0, .inr (5, [.ref a7_5])), (a7_5, .inl (cD, 11, .inr (.inr (.inr (.inr (va_up (va_up (va_up (va_up (va_up (va_up (va_up (fun _ => none) 0 (some (a26_15))) 1 (some (a26_28))) 2 (some (a26_41))) 3 (some (a26_54))) 4 (some (a26_67))) 5 (some (a26_80))) 6 (some (a26_93)))))))), (a26_15, .inr (1, [.ref (Q0 0), .ref (Q0 1)])), ((Q0 0), lp_z cI 11), ((Q0 1), lp_z cI 11), (a26_28, .inr (1, [.ref (Q1 0), .ref (Q1 1)])), ((Q1 0), lp_z cI 11), ((Q1 1), lp_z cI 11), (a26_41, .inr (1, [.ref (Q2 0), .ref (Q2 1)])), ((Q2 0), lp_z cI 11), ((Q2 1), lp_z cI 11), (a26_54, .inr (1, [.ref (Q3 0), .ref (Q3 1)])), ((Q3 0), lp_z cI 11), ((Q3 1), lp_z cI 11), (a26_67, .inr (1, [.ref (Q4 0), .ref (Q4 1)])), ((Q4 0), lp_z cI 11), ((Q4 1), lp_z cI 11), (a26_80, .inr (1, [.ref (Q5 0), .ref (Q5 1)])), ((Q5 0), lp_z cI 11), ((Q5 1), lp_z cI 11), (a26_93, .inr (1, [.ref (Q6 0), .ref (Q6 1)])), ((Q6 0), lp_z cI 11), ((Q6 1), lp_z cI 11), (a26_106, .inr (1, [.ref (Q7 0), .ref (Q7 1)])), ((Q7 0), lp_z cI 11), ((Q7 1), lp_z cI 11)] H := hP
  have hD : va_D A [(h0, .inr (5, [.ref a7_5])), (a7_5, .inl (cD, 11, .inr (.inr (.inr (.inr (va_up (va_up (va_up (va_up (va_up (va_up (va_up (fun _ => none) 0 (some (a26_15))) 1 (some (a26_28))) 2 (some (a26_41))) 3 (some (a26_54))) 4 (some (a26_67))) 5 (some (a26_80))) 6 (some (a26_93)))))))), (a26_15, .inr (1, [.ref (Q0 0), .ref (Q0 1)])), ((Q0 0), lp_z cI 11), ((Q0 1), lp_z cI 11), (a26_28, .inr (1, [.ref (Q1 0), .ref (Q1 1)])), ((Q1 0), lp_z cI 11), ((Q1 1), lp_z cI 11), (a26_41, .inr (1, [.ref (Q2 0), .ref (Q2 1)])), ((Q2 0), lp_z cI 11), ((Q2 1), lp_z cI 11), (a26_54, .inr (1, [.ref (Q3 0), .ref (Q3 1)])), ((Q3 0), lp_z cI 11), ((Q3 1), lp_z cI 11), (a26_67, .inr (1, [.ref (Q4 0), .ref (Q4 1)])), ((Q4 0), lp_z cI 11), ((Q4 1), lp_z cI 11), (a26_80, .inr (1, [.ref (Q5 0), .ref (Q5 1)])), ((Q5 0), lp_z cI 11), ((Q5 1), lp_z cI 11), (a26_93, .inr (1, [.ref (Q6 0), .ref (Q6 1)])), ((Q6 0), lp_z cI 11), ((Q6 1), lp_z cI 11), (a26_106, .inr (1, [.ref (Q7 0), .ref (Q7 1)])), ((Q7 0), lp_z cI 11), ((Q7 1), lp_z cI 11)] := hD
  refine va_astq hx hb hWd.1 hP hD hS 1 1 23 1 rfl rfl rfl rfl (lp_vin (a := 7) (by omega) (by omega)) dX5_init_35 (fun H locs hP hD hS => ?_)
  have hP : va_P D vwCl [(h0, .inr (5, [.ref a7_5])), (a7_5, .inl (cD, 11, .inr (.inr (.inr (.inr (va_up (va_up (va_up (va_up (va_up (va_up (va_up (va_up (fun _ => none) 0 (some (a26_15))) 1 (some (a26_28))) 2 (some (a26_41))) 3 (some (a26_54))) 4 (some (a26_67))) 5 (some (a26_80))) 6 (some (a26_93))) 7 (some (a26_106)))))))), (a26_15, .inr (1, [.ref (Q0 0), .ref (Q0 1)])), ((Q0 0), lp_z cI 11), ((Q0 1), lp_z cI 11), (a26_28, .inr (1, [.ref (Q1 0), .ref (Q1 1)])), ((Q1 0), lp_z cI 11), ((Q1 1), lp_z cI 11), (a26_41, .inr (1, [.ref (Q2 0), .ref (Q2 1)])), ((Q2 0), lp_z cI 11), ((Q2 1), lp_z cI 11), (a26_54, .inr (1, [.ref (Q3 0), .ref (Q3 1)])), ((Q3 0), lp_z cI 11), ((Q3 1), lp_z cI 11), (a26_67, .inr (1, [.ref (Q4 0), .ref (Q4 1)])), ((Q4 0), lp_z cI 11), ((Q4 1), lp_z cI 11), (a26_80, .inr (1, [.ref (Q5 0), .ref (Q5 1)])), ((Q5 0), lp_z cI 11), ((Q5 1), lp_z cI 11), (a26_93, .inr (1, [.ref (Q6 0), .ref (Q6 1)])), ((Q6 0), lp_z cI 11), ((Q6 1), lp_z cI 11), (a26_106, .inr (1, [.ref (Q7 0), .ref (Q7 1)])), ((Q7 0), lp_z cI 11), ((Q7 1), lp_z cI 11)] H := hP
  have hD : va_D A [(h0, .inr (5, [.ref a7_5])), (a7_5, .inl (cD, 11, .inr (.inr (.inr (.inr (va_up (va_up (va_up (va_up (va_up (va_up (va_up (va_up (fun _ => none) 0 (some (a26_15))) 1 (some (a26_28))) 2 (some (a26_41))) 3 (some (a26_54))) 4 (some (a26_67))) 5 (some (a26_80))) 6 (some (a26_93))) 7 (some (a26_106)))))))), (a26_15, .inr (1, [.ref (Q0 0), .ref (Q0 1)])), ((Q0 0), lp_z cI 11), ((Q0 1), lp_z cI 11), (a26_28, .inr (1, [.ref (Q1 0), .ref (Q1 1)])), ((Q1 0), lp_z cI 11), ((Q1 1), lp_z cI 11), (a26_41, .inr (1, [.ref (Q2 0), .ref (Q2 1)])), ((Q2 0), lp_z cI 11), ((Q2 1), lp_z cI 11), (a26_54, .inr (1, [.ref (Q3 0), .ref (Q3 1)])), ((Q3 0), lp_z cI 11), ((Q3 1), lp_z cI 11), (a26_67, .inr (1, [.ref (Q4 0), .ref (Q4 1)])), ((Q4 0), lp_z cI 11), ((Q4 1), lp_z cI 11), (a26_80, .inr (1, [.ref (Q5 0), .ref (Q5 1)])), ((Q5 0), lp_z cI 11), ((Q5 1), lp_z cI 11), (a26_93, .inr (1, [.ref (Q6 0), .ref (Q6 1)])), ((Q6 0), lp_z cI 11), ((Q6 1), lp_z cI 11), (a26_106, .inr (1, [.ref (Q7 0), .ref (Q7 1)])), ((Q7 0), lp_z cI 11), ((Q7 1), lp_z cI 11)] := hD
  refine lv_iinc (v := 8) (lv' := [(1, .int 8), (0, .ref h0)]) hx hb dX5_init_36 hl (k := 0) rfl (by decide) (by decide) rfl (fun ls hl => ?_)
  refine lv_goto (tgt := 15) hx hb dX5_init_39 (by decide) ?_
  refine lv_iload_n hx hb dX5_init_15 rfl (lv_at hl 0 rfl) ?_
  refine lv_bipush (v := 11) hx hb dX5_init_16 (by decide) ?_
  refine lv_icmp_ge (tgt := 42) hx hb dX5_init_18 (by decide) (fun q => absurd q (by decide)) (fun _ => ?_)
  refine lv_aload_n hx hb dX5_init_21 rfl (lv_at hl 1 rfl) ?_
  refine va_get (D := D) (ci := 5) (v := .ref a7_5) (C := RX5) (T := TX5) (N := 1) hx hb T lp_u5 hown hWd.1 hP 0 rfl rfl 0 (by decide) (T (.fieldLink RX5 11 "LoadPress$Walker" "places" "[LLoadPress$Dealing;") (by decide +kernel)) (fun _ h9 => h9) rfl dX5_init_22 ?_
  refine lv_iload_n hx hb dX5_init_25 rfl (lv_at hl 0 rfl) ?_
  refine va_new (ci := 1) (fs := [.null, .null]) (C := RX1) (T := TX1) (N := 2) hx hb T lp_u1 tyX1 tyX1_ok hown (T (.classLink RX5 9 RX1) (by decide +kernel)) (T (.instantiable RX1 2) (by decide +kernel)) (T (.initialized RX1) (by decide +kernel)) hWd.1 hP hD hS hA rfl (fun j hj => by rcases (show j = 0 ∨ j = 1 by omega) with rfl | rfl <;> rfl) (by rw [hRc]; exact Nat.le_of_ble_eq_true rfl) (by rw [hRs]; exact Nat.le_of_ble_eq_true rfl) dX5_init_26 (fun a26_119 H hP hD hS => ?_)
  refine W.widen (k := 26) (n := 205) (by omega) (by omega) ?_
  have hP : va_P D vwCl [(h0, .inr (5, [.ref a7_5])), (a7_5, .inl (cD, 11, .inr (.inr (.inr (.inr (va_up (va_up (va_up (va_up (va_up (va_up (va_up (va_up (fun _ => none) 0 (some (a26_15))) 1 (some (a26_28))) 2 (some (a26_41))) 3 (some (a26_54))) 4 (some (a26_67))) 5 (some (a26_80))) 6 (some (a26_93))) 7 (some (a26_106)))))))), (a26_15, .inr (1, [.ref (Q0 0), .ref (Q0 1)])), ((Q0 0), lp_z cI 11), ((Q0 1), lp_z cI 11), (a26_28, .inr (1, [.ref (Q1 0), .ref (Q1 1)])), ((Q1 0), lp_z cI 11), ((Q1 1), lp_z cI 11), (a26_41, .inr (1, [.ref (Q2 0), .ref (Q2 1)])), ((Q2 0), lp_z cI 11), ((Q2 1), lp_z cI 11), (a26_54, .inr (1, [.ref (Q3 0), .ref (Q3 1)])), ((Q3 0), lp_z cI 11), ((Q3 1), lp_z cI 11), (a26_67, .inr (1, [.ref (Q4 0), .ref (Q4 1)])), ((Q4 0), lp_z cI 11), ((Q4 1), lp_z cI 11), (a26_80, .inr (1, [.ref (Q5 0), .ref (Q5 1)])), ((Q5 0), lp_z cI 11), ((Q5 1), lp_z cI 11), (a26_93, .inr (1, [.ref (Q6 0), .ref (Q6 1)])), ((Q6 0), lp_z cI 11), ((Q6 1), lp_z cI 11), (a26_106, .inr (1, [.ref (Q7 0), .ref (Q7 1)])), ((Q7 0), lp_z cI 11), ((Q7 1), lp_z cI 11), (a26_119, .inr (1, [.null, .null]))] H := hP
  have hD : va_D A [(h0, .inr (5, [.ref a7_5])), (a7_5, .inl (cD, 11, .inr (.inr (.inr (.inr (va_up (va_up (va_up (va_up (va_up (va_up (va_up (va_up (fun _ => none) 0 (some (a26_15))) 1 (some (a26_28))) 2 (some (a26_41))) 3 (some (a26_54))) 4 (some (a26_67))) 5 (some (a26_80))) 6 (some (a26_93))) 7 (some (a26_106)))))))), (a26_15, .inr (1, [.ref (Q0 0), .ref (Q0 1)])), ((Q0 0), lp_z cI 11), ((Q0 1), lp_z cI 11), (a26_28, .inr (1, [.ref (Q1 0), .ref (Q1 1)])), ((Q1 0), lp_z cI 11), ((Q1 1), lp_z cI 11), (a26_41, .inr (1, [.ref (Q2 0), .ref (Q2 1)])), ((Q2 0), lp_z cI 11), ((Q2 1), lp_z cI 11), (a26_54, .inr (1, [.ref (Q3 0), .ref (Q3 1)])), ((Q3 0), lp_z cI 11), ((Q3 1), lp_z cI 11), (a26_67, .inr (1, [.ref (Q4 0), .ref (Q4 1)])), ((Q4 0), lp_z cI 11), ((Q4 1), lp_z cI 11), (a26_80, .inr (1, [.ref (Q5 0), .ref (Q5 1)])), ((Q5 0), lp_z cI 11), ((Q5 1), lp_z cI 11), (a26_93, .inr (1, [.ref (Q6 0), .ref (Q6 1)])), ((Q6 0), lp_z cI 11), ((Q6 1), lp_z cI 11), (a26_106, .inr (1, [.ref (Q7 0), .ref (Q7 1)])), ((Q7 0), lp_z cI 11), ((Q7 1), lp_z cI 11), (a26_119, .inr (1, [.null, .null]))] := hD
  refine lv_dup hx hb dX5_init_29 rfl ?_
  refine lv_bipush (v := 11) hx hb dX5_init_30 (by decide) ?_
  have hPc := hP.sub (ws' := [(a26_119, .inr (1, [.null, .null]))]) [26] rfl
  have hDc := hD.sub (ws' := [(a26_119, .inr (1, [.null, .null]))]) [26] (by decide) rfl
  have hFc := va_free (wc := [(a26_119, .inr (1, [.null, .null]))]) hD hS hA [26] rfl
  have eA : (.int 11 : Value) = .int (nI 11) := rfl
  refine va_callv (va_runI (As := [.int 11]) (rest := [.ref a26_119, .int 8, .ref a7_5]) ⟨hx, hb, hml, hown, hts⟩ (ci_X1 l D cI cD a26_119 H.size 11 (by omega)) (cwI 1 hts (lp_good (w0 := Cond.code yX5_init cX5_init 2 none) (y := yX1_init) (bytes := cX1_init) (nL := 3) (ret := none) (by decide +kernel)) rfl rfl rfl (T (.initialized RX1) (by decide +kernel)) (T (.methodLink RX5 17 yX1_init) (by decide +kernel)) (T (.instanceMethod yX1_init) (by decide +kernel)) rfl (by decide +kernel) ⟨by rw [hRf]; exact Nat.le_of_ble_eq_true rfl, by rw [hRl]; exact Nat.le_of_ble_eq_true rfl⟩) ⟨fun a U g mk q => by obtain ⟨q0, q1, qP, qW, qD⟩ := q; exact ⟨q0, q1, qP, lp_Wd_call qW, qD⟩, fun U hU hW => ⟨rfl, by rw [hU], by rw [hU]; exact hPc, lp_Wd_move hW hWd, hDc.weaken (fun _ _ _ _ => trivial)⟩⟩ rfl rfl hl.1 rfl (lv_room (Nat.le_of_ble_eq_true rfl)) dX5_init_32 ⟨by rw [hRc]; exact Nat.le_of_ble_eq_true rfl, by rw [hRs]; exact Nat.le_of_ble_eq_true rfl⟩) hS (fun q _ h => hFc q h) hFc (fun Q8 t H1 locs ht hvm hw hB hz1 hk1 hS => ?_)
  obtain ⟨hP1, hW1, hD1⟩ := hB
  rw [ht] at hP1
  unfold wX1 at hP1 hD1
  obtain ⟨hP, hD⟩ := va_join (wr := [(h0, .inr (5, [.ref a7_5])), (a7_5, .inl (cD, 11, .inr (.inr (.inr (.inr (va_up (va_up (va_up (va_up (va_up (va_up (va_up (va_up (fun _ => none) 0 (some (a26_15))) 1 (some (a26_28))) 2 (some (a26_41))) 3 (some (a26_54))) 4 (some (a26_67))) 5 (some (a26_80))) 6 (some (a26_93))) 7 (some (a26_106)))))))), (a26_15, .inr (1, [.ref (Q0 0), .ref (Q0 1)])), ((Q0 0), lp_z cI 11), ((Q0 1), lp_z cI 11), (a26_28, .inr (1, [.ref (Q1 0), .ref (Q1 1)])), ((Q1 0), lp_z cI 11), ((Q1 1), lp_z cI 11), (a26_41, .inr (1, [.ref (Q2 0), .ref (Q2 1)])), ((Q2 0), lp_z cI 11), ((Q2 1), lp_z cI 11), (a26_54, .inr (1, [.ref (Q3 0), .ref (Q3 1)])), ((Q3 0), lp_z cI 11), ((Q3 1), lp_z cI 11), (a26_67, .inr (1, [.ref (Q4 0), .ref (Q4 1)])), ((Q4 0), lp_z cI 11), ((Q4 1), lp_z cI 11), (a26_80, .inr (1, [.ref (Q5 0), .ref (Q5 1)])), ((Q5 0), lp_z cI 11), ((Q5 1), lp_z cI 11), (a26_93, .inr (1, [.ref (Q6 0), .ref (Q6 1)])), ((Q6 0), lp_z cI 11), ((Q6 1), lp_z cI 11), (a26_106, .inr (1, [.ref (Q7 0), .ref (Q7 1)])), ((Q7 0), lp_z cI 11), ((Q7 1), lp_z cI 11)]) (w1 := [(a26_119, .inr (1, [.ref (Q8 0), .ref (Q8 1)])), ((Q8 0), lp_z cI 11), ((Q8 1), lp_z cI 11)]) hP hD [26] [0, 1, 2, 3, 4, 5, 6, 7, 8, 9, 10, 11, 12, 13, 14, 15, 16, 17, 18, 19, 20, 21, 22, 23, 24, 25] rfl rfl (by decide) (by decide) hk1 hFc hP1 hD1
  generalize H1 = H at hP hS ⊢
  refine W.widen (k := 28) (n := 227) (by omega) (by omega) ?_
  have hP : va_P D vwCl [(h0, .inr (5, [.ref a7_5])), (a7_5, .inl (cD, 11, .inr (.inr (.inr (.inr (va_up (va_up (va_up (va_up (va_up (va_up (va_up (va_up (fun _ => none) 0 (some (a26_15))) 1 (some (a26_28))) 2 (some (a26_41))) 3 (some (a26_54))) 4 (some (a26_67))) 5 (some (a26_80))) 6 (some (a26_93))) 7 (some (a26_106)))))))), (a26_15, .inr (1, [.ref (Q0 0), .ref (Q0 1)])), ((Q0 0), lp_z cI 11), ((Q0 1), lp_z cI 11), (a26_28, .inr (1, [.ref (Q1 0), .ref (Q1 1)])), ((Q1 0), lp_z cI 11), ((Q1 1), lp_z cI 11), (a26_41, .inr (1, [.ref (Q2 0), .ref (Q2 1)])), ((Q2 0), lp_z cI 11), ((Q2 1), lp_z cI 11), (a26_54, .inr (1, [.ref (Q3 0), .ref (Q3 1)])), ((Q3 0), lp_z cI 11), ((Q3 1), lp_z cI 11), (a26_67, .inr (1, [.ref (Q4 0), .ref (Q4 1)])), ((Q4 0), lp_z cI 11), ((Q4 1), lp_z cI 11), (a26_80, .inr (1, [.ref (Q5 0), .ref (Q5 1)])), ((Q5 0), lp_z cI 11), ((Q5 1), lp_z cI 11), (a26_93, .inr (1, [.ref (Q6 0), .ref (Q6 1)])), ((Q6 0), lp_z cI 11), ((Q6 1), lp_z cI 11), (a26_106, .inr (1, [.ref (Q7 0), .ref (Q7 1)])), ((Q7 0), lp_z cI 11), ((Q7 1), lp_z cI 11), (a26_119, .inr (1, [.ref (Q8 0), .ref (Q8 1)])), ((Q8 0), lp_z cI 11), ((Q8 1), lp_z cI 11)] H := hP
  have hD : va_D A [(h0, .inr (5, [.ref a7_5])), (a7_5, .inl (cD, 11, .inr (.inr (.inr (.inr (va_up (va_up (va_up (va_up (va_up (va_up (va_up (va_up (fun _ => none) 0 (some (a26_15))) 1 (some (a26_28))) 2 (some (a26_41))) 3 (some (a26_54))) 4 (some (a26_67))) 5 (some (a26_80))) 6 (some (a26_93))) 7 (some (a26_106)))))))), (a26_15, .inr (1, [.ref (Q0 0), .ref (Q0 1)])), ((Q0 0), lp_z cI 11), ((Q0 1), lp_z cI 11), (a26_28, .inr (1, [.ref (Q1 0), .ref (Q1 1)])), ((Q1 0), lp_z cI 11), ((Q1 1), lp_z cI 11), (a26_41, .inr (1, [.ref (Q2 0), .ref (Q2 1)])), ((Q2 0), lp_z cI 11), ((Q2 1), lp_z cI 11), (a26_54, .inr (1, [.ref (Q3 0), .ref (Q3 1)])), ((Q3 0), lp_z cI 11), ((Q3 1), lp_z cI 11), (a26_67, .inr (1, [.ref (Q4 0), .ref (Q4 1)])), ((Q4 0), lp_z cI 11), ((Q4 1), lp_z cI 11), (a26_80, .inr (1, [.ref (Q5 0), .ref (Q5 1)])), ((Q5 0), lp_z cI 11), ((Q5 1), lp_z cI 11), (a26_93, .inr (1, [.ref (Q6 0), .ref (Q6 1)])), ((Q6 0), lp_z cI 11), ((Q6 1), lp_z cI 11), (a26_106, .inr (1, [.ref (Q7 0), .ref (Q7 1)])), ((Q7 0), lp_z cI 11), ((Q7 1), lp_z cI 11), (a26_119, .inr (1, [.ref (Q8 0), .ref (Q8 1)])), ((Q8 0), lp_z cI 11), ((Q8 1), lp_z cI 11)] := hD
  refine va_astq hx hb hWd.1 hP hD hS 1 1 26 1 rfl rfl rfl rfl (lp_vin (a := 8) (by omega) (by omega)) dX5_init_35 (fun H locs hP hD hS => ?_)
  have hP : va_P D vwCl [(h0, .inr (5, [.ref a7_5])), (a7_5, .inl (cD, 11, .inr (.inr (.inr (.inr (va_up (va_up (va_up (va_up (va_up (va_up (va_up (va_up (va_up (fun _ => none) 0 (some (a26_15))) 1 (some (a26_28))) 2 (some (a26_41))) 3 (some (a26_54))) 4 (some (a26_67))) 5 (some (a26_80))) 6 (some (a26_93))) 7 (some (a26_106))) 8 (some (a26_119)))))))), (a26_15, .inr (1, [.ref (Q0 0), .ref (Q0 1)])), ((Q0 0), lp_z cI 11), ((Q0 1), lp_z cI 11), (a26_28, .inr (1, [.ref (Q1 0), .ref (Q1 1)])), ((Q1 0), lp_z cI 11), ((Q1 1), lp_z cI 11), (a26_41, .inr (1, [.ref (Q2 0), .ref (Q2 1)])), ((Q2 0), lp_z cI 11), ((Q2 1), lp_z cI 11), (a26_54, .inr (1, [.ref (Q3 0), .ref (Q3 1)])), ((Q3 0), lp_z cI 11), ((Q3 1), lp_z cI 11), (a26_67, .inr (1, [.ref (Q4 0), .ref (Q4 1)])), ((Q4 0), lp_z cI 11), ((Q4 1), lp_z cI 11), (a26_80, .inr (1, [.ref (Q5 0), .ref (Q5 1)])), ((Q5 0), lp_z cI 11), ((Q5 1), lp_z cI 11), (a26_93, .inr (1, [.ref (Q6 0), .ref (Q6 1)])), ((Q6 0), lp_z cI 11), ((Q6 1), lp_z cI 11), (a26_106, .inr (1, [.ref (Q7 0), .ref (Q7 1)])), ((Q7 0), lp_z cI 11), ((Q7 1), lp_z cI 11), (a26_119, .inr (1, [.ref (Q8 0), .ref (Q8 1)])), ((Q8 0), lp_z cI 11), ((Q8 1), lp_z cI 11)] H := hP
  have hD : va_D A [(h0, .inr (5, [.ref a7_5])), (a7_5, .inl (cD, 11, .inr (.inr (.inr (.inr (va_up (va_up (va_up (va_up (va_up (va_up (va_up (va_up (va_up (fun _ => none) 0 (some (a26_15))) 1 (some (a26_28))) 2 (some (a26_41))) 3 (some (a26_54))) 4 (some (a26_67))) 5 (some (a26_80))) 6 (some (a26_93))) 7 (some (a26_106))) 8 (some (a26_119)))))))), (a26_15, .inr (1, [.ref (Q0 0), .ref (Q0 1)])), ((Q0 0), lp_z cI 11), ((Q0 1), lp_z cI 11), (a26_28, .inr (1, [.ref (Q1 0), .ref (Q1 1)])), ((Q1 0), lp_z cI 11), ((Q1 1), lp_z cI 11), (a26_41, .inr (1, [.ref (Q2 0), .ref (Q2 1)])), ((Q2 0), lp_z cI 11), ((Q2 1), lp_z cI 11), (a26_54, .inr (1, [.ref (Q3 0), .ref (Q3 1)])), ((Q3 0), lp_z cI 11), ((Q3 1), lp_z cI 11), (a26_67, .inr (1, [.ref (Q4 0), .ref (Q4 1)])), ((Q4 0), lp_z cI 11), ((Q4 1), lp_z cI 11), (a26_80, .inr (1, [.ref (Q5 0), .ref (Q5 1)])), ((Q5 0), lp_z cI 11), ((Q5 1), lp_z cI 11), (a26_93, .inr (1, [.ref (Q6 0), .ref (Q6 1)])), ((Q6 0), lp_z cI 11), ((Q6 1), lp_z cI 11), (a26_106, .inr (1, [.ref (Q7 0), .ref (Q7 1)])), ((Q7 0), lp_z cI 11), ((Q7 1), lp_z cI 11), (a26_119, .inr (1, [.ref (Q8 0), .ref (Q8 1)])), ((Q8 0), lp_z cI 11), ((Q8 1), lp_z cI 11)] := hD
  refine lv_iinc (v := 9) (lv' := [(1, .int 9), (0, .ref h0)]) hx hb dX5_init_36 hl (k := 0) rfl (by decide) (by decide) rfl (fun ls hl => ?_)
  refine lv_goto (tgt := 15) hx hb dX5_init_39 (by decide) ?_
  refine lv_iload_n hx hb dX5_init_15 rfl (lv_at hl 0 rfl) ?_
  refine lv_bipush (v := 11) hx hb dX5_init_16 (by decide) ?_
  refine lv_icmp_ge (tgt := 42) hx hb dX5_init_18 (by decide) (fun q => absurd q (by decide)) (fun _ => ?_)
  refine lv_aload_n hx hb dX5_init_21 rfl (lv_at hl 1 rfl) ?_
  refine va_get (D := D) (ci := 5) (v := .ref a7_5) (C := RX5) (T := TX5) (N := 1) hx hb T lp_u5 hown hWd.1 hP 0 rfl rfl 0 (by decide) (T (.fieldLink RX5 11 "LoadPress$Walker" "places" "[LLoadPress$Dealing;") (by decide +kernel)) (fun _ h9 => h9) rfl dX5_init_22 ?_
  refine lv_iload_n hx hb dX5_init_25 rfl (lv_at hl 0 rfl) ?_
  refine va_new (ci := 1) (fs := [.null, .null]) (C := RX1) (T := TX1) (N := 2) hx hb T lp_u1 tyX1 tyX1_ok hown (T (.classLink RX5 9 RX1) (by decide +kernel)) (T (.instantiable RX1 2) (by decide +kernel)) (T (.initialized RX1) (by decide +kernel)) hWd.1 hP hD hS hA rfl (fun j hj => by rcases (show j = 0 ∨ j = 1 by omega) with rfl | rfl <;> rfl) (by rw [hRc]; exact Nat.le_of_ble_eq_true rfl) (by rw [hRs]; exact Nat.le_of_ble_eq_true rfl) dX5_init_26 (fun a26_132 H hP hD hS => ?_)
  refine W.widen (k := 29) (n := 229) (by omega) (by omega) ?_
  have hP : va_P D vwCl [(h0, .inr (5, [.ref a7_5])), (a7_5, .inl (cD, 11, .inr (.inr (.inr (.inr (va_up (va_up (va_up (va_up (va_up (va_up (va_up (va_up (va_up (fun _ => none) 0 (some (a26_15))) 1 (some (a26_28))) 2 (some (a26_41))) 3 (some (a26_54))) 4 (some (a26_67))) 5 (some (a26_80))) 6 (some (a26_93))) 7 (some (a26_106))) 8 (some (a26_119)))))))), (a26_15, .inr (1, [.ref (Q0 0), .ref (Q0 1)])), ((Q0 0), lp_z cI 11), ((Q0 1), lp_z cI 11), (a26_28, .inr (1, [.ref (Q1 0), .ref (Q1 1)])), ((Q1 0), lp_z cI 11), ((Q1 1), lp_z cI 11), (a26_41, .inr (1, [.ref (Q2 0), .ref (Q2 1)])), ((Q2 0), lp_z cI 11), ((Q2 1), lp_z cI 11), (a26_54, .inr (1, [.ref (Q3 0), .ref (Q3 1)])), ((Q3 0), lp_z cI 11), ((Q3 1), lp_z cI 11), (a26_67, .inr (1, [.ref (Q4 0), .ref (Q4 1)])), ((Q4 0), lp_z cI 11), ((Q4 1), lp_z cI 11), (a26_80, .inr (1, [.ref (Q5 0), .ref (Q5 1)])), ((Q5 0), lp_z cI 11), ((Q5 1), lp_z cI 11), (a26_93, .inr (1, [.ref (Q6 0), .ref (Q6 1)])), ((Q6 0), lp_z cI 11), ((Q6 1), lp_z cI 11), (a26_106, .inr (1, [.ref (Q7 0), .ref (Q7 1)])), ((Q7 0), lp_z cI 11), ((Q7 1), lp_z cI 11), (a26_119, .inr (1, [.ref (Q8 0), .ref (Q8 1)])), ((Q8 0), lp_z cI 11), ((Q8 1), lp_z cI 11), (a26_132, .inr (1, [.null, .null]))] H := hP
  have hD : va_D A [(h0, .inr (5, [.ref a7_5])), (a7_5, .inl (cD, 11, .inr (.inr (.inr (.inr (va_up (va_up (va_up (va_up (va_up (va_up (va_up (va_up (va_up (fun _ => none) 0 (some (a26_15))) 1 (some (a26_28))) 2 (some (a26_41))) 3 (some (a26_54))) 4 (some (a26_67))) 5 (some (a26_80))) 6 (some (a26_93))) 7 (some (a26_106))) 8 (some (a26_119)))))))), (a26_15, .inr (1, [.ref (Q0 0), .ref (Q0 1)])), ((Q0 0), lp_z cI 11), ((Q0 1), lp_z cI 11), (a26_28, .inr (1, [.ref (Q1 0), .ref (Q1 1)])), ((Q1 0), lp_z cI 11), ((Q1 1), lp_z cI 11), (a26_41, .inr (1, [.ref (Q2 0), .ref (Q2 1)])), ((Q2 0), lp_z cI 11), ((Q2 1), lp_z cI 11), (a26_54, .inr (1, [.ref (Q3 0), .ref (Q3 1)])), ((Q3 0), lp_z cI 11), ((Q3 1), lp_z cI 11), (a26_67, .inr (1, [.ref (Q4 0), .ref (Q4 1)])), ((Q4 0), lp_z cI 11), ((Q4 1), lp_z cI 11), (a26_80, .inr (1, [.ref (Q5 0), .ref (Q5 1)])), ((Q5 0), lp_z cI 11), ((Q5 1), lp_z cI 11), (a26_93, .inr (1, [.ref (Q6 0), .ref (Q6 1)])), ((Q6 0), lp_z cI 11), ((Q6 1), lp_z cI 11), (a26_106, .inr (1, [.ref (Q7 0), .ref (Q7 1)])), ((Q7 0), lp_z cI 11), ((Q7 1), lp_z cI 11), (a26_119, .inr (1, [.ref (Q8 0), .ref (Q8 1)])), ((Q8 0), lp_z cI 11), ((Q8 1), lp_z cI 11), (a26_132, .inr (1, [.null, .null]))] := hD
  refine lv_dup hx hb dX5_init_29 rfl ?_
  refine lv_bipush (v := 11) hx hb dX5_init_30 (by decide) ?_
  have hPc := hP.sub (ws' := [(a26_132, .inr (1, [.null, .null]))]) [29] rfl
  have hDc := hD.sub (ws' := [(a26_132, .inr (1, [.null, .null]))]) [29] (by decide) rfl
  have hFc := va_free (wc := [(a26_132, .inr (1, [.null, .null]))]) hD hS hA [29] rfl
  have eA : (.int 11 : Value) = .int (nI 11) := rfl
  refine va_callv (va_runI (As := [.int 11]) (rest := [.ref a26_132, .int 9, .ref a7_5]) ⟨hx, hb, hml, hown, hts⟩ (ci_X1 l D cI cD a26_132 H.size 11 (by omega)) (cwI 1 hts (lp_good (w0 := Cond.code yX5_init cX5_init 2 none) (y := yX1_init) (bytes := cX1_init) (nL := 3) (ret := none) (by decide +kernel)) rfl rfl rfl (T (.initialized RX1) (by decide +kernel)) (T (.methodLink RX5 17 yX1_init) (by decide +kernel)) (T (.instanceMethod yX1_init) (by decide +kernel)) rfl (by decide +kernel) ⟨by rw [hRf]; exact Nat.le_of_ble_eq_true rfl, by rw [hRl]; exact Nat.le_of_ble_eq_true rfl⟩) ⟨fun a U g mk q => by obtain ⟨q0, q1, qP, qW, qD⟩ := q; exact ⟨q0, q1, qP, lp_Wd_call qW, qD⟩, fun U hU hW => ⟨rfl, by rw [hU], by rw [hU]; exact hPc, lp_Wd_move hW hWd, hDc.weaken (fun _ _ _ _ => trivial)⟩⟩ rfl rfl hl.1 rfl (lv_room (Nat.le_of_ble_eq_true rfl)) dX5_init_32 ⟨by rw [hRc]; exact Nat.le_of_ble_eq_true rfl, by rw [hRs]; exact Nat.le_of_ble_eq_true rfl⟩) hS (fun q _ h => hFc q h) hFc (fun Q9 t H1 locs ht hvm hw hB hz1 hk1 hS => ?_)
  obtain ⟨hP1, hW1, hD1⟩ := hB
  rw [ht] at hP1
  unfold wX1 at hP1 hD1
  obtain ⟨hP, hD⟩ := va_join (wr := [(h0, .inr (5, [.ref a7_5])), (a7_5, .inl (cD, 11, .inr (.inr (.inr (.inr (va_up (va_up (va_up (va_up (va_up (va_up (va_up (va_up (va_up (fun _ => none) 0 (some (a26_15))) 1 (some (a26_28))) 2 (some (a26_41))) 3 (some (a26_54))) 4 (some (a26_67))) 5 (some (a26_80))) 6 (some (a26_93))) 7 (some (a26_106))) 8 (some (a26_119)))))))), (a26_15, .inr (1, [.ref (Q0 0), .ref (Q0 1)])), ((Q0 0), lp_z cI 11), ((Q0 1), lp_z cI 11), (a26_28, .inr (1, [.ref (Q1 0), .ref (Q1 1)])), ((Q1 0), lp_z cI 11), ((Q1 1), lp_z cI 11), (a26_41, .inr (1, [.ref (Q2 0), .ref (Q2 1)])), ((Q2 0), lp_z cI 11), ((Q2 1), lp_z cI 11), (a26_54, .inr (1, [.ref (Q3 0), .ref (Q3 1)])), ((Q3 0), lp_z cI 11), ((Q3 1), lp_z cI 11), (a26_67, .inr (1, [.ref (Q4 0), .ref (Q4 1)])), ((Q4 0), lp_z cI 11), ((Q4 1), lp_z cI 11), (a26_80, .inr (1, [.ref (Q5 0), .ref (Q5 1)])), ((Q5 0), lp_z cI 11), ((Q5 1), lp_z cI 11), (a26_93, .inr (1, [.ref (Q6 0), .ref (Q6 1)])), ((Q6 0), lp_z cI 11), ((Q6 1), lp_z cI 11), (a26_106, .inr (1, [.ref (Q7 0), .ref (Q7 1)])), ((Q7 0), lp_z cI 11), ((Q7 1), lp_z cI 11), (a26_119, .inr (1, [.ref (Q8 0), .ref (Q8 1)])), ((Q8 0), lp_z cI 11), ((Q8 1), lp_z cI 11)]) (w1 := [(a26_132, .inr (1, [.ref (Q9 0), .ref (Q9 1)])), ((Q9 0), lp_z cI 11), ((Q9 1), lp_z cI 11)]) hP hD [29] [0, 1, 2, 3, 4, 5, 6, 7, 8, 9, 10, 11, 12, 13, 14, 15, 16, 17, 18, 19, 20, 21, 22, 23, 24, 25, 26, 27, 28] rfl rfl (by decide) (by decide) hk1 hFc hP1 hD1
  generalize H1 = H at hP hS ⊢
  refine W.widen (k := 31) (n := 251) (by omega) (by omega) ?_
  have hP : va_P D vwCl [(h0, .inr (5, [.ref a7_5])), (a7_5, .inl (cD, 11, .inr (.inr (.inr (.inr (va_up (va_up (va_up (va_up (va_up (va_up (va_up (va_up (va_up (fun _ => none) 0 (some (a26_15))) 1 (some (a26_28))) 2 (some (a26_41))) 3 (some (a26_54))) 4 (some (a26_67))) 5 (some (a26_80))) 6 (some (a26_93))) 7 (some (a26_106))) 8 (some (a26_119)))))))), (a26_15, .inr (1, [.ref (Q0 0), .ref (Q0 1)])), ((Q0 0), lp_z cI 11), ((Q0 1), lp_z cI 11), (a26_28, .inr (1, [.ref (Q1 0), .ref (Q1 1)])), ((Q1 0), lp_z cI 11), ((Q1 1), lp_z cI 11), (a26_41, .inr (1, [.ref (Q2 0), .ref (Q2 1)])), ((Q2 0), lp_z cI 11), ((Q2 1), lp_z cI 11), (a26_54, .inr (1, [.ref (Q3 0), .ref (Q3 1)])), ((Q3 0), lp_z cI 11), ((Q3 1), lp_z cI 11), (a26_67, .inr (1, [.ref (Q4 0), .ref (Q4 1)])), ((Q4 0), lp_z cI 11), ((Q4 1), lp_z cI 11), (a26_80, .inr (1, [.ref (Q5 0), .ref (Q5 1)])), ((Q5 0), lp_z cI 11), ((Q5 1), lp_z cI 11), (a26_93, .inr (1, [.ref (Q6 0), .ref (Q6 1)])), ((Q6 0), lp_z cI 11), ((Q6 1), lp_z cI 11), (a26_106, .inr (1, [.ref (Q7 0), .ref (Q7 1)])), ((Q7 0), lp_z cI 11), ((Q7 1), lp_z cI 11), (a26_119, .inr (1, [.ref (Q8 0), .ref (Q8 1)])), ((Q8 0), lp_z cI 11), ((Q8 1), lp_z cI 11), (a26_132, .inr (1, [.ref (Q9 0), .ref (Q9 1)])), ((Q9 0), lp_z cI 11), ((Q9 1), lp_z cI 11)] H := hP
  have hD : va_D A [(h0, .inr (5, [.ref a7_5])), (a7_5, .inl (cD, 11, .inr (.inr (.inr (.inr (va_up (va_up (va_up (va_up (va_up (va_up (va_up (va_up (va_up (fun _ => none) 0 (some (a26_15))) 1 (some (a26_28))) 2 (some (a26_41))) 3 (some (a26_54))) 4 (some (a26_67))) 5 (some (a26_80))) 6 (some (a26_93))) 7 (some (a26_106))) 8 (some (a26_119)))))))), (a26_15, .inr (1, [.ref (Q0 0), .ref (Q0 1)])), ((Q0 0), lp_z cI 11), ((Q0 1), lp_z cI 11), (a26_28, .inr (1, [.ref (Q1 0), .ref (Q1 1)])), ((Q1 0), lp_z cI 11), ((Q1 1), lp_z cI 11), (a26_41, .inr (1, [.ref (Q2 0), .ref (Q2 1)])), ((Q2 0), lp_z cI 11), ((Q2 1), lp_z cI 11), (a26_54, .inr (1, [.ref (Q3 0), .ref (Q3 1)])), ((Q3 0), lp_z cI 11), ((Q3 1), lp_z cI 11), (a26_67, .inr (1, [.ref (Q4 0), .ref (Q4 1)])), ((Q4 0), lp_z cI 11), ((Q4 1), lp_z cI 11), (a26_80, .inr (1, [.ref (Q5 0), .ref (Q5 1)])), ((Q5 0), lp_z cI 11), ((Q5 1), lp_z cI 11), (a26_93, .inr (1, [.ref (Q6 0), .ref (Q6 1)])), ((Q6 0), lp_z cI 11), ((Q6 1), lp_z cI 11), (a26_106, .inr (1, [.ref (Q7 0), .ref (Q7 1)])), ((Q7 0), lp_z cI 11), ((Q7 1), lp_z cI 11), (a26_119, .inr (1, [.ref (Q8 0), .ref (Q8 1)])), ((Q8 0), lp_z cI 11), ((Q8 1), lp_z cI 11), (a26_132, .inr (1, [.ref (Q9 0), .ref (Q9 1)])), ((Q9 0), lp_z cI 11), ((Q9 1), lp_z cI 11)] := hD
  refine va_astq hx hb hWd.1 hP hD hS 1 1 29 1 rfl rfl rfl rfl (lp_vin (a := 9) (by omega) (by omega)) dX5_init_35 (fun H locs hP hD hS => ?_)
  have hP : va_P D vwCl [(h0, .inr (5, [.ref a7_5])), (a7_5, .inl (cD, 11, .inr (.inr (.inr (.inr (va_up (va_up (va_up (va_up (va_up (va_up (va_up (va_up (va_up (va_up (fun _ => none) 0 (some (a26_15))) 1 (some (a26_28))) 2 (some (a26_41))) 3 (some (a26_54))) 4 (some (a26_67))) 5 (some (a26_80))) 6 (some (a26_93))) 7 (some (a26_106))) 8 (some (a26_119))) 9 (some (a26_132)))))))), (a26_15, .inr (1, [.ref (Q0 0), .ref (Q0 1)])), ((Q0 0), lp_z cI 11), ((Q0 1), lp_z cI 11), (a26_28, .inr (1, [.ref (Q1 0), .ref (Q1 1)])), ((Q1 0), lp_z cI 11), ((Q1 1), lp_z cI 11), (a26_41, .inr (1, [.ref (Q2 0), .ref (Q2 1)])), ((Q2 0), lp_z cI 11), ((Q2 1), lp_z cI 11), (a26_54, .inr (1, [.ref (Q3 0), .ref (Q3 1)])), ((Q3 0), lp_z cI 11), ((Q3 1), lp_z cI 11), (a26_67, .inr (1, [.ref (Q4 0), .ref (Q4 1)])), ((Q4 0), lp_z cI 11), ((Q4 1), lp_z cI 11), (a26_80, .inr (1, [.ref (Q5 0), .ref (Q5 1)])), ((Q5 0), lp_z cI 11), ((Q5 1), lp_z cI 11), (a26_93, .inr (1, [.ref (Q6 0), .ref (Q6 1)])), ((Q6 0), lp_z cI 11), ((Q6 1), lp_z cI 11), (a26_106, .inr (1, [.ref (Q7 0), .ref (Q7 1)])), ((Q7 0), lp_z cI 11), ((Q7 1), lp_z cI 11), (a26_119, .inr (1, [.ref (Q8 0), .ref (Q8 1)])), ((Q8 0), lp_z cI 11), ((Q8 1), lp_z cI 11), (a26_132, .inr (1, [.ref (Q9 0), .ref (Q9 1)])), ((Q9 0), lp_z cI 11), ((Q9 1), lp_z cI 11)] H := hP
  have hD : va_D A [(h0, .inr (5, [.ref a7_5])), (a7_5, .inl (cD, 11, .inr (.inr (.inr (.inr (va_up (va_up (va_up (va_up (va_up (va_up (va_up (va_up (va_up (va_up (fun _ => none) 0 (some (a26_15))) 1 (some (a26_28))) 2 (some (a26_41))) 3 (some (a26_54))) 4 (some (a26_67))) 5 (some (a26_80))) 6 (some (a26_93))) 7 (some (a26_106))) 8 (some (a26_119))) 9 (some (a26_132)))))))), (a26_15, .inr (1, [.ref (Q0 0), .ref (Q0 1)])), ((Q0 0), lp_z cI 11), ((Q0 1), lp_z cI 11), (a26_28, .inr (1, [.ref (Q1 0), .ref (Q1 1)])), ((Q1 0), lp_z cI 11), ((Q1 1), lp_z cI 11), (a26_41, .inr (1, [.ref (Q2 0), .ref (Q2 1)])), ((Q2 0), lp_z cI 11), ((Q2 1), lp_z cI 11), (a26_54, .inr (1, [.ref (Q3 0), .ref (Q3 1)])), ((Q3 0), lp_z cI 11), ((Q3 1), lp_z cI 11), (a26_67, .inr (1, [.ref (Q4 0), .ref (Q4 1)])), ((Q4 0), lp_z cI 11), ((Q4 1), lp_z cI 11), (a26_80, .inr (1, [.ref (Q5 0), .ref (Q5 1)])), ((Q5 0), lp_z cI 11), ((Q5 1), lp_z cI 11), (a26_93, .inr (1, [.ref (Q6 0), .ref (Q6 1)])), ((Q6 0), lp_z cI 11), ((Q6 1), lp_z cI 11), (a26_106, .inr (1, [.ref (Q7 0), .ref (Q7 1)])), ((Q7 0), lp_z cI 11), ((Q7 1), lp_z cI 11), (a26_119, .inr (1, [.ref (Q8 0), .ref (Q8 1)])), ((Q8 0), lp_z cI 11), ((Q8 1), lp_z cI 11), (a26_132, .inr (1, [.ref (Q9 0), .ref (Q9 1)])), ((Q9 0), lp_z cI 11), ((Q9 1), lp_z cI 11)] := hD
  refine lv_iinc (v := 10) (lv' := [(1, .int 10), (0, .ref h0)]) hx hb dX5_init_36 hl (k := 0) rfl (by decide) (by decide) rfl (fun ls hl => ?_)
  refine lv_goto (tgt := 15) hx hb dX5_init_39 (by decide) ?_
  refine lv_iload_n hx hb dX5_init_15 rfl (lv_at hl 0 rfl) ?_
  refine lv_bipush (v := 11) hx hb dX5_init_16 (by decide) ?_
  refine lv_icmp_ge (tgt := 42) hx hb dX5_init_18 (by decide) (fun q => absurd q (by decide)) (fun _ => ?_)
  refine lv_aload_n hx hb dX5_init_21 rfl (lv_at hl 1 rfl) ?_
  refine va_get (D := D) (ci := 5) (v := .ref a7_5) (C := RX5) (T := TX5) (N := 1) hx hb T lp_u5 hown hWd.1 hP 0 rfl rfl 0 (by decide) (T (.fieldLink RX5 11 "LoadPress$Walker" "places" "[LLoadPress$Dealing;") (by decide +kernel)) (fun _ h9 => h9) rfl dX5_init_22 ?_
  refine lv_iload_n hx hb dX5_init_25 rfl (lv_at hl 0 rfl) ?_
  refine va_new (ci := 1) (fs := [.null, .null]) (C := RX1) (T := TX1) (N := 2) hx hb T lp_u1 tyX1 tyX1_ok hown (T (.classLink RX5 9 RX1) (by decide +kernel)) (T (.instantiable RX1 2) (by decide +kernel)) (T (.initialized RX1) (by decide +kernel)) hWd.1 hP hD hS hA rfl (fun j hj => by rcases (show j = 0 ∨ j = 1 by omega) with rfl | rfl <;> rfl) (by rw [hRc]; exact Nat.le_of_ble_eq_true rfl) (by rw [hRs]; exact Nat.le_of_ble_eq_true rfl) dX5_init_26 (fun a26_145 H hP hD hS => ?_)
  refine W.widen (k := 32) (n := 253) (by omega) (by omega) ?_
  have hP : va_P D vwCl [(h0, .inr (5, [.ref a7_5])), (a7_5, .inl (cD, 11, .inr (.inr (.inr (.inr (va_up (va_up (va_up (va_up (va_up (va_up (va_up (va_up (va_up (va_up (fun _ => none) 0 (some (a26_15))) 1 (some (a26_28))) 2 (some (a26_41))) 3 (some (a26_54))) 4 (some (a26_67))) 5 (some (a26_80))) 6 (some (a26_93))) 7 (some (a26_106))) 8 (some (a26_119))) 9 (some (a26_132)))))))), (a26_15, .inr (1, [.ref (Q0 0), .ref (Q0 1)])), ((Q0 0), lp_z cI 11), ((Q0 1), lp_z cI 11), (a26_28, .inr (1, [.ref (Q1 0), .ref (Q1 1)])), ((Q1 0), lp_z cI 11), ((Q1 1), lp_z cI 11), (a26_41, .inr (1, [.ref (Q2 0), .ref (Q2 1)])), ((Q2 0), lp_z cI 11), ((Q2 1), lp_z cI 11), (a26_54, .inr (1, [.ref (Q3 0), .ref (Q3 1)])), ((Q3 0), lp_z cI 11), ((Q3 1), lp_z cI 11), (a26_67, .inr (1, [.ref (Q4 0), .ref (Q4 1)])), ((Q4 0), lp_z cI 11), ((Q4 1), lp_z cI 11), (a26_80, .inr (1, [.ref (Q5 0), .ref (Q5 1)])), ((Q5 0), lp_z cI 11), ((Q5 1), lp_z cI 11), (a26_93, .inr (1, [.ref (Q6 0), .ref (Q6 1)])), ((Q6 0), lp_z cI 11), ((Q6 1), lp_z cI 11), (a26_106, .inr (1, [.ref (Q7 0), .ref (Q7 1)])), ((Q7 0), lp_z cI 11), ((Q7 1), lp_z cI 11), (a26_119, .inr (1, [.ref (Q8 0), .ref (Q8 1)])), ((Q8 0), lp_z cI 11), ((Q8 1), lp_z cI 11), (a26_132, .inr (1, [.ref (Q9 0), .ref (Q9 1)])), ((Q9 0), lp_z cI 11), ((Q9 1), lp_z cI 11), (a26_145, .inr (1, [.null, .null]))] H := hP
  have hD : va_D A [(h0, .inr (5, [.ref a7_5])), (a7_5, .inl (cD, 11, .inr (.inr (.inr (.inr (va_up (va_up (va_up (va_up (va_up (va_up (va_up (va_up (va_up (va_up (fun _ => none) 0 (some (a26_15))) 1 (some (a26_28))) 2 (some (a26_41))) 3 (some (a26_54))) 4 (some (a26_67))) 5 (some (a26_80))) 6 (some (a26_93))) 7 (some (a26_106))) 8 (some (a26_119))) 9 (some (a26_132)))))))), (a26_15, .inr (1, [.ref (Q0 0), .ref (Q0 1)])), ((Q0 0), lp_z cI 11), ((Q0 1), lp_z cI 11), (a26_28, .inr (1, [.ref (Q1 0), .ref (Q1 1)])), ((Q1 0), lp_z cI 11), ((Q1 1), lp_z cI 11), (a26_41, .inr (1, [.ref (Q2 0), .ref (Q2 1)])), ((Q2 0), lp_z cI 11), ((Q2 1), lp_z cI 11), (a26_54, .inr (1, [.ref (Q3 0), .ref (Q3 1)])), ((Q3 0), lp_z cI 11), ((Q3 1), lp_z cI 11), (a26_67, .inr (1, [.ref (Q4 0), .ref (Q4 1)])), ((Q4 0), lp_z cI 11), ((Q4 1), lp_z cI 11), (a26_80, .inr (1, [.ref (Q5 0), .ref (Q5 1)])), ((Q5 0), lp_z cI 11), ((Q5 1), lp_z cI 11), (a26_93, .inr (1, [.ref (Q6 0), .ref (Q6 1)])), ((Q6 0), lp_z cI 11), ((Q6 1), lp_z cI 11), (a26_106, .inr (1, [.ref (Q7 0), .ref (Q7 1)])), ((Q7 0), lp_z cI 11), ((Q7 1), lp_z cI 11), (a26_119, .inr (1, [.ref (Q8 0), .ref (Q8 1)])), ((Q8 0), lp_z cI 11), ((Q8 1), lp_z cI 11), (a26_132, .inr (1, [.ref (Q9 0), .ref (Q9 1)])), ((Q9 0), lp_z cI 11), ((Q9 1), lp_z cI 11), (a26_145, .inr (1, [.null, .null]))] := hD
  refine lv_dup hx hb dX5_init_29 rfl ?_
  refine lv_bipush (v := 11) hx hb dX5_init_30 (by decide) ?_
  have hPc := hP.sub (ws' := [(a26_145, .inr (1, [.null, .null]))]) [32] rfl
  have hDc := hD.sub (ws' := [(a26_145, .inr (1, [.null, .null]))]) [32] (by decide) rfl
  have hFc := va_free (wc := [(a26_145, .inr (1, [.null, .null]))]) hD hS hA [32] rfl
  have eA : (.int 11 : Value) = .int (nI 11) := rfl
  refine va_callv (va_runI (As := [.int 11]) (rest := [.ref a26_145, .int 10, .ref a7_5]) ⟨hx, hb, hml, hown, hts⟩ (ci_X1 l D cI cD a26_145 H.size 11 (by omega)) (cwI 1 hts (lp_good (w0 := Cond.code yX5_init cX5_init 2 none) (y := yX1_init) (bytes := cX1_init) (nL := 3) (ret := none) (by decide +kernel)) rfl rfl rfl (T (.initialized RX1) (by decide +kernel)) (T (.methodLink RX5 17 yX1_init) (by decide +kernel)) (T (.instanceMethod yX1_init) (by decide +kernel)) rfl (by decide +kernel) ⟨by rw [hRf]; exact Nat.le_of_ble_eq_true rfl, by rw [hRl]; exact Nat.le_of_ble_eq_true rfl⟩) ⟨fun a U g mk q => by obtain ⟨q0, q1, qP, qW, qD⟩ := q; exact ⟨q0, q1, qP, lp_Wd_call qW, qD⟩, fun U hU hW => ⟨rfl, by rw [hU], by rw [hU]; exact hPc, lp_Wd_move hW hWd, hDc.weaken (fun _ _ _ _ => trivial)⟩⟩ rfl rfl hl.1 rfl (lv_room (Nat.le_of_ble_eq_true rfl)) dX5_init_32 ⟨by rw [hRc]; exact Nat.le_of_ble_eq_true rfl, by rw [hRs]; exact Nat.le_of_ble_eq_true rfl⟩) hS (fun q _ h => hFc q h) hFc (fun Q10 t H1 locs ht hvm hw hB hz1 hk1 hS => ?_)
  obtain ⟨hP1, hW1, hD1⟩ := hB
  rw [ht] at hP1
  unfold wX1 at hP1 hD1
  obtain ⟨hP, hD⟩ := va_join (wr := [(h0, .inr (5, [.ref a7_5])), (a7_5, .inl (cD, 11, .inr (.inr (.inr (.inr (va_up (va_up (va_up (va_up (va_up (va_up (va_up (va_up (va_up (va_up (fun _ => none) 0 (some (a26_15))) 1 (some (a26_28))) 2 (some (a26_41))) 3 (some (a26_54))) 4 (some (a26_67))) 5 (some (a26_80))) 6 (some (a26_93))) 7 (some (a26_106))) 8 (some (a26_119))) 9 (some (a26_132)))))))), (a26_15, .inr (1, [.ref (Q0 0), .ref (Q0 1)])), ((Q0 0), lp_z cI 11), ((Q0 1), lp_z cI 11), (a26_28, .inr (1, [.ref (Q1 0), .ref (Q1 1)])), ((Q1 0), lp_z cI 11), ((Q1 1), lp_z cI 11), (a26_41, .inr (1, [.ref (Q2 0), .ref (Q2 1)])), ((Q2 0), lp_z cI 11), ((Q2 1), lp_z cI 11), (a26_54, .inr (1, [.ref (Q3 0), .ref (Q3 1)])), ((Q3 0), lp_z cI 11), ((Q3 1), lp_z cI 11), (a26_67, .inr (1, [.ref (Q4 0), .ref (Q4 1)])), ((Q4 0), lp_z cI 11), ((Q4 1), lp_z cI 11), (a26_80, .inr (1, [.ref (Q5 0), .ref (Q5 1)])), ((Q5 0), lp_z cI 11), ((Q5 1), lp_z cI 11), (a26_93, .inr (1, [.ref (Q6 0), .ref (Q6 1)])), ((Q6 0), lp_z cI 11), ((Q6 1), lp_z cI 11), (a26_106, .inr (1, [.ref (Q7 0), .ref (Q7 1)])), ((Q7 0), lp_z cI 11), ((Q7 1), lp_z cI 11), (a26_119, .inr (1, [.ref (Q8 0), .ref (Q8 1)])), ((Q8 0), lp_z cI 11), ((Q8 1), lp_z cI 11), (a26_132, .inr (1, [.ref (Q9 0), .ref (Q9 1)])), ((Q9 0), lp_z cI 11), ((Q9 1), lp_z cI 11)]) (w1 := [(a26_145, .inr (1, [.ref (Q10 0), .ref (Q10 1)])), ((Q10 0), lp_z cI 11), ((Q10 1), lp_z cI 11)]) hP hD [32] [0, 1, 2, 3, 4, 5, 6, 7, 8, 9, 10, 11, 12, 13, 14, 15, 16, 17, 18, 19, 20, 21, 22, 23, 24, 25, 26, 27, 28, 29, 30, 31] rfl rfl (by decide) (by decide) hk1 hFc hP1 hD1
  generalize H1 = H at hP hS ⊢
  refine W.widen (k := 34) (n := 275) (by omega) (by omega) ?_
  have hP : va_P D vwCl [(h0, .inr (5, [.ref a7_5])), (a7_5, .inl (cD, 11, .inr (.inr (.inr (.inr (va_up (va_up (va_up (va_up (va_up (va_up (va_up (va_up (va_up (va_up (fun _ => none) 0 (some (a26_15))) 1 (some (a26_28))) 2 (some (a26_41))) 3 (some (a26_54))) 4 (some (a26_67))) 5 (some (a26_80))) 6 (some (a26_93))) 7 (some (a26_106))) 8 (some (a26_119))) 9 (some (a26_132)))))))), (a26_15, .inr (1, [.ref (Q0 0), .ref (Q0 1)])), ((Q0 0), lp_z cI 11), ((Q0 1), lp_z cI 11), (a26_28, .inr (1, [.ref (Q1 0), .ref (Q1 1)])), ((Q1 0), lp_z cI 11), ((Q1 1), lp_z cI 11), (a26_41, .inr (1, [.ref (Q2 0), .ref (Q2 1)])), ((Q2 0), lp_z cI 11), ((Q2 1), lp_z cI 11), (a26_54, .inr (1, [.ref (Q3 0), .ref (Q3 1)])), ((Q3 0), lp_z cI 11), ((Q3 1), lp_z cI 11), (a26_67, .inr (1, [.ref (Q4 0), .ref (Q4 1)])), ((Q4 0), lp_z cI 11), ((Q4 1), lp_z cI 11), (a26_80, .inr (1, [.ref (Q5 0), .ref (Q5 1)])), ((Q5 0), lp_z cI 11), ((Q5 1), lp_z cI 11), (a26_93, .inr (1, [.ref (Q6 0), .ref (Q6 1)])), ((Q6 0), lp_z cI 11), ((Q6 1), lp_z cI 11), (a26_106, .inr (1, [.ref (Q7 0), .ref (Q7 1)])), ((Q7 0), lp_z cI 11), ((Q7 1), lp_z cI 11), (a26_119, .inr (1, [.ref (Q8 0), .ref (Q8 1)])), ((Q8 0), lp_z cI 11), ((Q8 1), lp_z cI 11), (a26_132, .inr (1, [.ref (Q9 0), .ref (Q9 1)])), ((Q9 0), lp_z cI 11), ((Q9 1), lp_z cI 11), (a26_145, .inr (1, [.ref (Q10 0), .ref (Q10 1)])), ((Q10 0), lp_z cI 11), ((Q10 1), lp_z cI 11)] H := hP
  have hD : va_D A [(h0, .inr (5, [.ref a7_5])), (a7_5, .inl (cD, 11, .inr (.inr (.inr (.inr (va_up (va_up (va_up (va_up (va_up (va_up (va_up (va_up (va_up (va_up (fun _ => none) 0 (some (a26_15))) 1 (some (a26_28))) 2 (some (a26_41))) 3 (some (a26_54))) 4 (some (a26_67))) 5 (some (a26_80))) 6 (some (a26_93))) 7 (some (a26_106))) 8 (some (a26_119))) 9 (some (a26_132)))))))), (a26_15, .inr (1, [.ref (Q0 0), .ref (Q0 1)])), ((Q0 0), lp_z cI 11), ((Q0 1), lp_z cI 11), (a26_28, .inr (1, [.ref (Q1 0), .ref (Q1 1)])), ((Q1 0), lp_z cI 11), ((Q1 1), lp_z cI 11), (a26_41, .inr (1, [.ref (Q2 0), .ref (Q2 1)])), ((Q2 0), lp_z cI 11), ((Q2 1), lp_z cI 11), (a26_54, .inr (1, [.ref (Q3 0), .ref (Q3 1)])), ((Q3 0), lp_z cI 11), ((Q3 1), lp_z cI 11), (a26_67, .inr (1, [.ref (Q4 0), .ref (Q4 1)])), ((Q4 0), lp_z cI 11), ((Q4 1), lp_z cI 11), (a26_80, .inr (1, [.ref (Q5 0), .ref (Q5 1)])), ((Q5 0), lp_z cI 11), ((Q5 1), lp_z cI 11), (a26_93, .inr (1, [.ref (Q6 0), .ref (Q6 1)])), ((Q6 0), lp_z cI 11), ((Q6 1), lp_z cI 11), (a26_106, .inr (1, [.ref (Q7 0), .ref (Q7 1)])), ((Q7 0), lp_z cI 11), ((Q7 1), lp_z cI 11), (a26_119, .inr (1, [.ref (Q8 0), .ref (Q8 1)])), ((Q8 0), lp_z cI 11), ((Q8 1), lp_z cI 11), (a26_132, .inr (1, [.ref (Q9 0), .ref (Q9 1)])), ((Q9 0), lp_z cI 11), ((Q9 1), lp_z cI 11), (a26_145, .inr (1, [.ref (Q10 0), .ref (Q10 1)])), ((Q10 0), lp_z cI 11), ((Q10 1), lp_z cI 11)] := hD
  refine va_astq hx hb hWd.1 hP hD hS 1 1 32 1 rfl rfl rfl rfl (lp_vin (a := 10) (by omega) (by omega)) dX5_init_35 (fun H locs hP hD hS => ?_)
  have hP : va_P D vwCl [(h0, .inr (5, [.ref a7_5])), (a7_5, .inl (cD, 11, .inr (.inr (.inr (.inr (va_up (va_up (va_up (va_up (va_up (va_up (va_up (va_up (va_up (va_up (va_up (fun _ => none) 0 (some (a26_15))) 1 (some (a26_28))) 2 (some (a26_41))) 3 (some (a26_54))) 4 (some (a26_67))) 5 (some (a26_80))) 6 (some (a26_93))) 7 (some (a26_106))) 8 (some (a26_119))) 9 (some (a26_132))) 10 (some (a26_145)))))))), (a26_15, .inr (1, [.ref (Q0 0), .ref (Q0 1)])), ((Q0 0), lp_z cI 11), ((Q0 1), lp_z cI 11), (a26_28, .inr (1, [.ref (Q1 0), .ref (Q1 1)])), ((Q1 0), lp_z cI 11), ((Q1 1), lp_z cI 11), (a26_41, .inr (1, [.ref (Q2 0), .ref (Q2 1)])), ((Q2 0), lp_z cI 11), ((Q2 1), lp_z cI 11), (a26_54, .inr (1, [.ref (Q3 0), .ref (Q3 1)])), ((Q3 0), lp_z cI 11), ((Q3 1), lp_z cI 11), (a26_67, .inr (1, [.ref (Q4 0), .ref (Q4 1)])), ((Q4 0), lp_z cI 11), ((Q4 1), lp_z cI 11), (a26_80, .inr (1, [.ref (Q5 0), .ref (Q5 1)])), ((Q5 0), lp_z cI 11), ((Q5 1), lp_z cI 11), (a26_93, .inr (1, [.ref (Q6 0), .ref (Q6 1)])), ((Q6 0), lp_z cI 11), ((Q6 1), lp_z cI 11), (a26_106, .inr (1, [.ref (Q7 0), .ref (Q7 1)])), ((Q7 0), lp_z cI 11), ((Q7 1), lp_z cI 11), (a26_119, .inr (1, [.ref (Q8 0), .ref (Q8 1)])), ((Q8 0), lp_z cI 11), ((Q8 1), lp_z cI 11), (a26_132, .inr (1, [.ref (Q9 0), .ref (Q9 1)])), ((Q9 0), lp_z cI 11), ((Q9 1), lp_z cI 11), (a26_145, .inr (1, [.ref (Q10 0), .ref (Q10 1)])), ((Q10 0), lp_z cI 11), ((Q10 1), lp_z cI 11)] H := hP
  have hD : va_D A [(h0, .inr (5, [.ref a7_5])), (a7_5, .inl (cD, 11, .inr (.inr (.inr (.inr (va_up (va_up (va_up (va_up (va_up (va_up (va_up (va_up (va_up (va_up (va_up (fun _ => none) 0 (some (a26_15))) 1 (some (a26_28))) 2 (some (a26_41))) 3 (some (a26_54))) 4 (some (a26_67))) 5 (some (a26_80))) 6 (some (a26_93))) 7 (some (a26_106))) 8 (some (a26_119))) 9 (some (a26_132))) 10 (some (a26_145)))))))), (a26_15, .inr (1, [.ref (Q0 0), .ref (Q0 1)])), ((Q0 0), lp_z cI 11), ((Q0 1), lp_z cI 11), (a26_28, .inr (1, [.ref (Q1 0), .ref (Q1 1)])), ((Q1 0), lp_z cI 11), ((Q1 1), lp_z cI 11), (a26_41, .inr (1, [.ref (Q2 0), .ref (Q2 1)])), ((Q2 0), lp_z cI 11), ((Q2 1), lp_z cI 11), (a26_54, .inr (1, [.ref (Q3 0), .ref (Q3 1)])), ((Q3 0), lp_z cI 11), ((Q3 1), lp_z cI 11), (a26_67, .inr (1, [.ref (Q4 0), .ref (Q4 1)])), ((Q4 0), lp_z cI 11), ((Q4 1), lp_z cI 11), (a26_80, .inr (1, [.ref (Q5 0), .ref (Q5 1)])), ((Q5 0), lp_z cI 11), ((Q5 1), lp_z cI 11), (a26_93, .inr (1, [.ref (Q6 0), .ref (Q6 1)])), ((Q6 0), lp_z cI 11), ((Q6 1), lp_z cI 11), (a26_106, .inr (1, [.ref (Q7 0), .ref (Q7 1)])), ((Q7 0), lp_z cI 11), ((Q7 1), lp_z cI 11), (a26_119, .inr (1, [.ref (Q8 0), .ref (Q8 1)])), ((Q8 0), lp_z cI 11), ((Q8 1), lp_z cI 11), (a26_132, .inr (1, [.ref (Q9 0), .ref (Q9 1)])), ((Q9 0), lp_z cI 11), ((Q9 1), lp_z cI 11), (a26_145, .inr (1, [.ref (Q10 0), .ref (Q10 1)])), ((Q10 0), lp_z cI 11), ((Q10 1), lp_z cI 11)] := hD
  refine lv_iinc (v := 11) (lv' := [(1, .int 11), (0, .ref h0)]) hx hb dX5_init_36 hl (k := 0) rfl (by decide) (by decide) rfl (fun ls hl => ?_)
  refine lv_goto (tgt := 15) hx hb dX5_init_39 (by decide) ?_
  refine lv_iload_n hx hb dX5_init_15 rfl (lv_at hl 0 rfl) ?_
  refine lv_bipush (v := 11) hx hb dX5_init_16 (by decide) ?_
  refine lv_icmp_ge (tgt := 42) hx hb dX5_init_18 (by decide) (fun _ => ?_) (fun q => absurd (by decide) q)
  have hP9 := hP.sub (ws' := [(h0, .inr (5, [.ref a7_5])), (a7_5, .inl (cD, 11, .inr (.inr (.inr (.inr (va_up (va_up (va_up (va_up (va_up (va_up (va_up (va_up (va_up (va_up (va_up (fun _ => none) 0 (some (a26_15))) 1 (some (a26_28))) 2 (some (a26_41))) 3 (some (a26_54))) 4 (some (a26_67))) 5 (some (a26_80))) 6 (some (a26_93))) 7 (some (a26_106))) 8 (some (a26_119))) 9 (some (a26_132))) 10 (some (a26_145)))))))), (a26_15, .inr (1, [.ref (Q0 0), .ref (Q0 1)])), ((Q0 0), lp_z cI 11), ((Q0 1), lp_z cI 11), (a26_28, .inr (1, [.ref (Q1 0), .ref (Q1 1)])), ((Q1 0), lp_z cI 11), ((Q1 1), lp_z cI 11), (a26_41, .inr (1, [.ref (Q2 0), .ref (Q2 1)])), ((Q2 0), lp_z cI 11), ((Q2 1), lp_z cI 11), (a26_54, .inr (1, [.ref (Q3 0), .ref (Q3 1)])), ((Q3 0), lp_z cI 11), ((Q3 1), lp_z cI 11), (a26_67, .inr (1, [.ref (Q4 0), .ref (Q4 1)])), ((Q4 0), lp_z cI 11), ((Q4 1), lp_z cI 11), (a26_80, .inr (1, [.ref (Q5 0), .ref (Q5 1)])), ((Q5 0), lp_z cI 11), ((Q5 1), lp_z cI 11), (a26_93, .inr (1, [.ref (Q6 0), .ref (Q6 1)])), ((Q6 0), lp_z cI 11), ((Q6 1), lp_z cI 11), (a26_106, .inr (1, [.ref (Q7 0), .ref (Q7 1)])), ((Q7 0), lp_z cI 11), ((Q7 1), lp_z cI 11), (a26_119, .inr (1, [.ref (Q8 0), .ref (Q8 1)])), ((Q8 0), lp_z cI 11), ((Q8 1), lp_z cI 11), (a26_132, .inr (1, [.ref (Q9 0), .ref (Q9 1)])), ((Q9 0), lp_z cI 11), ((Q9 1), lp_z cI 11), (a26_145, .inr (1, [.ref (Q10 0), .ref (Q10 1)])), ((Q10 0), lp_z cI 11), ((Q10 1), lp_z cI 11)]) [0, 1, 2, 3, 4, 5, 6, 7, 8, 9, 10, 11, 12, 13, 14, 15, 16, 17, 18, 19, 20, 21, 22, 23, 24, 25, 26, 27, 28, 29, 30, 31, 32, 33, 34] rfl
  have hD9 := hD.sub (ws' := [(h0, .inr (5, [.ref a7_5])), (a7_5, .inl (cD, 11, .inr (.inr (.inr (.inr (va_up (va_up (va_up (va_up (va_up (va_up (va_up (va_up (va_up (va_up (va_up (fun _ => none) 0 (some (a26_15))) 1 (some (a26_28))) 2 (some (a26_41))) 3 (some (a26_54))) 4 (some (a26_67))) 5 (some (a26_80))) 6 (some (a26_93))) 7 (some (a26_106))) 8 (some (a26_119))) 9 (some (a26_132))) 10 (some (a26_145)))))))), (a26_15, .inr (1, [.ref (Q0 0), .ref (Q0 1)])), ((Q0 0), lp_z cI 11), ((Q0 1), lp_z cI 11), (a26_28, .inr (1, [.ref (Q1 0), .ref (Q1 1)])), ((Q1 0), lp_z cI 11), ((Q1 1), lp_z cI 11), (a26_41, .inr (1, [.ref (Q2 0), .ref (Q2 1)])), ((Q2 0), lp_z cI 11), ((Q2 1), lp_z cI 11), (a26_54, .inr (1, [.ref (Q3 0), .ref (Q3 1)])), ((Q3 0), lp_z cI 11), ((Q3 1), lp_z cI 11), (a26_67, .inr (1, [.ref (Q4 0), .ref (Q4 1)])), ((Q4 0), lp_z cI 11), ((Q4 1), lp_z cI 11), (a26_80, .inr (1, [.ref (Q5 0), .ref (Q5 1)])), ((Q5 0), lp_z cI 11), ((Q5 1), lp_z cI 11), (a26_93, .inr (1, [.ref (Q6 0), .ref (Q6 1)])), ((Q6 0), lp_z cI 11), ((Q6 1), lp_z cI 11), (a26_106, .inr (1, [.ref (Q7 0), .ref (Q7 1)])), ((Q7 0), lp_z cI 11), ((Q7 1), lp_z cI 11), (a26_119, .inr (1, [.ref (Q8 0), .ref (Q8 1)])), ((Q8 0), lp_z cI 11), ((Q8 1), lp_z cI 11), (a26_132, .inr (1, [.ref (Q9 0), .ref (Q9 1)])), ((Q9 0), lp_z cI 11), ((Q9 1), lp_z cI 11), (a26_145, .inr (1, [.ref (Q10 0), .ref (Q10 1)])), ((Q10 0), lp_z cI 11), ((Q10 1), lp_z cI 11)]) [0, 1, 2, 3, 4, 5, 6, 7, 8, 9, 10, 11, 12, 13, 14, 15, 16, 17, 18, 19, 20, 21, 22, 23, 24, 25, 26, 27, 28, 29, 30, 31, 32, 33, 34] (by decide) rfl
  exact W.vret hx hb hr (fun t ht hW => ⟨⟨fun k => ([a7_5, a26_15, (Q0 0), (Q0 1), a26_28, (Q1 0), (Q1 1), a26_41, (Q2 0), (Q2 1), a26_54, (Q3 0), (Q3 1), a26_67, (Q4 0), (Q4 1), a26_80, (Q5 0), (Q5 1), a26_93, (Q6 0), (Q6 1), a26_106, (Q7 0), (Q7 1), a26_119, (Q8 0), (Q8 1), a26_132, (Q9 0), (Q9 1), a26_145, (Q10 0), (Q10 1)] : List Nat).getD k 0, rfl, trivial, by rw [ht]; exact hP9, lp_Wd_move hW hWd, hD9⟩, hS.F ht⟩) hS.2.2 dX5_init_42
end
section
/-! ===== constructor of X3 ===== -/
theorem dX3_init_0 : decode cX3_init 0 = .ok (.aload_n 0, 1) := by decide +kernel
theorem dX3_init_1 : decode cX3_init 1 = .ok (.invokespecial 3, 3) := by decide +kernel
theorem dX3_init_4 : decode cX3_init 4 = .ok (.aload_n 0, 1) := by decide +kernel
theorem dX3_init_5 : decode cX3_init 5 = .ok (.new 9, 3) := by decide +kernel
theorem dX3_init_8 : decode cX3_init 8 = .ok (.dup, 1) := by decide +kernel
theorem dX3_init_9 : decode cX3_init 9 = .ok (.invokespecial 11, 3) := by decide +kernel
theorem dX3_init_12 : decode cX3_init 12 = .ok (.putfield 12, 3) := by decide +kernel
theorem dX3_init_15 : decode cX3_init 15 = .ok (.aload_n 0, 1) := by decide +kernel
theorem dX3_init_16 : decode cX3_init 16 = .ok (.sipush 1200, 3) := by decide +kernel
theorem dX3_init_19 : decode cX3_init 19 = .ok (.newarray .int, 2) := by decide +kernel
theorem dX3_init_21 : decode cX3_init 21 = .ok (.putfield 18, 3) := by decide +kernel
theorem dX3_init_24 : decode cX3_init 24 = .ok (.aload_n 0, 1) := by decide +kernel
theorem dX3_init_25 : decode cX3_init 25 = .ok (.sipush 1200, 3) := by decide +kernel
theorem dX3_init_28 : decode cX3_init 28 = .ok (.newarray .int, 2) := by decide +kernel
theorem dX3_init_30 : decode cX3_init 30 = .ok (.putfield 22, 3) := by decide +kernel
theorem dX3_init_33 : decode cX3_init 33 = .ok (.aload_n 0, 1) := by decide +kernel
theorem dX3_init_34 : decode cX3_init 34 = .ok (.sipush 1200, 3) := by decide +kernel
theorem dX3_init_37 : decode cX3_init 37 = .ok (.newarray .int, 2) := by decide +kernel
theorem dX3_init_39 : decode cX3_init 39 = .ok (.putfield 25, 3) := by decide +kernel
theorem dX3_init_42 : decode cX3_init 42 = .ok (.aload_n 0, 1) := by decide +kernel
theorem dX3_init_43 : decode cX3_init 43 = .ok (.sipush 1200, 3) := by decide +kernel
theorem dX3_init_46 : decode cX3_init 46 = .ok (.newarray .int, 2) := by decide +kernel
theorem dX3_init_48 : decode cX3_init 48 = .ok (.putfield 28, 3) := by decide +kernel
theorem dX3_init_51 : decode cX3_init 51 = .ok (.aload_n 0, 1) := by decide +kernel
theorem dX3_init_52 : decode cX3_init 52 = .ok (.bipush 60, 2) := by decide +kernel
theorem dX3_init_54 : decode cX3_init 54 = .ok (.newarray .int, 2) := by decide +kernel
theorem dX3_init_56 : decode cX3_init 56 = .ok (.putfield 31, 3) := by decide +kernel
theorem dX3_init_59 : decode cX3_init 59 = .ok (.aload_n 0, 1) := by decide +kernel
theorem dX3_init_60 : decode cX3_init 60 = .ok (.bipush 60, 2) := by decide +kernel
theorem dX3_init_62 : decode cX3_init 62 = .ok (.newarray .int, 2) := by decide +kernel
theorem dX3_init_64 : decode cX3_init 64 = .ok (.putfield 34, 3) := by decide +kernel
theorem dX3_init_67 : decode cX3_init 67 = .ok (.aload_n 0, 1) := by decide +kernel
theorem dX3_init_68 : decode cX3_init 68 = .ok (.bipush 8, 2) := by decide +kernel
theorem dX3_init_70 : decode cX3_init 70 = .ok (.newarray .int, 2) := by decide +kernel
theorem dX3_init_72 : decode cX3_init 72 = .ok (.putfield 37, 3) := by decide +kernel
theorem dX3_init_75 : decode cX3_init 75 = .ok (.return_, 1) := by decide +kernel
def wX3 (cI cD : ClassId) (h : Nat) (q : Nat → Nat) : va_W := [(h, .inr (3, [.ref (q 0), .ref (q 4), .ref (q 5), .ref (q 6), .ref (q 7), .ref (q 8), .ref (q 9), .ref (q 10), .int 0, .int 0, .int 0, .int 0, .int 0])), (q 0, .inr (4, [.ref (q 1), .ref (q 2), .ref (q 3), .int 0])), (q 1, lp_z cI 1200), (q 2, lp_z cI 1200), (q 3, lp_z cI 61), (q 4, lp_z cI 1200), (q 5, lp_z cI 1200), (q 6, lp_z cI 1200), (q 7, lp_z cI 1200), (q 8, lp_z cI 60), (q 9, lp_z cI 60), (q 10, lp_z cI 8)]
set_option maxHeartbeats 16000000 in
set_option maxRecDepth 100000 in
theorem ci_X3 (l : Launch) (D : va_G) (cI cD : ClassId) (h0 sz : Nat) : Met l yX3_init (.code yX3_init cX3_init 1 none :: lp_tbl) { frames := 2, cells := 11, slots := 7393, locals := 72 } (va_Pc [.ref h0] (fun U => U.heap.size = sz ∧ va_P D vwCl [(h0, .inr (3, [.null, .null, .null, .null, .null, .null, .null, .null, .int 0, .int 0, .int 0, .int 0, .int 0]))] U.heap ∧ lp_Wd D cI cD U ∧ va_D (fun _ => True) [(h0, .inr (3, [.null, .null, .null, .null, .null, .null, .null, .null, .int 0, .int 0, .int 0, .int 0, .int 0]))])) (va_Qv (fun _ : Nat → Nat => True) (fun q t => va_P D vwCl (wX3 cI cD h0 q) t.heap ∧ lp_Wd D cI cD t ∧ va_D (va_A [(h0, .inr (3, [.null, .null, .null, .null, .null, .null, .null, .null, .int 0, .int 0, .int 0, .int 0, .int 0]))] sz) (wX3 cI cD h0 q)) (va_A [(h0, .inr (3, [.null, .null, .null, .null, .null, .null, .null, .null, .int 0, .int 0, .int 0, .int 0, .int 0]))] sz)) 11 (7393) (va_A [(h0, .inr (3, [.null, .null, .null, .null, .null, .null, .null, .null, .int 0, .int 0, .int 0, .int 0, .int 0]))] sz) := by
  refine Met.ofW (cc := cX3_init) (maxL := 1) (ret := none) (by decide) rfl ?_
  intro p e s m args below meth c s₁ B hml hv
  obtain ⟨rfl, hsz, hP, hWd, hD0⟩ := hv
  have hx := B.exec
  have hb := B.bytes
  have hr := B.returns
  have hts := atoms_spec (ws := Cond.code yX3_init cX3_init 1 none :: lp_tbl) B.pre
  have T : ∀ w ∈ lp_tbl, w.before ([.ref h0] : List Value).toArray s = true := fun w hw => hts w (List.mem_cons_of_mem _ hw)
  have hown : s.vm.findClass RX3 = some m.cls := findClass_of_methodNamed B.named
  have hlocks := B.notSynchronized
  have hin : meth.name = "<init>" := (name_of_methodNamed B.named B.method).1
  subst hsz
  have hD := hD0.self (sz := s.heap.size)
  generalize hAe : va_A [(h0, .inr (3, [.null, .null, .null, .null, .null, .null, .null, .null, .int 0, .int 0, .int 0, .int 0, .int 0]))] s.heap.size = A at hD ⊢
  have hA : ∀ q : Nat, s.heap.size ≤ q → A q := fun q h => by rw [← hAe]; exact Or.inr h
  have hS : va_S A s.heap s.heap [] := va_S.rf
  have hl := lv_entry ([.ref h0]) (n := 1) (Nat.le_of_ble_eq_true rfl)
  rw [lg_entry_eq]
  generalize (lg_sl ([.ref h0]) ++ List.replicate (1 - (lg_sl ([.ref h0])).length) Slot.unset).toArray = ls at hl ⊢
  have hl : lv_has ls 1 [(0, .ref h0)] := hl
  have hRf : (headSpec (Cond.code yX3_init cX3_init 1 none :: lp_tbl) { frames := 2, cells := 11, slots := 7393, locals := 72 }).room.frames = 2 := rfl
  have hRl : (headSpec (Cond.code yX3_init cX3_init 1 none :: lp_tbl) { frames := 2, cells := 11, slots := 7393, locals := 72 }).room.locals = 72 := rfl
  have hRc : (headSpec (Cond.code yX3_init cX3_init 1 none :: lp_tbl) { frames := 2, cells := 11, slots := 7393, locals := 72 }).room.cells = 11 := rfl
  have hRs : (headSpec (Cond.code yX3_init cX3_init 1 none :: lp_tbl) { frames := 2, cells := 11, slots := 7393, locals := 72 }).room.slots = 7393 := rfl
  refine lv_aload_n hx hb dX3_init_0 rfl (lv_at hl 0 rfl) ?_
  refine W.objInit hx hb hown (T (.methodLink RX3 3 objectInit) (by decide +kernel)) (T (.instanceMethod objectInit) (by decide +kernel)) (T (.code objectInit ⟨#[0xb1]⟩ 1 none) (by decide +kernel)) rfl (by rw [hml]; exact hl.1) rfl dX3_init_1 (Nat.le_of_ble_eq_true rfl) (Nat.le_of_ble_eq_true rfl) ?_
  refine W.eq (g2 := F0 m 4 ls []) rfl ?_
  refine lv_aload_n hx hb dX3_init_4 rfl (lv_at hl 0 rfl) ?_
  refine va_new (ci := 4) (fs := [.null, .null, .null, .int 0]) (C := RX4) (T := TX4) (N := 4) hx hb T lp_u4 tyX4 tyX4_ok hown (T (.classLink RX3 9 RX4) (by decide +kernel)) (T (.instantiable RX4 4) (by decide +kernel)) (T (.initialized RX4) (by decide +kernel)) hWd.1 hP hD hS hA rfl (fun j hj => by rcases (show j = 0 ∨ j = 1 ∨ j = 2 ∨ j = 3 by omega) with rfl | rfl | rfl | rfl <;> rfl) (by rw [hRc]; exact Nat.le_of_ble_eq_true rfl) (by rw [hRs]; exact Nat.le_of_ble_eq_true rfl) dX3_init_5 (fun a5_4 H hP hD hS => ?_)
  refine W.widen (k := 1) (n := 4) (by omega) (by omega) ?_
  have hP : va_P D vwCl [(h0, .inr (3, [.null, .null, .null, .null, .null, .null, .null, .null, .int 0, .int 0, .int 0, .int 0, .int 0])), (a5_4, .inr (4, [.null, .null, .null, .int 0]))] H := hP
  have hD : va_D A [(h0, .inr (3, [.null, .null, .null, .null, .null, .null, .null, .null, .int 0, .int 0, .int 0, .int 0, .int 0])), (a5_4, .inr (4, [.null, .null, .null, .int 0]))] := hD
  refine lv_dup hx hb dX3_init_8 rfl ?_
  have hPc := hP.sub (ws' := [(a5_4, .inr (4, [.null, .null, .null, .int 0]))]) [1] rfl
  have hDc := hD.sub (ws' := [(a5_4, .inr (4, [.null, .null, .null, .int 0]))]) [1] (by decide) rfl
  have hFc := va_free (wc := [(a5_4, .inr (4, [.null, .null, .null, .int 0]))]) hD hS hA [1] rfl
  refine va_callv (va_runIN (As := []) (rest := [.ref a5_4, .ref h0]) ⟨hx, hb, hml, hown, hts⟩ (ci_X4 l D cI cD a5_4 H.size) (⟨va_cnB 0 hts (lp_good (w0 := Cond.code yX3_init cX3_init 1 none) (y := yX4_init) (bytes := cX4_init) (nL := 1) (ret := none) (by decide +kernel)) rfl rfl rfl (hWd.2 (.methodLinkNest RX3 11 yX4_init "LoadPress") (by decide +kernel)) (T (.initialized RX4) (by decide +kernel)) ⟨by decide +kernel, by decide +kernel, by decide +kernel⟩ ⟨by rw [hRf]; exact Nat.le_of_ble_eq_true rfl, by rw [hRl]; exact Nat.le_of_ble_eq_true rfl⟩, rfl, T (.instanceMethod yX4_init) (by decide +kernel)⟩) ⟨fun a U g mk q => by obtain ⟨q0, q1, qP, qW, qD⟩ := q; exact ⟨q0, q1, qP, lp_Wd_call qW, qD⟩, fun U hU hW => ⟨rfl, by rw [hU], by rw [hU]; exact hPc, lp_Wd_move hW hWd, hDc.weaken (fun _ _ _ _ => trivial)⟩⟩ rfl rfl hl.1 rfl (lv_room (Nat.le_of_ble_eq_true rfl)) dX3_init_9 ⟨by rw [hRc]; exact Nat.le_of_ble_eq_true rfl, by rw [hRs]; exact Nat.le_of_ble_eq_true rfl⟩) hS (fun q _ h => hFc q h) hFc (fun Q0 t H1 locs ht hvm hw hB hz1 hk1 hS => ?_)
  obtain ⟨hP1, hW1, hD1⟩ := hB
  rw [ht] at hP1
  unfold wX4 at hP1 hD1
  obtain ⟨hP, hD⟩ := va_join (wr := [(h0, .inr (3, [.null, .null, .null, .null, .null, .null, .null, .null, .int 0, .int 0, .int 0, .int 0, .int 0]))]) (w1 := [(a5_4, .inr (4, [.ref (Q0 0), .ref (Q0 1), .ref (Q0 2), .int 0])), ((Q0 0), lp_z cI 1200), ((Q0 1), lp_z cI 1200), ((Q0 2), lp_z cI 61)]) hP hD [1] [0] rfl rfl (by decide) (by decide) hk1 hFc hP1 hD1
  generalize H1 = H at hP hS ⊢
  refine W.widen (k := 4) (n := 2465) (by omega) (by omega) ?_
  have hP : va_P D vwCl [(h0, .inr (3, [.null, .null, .null, .null, .null, .null, .null, .null, .int 0, .int 0, .int 0, .int 0, .int 0])), (a5_4, .inr (4, [.ref (Q0 0), .ref (Q0 1), .ref (Q0 2), .int 0])), ((Q0 0), lp_z cI 1200), ((Q0 1), lp_z cI 1200), ((Q0 2), lp_z cI 61)] H := hP
  have hD : va_D A [(h0, .inr (3, [.null, .null, .null, .null, .null, .null, .null, .null, .int 0, .int 0, .int 0, .int 0, .int 0])), (a5_4, .inr (4, [.ref (Q0 0), .ref (Q0 1), .ref (Q0 2), .int 0])), ((Q0 0), lp_z cI 1200), ((Q0 1), lp_z cI 1200), ((Q0 2), lp_z cI 61)] := hD
  refine va_putF (D := D) (ci := 3) (v := .ref a5_4) (ty := .object "LoadPress$Visits") (C := RX3) (T := TX3) (N := 13) hx hb T lp_u3 tyX3 tyX3_ok nmX3 hown hWd.1 hP hD hS 0 rfl rfl 0 (by decide) (T (.fieldLink RX3 12 "LoadPress$Press" "walks" "LLoadPress$Visits;") (by decide +kernel)) (fun _ h9 => h9) rfl hin rfl (by decide +kernel) rfl rfl (Nat.le_of_ble_eq_true rfl) dX3_init_12 (fun H locs hP hD hS => ?_)
  have hP : va_P D vwCl [(h0, .inr (3, [.ref a5_4, .null, .null, .null, .null, .null, .null, .null, .int 0, .int 0, .int 0, .int 0, .int 0])), (a5_4, .inr (4, [.ref (Q0 0), .ref (Q0 1), .ref (Q0 2), .int 0])), ((Q0 0), lp_z cI 1200), ((Q0 1), lp_z cI 1200), ((Q0 2), lp_z cI 61)] H := hP
  have hD : va_D A [(h0, .inr (3, [.ref a5_4, .null, .null, .null, .null, .null, .null, .null, .int 0, .int 0, .int 0, .int 0, .int 0])), (a5_4, .inr (4, [.ref (Q0 0), .ref (Q0 1), .ref (Q0 2), .int 0])), ((Q0 0), lp_z cI 1200), ((Q0 1), lp_z cI 1200), ((Q0 2), lp_z cI 61)] := hD
  refine lv_aload_n hx hb dX3_init_15 rfl (lv_at hl 0 rfl) ?_
  refine lv_sipush (v := 1200) hx hb dX3_init_16 (by decide) ?_
  refine lp_newa (N' := 1200) hx hb T hWd hP hD hS hA (by decide) (by decide) (by omega) (by rw [hRc]; exact Nat.le_of_ble_eq_true rfl) (by rw [hRs]; exact Nat.le_of_ble_eq_true rfl) dX3_init_19 (fun a19_10 H hP hD hS => ?_)
  refine W.widen (k := 5) (n := 3665) (by omega) (by omega) ?_
  have hP : va_P D vwCl [(h0, .inr (3, [.ref a5_4, .null, .null, .null, .null, .null, .null, .null, .int 0, .int 0, .int 0, .int 0, .int 0])), (a5_4, .inr (4, [.ref (Q0 0), .ref (Q0 1), .ref (Q0 2), .int 0])), ((Q0 0), lp_z cI 1200), ((Q0 1), lp_z cI 1200), ((Q0 2), lp_z cI 61), (a19_10, lp_z cI 1200)] H := hP
  have hD : va_D A [(h0, .inr (3, [.ref a5_4, .null, .null, .null, .null, .null, .null, .null, .int 0, .int 0, .int 0, .int 0, .int 0])), (a5_4, .inr (4, [.ref (Q0 0), .ref (Q0 1), .ref (Q0 2), .int 0])), ((Q0 0), lp_z cI 1200), ((Q0 1), lp_z cI 1200), ((Q0 2), lp_z cI 61), (a19_10, lp_z cI 1200)] := hD
  refine va_putF (D := D) (ci := 3) (v := .ref a19_10) (ty := .array .int) (C := RX3) (T := TX3) (N := 13) hx hb T lp_u3 tyX3 tyX3_ok nmX3 hown hWd.1 hP hD hS 0 rfl rfl 1 (by decide) (T (.fieldLink RX3 18 "LoadPress$Press" "due" "[I") (by decide +kernel)) (fun _ h9 => h9) rfl hin rfl (by decide +kernel) rfl rfl (Nat.le_of_ble_eq_true rfl) dX3_init_21 (fun H locs hP hD hS => ?_)
  have hP : va_P D vwCl [(h0, .inr (3, [.ref a5_4, .ref a19_10, .null, .null, .null, .null, .null, .null, .int 0, .int 0, .int 0, .int 0, .int 0])), (a5_4, .inr (4, [.ref (Q0 0), .ref (Q0 1), .ref (Q0 2), .int 0])), ((Q0 0), lp_z cI 1200), ((Q0 1), lp_z cI 1200), ((Q0 2), lp_z cI 61), (a19_10, lp_z cI 1200)] H := hP
  have hD : va_D A [(h0, .inr (3, [.ref a5_4, .ref a19_10, .null, .null, .null, .null, .null, .null, .int 0, .int 0, .int 0, .int 0, .int 0])), (a5_4, .inr (4, [.ref (Q0 0), .ref (Q0 1), .ref (Q0 2), .int 0])), ((Q0 0), lp_z cI 1200), ((Q0 1), lp_z cI 1200), ((Q0 2), lp_z cI 61), (a19_10, lp_z cI 1200)] := hD
  refine lv_aload_n hx hb dX3_init_24 rfl (lv_at hl 0 rfl) ?_
  refine lv_sipush (v := 1200) hx hb dX3_init_25 (by decide) ?_
  refine lp_newa (N' := 1200) hx hb T hWd hP hD hS hA (by decide) (by decide) (by omega) (by rw [hRc]; exact Nat.le_of_ble_eq_true rfl) (by rw [hRs]; exact Nat.le_of_ble_eq_true rfl) dX3_init_28 (fun a28_14 H hP hD hS => ?_)
  refine W.widen (k := 6) (n := 4865) (by omega) (by omega) ?_
  have hP : va_P D vwCl [(h0, .inr (3, [.ref a5_4, .ref a19_10, .null, .null, .null, .null, .null, .null, .int 0, .int 0, .int 0, .int 0, .int 0])), (a5_4, .inr (4, [.ref (Q0 0), .ref (Q0 1), .ref (Q0 2), .int 0])), ((Q0 0), lp_z cI 1200), ((Q0 1), lp_z cI 1200), ((Q0 2), lp_z cI 61), (a19_10, lp_z cI 1200), (a28_14, lp_z cI 1200)] H := hP
  have hD : va_D A [(h0, .inr (3, [.ref a5_4, .ref a19_10, .null, .null, .null, .null, .null, .null, .int 0, .int 0, .int 0, .int 0, .int 0])), (a5_4, .inr (4, [.ref (Q0 0), .ref (Q0 1), .ref (Q0 2), .int 0])), ((Q0 0), lp_z cI 1200), ((Q0 1), lp_z cI 1200), ((Q0 2), lp_z cI 61), (a19_10, lp_z cI 1200), (a28_14, lp_z cI 1200)] := hD
  refine va_putF (D := D) (ci := 3) (v := .ref a28_14) (ty := .array .int) (C := RX3) (T := TX3) (N := 13) hx hb T lp_u3 tyX3 tyX3_ok nmX3 hown hWd.1 hP hD hS 0 rfl rfl 2 (by decide) (T (.fieldLink RX3 22 "LoadPress$Press" "begun" "[I") (by decide +kernel)) (fun _ h9 => h9) rfl hin rfl (by decide +kernel) rfl rfl (Nat.le_of_ble_eq_true rfl) dX3_init_30 (fun H locs hP hD hS => ?_)
  have hP : va_P D vwCl [(h0, .inr (3, [.ref a5_4, .ref a19_10, .ref a28_14, .null, .null, .null, .null, .null, .int 0, .int 0, .int 0, .int 0, .int 0])), (a5_4, .inr (4, [.ref (Q0 0), .ref (Q0 1), .ref (Q0 2), .int 0])), ((Q0 0), lp_z cI 1200), ((Q0 1), lp_z cI 1200), ((Q0 2), lp_z cI 61), (a19_10, lp_z cI 1200), (a28_14, lp_z cI 1200)] H := hP
  have hD : va_D A [(h0, .inr (3, [.ref a5_4, .ref a19_10, .ref a28_14, .null, .null, .null, .null, .null, .int 0, .int 0, .int 0, .int 0, .int 0])), (a5_4, .inr (4, [.ref (Q0 0), .ref (Q0 1), .ref (Q0 2), .int 0])), ((Q0 0), lp_z cI 1200), ((Q0 1), lp_z cI 1200), ((Q0 2), lp_z cI 61), (a19_10, lp_z cI 1200), (a28_14, lp_z cI 1200)] := hD
  refine lv_aload_n hx hb dX3_init_33 rfl (lv_at hl 0 rfl) ?_
  refine lv_sipush (v := 1200) hx hb dX3_init_34 (by decide) ?_
  refine lp_newa (N' := 1200) hx hb T hWd hP hD hS hA (by decide) (by decide) (by omega) (by rw [hRc]; exact Nat.le_of_ble_eq_true rfl) (by rw [hRs]; exact Nat.le_of_ble_eq_true rfl) dX3_init_37 (fun a37_18 H hP hD hS => ?_)
  refine W.widen (k := 7) (n := 6065) (by omega) (by omega) ?_
  have hP : va_P D vwCl [(h0, .inr (3, [.ref a5_4, .ref a19_10, .ref a28_14, .null, .null, .null, .null, .null, .int 0, .int 0, .int 0, .int 0, .int 0])), (a5_4, .inr (4, [.ref (Q0 0), .ref (Q0 1), .ref (Q0 2), .int 0])), ((Q0 0), lp_z cI 1200), ((Q0 1), lp_z cI 1200), ((Q0 2), lp_z cI 61), (a19_10, lp_z cI 1200), (a28_14, lp_z cI 1200), (a37_18, lp_z cI 1200)] H := hP
  have hD : va_D A [(h0, .inr (3, [.ref a5_4, .ref a19_10, .ref a28_14, .null, .null, .null, .null, .null, .int 0, .int 0, .int 0, .int 0, .int 0])), (a5_4, .inr (4, [.ref (Q0 0), .ref (Q0 1), .ref (Q0 2), .int 0])), ((Q0 0), lp_z cI 1200), ((Q0 1), lp_z cI 1200), ((Q0 2), lp_z cI 61), (a19_10, lp_z cI 1200), (a28_14, lp_z cI 1200), (a37_18, lp_z cI 1200)] := hD
  refine va_putF (D := D) (ci := 3) (v := .ref a37_18) (ty := .array .int) (C := RX3) (T := TX3) (N := 13) hx hb T lp_u3 tyX3 tyX3_ok nmX3 hown hWd.1 hP hD hS 0 rfl rfl 3 (by decide) (T (.fieldLink RX3 25 "LoadPress$Press" "ended" "[I") (by decide +kernel)) (fun _ h9 => h9) rfl hin rfl (by decide +kernel) rfl rfl (Nat.le_of_ble_eq_true rfl) dX3_init_39 (fun H locs hP hD hS => ?_)
  have hP : va_P D vwCl [(h0, .inr (3, [.ref a5_4, .ref a19_10, .ref a28_14, .ref a37_18, .null, .null, .null, .null, .int 0, .int 0, .int 0, .int 0, .int 0])), (a5_4, .inr (4, [.ref (Q0 0), .ref (Q0 1), .ref (Q0 2), .int 0])), ((Q0 0), lp_z cI 1200), ((Q0 1), lp_z cI 1200), ((Q0 2), lp_z cI 61), (a19_10, lp_z cI 1200), (a28_14, lp_z cI 1200), (a37_18, lp_z cI 1200)] H := hP
  have hD : va_D A [(h0, .inr (3, [.ref a5_4, .ref a19_10, .ref a28_14, .ref a37_18, .null, .null, .null, .null, .int 0, .int 0, .int 0, .int 0, .int 0])), (a5_4, .inr (4, [.ref (Q0 0), .ref (Q0 1), .ref (Q0 2), .int 0])), ((Q0 0), lp_z cI 1200), ((Q0 1), lp_z cI 1200), ((Q0 2), lp_z cI 61), (a19_10, lp_z cI 1200), (a28_14, lp_z cI 1200), (a37_18, lp_z cI 1200)] := hD
  refine lv_aload_n hx hb dX3_init_42 rfl (lv_at hl 0 rfl) ?_
  refine lv_sipush (v := 1200) hx hb dX3_init_43 (by decide) ?_
  refine lp_newa (N' := 1200) hx hb T hWd hP hD hS hA (by decide) (by decide) (by omega) (by rw [hRc]; exact Nat.le_of_ble_eq_true rfl) (by rw [hRs]; exact Nat.le_of_ble_eq_true rfl) dX3_init_46 (fun a46_22 H hP hD hS => ?_)
  refine W.widen (k := 8) (n := 7265) (by omega) (by omega) ?_
  have hP : va_P D vwCl [(h0, .inr (3, [.ref a5_4, .ref a19_10, .ref a28_14, .ref a37_18, .null, .null, .null, .null, .int 0, .int 0, .int 0, .int 0, .int 0])), (a5_4, .inr (4, [.ref (Q0 0), .ref (Q0 1), .ref (Q0 2), .int 0])), ((Q0 0), lp_z cI 1200), ((Q0 1), lp_z cI 1200), ((Q0 2), lp_z cI 61), (a19_10, lp_z cI 1200), (a28_14, lp_z cI 1200), (a37_18, lp_z cI 1200), (a46_22, lp_z cI 1200)] H := hP
  have hD : va_D A [(h0, .inr (3, [.ref a5_4, .ref a19_10, .ref a28_14, .ref a37_18, .null, .null, .null, .null, .int 0, .int 0, .int 0, .int 0, .int 0])), (a5_4, .inr (4, [.ref (Q0 0), .ref (Q0 1), .ref (Q0 2), .int 0])), ((Q0 0), lp_z cI 1200), ((Q0 1), lp_z cI 1200), ((Q0 2), lp_z cI 61), (a19_10, lp_z cI 1200), (a28_14, lp_z cI 1200), (a37_18, lp_z cI 1200), (a46_22, lp_z cI 1200)] := hD
  refine va_putF (D := D) (ci := 3) (v := .ref a46_22) (ty := .array .int) (C := RX3) (T := TX3) (N := 13) hx hb T lp_u3 tyX3 tyX3_ok nmX3 hown hWd.1 hP hD hS 0 rfl rfl 4 (by decide) (T (.fieldLink RX3 28 "LoadPress$Press" "server" "[I") (by decide +kernel)) (fun _ h9 => h9) rfl hin rfl (by decide +kernel) rfl rfl (Nat.le_of_ble_eq_true rfl) dX3_init_48 (fun H locs hP hD hS => ?_)
  have hP : va_P D vwCl [(h0, .inr (3, [.ref a5_4, .ref a19_10, .ref a28_14, .ref a37_18, .ref a46_22, .null, .null, .null, .int 0, .int 0, .int 0, .int 0, .int 0])), (a5_4, .inr (4, [.ref (Q0 0), .ref (Q0 1), .ref (Q0 2), .int 0])), ((Q0 0), lp_z cI 1200), ((Q0 1), lp_z cI 1200), ((Q0 2), lp_z cI 61), (a19_10, lp_z cI 1200), (a28_14, lp_z cI 1200), (a37_18, lp_z cI 1200), (a46_22, lp_z cI 1200)] H := hP
  have hD : va_D A [(h0, .inr (3, [.ref a5_4, .ref a19_10, .ref a28_14, .ref a37_18, .ref a46_22, .null, .null, .null, .int 0, .int 0, .int 0, .int 0, .int 0])), (a5_4, .inr (4, [.ref (Q0 0), .ref (Q0 1), .ref (Q0 2), .int 0])), ((Q0 0), lp_z cI 1200), ((Q0 1), lp_z cI 1200), ((Q0 2), lp_z cI 61), (a19_10, lp_z cI 1200), (a28_14, lp_z cI 1200), (a37_18, lp_z cI 1200), (a46_22, lp_z cI 1200)] := hD
  refine lv_aload_n hx hb dX3_init_51 rfl (lv_at hl 0 rfl) ?_
  refine lv_bipush (v := 60) hx hb dX3_init_52 (by decide) ?_
  refine lp_newa (N' := 60) hx hb T hWd hP hD hS hA (by decide) (by decide) (by omega) (by rw [hRc]; exact Nat.le_of_ble_eq_true rfl) (by rw [hRs]; exact Nat.le_of_ble_eq_true rfl) dX3_init_54 (fun a54_26 H hP hD hS => ?_)
  refine W.widen (k := 9) (n := 7325) (by omega) (by omega) ?_
  have hP : va_P D vwCl [(h0, .inr (3, [.ref a5_4, .ref a19_10, .ref a28_14, .ref a37_18, .ref a46_22, .null, .null, .null, .int 0, .int 0, .int 0, .int 0, .int 0])), (a5_4, .inr (4, [.ref (Q0 0), .ref (Q0 1), .ref (Q0 2), .int 0])), ((Q0 0), lp_z cI 1200), ((Q0 1), lp_z cI 1200), ((Q0 2), lp_z cI 61), (a19_10, lp_z cI 1200), (a28_14, lp_z cI 1200), (a37_18, lp_z cI 1200), (a46_22, lp_z cI 1200), (a54_26, lp_z cI 60)] H := hP
  have hD : va_D A [(h0, .inr (3, [.ref a5_4, .ref a19_10, .ref a28_14, .ref a37_18, .ref a46_22, .null, .null, .null, .int 0, .int 0, .int 0, .int 0, .int 0])), (a5_4, .inr (4, [.ref (Q0 0), .ref (Q0 1), .ref (Q0 2), .int 0])), ((Q0 0), lp_z cI 1200), ((Q0 1), lp_z cI 1200), ((Q0 2), lp_z cI 61), (a19_10, lp_z cI 1200), (a28_14, lp_z cI 1200), (a37_18, lp_z cI 1200), (a46_22, lp_z cI 1200), (a54_26, lp_z cI 60)] := hD
  refine va_putF (D := D) (ci := 3) (v := .ref a54_26) (ty := .array .int) (C := RX3) (T := TX3) (N := 13) hx hb T lp_u3 tyX3 tyX3_ok nmX3 hown hWd.1 hP hD hS 0 rfl rfl 5 (by decide) (T (.fieldLink RX3 31 "LoadPress$Press" "nextSlot" "[I") (by decide +kernel)) (fun _ h9 => h9) rfl hin rfl (by decide +kernel) rfl rfl (Nat.le_of_ble_eq_true rfl) dX3_init_56 (fun H locs hP hD hS => ?_)
  have hP : va_P D vwCl [(h0, .inr (3, [.ref a5_4, .ref a19_10, .ref a28_14, .ref a37_18, .ref a46_22, .ref a54_26, .null, .null, .int 0, .int 0, .int 0, .int 0, .int 0])), (a5_4, .inr (4, [.ref (Q0 0), .ref (Q0 1), .ref (Q0 2), .int 0])), ((Q0 0), lp_z cI 1200), ((Q0 1), lp_z cI 1200), ((Q0 2), lp_z cI 61), (a19_10, lp_z cI 1200), (a28_14, lp_z cI 1200), (a37_18, lp_z cI 1200), (a46_22, lp_z cI 1200), (a54_26, lp_z cI 60)] H := hP
  have hD : va_D A [(h0, .inr (3, [.ref a5_4, .ref a19_10, .ref a28_14, .ref a37_18, .ref a46_22, .ref a54_26, .null, .null, .int 0, .int 0, .int 0, .int 0, .int 0])), (a5_4, .inr (4, [.ref (Q0 0), .ref (Q0 1), .ref (Q0 2), .int 0])), ((Q0 0), lp_z cI 1200), ((Q0 1), lp_z cI 1200), ((Q0 2), lp_z cI 61), (a19_10, lp_z cI 1200), (a28_14, lp_z cI 1200), (a37_18, lp_z cI 1200), (a46_22, lp_z cI 1200), (a54_26, lp_z cI 60)] := hD
  refine lv_aload_n hx hb dX3_init_59 rfl (lv_at hl 0 rfl) ?_
  refine lv_bipush (v := 60) hx hb dX3_init_60 (by decide) ?_
  refine lp_newa (N' := 60) hx hb T hWd hP hD hS hA (by decide) (by decide) (by omega) (by rw [hRc]; exact Nat.le_of_ble_eq_true rfl) (by rw [hRs]; exact Nat.le_of_ble_eq_true rfl) dX3_init_62 (fun a62_30 H hP hD hS => ?_)
  refine W.widen (k := 10) (n := 7385) (by omega) (by omega) ?_
  have hP : va_P D vwCl [(h0, .inr (3, [.ref a5_4, .ref a19_10, .ref a28_14, .ref a37_18, .ref a46_22, .ref a54_26, .null, .null, .int 0, .int 0, .int 0, .int 0, .int 0])), (a5_4, .inr (4, [.ref (Q0 0), .ref (Q0 1), .ref (Q0 2), .int 0])), ((Q0 0), lp_z cI 1200), ((Q0 1), lp_z cI 1200), ((Q0 2), lp_z cI 61), (a19_10, lp_z cI 1200), (a28_14, lp_z cI 1200), (a37_18, lp_z cI 1200), (a46_22, lp_z cI 1200), (a54_26, lp_z cI 60), (a62_30, lp_z cI 60)] H := hP
  have hD : va_D A [(h0, .inr (3, [.ref a5_4, .ref a19_10, .ref a28_14, .ref a37_18, .ref a46_22, .ref a54_26, .null, .null, .int 0, .int 0, .int 0, .int 0, .int 0])), (a5_4, .inr (4, [.ref (Q0 0), .ref (Q0 1), .ref (Q0 2), .int 0])), ((Q0 0), lp_z cI 1200), ((Q0 1), lp_z cI 1200), ((Q0 2), lp_z cI 61), (a19_10, lp_z cI 1200), (a28_14, lp_z cI 1200), (a37_18, lp_z cI 1200), (a46_22, lp_z cI 1200), (a54_26, lp_z cI 60), (a62_30, lp_z cI 60)] := hD
  refine va_putF (D := D) (ci := 3) (v := .ref a62_30) (ty := .array .int) (C := RX3) (T := TX3) (N := 13) hx hb T lp_u3 tyX3 tyX3_ok nmX3 hown hWd.1 hP hD hS 0 rfl rfl 6 (by decide) (T (.fieldLink RX3 34 "LoadPress$Press" "nextDue" "[I") (by decide +kernel)) (fun _ h9 => h9) rfl hin rfl (by decide +kernel) rfl rfl (Nat.le_of_ble_eq_true rfl) dX3_init_64 (fun H locs hP hD hS => ?_)
  have hP : va_P D vwCl [(h0, .inr (3, [.ref a5_4, .ref a19_10, .ref a28_14, .ref a37_18, .ref a46_22, .ref a54_26, .ref a62_30, .null, .int 0, .int 0, .int 0, .int 0, .int 0])), (a5_4, .inr (4, [.ref (Q0 0), .ref (Q0 1), .ref (Q0 2), .int 0])), ((Q0 0), lp_z cI 1200), ((Q0 1), lp_z cI 1200), ((Q0 2), lp_z cI 61), (a19_10, lp_z cI 1200), (a28_14, lp_z cI 1200), (a37_18, lp_z cI 1200), (a46_22, lp_z cI 1200), (a54_26, lp_z cI 60), (a62_30, lp_z cI 60)] H := hP
  have hD : va_D A [(h0, .inr (3, [.ref a5_4, .ref a19_10, .ref a28_14, .ref a37_18, .ref a46_22, .ref a54_26, .ref a62_30, .null, .int 0, .int 0, .int 0, .int 0, .int 0])), (a5_4, .inr (4, [.ref (Q0 0), .ref (Q0 1), .ref (Q0 2), .int 0])), ((Q0 0), lp_z cI 1200), ((Q0 1), lp_z cI 1200), ((Q0 2), lp_z cI 61), (a19_10, lp_z cI 1200), (a28_14, lp_z cI 1200), (a37_18, lp_z cI 1200), (a46_22, lp_z cI 1200), (a54_26, lp_z cI 60), (a62_30, lp_z cI 60)] := hD
  refine lv_aload_n hx hb dX3_init_67 rfl (lv_at hl 0 rfl) ?_
  refine lv_bipush (v := 8) hx hb dX3_init_68 (by decide) ?_
  refine lp_newa (N' := 8) hx hb T hWd hP hD hS hA (by decide) (by decide) (by omega) (by rw [hRc]; exact Nat.le_of_ble_eq_true rfl) (by rw [hRs]; exact Nat.le_of_ble_eq_true rfl) dX3_init_70 (fun a70_34 H hP hD hS => ?_)
  refine W.widen (k := 11) (n := 7393) (by omega) (by omega) ?_
  have hP : va_P D vwCl [(h0, .inr (3, [.ref a5_4, .ref a19_10, .ref a28_14, .ref a37_18, .ref a46_22, .ref a54_26, .ref a62_30, .null, .int 0, .int 0, .int 0, .int 0, .int 0])), (a5_4, .inr (4, [.ref (Q0 0), .ref (Q0 1), .ref (Q0 2), .int 0])), ((Q0 0), lp_z cI 1200), ((Q0 1), lp_z cI 1200), ((Q0 2), lp_z cI 61), (a19_10, lp_z cI 1200), (a28_14, lp_z cI 1200), (a37_18, lp_z cI 1200), (a46_22, lp_z cI 1200), (a54_26, lp_z cI 60), (a62_30, lp_z cI 60), (a70_34, lp_z cI 8)] H := hP
  have hD : va_D A [(h0, .inr (3, [.ref a5_4, .ref a19_10, .ref a28_14, .ref a37_18, .ref a46_22, .ref a54_26, .ref a62_30, .null, .int 0, .int 0, .int 0, .int 0, .int 0])), (a5_4, .inr (4, [.ref (Q0 0), .ref (Q0 1), .ref (Q0 2), .int 0])), ((Q0 0), lp_z cI 1200), ((Q0 1), lp_z cI 1200), ((Q0 2), lp_z cI 61), (a19_10, lp_z cI 1200), (a28_14, lp_z cI 1200), (a37_18, lp_z cI 1200), (a46_22, lp_z cI 1200), (a54_26, lp_z cI 60), (a62_30, lp_z cI 60), (a70_34, lp_z cI 8)] := hD
  refine va_putF (D := D) (ci := 3) (v := .ref a70_34) (ty := .array .int) (C := RX3) (T := TX3) (N := 13) hx hb T lp_u3 tyX3 tyX3_ok nmX3 hown hWd.1 hP hD hS 0 rfl rfl 7 (by decide) (T (.fieldLink RX3 37 "LoadPress$Press" "freeAt" "[I") (by decide +kernel)) (fun _ h9 => h9) rfl hin rfl (by decide +kernel) rfl rfl (Nat.le_of_ble_eq_true rfl) dX3_init_72 (fun H locs hP hD hS => ?_)
  have hP : va_P D vwCl [(h0, .inr (3, [.ref a5_4, .ref a19_10, .ref a28_14, .ref a37_18, .ref a46_22, .ref a54_26, .ref a62_30, .ref a70_34, .int 0, .int 0, .int 0, .int 0, .int 0])), (a5_4, .inr (4, [.ref (Q0 0), .ref (Q0 1), .ref (Q0 2), .int 0])), ((Q0 0), lp_z cI 1200), ((Q0 1), lp_z cI 1200), ((Q0 2), lp_z cI 61), (a19_10, lp_z cI 1200), (a28_14, lp_z cI 1200), (a37_18, lp_z cI 1200), (a46_22, lp_z cI 1200), (a54_26, lp_z cI 60), (a62_30, lp_z cI 60), (a70_34, lp_z cI 8)] H := hP
  have hD : va_D A [(h0, .inr (3, [.ref a5_4, .ref a19_10, .ref a28_14, .ref a37_18, .ref a46_22, .ref a54_26, .ref a62_30, .ref a70_34, .int 0, .int 0, .int 0, .int 0, .int 0])), (a5_4, .inr (4, [.ref (Q0 0), .ref (Q0 1), .ref (Q0 2), .int 0])), ((Q0 0), lp_z cI 1200), ((Q0 1), lp_z cI 1200), ((Q0 2), lp_z cI 61), (a19_10, lp_z cI 1200), (a28_14, lp_z cI 1200), (a37_18, lp_z cI 1200), (a46_22, lp_z cI 1200), (a54_26, lp_z cI 60), (a62_30, lp_z cI 60), (a70_34, lp_z cI 8)] := hD
  have hP9 := hP.sub (ws' := [(h0, .inr (3, [.ref a5_4, .ref a19_10, .ref a28_14, .ref a37_18, .ref a46_22, .ref a54_26, .ref a62_30, .ref a70_34, .int 0, .int 0, .int 0, .int 0, .int 0])), (a5_4, .inr (4, [.ref (Q0 0), .ref (Q0 1), .ref (Q0 2), .int 0])), ((Q0 0), lp_z cI 1200), ((Q0 1), lp_z cI 1200), ((Q0 2), lp_z cI 61), (a19_10, lp_z cI 1200), (a28_14, lp_z cI 1200), (a37_18, lp_z cI 1200), (a46_22, lp_z cI 1200), (a54_26, lp_z cI 60), (a62_30, lp_z cI 60), (a70_34, lp_z cI 8)]) [0, 1, 2, 3, 4, 5, 6, 7, 8, 9, 10, 11] rfl
  have hD9 := hD.sub (ws' := [(h0, .inr (3, [.ref a5_4, .ref a19_10, .ref a28_14, .ref a37_18, .ref a46_22, .ref a54_26, .ref a62_30, .ref a70_34, .int 0, .int 0, .int 0, .int 0, .int 0])), (a5_4, .inr (4, [.ref (Q0 0), .ref (Q0 1), .ref (Q0 2), .int 0])), ((Q0 0), lp_z cI 1200), ((Q0 1), lp_z cI 1200), ((Q0 2), lp_z cI 61), (a19_10, lp_z cI 1200), (a28_14, lp_z cI 1200), (a37_18, lp_z cI 1200), (a46_22, lp_z cI 1200), (a54_26, lp_z cI 60), (a62_30, lp_z cI 60), (a70_34, lp_z cI 8)]) [0, 1, 2, 3, 4, 5, 6, 7, 8, 9, 10, 11] (by decide) rfl
  exact W.vret hx hb hr (fun t ht hW => ⟨⟨fun k => ([a5_4, (Q0 0), (Q0 1), (Q0 2), a19_10, a28_14, a37_18, a46_22, a54_26, a62_30, a70_34] : List Nat).getD k 0, rfl, trivial, by rw [ht]; exact hP9, lp_Wd_move hW hWd, hD9⟩, hS.F ht⟩) hS.2.2 dX3_init_75
end
section
/-! ===== constructor of X6 ===== -/
theorem dX6_init_0 : decode cX6_init 0 = .ok (.aload_n 0, 1) := by decide +kernel
theorem dX6_init_1 : decode cX6_init 1 = .ok (.invokespecial 3, 3) := by decide +kernel
theorem dX6_init_4 : decode cX6_init 4 = .ok (.aload_n 0, 1) := by decide +kernel
theorem dX6_init_5 : decode cX6_init 5 = .ok (.new 9, 3) := by decide +kernel
theorem dX6_init_8 : decode cX6_init 8 = .ok (.dup, 1) := by decide +kernel
theorem dX6_init_9 : decode cX6_init 9 = .ok (.invokespecial 11, 3) := by decide +kernel
theorem dX6_init_12 : decode cX6_init 12 = .ok (.putfield 12, 3) := by decide +kernel
theorem dX6_init_15 : decode cX6_init 15 = .ok (.aload_n 0, 1) := by decide +kernel
theorem dX6_init_16 : decode cX6_init 16 = .ok (.new 16, 3) := by decide +kernel
theorem dX6_init_19 : decode cX6_init 19 = .ok (.dup, 1) := by decide +kernel
theorem dX6_init_20 : decode cX6_init 20 = .ok (.invokespecial 18, 3) := by decide +kernel
theorem dX6_init_23 : decode cX6_init 23 = .ok (.putfield 19, 3) := by decide +kernel
theorem dX6_init_26 : decode cX6_init 26 = .ok (.aload_n 0, 1) := by decide +kernel
theorem dX6_init_27 : decode cX6_init 27 = .ok (.new 23, 3) := by decide +kernel
theorem dX6_init_30 : decode cX6_init 30 = .ok (.dup, 1) := by decide +kernel
theorem dX6_init_31 : decode cX6_init 31 = .ok (.invokespecial 25, 3) := by decide +kernel
theorem dX6_init_34 : decode cX6_init 34 = .ok (.putfield 26, 3) := by decide +kernel
theorem dX6_init_37 : decode cX6_init 37 = .ok (.aload_n 0, 1) := by decide +kernel
theorem dX6_init_38 : decode cX6_init 38 = .ok (.bipush 10, 2) := by decide +kernel
theorem dX6_init_40 : decode cX6_init 40 = .ok (.newarray .int, 2) := by decide +kernel
theorem dX6_init_42 : decode cX6_init 42 = .ok (.putfield 30, 3) := by decide +kernel
theorem dX6_init_45 : decode cX6_init 45 = .ok (.aload_n 0, 1) := by decide +kernel
theorem dX6_init_46 : decode cX6_init 46 = .ok (.getfield 30, 3) := by decide +kernel
theorem dX6_init_49 : decode cX6_init 49 = .ok (.iconst 1, 1) := by decide +kernel
theorem dX6_init_50 : decode cX6_init 50 = .ok (.invokestatic 34, 3) := by decide +kernel
theorem dX6_init_53 : decode cX6_init 53 = .ok (.aload_n 0, 1) := by decide +kernel
theorem dX6_init_54 : decode cX6_init 54 = .ok (.new 40, 3) := by decide +kernel
theorem dX6_init_57 : decode cX6_init 57 = .ok (.dup, 1) := by decide +kernel
theorem dX6_init_58 : decode cX6_init 58 = .ok (.invokespecial 42, 3) := by decide +kernel
theorem dX6_init_61 : decode cX6_init 61 = .ok (.putfield 43, 3) := by decide +kernel
theorem dX6_init_64 : decode cX6_init 64 = .ok (.aload_n 0, 1) := by decide +kernel
theorem dX6_init_65 : decode cX6_init 65 = .ok (.new 47, 3) := by decide +kernel
theorem dX6_init_68 : decode cX6_init 68 = .ok (.dup, 1) := by decide +kernel
theorem dX6_init_69 : decode cX6_init 69 = .ok (.invokespecial 49, 3) := by decide +kernel
theorem dX6_init_72 : decode cX6_init 72 = .ok (.putfield 50, 3) := by decide +kernel
theorem dX6_init_75 : decode cX6_init 75 = .ok (.return_, 1) := by decide +kernel
def wX6 (cI cD : ClassId) (h : Nat) (q : Nat → Nat) : va_W := [(h, .inr (6, [.ref (q 0), .ref (q 4), .ref (q 8), .ref (q 13), .ref (q 14), .ref (q 49)])), (q 0, .inr (4, [.ref (q 1), .ref (q 2), .ref (q 3), .int 0])), (q 1, lp_z cI 1200), (q 2, lp_z cI 1200), (q 3, lp_z cI 61), (q 4, .inr (2, [.ref (q 5), .ref (q 6), .ref (q 7)])), (q 5, lp_z cI 121), (q 6, lp_z cI 121), (q 7, .inl (cD, 121, .inr (.inr (.inr (.inr (fun _ => none)))))), (q 8, .inr (0, [.ref (q 9), .ref (q 10), .ref (q 11), .ref (q 12), .int 0])), (q 9, lp_z cI 1200), (q 10, lp_z cI 1200), (q 11, lp_z cI 11), (q 12, lp_z cI 11), (q 13, .inl (cI, 10, .inl (lp_ff (fun _ => 0) 1 10))), (q 14, .inr (5, [.ref (q 15)])), (q 15, .inl (cD, 11, .inr (.inr (.inr (.inr (va_up (va_up (va_up (va_up (va_up (va_up (va_up (va_up (va_up (va_up (va_up (fun _ => none) 0 (some ((q 16)))) 1 (some ((q 19)))) 2 (some ((q 22)))) 3 (some ((q 25)))) 4 (some ((q 28)))) 5 (some ((q 31)))) 6 (some ((q 34)))) 7 (some ((q 37)))) 8 (some ((q 40)))) 9 (some ((q 43)))) 10 (some ((q 46))))))))), (q 16, .inr (1, [.ref (q 17), .ref (q 18)])), (q 17, lp_z cI 11), (q 18, lp_z cI 11), (q 19, .inr (1, [.ref (q 20), .ref (q 21)])), (q 20, lp_z cI 11), (q 21, lp_z cI 11), (q 22, .inr (1, [.ref (q 23), .ref (q 24)])), (q 23, lp_z cI 11), (q 24, lp_z cI 11), (q 25, .inr (1, [.ref (q 26), .ref (q 27)])), (q 26, lp_z cI 11), (q 27, lp_z cI 11), (q 28, .inr (1, [.ref (q 29), .ref (q 30)])), (q 29, lp_z cI 11), (q 30, lp_z cI 11), (q 31, .inr (1, [.ref (q 32), .ref (q 33)])), (q 32, lp_z cI 11), (q 33, lp_z cI 11), (q 34, .inr (1, [.ref (q 35), .ref (q 36)])), (q 35, lp_z cI 11), (q 36, lp_z cI 11), (q 37, .inr (1, [.ref (q 38), .ref (q 39)])), (q 38, lp_z cI 11), (q 39, lp_z cI 11), (q 40, .inr (1, [.ref (q 41), .ref (q 42)])), (q 41, lp_z cI 11), (q 42, lp_z cI 11), (q 43, .inr (1, [.ref (q 44), .ref (q 45)])), (q 44, lp_z cI 11), (q 45, lp_z cI 11), (q 46, .inr (1, [.ref (q 47), .ref (q 48)])), (q 47, lp_z cI 11), (q 48, lp_z cI 11), (q 49, .inr (3, [.ref (q 50), .ref (q 54), .ref (q 55), .ref (q 56), .ref (q 57), .ref (q 58), .ref (q 59), .ref (q 60), .int 0, .int 0, .int 0, .int 0, .int 0])), (q 50, .inr (4, [.ref (q 51), .ref (q 52), .ref (q 53), .int 0])), (q 51, lp_z cI 1200), (q 52, lp_z cI 1200), (q 53, lp_z cI 61), (q 54, lp_z cI 1200), (q 55, lp_z cI 1200), (q 56, lp_z cI 1200), (q 57, lp_z cI 1200), (q 58, lp_z cI 60), (q 59, lp_z cI 60), (q 60, lp_z cI 8)]
set_option maxHeartbeats 16000000 in
set_option maxRecDepth 100000 in
theorem ci_X6 (l : Launch) (D : va_G) (cI cD : ClassId) (h0 sz : Nat) : Met l yX6_init (.code yX6_init cX6_init 1 none :: lp_tbl) { frames := 3, cells := 61, slots := 12950, locals := 108 } (va_Pc [.ref h0] (fun U => U.heap.size = sz ∧ va_P D vwCl [(h0, .inr (6, [.null, .null, .null, .null, .null, .null]))] U.heap ∧ lp_Wc D cI cD U ∧ va_D (fun _ => True) [(h0, .inr (6, [.null, .null, .null, .null, .null, .null]))])) (va_Qv (fun _ : Nat → Nat => True) (fun q t => va_P D vwCl (wX6 cI cD h0 q) t.heap ∧ lp_Wd D cI cD t ∧ va_D (va_A [(h0, .inr (6, [.null, .null, .null, .null, .null, .null]))] sz) (wX6 cI cD h0 q)) (va_A [(h0, .inr (6, [.null, .null, .null, .null, .null, .null]))] sz)) 61 (12950) (va_A [(h0, .inr (6, [.null, .null, .null, .null, .null, .null]))] sz) := by
  refine Met.ofW (cc := cX6_init) (maxL := 1) (ret := none) (by decide) rfl ?_
  intro p e s m args below meth c s₁ B hml hv
  obtain ⟨rfl, hsz, hP, ⟨hWd, hAO⟩, hD0⟩ := hv
  have hx := B.exec
  have hb := B.bytes
  have hr := B.returns
  have hts := atoms_spec (ws := Cond.code yX6_init cX6_init 1 none :: lp_tbl) B.pre
  have T : ∀ w ∈ lp_tbl, w.before ([.ref h0] : List Value).toArray s = true := fun w hw => hts w (List.mem_cons_of_mem _ hw)
  have hown : s.vm.findClass RX6 = some m.cls := findClass_of_methodNamed B.named
  have hlocks := B.notSynchronized
  have hin : meth.name = "<init>" := (name_of_methodNamed B.named B.method).1
  subst hsz
  have hD := hD0.self (sz := s.heap.size)
  generalize hAe : va_A [(h0, .inr (6, [.null, .null, .null, .null, .null, .null]))] s.heap.size = A at hD ⊢
  have hA : ∀ q : Nat, s.heap.size ≤ q → A q := fun q h => by rw [← hAe]; exact Or.inr h
  have hS : va_S A s.heap s.heap [] := va_S.rf
  have hl := lv_entry ([.ref h0]) (n := 1) (Nat.le_of_ble_eq_true rfl)
  rw [lg_entry_eq]
  generalize (lg_sl ([.ref h0]) ++ List.replicate (1 - (lg_sl ([.ref h0])).length) Slot.unset).toArray = ls at hl ⊢
  have hl : lv_has ls 1 [(0, .ref h0)] := hl
  have hRf : (headSpec (Cond.code yX6_init cX6_init 1 none :: lp_tbl) { frames := 3, cells := 61, slots := 12950, locals := 108 }).room.frames = 3 := rfl
  have hRl : (headSpec (Cond.code yX6_init cX6_init 1 none :: lp_tbl) { frames := 3, cells := 61, slots := 12950, locals := 108 }).room.locals = 108 := rfl
  have hRc : (headSpec (Cond.code yX6_init cX6_init 1 none :: lp_tbl) { frames := 3, cells := 61, slots := 12950, locals := 108 }).room.cells = 61 := rfl
  have hRs : (headSpec (Cond.code yX6_init cX6_init 1 none :: lp_tbl) { frames := 3, cells := 61, slots := 12950, locals := 108 }).room.slots = 12950 := rfl
  refine lv_aload_n hx hb dX6_init_0 rfl (lv_at hl 0 rfl) ?_
  refine W.objInit hx hb hown (T (.methodLink RX6 3 objectInit) (by decide +kernel)) (T (.instanceMethod objectInit) (by decide +kernel)) (T (.code objectInit ⟨#[0xb1]⟩ 1 none) (by decide +kernel)) rfl (by rw [hml]; exact hl.1) rfl dX6_init_1 (Nat.le_of_ble_eq_true rfl) (Nat.le_of_ble_eq_true rfl) ?_
  refine W.eq (g2 := F0 m 4 ls []) rfl ?_
  refine lv_aload_n hx hb dX6_init_4 rfl (lv_at hl 0 rfl) ?_
  refine va_new (ci := 4) (fs := [.null, .null, .null, .int 0]) (C := RX4) (T := TX4) (N := 4) hx hb T lp_u4 tyX4 tyX4_ok hown (T (.classLink RX6 9 RX4) (by decide +kernel)) (T (.instantiable RX4 4) (by decide +kernel)) (T (.initialized RX4) (by decide +kernel)) hWd.1 hP hD hS hA rfl (fun j hj => by rcases (show j = 0 ∨ j = 1 ∨ j = 2 ∨ j = 3 by omega) with rfl | rfl | rfl | rfl <;> rfl) (by rw [hRc]; exact Nat.le_of_ble_eq_true rfl) (by rw [hRs]; exact Nat.le_of_ble_eq_true rfl) dX6_init_5 (fun a5_4 H hP hD hS => ?_)
  refine W.widen (k := 1) (n := 4) (by omega) (by omega) ?_
  have hP : va_P D vwCl [(h0, .inr (6, [.null, .null, .null, .null, .null, .null])), (a5_4, .inr (4, [.null, .null, .null, .int 0]))] H := hP
  have hD : va_D A [(h0, .inr (6, [.null, .null, .null, .null, .null, .null])), (a5_4, .inr (4, [.null, .null, .null, .int 0]))] := hD
  refine lv_dup hx hb dX6_init_8 rfl ?_
  have hPc := hP.sub (ws' := [(a5_4, .inr (4, [.null, .null, .null, .int 0]))]) [1] rfl
  have hDc := hD.sub (ws' := [(a5_4, .inr (4, [.null, .null, .null, .int 0]))]) [1] (by decide) rfl
  have hFc := va_free (wc := [(a5_4, .inr (4, [.null, .null, .null, .int 0]))]) hD hS hA [1] rfl
  refine va_callv (va_runIN (As := []) (rest := [.ref a5_4, .ref h0]) ⟨hx, hb, hml, hown, hts⟩ (ci_X4 l D cI cD a5_4 H.size) (⟨va_cnB 0 hts (lp_good (w0 := Cond.code yX6_init cX6_init 1 none) (y := yX4_init) (bytes := cX4_init) (nL := 1) (ret := none) (by decide +kernel)) rfl rfl rfl (hWd.2 (.methodLinkNest RX6 11 yX4_init "LoadPress") (by decide +kernel)) (T (.initialized RX4) (by decide +kernel)) ⟨by decide +kernel, by decide +kernel, by decide +kernel⟩ ⟨by rw [hRf]; exact Nat.le_of_ble_eq_true rfl, by rw [hRl]; exact Nat.le_of_ble_eq_true rfl⟩, rfl, T (.instanceMethod yX4_init) (by decide +kernel)⟩) ⟨fun a U g mk q => by obtain ⟨q0, q1, qP, qW, qD⟩ := q; exact ⟨q0, q1, qP, lp_Wd_call qW, qD⟩, fun U hU hW => ⟨rfl, by rw [hU], by rw [hU]; exact hPc, lp_Wd_move hW hWd, hDc.weaken (fun _ _ _ _ => trivial)⟩⟩ rfl rfl hl.1 rfl (lv_room (Nat.le_of_ble_eq_true rfl)) dX6_init_9 ⟨by rw [hRc]; exact Nat.le_of_ble_eq_true rfl, by rw [hRs]; exact Nat.le_of_ble_eq_true rfl⟩) hS (fun q _ h => hFc q h) hFc (fun Q0 t H1 locs ht hvm hw hB hz1 hk1 hS => ?_)
  obtain ⟨hP1, hW1, hD1⟩ := hB
  rw [ht] at hP1
  unfold wX4 at hP1 hD1
  obtain ⟨hP, hD⟩ := va_join (wr := [(h0, .inr (6, [.null, .null, .null, .null, .null, .null]))]) (w1 := [(a5_4, .inr (4, [.ref (Q0 0), .ref (Q0 1), .ref (Q0 2), .int 0])), ((Q0 0), lp_z cI 1200), ((Q0 1), lp_z cI 1200), ((Q0 2), lp_z cI 61)]) hP hD [1] [0] rfl rfl (by decide) (by decide) hk1 hFc hP1 hD1
  generalize H1 = H at hP hS ⊢
  refine W.widen (k := 4) (n := 2465) (by omega) (by omega) ?_
  have hP : va_P D vwCl [(h0, .inr (6, [.null, .null, .null, .null, .null, .null])), (a5_4, .inr (4, [.ref (Q0 0), .ref (Q0 1), .ref (Q0 2), .int 0])), ((Q0 0), lp_z cI 1200), ((Q0 1), lp_z cI 1200), ((Q0 2), lp_z cI 61)] H := hP
  have hD : va_D A [(h0, .inr (6, [.null, .null, .null, .null, .null, .null])), (a5_4, .inr (4, [.ref (Q0 0), .ref (Q0 1), .ref (Q0 2), .int 0])), ((Q0 0), lp_z cI 1200), ((Q0 1), lp_z cI 1200), ((Q0 2), lp_z cI 61)] := hD
  refine va_putF (D := D) (ci := 6) (v := .ref a5_4) (ty := .object "LoadPress$Visits") (C := RX6) (T := TX6) (N := 6) hx hb T lp_u6 tyX6 tyX6_ok nmX6 hown hWd.1 hP hD hS 0 rfl rfl 0 (by decide) (T (.fieldLink RX6 12 "LoadPress" "log" "LLoadPress$Visits;") (by decide +kernel)) (fun _ h9 => h9) rfl hin rfl (by decide +kernel) rfl rfl (Nat.le_of_ble_eq_true rfl) dX6_init_12 (fun H locs hP hD hS => ?_)
  have hP : va_P D vwCl [(h0, .inr (6, [.ref a5_4, .null, .null, .null, .null, .null])), (a5_4, .inr (4, [.ref (Q0 0), .ref (Q0 1), .ref (Q0 2), .int 0])), ((Q0 0), lp_z cI 1200), ((Q0 1), lp_z cI 1200), ((Q0 2), lp_z cI 61)] H := hP
  have hD : va_D A [(h0, .inr (6, [.ref a5_4, .null, .null, .null, .null, .null])), (a5_4, .inr (4, [.ref (Q0 0), .ref (Q0 1), .ref (Q0 2), .int 0])), ((Q0 0), lp_z cI 1200), ((Q0 1), lp_z cI 1200), ((Q0 2), lp_z cI 61)] := hD
  refine lv_aload_n hx hb dX6_init_15 rfl (lv_at hl 0 rfl) ?_
  refine va_new (ci := 2) (fs := [.null, .null, .null]) (C := RX2) (T := TX2) (N := 3) hx hb T lp_u2 tyX2 tyX2_ok hown (T (.classLink RX6 16 RX2) (by decide +kernel)) (T (.instantiable RX2 3) (by decide +kernel)) (T (.initialized RX2) (by decide +kernel)) hWd.1 hP hD hS hA rfl (fun j hj => by rcases (show j = 0 ∨ j = 1 ∨ j = 2 by omega) with rfl | rfl | rfl <;> rfl) (by rw [hRc]; exact Nat.le_of_ble_eq_true rfl) (by rw [hRs]; exact Nat.le_of_ble_eq_true rfl) dX6_init_16 (fun a16_9 H hP hD hS => ?_)
  refine W.widen (k := 5) (n := 2468) (by omega) (by omega) ?_
  have hP : va_P D vwCl [(h0, .inr (6, [.ref a5_4, .null, .null, .null, .null, .null])), (a5_4, .inr (4, [.ref (Q0 0), .ref (Q0 1), .ref (Q0 2), .int 0])), ((Q0 0), lp_z cI 1200), ((Q0 1), lp_z cI 1200), ((Q0 2), lp_z cI 61), (a16_9, .inr (2, [.null, .null, .null]))] H := hP
  have hD : va_D A [(h0, .inr (6, [.ref a5_4, .null, .null, .null, .null, .null])), (a5_4, .inr (4, [.ref (Q0 0), .ref (Q0 1), .ref (Q0 2), .int 0])), ((Q0 0), lp_z cI 1200), ((Q0 1), lp_z cI 1200), ((Q0 2), lp_z cI 61), (a16_9, .inr (2, [.null, .null, .null]))] := hD
  refine lv_dup hx hb dX6_init_19 rfl ?_
  have hPc := hP.sub (ws' := [(a16_9, .inr (2, [.null, .null, .null]))]) [5] rfl
  have hDc := hD.sub (ws' := [(a16_9, .inr (2, [.null, .null, .null]))]) [5] (by decide) rfl
  have hFc := va_free (wc := [(a16_9, .inr (2, [.null, .null, .null]))]) hD hS hA [5] rfl
  refine va_callv (va_runIN (As := []) (rest := [.ref a16_9, .ref h0]) ⟨hx, hb, hml, hown, hts⟩ (ci_X2 l D cI cD a16_9 H.size) (⟨va_cnB 0 hts (lp_good (w0 := Cond.code yX6_init cX6_init 1 none) (y := yX2_init) (bytes := cX2_init) (nL := 1) (ret := none) (by decide +kernel)) rfl rfl rfl (hWd.2 (.methodLinkNest RX6 18 yX2_init "LoadPress") (by decide +kernel)) (T (.initialized RX2) (by decide +kernel)) ⟨by decide +kernel, by decide +kernel, by decide +kernel⟩ ⟨by rw [hRf]; exact Nat.le_of_ble_eq_true rfl, by rw [hRl]; exact Nat.le_of_ble_eq_true rfl⟩, rfl, T (.instanceMethod yX2_init) (by decide +kernel)⟩) ⟨fun a U g mk q => by obtain ⟨q0, q1, qP, qW, qD⟩ := q; exact ⟨q0, q1, qP, lp_Wc_call qW, qD⟩, fun U hU hW => ⟨rfl, by rw [hU], by rw [hU]; exact hPc, lp_Wc_move hW ⟨hWd, hAO⟩, hDc.weaken (fun _ _ _ _ => trivial)⟩⟩ rfl rfl hl.1 rfl (lv_room (Nat.le_of_ble_eq_true rfl)) dX6_init_20 ⟨by rw [hRc]; exact Nat.le_of_ble_eq_true rfl, by rw [hRs]; exact Nat.le_of_ble_eq_true rfl⟩) hS (fun q _ h => hFc q h) hFc (fun Q1 t H1 locs ht hvm hw hB hz1 hk1 hS => ?_)
  obtain ⟨hP1, hW1, hD1⟩ := hB
  rw [ht] at hP1
  unfold wX2 at hP1 hD1
  obtain ⟨hP, hD⟩ := va_join (wr := [(h0, .inr (6, [.ref a5_4, .null, .null, .null, .null, .null])), (a5_4, .inr (4, [.ref (Q0 0), .ref (Q0 1), .ref (Q0 2), .int 0])), ((Q0 0), lp_z cI 1200), ((Q0 1), lp_z cI 1200), ((Q0 2), lp_z cI 61)]) (w1 := [(a16_9, .inr (2, [.ref (Q1 0), .ref (Q1 1), .ref (Q1 2)])), ((Q1 0), lp_z cI 121), ((Q1 1), lp_z cI 121), ((Q1 2), .inl (cD, 121, .inr (.inr (.inr (.inr (fun _ => none))))))]) hP hD [5] [0, 1, 2, 3, 4] rfl rfl (by decide) (by decide) hk1 hFc hP1 hD1
  generalize H1 = H at hP hS ⊢
  refine W.widen (k := 8) (n := 2831) (by omega) (by omega) ?_
  have hP : va_P D vwCl [(h0, .inr (6, [.ref a5_4, .null, .null, .null, .null, .null])), (a5_4, .inr (4, [.ref (Q0 0), .ref (Q0 1), .ref (Q0 2), .int 0])), ((Q0 0), lp_z cI 1200), ((Q0 1), lp_z cI 1200), ((Q0 2), lp_z cI 61), (a16_9, .inr (2, [.ref (Q1 0), .ref (Q1 1), .ref (Q1 2)])), ((Q1 0), lp_z cI 121), ((Q1 1), lp_z cI 121), ((Q1 2), .inl (cD, 121, .inr (.inr (.inr (.inr (fun _ => none))))))] H := hP
  have hD : va_D A [(h0, .inr (6, [.ref a5_4, .null, .null, .null, .null, .null])), (a5_4, .inr (4, [.ref (Q0 0), .ref (Q0 1), .ref (Q0 2), .int 0])), ((Q0 0), lp_z cI 1200), ((Q0 1), lp_z cI 1200), ((Q0 2), lp_z cI 61), (a16_9, .inr (2, [.ref (Q1 0), .ref (Q1 1), .ref (Q1 2)])), ((Q1 0), lp_z cI 121), ((Q1 1), lp_z cI 121), ((Q1 2), .inl (cD, 121, .inr (.inr (.inr (.inr (fun _ => none))))))] := hD
  refine va_putF (D := D) (ci := 6) (v := .ref a16_9) (ty := .object "LoadPress$Machine") (C := RX6) (T := TX6) (N := 6) hx hb T lp_u6 tyX6 tyX6_ok nmX6 hown hWd.1 hP hD hS 0 rfl rfl 1 (by decide) (T (.fieldLink RX6 19 "LoadPress" "machine" "LLoadPress$Machine;") (by decide +kernel)) (fun _ h9 => h9) rfl hin rfl (by decide +kernel) rfl rfl (Nat.le_of_ble_eq_true rfl) dX6_init_23 (fun H locs hP hD hS => ?_)
  have hP : va_P D vwCl [(h0, .inr (6, [.ref a5_4, .ref a16_9, .null, .null, .null, .null])), (a5_4, .inr (4, [.ref (Q0 0), .ref (Q0 1), .ref (Q0 2), .int 0])), ((Q0 0), lp_z cI 1200), ((Q0 1), lp_z cI 1200), ((Q0 2), lp_z cI 61), (a16_9, .inr (2, [.ref (Q1 0), .ref (Q1 1), .ref (Q1 2)])), ((Q1 0), lp_z cI 121), ((Q1 1), lp_z cI 121), ((Q1 2), .inl (cD, 121, .inr (.inr (.inr (.inr (fun _ => none))))))] H := hP
  have hD : va_D A [(h0, .inr (6, [.ref a5_4, .ref a16_9, .null, .null, .null, .null])), (a5_4, .inr (4, [.ref (Q0 0), .ref (Q0 1), .ref (Q0 2), .int 0])), ((Q0 0), lp_z cI 1200), ((Q0 1), lp_z cI 1200), ((Q0 2), lp_z cI 61), (a16_9, .inr (2, [.ref (Q1 0), .ref (Q1 1), .ref (Q1 2)])), ((Q1 0), lp_z cI 121), ((Q1 1), lp_z cI 121), ((Q1 2), .inl (cD, 121, .inr (.inr (.inr (.inr (fun _ => none))))))] := hD
  refine lv_aload_n hx hb dX6_init_26 rfl (lv_at hl 0 rfl) ?_
  refine va_new (ci := 0) (fs := [.null, .null, .null, .null, .int 0]) (C := RX0) (T := TX0) (N := 5) hx hb T lp_u0 tyX0 tyX0_ok hown (T (.classLink RX6 23 RX0) (by decide +kernel)) (T (.instantiable RX0 5) (by decide +kernel)) (T (.initialized RX0) (by decide +kernel)) hWd.1 hP hD hS hA rfl (fun j hj => by rcases (show j = 0 ∨ j = 1 ∨ j = 2 ∨ j = 3 ∨ j = 4 by omega) with rfl | rfl | rfl | rfl | rfl <;> rfl) (by rw [hRc]; exact Nat.le_of_ble_eq_true rfl) (by rw [hRs]; exact Nat.le_of_ble_eq_true rfl) dX6_init_27 (fun a27_14 H hP hD hS => ?_)
  refine W.widen (k := 9) (n := 2836) (by omega) (by omega) ?_
  have hP : va_P D vwCl [(h0, .inr (6, [.ref a5_4, .ref a16_9, .null, .null, .null, .null])), (a5_4, .inr (4, [.ref (Q0 0), .ref (Q0 1), .ref (Q0 2), .int 0])), ((Q0 0), lp_z cI 1200), ((Q0 1), lp_z cI 1200), ((Q0 2), lp_z cI 61), (a16_9, .inr (2, [.ref (Q1 0), .ref (Q1 1), .ref (Q1 2)])), ((Q1 0), lp_z cI 121), ((Q1 1), lp_z cI 121), ((Q1 2), .inl (cD, 121, .inr (.inr (.inr (.inr (fun _ => none)))))), (a27_14, .inr (0, [.null, .null, .null, .null, .int 0]))] H := hP
  have hD : va_D A [(h0, .inr (6, [.ref a5_4, .ref a16_9, .null, .null, .null, .null])), (a5_4, .inr (4, [.ref (Q0 0), .ref (Q0 1), .ref (Q0 2), .int 0])), ((Q0 0), lp_z cI 1200), ((Q0 1), lp_z cI 1200), ((Q0 2), lp_z cI 61), (a16_9, .inr (2, [.ref (Q1 0), .ref (Q1 1), .ref (Q1 2)])), ((Q1 0), lp_z cI 121), ((Q1 1), lp_z cI 121), ((Q1 2), .inl (cD, 121, .inr (.inr (.inr (.inr (fun _ => none)))))), (a27_14, .inr (0, [.null, .null, .null, .null, .int 0]))] := hD
  refine lv_dup hx hb dX6_init_30 rfl ?_
  have hPc := hP.sub (ws' := [(a27_14, .inr (0, [.null, .null, .null, .null, .int 0]))]) [9] rfl
  have hDc := hD.sub (ws' := [(a27_14, .inr (0, [.null, .null, .null, .null, .int 0]))]) [9] (by decide) rfl
  have hFc := va_free (wc := [(a27_14, .inr (0, [.null, .null, .null, .null, .int 0]))]) hD hS hA [9] rfl
  refine va_callv (va_runIN (As := []) (rest := [.ref a27_14, .ref h0]) ⟨hx, hb, hml, hown, hts⟩ (ci_X0 l D cI cD a27_14 H.size) (⟨va_cnB 0 hts (lp_good (w0 := Cond.code yX6_init cX6_init 1 none) (y := yX0_init) (bytes := cX0_init) (nL := 1) (ret := none) (by decide +kernel)) rfl rfl rfl (hWd.2 (.methodLinkNest RX6 25 yX0_init "LoadPress") (by decide +kernel)) (T (.initialized RX0) (by decide +kernel)) ⟨by decide +kernel, by decide +kernel, by decide +kernel⟩ ⟨by rw [hRf]; exact Nat.le_of_ble_eq_true rfl, by rw [hRl]; exact Nat.le_of_ble_eq_true rfl⟩, rfl, T (.instanceMethod yX0_init) (by decide +kernel)⟩) ⟨fun a U g mk q => by obtain ⟨q0, q1, qP, qW, qD⟩ := q; exact ⟨q0, q1, qP, lp_Wd_call qW, qD⟩, fun U hU hW => ⟨rfl, by rw [hU], by rw [hU]; exact hPc, lp_Wd_move hW hWd, hDc.weaken (fun _ _ _ _ => trivial)⟩⟩ rfl rfl hl.1 rfl (lv_room (Nat.le_of_ble_eq_true rfl)) dX6_init_31 ⟨by rw [hRc]; exact Nat.le_of_ble_eq_true rfl, by rw [hRs]; exact Nat.le_of_ble_eq_true rfl⟩) hS (fun q _ h => hFc q h) hFc (fun Q2 t H1 locs ht hvm hw hB hz1 hk1 hS => ?_)
  obtain ⟨hP1, hW1, hD1⟩ := hB
  rw [ht] at hP1
  unfold wX0 at hP1 hD1
  obtain ⟨hP, hD⟩ := va_join (wr := [(h0, .inr (6, [.ref a5_4, .ref a16_9, .null, .null, .null, .null])), (a5_4, .inr (4, [.ref (Q0 0), .ref (Q0 1), .ref (Q0 2), .int 0])), ((Q0 0), lp_z cI 1200), ((Q0 1), lp_z cI 1200), ((Q0 2), lp_z cI 61), (a16_9, .inr (2, [.ref (Q1 0), .ref (Q1 1), .ref (Q1 2)])), ((Q1 0), lp_z cI 121), ((Q1 1), lp_z cI 121), ((Q1 2), .inl (cD, 121, .inr (.inr (.inr (.inr (fun _ => none))))))]) (w1 := [(a27_14, .inr (0, [.ref (Q2 0), .ref (Q2 1), .ref (Q2 2), .ref (Q2 3), .int 0])), ((Q2 0), lp_z cI 1200), ((Q2 1), lp_z cI 1200), ((Q2 2), lp_z cI 11), ((Q2 3), lp_z cI 11)]) hP hD [9] [0, 1, 2, 3, 4, 5, 6, 7, 8] rfl rfl (by decide) (by decide) hk1 hFc hP1 hD1
  generalize H1 = H at hP hS ⊢
  refine W.widen (k := 13) (n := 5258) (by omega) (by omega) ?_
  have hP : va_P D vwCl [(h0, .inr (6, [.ref a5_4, .ref a16_9, .null, .null, .null, .null])), (a5_4, .inr (4, [.ref (Q0 0), .ref (Q0 1), .ref (Q0 2), .int 0])), ((Q0 0), lp_z cI 1200), ((Q0 1), lp_z cI 1200), ((Q0 2), lp_z cI 61), (a16_9, .inr (2, [.ref (Q1 0), .ref (Q1 1), .ref (Q1 2)])), ((Q1 0), lp_z cI 121), ((Q1 1), lp_z cI 121), ((Q1 2), .inl (cD, 121, .inr (.inr (.inr (.inr (fun _ => none)))))), (a27_14, .inr (0, [.ref (Q2 0), .ref (Q2 1), .ref (Q2 2), .ref (Q2 3), .int 0])), ((Q2 0), lp_z cI 1200), ((Q2 1), lp_z cI 1200), ((Q2 2), lp_z cI 11), ((Q2 3), lp_z cI 11)] H := hP
  have hD : va_D A [(h0, .inr (6, [.ref a5_4, .ref a16_9, .null, .null, .null, .null])), (a5_4, .inr (4, [.ref (Q0 0), .ref (Q0 1), .ref (Q0 2), .int 0])), ((Q0 0), lp_z cI 1200), ((Q0 1), lp_z cI 1200), ((Q0 2), lp_z cI 61), (a16_9, .inr (2, [.ref (Q1 0), .ref (Q1 1), .ref (Q1 2)])), ((Q1 0), lp_z cI 121), ((Q1 1), lp_z cI 121), ((Q1 2), .inl (cD, 121, .inr (.inr (.inr (.inr (fun _ => none)))))), (a27_14, .inr (0, [.ref (Q2 0), .ref (Q2 1), .ref (Q2 2), .ref (Q2 3), .int 0])), ((Q2 0), lp_z cI 1200), ((Q2 1), lp_z cI 1200), ((Q2 2), lp_z cI 11), ((Q2 3), lp_z cI 11)] := hD
  refine va_putF (D := D) (ci := 6) (v := .ref a27_14) (ty := .object "LoadPress$Contexts") (C := RX6) (T := TX6) (N := 6) hx hb T lp_u6 tyX6 tyX6_ok nmX6 hown hWd.1 hP hD hS 0 rfl rfl 2 (by decide) (T (.fieldLink RX6 26 "LoadPress" "rows" "LLoadPress$Contexts;") (by decide +kernel)) (fun _ h9 => h9) rfl hin rfl (by decide +kernel) rfl rfl (Nat.le_of_ble_eq_true rfl) dX6_init_34 (fun H locs hP hD hS => ?_)
  have hP : va_P D vwCl [(h0, .inr (6, [.ref a5_4, .ref a16_9, .ref a27_14, .null, .null, .null])), (a5_4, .inr (4, [.ref (Q0 0), .ref (Q0 1), .ref (Q0 2), .int 0])), ((Q0 0), lp_z cI 1200), ((Q0 1), lp_z cI 1200), ((Q0 2), lp_z cI 61), (a16_9, .inr (2, [.ref (Q1 0), .ref (Q1 1), .ref (Q1 2)])), ((Q1 0), lp_z cI 121), ((Q1 1), lp_z cI 121), ((Q1 2), .inl (cD, 121, .inr (.inr (.inr (.inr (fun _ => none)))))), (a27_14, .inr (0, [.ref (Q2 0), .ref (Q2 1), .ref (Q2 2), .ref (Q2 3), .int 0])), ((Q2 0), lp_z cI 1200), ((Q2 1), lp_z cI 1200), ((Q2 2), lp_z cI 11), ((Q2 3), lp_z cI 11)] H := hP
  have hD : va_D A [(h0, .inr (6, [.ref a5_4, .ref a16_9, .ref a27_14, .null, .null, .null])), (a5_4, .inr (4, [.ref (Q0 0), .ref (Q0 1), .ref (Q0 2), .int 0])), ((Q0 0), lp_z cI 1200), ((Q0 1), lp_z cI 1200), ((Q0 2), lp_z cI 61), (a16_9, .inr (2, [.ref (Q1 0), .ref (Q1 1), .ref (Q1 2)])), ((Q1 0), lp_z cI 121), ((Q1 1), lp_z cI 121), ((Q1 2), .inl (cD, 121, .inr (.inr (.inr (.inr (fun _ => none)))))), (a27_14, .inr (0, [.ref (Q2 0), .ref (Q2 1), .ref (Q2 2), .ref (Q2 3), .int 0])), ((Q2 0), lp_z cI 1200), ((Q2 1), lp_z cI 1200), ((Q2 2), lp_z cI 11), ((Q2 3), lp_z cI 11)] := hD
  refine lv_aload_n hx hb dX6_init_37 rfl (lv_at hl 0 rfl) ?_
  refine lv_bipush (v := 10) hx hb dX6_init_38 (by decide) ?_
  refine lp_newa (N' := 10) hx hb T hWd hP hD hS hA (by decide) (by decide) (by omega) (by rw [hRc]; exact Nat.le_of_ble_eq_true rfl) (by rw [hRs]; exact Nat.le_of_ble_eq_true rfl) dX6_init_40 (fun a40_20 H hP hD hS => ?_)
  refine W.widen (k := 14) (n := 5268) (by omega) (by omega) ?_
  have hP : va_P D vwCl [(h0, .inr (6, [.ref a5_4, .ref a16_9, .ref a27_14, .null, .null, .null])), (a5_4, .inr (4, [.ref (Q0 0), .ref (Q0 1), .ref (Q0 2), .int 0])), ((Q0 0), lp_z cI 1200), ((Q0 1), lp_z cI 1200), ((Q0 2), lp_z cI 61), (a16_9, .inr (2, [.ref (Q1 0), .ref (Q1 1), .ref (Q1 2)])), ((Q1 0), lp_z cI 121), ((Q1 1), lp_z cI 121), ((Q1 2), .inl (cD, 121, .inr (.inr (.inr (.inr (fun _ => none)))))), (a27_14, .inr (0, [.ref (Q2 0), .ref (Q2 1), .ref (Q2 2), .ref (Q2 3), .int 0])), ((Q2 0), lp_z cI 1200), ((Q2 1), lp_z cI 1200), ((Q2 2), lp_z cI 11), ((Q2 3), lp_z cI 11), (a40_20, lp_z cI 10)] H := hP
  have hD : va_D A [(h0, .inr (6, [.ref a5_4, .ref a16_9, .ref a27_14, .null, .null, .null])), (a5_4, .inr (4, [.ref (Q0 0), .ref (Q0 1), .ref (Q0 2), .int 0])), ((Q0 0), lp_z cI 1200), ((Q0 1), lp_z cI 1200), ((Q0 2), lp_z cI 61), (a16_9, .inr (2, [.ref (Q1 0), .ref (Q1 1), .ref (Q1 2)])), ((Q1 0), lp_z cI 121), ((Q1 1), lp_z cI 121), ((Q1 2), .inl (cD, 121, .inr (.inr (.inr (.inr (fun _ => none)))))), (a27_14, .inr (0, [.ref (Q2 0), .ref (Q2 1), .ref (Q2 2), .ref (Q2 3), .int 0])), ((Q2 0), lp_z cI 1200), ((Q2 1), lp_z cI 1200), ((Q2 2), lp_z cI 11), ((Q2 3), lp_z cI 11), (a40_20, lp_z cI 10)] := hD
  refine va_putF (D := D) (ci := 6) (v := .ref a40_20) (ty := .array .int) (C := RX6) (T := TX6) (N := 6) hx hb T lp_u6 tyX6 tyX6_ok nmX6 hown hWd.1 hP hD hS 0 rfl rfl 3 (by decide) (T (.fieldLink RX6 30 "LoadPress" "costs" "[I") (by decide +kernel)) (fun _ h9 => h9) rfl hin rfl (by decide +kernel) rfl rfl (Nat.le_of_ble_eq_true rfl) dX6_init_42 (fun H locs hP hD hS => ?_)
  have hP : va_P D vwCl [(h0, .inr (6, [.ref a5_4, .ref a16_9, .ref a27_14, .ref a40_20, .null, .null])), (a5_4, .inr (4, [.ref (Q0 0), .ref (Q0 1), .ref (Q0 2), .int 0])), ((Q0 0), lp_z cI 1200), ((Q0 1), lp_z cI 1200), ((Q0 2), lp_z cI 61), (a16_9, .inr (2, [.ref (Q1 0), .ref (Q1 1), .ref (Q1 2)])), ((Q1 0), lp_z cI 121), ((Q1 1), lp_z cI 121), ((Q1 2), .inl (cD, 121, .inr (.inr (.inr (.inr (fun _ => none)))))), (a27_14, .inr (0, [.ref (Q2 0), .ref (Q2 1), .ref (Q2 2), .ref (Q2 3), .int 0])), ((Q2 0), lp_z cI 1200), ((Q2 1), lp_z cI 1200), ((Q2 2), lp_z cI 11), ((Q2 3), lp_z cI 11), (a40_20, lp_z cI 10)] H := hP
  have hD : va_D A [(h0, .inr (6, [.ref a5_4, .ref a16_9, .ref a27_14, .ref a40_20, .null, .null])), (a5_4, .inr (4, [.ref (Q0 0), .ref (Q0 1), .ref (Q0 2), .int 0])), ((Q0 0), lp_z cI 1200), ((Q0 1), lp_z cI 1200), ((Q0 2), lp_z cI 61), (a16_9, .inr (2, [.ref (Q1 0), .ref (Q1 1), .ref (Q1 2)])), ((Q1 0), lp_z cI 121), ((Q1 1), lp_z cI 121), ((Q1 2), .inl (cD, 121, .inr (.inr (.inr (.inr (fun _ => none)))))), (a27_14, .inr (0, [.ref (Q2 0), .ref (Q2 1), .ref (Q2 2), .ref (Q2 3), .int 0])), ((Q2 0), lp_z cI 1200), ((Q2 1), lp_z cI 1200), ((Q2 2), lp_z cI 11), ((Q2 3), lp_z cI 11), (a40_20, lp_z cI 10)] := hD
  refine lv_aload_n hx hb dX6_init_45 rfl (lv_at hl 0 rfl) ?_
  refine va_get (D := D) (ci := 6) (v := .ref a40_20) (C := RX6) (T := TX6) (N := 6) hx hb T lp_u6 hown hWd.1 hP 0 rfl rfl 3 (by decide) (T (.fieldLink RX6 30 "LoadPress" "costs" "[I") (by decide +kernel)) (fun _ h9 => h9) rfl dX6_init_46 ?_
  refine lv_iconst (v := 1) hx hb dX6_init_49 (by decide) ?_
  have hPc := hP.sub (ws' := [(a40_20, lp_z cI 10)]) [14] rfl
  have hDc := hD.sub (ws' := [(a40_20, lp_z cI 10)]) [14] (by decide) rfl
  have hFc := va_free (wc := [(a40_20, lp_z cI 10)]) hD hS hA [14] rfl
  refine va_callv (va_runS (As := [.ref a40_20, .int 1]) (rest := []) ⟨hx, hb, hml, hown, hts⟩ (ci_fill l D cI cD a40_20 H.size 10 (by omega) 1 (fun _ => 0)) ⟨callB_of 2 hts (lp_good (w0 := Cond.code yX6_init cX6_init 1 none) (y := yJ7_fill_53178) (bytes := cJ7_fill_53178) (nL := 4) (ret := none) (by decide +kernel)) rfl rfl rfl (T (.initialized RJ7) (by decide +kernel)) (T (.methodLink RX6 34 yJ7_fill_53178) (by decide +kernel)) ⟨by decide +kernel, by decide +kernel, by decide +kernel⟩ ⟨by rw [hRf]; exact Nat.le_of_ble_eq_true rfl, by rw [hRl]; exact Nat.le_of_ble_eq_true rfl⟩, T (.static yJ7_fill_53178) (by decide +kernel)⟩ ⟨fun a U g mk q => by obtain ⟨q0, q1, qP, qW, qD⟩ := q; exact ⟨q0, q1, qP, lp_Wd_call qW, qD⟩, fun U hU hW => ⟨rfl, by rw [hU], by rw [hU]; exact hPc, lp_Wd_move hW hWd, hDc.weaken (fun _ _ _ _ => trivial)⟩⟩ rfl rfl hl.1 rfl (lv_room (Nat.le_of_ble_eq_true rfl)) dX6_init_50 ⟨by rw [hRc]; exact Nat.le_of_ble_eq_true rfl, by rw [hRs]; exact Nat.le_of_ble_eq_true rfl⟩) hS (fun q _ h => hFc q h) hFc (fun Q3 t H1 locs ht hvm hw hB hz1 hk1 hS => ?_)
  obtain ⟨hP1, hW1, hD1⟩ := hB
  rw [ht] at hP1
  obtain ⟨hP, hD⟩ := va_join (wr := [(h0, .inr (6, [.ref a5_4, .ref a16_9, .ref a27_14, .ref a40_20, .null, .null])), (a5_4, .inr (4, [.ref (Q0 0), .ref (Q0 1), .ref (Q0 2), .int 0])), ((Q0 0), lp_z cI 1200), ((Q0 1), lp_z cI 1200), ((Q0 2), lp_z cI 61), (a16_9, .inr (2, [.ref (Q1 0), .ref (Q1 1), .ref (Q1 2)])), ((Q1 0), lp_z cI 121), ((Q1 1), lp_z cI 121), ((Q1 2), .inl (cD, 121, .inr (.inr (.inr (.inr (fun _ => none)))))), (a27_14, .inr (0, [.ref (Q2 0), .ref (Q2 1), .ref (Q2 2), .ref (Q2 3), .int 0])), ((Q2 0), lp_z cI 1200), ((Q2 1), lp_z cI 1200), ((Q2 2), lp_z cI 11), ((Q2 3), lp_z cI 11)]) (w1 := [(a40_20, .inl (cI, 10, .inl (lp_ff (fun _ => 0) 1 10)))]) hP hD [14] [0, 1, 2, 3, 4, 5, 6, 7, 8, 9, 10, 11, 12, 13] rfl rfl (by decide) (by decide) hk1 hFc hP1 hD1
  generalize H1 = H at hP hS ⊢
  have hP : va_P D vwCl [(h0, .inr (6, [.ref a5_4, .ref a16_9, .ref a27_14, .ref a40_20, .null, .null])), (a5_4, .inr (4, [.ref (Q0 0), .ref (Q0 1), .ref (Q0 2), .int 0])), ((Q0 0), lp_z cI 1200), ((Q0 1), lp_z cI 1200), ((Q0 2), lp_z cI 61), (a16_9, .inr (2, [.ref (Q1 0), .ref (Q1 1), .ref (Q1 2)])), ((Q1 0), lp_z cI 121), ((Q1 1), lp_z cI 121), ((Q1 2), .inl (cD, 121, .inr (.inr (.inr (.inr (fun _ => none)))))), (a27_14, .inr (0, [.ref (Q2 0), .ref (Q2 1), .ref (Q2 2), .ref (Q2 3), .int 0])), ((Q2 0), lp_z cI 1200), ((Q2 1), lp_z cI 1200), ((Q2 2), lp_z cI 11), ((Q2 3), lp_z cI 11), (a40_20, .inl (cI, 10, .inl (lp_ff (fun _ => 0) 1 10)))] H := hP
  have hD : va_D A [(h0, .inr (6, [.ref a5_4, .ref a16_9, .ref a27_14, .ref a40_20, .null, .null])), (a5_4, .inr (4, [.ref (Q0 0), .ref (Q0 1), .ref (Q0 2), .int 0])), ((Q0 0), lp_z cI 1200), ((Q0 1), lp_z cI 1200), ((Q0 2), lp_z cI 61), (a16_9, .inr (2, [.ref (Q1 0), .ref (Q1 1), .ref (Q1 2)])), ((Q1 0), lp_z cI 121), ((Q1 1), lp_z cI 121), ((Q1 2), .inl (cD, 121, .inr (.inr (.inr (.inr (fun _ => none)))))), (a27_14, .inr (0, [.ref (Q2 0), .ref (Q2 1), .ref (Q2 2), .ref (Q2 3), .int 0])), ((Q2 0), lp_z cI 1200), ((Q2 1), lp_z cI 1200), ((Q2 2), lp_z cI 11), ((Q2 3), lp_z cI 11), (a40_20, .inl (cI, 10, .inl (lp_ff (fun _ => 0) 1 10)))] := hD
  refine lv_aload_n hx hb dX6_init_53 rfl (lv_at hl 0 rfl) ?_
  refine va_new (ci := 5) (fs := [.null]) (C := RX5) (T := TX5) (N := 1) hx hb T lp_u5 tyX5 tyX5_ok hown (T (.classLink RX6 40 RX5) (by decide +kernel)) (T (.instantiable RX5 1) (by decide +kernel)) (T (.initialized RX5) (by decide +kernel)) hWd.1 hP hD hS hA rfl (fun j hj => by rcases (show j = 0 by omega) with rfl <;> rfl) (by rw [hRc]; exact Nat.le_of_ble_eq_true rfl) (by rw [hRs]; exact Nat.le_of_ble_eq_true rfl) dX6_init_54 (fun a54_27 H hP hD hS => ?_)
  refine W.widen (k := 15) (n := 5269) (by omega) (by omega) ?_
  have hP : va_P D vwCl [(h0, .inr (6, [.ref a5_4, .ref a16_9, .ref a27_14, .ref a40_20, .null, .null])), (a5_4, .inr (4, [.ref (Q0 0), .ref (Q0 1), .ref (Q0 2), .int 0])), ((Q0 0), lp_z cI 1200), ((Q0 1), lp_z cI 1200), ((Q0 2), lp_z cI 61), (a16_9, .inr (2, [.ref (Q1 0), .ref (Q1 1), .ref (Q1 2)])), ((Q1 0), lp_z cI 121), ((Q1 1), lp_z cI 121), ((Q1 2), .inl (cD, 121, .inr (.inr (.inr (.inr (fun _ => none)))))), (a27_14, .inr (0, [.ref (Q2 0), .ref (Q2 1), .ref (Q2 2), .ref (Q2 3), .int 0])), ((Q2 0), lp_z cI 1200), ((Q2 1), lp_z cI 1200), ((Q2 2), lp_z cI 11), ((Q2 3), lp_z cI 11), (a40_20, .inl (cI, 10, .inl (lp_ff (fun _ => 0) 1 10))), (a54_27, .inr (5, [.null]))] H := hP
  have hD : va_D A [(h0, .inr (6, [.ref a5_4, .ref a16_9, .ref a27_14, .ref a40_20, .null, .null])), (a5_4, .inr (4, [.ref (Q0 0), .ref (Q0 1), .ref (Q0 2), .int 0])), ((Q0 0), lp_z cI 1200), ((Q0 1), lp_z cI 1200), ((Q0 2), lp_z cI 61), (a16_9, .inr (2, [.ref (Q1 0), .ref (Q1 1), .ref (Q1 2)])), ((Q1 0), lp_z cI 121), ((Q1 1), lp_z cI 121), ((Q1 2), .inl (cD, 121, .inr (.inr (.inr (.inr (fun _ => none)))))), (a27_14, .inr (0, [.ref (Q2 0), .ref (Q2 1), .ref (Q2 2), .ref (Q2 3), .int 0])), ((Q2 0), lp_z cI 1200), ((Q2 1), lp_z cI 1200), ((Q2 2), lp_z cI 11), ((Q2 3), lp_z cI 11), (a40_20, .inl (cI, 10, .inl (lp_ff (fun _ => 0) 1 10))), (a54_27, .inr (5, [.null]))] := hD
  refine lv_dup hx hb dX6_init_57 rfl ?_
  have hPc := hP.sub (ws' := [(a54_27, .inr (5, [.null]))]) [15] rfl
  have hDc := hD.sub (ws' := [(a54_27, .inr (5, [.null]))]) [15] (by decide) rfl
  have hFc := va_free (wc := [(a54_27, .inr (5, [.null]))]) hD hS hA [15] rfl
  refine va_callv (va_runI (As := []) (rest := [.ref a54_27, .ref h0]) ⟨hx, hb, hml, hown, hts⟩ (ci_X5 l D cI cD a54_27 H.size) (cwI 0 hts (lp_good (w0 := Cond.code yX6_init cX6_init 1 none) (y := yX5_init) (bytes := cX5_init) (nL := 2) (ret := none) (by decide +kernel)) rfl rfl rfl (T (.initialized RX5) (by decide +kernel)) (T (.methodLink RX6 42 yX5_init) (by decide +kernel)) (T (.instanceMethod yX5_init) (by decide +kernel)) rfl (by decide +kernel) ⟨by rw [hRf]; exact Nat.le_of_ble_eq_true rfl, by rw [hRl]; exact Nat.le_of_ble_eq_true rfl⟩) ⟨fun a U g mk q => by obtain ⟨q0, q1, qP, qW, qD⟩ := q; exact ⟨q0, q1, qP, lp_Wc_call qW, qD⟩, fun U hU hW => ⟨rfl, by rw [hU], by rw [hU]; exact hPc, lp_Wc_move hW ⟨hWd, hAO⟩, hDc.weaken (fun _ _ _ _ => trivial)⟩⟩ rfl rfl hl.1 rfl (lv_room (Nat.le_of_ble_eq_true rfl)) dX6_init_58 ⟨by rw [hRc]; exact Nat.le_of_ble_eq_true rfl, by rw [hRs]; exact Nat.le_of_ble_eq_true rfl⟩) hS (fun q _ h => hFc q h) hFc (fun Q4 t H1 locs ht hvm hw hB hz1 hk1 hS => ?_)
  obtain ⟨hP1, hW1, hD1⟩ := hB
  rw [ht] at hP1
  unfold wX5 at hP1 hD1
  obtain ⟨hP, hD⟩ := va_join (wr := [(h0, .inr (6, [.ref a5_4, .ref a16_9, .ref a27_14, .ref a40_20, .null, .null])), (a5_4, .inr (4, [.ref (Q0 0), .ref (Q0 1), .ref (Q0 2), .int 0])), ((Q0 0), lp_z cI 1200), ((Q0 1), lp_z cI 1200), ((Q0 2), lp_z cI 61), (a16_9, .inr (2, [.ref (Q1 0), .ref (Q1 1), .ref (Q1 2)])), ((Q1 0), lp_z cI 121), ((Q1 1), lp_z cI 121), ((Q1 2), .inl (cD, 121, .inr (.inr (.inr (.inr (fun _ => none)))))), (a27_14, .inr (0, [.ref (Q2 0), .ref (Q2 1), .ref (Q2 2), .ref (Q2 3), .int 0])), ((Q2 0), lp_z cI 1200), ((Q2 1), lp_z cI 1200), ((Q2 2), lp_z cI 11), ((Q2 3), lp_z cI 11), (a40_20, .inl (cI, 10, .inl (lp_ff (fun _ => 0) 1 10)))]) (w1 := [(a54_27, .inr (5, [.ref (Q4 0)])), ((Q4 0), .inl (cD, 11, .inr (.inr (.inr (.inr (va_up (va_up (va_up (va_up (va_up (va_up (va_up (va_up (va_up (va_up (va_up (fun _ => none) 0 (some ((Q4 1)))) 1 (some ((Q4 4)))) 2 (some ((Q4 7)))) 3 (some ((Q4 10)))) 4 (some ((Q4 13)))) 5 (some ((Q4 16)))) 6 (some ((Q4 19)))) 7 (some ((Q4 22)))) 8 (some ((Q4 25)))) 9 (some ((Q4 28)))) 10 (some ((Q4 31))))))))), ((Q4 1), .inr (1, [.ref (Q4 2), .ref (Q4 3)])), ((Q4 2), lp_z cI 11), ((Q4 3), lp_z cI 11), ((Q4 4), .inr (1, [.ref (Q4 5), .ref (Q4 6)])), ((Q4 5), lp_z cI 11), ((Q4 6), lp_z cI 11), ((Q4 7), .inr (1, [.ref (Q4 8), .ref (Q4 9)])), ((Q4 8), lp_z cI 11), ((Q4 9), lp_z cI 11), ((Q4 10), .inr (1, [.ref (Q4 11), .ref (Q4 12)])), ((Q4 11), lp_z cI 11), ((Q4 12), lp_z cI 11), ((Q4 13), .inr (1, [.ref (Q4 14), .ref (Q4 15)])), ((Q4 14), lp_z cI 11), ((Q4 15), lp_z cI 11), ((Q4 16), .inr (1, [.ref (Q4 17), .ref (Q4 18)])), ((Q4 17), lp_z cI 11), ((Q4 18), lp_z cI 11), ((Q4 19), .inr (1, [.ref (Q4 20), .ref (Q4 21)])), ((Q4 20), lp_z cI 11), ((Q4 21), lp_z cI 11), ((Q4 22), .inr (1, [.ref (Q4 23), .ref (Q4 24)])), ((Q4 23), lp_z cI 11), ((Q4 24), lp_z cI 11), ((Q4 25), .inr (1, [.ref (Q4 26), .ref (Q4 27)])), ((Q4 26), lp_z cI 11), ((Q4 27), lp_z cI 11), ((Q4 28), .inr (1, [.ref (Q4 29), .ref (Q4 30)])), ((Q4 29), lp_z cI 11), ((Q4 30), lp_z cI 11), ((Q4 31), .inr (1, [.ref (Q4 32), .ref (Q4 33)])), ((Q4 32), lp_z cI 11), ((Q4 33), lp_z cI 11)]) hP hD [15] [0, 1, 2, 3, 4, 5, 6, 7, 8, 9, 10, 11, 12, 13, 14] rfl rfl (by decide) (by decide) hk1 hFc hP1 hD1
  generalize H1 = H at hP hS ⊢
  refine W.widen (k := 49) (n := 5544) (by omega) (by omega) ?_
  have hP : va_P D vwCl [(h0, .inr (6, [.ref a5_4, .ref a16_9, .ref a27_14, .ref a40_20, .null, .null])), (a5_4, .inr (4, [.ref (Q0 0), .ref (Q0 1), .ref (Q0 2), .int 0])), ((Q0 0), lp_z cI 1200), ((Q0 1), lp_z cI 1200), ((Q0 2), lp_z cI 61), (a16_9, .inr (2, [.ref (Q1 0), .ref (Q1 1), .ref (Q1 2)])), ((Q1 0), lp_z cI 121), ((Q1 1), lp_z cI 121), ((Q1 2), .inl (cD, 121, .inr (.inr (.inr (.inr (fun _ => none)))))), (a27_14, .inr (0, [.ref (Q2 0), .ref (Q2 1), .ref (Q2 2), .ref (Q2 3), .int 0])), ((Q2 0), lp_z cI 1200), ((Q2 1), lp_z cI 1200), ((Q2 2), lp_z cI 11), ((Q2 3), lp_z cI 11), (a40_20, .inl (cI, 10, .inl (lp_ff (fun _ => 0) 1 10))), (a54_27, .inr (5, [.ref (Q4 0)])), ((Q4 0), .inl (cD, 11, .inr (.inr (.inr (.inr (va_up (va_up (va_up (va_up (va_up (va_up (va_up (va_up (va_up (va_up (va_up (fun _ => none) 0 (some ((Q4 1)))) 1 (some ((Q4 4)))) 2 (some ((Q4 7)))) 3 (some ((Q4 10)))) 4 (some ((Q4 13)))) 5 (some ((Q4 16)))) 6 (some ((Q4 19)))) 7 (some ((Q4 22)))) 8 (some ((Q4 25)))) 9 (some ((Q4 28)))) 10 (some ((Q4 31))))))))), ((Q4 1), .inr (1, [.ref (Q4 2), .ref (Q4 3)])), ((Q4 2), lp_z cI 11), ((Q4 3), lp_z cI 11), ((Q4 4), .inr (1, [.ref (Q4 5), .ref (Q4 6)])), ((Q4 5), lp_z cI 11), ((Q4 6), lp_z cI 11), ((Q4 7), .inr (1, [.ref (Q4 8), .ref (Q4 9)])), ((Q4 8), lp_z cI 11), ((Q4 9), lp_z cI 11), ((Q4 10), .inr (1, [.ref (Q4 11), .ref (Q4 12)])), ((Q4 11), lp_z cI 11), ((Q4 12), lp_z cI 11), ((Q4 13), .inr (1, [.ref (Q4 14), .ref (Q4 15)])), ((Q4 14), lp_z cI 11), ((Q4 15), lp_z cI 11), ((Q4 16), .inr (1, [.ref (Q4 17), .ref (Q4 18)])), ((Q4 17), lp_z cI 11), ((Q4 18), lp_z cI 11), ((Q4 19), .inr (1, [.ref (Q4 20), .ref (Q4 21)])), ((Q4 20), lp_z cI 11), ((Q4 21), lp_z cI 11), ((Q4 22), .inr (1, [.ref (Q4 23), .ref (Q4 24)])), ((Q4 23), lp_z cI 11), ((Q4 24), lp_z cI 11), ((Q4 25), .inr (1, [.ref (Q4 26), .ref (Q4 27)])), ((Q4 26), lp_z cI 11), ((Q4 27), lp_z cI 11), ((Q4 28), .inr (1, [.ref (Q4 29), .ref (Q4 30)])), ((Q4 29), lp_z cI 11), ((Q4 30), lp_z cI 11), ((Q4 31), .inr (1, [.ref (Q4 32), .ref (Q4 33)])), ((Q4 32), lp_z cI 11), ((Q4 33), lp_z cI 11)] H := hP
  have hD : va_D A [(h0, .inr (6, [.ref a5_4, .ref a16_9, .ref a27_14, .ref a40_20, .null, .null])), (a5_4, .inr (4, [.ref (Q0 0), .ref (Q0 1), .ref (Q0 2), .int 0])), ((Q0 0), lp_z cI 1200), ((Q0 1), lp_z cI 1200), ((Q0 2), lp_z cI 61), (a16_9, .inr (2, [.ref (Q1 0), .ref (Q1 1), .ref (Q1 2)])), ((Q1 0), lp_z cI 121), ((Q1 1), lp_z cI 121), ((Q1 2), .inl (cD, 121, .inr (.inr (.inr (.inr (fun _ => none)))))), (a27_14, .inr (0, [.ref (Q2 0), .ref (Q2 1), .ref (Q2 2), .ref (Q2 3), .int 0])), ((Q2 0), lp_z cI 1200), ((Q2 1), lp_z cI 1200), ((Q2 2), lp_z cI 11), ((Q2 3), lp_z cI 11), (a40_20, .inl (cI, 10, .inl (lp_ff (fun _ => 0) 1 10))), (a54_27, .inr (5, [.ref (Q4 0)])), ((Q4 0), .inl (cD, 11, .inr (.inr (.inr (.inr (va_up (va_up (va_up (va_up (va_up (va_up (va_up (va_up (va_up (va_up (va_up (fun _ => none) 0 (some ((Q4 1)))) 1 (some ((Q4 4)))) 2 (some ((Q4 7)))) 3 (some ((Q4 10)))) 4 (some ((Q4 13)))) 5 (some ((Q4 16)))) 6 (some ((Q4 19)))) 7 (some ((Q4 22)))) 8 (some ((Q4 25)))) 9 (some ((Q4 28)))) 10 (some ((Q4 31))))))))), ((Q4 1), .inr (1, [.ref (Q4 2), .ref (Q4 3)])), ((Q4 2), lp_z cI 11), ((Q4 3), lp_z cI 11), ((Q4 4), .inr (1, [.ref (Q4 5), .ref (Q4 6)])), ((Q4 5), lp_z cI 11), ((Q4 6), lp_z cI 11), ((Q4 7), .inr (1, [.ref (Q4 8), .ref (Q4 9)])), ((Q4 8), lp_z cI 11), ((Q4 9), lp_z cI 11), ((Q4 10), .inr (1, [.ref (Q4 11), .ref (Q4 12)])), ((Q4 11), lp_z cI 11), ((Q4 12), lp_z cI 11), ((Q4 13), .inr (1, [.ref (Q4 14), .ref (Q4 15)])), ((Q4 14), lp_z cI 11), ((Q4 15), lp_z cI 11), ((Q4 16), .inr (1, [.ref (Q4 17), .ref (Q4 18)])), ((Q4 17), lp_z cI 11), ((Q4 18), lp_z cI 11), ((Q4 19), .inr (1, [.ref (Q4 20), .ref (Q4 21)])), ((Q4 20), lp_z cI 11), ((Q4 21), lp_z cI 11), ((Q4 22), .inr (1, [.ref (Q4 23), .ref (Q4 24)])), ((Q4 23), lp_z cI 11), ((Q4 24), lp_z cI 11), ((Q4 25), .inr (1, [.ref (Q4 26), .ref (Q4 27)])), ((Q4 26), lp_z cI 11), ((Q4 27), lp_z cI 11), ((Q4 28), .inr (1, [.ref (Q4 29), .ref (Q4 30)])), ((Q4 29), lp_z cI 11), ((Q4 30), lp_z cI 11), ((Q4 31), .inr (1, [.ref (Q4 32), .ref (Q4 33)])), ((Q4 32), lp_z cI 11), ((Q4 33), lp_z cI 11)] := hD
  refine va_putF (D := D) (ci := 6) (v := .ref a54_27) (ty := .object "LoadPress$Walker") (C := RX6) (T := TX6) (N := 6) hx hb T lp_u6 tyX6 tyX6_ok nmX6 hown hWd.1 hP hD hS 0 rfl rfl 4 (by decide) (T (.fieldLink RX6 43 "LoadPress" "walker" "LLoadPress$Walker;") (by decide +kernel)) (fun _ h9 => h9) rfl hin rfl (by decide +kernel) rfl rfl (Nat.le_of_ble_eq_true rfl) dX6_init_61 (fun H locs hP hD hS => ?_)
  have hP : va_P D vwCl [(h0, .inr (6, [.ref a5_4, .ref a16_9, .ref a27_14, .ref a40_20, .ref a54_27, .null])), (a5_4, .inr (4, [.ref (Q0 0), .ref (Q0 1), .ref (Q0 2), .int 0])), ((Q0 0), lp_z cI 1200), ((Q0 1), lp_z cI 1200), ((Q0 2), lp_z cI 61), (a16_9, .inr (2, [.ref (Q1 0), .ref (Q1 1), .ref (Q1 2)])), ((Q1 0), lp_z cI 121), ((Q1 1), lp_z cI 121), ((Q1 2), .inl (cD, 121, .inr (.inr (.inr (.inr (fun _ => none)))))), (a27_14, .inr (0, [.ref (Q2 0), .ref (Q2 1), .ref (Q2 2), .ref (Q2 3), .int 0])), ((Q2 0), lp_z cI 1200), ((Q2 1), lp_z cI 1200), ((Q2 2), lp_z cI 11), ((Q2 3), lp_z cI 11), (a40_20, .inl (cI, 10, .inl (lp_ff (fun _ => 0) 1 10))), (a54_27, .inr (5, [.ref (Q4 0)])), ((Q4 0), .inl (cD, 11, .inr (.inr (.inr (.inr (va_up (va_up (va_up (va_up (va_up (va_up (va_up (va_up (va_up (va_up (va_up (fun _ => none) 0 (some ((Q4 1)))) 1 (some ((Q4 4)))) 2 (some ((Q4 7)))) 3 (some ((Q4 10)))) 4 (some ((Q4 13)))) 5 (some ((Q4 16)))) 6 (some ((Q4 19)))) 7 (some ((Q4 22)))) 8 (some ((Q4 25)))) 9 (some ((Q4 28)))) 10 (some ((Q4 31))))))))), ((Q4 1), .inr (1, [.ref (Q4 2), .ref (Q4 3)])), ((Q4 2), lp_z cI 11), ((Q4 3), lp_z cI 11), ((Q4 4), .inr (1, [.ref (Q4 5), .ref (Q4 6)])), ((Q4 5), lp_z cI 11), ((Q4 6), lp_z cI 11), ((Q4 7), .inr (1, [.ref (Q4 8), .ref (Q4 9)])), ((Q4 8), lp_z cI 11), ((Q4 9), lp_z cI 11), ((Q4 10), .inr (1, [.ref (Q4 11), .ref (Q4 12)])), ((Q4 11), lp_z cI 11), ((Q4 12), lp_z cI 11), ((Q4 13), .inr (1, [.ref (Q4 14), .ref (Q4 15)])), ((Q4 14), lp_z cI 11), ((Q4 15), lp_z cI 11), ((Q4 16), .inr (1, [.ref (Q4 17), .ref (Q4 18)])), ((Q4 17), lp_z cI 11), ((Q4 18), lp_z cI 11), ((Q4 19), .inr (1, [.ref (Q4 20), .ref (Q4 21)])), ((Q4 20), lp_z cI 11), ((Q4 21), lp_z cI 11), ((Q4 22), .inr (1, [.ref (Q4 23), .ref (Q4 24)])), ((Q4 23), lp_z cI 11), ((Q4 24), lp_z cI 11), ((Q4 25), .inr (1, [.ref (Q4 26), .ref (Q4 27)])), ((Q4 26), lp_z cI 11), ((Q4 27), lp_z cI 11), ((Q4 28), .inr (1, [.ref (Q4 29), .ref (Q4 30)])), ((Q4 29), lp_z cI 11), ((Q4 30), lp_z cI 11), ((Q4 31), .inr (1, [.ref (Q4 32), .ref (Q4 33)])), ((Q4 32), lp_z cI 11), ((Q4 33), lp_z cI 11)] H := hP
  have hD : va_D A [(h0, .inr (6, [.ref a5_4, .ref a16_9, .ref a27_14, .ref a40_20, .ref a54_27, .null])), (a5_4, .inr (4, [.ref (Q0 0), .ref (Q0 1), .ref (Q0 2), .int 0])), ((Q0 0), lp_z cI 1200), ((Q0 1), lp_z cI 1200), ((Q0 2), lp_z cI 61), (a16_9, .inr (2, [.ref (Q1 0), .ref (Q1 1), .ref (Q1 2)])), ((Q1 0), lp_z cI 121), ((Q1 1), lp_z cI 121), ((Q1 2), .inl (cD, 121, .inr (.inr (.inr (.inr (fun _ => none)))))), (a27_14, .inr (0, [.ref (Q2 0), .ref (Q2 1), .ref (Q2 2), .ref (Q2 3), .int 0])), ((Q2 0), lp_z cI 1200), ((Q2 1), lp_z cI 1200), ((Q2 2), lp_z cI 11), ((Q2 3), lp_z cI 11), (a40_20, .inl (cI, 10, .inl (lp_ff (fun _ => 0) 1 10))), (a54_27, .inr (5, [.ref (Q4 0)])), ((Q4 0), .inl (cD, 11, .inr (.inr (.inr (.inr (va_up (va_up (va_up (va_up (va_up (va_up (va_up (va_up (va_up (va_up (va_up (fun _ => none) 0 (some ((Q4 1)))) 1 (some ((Q4 4)))) 2 (some ((Q4 7)))) 3 (some ((Q4 10)))) 4 (some ((Q4 13)))) 5 (some ((Q4 16)))) 6 (some ((Q4 19)))) 7 (some ((Q4 22)))) 8 (some ((Q4 25)))) 9 (some ((Q4 28)))) 10 (some ((Q4 31))))))))), ((Q4 1), .inr (1, [.ref (Q4 2), .ref (Q4 3)])), ((Q4 2), lp_z cI 11), ((Q4 3), lp_z cI 11), ((Q4 4), .inr (1, [.ref (Q4 5), .ref (Q4 6)])), ((Q4 5), lp_z cI 11), ((Q4 6), lp_z cI 11), ((Q4 7), .inr (1, [.ref (Q4 8), .ref (Q4 9)])), ((Q4 8), lp_z cI 11), ((Q4 9), lp_z cI 11), ((Q4 10), .inr (1, [.ref (Q4 11), .ref (Q4 12)])), ((Q4 11), lp_z cI 11), ((Q4 12), lp_z cI 11), ((Q4 13), .inr (1, [.ref (Q4 14), .ref (Q4 15)])), ((Q4 14), lp_z cI 11), ((Q4 15), lp_z cI 11), ((Q4 16), .inr (1, [.ref (Q4 17), .ref (Q4 18)])), ((Q4 17), lp_z cI 11), ((Q4 18), lp_z cI 11), ((Q4 19), .inr (1, [.ref (Q4 20), .ref (Q4 21)])), ((Q4 20), lp_z cI 11), ((Q4 21), lp_z cI 11), ((Q4 22), .inr (1, [.ref (Q4 23), .ref (Q4 24)])), ((Q4 23), lp_z cI 11), ((Q4 24), lp_z cI 11), ((Q4 25), .inr (1, [.ref (Q4 26), .ref (Q4 27)])), ((Q4 26), lp_z cI 11), ((Q4 27), lp_z cI 11), ((Q4 28), .inr (1, [.ref (Q4 29), .ref (Q4 30)])), ((Q4 29), lp_z cI 11), ((Q4 30), lp_z cI 11), ((Q4 31), .inr (1, [.ref (Q4 32), .ref (Q4 33)])), ((Q4 32), lp_z cI 11), ((Q4 33), lp_z cI 11)] := hD
  refine lv_aload_n hx hb dX6_init_64 rfl (lv_at hl 0 rfl) ?_
  refine va_new (ci := 3) (fs := [.null, .null, .null, .null, .null, .null, .null, .null, .int 0, .int 0, .int 0, .int 0, .int 0]) (C := RX3) (T := TX3) (N := 13) hx hb T lp_u3 tyX3 tyX3_ok hown (T (.classLink RX6 47 RX3) (by decide +kernel)) (T (.instantiable RX3 13) (by decide +kernel)) (T (.initialized RX3) (by decide +kernel)) hWd.1 hP hD hS hA rfl (fun j hj => by rcases (show j = 0 ∨ j = 1 ∨ j = 2 ∨ j = 3 ∨ j = 4 ∨ j = 5 ∨ j = 6 ∨ j = 7 ∨ j = 8 ∨ j = 9 ∨ j = 10 ∨ j = 11 ∨ j = 12 by omega) with rfl | rfl | rfl | rfl | rfl | rfl | rfl | rfl | rfl | rfl | rfl | rfl | rfl <;> rfl) (by rw [hRc]; exact Nat.le_of_ble_eq_true rfl) (by rw [hRs]; exact Nat.le_of_ble_eq_true rfl) dX6_init_65 (fun a65_32 H hP hD hS => ?_)
  refine W.widen (k := 50) (n := 5557) (by omega) (by omega) ?_
  have hP : va_P D vwCl [(h0, .inr (6, [.ref a5_4, .ref a16_9, .ref a27_14, .ref a40_20, .ref a54_27, .null])), (a5_4, .inr (4, [.ref (Q0 0), .ref (Q0 1), .ref (Q0 2), .int 0])), ((Q0 0), lp_z cI 1200), ((Q0 1), lp_z cI 1200), ((Q0 2), lp_z cI 61), (a16_9, .inr (2, [.ref (Q1 0), .ref (Q1 1), .ref (Q1 2)])), ((Q1 0), lp_z cI 121), ((Q1 1), lp_z cI 121), ((Q1 2), .inl (cD, 121, .inr (.inr (.inr (.inr (fun _ => none)))))), (a27_14, .inr (0, [.ref (Q2 0), .ref (Q2 1), .ref (Q2 2), .ref (Q2 3), .int 0])), ((Q2 0), lp_z cI 1200), ((Q2 1), lp_z cI 1200), ((Q2 2), lp_z cI 11), ((Q2 3), lp_z cI 11), (a40_20, .inl (cI, 10, .inl (lp_ff (fun _ => 0) 1 10))), (a54_27, .inr (5, [.ref (Q4 0)])), ((Q4 0), .inl (cD, 11, .inr (.inr (.inr (.inr (va_up (va_up (va_up (va_up (va_up (va_up (va_up (va_up (va_up (va_up (va_up (fun _ => none) 0 (some ((Q4 1)))) 1 (some ((Q4 4)))) 2 (some ((Q4 7)))) 3 (some ((Q4 10)))) 4 (some ((Q4 13)))) 5 (some ((Q4 16)))) 6 (some ((Q4 19)))) 7 (some ((Q4 22)))) 8 (some ((Q4 25)))) 9 (some ((Q4 28)))) 10 (some ((Q4 31))))))))), ((Q4 1), .inr (1, [.ref (Q4 2), .ref (Q4 3)])), ((Q4 2), lp_z cI 11), ((Q4 3), lp_z cI 11), ((Q4 4), .inr (1, [.ref (Q4 5), .ref (Q4 6)])), ((Q4 5), lp_z cI 11), ((Q4 6), lp_z cI 11), ((Q4 7), .inr (1, [.ref (Q4 8), .ref (Q4 9)])), ((Q4 8), lp_z cI 11), ((Q4 9), lp_z cI 11), ((Q4 10), .inr (1, [.ref (Q4 11), .ref (Q4 12)])), ((Q4 11), lp_z cI 11), ((Q4 12), lp_z cI 11), ((Q4 13), .inr (1, [.ref (Q4 14), .ref (Q4 15)])), ((Q4 14), lp_z cI 11), ((Q4 15), lp_z cI 11), ((Q4 16), .inr (1, [.ref (Q4 17), .ref (Q4 18)])), ((Q4 17), lp_z cI 11), ((Q4 18), lp_z cI 11), ((Q4 19), .inr (1, [.ref (Q4 20), .ref (Q4 21)])), ((Q4 20), lp_z cI 11), ((Q4 21), lp_z cI 11), ((Q4 22), .inr (1, [.ref (Q4 23), .ref (Q4 24)])), ((Q4 23), lp_z cI 11), ((Q4 24), lp_z cI 11), ((Q4 25), .inr (1, [.ref (Q4 26), .ref (Q4 27)])), ((Q4 26), lp_z cI 11), ((Q4 27), lp_z cI 11), ((Q4 28), .inr (1, [.ref (Q4 29), .ref (Q4 30)])), ((Q4 29), lp_z cI 11), ((Q4 30), lp_z cI 11), ((Q4 31), .inr (1, [.ref (Q4 32), .ref (Q4 33)])), ((Q4 32), lp_z cI 11), ((Q4 33), lp_z cI 11), (a65_32, .inr (3, [.null, .null, .null, .null, .null, .null, .null, .null, .int 0, .int 0, .int 0, .int 0, .int 0]))] H := hP
  have hD : va_D A [(h0, .inr (6, [.ref a5_4, .ref a16_9, .ref a27_14, .ref a40_20, .ref a54_27, .null])), (a5_4, .inr (4, [.ref (Q0 0), .ref (Q0 1), .ref (Q0 2), .int 0])), ((Q0 0), lp_z cI 1200), ((Q0 1), lp_z cI 1200), ((Q0 2), lp_z cI 61), (a16_9, .inr (2, [.ref (Q1 0), .ref (Q1 1), .ref (Q1 2)])), ((Q1 0), lp_z cI 121), ((Q1 1), lp_z cI 121), ((Q1 2), .inl (cD, 121, .inr (.inr (.inr (.inr (fun _ => none)))))), (a27_14, .inr (0, [.ref (Q2 0), .ref (Q2 1), .ref (Q2 2), .ref (Q2 3), .int 0])), ((Q2 0), lp_z cI 1200), ((Q2 1), lp_z cI 1200), ((Q2 2), lp_z cI 11), ((Q2 3), lp_z cI 11), (a40_20, .inl (cI, 10, .inl (lp_ff (fun _ => 0) 1 10))), (a54_27, .inr (5, [.ref (Q4 0)])), ((Q4 0), .inl (cD, 11, .inr (.inr (.inr (.inr (va_up (va_up (va_up (va_up (va_up (va_up (va_up (va_up (va_up (va_up (va_up (fun _ => none) 0 (some ((Q4 1)))) 1 (some ((Q4 4)))) 2 (some ((Q4 7)))) 3 (some ((Q4 10)))) 4 (some ((Q4 13)))) 5 (some ((Q4 16)))) 6 (some ((Q4 19)))) 7 (some ((Q4 22)))) 8 (some ((Q4 25)))) 9 (some ((Q4 28)))) 10 (some ((Q4 31))))))))), ((Q4 1), .inr (1, [.ref (Q4 2), .ref (Q4 3)])), ((Q4 2), lp_z cI 11), ((Q4 3), lp_z cI 11), ((Q4 4), .inr (1, [.ref (Q4 5), .ref (Q4 6)])), ((Q4 5), lp_z cI 11), ((Q4 6), lp_z cI 11), ((Q4 7), .inr (1, [.ref (Q4 8), .ref (Q4 9)])), ((Q4 8), lp_z cI 11), ((Q4 9), lp_z cI 11), ((Q4 10), .inr (1, [.ref (Q4 11), .ref (Q4 12)])), ((Q4 11), lp_z cI 11), ((Q4 12), lp_z cI 11), ((Q4 13), .inr (1, [.ref (Q4 14), .ref (Q4 15)])), ((Q4 14), lp_z cI 11), ((Q4 15), lp_z cI 11), ((Q4 16), .inr (1, [.ref (Q4 17), .ref (Q4 18)])), ((Q4 17), lp_z cI 11), ((Q4 18), lp_z cI 11), ((Q4 19), .inr (1, [.ref (Q4 20), .ref (Q4 21)])), ((Q4 20), lp_z cI 11), ((Q4 21), lp_z cI 11), ((Q4 22), .inr (1, [.ref (Q4 23), .ref (Q4 24)])), ((Q4 23), lp_z cI 11), ((Q4 24), lp_z cI 11), ((Q4 25), .inr (1, [.ref (Q4 26), .ref (Q4 27)])), ((Q4 26), lp_z cI 11), ((Q4 27), lp_z cI 11), ((Q4 28), .inr (1, [.ref (Q4 29), .ref (Q4 30)])), ((Q4 29), lp_z cI 11), ((Q4 30), lp_z cI 11), ((Q4 31), .inr (1, [.ref (Q4 32), .ref (Q4 33)])), ((Q4 32), lp_z cI 11), ((Q4 33), lp_z cI 11), (a65_32, .inr (3, [.null, .null, .null, .null, .null, .null, .null, .null, .int 0, .int 0, .int 0, .int 0, .int 0]))] := hD
  refine lv_dup hx hb dX6_init_68 rfl ?_
  have hPc := hP.sub (ws' := [(a65_32, .inr (3, [.null, .null, .null, .null, .null, .null, .null, .null, .int 0, .int 0, .int 0, .int 0, .int 0]))]) [50] rfl
  have hDc := hD.sub (ws' := [(a65_32, .inr (3, [.null, .null, .null, .null, .null, .null, .null, .null, .int 0, .int 0, .int 0, .int 0, .int 0]))]) [50] (by decide) rfl
  have hFc := va_free (wc := [(a65_32, .inr (3, [.null, .null, .null, .null, .null, .null, .null, .null, .int 0, .int 0, .int 0, .int 0, .int 0]))]) hD hS hA [50] rfl
  refine va_callv (va_runIN (As := []) (rest := [.ref a65_32, .ref h0]) ⟨hx, hb, hml, hown, hts⟩ (ci_X3 l D cI cD a65_32 H.size) (⟨va_cnB 0 hts (lp_good (w0 := Cond.code yX6_init cX6_init 1 none) (y := yX3_init) (bytes := cX3_init) (nL := 1) (ret := none) (by decide +kernel)) rfl rfl rfl (hWd.2 (.methodLinkNest RX6 49 yX3_init "LoadPress") (by decide +kernel)) (T (.initialized RX3) (by decide +kernel)) ⟨by decide +kernel, by decide +kernel, by decide +kernel⟩ ⟨by rw [hRf]; exact Nat.le_of_ble_eq_true rfl, by rw [hRl]; exact Nat.le_of_ble_eq_true rfl⟩, rfl, T (.instanceMethod yX3_init) (by decide +kernel)⟩) ⟨fun a U g mk q => by obtain ⟨q0, q1, qP, qW, qD⟩ := q; exact ⟨q0, q1, qP, lp_Wd_call qW, qD⟩, fun U hU hW => ⟨rfl, by rw [hU], by rw [hU]; exact hPc, lp_Wd_move hW hWd, hDc.weaken (fun _ _ _ _ => trivial)⟩⟩ rfl rfl hl.1 rfl (lv_room (Nat.le_of_ble_eq_true rfl)) dX6_init_69 ⟨by rw [hRc]; exact Nat.le_of_ble_eq_true rfl, by rw [hRs]; exact Nat.le_of_ble_eq_true rfl⟩) hS (fun q _ h => hFc q h) hFc (fun Q5 t H1 locs ht hvm hw hB hz1 hk1 hS => ?_)
  obtain ⟨hP1, hW1, hD1⟩ := hB
  rw [ht] at hP1
  unfold wX3 at hP1 hD1
  obtain ⟨hP, hD⟩ := va_join (wr := [(h0, .inr (6, [.ref a5_4, .ref a16_9, .ref a27_14, .ref a40_20, .ref a54_27, .null])), (a5_4, .inr (4, [.ref (Q0 0), .ref (Q0 1), .ref (Q0 2), .int 0])), ((Q0 0), lp_z cI 1200), ((Q0 1), lp_z cI 1200), ((Q0 2), lp_z cI 61), (a16_9, .inr (2, [.ref (Q1 0), .ref (Q1 1), .ref (Q1 2)])), ((Q1 0), lp_z cI 121), ((Q1 1), lp_z cI 121), ((Q1 2), .inl (cD, 121, .inr (.inr (.inr (.inr (fun _ => none)))))), (a27_14, .inr (0, [.ref (Q2 0), .ref (Q2 1), .ref (Q2 2), .ref (Q2 3), .int 0])), ((Q2 0), lp_z cI 1200), ((Q2 1), lp_z cI 1200), ((Q2 2), lp_z cI 11), ((Q2 3), lp_z cI 11), (a40_20, .inl (cI, 10, .inl (lp_ff (fun _ => 0) 1 10))), (a54_27, .inr (5, [.ref (Q4 0)])), ((Q4 0), .inl (cD, 11, .inr (.inr (.inr (.inr (va_up (va_up (va_up (va_up (va_up (va_up (va_up (va_up (va_up (va_up (va_up (fun _ => none) 0 (some ((Q4 1)))) 1 (some ((Q4 4)))) 2 (some ((Q4 7)))) 3 (some ((Q4 10)))) 4 (some ((Q4 13)))) 5 (some ((Q4 16)))) 6 (some ((Q4 19)))) 7 (some ((Q4 22)))) 8 (some ((Q4 25)))) 9 (some ((Q4 28)))) 10 (some ((Q4 31))))))))), ((Q4 1), .inr (1, [.ref (Q4 2), .ref (Q4 3)])), ((Q4 2), lp_z cI 11), ((Q4 3), lp_z cI 11), ((Q4 4), .inr (1, [.ref (Q4 5), .ref (Q4 6)])), ((Q4 5), lp_z cI 11), ((Q4 6), lp_z cI 11), ((Q4 7), .inr (1, [.ref (Q4 8), .ref (Q4 9)])), ((Q4 8), lp_z cI 11), ((Q4 9), lp_z cI 11), ((Q4 10), .inr (1, [.ref (Q4 11), .ref (Q4 12)])), ((Q4 11), lp_z cI 11), ((Q4 12), lp_z cI 11), ((Q4 13), .inr (1, [.ref (Q4 14), .ref (Q4 15)])), ((Q4 14), lp_z cI 11), ((Q4 15), lp_z cI 11), ((Q4 16), .inr (1, [.ref (Q4 17), .ref (Q4 18)])), ((Q4 17), lp_z cI 11), ((Q4 18), lp_z cI 11), ((Q4 19), .inr (1, [.ref (Q4 20), .ref (Q4 21)])), ((Q4 20), lp_z cI 11), ((Q4 21), lp_z cI 11), ((Q4 22), .inr (1, [.ref (Q4 23), .ref (Q4 24)])), ((Q4 23), lp_z cI 11), ((Q4 24), lp_z cI 11), ((Q4 25), .inr (1, [.ref (Q4 26), .ref (Q4 27)])), ((Q4 26), lp_z cI 11), ((Q4 27), lp_z cI 11), ((Q4 28), .inr (1, [.ref (Q4 29), .ref (Q4 30)])), ((Q4 29), lp_z cI 11), ((Q4 30), lp_z cI 11), ((Q4 31), .inr (1, [.ref (Q4 32), .ref (Q4 33)])), ((Q4 32), lp_z cI 11), ((Q4 33), lp_z cI 11)]) (w1 := [(a65_32, .inr (3, [.ref (Q5 0), .ref (Q5 4), .ref (Q5 5), .ref (Q5 6), .ref (Q5 7), .ref (Q5 8), .ref (Q5 9), .ref (Q5 10), .int 0, .int 0, .int 0, .int 0, .int 0])), ((Q5 0), .inr (4, [.ref (Q5 1), .ref (Q5 2), .ref (Q5 3), .int 0])), ((Q5 1), lp_z cI 1200), ((Q5 2), lp_z cI 1200), ((Q5 3), lp_z cI 61), ((Q5 4), lp_z cI 1200), ((Q5 5), lp_z cI 1200), ((Q5 6), lp_z cI 1200), ((Q5 7), lp_z cI 1200), ((Q5 8), lp_z cI 60), ((Q5 9), lp_z cI 60), ((Q5 10), lp_z cI 8)]) hP hD [50] [0, 1, 2, 3, 4, 5, 6, 7, 8, 9, 10, 11, 12, 13, 14, 15, 16, 17, 18, 19, 20, 21, 22, 23, 24, 25, 26, 27, 28, 29, 30, 31, 32, 33, 34, 35, 36, 37, 38, 39, 40, 41, 42, 43, 44, 45, 46, 47, 48, 49] rfl rfl (by decide) (by decide) hk1 hFc hP1 hD1
  generalize H1 = H at hP hS ⊢
  refine W.widen (k := 61) (n := 12950) (by omega) (by omega) ?_
  have hP : va_P D vwCl [(h0, .inr (6, [.ref a5_4, .ref a16_9, .ref a27_14, .ref a40_20, .ref a54_27, .null])), (a5_4, .inr (4, [.ref (Q0 0), .ref (Q0 1), .ref (Q0 2), .int 0])), ((Q0 0), lp_z cI 1200), ((Q0 1), lp_z cI 1200), ((Q0 2), lp_z cI 61), (a16_9, .inr (2, [.ref (Q1 0), .ref (Q1 1), .ref (Q1 2)])), ((Q1 0), lp_z cI 121), ((Q1 1), lp_z cI 121), ((Q1 2), .inl (cD, 121, .inr (.inr (.inr (.inr (fun _ => none)))))), (a27_14, .inr (0, [.ref (Q2 0), .ref (Q2 1), .ref (Q2 2), .ref (Q2 3), .int 0])), ((Q2 0), lp_z cI 1200), ((Q2 1), lp_z cI 1200), ((Q2 2), lp_z cI 11), ((Q2 3), lp_z cI 11), (a40_20, .inl (cI, 10, .inl (lp_ff (fun _ => 0) 1 10))), (a54_27, .inr (5, [.ref (Q4 0)])), ((Q4 0), .inl (cD, 11, .inr (.inr (.inr (.inr (va_up (va_up (va_up (va_up (va_up (va_up (va_up (va_up (va_up (va_up (va_up (fun _ => none) 0 (some ((Q4 1)))) 1 (some ((Q4 4)))) 2 (some ((Q4 7)))) 3 (some ((Q4 10)))) 4 (some ((Q4 13)))) 5 (some ((Q4 16)))) 6 (some ((Q4 19)))) 7 (some ((Q4 22)))) 8 (some ((Q4 25)))) 9 (some ((Q4 28)))) 10 (some ((Q4 31))))))))), ((Q4 1), .inr (1, [.ref (Q4 2), .ref (Q4 3)])), ((Q4 2), lp_z cI 11), ((Q4 3), lp_z cI 11), ((Q4 4), .inr (1, [.ref (Q4 5), .ref (Q4 6)])), ((Q4 5), lp_z cI 11), ((Q4 6), lp_z cI 11), ((Q4 7), .inr (1, [.ref (Q4 8), .ref (Q4 9)])), ((Q4 8), lp_z cI 11), ((Q4 9), lp_z cI 11), ((Q4 10), .inr (1, [.ref (Q4 11), .ref (Q4 12)])), ((Q4 11), lp_z cI 11), ((Q4 12), lp_z cI 11), ((Q4 13), .inr (1, [.ref (Q4 14), .ref (Q4 15)])), ((Q4 14), lp_z cI 11), ((Q4 15), lp_z cI 11), ((Q4 16), .inr (1, [.ref (Q4 17), .ref (Q4 18)])), ((Q4 17), lp_z cI 11), ((Q4 18), lp_z cI 11), ((Q4 19), .inr (1, [.ref (Q4 20), .ref (Q4 21)])), ((Q4 20), lp_z cI 11), ((Q4 21), lp_z cI 11), ((Q4 22), .inr (1, [.ref (Q4 23), .ref (Q4 24)])), ((Q4 23), lp_z cI 11), ((Q4 24), lp_z cI 11), ((Q4 25), .inr (1, [.ref (Q4 26), .ref (Q4 27)])), ((Q4 26), lp_z cI 11), ((Q4 27), lp_z cI 11), ((Q4 28), .inr (1, [.ref (Q4 29), .ref (Q4 30)])), ((Q4 29), lp_z cI 11), ((Q4 30), lp_z cI 11), ((Q4 31), .inr (1, [.ref (Q4 32), .ref (Q4 33)])), ((Q4 32), lp_z cI 11), ((Q4 33), lp_z cI 11), (a65_32, .inr (3, [.ref (Q5 0), .ref (Q5 4), .ref (Q5 5), .ref (Q5 6), .ref (Q5 7), .ref (Q5 8), .ref (Q5 9), .ref (Q5 10), .int 0, .int 0, .int 0, .int 0, .int 0])), ((Q5 0), .inr (4, [.ref (Q5 1), .ref (Q5 2), .ref (Q5 3), .int 0])), ((Q5 1), lp_z cI 1200), ((Q5 2), lp_z cI 1200), ((Q5 3), lp_z cI 61), ((Q5 4), lp_z cI 1200), ((Q5 5), lp_z cI 1200), ((Q5 6), lp_z cI 1200), ((Q5 7), lp_z cI 1200), ((Q5 8), lp_z cI 60), ((Q5 9), lp_z cI 60), ((Q5 10), lp_z cI 8)] H := hP
  have hD : va_D A [(h0, .inr (6, [.ref a5_4, .ref a16_9, .ref a27_14, .ref a40_20, .ref a54_27, .null])), (a5_4, .inr (4, [.ref (Q0 0), .ref (Q0 1), .ref (Q0 2), .int 0])), ((Q0 0), lp_z cI 1200), ((Q0 1), lp_z cI 1200), ((Q0 2), lp_z cI 61), (a16_9, .inr (2, [.ref (Q1 0), .ref (Q1 1), .ref (Q1 2)])), ((Q1 0), lp_z cI 121), ((Q1 1), lp_z cI 121), ((Q1 2), .inl (cD, 121, .inr (.inr (.inr (.inr (fun _ => none)))))), (a27_14, .inr (0, [.ref (Q2 0), .ref (Q2 1), .ref (Q2 2), .ref (Q2 3), .int 0])), ((Q2 0), lp_z cI 1200), ((Q2 1), lp_z cI 1200), ((Q2 2), lp_z cI 11), ((Q2 3), lp_z cI 11), (a40_20, .inl (cI, 10, .inl (lp_ff (fun _ => 0) 1 10))), (a54_27, .inr (5, [.ref (Q4 0)])), ((Q4 0), .inl (cD, 11, .inr (.inr (.inr (.inr (va_up (va_up (va_up (va_up (va_up (va_up (va_up (va_up (va_up (va_up (va_up (fun _ => none) 0 (some ((Q4 1)))) 1 (some ((Q4 4)))) 2 (some ((Q4 7)))) 3 (some ((Q4 10)))) 4 (some ((Q4 13)))) 5 (some ((Q4 16)))) 6 (some ((Q4 19)))) 7 (some ((Q4 22)))) 8 (some ((Q4 25)))) 9 (some ((Q4 28)))) 10 (some ((Q4 31))))))))), ((Q4 1), .inr (1, [.ref (Q4 2), .ref (Q4 3)])), ((Q4 2), lp_z cI 11), ((Q4 3), lp_z cI 11), ((Q4 4), .inr (1, [.ref (Q4 5), .ref (Q4 6)])), ((Q4 5), lp_z cI 11), ((Q4 6), lp_z cI 11), ((Q4 7), .inr (1, [.ref (Q4 8), .ref (Q4 9)])), ((Q4 8), lp_z cI 11), ((Q4 9), lp_z cI 11), ((Q4 10), .inr (1, [.ref (Q4 11), .ref (Q4 12)])), ((Q4 11), lp_z cI 11), ((Q4 12), lp_z cI 11), ((Q4 13), .inr (1, [.ref (Q4 14), .ref (Q4 15)])), ((Q4 14), lp_z cI 11), ((Q4 15), lp_z cI 11), ((Q4 16), .inr (1, [.ref (Q4 17), .ref (Q4 18)])), ((Q4 17), lp_z cI 11), ((Q4 18), lp_z cI 11), ((Q4 19), .inr (1, [.ref (Q4 20), .ref (Q4 21)])), ((Q4 20), lp_z cI 11), ((Q4 21), lp_z cI 11), ((Q4 22), .inr (1, [.ref (Q4 23), .ref (Q4 24)])), ((Q4 23), lp_z cI 11), ((Q4 24), lp_z cI 11), ((Q4 25), .inr (1, [.ref (Q4 26), .ref (Q4 27)])), ((Q4 26), lp_z cI 11), ((Q4 27), lp_z cI 11), ((Q4 28), .inr (1, [.ref (Q4 29), .ref (Q4 30)])), ((Q4 29), lp_z cI 11), ((Q4 30), lp_z cI 11), ((Q4 31), .inr (1, [.ref (Q4 32), .ref (Q4 33)])), ((Q4 32), lp_z cI 11), ((Q4 33), lp_z cI 11), (a65_32, .inr (3, [.ref (Q5 0), .ref (Q5 4), .ref (Q5 5), .ref (Q5 6), .ref (Q5 7), .ref (Q5 8), .ref (Q5 9), .ref (Q5 10), .int 0, .int 0, .int 0, .int 0, .int 0])), ((Q5 0), .inr (4, [.ref (Q5 1), .ref (Q5 2), .ref (Q5 3), .int 0])), ((Q5 1), lp_z cI 1200), ((Q5 2), lp_z cI 1200), ((Q5 3), lp_z cI 61), ((Q5 4), lp_z cI 1200), ((Q5 5), lp_z cI 1200), ((Q5 6), lp_z cI 1200), ((Q5 7), lp_z cI 1200), ((Q5 8), lp_z cI 60), ((Q5 9), lp_z cI 60), ((Q5 10), lp_z cI 8)] := hD
  refine va_putF (D := D) (ci := 6) (v := .ref a65_32) (ty := .object "LoadPress$Press") (C := RX6) (T := TX6) (N := 6) hx hb T lp_u6 tyX6 tyX6_ok nmX6 hown hWd.1 hP hD hS 0 rfl rfl 5 (by decide) (T (.fieldLink RX6 50 "LoadPress" "latest" "LLoadPress$Press;") (by decide +kernel)) (fun _ h9 => h9) rfl hin rfl (by decide +kernel) rfl rfl (Nat.le_of_ble_eq_true rfl) dX6_init_72 (fun H locs hP hD hS => ?_)
  have hP : va_P D vwCl [(h0, .inr (6, [.ref a5_4, .ref a16_9, .ref a27_14, .ref a40_20, .ref a54_27, .ref a65_32])), (a5_4, .inr (4, [.ref (Q0 0), .ref (Q0 1), .ref (Q0 2), .int 0])), ((Q0 0), lp_z cI 1200), ((Q0 1), lp_z cI 1200), ((Q0 2), lp_z cI 61), (a16_9, .inr (2, [.ref (Q1 0), .ref (Q1 1), .ref (Q1 2)])), ((Q1 0), lp_z cI 121), ((Q1 1), lp_z cI 121), ((Q1 2), .inl (cD, 121, .inr (.inr (.inr (.inr (fun _ => none)))))), (a27_14, .inr (0, [.ref (Q2 0), .ref (Q2 1), .ref (Q2 2), .ref (Q2 3), .int 0])), ((Q2 0), lp_z cI 1200), ((Q2 1), lp_z cI 1200), ((Q2 2), lp_z cI 11), ((Q2 3), lp_z cI 11), (a40_20, .inl (cI, 10, .inl (lp_ff (fun _ => 0) 1 10))), (a54_27, .inr (5, [.ref (Q4 0)])), ((Q4 0), .inl (cD, 11, .inr (.inr (.inr (.inr (va_up (va_up (va_up (va_up (va_up (va_up (va_up (va_up (va_up (va_up (va_up (fun _ => none) 0 (some ((Q4 1)))) 1 (some ((Q4 4)))) 2 (some ((Q4 7)))) 3 (some ((Q4 10)))) 4 (some ((Q4 13)))) 5 (some ((Q4 16)))) 6 (some ((Q4 19)))) 7 (some ((Q4 22)))) 8 (some ((Q4 25)))) 9 (some ((Q4 28)))) 10 (some ((Q4 31))))))))), ((Q4 1), .inr (1, [.ref (Q4 2), .ref (Q4 3)])), ((Q4 2), lp_z cI 11), ((Q4 3), lp_z cI 11), ((Q4 4), .inr (1, [.ref (Q4 5), .ref (Q4 6)])), ((Q4 5), lp_z cI 11), ((Q4 6), lp_z cI 11), ((Q4 7), .inr (1, [.ref (Q4 8), .ref (Q4 9)])), ((Q4 8), lp_z cI 11), ((Q4 9), lp_z cI 11), ((Q4 10), .inr (1, [.ref (Q4 11), .ref (Q4 12)])), ((Q4 11), lp_z cI 11), ((Q4 12), lp_z cI 11), ((Q4 13), .inr (1, [.ref (Q4 14), .ref (Q4 15)])), ((Q4 14), lp_z cI 11), ((Q4 15), lp_z cI 11), ((Q4 16), .inr (1, [.ref (Q4 17), .ref (Q4 18)])), ((Q4 17), lp_z cI 11), ((Q4 18), lp_z cI 11), ((Q4 19), .inr (1, [.ref (Q4 20), .ref (Q4 21)])), ((Q4 20), lp_z cI 11), ((Q4 21), lp_z cI 11), ((Q4 22), .inr (1, [.ref (Q4 23), .ref (Q4 24)])), ((Q4 23), lp_z cI 11), ((Q4 24), lp_z cI 11), ((Q4 25), .inr (1, [.ref (Q4 26), .ref (Q4 27)])), ((Q4 26), lp_z cI 11), ((Q4 27), lp_z cI 11), ((Q4 28), .inr (1, [.ref (Q4 29), .ref (Q4 30)])), ((Q4 29), lp_z cI 11), ((Q4 30), lp_z cI 11), ((Q4 31), .inr (1, [.ref (Q4 32), .ref (Q4 33)])), ((Q4 32), lp_z cI 11), ((Q4 33), lp_z cI 11), (a65_32, .inr (3, [.ref (Q5 0), .ref (Q5 4), .ref (Q5 5), .ref (Q5 6), .ref (Q5 7), .ref (Q5 8), .ref (Q5 9), .ref (Q5 10), .int 0, .int 0, .int 0, .int 0, .int 0])), ((Q5 0), .inr (4, [.ref (Q5 1), .ref (Q5 2), .ref (Q5 3), .int 0])), ((Q5 1), lp_z cI 1200), ((Q5 2), lp_z cI 1200), ((Q5 3), lp_z cI 61), ((Q5 4), lp_z cI 1200), ((Q5 5), lp_z cI 1200), ((Q5 6), lp_z cI 1200), ((Q5 7), lp_z cI 1200), ((Q5 8), lp_z cI 60), ((Q5 9), lp_z cI 60), ((Q5 10), lp_z cI 8)] H := hP
  have hD : va_D A [(h0, .inr (6, [.ref a5_4, .ref a16_9, .ref a27_14, .ref a40_20, .ref a54_27, .ref a65_32])), (a5_4, .inr (4, [.ref (Q0 0), .ref (Q0 1), .ref (Q0 2), .int 0])), ((Q0 0), lp_z cI 1200), ((Q0 1), lp_z cI 1200), ((Q0 2), lp_z cI 61), (a16_9, .inr (2, [.ref (Q1 0), .ref (Q1 1), .ref (Q1 2)])), ((Q1 0), lp_z cI 121), ((Q1 1), lp_z cI 121), ((Q1 2), .inl (cD, 121, .inr (.inr (.inr (.inr (fun _ => none)))))), (a27_14, .inr (0, [.ref (Q2 0), .ref (Q2 1), .ref (Q2 2), .ref (Q2 3), .int 0])), ((Q2 0), lp_z cI 1200), ((Q2 1), lp_z cI 1200), ((Q2 2), lp_z cI 11), ((Q2 3), lp_z cI 11), (a40_20, .inl (cI, 10, .inl (lp_ff (fun _ => 0) 1 10))), (a54_27, .inr (5, [.ref (Q4 0)])), ((Q4 0), .inl (cD, 11, .inr (.inr (.inr (.inr (va_up (va_up (va_up (va_up (va_up (va_up (va_up (va_up (va_up (va_up (va_up (fun _ => none) 0 (some ((Q4 1)))) 1 (some ((Q4 4)))) 2 (some ((Q4 7)))) 3 (some ((Q4 10)))) 4 (some ((Q4 13)))) 5 (some ((Q4 16)))) 6 (some ((Q4 19)))) 7 (some ((Q4 22)))) 8 (some ((Q4 25)))) 9 (some ((Q4 28)))) 10 (some ((Q4 31))))))))), ((Q4 1), .inr (1, [.ref (Q4 2), .ref (Q4 3)])), ((Q4 2), lp_z cI 11), ((Q4 3), lp_z cI 11), ((Q4 4), .inr (1, [.ref (Q4 5), .ref (Q4 6)])), ((Q4 5), lp_z cI 11), ((Q4 6), lp_z cI 11), ((Q4 7), .inr (1, [.ref (Q4 8), .ref (Q4 9)])), ((Q4 8), lp_z cI 11), ((Q4 9), lp_z cI 11), ((Q4 10), .inr (1, [.ref (Q4 11), .ref (Q4 12)])), ((Q4 11), lp_z cI 11), ((Q4 12), lp_z cI 11), ((Q4 13), .inr (1, [.ref (Q4 14), .ref (Q4 15)])), ((Q4 14), lp_z cI 11), ((Q4 15), lp_z cI 11), ((Q4 16), .inr (1, [.ref (Q4 17), .ref (Q4 18)])), ((Q4 17), lp_z cI 11), ((Q4 18), lp_z cI 11), ((Q4 19), .inr (1, [.ref (Q4 20), .ref (Q4 21)])), ((Q4 20), lp_z cI 11), ((Q4 21), lp_z cI 11), ((Q4 22), .inr (1, [.ref (Q4 23), .ref (Q4 24)])), ((Q4 23), lp_z cI 11), ((Q4 24), lp_z cI 11), ((Q4 25), .inr (1, [.ref (Q4 26), .ref (Q4 27)])), ((Q4 26), lp_z cI 11), ((Q4 27), lp_z cI 11), ((Q4 28), .inr (1, [.ref (Q4 29), .ref (Q4 30)])), ((Q4 29), lp_z cI 11), ((Q4 30), lp_z cI 11), ((Q4 31), .inr (1, [.ref (Q4 32), .ref (Q4 33)])), ((Q4 32), lp_z cI 11), ((Q4 33), lp_z cI 11), (a65_32, .inr (3, [.ref (Q5 0), .ref (Q5 4), .ref (Q5 5), .ref (Q5 6), .ref (Q5 7), .ref (Q5 8), .ref (Q5 9), .ref (Q5 10), .int 0, .int 0, .int 0, .int 0, .int 0])), ((Q5 0), .inr (4, [.ref (Q5 1), .ref (Q5 2), .ref (Q5 3), .int 0])), ((Q5 1), lp_z cI 1200), ((Q5 2), lp_z cI 1200), ((Q5 3), lp_z cI 61), ((Q5 4), lp_z cI 1200), ((Q5 5), lp_z cI 1200), ((Q5 6), lp_z cI 1200), ((Q5 7), lp_z cI 1200), ((Q5 8), lp_z cI 60), ((Q5 9), lp_z cI 60), ((Q5 10), lp_z cI 8)] := hD
  have hP9 := hP.sub (ws' := [(h0, .inr (6, [.ref a5_4, .ref a16_9, .ref a27_14, .ref a40_20, .ref a54_27, .ref a65_32])), (a5_4, .inr (4, [.ref (Q0 0), .ref (Q0 1), .ref (Q0 2), .int 0])), ((Q0 0), lp_z cI 1200), ((Q0 1), lp_z cI 1200), ((Q0 2), lp_z cI 61), (a16_9, .inr (2, [.ref (Q1 0), .ref (Q1 1), .ref (Q1 2)])), ((Q1 0), lp_z cI 121), ((Q1 1), lp_z cI 121), ((Q1 2), .inl (cD, 121, .inr (.inr (.inr (.inr (fun _ => none)))))), (a27_14, .inr (0, [.ref (Q2 0), .ref (Q2 1), .ref (Q2 2), .ref (Q2 3), .int 0])), ((Q2 0), lp_z cI 1200), ((Q2 1), lp_z cI 1200), ((Q2 2), lp_z cI 11), ((Q2 3), lp_z cI 11), (a40_20, .inl (cI, 10, .inl (lp_ff (fun _ => 0) 1 10))), (a54_27, .inr (5, [.ref (Q4 0)])), ((Q4 0), .inl (cD, 11, .inr (.inr (.inr (.inr (va_up (va_up (va_up (va_up (va_up (va_up (va_up (va_up (va_up (va_up (va_up (fun _ => none) 0 (some ((Q4 1)))) 1 (some ((Q4 4)))) 2 (some ((Q4 7)))) 3 (some ((Q4 10)))) 4 (some ((Q4 13)))) 5 (some ((Q4 16)))) 6 (some ((Q4 19)))) 7 (some ((Q4 22)))) 8 (some ((Q4 25)))) 9 (some ((Q4 28)))) 10 (some ((Q4 31))))))))), ((Q4 1), .inr (1, [.ref (Q4 2), .ref (Q4 3)])), ((Q4 2), lp_z cI 11), ((Q4 3), lp_z cI 11), ((Q4 4), .inr (1, [.ref (Q4 5), .ref (Q4 6)])), ((Q4 5), lp_z cI 11), ((Q4 6), lp_z cI 11), ((Q4 7), .inr (1, [.ref (Q4 8), .ref (Q4 9)])), ((Q4 8), lp_z cI 11), ((Q4 9), lp_z cI 11), ((Q4 10), .inr (1, [.ref (Q4 11), .ref (Q4 12)])), ((Q4 11), lp_z cI 11), ((Q4 12), lp_z cI 11), ((Q4 13), .inr (1, [.ref (Q4 14), .ref (Q4 15)])), ((Q4 14), lp_z cI 11), ((Q4 15), lp_z cI 11), ((Q4 16), .inr (1, [.ref (Q4 17), .ref (Q4 18)])), ((Q4 17), lp_z cI 11), ((Q4 18), lp_z cI 11), ((Q4 19), .inr (1, [.ref (Q4 20), .ref (Q4 21)])), ((Q4 20), lp_z cI 11), ((Q4 21), lp_z cI 11), ((Q4 22), .inr (1, [.ref (Q4 23), .ref (Q4 24)])), ((Q4 23), lp_z cI 11), ((Q4 24), lp_z cI 11), ((Q4 25), .inr (1, [.ref (Q4 26), .ref (Q4 27)])), ((Q4 26), lp_z cI 11), ((Q4 27), lp_z cI 11), ((Q4 28), .inr (1, [.ref (Q4 29), .ref (Q4 30)])), ((Q4 29), lp_z cI 11), ((Q4 30), lp_z cI 11), ((Q4 31), .inr (1, [.ref (Q4 32), .ref (Q4 33)])), ((Q4 32), lp_z cI 11), ((Q4 33), lp_z cI 11), (a65_32, .inr (3, [.ref (Q5 0), .ref (Q5 4), .ref (Q5 5), .ref (Q5 6), .ref (Q5 7), .ref (Q5 8), .ref (Q5 9), .ref (Q5 10), .int 0, .int 0, .int 0, .int 0, .int 0])), ((Q5 0), .inr (4, [.ref (Q5 1), .ref (Q5 2), .ref (Q5 3), .int 0])), ((Q5 1), lp_z cI 1200), ((Q5 2), lp_z cI 1200), ((Q5 3), lp_z cI 61), ((Q5 4), lp_z cI 1200), ((Q5 5), lp_z cI 1200), ((Q5 6), lp_z cI 1200), ((Q5 7), lp_z cI 1200), ((Q5 8), lp_z cI 60), ((Q5 9), lp_z cI 60), ((Q5 10), lp_z cI 8)]) [0, 1, 2, 3, 4, 5, 6, 7, 8, 9, 10, 11, 12, 13, 14, 15, 16, 17, 18, 19, 20, 21, 22, 23, 24, 25, 26, 27, 28, 29, 30, 31, 32, 33, 34, 35, 36, 37, 38, 39, 40, 41, 42, 43, 44, 45, 46, 47, 48, 49, 50, 51, 52, 53, 54, 55, 56, 57, 58, 59, 60, 61] rfl
  have hD9 := hD.sub (ws' := [(h0, .inr (6, [.ref a5_4, .ref a16_9, .ref a27_14, .ref a40_20, .ref a54_27, .ref a65_32])), (a5_4, .inr (4, [.ref (Q0 0), .ref (Q0 1), .ref (Q0 2), .int 0])), ((Q0 0), lp_z cI 1200), ((Q0 1), lp_z cI 1200), ((Q0 2), lp_z cI 61), (a16_9, .inr (2, [.ref (Q1 0), .ref (Q1 1), .ref (Q1 2)])), ((Q1 0), lp_z cI 121), ((Q1 1), lp_z cI 121), ((Q1 2), .inl (cD, 121, .inr (.inr (.inr (.inr (fun _ => none)))))), (a27_14, .inr (0, [.ref (Q2 0), .ref (Q2 1), .ref (Q2 2), .ref (Q2 3), .int 0])), ((Q2 0), lp_z cI 1200), ((Q2 1), lp_z cI 1200), ((Q2 2), lp_z cI 11), ((Q2 3), lp_z cI 11), (a40_20, .inl (cI, 10, .inl (lp_ff (fun _ => 0) 1 10))), (a54_27, .inr (5, [.ref (Q4 0)])), ((Q4 0), .inl (cD, 11, .inr (.inr (.inr (.inr (va_up (va_up (va_up (va_up (va_up (va_up (va_up (va_up (va_up (va_up (va_up (fun _ => none) 0 (some ((Q4 1)))) 1 (some ((Q4 4)))) 2 (some ((Q4 7)))) 3 (some ((Q4 10)))) 4 (some ((Q4 13)))) 5 (some ((Q4 16)))) 6 (some ((Q4 19)))) 7 (some ((Q4 22)))) 8 (some ((Q4 25)))) 9 (some ((Q4 28)))) 10 (some ((Q4 31))))))))), ((Q4 1), .inr (1, [.ref (Q4 2), .ref (Q4 3)])), ((Q4 2), lp_z cI 11), ((Q4 3), lp_z cI 11), ((Q4 4), .inr (1, [.ref (Q4 5), .ref (Q4 6)])), ((Q4 5), lp_z cI 11), ((Q4 6), lp_z cI 11), ((Q4 7), .inr (1, [.ref (Q4 8), .ref (Q4 9)])), ((Q4 8), lp_z cI 11), ((Q4 9), lp_z cI 11), ((Q4 10), .inr (1, [.ref (Q4 11), .ref (Q4 12)])), ((Q4 11), lp_z cI 11), ((Q4 12), lp_z cI 11), ((Q4 13), .inr (1, [.ref (Q4 14), .ref (Q4 15)])), ((Q4 14), lp_z cI 11), ((Q4 15), lp_z cI 11), ((Q4 16), .inr (1, [.ref (Q4 17), .ref (Q4 18)])), ((Q4 17), lp_z cI 11), ((Q4 18), lp_z cI 11), ((Q4 19), .inr (1, [.ref (Q4 20), .ref (Q4 21)])), ((Q4 20), lp_z cI 11), ((Q4 21), lp_z cI 11), ((Q4 22), .inr (1, [.ref (Q4 23), .ref (Q4 24)])), ((Q4 23), lp_z cI 11), ((Q4 24), lp_z cI 11), ((Q4 25), .inr (1, [.ref (Q4 26), .ref (Q4 27)])), ((Q4 26), lp_z cI 11), ((Q4 27), lp_z cI 11), ((Q4 28), .inr (1, [.ref (Q4 29), .ref (Q4 30)])), ((Q4 29), lp_z cI 11), ((Q4 30), lp_z cI 11), ((Q4 31), .inr (1, [.ref (Q4 32), .ref (Q4 33)])), ((Q4 32), lp_z cI 11), ((Q4 33), lp_z cI 11), (a65_32, .inr (3, [.ref (Q5 0), .ref (Q5 4), .ref (Q5 5), .ref (Q5 6), .ref (Q5 7), .ref (Q5 8), .ref (Q5 9), .ref (Q5 10), .int 0, .int 0, .int 0, .int 0, .int 0])), ((Q5 0), .inr (4, [.ref (Q5 1), .ref (Q5 2), .ref (Q5 3), .int 0])), ((Q5 1), lp_z cI 1200), ((Q5 2), lp_z cI 1200), ((Q5 3), lp_z cI 61), ((Q5 4), lp_z cI 1200), ((Q5 5), lp_z cI 1200), ((Q5 6), lp_z cI 1200), ((Q5 7), lp_z cI 1200), ((Q5 8), lp_z cI 60), ((Q5 9), lp_z cI 60), ((Q5 10), lp_z cI 8)]) [0, 1, 2, 3, 4, 5, 6, 7, 8, 9, 10, 11, 12, 13, 14, 15, 16, 17, 18, 19, 20, 21, 22, 23, 24, 25, 26, 27, 28, 29, 30, 31, 32, 33, 34, 35, 36, 37, 38, 39, 40, 41, 42, 43, 44, 45, 46, 47, 48, 49, 50, 51, 52, 53, 54, 55, 56, 57, 58, 59, 60, 61] (by decide) rfl
  exact W.vret hx hb hr (fun t ht hW => ⟨⟨fun k => ([a5_4, (Q0 0), (Q0 1), (Q0 2), a16_9, (Q1 0), (Q1 1), (Q1 2), a27_14, (Q2 0), (Q2 1), (Q2 2), (Q2 3), a40_20, a54_27, (Q4 0), (Q4 1), (Q4 2), (Q4 3), (Q4 4), (Q4 5), (Q4 6), (Q4 7), (Q4 8), (Q4 9), (Q4 10), (Q4 11), (Q4 12), (Q4 13), (Q4 14), (Q4 15), (Q4 16), (Q4 17), (Q4 18), (Q4 19), (Q4 20), (Q4 21), (Q4 22), (Q4 23), (Q4 24), (Q4 25), (Q4 26), (Q4 27), (Q4 28), (Q4 29), (Q4 30), (Q4 31), (Q4 32), (Q4 33), a65_32, (Q5 0), (Q5 1), (Q5 2), (Q5 3), (Q5 4), (Q5 5), (Q5 6), (Q5 7), (Q5 8), (Q5 9), (Q5 10)] : List Nat).getD k 0, rfl, trivial, by rw [ht]; exact hP9, lp_Wd_move hW hWd, hD9⟩, hS.F ht⟩) hS.2.2 dX6_init_75
end
section
/-! ===== constructor of X7 ===== -/
theorem dX7_init_0 : decode cX7_init 0 = .ok (.aload_n 0, 1) := by decide +kernel
theorem dX7_init_1 : decode cX7_init 1 = .ok (.invokespecial 3, 3) := by decide +kernel
theorem dX7_init_4 : decode cX7_init 4 = .ok (.aload_n 0, 1) := by decide +kernel
theorem dX7_init_5 : decode cX7_init 5 = .ok (.bipush 60, 2) := by decide +kernel
theorem dX7_init_7 : decode cX7_init 7 = .ok (.newarray .int, 2) := by decide +kernel
theorem dX7_init_9 : decode cX7_init 9 = .ok (.putfield 9, 3) := by decide +kernel
theorem dX7_init_12 : decode cX7_init 12 = .ok (.aload_n 0, 1) := by decide +kernel
theorem dX7_init_13 : decode cX7_init 13 = .ok (.sipush 1200, 3) := by decide +kernel
theorem dX7_init_16 : decode cX7_init 16 = .ok (.newarray .int, 2) := by decide +kernel
theorem dX7_init_18 : decode cX7_init 18 = .ok (.putfield 13, 3) := by decide +kernel
theorem dX7_init_21 : decode cX7_init 21 = .ok (.aload_n 0, 1) := by decide +kernel
theorem dX7_init_22 : decode cX7_init 22 = .ok (.sipush 1200, 3) := by decide +kernel
theorem dX7_init_25 : decode cX7_init 25 = .ok (.newarray .int, 2) := by decide +kernel
theorem dX7_init_27 : decode cX7_init 27 = .ok (.putfield 16, 3) := by decide +kernel
theorem dX7_init_30 : decode cX7_init 30 = .ok (.aload_n 0, 1) := by decide +kernel
theorem dX7_init_31 : decode cX7_init 31 = .ok (.bipush 121, 2) := by decide +kernel
theorem dX7_init_33 : decode cX7_init 33 = .ok (.newarray .int, 2) := by decide +kernel
theorem dX7_init_35 : decode cX7_init 35 = .ok (.putfield 19, 3) := by decide +kernel
theorem dX7_init_38 : decode cX7_init 38 = .ok (.aload_n 0, 1) := by decide +kernel
theorem dX7_init_39 : decode cX7_init 39 = .ok (.bipush 11, 2) := by decide +kernel
theorem dX7_init_41 : decode cX7_init 41 = .ok (.newarray .int, 2) := by decide +kernel
theorem dX7_init_43 : decode cX7_init 43 = .ok (.putfield 22, 3) := by decide +kernel
theorem dX7_init_46 : decode cX7_init 46 = .ok (.aload_n 0, 1) := by decide +kernel
theorem dX7_init_47 : decode cX7_init 47 = .ok (.sipush 1200, 3) := by decide +kernel
theorem dX7_init_50 : decode cX7_init 50 = .ok (.newarray .int, 2) := by decide +kernel
theorem dX7_init_52 : decode cX7_init 52 = .ok (.putfield 25, 3) := by decide +kernel
theorem dX7_init_55 : decode cX7_init 55 = .ok (.aload_n 0, 1) := by decide +kernel
theorem dX7_init_56 : decode cX7_init 56 = .ok (.sipush 13200, 3) := by decide +kernel
theorem dX7_init_59 : decode cX7_init 59 = .ok (.newarray .int, 2) := by decide +kernel
theorem dX7_init_61 : decode cX7_init 61 = .ok (.putfield 28, 3) := by decide +kernel
theorem dX7_init_64 : decode cX7_init 64 = .ok (.aload_n 0, 1) := by decide +kernel
theorem dX7_init_65 : decode cX7_init 65 = .ok (.bipush 60, 2) := by decide +kernel
theorem dX7_init_67 : decode cX7_init 67 = .ok (.newarray .int, 2) := by decide +kernel
theorem dX7_init_69 : decode cX7_init 69 = .ok (.putfield 31, 3) := by decide +kernel
theorem dX7_init_72 : decode cX7_init 72 = .ok (.aload_n 0, 1) := by decide +kernel
theorem dX7_init_73 : decode cX7_init 73 = .ok (.sipush 1200, 3) := by decide +kernel
theorem dX7_init_76 : decode cX7_init 76 = .ok (.newarray .int, 2) := by decide +kernel
theorem dX7_init_78 : decode cX7_init 78 = .ok (.putfield 34, 3) := by decide +kernel
theorem dX7_init_81 : decode cX7_init 81 = .ok (.aload_n 0, 1) := by decide +kernel
theorem dX7_init_82 : decode cX7_init 82 = .ok (.sipush 1200, 3) := by decide +kernel
theorem dX7_init_85 : decode cX7_init 85 = .ok (.newarray .int, 2) := by decide +kernel
theorem dX7_init_87 : decode cX7_init 87 = .ok (.putfield 37, 3) := by decide +kernel
theorem dX7_init_90 : decode cX7_init 90 = .ok (.aload_n 0, 1) := by decide +kernel
theorem dX7_init_91 : decode cX7_init 91 = .ok (.sipush 1200, 3) := by decide +kernel
theorem dX7_init_94 : decode cX7_init 94 = .ok (.newarray .int, 2) := by decide +kernel
theorem dX7_init_96 : decode cX7_init 96 = .ok (.putfield 40, 3) := by decide +kernel
theorem dX7_init_99 : decode cX7_init 99 = .ok (.aload_n 0, 1) := by decide +kernel
theorem dX7_init_100 : decode cX7_init 100 = .ok (.sipush 1200, 3) := by decide +kernel
theorem dX7_init_103 : decode cX7_init 103 = .ok (.newarray .int, 2) := by decide +kernel
theorem dX7_init_105 : decode cX7_init 105 = .ok (.putfield 43, 3) := by decide +kernel
theorem dX7_init_108 : decode cX7_init 108 = .ok (.aload_n 0, 1) := by decide +kernel
theorem dX7_init_109 : decode cX7_init 109 = .ok (.sipush 1200, 3) := by decide +kernel
theorem dX7_init_112 : decode cX7_init 112 = .ok (.newarray .int, 2) := by decide +kernel
theorem dX7_init_114 : decode cX7_init 114 = .ok (.putfield 46, 3) := by decide +kernel
theorem dX7_init_117 : decode cX7_init 117 = .ok (.aload_n 0, 1) := by decide +kernel
theorem dX7_init_118 : decode cX7_init 118 = .ok (.sipush 1200, 3) := by decide +kernel
theorem dX7_init_121 : decode cX7_init 121 = .ok (.newarray .int, 2) := by decide +kernel
theorem dX7_init_123 : decode cX7_init 123 = .ok (.putfield 49, 3) := by decide +kernel
theorem dX7_init_126 : decode cX7_init 126 = .ok (.aload_n 0, 1) := by decide +kernel
theorem dX7_init_127 : decode cX7_init 127 = .ok (.bipush 121, 2) := by decide +kernel
theorem dX7_init_129 : decode cX7_init 129 = .ok (.newarray .int, 2) := by decide +kernel
theorem dX7_init_131 : decode cX7_init 131 = .ok (.putfield 52, 3) := by decide +kernel
theorem dX7_init_134 : decode cX7_init 134 = .ok (.aload_n 0, 1) := by decide +kernel
theorem dX7_init_135 : decode cX7_init 135 = .ok (.sipush 7381, 3) := by decide +kernel
theorem dX7_init_138 : decode cX7_init 138 = .ok (.newarray .int, 2) := by decide +kernel
theorem dX7_init_140 : decode cX7_init 140 = .ok (.putfield 55, 3) := by decide +kernel
theorem dX7_init_143 : decode cX7_init 143 = .ok (.aload_n 0, 1) := by decide +kernel
theorem dX7_init_144 : decode cX7_init 144 = .ok (.bipush 121, 2) := by decide +kernel
theorem dX7_init_146 : decode cX7_init 146 = .ok (.newarray .int, 2) := by decide +kernel
theorem dX7_init_148 : decode cX7_init 148 = .ok (.putfield 58, 3) := by decide +kernel
theorem dX7_init_151 : decode cX7_init 151 = .ok (.aload_n 0, 1) := by decide +kernel
theorem dX7_init_152 : decode cX7_init 152 = .ok (.sipush 7381, 3) := by decide +kernel
theorem dX7_init_155 : decode cX7_init 155 = .ok (.newarray .int, 2) := by decide +kernel
theorem dX7_init_157 : decode cX7_init 157 = .ok (.putfield 61, 3) := by decide +kernel
theorem dX7_init_160 : decode cX7_init 160 = .ok (.aload_n 0, 1) := by decide +kernel
theorem dX7_init_161 : decode cX7_init 161 = .ok (.bipush 8, 2) := by decide +kernel
theorem dX7_init_163 : decode cX7_init 163 = .ok (.newarray .int, 2) := by decide +kernel
theorem dX7_init_165 : decode cX7_init 165 = .ok (.putfield 64, 3) := by decide +kernel
theorem dX7_init_168 : decode cX7_init 168 = .ok (.aload_n 0, 1) := by decide +kernel
theorem dX7_init_169 : decode cX7_init 169 = .ok (.bipush 60, 2) := by decide +kernel
theorem dX7_init_171 : decode cX7_init 171 = .ok (.newarray .int, 2) := by decide +kernel
theorem dX7_init_173 : decode cX7_init 173 = .ok (.putfield 67, 3) := by decide +kernel
theorem dX7_init_176 : decode cX7_init 176 = .ok (.iconst 0, 1) := by decide +kernel
theorem dX7_init_177 : decode cX7_init 177 = .ok (.istore_n 1, 1) := by decide +kernel
theorem dX7_init_178 : decode cX7_init 178 = .ok (.iload_n 1, 1) := by decide +kernel
theorem dX7_init_179 : decode cX7_init 179 = .ok (.bipush 11, 2) := by decide +kernel
theorem dX7_init_181 : decode cX7_init 181 = .ok (.if_icmp .ge 16, 3) := by decide +kernel
theorem dX7_init_184 : decode cX7_init 184 = .ok (.aload_n 0, 1) := by decide +kernel
theorem dX7_init_185 : decode cX7_init 185 = .ok (.getfield 22, 3) := by decide +kernel
theorem dX7_init_188 : decode cX7_init 188 = .ok (.iload_n 1, 1) := by decide +kernel
theorem dX7_init_189 : decode cX7_init 189 = .ok (.iconst 1, 1) := by decide +kernel
theorem dX7_init_190 : decode cX7_init 190 = .ok (.iastore, 1) := by decide +kernel
theorem dX7_init_191 : decode cX7_init 191 = .ok (.iinc 1 1, 3) := by decide +kernel
theorem dX7_init_194 : decode cX7_init 194 = .ok (.goto (-16), 3) := by decide +kernel
theorem dX7_init_197 : decode cX7_init 197 = .ok (.return_, 1) := by decide +kernel
def wX7 (cI cD : ClassId) (h : Nat) (q : Nat → Nat) : va_W := [(h, .inr (7, [.int 0, .ref (q 0), .ref (q 1), .ref (q 2), .ref (q 3), .ref (q 4), .ref (q 5), .ref (q 6), .int 0, .int 0, .int 0, .int 0, .int 0, .ref (q 7), .ref (q 8), .ref (q 9), .ref (q 10), .ref (q 11), .ref (q 12), .ref (q 13), .ref (q 14), .ref (q 15), .ref (q 16), .ref (q 17), .ref (q 18), .ref (q 19)])), (q 0, lp_z cI 60), (q 1, lp_z cI 1200), (q 2, lp_z cI 1200), (q 3, lp_z cI 121), (q 4, .inl (cI, 11, .inl (upd (upd (upd (upd (upd (upd (upd (upd (upd (upd (upd (fun _ => 0) 0 1) 1 1) 2 1) 3 1) 4 1) 5 1) 6 1) 7 1) 8 1) 9 1) 10 1))), (q 5, lp_z cI 1200), (q 6, lp_z cI 13200), (q 7, lp_z cI 60), (q 8, lp_z cI 1200), (q 9, lp_z cI 1200), (q 10, lp_z cI 1200), (q 11, lp_z cI 1200), (q 12, lp_z cI 1200), (q 13, lp_z cI 1200), (q 14, lp_z cI 121), (q 15, lp_z cI 7381), (q 16, lp_z cI 121), (q 17, lp_z cI 7381), (q 18, lp_z cI 8), (q 19, lp_z cI 60)]
set_option maxHeartbeats 16000000 in
set_option maxRecDepth 100000 in
theorem ci_X7 (l : Launch) (D : va_G) (cI cD : ClassId) (h0 sz : Nat) : Met l yX7_init (.code yX7_init cX7_init 2 none :: lp_tbl) { frames := 1, cells := 20, slots := 39324, locals := 36 } (va_Pc [.ref h0] (fun U => U.heap.size = sz ∧ va_P D vwCl [(h0, .inr (7, [.int 0, .null, .null, .null, .null, .null, .null, .null, .int 0, .int 0, .int 0, .int 0, .int 0, .null, .null, .null, .null, .null, .null, .null, .null, .null, .null, .null, .null, .null]))] U.heap ∧ lp_Wd D cI cD U ∧ va_D (fun _ => True) [(h0, .inr (7, [.int 0, .null, .null, .null, .null, .null, .null, .null, .int 0, .int 0, .int 0, .int 0, .int 0, .null, .null, .null, .null, .null, .null, .null, .null, .null, .null, .null, .null, .null]))])) (va_Qv (fun _ : Nat → Nat => True) (fun q t => va_P D vwCl (wX7 cI cD h0 q) t.heap ∧ lp_Wd D cI cD t ∧ va_D (va_A [(h0, .inr (7, [.int 0, .null, .null, .null, .null, .null, .null, .null, .int 0, .int 0, .int 0, .int 0, .int 0, .null, .null, .null, .null, .null, .null, .null, .null, .null, .null, .null, .null, .null]))] sz) (wX7 cI cD h0 q)) (va_A [(h0, .inr (7, [.int 0, .null, .null, .null, .null, .null, .null, .null, .int 0, .int 0, .int 0, .int 0, .int 0, .null, .null, .null, .null, .null, .null, .null, .null, .null, .null, .null, .null, .null]))] sz)) 20 (39324) (va_A [(h0, .inr (7, [.int 0, .null, .null, .null, .null, .null, .null, .null, .int 0, .int 0, .int 0, .int 0, .int 0, .null, .null, .null, .null, .null, .null, .null, .null, .null, .null, .null, .null, .null]))] sz) := by
  refine Met.ofW (cc := cX7_init) (maxL := 2) (ret := none) (by decide) rfl ?_
  intro p e s m args below meth c s₁ B hml hv
  obtain ⟨rfl, hsz, hP, hWd, hD0⟩ := hv
  have hx := B.exec
  have hb := B.bytes
  have hr := B.returns
  have hts := atoms_spec (ws := Cond.code yX7_init cX7_init 2 none :: lp_tbl) B.pre
  have T : ∀ w ∈ lp_tbl, w.before ([.ref h0] : List Value).toArray s = true := fun w hw => hts w (List.mem_cons_of_mem _ hw)
  have hown : s.vm.findClass RX7 = some m.cls := findClass_of_methodNamed B.named
  have hlocks := B.notSynchronized
  have hin : meth.name = "<init>" := (name_of_methodNamed B.named B.method).1
  subst hsz
  have hD := hD0.self (sz := s.heap.size)
  generalize hAe : va_A [(h0, .inr (7, [.int 0, .null, .null, .null, .null, .null, .null, .null, .int 0, .int 0, .int 0, .int 0, .int 0, .null, .null, .null, .null, .null, .null, .null, .null, .null, .null, .null, .null, .null]))] s.heap.size = A at hD ⊢
  have hA : ∀ q : Nat, s.heap.size ≤ q → A q := fun q h => by rw [← hAe]; exact Or.inr h
  have hS : va_S A s.heap s.heap [] := va_S.rf
  have hl := lv_entry ([.ref h0]) (n := 2) (Nat.le_of_ble_eq_true rfl)
  rw [lg_entry_eq]
  generalize (lg_sl ([.ref h0]) ++ List.replicate (2 - (lg_sl ([.ref h0])).length) Slot.unset).toArray = ls at hl ⊢
  have hl : lv_has ls 2 [(0, .ref h0)] := hl
  have hRf : (headSpec (Cond.code yX7_init cX7_init 2 none :: lp_tbl) { frames := 1, cells := 20, slots := 39324, locals := 36 }).room.frames = 1 := rfl
  have hRl : (headSpec (Cond.code yX7_init cX7_init 2 none :: lp_tbl) { frames := 1, cells := 20, slots := 39324, locals := 36 }).room.locals = 36 := rfl
  have hRc : (headSpec (Cond.code yX7_init cX7_init 2 none :: lp_tbl) { frames := 1, cells := 20, slots := 39324, locals := 36 }).room.cells = 20 := rfl
  have hRs : (headSpec (Cond.code yX7_init cX7_init 2 none :: lp_tbl) { frames := 1, cells := 20, slots := 39324, locals := 36 }).room.slots = 39324 := rfl
  refine lv_aload_n hx hb dX7_init_0 rfl (lv_at hl 0 rfl) ?_
  refine W.objInit hx hb hown (T (.methodLink RX7 3 objectInit) (by decide +kernel)) (T (.instanceMethod objectInit) (by decide +kernel)) (T (.code objectInit ⟨#[0xb1]⟩ 1 none) (by decide +kernel)) rfl (by rw [hml]; exact hl.1) rfl dX7_init_1 (Nat.le_of_ble_eq_true rfl) (Nat.le_of_ble_eq_true rfl) ?_
  refine W.eq (g2 := F0 m 4 ls []) rfl ?_
  refine lv_aload_n hx hb dX7_init_4 rfl (lv_at hl 0 rfl) ?_
  refine lv_bipush (v := 60) hx hb dX7_init_5 (by decide) ?_
  refine lp_newa (N' := 60) hx hb T hWd hP hD hS hA (by decide) (by decide) (by omega) (by rw [hRc]; exact Nat.le_of_ble_eq_true rfl) (by rw [hRs]; exact Nat.le_of_ble_eq_true rfl) dX7_init_7 (fun a7_5 H hP hD hS => ?_)
  refine W.widen (k := 1) (n := 60) (by omega) (by omega) ?_
  have hP : va_P D vwCl [(h0, .inr (7, [.int 0, .null, .null, .null, .null, .null, .null, .null, .int 0, .int 0, .int 0, .int 0, .int 0, .null, .null, .null, .null, .null, .null, .null, .null, .null, .null, .null, .null, .null])), (a7_5, lp_z cI 60)] H := hP
  have hD : va_D A [(h0, .inr (7, [.int 0, .null, .null, .null, .null, .null, .null, .null, .int 0, .int 0, .int 0, .int 0, .int 0, .null, .null, .null, .null, .null, .null, .null, .null, .null, .null, .null, .null, .null])), (a7_5, lp_z cI 60)] := hD
  refine va_putF (D := D) (ci := 7) (v := .ref a7_5) (ty := .array .int) (C := RX7) (T := TX7) (N := 26) hx hb T lp_u7 tyX7 tyX7_ok nmX7 hown hWd.1 hP hD hS 0 rfl rfl 1 (by decide) (T (.fieldLink RX7 9 "LoadPressModel" "many" "[I") (by decide +kernel)) (fun _ h9 => h9) rfl hin rfl (by decide +kernel) rfl rfl (Nat.le_of_ble_eq_true rfl) dX7_init_9 (fun H locs hP hD hS => ?_)
  have hP : va_P D vwCl [(h0, .inr (7, [.int 0, .ref a7_5, .null, .null, .null, .null, .null, .null, .int 0, .int 0, .int 0, .int 0, .int 0, .null, .null, .null, .null, .null, .null, .null, .null, .null, .null, .null, .null, .null])), (a7_5, lp_z cI 60)] H := hP
  have hD : va_D A [(h0, .inr (7, [.int 0, .ref a7_5, .null, .null, .null, .null, .null, .null, .int 0, .int 0, .int 0, .int 0, .int 0, .null, .null, .null, .null, .null, .null, .null, .null, .null, .null, .null, .null, .null])), (a7_5, lp_z cI 60)] := hD
  refine lv_aload_n hx hb dX7_init_12 rfl (lv_at hl 0 rfl) ?_
  refine lv_sipush (v := 1200) hx hb dX7_init_13 (by decide) ?_
  refine lp_newa (N' := 1200) hx hb T hWd hP hD hS hA (by decide) (by decide) (by omega) (by rw [hRc]; exact Nat.le_of_ble_eq_true rfl) (by rw [hRs]; exact Nat.le_of_ble_eq_true rfl) dX7_init_16 (fun a16_9 H hP hD hS => ?_)
  refine W.widen (k := 2) (n := 1260) (by omega) (by omega) ?_
  have hP : va_P D vwCl [(h0, .inr (7, [.int 0, .ref a7_5, .null, .null, .null, .null, .null, .null, .int 0, .int 0, .int 0, .int 0, .int 0, .null, .null, .null, .null, .null, .null, .null, .null, .null, .null, .null, .null, .null])), (a7_5, lp_z cI 60), (a16_9, lp_z cI 1200)] H := hP
  have hD : va_D A [(h0, .inr (7, [.int 0, .ref a7_5, .null, .null, .null, .null, .null, .null, .int 0, .int 0, .int 0, .int 0, .int 0, .null, .null, .null, .null, .null, .null, .null, .null, .null, .null, .null, .null, .null])), (a7_5, lp_z cI 60), (a16_9, lp_z cI 1200)] := hD
  refine va_putF (D := D) (ci := 7) (v := .ref a16_9) (ty := .array .int) (C := RX7) (T := TX7) (N := 26) hx hb T lp_u7 tyX7 tyX7_ok nmX7 hown hWd.1 hP hD hS 0 rfl rfl 2 (by decide) (T (.fieldLink RX7 13 "LoadPressModel" "page" "[I") (by decide +kernel)) (fun _ h9 => h9) rfl hin rfl (by decide +kernel) rfl rfl (Nat.le_of_ble_eq_true rfl) dX7_init_18 (fun H locs hP hD hS => ?_)
  have hP : va_P D vwCl [(h0, .inr (7, [.int 0, .ref a7_5, .ref a16_9, .null, .null, .null, .null, .null, .int 0, .int 0, .int 0, .int 0, .int 0, .null, .null, .null, .null, .null, .null, .null, .null, .null, .null, .null, .null, .null])), (a7_5, lp_z cI 60), (a16_9, lp_z cI 1200)] H := hP
  have hD : va_D A [(h0, .inr (7, [.int 0, .ref a7_5, .ref a16_9, .null, .null, .null, .null, .null, .int 0, .int 0, .int 0, .int 0, .int 0, .null, .null, .null, .null, .null, .null, .null, .null, .null, .null, .null, .null, .null])), (a7_5, lp_z cI 60), (a16_9, lp_z cI 1200)] := hD
  refine lv_aload_n hx hb dX7_init_21 rfl (lv_at hl 0 rfl) ?_
  refine lv_sipush (v := 1200) hx hb dX7_init_22 (by decide) ?_
  refine lp_newa (N' := 1200) hx hb T hWd hP hD hS hA (by decide) (by decide) (by omega) (by rw [hRc]; exact Nat.le_of_ble_eq_true rfl) (by rw [hRs]; exact Nat.le_of_ble_eq_true rfl) dX7_init_25 (fun a25_13 H hP hD hS => ?_)
  refine W.widen (k := 3) (n := 2460) (by omega) (by omega) ?_
  have hP : va_P D vwCl [(h0, .inr (7, [.int 0, .ref a7_5, .ref a16_9, .null, .null, .null, .null, .null, .int 0, .int 0, .int 0, .int 0, .int 0, .null, .null, .null, .null, .null, .null, .null, .null, .null, .null, .null, .null, .null])), (a7_5, lp_z cI 60), (a16_9, lp_z cI 1200), (a25_13, lp_z cI 1200)] H := hP
  have hD : va_D A [(h0, .inr (7, [.int 0, .ref a7_5, .ref a16_9, .null, .null, .null, .null, .null, .int 0, .int 0, .int 0, .int 0, .int 0, .null, .null, .null, .null, .null, .null, .null, .null, .null, .null, .null, .null, .null])), (a7_5, lp_z cI 60), (a16_9, lp_z cI 1200), (a25_13, lp_z cI 1200)] := hD
  refine va_putF (D := D) (ci := 7) (v := .ref a25_13) (ty := .array .int) (C := RX7) (T := TX7) (N := 26) hx hb T lp_u7 tyX7 tyX7_ok nmX7 hown hWd.1 hP hD hS 0 rfl rfl 3 (by decide) (T (.fieldLink RX7 16 "LoadPressModel" "wait" "[I") (by decide +kernel)) (fun _ h9 => h9) rfl hin rfl (by decide +kernel) rfl rfl (Nat.le_of_ble_eq_true rfl) dX7_init_27 (fun H locs hP hD hS => ?_)
  have hP : va_P D vwCl [(h0, .inr (7, [.int 0, .ref a7_5, .ref a16_9, .ref a25_13, .null, .null, .null, .null, .int 0, .int 0, .int 0, .int 0, .int 0, .null, .null, .null, .null, .null, .null, .null, .null, .null, .null, .null, .null, .null])), (a7_5, lp_z cI 60), (a16_9, lp_z cI 1200), (a25_13, lp_z cI 1200)] H := hP
  have hD : va_D A [(h0, .inr (7, [.int 0, .ref a7_5, .ref a16_9, .ref a25_13, .null, .null, .null, .null, .int 0, .int 0, .int 0, .int 0, .int 0, .null, .null, .null, .null, .null, .null, .null, .null, .null, .null, .null, .null, .null])), (a7_5, lp_z cI 60), (a16_9, lp_z cI 1200), (a25_13, lp_z cI 1200)] := hD
  refine lv_aload_n hx hb dX7_init_30 rfl (lv_at hl 0 rfl) ?_
  refine lv_bipush (v := 121) hx hb dX7_init_31 (by decide) ?_
  refine lp_newa (N' := 121) hx hb T hWd hP hD hS hA (by decide) (by decide) (by omega) (by rw [hRc]; exact Nat.le_of_ble_eq_true rfl) (by rw [hRs]; exact Nat.le_of_ble_eq_true rfl) dX7_init_33 (fun a33_17 H hP hD hS => ?_)
  refine W.widen (k := 4) (n := 2581) (by omega) (by omega) ?_
  have hP : va_P D vwCl [(h0, .inr (7, [.int 0, .ref a7_5, .ref a16_9, .ref a25_13, .null, .null, .null, .null, .int 0, .int 0, .int 0, .int 0, .int 0, .null, .null, .null, .null, .null, .null, .null, .null, .null, .null, .null, .null, .null])), (a7_5, lp_z cI 60), (a16_9, lp_z cI 1200), (a25_13, lp_z cI 1200), (a33_17, lp_z cI 121)] H := hP
  have hD : va_D A [(h0, .inr (7, [.int 0, .ref a7_5, .ref a16_9, .ref a25_13, .null, .null, .null, .null, .int 0, .int 0, .int 0, .int 0, .int 0, .null, .null, .null, .null, .null, .null, .null, .null, .null, .null, .null, .null, .null])), (a7_5, lp_z cI 60), (a16_9, lp_z cI 1200), (a25_13, lp_z cI 1200), (a33_17, lp_z cI 121)] := hD
  refine va_putF (D := D) (ci := 7) (v := .ref a33_17) (ty := .array .int) (C := RX7) (T := TX7) (N := 26) hx hb T lp_u7 tyX7 tyX7_ok nmX7 hown hWd.1 hP hD hS 0 rfl rfl 4 (by decide) (T (.fieldLink RX7 19 "LoadPressModel" "rare" "[I") (by decide +kernel)) (fun _ h9 => h9) rfl hin rfl (by decide +kernel) rfl rfl (Nat.le_of_ble_eq_true rfl) dX7_init_35 (fun H locs hP hD hS => ?_)
  have hP : va_P D vwCl [(h0, .inr (7, [.int 0, .ref a7_5, .ref a16_9, .ref a25_13, .ref a33_17, .null, .null, .null, .int 0, .int 0, .int 0, .int 0, .int 0, .null, .null, .null, .null, .null, .null, .null, .null, .null, .null, .null, .null, .null])), (a7_5, lp_z cI 60), (a16_9, lp_z cI 1200), (a25_13, lp_z cI 1200), (a33_17, lp_z cI 121)] H := hP
  have hD : va_D A [(h0, .inr (7, [.int 0, .ref a7_5, .ref a16_9, .ref a25_13, .ref a33_17, .null, .null, .null, .int 0, .int 0, .int 0, .int 0, .int 0, .null, .null, .null, .null, .null, .null, .null, .null, .null, .null, .null, .null, .null])), (a7_5, lp_z cI 60), (a16_9, lp_z cI 1200), (a25_13, lp_z cI 1200), (a33_17, lp_z cI 121)] := hD
  refine lv_aload_n hx hb dX7_init_38 rfl (lv_at hl 0 rfl) ?_
  refine lv_bipush (v := 11) hx hb dX7_init_39 (by decide) ?_
  refine lp_newa (N' := 11) hx hb T hWd hP hD hS hA (by decide) (by decide) (by omega) (by rw [hRc]; exact Nat.le_of_ble_eq_true rfl) (by rw [hRs]; exact Nat.le_of_ble_eq_true rfl) dX7_init_41 (fun a41_21 H hP hD hS => ?_)
  refine W.widen (k := 5) (n := 2592) (by omega) (by omega) ?_
  have hP : va_P D vwCl [(h0, .inr (7, [.int 0, .ref a7_5, .ref a16_9, .ref a25_13, .ref a33_17, .null, .null, .null, .int 0, .int 0, .int 0, .int 0, .int 0, .null, .null, .null, .null, .null, .null, .null, .null, .null, .null, .null, .null, .null])), (a7_5, lp_z cI 60), (a16_9, lp_z cI 1200), (a25_13, lp_z cI 1200), (a33_17, lp_z cI 121), (a41_21, lp_z cI 11)] H := hP
  have hD : va_D A [(h0, .inr (7, [.int 0, .ref a7_5, .ref a16_9, .ref a25_13, .ref a33_17, .null, .null, .null, .int 0, .int 0, .int 0, .int 0, .int 0, .null, .null, .null, .null, .null, .null, .null, .null, .null, .null, .null, .null, .null])), (a7_5, lp_z cI 60), (a16_9, lp_z cI 1200), (a25_13, lp_z cI 1200), (a33_17, lp_z cI 121), (a41_21, lp_z cI 11)] := hD
  refine va_putF (D := D) (ci := 7) (v := .ref a41_21) (ty := .array .int) (C := RX7) (T := TX7) (N := 26) hx hb T lp_u7 tyX7 tyX7_ok nmX7 hown hWd.1 hP hD hS 0 rfl rfl 5 (by decide) (T (.fieldLink RX7 22 "LoadPressModel" "cost" "[I") (by decide +kernel)) (fun _ h9 => h9) rfl hin rfl (by decide +kernel) rfl rfl (Nat.le_of_ble_eq_true rfl) dX7_init_43 (fun H locs hP hD hS => ?_)
  have hP : va_P D vwCl [(h0, .inr (7, [.int 0, .ref a7_5, .ref a16_9, .ref a25_13, .ref a33_17, .ref a41_21, .null, .null, .int 0, .int 0, .int 0, .int 0, .int 0, .null, .null, .null, .null, .null, .null, .null, .null, .null, .null, .null, .null, .null])), (a7_5, lp_z cI 60), (a16_9, lp_z cI 1200), (a25_13, lp_z cI 1200), (a33_17, lp_z cI 121), (a41_21, lp_z cI 11)] H := hP
  have hD : va_D A [(h0, .inr (7, [.int 0, .ref a7_5, .ref a16_9, .ref a25_13, .ref a33_17, .ref a41_21, .null, .null, .int 0, .int 0, .int 0, .int 0, .int 0, .null, .null, .null, .null, .null, .null, .null, .null, .null, .null, .null, .null, .null])), (a7_5, lp_z cI 60), (a16_9, lp_z cI 1200), (a25_13, lp_z cI 1200), (a33_17, lp_z cI 121), (a41_21, lp_z cI 11)] := hD
  refine lv_aload_n hx hb dX7_init_46 rfl (lv_at hl 0 rfl) ?_
  refine lv_sipush (v := 1200) hx hb dX7_init_47 (by decide) ?_
  refine lp_newa (N' := 1200) hx hb T hWd hP hD hS hA (by decide) (by decide) (by omega) (by rw [hRc]; exact Nat.le_of_ble_eq_true rfl) (by rw [hRs]; exact Nat.le_of_ble_eq_true rfl) dX7_init_50 (fun a50_25 H hP hD hS => ?_)
  refine W.widen (k := 6) (n := 3792) (by omega) (by omega) ?_
  have hP : va_P D vwCl [(h0, .inr (7, [.int 0, .ref a7_5, .ref a16_9, .ref a25_13, .ref a33_17, .ref a41_21, .null, .null, .int 0, .int 0, .int 0, .int 0, .int 0, .null, .null, .null, .null, .null, .null, .null, .null, .null, .null, .null, .null, .null])), (a7_5, lp_z cI 60), (a16_9, lp_z cI 1200), (a25_13, lp_z cI 1200), (a33_17, lp_z cI 121), (a41_21, lp_z cI 11), (a50_25, lp_z cI 1200)] H := hP
  have hD : va_D A [(h0, .inr (7, [.int 0, .ref a7_5, .ref a16_9, .ref a25_13, .ref a33_17, .ref a41_21, .null, .null, .int 0, .int 0, .int 0, .int 0, .int 0, .null, .null, .null, .null, .null, .null, .null, .null, .null, .null, .null, .null, .null])), (a7_5, lp_z cI 60), (a16_9, lp_z cI 1200), (a25_13, lp_z cI 1200), (a33_17, lp_z cI 121), (a41_21, lp_z cI 11), (a50_25, lp_z cI 1200)] := hD
  refine va_putF (D := D) (ci := 7) (v := .ref a50_25) (ty := .array .int) (C := RX7) (T := TX7) (N := 26) hx hb T lp_u7 tyX7 tyX7_ok nmX7 hown hWd.1 hP hD hS 0 rfl rfl 6 (by decide) (T (.fieldLink RX7 25 "LoadPressModel" "rowKey" "[I") (by decide +kernel)) (fun _ h9 => h9) rfl hin rfl (by decide +kernel) rfl rfl (Nat.le_of_ble_eq_true rfl) dX7_init_52 (fun H locs hP hD hS => ?_)
  have hP : va_P D vwCl [(h0, .inr (7, [.int 0, .ref a7_5, .ref a16_9, .ref a25_13, .ref a33_17, .ref a41_21, .ref a50_25, .null, .int 0, .int 0, .int 0, .int 0, .int 0, .null, .null, .null, .null, .null, .null, .null, .null, .null, .null, .null, .null, .null])), (a7_5, lp_z cI 60), (a16_9, lp_z cI 1200), (a25_13, lp_z cI 1200), (a33_17, lp_z cI 121), (a41_21, lp_z cI 11), (a50_25, lp_z cI 1200)] H := hP
  have hD : va_D A [(h0, .inr (7, [.int 0, .ref a7_5, .ref a16_9, .ref a25_13, .ref a33_17, .ref a41_21, .ref a50_25, .null, .int 0, .int 0, .int 0, .int 0, .int 0, .null, .null, .null, .null, .null, .null, .null, .null, .null, .null, .null, .null, .null])), (a7_5, lp_z cI 60), (a16_9, lp_z cI 1200), (a25_13, lp_z cI 1200), (a33_17, lp_z cI 121), (a41_21, lp_z cI 11), (a50_25, lp_z cI 1200)] := hD
  refine lv_aload_n hx hb dX7_init_55 rfl (lv_at hl 0 rfl) ?_
  refine lv_sipush (v := 13200) hx hb dX7_init_56 (by decide) ?_
  refine lp_newa (N' := 13200) hx hb T hWd hP hD hS hA (by decide) (by decide) (by omega) (by rw [hRc]; exact Nat.le_of_ble_eq_true rfl) (by rw [hRs]; exact Nat.le_of_ble_eq_true rfl) dX7_init_59 (fun a59_29 H hP hD hS => ?_)
  refine W.widen (k := 7) (n := 16992) (by omega) (by omega) ?_
  have hP : va_P D vwCl [(h0, .inr (7, [.int 0, .ref a7_5, .ref a16_9, .ref a25_13, .ref a33_17, .ref a41_21, .ref a50_25, .null, .int 0, .int 0, .int 0, .int 0, .int 0, .null, .null, .null, .null, .null, .null, .null, .null, .null, .null, .null, .null, .null])), (a7_5, lp_z cI 60), (a16_9, lp_z cI 1200), (a25_13, lp_z cI 1200), (a33_17, lp_z cI 121), (a41_21, lp_z cI 11), (a50_25, lp_z cI 1200), (a59_29, lp_z cI 13200)] H := hP
  have hD : va_D A [(h0, .inr (7, [.int 0, .ref a7_5, .ref a16_9, .ref a25_13, .ref a33_17, .ref a41_21, .ref a50_25, .null, .int 0, .int 0, .int 0, .int 0, .int 0, .null, .null, .null, .null, .null, .null, .null, .null, .null, .null, .null, .null, .null])), (a7_5, lp_z cI 60), (a16_9, lp_z cI 1200), (a25_13, lp_z cI 1200), (a33_17, lp_z cI 121), (a41_21, lp_z cI 11), (a50_25, lp_z cI 1200), (a59_29, lp_z cI 13200)] := hD
  refine va_putF (D := D) (ci := 7) (v := .ref a59_29) (ty := .array .int) (C := RX7) (T := TX7) (N := 26) hx hb T lp_u7 tyX7 tyX7_ok nmX7 hown hWd.1 hP hD hS 0 rfl rfl 7 (by decide) (T (.fieldLink RX7 28 "LoadPressModel" "rowNext" "[I") (by decide +kernel)) (fun _ h9 => h9) rfl hin rfl (by decide +kernel) rfl rfl (Nat.le_of_ble_eq_true rfl) dX7_init_61 (fun H locs hP hD hS => ?_)
  have hP : va_P D vwCl [(h0, .inr (7, [.int 0, .ref a7_5, .ref a16_9, .ref a25_13, .ref a33_17, .ref a41_21, .ref a50_25, .ref a59_29, .int 0, .int 0, .int 0, .int 0, .int 0, .null, .null, .null, .null, .null, .null, .null, .null, .null, .null, .null, .null, .null])), (a7_5, lp_z cI 60), (a16_9, lp_z cI 1200), (a25_13, lp_z cI 1200), (a33_17, lp_z cI 121), (a41_21, lp_z cI 11), (a50_25, lp_z cI 1200), (a59_29, lp_z cI 13200)] H := hP
  have hD : va_D A [(h0, .inr (7, [.int 0, .ref a7_5, .ref a16_9, .ref a25_13, .ref a33_17, .ref a41_21, .ref a50_25, .ref a59_29, .int 0, .int 0, .int 0, .int 0, .int 0, .null, .null, .null, .null, .null, .null, .null, .null, .null, .null, .null, .null, .null])), (a7_5, lp_z cI 60), (a16_9, lp_z cI 1200), (a25_13, lp_z cI 1200), (a33_17, lp_z cI 121), (a41_21, lp_z cI 11), (a50_25, lp_z cI 1200), (a59_29, lp_z cI 13200)] := hD
  refine lv_aload_n hx hb dX7_init_64 rfl (lv_at hl 0 rfl) ?_
  refine lv_bipush (v := 60) hx hb dX7_init_65 (by decide) ?_
  refine lp_newa (N' := 60) hx hb T hWd hP hD hS hA (by decide) (by decide) (by omega) (by rw [hRc]; exact Nat.le_of_ble_eq_true rfl) (by rw [hRs]; exact Nat.le_of_ble_eq_true rfl) dX7_init_67 (fun a67_33 H hP hD hS => ?_)
  refine W.widen (k := 8) (n := 17052) (by omega) (by omega) ?_
  have hP : va_P D vwCl [(h0, .inr (7, [.int 0, .ref a7_5, .ref a16_9, .ref a25_13, .ref a33_17, .ref a41_21, .ref a50_25, .ref a59_29, .int 0, .int 0, .int 0, .int 0, .int 0, .null, .null, .null, .null, .null, .null, .null, .null, .null, .null, .null, .null, .null])), (a7_5, lp_z cI 60), (a16_9, lp_z cI 1200), (a25_13, lp_z cI 1200), (a33_17, lp_z cI 121), (a41_21, lp_z cI 11), (a50_25, lp_z cI 1200), (a59_29, lp_z cI 13200), (a67_33, lp_z cI 60)] H := hP
  have hD : va_D A [(h0, .inr (7, [.int 0, .ref a7_5, .ref a16_9, .ref a25_13, .ref a33_17, .ref a41_21, .ref a50_25, .ref a59_29, .int 0, .int 0, .int 0, .int 0, .int 0, .null, .null, .null, .null, .null, .null, .null, .null, .null, .null, .null, .null, .null])), (a7_5, lp_z cI 60), (a16_9, lp_z cI 1200), (a25_13, lp_z cI 1200), (a33_17, lp_z cI 121), (a41_21, lp_z cI 11), (a50_25, lp_z cI 1200), (a59_29, lp_z cI 13200), (a67_33, lp_z cI 60)] := hD
  refine va_putF (D := D) (ci := 7) (v := .ref a67_33) (ty := .array .int) (C := RX7) (T := TX7) (N := 26) hx hb T lp_u7 tyX7 tyX7_ok nmX7 hown hWd.1 hP hD hS 0 rfl rfl 13 (by decide) (T (.fieldLink RX7 31 "LoadPressModel" "walked" "[I") (by decide +kernel)) (fun _ h9 => h9) rfl hin rfl (by decide +kernel) rfl rfl (Nat.le_of_ble_eq_true rfl) dX7_init_69 (fun H locs hP hD hS => ?_)
  have hP : va_P D vwCl [(h0, .inr (7, [.int 0, .ref a7_5, .ref a16_9, .ref a25_13, .ref a33_17, .ref a41_21, .ref a50_25, .ref a59_29, .int 0, .int 0, .int 0, .int 0, .int 0, .ref a67_33, .null, .null, .null, .null, .null, .null, .null, .null, .null, .null, .null, .null])), (a7_5, lp_z cI 60), (a16_9, lp_z cI 1200), (a25_13, lp_z cI 1200), (a33_17, lp_z cI 121), (a41_21, lp_z cI 11), (a50_25, lp_z cI 1200), (a59_29, lp_z cI 13200), (a67_33, lp_z cI 60)] H := hP
  have hD : va_D A [(h0, .inr (7, [.int 0, .ref a7_5, .ref a16_9, .ref a25_13, .ref a33_17, .ref a41_21, .ref a50_25, .ref a59_29, .int 0, .int 0, .int 0, .int 0, .int 0, .ref a67_33, .null, .null, .null, .null, .null, .null, .null, .null, .null, .null, .null, .null])), (a7_5, lp_z cI 60), (a16_9, lp_z cI 1200), (a25_13, lp_z cI 1200), (a33_17, lp_z cI 121), (a41_21, lp_z cI 11), (a50_25, lp_z cI 1200), (a59_29, lp_z cI 13200), (a67_33, lp_z cI 60)] := hD
  refine lv_aload_n hx hb dX7_init_72 rfl (lv_at hl 0 rfl) ?_
  refine lv_sipush (v := 1200) hx hb dX7_init_73 (by decide) ?_
  refine lp_newa (N' := 1200) hx hb T hWd hP hD hS hA (by decide) (by decide) (by omega) (by rw [hRc]; exact Nat.le_of_ble_eq_true rfl) (by rw [hRs]; exact Nat.le_of_ble_eq_true rfl) dX7_init_76 (fun a76_37 H hP hD hS => ?_)
  refine W.widen (k := 9) (n := 18252) (by omega) (by omega) ?_
  have hP : va_P D vwCl [(h0, .inr (7, [.int 0, .ref a7_5, .ref a16_9, .ref a25_13, .ref a33_17, .ref a41_21, .ref a50_25, .ref a59_29, .int 0, .int 0, .int 0, .int 0, .int 0, .ref a67_33, .null, .null, .null, .null, .null, .null, .null, .null, .null, .null, .null, .null])), (a7_5, lp_z cI 60), (a16_9, lp_z cI 1200), (a25_13, lp_z cI 1200), (a33_17, lp_z cI 121), (a41_21, lp_z cI 11), (a50_25, lp_z cI 1200), (a59_29, lp_z cI 13200), (a67_33, lp_z cI 60), (a76_37, lp_z cI 1200)] H := hP
  have hD : va_D A [(h0, .inr (7, [.int 0, .ref a7_5, .ref a16_9, .ref a25_13, .ref a33_17, .ref a41_21, .ref a50_25, .ref a59_29, .int 0, .int 0, .int 0, .int 0, .int 0, .ref a67_33, .null, .null, .null, .null, .null, .null, .null, .null, .null, .null, .null, .null])), (a7_5, lp_z cI 60), (a16_9, lp_z cI 1200), (a25_13, lp_z cI 1200), (a33_17, lp_z cI 121), (a41_21, lp_z cI 11), (a50_25, lp_z cI 1200), (a59_29, lp_z cI 13200), (a67_33, lp_z cI 60), (a76_37, lp_z cI 1200)] := hD
  refine va_putF (D := D) (ci := 7) (v := .ref a76_37) (ty := .array .int) (C := RX7) (T := TX7) (N := 26) hx hb T lp_u7 tyX7 tyX7_ok nmX7 hown hWd.1 hP hD hS 0 rfl rfl 14 (by decide) (T (.fieldLink RX7 34 "LoadPressModel" "wPage" "[I") (by decide +kernel)) (fun _ h9 => h9) rfl hin rfl (by decide +kernel) rfl rfl (Nat.le_of_ble_eq_true rfl) dX7_init_78 (fun H locs hP hD hS => ?_)
  have hP : va_P D vwCl [(h0, .inr (7, [.int 0, .ref a7_5, .ref a16_9, .ref a25_13, .ref a33_17, .ref a41_21, .ref a50_25, .ref a59_29, .int 0, .int 0, .int 0, .int 0, .int 0, .ref a67_33, .ref a76_37, .null, .null, .null, .null, .null, .null, .null, .null, .null, .null, .null])), (a7_5, lp_z cI 60), (a16_9, lp_z cI 1200), (a25_13, lp_z cI 1200), (a33_17, lp_z cI 121), (a41_21, lp_z cI 11), (a50_25, lp_z cI 1200), (a59_29, lp_z cI 13200), (a67_33, lp_z cI 60), (a76_37, lp_z cI 1200)] H := hP
  have hD : va_D A [(h0, .inr (7, [.int 0, .ref a7_5, .ref a16_9, .ref a25_13, .ref a33_17, .ref a41_21, .ref a50_25, .ref a59_29, .int 0, .int 0, .int 0, .int 0, .int 0, .ref a67_33, .ref a76_37, .null, .null, .null, .null, .null, .null, .null, .null, .null, .null, .null])), (a7_5, lp_z cI 60), (a16_9, lp_z cI 1200), (a25_13, lp_z cI 1200), (a33_17, lp_z cI 121), (a41_21, lp_z cI 11), (a50_25, lp_z cI 1200), (a59_29, lp_z cI 13200), (a67_33, lp_z cI 60), (a76_37, lp_z cI 1200)] := hD
  refine lv_aload_n hx hb dX7_init_81 rfl (lv_at hl 0 rfl) ?_
  refine lv_sipush (v := 1200) hx hb dX7_init_82 (by decide) ?_
  refine lp_newa (N' := 1200) hx hb T hWd hP hD hS hA (by decide) (by decide) (by omega) (by rw [hRc]; exact Nat.le_of_ble_eq_true rfl) (by rw [hRs]; exact Nat.le_of_ble_eq_true rfl) dX7_init_85 (fun a85_41 H hP hD hS => ?_)
  refine W.widen (k := 10) (n := 19452) (by omega) (by omega) ?_
  have hP : va_P D vwCl [(h0, .inr (7, [.int 0, .ref a7_5, .ref a16_9, .ref a25_13, .ref a33_17, .ref a41_21, .ref a50_25, .ref a59_29, .int 0, .int 0, .int 0, .int 0, .int 0, .ref a67_33, .ref a76_37, .null, .null, .null, .null, .null, .null, .null, .null, .null, .null, .null])), (a7_5, lp_z cI 60), (a16_9, lp_z cI 1200), (a25_13, lp_z cI 1200), (a33_17, lp_z cI 121), (a41_21, lp_z cI 11), (a50_25, lp_z cI 1200), (a59_29, lp_z cI 13200), (a67_33, lp_z cI 60), (a76_37, lp_z cI 1200), (a85_41, lp_z cI 1200)] H := hP
  have hD : va_D A [(h0, .inr (7, [.int 0, .ref a7_5, .ref a16_9, .ref a25_13, .ref a33_17, .ref a41_21, .ref a50_25, .ref a59_29, .int 0, .int 0, .int 0, .int 0, .int 0, .ref a67_33, .ref a76_37, .null, .null, .null, .null, .null, .null, .null, .null, .null, .null, .null])), (a7_5, lp_z cI 60), (a16_9, lp_z cI 1200), (a25_13, lp_z cI 1200), (a33_17, lp_z cI 121), (a41_21, lp_z cI 11), (a50_25, lp_z cI 1200), (a59_29, lp_z cI 13200), (a67_33, lp_z cI 60), (a76_37, lp_z cI 1200), (a85_41, lp_z cI 1200)] := hD
  refine va_putF (D := D) (ci := 7) (v := .ref a85_41) (ty := .array .int) (C := RX7) (T := TX7) (N := 26) hx hb T lp_u7 tyX7 tyX7_ok nmX7 hown hWd.1 hP hD hS 0 rfl rfl 15 (by decide) (T (.fieldLink RX7 37 "LoadPressModel" "wWait" "[I") (by decide +kernel)) (fun _ h9 => h9) rfl hin rfl (by decide +kernel) rfl rfl (Nat.le_of_ble_eq_true rfl) dX7_init_87 (fun H locs hP hD hS => ?_)
  have hP : va_P D vwCl [(h0, .inr (7, [.int 0, .ref a7_5, .ref a16_9, .ref a25_13, .ref a33_17, .ref a41_21, .ref a50_25, .ref a59_29, .int 0, .int 0, .int 0, .int 0, .int 0, .ref a67_33, .ref a76_37, .ref a85_41, .null, .null, .null, .null, .null, .null, .null, .null, .null, .null])), (a7_5, lp_z cI 60), (a16_9, lp_z cI 1200), (a25_13, lp_z cI 1200), (a33_17, lp_z cI 121), (a41_21, lp_z cI 11), (a50_25, lp_z cI 1200), (a59_29, lp_z cI 13200), (a67_33, lp_z cI 60), (a76_37, lp_z cI 1200), (a85_41, lp_z cI 1200)] H := hP
  have hD : va_D A [(h0, .inr (7, [.int 0, .ref a7_5, .ref a16_9, .ref a25_13, .ref a33_17, .ref a41_21, .ref a50_25, .ref a59_29, .int 0, .int 0, .int 0, .int 0, .int 0, .ref a67_33, .ref a76_37, .ref a85_41, .null, .null, .null, .null, .null, .null, .null, .null, .null, .null])), (a7_5, lp_z cI 60), (a16_9, lp_z cI 1200), (a25_13, lp_z cI 1200), (a33_17, lp_z cI 121), (a41_21, lp_z cI 11), (a50_25, lp_z cI 1200), (a59_29, lp_z cI 13200), (a67_33, lp_z cI 60), (a76_37, lp_z cI 1200), (a85_41, lp_z cI 1200)] := hD
  refine lv_aload_n hx hb dX7_init_90 rfl (lv_at hl 0 rfl) ?_
  refine lv_sipush (v := 1200) hx hb dX7_init_91 (by decide) ?_
  refine lp_newa (N' := 1200) hx hb T hWd hP hD hS hA (by decide) (by decide) (by omega) (by rw [hRc]; exact Nat.le_of_ble_eq_true rfl) (by rw [hRs]; exact Nat.le_of_ble_eq_true rfl) dX7_init_94 (fun a94_45 H hP hD hS => ?_)
  refine W.widen (k := 11) (n := 20652) (by omega) (by omega) ?_
  have hP : va_P D vwCl [(h0, .inr (7, [.int 0, .ref a7_5, .ref a16_9, .ref a25_13, .ref a33_17, .ref a41_21, .ref a50_25, .ref a59_29, .int 0, .int 0, .int 0, .int 0, .int 0, .ref a67_33, .ref a76_37, .ref a85_41, .null, .null, .null, .null, .null, .null, .null, .null, .null, .null])), (a7_5, lp_z cI 60), (a16_9, lp_z cI 1200), (a25_13, lp_z cI 1200), (a33_17, lp_z cI 121), (a41_21, lp_z cI 11), (a50_25, lp_z cI 1200), (a59_29, lp_z cI 13200), (a67_33, lp_z cI 60), (a76_37, lp_z cI 1200), (a85_41, lp_z cI 1200), (a94_45, lp_z cI 1200)] H := hP
  have hD : va_D A [(h0, .inr (7, [.int 0, .ref a7_5, .ref a16_9, .ref a25_13, .ref a33_17, .ref a41_21, .ref a50_25, .ref a59_29, .int 0, .int 0, .int 0, .int 0, .int 0, .ref a67_33, .ref a76_37, .ref a85_41, .null, .null, .null, .null, .null, .null, .null, .null, .null, .null])), (a7_5, lp_z cI 60), (a16_9, lp_z cI 1200), (a25_13, lp_z cI 1200), (a33_17, lp_z cI 121), (a41_21, lp_z cI 11), (a50_25, lp_z cI 1200), (a59_29, lp_z cI 13200), (a67_33, lp_z cI 60), (a76_37, lp_z cI 1200), (a85_41, lp_z cI 1200), (a94_45, lp_z cI 1200)] := hD
  refine va_putF (D := D) (ci := 7) (v := .ref a94_45) (ty := .array .int) (C := RX7) (T := TX7) (N := 26) hx hb T lp_u7 tyX7 tyX7_ok nmX7 hown hWd.1 hP hD hS 0 rfl rfl 16 (by decide) (T (.fieldLink RX7 40 "LoadPressModel" "due" "[I") (by decide +kernel)) (fun _ h9 => h9) rfl hin rfl (by decide +kernel) rfl rfl (Nat.le_of_ble_eq_true rfl) dX7_init_96 (fun H locs hP hD hS => ?_)
  have hP : va_P D vwCl [(h0, .inr (7, [.int 0, .ref a7_5, .ref a16_9, .ref a25_13, .ref a33_17, .ref a41_21, .ref a50_25, .ref a59_29, .int 0, .int 0, .int 0, .int 0, .int 0, .ref a67_33, .ref a76_37, .ref a85_41, .ref a94_45, .null, .null, .null, .null, .null, .null, .null, .null, .null])), (a7_5, lp_z cI 60), (a16_9, lp_z cI 1200), (a25_13, lp_z cI 1200), (a33_17, lp_z cI 121), (a41_21, lp_z cI 11), (a50_25, lp_z cI 1200), (a59_29, lp_z cI 13200), (a67_33, lp_z cI 60), (a76_37, lp_z cI 1200), (a85_41, lp_z cI 1200), (a94_45, lp_z cI 1200)] H := hP
  have hD : va_D A [(h0, .inr (7, [.int 0, .ref a7_5, .ref a16_9, .ref a25_13, .ref a33_17, .ref a41_21, .ref a50_25, .ref a59_29, .int 0, .int 0, .int 0, .int 0, .int 0, .ref a67_33, .ref a76_37, .ref a85_41, .ref a94_45, .null, .null, .null, .null, .null, .null, .null, .null, .null])), (a7_5, lp_z cI 60), (a16_9, lp_z cI 1200), (a25_13, lp_z cI 1200), (a33_17, lp_z cI 121), (a41_21, lp_z cI 11), (a50_25, lp_z cI 1200), (a59_29, lp_z cI 13200), (a67_33, lp_z cI 60), (a76_37, lp_z cI 1200), (a85_41, lp_z cI 1200), (a94_45, lp_z cI 1200)] := hD
  refine lv_aload_n hx hb dX7_init_99 rfl (lv_at hl 0 rfl) ?_
  refine lv_sipush (v := 1200) hx hb dX7_init_100 (by decide) ?_
  refine lp_newa (N' := 1200) hx hb T hWd hP hD hS hA (by decide) (by decide) (by omega) (by rw [hRc]; exact Nat.le_of_ble_eq_true rfl) (by rw [hRs]; exact Nat.le_of_ble_eq_true rfl) dX7_init_103 (fun a103_49 H hP hD hS => ?_)
  refine W.widen (k := 12) (n := 21852) (by omega) (by omega) ?_
  have hP : va_P D vwCl [(h0, .inr (7, [.int 0, .ref a7_5, .ref a16_9, .ref a25_13, .ref a33_17, .ref a41_21, .ref a50_25, .ref a59_29, .int 0, .int 0, .int 0, .int 0, .int 0, .ref a67_33, .ref a76_37, .ref a85_41, .ref a94_45, .null, .null, .null, .null, .null, .null, .null, .null, .null])), (a7_5, lp_z cI 60), (a16_9, lp_z cI 1200), (a25_13, lp_z cI 1200), (a33_17, lp_z cI 121), (a41_21, lp_z cI 11), (a50_25, lp_z cI 1200), (a59_29, lp_z cI 13200), (a67_33, lp_z cI 60), (a76_37, lp_z cI 1200), (a85_41, lp_z cI 1200), (a94_45, lp_z cI 1200), (a103_49, lp_z cI 1200)] H := hP
  have hD : va_D A [(h0, .inr (7, [.int 0, .ref a7_5, .ref a16_9, .ref a25_13, .ref a33_17, .ref a41_21, .ref a50_25, .ref a59_29, .int 0, .int 0, .int 0, .int 0, .int 0, .ref a67_33, .ref a76_37, .ref a85_41, .ref a94_45, .null, .null, .null, .null, .null, .null, .null, .null, .null])), (a7_5, lp_z cI 60), (a16_9, lp_z cI 1200), (a25_13, lp_z cI 1200), (a33_17, lp_z cI 121), (a41_21, lp_z cI 11), (a50_25, lp_z cI 1200), (a59_29, lp_z cI 13200), (a67_33, lp_z cI 60), (a76_37, lp_z cI 1200), (a85_41, lp_z cI 1200), (a94_45, lp_z cI 1200), (a103_49, lp_z cI 1200)] := hD
  refine va_putF (D := D) (ci := 7) (v := .ref a103_49) (ty := .array .int) (C := RX7) (T := TX7) (N := 26) hx hb T lp_u7 tyX7 tyX7_ok nmX7 hown hWd.1 hP hD hS 0 rfl rfl 17 (by decide) (T (.fieldLink RX7 43 "LoadPressModel" "begun" "[I") (by decide +kernel)) (fun _ h9 => h9) rfl hin rfl (by decide +kernel) rfl rfl (Nat.le_of_ble_eq_true rfl) dX7_init_105 (fun H locs hP hD hS => ?_)
  have hP : va_P D vwCl [(h0, .inr (7, [.int 0, .ref a7_5, .ref a16_9, .ref a25_13, .ref a33_17, .ref a41_21, .ref a50_25, .ref a59_29, .int 0, .int 0, .int 0, .int 0, .int 0, .ref a67_33, .ref a76_37, .ref a85_41, .ref a94_45, .ref a103_49, .null, .null, .null, .null, .null, .null, .null, .null])), (a7_5, lp_z cI 60), (a16_9, lp_z cI 1200), (a25_13, lp_z cI 1200), (a33_17, lp_z cI 121), (a41_21, lp_z cI 11), (a50_25, lp_z cI 1200), (a59_29, lp_z cI 13200), (a67_33, lp_z cI 60), (a76_37, lp_z cI 1200), (a85_41, lp_z cI 1200), (a94_45, lp_z cI 1200), (a103_49, lp_z cI 1200)] H := hP
  have hD : va_D A [(h0, .inr (7, [.int 0, .ref a7_5, .ref a16_9, .ref a25_13, .ref a33_17, .ref a41_21, .ref a50_25, .ref a59_29, .int 0, .int 0, .int 0, .int 0, .int 0, .ref a67_33, .ref a76_37, .ref a85_41, .ref a94_45, .ref a103_49, .null, .null, .null, .null, .null, .null, .null, .null])), (a7_5, lp_z cI 60), (a16_9, lp_z cI 1200), (a25_13, lp_z cI 1200), (a33_17, lp_z cI 121), (a41_21, lp_z cI 11), (a50_25, lp_z cI 1200), (a59_29, lp_z cI 13200), (a67_33, lp_z cI 60), (a76_37, lp_z cI 1200), (a85_41, lp_z cI 1200), (a94_45, lp_z cI 1200), (a103_49, lp_z cI 1200)] := hD
  refine lv_aload_n hx hb dX7_init_108 rfl (lv_at hl 0 rfl) ?_
  refine lv_sipush (v := 1200) hx hb dX7_init_109 (by decide) ?_
  refine lp_newa (N' := 1200) hx hb T hWd hP hD hS hA (by decide) (by decide) (by omega) (by rw [hRc]; exact Nat.le_of_ble_eq_true rfl) (by rw [hRs]; exact Nat.le_of_ble_eq_true rfl) dX7_init_112 (fun a112_53 H hP hD hS => ?_)
  refine W.widen (k := 13) (n := 23052) (by omega) (by omega) ?_
  have hP : va_P D vwCl [(h0, .inr (7, [.int 0, .ref a7_5, .ref a16_9, .ref a25_13, .ref a33_17, .ref a41_21, .ref a50_25, .ref a59_29, .int 0, .int 0, .int 0, .int 0, .int 0, .ref a67_33, .ref a76_37, .ref a85_41, .ref a94_45, .ref a103_49, .null, .null, .null, .null, .null, .null, .null, .null])), (a7_5, lp_z cI 60), (a16_9, lp_z cI 1200), (a25_13, lp_z cI 1200), (a33_17, lp_z cI 121), (a41_21, lp_z cI 11), (a50_25, lp_z cI 1200), (a59_29, lp_z cI 13200), (a67_33, lp_z cI 60), (a76_37, lp_z cI 1200), (a85_41, lp_z cI 1200), (a94_45, lp_z cI 1200), (a103_49, lp_z cI 1200), (a112_53, lp_z cI 1200)] H := hP
  have hD : va_D A [(h0, .inr (7, [.int 0, .ref a7_5, .ref a16_9, .ref a25_13, .ref a33_17, .ref a41_21, .ref a50_25, .ref a59_29, .int 0, .int 0, .int 0, .int 0, .int 0, .ref a67_33, .ref a76_37, .ref a85_41, .ref a94_45, .ref a103_49, .null, .null, .null, .null, .null, .null, .null, .null])), (a7_5, lp_z cI 60), (a16_9, lp_z cI 1200), (a25_13, lp_z cI 1200), (a33_17, lp_z cI 121), (a41_21, lp_z cI 11), (a50_25, lp_z cI 1200), (a59_29, lp_z cI 13200), (a67_33, lp_z cI 60), (a76_37, lp_z cI 1200), (a85_41, lp_z cI 1200), (a94_45, lp_z cI 1200), (a103_49, lp_z cI 1200), (a112_53, lp_z cI 1200)] := hD
  refine va_putF (D := D) (ci := 7) (v := .ref a112_53) (ty := .array .int) (C := RX7) (T := TX7) (N := 26) hx hb T lp_u7 tyX7 tyX7_ok nmX7 hown hWd.1 hP hD hS 0 rfl rfl 18 (by decide) (T (.fieldLink RX7 46 "LoadPressModel" "ended" "[I") (by decide +kernel)) (fun _ h9 => h9) rfl hin rfl (by decide +kernel) rfl rfl (Nat.le_of_ble_eq_true rfl) dX7_init_114 (fun H locs hP hD hS => ?_)
  have hP : va_P D vwCl [(h0, .inr (7, [.int 0, .ref a7_5, .ref a16_9, .ref a25_13, .ref a33_17, .ref a41_21, .ref a50_25, .ref a59_29, .int 0, .int 0, .int 0, .int 0, .int 0, .ref a67_33, .ref a76_37, .ref a85_41, .ref a94_45, .ref a103_49, .ref a112_53, .null, .null, .null, .null, .null, .null, .null])), (a7_5, lp_z cI 60), (a16_9, lp_z cI 1200), (a25_13, lp_z cI 1200), (a33_17, lp_z cI 121), (a41_21, lp_z cI 11), (a50_25, lp_z cI 1200), (a59_29, lp_z cI 13200), (a67_33, lp_z cI 60), (a76_37, lp_z cI 1200), (a85_41, lp_z cI 1200), (a94_45, lp_z cI 1200), (a103_49, lp_z cI 1200), (a112_53, lp_z cI 1200)] H := hP
  have hD : va_D A [(h0, .inr (7, [.int 0, .ref a7_5, .ref a16_9, .ref a25_13, .ref a33_17, .ref a41_21, .ref a50_25, .ref a59_29, .int 0, .int 0, .int 0, .int 0, .int 0, .ref a67_33, .ref a76_37, .ref a85_41, .ref a94_45, .ref a103_49, .ref a112_53, .null, .null, .null, .null, .null, .null, .null])), (a7_5, lp_z cI 60), (a16_9, lp_z cI 1200), (a25_13, lp_z cI 1200), (a33_17, lp_z cI 121), (a41_21, lp_z cI 11), (a50_25, lp_z cI 1200), (a59_29, lp_z cI 13200), (a67_33, lp_z cI 60), (a76_37, lp_z cI 1200), (a85_41, lp_z cI 1200), (a94_45, lp_z cI 1200), (a103_49, lp_z cI 1200), (a112_53, lp_z cI 1200)] := hD
  refine lv_aload_n hx hb dX7_init_117 rfl (lv_at hl 0 rfl) ?_
  refine lv_sipush (v := 1200) hx hb dX7_init_118 (by decide) ?_
  refine lp_newa (N' := 1200) hx hb T hWd hP hD hS hA (by decide) (by decide) (by omega) (by rw [hRc]; exact Nat.le_of_ble_eq_true rfl) (by rw [hRs]; exact Nat.le_of_ble_eq_true rfl) dX7_init_121 (fun a121_57 H hP hD hS => ?_)
  refine W.widen (k := 14) (n := 24252) (by omega) (by omega) ?_
  have hP : va_P D vwCl [(h0, .inr (7, [.int 0, .ref a7_5, .ref a16_9, .ref a25_13, .ref a33_17, .ref a41_21, .ref a50_25, .ref a59_29, .int 0, .int 0, .int 0, .int 0, .int 0, .ref a67_33, .ref a76_37, .ref a85_41, .ref a94_45, .ref a103_49, .ref a112_53, .null, .null, .null, .null, .null, .null, .null])), (a7_5, lp_z cI 60), (a16_9, lp_z cI 1200), (a25_13, lp_z cI 1200), (a33_17, lp_z cI 121), (a41_21, lp_z cI 11), (a50_25, lp_z cI 1200), (a59_29, lp_z cI 13200), (a67_33, lp_z cI 60), (a76_37, lp_z cI 1200), (a85_41, lp_z cI 1200), (a94_45, lp_z cI 1200), (a103_49, lp_z cI 1200), (a112_53, lp_z cI 1200), (a121_57, lp_z cI 1200)] H := hP
  have hD : va_D A [(h0, .inr (7, [.int 0, .ref a7_5, .ref a16_9, .ref a25_13, .ref a33_17, .ref a41_21, .ref a50_25, .ref a59_29, .int 0, .int 0, .int 0, .int 0, .int 0, .ref a67_33, .ref a76_37, .ref a85_41, .ref a94_45, .ref a103_49, .ref a112_53, .null, .null, .null, .null, .null, .null, .null])), (a7_5, lp_z cI 60), (a16_9, lp_z cI 1200), (a25_13, lp_z cI 1200), (a33_17, lp_z cI 121), (a41_21, lp_z cI 11), (a50_25, lp_z cI 1200), (a59_29, lp_z cI 13200), (a67_33, lp_z cI 60), (a76_37, lp_z cI 1200), (a85_41, lp_z cI 1200), (a94_45, lp_z cI 1200), (a103_49, lp_z cI 1200), (a112_53, lp_z cI 1200), (a121_57, lp_z cI 1200)] := hD
  refine va_putF (D := D) (ci := 7) (v := .ref a121_57) (ty := .array .int) (C := RX7) (T := TX7) (N := 26) hx hb T lp_u7 tyX7 tyX7_ok nmX7 hown hWd.1 hP hD hS 0 rfl rfl 19 (by decide) (T (.fieldLink RX7 49 "LoadPressModel" "server" "[I") (by decide +kernel)) (fun _ h9 => h9) rfl hin rfl (by decide +kernel) rfl rfl (Nat.le_of_ble_eq_true rfl) dX7_init_123 (fun H locs hP hD hS => ?_)
  have hP : va_P D vwCl [(h0, .inr (7, [.int 0, .ref a7_5, .ref a16_9, .ref a25_13, .ref a33_17, .ref a41_21, .ref a50_25, .ref a59_29, .int 0, .int 0, .int 0, .int 0, .int 0, .ref a67_33, .ref a76_37, .ref a85_41, .ref a94_45, .ref a103_49, .ref a112_53, .ref a121_57, .null, .null, .null, .null, .null, .null])), (a7_5, lp_z cI 60), (a16_9, lp_z cI 1200), (a25_13, lp_z cI 1200), (a33_17, lp_z cI 121), (a41_21, lp_z cI 11), (a50_25, lp_z cI 1200), (a59_29, lp_z cI 13200), (a67_33, lp_z cI 60), (a76_37, lp_z cI 1200), (a85_41, lp_z cI 1200), (a94_45, lp_z cI 1200), (a103_49, lp_z cI 1200), (a112_53, lp_z cI 1200), (a121_57, lp_z cI 1200)] H := hP
  have hD : va_D A [(h0, .inr (7, [.int 0, .ref a7_5, .ref a16_9, .ref a25_13, .ref a33_17, .ref a41_21, .ref a50_25, .ref a59_29, .int 0, .int 0, .int 0, .int 0, .int 0, .ref a67_33, .ref a76_37, .ref a85_41, .ref a94_45, .ref a103_49, .ref a112_53, .ref a121_57, .null, .null, .null, .null, .null, .null])), (a7_5, lp_z cI 60), (a16_9, lp_z cI 1200), (a25_13, lp_z cI 1200), (a33_17, lp_z cI 121), (a41_21, lp_z cI 11), (a50_25, lp_z cI 1200), (a59_29, lp_z cI 13200), (a67_33, lp_z cI 60), (a76_37, lp_z cI 1200), (a85_41, lp_z cI 1200), (a94_45, lp_z cI 1200), (a103_49, lp_z cI 1200), (a112_53, lp_z cI 1200), (a121_57, lp_z cI 1200)] := hD
  refine lv_aload_n hx hb dX7_init_126 rfl (lv_at hl 0 rfl) ?_
  refine lv_bipush (v := 121) hx hb dX7_init_127 (by decide) ?_
  refine lp_newa (N' := 121) hx hb T hWd hP hD hS hA (by decide) (by decide) (by omega) (by rw [hRc]; exact Nat.le_of_ble_eq_true rfl) (by rw [hRs]; exact Nat.le_of_ble_eq_true rfl) dX7_init_129 (fun a129_61 H hP hD hS => ?_)
  refine W.widen (k := 15) (n := 24373) (by omega) (by omega) ?_
  have hP : va_P D vwCl [(h0, .inr (7, [.int 0, .ref a7_5, .ref a16_9, .ref a25_13, .ref a33_17, .ref a41_21, .ref a50_25, .ref a59_29, .int 0, .int 0, .int 0, .int 0, .int 0, .ref a67_33, .ref a76_37, .ref a85_41, .ref a94_45, .ref a103_49, .ref a112_53, .ref a121_57, .null, .null, .null, .null, .null, .null])), (a7_5, lp_z cI 60), (a16_9, lp_z cI 1200), (a25_13, lp_z cI 1200), (a33_17, lp_z cI 121), (a41_21, lp_z cI 11), (a50_25, lp_z cI 1200), (a59_29, lp_z cI 13200), (a67_33, lp_z cI 60), (a76_37, lp_z cI 1200), (a85_41, lp_z cI 1200), (a94_45, lp_z cI 1200), (a103_49, lp_z cI 1200), (a112_53, lp_z cI 1200), (a121_57, lp_z cI 1200), (a129_61, lp_z cI 121)] H := hP
  have hD : va_D A [(h0, .inr (7, [.int 0, .ref a7_5, .ref a16_9, .ref a25_13, .ref a33_17, .ref a41_21, .ref a50_25, .ref a59_29, .int 0, .int 0, .int 0, .int 0, .int 0, .ref a67_33, .ref a76_37, .ref a85_41, .ref a94_45, .ref a103_49, .ref a112_53, .ref a121_57, .null, .null, .null, .null, .null, .null])), (a7_5, lp_z cI 60), (a16_9, lp_z cI 1200), (a25_13, lp_z cI 1200), (a33_17, lp_z cI 121), (a41_21, lp_z cI 11), (a50_25, lp_z cI 1200), (a59_29, lp_z cI 13200), (a67_33, lp_z cI 60), (a76_37, lp_z cI 1200), (a85_41, lp_z cI 1200), (a94_45, lp_z cI 1200), (a103_49, lp_z cI 1200), (a112_53, lp_z cI 1200), (a121_57, lp_z cI 1200), (a129_61, lp_z cI 121)] := hD
  refine va_putF (D := D) (ci := 7) (v := .ref a129_61) (ty := .array .int) (C := RX7) (T := TX7) (N := 26) hx hb T lp_u7 tyX7 tyX7_ok nmX7 hown hWd.1 hP hD hS 0 rfl rfl 20 (by decide) (T (.fieldLink RX7 52 "LoadPressModel" "came" "[I") (by decide +kernel)) (fun _ h9 => h9) rfl hin rfl (by decide +kernel) rfl rfl (Nat.le_of_ble_eq_true rfl) dX7_init_131 (fun H locs hP hD hS => ?_)
  have hP : va_P D vwCl [(h0, .inr (7, [.int 0, .ref a7_5, .ref a16_9, .ref a25_13, .ref a33_17, .ref a41_21, .ref a50_25, .ref a59_29, .int 0, .int 0, .int 0, .int 0, .int 0, .ref a67_33, .ref a76_37, .ref a85_41, .ref a94_45, .ref a103_49, .ref a112_53, .ref a121_57, .ref a129_61, .null, .null, .null, .null, .null])), (a7_5, lp_z cI 60), (a16_9, lp_z cI 1200), (a25_13, lp_z cI 1200), (a33_17, lp_z cI 121), (a41_21, lp_z cI 11), (a50_25, lp_z cI 1200), (a59_29, lp_z cI 13200), (a67_33, lp_z cI 60), (a76_37, lp_z cI 1200), (a85_41, lp_z cI 1200), (a94_45, lp_z cI 1200), (a103_49, lp_z cI 1200), (a112_53, lp_z cI 1200), (a121_57, lp_z cI 1200), (a129_61, lp_z cI 121)] H := hP
  have hD : va_D A [(h0, .inr (7, [.int 0, .ref a7_5, .ref a16_9, .ref a25_13, .ref a33_17, .ref a41_21, .ref a50_25, .ref a59_29, .int 0, .int 0, .int 0, .int 0, .int 0, .ref a67_33, .ref a76_37, .ref a85_41, .ref a94_45, .ref a103_49, .ref a112_53, .ref a121_57, .ref a129_61, .null, .null, .null, .null, .null])), (a7_5, lp_z cI 60), (a16_9, lp_z cI 1200), (a25_13, lp_z cI 1200), (a33_17, lp_z cI 121), (a41_21, lp_z cI 11), (a50_25, lp_z cI 1200), (a59_29, lp_z cI 13200), (a67_33, lp_z cI 60), (a76_37, lp_z cI 1200), (a85_41, lp_z cI 1200), (a94_45, lp_z cI 1200), (a103_49, lp_z cI 1200), (a112_53, lp_z cI 1200), (a121_57, lp_z cI 1200), (a129_61, lp_z cI 121)] := hD
  refine lv_aload_n hx hb dX7_init_134 rfl (lv_at hl 0 rfl) ?_
  refine lv_sipush (v := 7381) hx hb dX7_init_135 (by decide) ?_
  refine lp_newa (N' := 7381) hx hb T hWd hP hD hS hA (by decide) (by decide) (by omega) (by rw [hRc]; exact Nat.le_of_ble_eq_true rfl) (by rw [hRs]; exact Nat.le_of_ble_eq_true rfl) dX7_init_138 (fun a138_65 H hP hD hS => ?_)
  refine W.widen (k := 16) (n := 31754) (by omega) (by omega) ?_
  have hP : va_P D vwCl [(h0, .inr (7, [.int 0, .ref a7_5, .ref a16_9, .ref a25_13, .ref a33_17, .ref a41_21, .ref a50_25, .ref a59_29, .int 0, .int 0, .int 0, .int 0, .int 0, .ref a67_33, .ref a76_37, .ref a85_41, .ref a94_45, .ref a103_49, .ref a112_53, .ref a121_57, .ref a129_61, .null, .null, .null, .null, .null])), (a7_5, lp_z cI 60), (a16_9, lp_z cI 1200), (a25_13, lp_z cI 1200), (a33_17, lp_z cI 121), (a41_21, lp_z cI 11), (a50_25, lp_z cI 1200), (a59_29, lp_z cI 13200), (a67_33, lp_z cI 60), (a76_37, lp_z cI 1200), (a85_41, lp_z cI 1200), (a94_45, lp_z cI 1200), (a103_49, lp_z cI 1200), (a112_53, lp_z cI 1200), (a121_57, lp_z cI 1200), (a129_61, lp_z cI 121), (a138_65, lp_z cI 7381)] H := hP
  have hD : va_D A [(h0, .inr (7, [.int 0, .ref a7_5, .ref a16_9, .ref a25_13, .ref a33_17, .ref a41_21, .ref a50_25, .ref a59_29, .int 0, .int 0, .int 0, .int 0, .int 0, .ref a67_33, .ref a76_37, .ref a85_41, .ref a94_45, .ref a103_49, .ref a112_53, .ref a121_57, .ref a129_61, .null, .null, .null, .null, .null])), (a7_5, lp_z cI 60), (a16_9, lp_z cI 1200), (a25_13, lp_z cI 1200), (a33_17, lp_z cI 121), (a41_21, lp_z cI 11), (a50_25, lp_z cI 1200), (a59_29, lp_z cI 13200), (a67_33, lp_z cI 60), (a76_37, lp_z cI 1200), (a85_41, lp_z cI 1200), (a94_45, lp_z cI 1200), (a103_49, lp_z cI 1200), (a112_53, lp_z cI 1200), (a121_57, lp_z cI 1200), (a129_61, lp_z cI 121), (a138_65, lp_z cI 7381)] := hD
  refine va_putF (D := D) (ci := 7) (v := .ref a138_65) (ty := .array .int) (C := RX7) (T := TX7) (N := 26) hx hb T lp_u7 tyX7 tyX7_ok nmX7 hown hWd.1 hP hD hS 0 rfl rfl 21 (by decide) (T (.fieldLink RX7 55 "LoadPressModel" "cameWait" "[I") (by decide +kernel)) (fun _ h9 => h9) rfl hin rfl (by decide +kernel) rfl rfl (Nat.le_of_ble_eq_true rfl) dX7_init_140 (fun H locs hP hD hS => ?_)
  have hP : va_P D vwCl [(h0, .inr (7, [.int 0, .ref a7_5, .ref a16_9, .ref a25_13, .ref a33_17, .ref a41_21, .ref a50_25, .ref a59_29, .int 0, .int 0, .int 0, .int 0, .int 0, .ref a67_33, .ref a76_37, .ref a85_41, .ref a94_45, .ref a103_49, .ref a112_53, .ref a121_57, .ref a129_61, .ref a138_65, .null, .null, .null, .null])), (a7_5, lp_z cI 60), (a16_9, lp_z cI 1200), (a25_13, lp_z cI 1200), (a33_17, lp_z cI 121), (a41_21, lp_z cI 11), (a50_25, lp_z cI 1200), (a59_29, lp_z cI 13200), (a67_33, lp_z cI 60), (a76_37, lp_z cI 1200), (a85_41, lp_z cI 1200), (a94_45, lp_z cI 1200), (a103_49, lp_z cI 1200), (a112_53, lp_z cI 1200), (a121_57, lp_z cI 1200), (a129_61, lp_z cI 121), (a138_65, lp_z cI 7381)] H := hP
  have hD : va_D A [(h0, .inr (7, [.int 0, .ref a7_5, .ref a16_9, .ref a25_13, .ref a33_17, .ref a41_21, .ref a50_25, .ref a59_29, .int 0, .int 0, .int 0, .int 0, .int 0, .ref a67_33, .ref a76_37, .ref a85_41, .ref a94_45, .ref a103_49, .ref a112_53, .ref a121_57, .ref a129_61, .ref a138_65, .null, .null, .null, .null])), (a7_5, lp_z cI 60), (a16_9, lp_z cI 1200), (a25_13, lp_z cI 1200), (a33_17, lp_z cI 121), (a41_21, lp_z cI 11), (a50_25, lp_z cI 1200), (a59_29, lp_z cI 13200), (a67_33, lp_z cI 60), (a76_37, lp_z cI 1200), (a85_41, lp_z cI 1200), (a94_45, lp_z cI 1200), (a103_49, lp_z cI 1200), (a112_53, lp_z cI 1200), (a121_57, lp_z cI 1200), (a129_61, lp_z cI 121), (a138_65, lp_z cI 7381)] := hD
  refine lv_aload_n hx hb dX7_init_143 rfl (lv_at hl 0 rfl) ?_
  refine lv_bipush (v := 121) hx hb dX7_init_144 (by decide) ?_
  refine lp_newa (N' := 121) hx hb T hWd hP hD hS hA (by decide) (by decide) (by omega) (by rw [hRc]; exact Nat.le_of_ble_eq_true rfl) (by rw [hRs]; exact Nat.le_of_ble_eq_true rfl) dX7_init_146 (fun a146_69 H hP hD hS => ?_)
  refine W.widen (k := 17) (n := 31875) (by omega) (by omega) ?_
  have hP : va_P D vwCl [(h0, .inr (7, [.int 0, .ref a7_5, .ref a16_9, .ref a25_13, .ref a33_17, .ref a41_21, .ref a50_25, .ref a59_29, .int 0, .int 0, .int 0, .int 0, .int 0, .ref a67_33, .ref a76_37, .ref a85_41, .ref a94_45, .ref a103_49, .ref a112_53, .ref a121_57, .ref a129_61, .ref a138_65, .null, .null, .null, .null])), (a7_5, lp_z cI 60), (a16_9, lp_z cI 1200), (a25_13, lp_z cI 1200), (a33_17, lp_z cI 121), (a41_21, lp_z cI 11), (a50_25, lp_z cI 1200), (a59_29, lp_z cI 13200), (a67_33, lp_z cI 60), (a76_37, lp_z cI 1200), (a85_41, lp_z cI 1200), (a94_45, lp_z cI 1200), (a103_49, lp_z cI 1200), (a112_53, lp_z cI 1200), (a121_57, lp_z cI 1200), (a129_61, lp_z cI 121), (a138_65, lp_z cI 7381), (a146_69, lp_z cI 121)] H := hP
  have hD : va_D A [(h0, .inr (7, [.int 0, .ref a7_5, .ref a16_9, .ref a25_13, .ref a33_17, .ref a41_21, .ref a50_25, .ref a59_29, .int 0, .int 0, .int 0, .int 0, .int 0, .ref a67_33, .ref a76_37, .ref a85_41, .ref a94_45, .ref a103_49, .ref a112_53, .ref a121_57, .ref a129_61, .ref a138_65, .null, .null, .null, .null])), (a7_5, lp_z cI 60), (a16_9, lp_z cI 1200), (a25_13, lp_z cI 1200), (a33_17, lp_z cI 121), (a41_21, lp_z cI 11), (a50_25, lp_z cI 1200), (a59_29, lp_z cI 13200), (a67_33, lp_z cI 60), (a76_37, lp_z cI 1200), (a85_41, lp_z cI 1200), (a94_45, lp_z cI 1200), (a103_49, lp_z cI 1200), (a112_53, lp_z cI 1200), (a121_57, lp_z cI 1200), (a129_61, lp_z cI 121), (a138_65, lp_z cI 7381), (a146_69, lp_z cI 121)] := hD
  refine va_putF (D := D) (ci := 7) (v := .ref a146_69) (ty := .array .int) (C := RX7) (T := TX7) (N := 26) hx hb T lp_u7 tyX7 tyX7_ok nmX7 hown hWd.1 hP hD hS 0 rfl rfl 22 (by decide) (T (.fieldLink RX7 58 "LoadPressModel" "count" "[I") (by decide +kernel)) (fun _ h9 => h9) rfl hin rfl (by decide +kernel) rfl rfl (Nat.le_of_ble_eq_true rfl) dX7_init_148 (fun H locs hP hD hS => ?_)
  have hP : va_P D vwCl [(h0, .inr (7, [.int 0, .ref a7_5, .ref a16_9, .ref a25_13, .ref a33_17, .ref a41_21, .ref a50_25, .ref a59_29, .int 0, .int 0, .int 0, .int 0, .int 0, .ref a67_33, .ref a76_37, .ref a85_41, .ref a94_45, .ref a103_49, .ref a112_53, .ref a121_57, .ref a129_61, .ref a138_65, .ref a146_69, .null, .null, .null])), (a7_5, lp_z cI 60), (a16_9, lp_z cI 1200), (a25_13, lp_z cI 1200), (a33_17, lp_z cI 121), (a41_21, lp_z cI 11), (a50_25, lp_z cI 1200), (a59_29, lp_z cI 13200), (a67_33, lp_z cI 60), (a76_37, lp_z cI 1200), (a85_41, lp_z cI 1200), (a94_45, lp_z cI 1200), (a103_49, lp_z cI 1200), (a112_53, lp_z cI 1200), (a121_57, lp_z cI 1200), (a129_61, lp_z cI 121), (a138_65, lp_z cI 7381), (a146_69, lp_z cI 121)] H := hP
  have hD : va_D A [(h0, .inr (7, [.int 0, .ref a7_5, .ref a16_9, .ref a25_13, .ref a33_17, .ref a41_21, .ref a50_25, .ref a59_29, .int 0, .int 0, .int 0, .int 0, .int 0, .ref a67_33, .ref a76_37, .ref a85_41, .ref a94_45, .ref a103_49, .ref a112_53, .ref a121_57, .ref a129_61, .ref a138_65, .ref a146_69, .null, .null, .null])), (a7_5, lp_z cI 60), (a16_9, lp_z cI 1200), (a25_13, lp_z cI 1200), (a33_17, lp_z cI 121), (a41_21, lp_z cI 11), (a50_25, lp_z cI 1200), (a59_29, lp_z cI 13200), (a67_33, lp_z cI 60), (a76_37, lp_z cI 1200), (a85_41, lp_z cI 1200), (a94_45, lp_z cI 1200), (a103_49, lp_z cI 1200), (a112_53, lp_z cI 1200), (a121_57, lp_z cI 1200), (a129_61, lp_z cI 121), (a138_65, lp_z cI 7381), (a146_69, lp_z cI 121)] := hD
  refine lv_aload_n hx hb dX7_init_151 rfl (lv_at hl 0 rfl) ?_
  refine lv_sipush (v := 7381) hx hb dX7_init_152 (by decide) ?_
  refine lp_newa (N' := 7381) hx hb T hWd hP hD hS hA (by decide) (by decide) (by omega) (by rw [hRc]; exact Nat.le_of_ble_eq_true rfl) (by rw [hRs]; exact Nat.le_of_ble_eq_true rfl) dX7_init_155 (fun a155_73 H hP hD hS => ?_)
  refine W.widen (k := 18) (n := 39256) (by omega) (by omega) ?_
  have hP : va_P D vwCl [(h0, .inr (7, [.int 0, .ref a7_5, .ref a16_9, .ref a25_13, .ref a33_17, .ref a41_21, .ref a50_25, .ref a59_29, .int 0, .int 0, .int 0, .int 0, .int 0, .ref a67_33, .ref a76_37, .ref a85_41, .ref a94_45, .ref a103_49, .ref a112_53, .ref a121_57, .ref a129_61, .ref a138_65, .ref a146_69, .null, .null, .null])), (a7_5, lp_z cI 60), (a16_9, lp_z cI 1200), (a25_13, lp_z cI 1200), (a33_17, lp_z cI 121), (a41_21, lp_z cI 11), (a50_25, lp_z cI 1200), (a59_29, lp_z cI 13200), (a67_33, lp_z cI 60), (a76_37, lp_z cI 1200), (a85_41, lp_z cI 1200), (a94_45, lp_z cI 1200), (a103_49, lp_z cI 1200), (a112_53, lp_z cI 1200), (a121_57, lp_z cI 1200), (a129_61, lp_z cI 121), (a138_65, lp_z cI 7381), (a146_69, lp_z cI 121), (a155_73, lp_z cI 7381)] H := hP
  have hD : va_D A [(h0, .inr (7, [.int 0, .ref a7_5, .ref a16_9, .ref a25_13, .ref a33_17, .ref a41_21, .ref a50_25, .ref a59_29, .int 0, .int 0, .int 0, .int 0, .int 0, .ref a67_33, .ref a76_37, .ref a85_41, .ref a94_45, .ref a103_49, .ref a112_53, .ref a121_57, .ref a129_61, .ref a138_65, .ref a146_69, .null, .null, .null])), (a7_5, lp_z cI 60), (a16_9, lp_z cI 1200), (a25_13, lp_z cI 1200), (a33_17, lp_z cI 121), (a41_21, lp_z cI 11), (a50_25, lp_z cI 1200), (a59_29, lp_z cI 13200), (a67_33, lp_z cI 60), (a76_37, lp_z cI 1200), (a85_41, lp_z cI 1200), (a94_45, lp_z cI 1200), (a103_49, lp_z cI 1200), (a112_53, lp_z cI 1200), (a121_57, lp_z cI 1200), (a129_61, lp_z cI 121), (a138_65, lp_z cI 7381), (a146_69, lp_z cI 121), (a155_73, lp_z cI 7381)] := hD
  refine va_putF (D := D) (ci := 7) (v := .ref a155_73) (ty := .array .int) (C := RX7) (T := TX7) (N := 26) hx hb T lp_u7 tyX7 tyX7_ok nmX7 hown hWd.1 hP hD hS 0 rfl rfl 23 (by decide) (T (.fieldLink RX7 61 "LoadPressModel" "countWait" "[I") (by decide +kernel)) (fun _ h9 => h9) rfl hin rfl (by decide +kernel) rfl rfl (Nat.le_of_ble_eq_true rfl) dX7_init_157 (fun H locs hP hD hS => ?_)
  have hP : va_P D vwCl [(h0, .inr (7, [.int 0, .ref a7_5, .ref a16_9, .ref a25_13, .ref a33_17, .ref a41_21, .ref a50_25, .ref a59_29, .int 0, .int 0, .int 0, .int 0, .int 0, .ref a67_33, .ref a76_37, .ref a85_41, .ref a94_45, .ref a103_49, .ref a112_53, .ref a121_57, .ref a129_61, .ref a138_65, .ref a146_69, .ref a155_73, .null, .null])), (a7_5, lp_z cI 60), (a16_9, lp_z cI 1200), (a25_13, lp_z cI 1200), (a33_17, lp_z cI 121), (a41_21, lp_z cI 11), (a50_25, lp_z cI 1200), (a59_29, lp_z cI 13200), (a67_33, lp_z cI 60), (a76_37, lp_z cI 1200), (a85_41, lp_z cI 1200), (a94_45, lp_z cI 1200), (a103_49, lp_z cI 1200), (a112_53, lp_z cI 1200), (a121_57, lp_z cI 1200), (a129_61, lp_z cI 121), (a138_65, lp_z cI 7381), (a146_69, lp_z cI 121), (a155_73, lp_z cI 7381)] H := hP
  have hD : va_D A [(h0, .inr (7, [.int 0, .ref a7_5, .ref a16_9, .ref a25_13, .ref a33_17, .ref a41_21, .ref a50_25, .ref a59_29, .int 0, .int 0, .int 0, .int 0, .int 0, .ref a67_33, .ref a76_37, .ref a85_41, .ref a94_45, .ref a103_49, .ref a112_53, .ref a121_57, .ref a129_61, .ref a138_65, .ref a146_69, .ref a155_73, .null, .null])), (a7_5, lp_z cI 60), (a16_9, lp_z cI 1200), (a25_13, lp_z cI 1200), (a33_17, lp_z cI 121), (a41_21, lp_z cI 11), (a50_25, lp_z cI 1200), (a59_29, lp_z cI 13200), (a67_33, lp_z cI 60), (a76_37, lp_z cI 1200), (a85_41, lp_z cI 1200), (a94_45, lp_z cI 1200), (a103_49, lp_z cI 1200), (a112_53, lp_z cI 1200), (a121_57, lp_z cI 1200), (a129_61, lp_z cI 121), (a138_65, lp_z cI 7381), (a146_69, lp_z cI 121), (a155_73, lp_z cI 7381)] := hD
  refine lv_aload_n hx hb dX7_init_160 rfl (lv_at hl 0 rfl) ?_
  refine lv_bipush (v := 8) hx hb dX7_init_161 (by decide) ?_
  refine lp_newa (N' := 8) hx hb T hWd hP hD hS hA (by decide) (by decide) (by omega) (by rw [hRc]; exact Nat.le_of_ble_eq_true rfl) (by rw [hRs]; exact Nat.le_of_ble_eq_true rfl) dX7_init_163 (fun a163_77 H hP hD hS => ?_)
  refine W.widen (k := 19) (n := 39264) (by omega) (by omega) ?_
  have hP : va_P D vwCl [(h0, .inr (7, [.int 0, .ref a7_5, .ref a16_9, .ref a25_13, .ref a33_17, .ref a41_21, .ref a50_25, .ref a59_29, .int 0, .int 0, .int 0, .int 0, .int 0, .ref a67_33, .ref a76_37, .ref a85_41, .ref a94_45, .ref a103_49, .ref a112_53, .ref a121_57, .ref a129_61, .ref a138_65, .ref a146_69, .ref a155_73, .null, .null])), (a7_5, lp_z cI 60), (a16_9, lp_z cI 1200), (a25_13, lp_z cI 1200), (a33_17, lp_z cI 121), (a41_21, lp_z cI 11), (a50_25, lp_z cI 1200), (a59_29, lp_z cI 13200), (a67_33, lp_z cI 60), (a76_37, lp_z cI 1200), (a85_41, lp_z cI 1200), (a94_45, lp_z cI 1200), (a103_49, lp_z cI 1200), (a112_53, lp_z cI 1200), (a121_57, lp_z cI 1200), (a129_61, lp_z cI 121), (a138_65, lp_z cI 7381), (a146_69, lp_z cI 121), (a155_73, lp_z cI 7381), (a163_77, lp_z cI 8)] H := hP
  have hD : va_D A [(h0, .inr (7, [.int 0, .ref a7_5, .ref a16_9, .ref a25_13, .ref a33_17, .ref a41_21, .ref a50_25, .ref a59_29, .int 0, .int 0, .int 0, .int 0, .int 0, .ref a67_33, .ref a76_37, .ref a85_41, .ref a94_45, .ref a103_49, .ref a112_53, .ref a121_57, .ref a129_61, .ref a138_65, .ref a146_69, .ref a155_73, .null, .null])), (a7_5, lp_z cI 60), (a16_9, lp_z cI 1200), (a25_13, lp_z cI 1200), (a33_17, lp_z cI 121), (a41_21, lp_z cI 11), (a50_25, lp_z cI 1200), (a59_29, lp_z cI 13200), (a67_33, lp_z cI 60), (a76_37, lp_z cI 1200), (a85_41, lp_z cI 1200), (a94_45, lp_z cI 1200), (a103_49, lp_z cI 1200), (a112_53, lp_z cI 1200), (a121_57, lp_z cI 1200), (a129_61, lp_z cI 121), (a138_65, lp_z cI 7381), (a146_69, lp_z cI 121), (a155_73, lp_z cI 7381), (a163_77, lp_z cI 8)] := hD
  refine va_putF (D := D) (ci := 7) (v := .ref a163_77) (ty := .array .int) (C := RX7) (T := TX7) (N := 26) hx hb T lp_u7 tyX7 tyX7_ok nmX7 hown hWd.1 hP hD hS 0 rfl rfl 24 (by decide) (T (.fieldLink RX7 64 "LoadPressModel" "free" "[I") (by decide +kernel)) (fun _ h9 => h9) rfl hin rfl (by decide +kernel) rfl rfl (Nat.le_of_ble_eq_true rfl) dX7_init_165 (fun H locs hP hD hS => ?_)
  have hP : va_P D vwCl [(h0, .inr (7, [.int 0, .ref a7_5, .ref a16_9, .ref a25_13, .ref a33_17, .ref a41_21, .ref a50_25, .ref a59_29, .int 0, .int 0, .int 0, .int 0, .int 0, .ref a67_33, .ref a76_37, .ref a85_41, .ref a94_45, .ref a103_49, .ref a112_53, .ref a121_57, .ref a129_61, .ref a138_65, .ref a146_69, .ref a155_73, .ref a163_77, .null])), (a7_5, lp_z cI 60), (a16_9, lp_z cI 1200), (a25_13, lp_z cI 1200), (a33_17, lp_z cI 121), (a41_21, lp_z cI 11), (a50_25, lp_z cI 1200), (a59_29, lp_z cI 13200), (a67_33, lp_z cI 60), (a76_37, lp_z cI 1200), (a85_41, lp_z cI 1200), (a94_45, lp_z cI 1200), (a103_49, lp_z cI 1200), (a112_53, lp_z cI 1200), (a121_57, lp_z cI 1200), (a129_61, lp_z cI 121), (a138_65, lp_z cI 7381), (a146_69, lp_z cI 121), (a155_73, lp_z cI 7381), (a163_77, lp_z cI 8)] H := hP
  have hD : va_D A [(h0, .inr (7, [.int 0, .ref a7_5, .ref a16_9, .ref a25_13, .ref a33_17, .ref a41_21, .ref a50_25, .ref a59_29, .int 0, .int 0, .int 0, .int 0, .int 0, .ref a67_33, .ref a76_37, .ref a85_41, .ref a94_45, .ref a103_49, .ref a112_53, .ref a121_57, .ref a129_61, .ref a138_65, .ref a146_69, .ref a155_73, .ref a163_77, .null])), (a7_5, lp_z cI 60), (a16_9, lp_z cI 1200), (a25_13, lp_z cI 1200), (a33_17, lp_z cI 121), (a41_21, lp_z cI 11), (a50_25, lp_z cI 1200), (a59_29, lp_z cI 13200), (a67_33, lp_z cI 60), (a76_37, lp_z cI 1200), (a85_41, lp_z cI 1200), (a94_45, lp_z cI 1200), (a103_49, lp_z cI 1200), (a112_53, lp_z cI 1200), (a121_57, lp_z cI 1200), (a129_61, lp_z cI 121), (a138_65, lp_z cI 7381), (a146_69, lp_z cI 121), (a155_73, lp_z cI 7381), (a163_77, lp_z cI 8)] := hD
  refine lv_aload_n hx hb dX7_init_168 rfl (lv_at hl 0 rfl) ?_
  refine lv_bipush (v := 60) hx hb dX7_init_169 (by decide) ?_
  refine lp_newa (N' := 60) hx hb T hWd hP hD hS hA (by decide) (by decide) (by omega) (by rw [hRc]; exact Nat.le_of_ble_eq_true rfl) (by rw [hRs]; exact Nat.le_of_ble_eq_true rfl) dX7_init_171 (fun a171_81 H hP hD hS => ?_)
  refine W.widen (k := 20) (n := 39324) (by omega) (by omega) ?_
  have hP : va_P D vwCl [(h0, .inr (7, [.int 0, .ref a7_5, .ref a16_9, .ref a25_13, .ref a33_17, .ref a41_21, .ref a50_25, .ref a59_29, .int 0, .int 0, .int 0, .int 0, .int 0, .ref a67_33, .ref a76_37, .ref a85_41, .ref a94_45, .ref a103_49, .ref a112_53, .ref a121_57, .ref a129_61, .ref a138_65, .ref a146_69, .ref a155_73, .ref a163_77, .null])), (a7_5, lp_z cI 60), (a16_9, lp_z cI 1200), (a25_13, lp_z cI 1200), (a33_17, lp_z cI 121), (a41_21, lp_z cI 11), (a50_25, lp_z cI 1200), (a59_29, lp_z cI 13200), (a67_33, lp_z cI 60), (a76_37, lp_z cI 1200), (a85_41, lp_z cI 1200), (a94_45, lp_z cI 1200), (a103_49, lp_z cI 1200), (a112_53, lp_z cI 1200), (a121_57, lp_z cI 1200), (a129_61, lp_z cI 121), (a138_65, lp_z cI 7381), (a146_69, lp_z cI 121), (a155_73, lp_z cI 7381), (a163_77, lp_z cI 8), (a171_81, lp_z cI 60)] H := hP
  have hD : va_D A [(h0, .inr (7, [.int 0, .ref a7_5, .ref a16_9, .ref a25_13, .ref a33_17, .ref a41_21, .ref a50_25, .ref a59_29, .int 0, .int 0, .int 0, .int 0, .int 0, .ref a67_33, .ref a76_37, .ref a85_41, .ref a94_45, .ref a103_49, .ref a112_53, .ref a121_57, .ref a129_61, .ref a138_65, .ref a146_69, .ref a155_73, .ref a163_77, .null])), (a7_5, lp_z cI 60), (a16_9, lp_z cI 1200), (a25_13, lp_z cI 1200), (a33_17, lp_z cI 121), (a41_21, lp_z cI 11), (a50_25, lp_z cI 1200), (a59_29, lp_z cI 13200), (a67_33, lp_z cI 60), (a76_37, lp_z cI 1200), (a85_41, lp_z cI 1200), (a94_45, lp_z cI 1200), (a103_49, lp_z cI 1200), (a112_53, lp_z cI 1200), (a121_57, lp_z cI 1200), (a129_61, lp_z cI 121), (a138_65, lp_z cI 7381), (a146_69, lp_z cI 121), (a155_73, lp_z cI 7381), (a163_77, lp_z cI 8), (a171_81, lp_z cI 60)] := hD
  refine va_putF (D := D) (ci := 7) (v := .ref a171_81) (ty := .array .int) (C := RX7) (T := TX7) (N := 26) hx hb T lp_u7 tyX7 tyX7_ok nmX7 hown hWd.1 hP hD hS 0 rfl rfl 25 (by decide) (T (.fieldLink RX7 67 "LoadPressModel" "done" "[I") (by decide +kernel)) (fun _ h9 => h9) rfl hin rfl (by decide +kernel) rfl rfl (Nat.le_of_ble_eq_true rfl) dX7_init_173 (fun H locs hP hD hS => ?_)
  have hP : va_P D vwCl [(h0, .inr (7, [.int 0, .ref a7_5, .ref a16_9, .ref a25_13, .ref a33_17, .ref a41_21, .ref a50_25, .ref a59_29, .int 0, .int 0, .int 0, .int 0, .int 0, .ref a67_33, .ref a76_37, .ref a85_41, .ref a94_45, .ref a103_49, .ref a112_53, .ref a121_57, .ref a129_61, .ref a138_65, .ref a146_69, .ref a155_73, .ref a163_77, .ref a171_81])), (a7_5, lp_z cI 60), (a16_9, lp_z cI 1200), (a25_13, lp_z cI 1200), (a33_17, lp_z cI 121), (a41_21, lp_z cI 11), (a50_25, lp_z cI 1200), (a59_29, lp_z cI 13200), (a67_33, lp_z cI 60), (a76_37, lp_z cI 1200), (a85_41, lp_z cI 1200), (a94_45, lp_z cI 1200), (a103_49, lp_z cI 1200), (a112_53, lp_z cI 1200), (a121_57, lp_z cI 1200), (a129_61, lp_z cI 121), (a138_65, lp_z cI 7381), (a146_69, lp_z cI 121), (a155_73, lp_z cI 7381), (a163_77, lp_z cI 8), (a171_81, lp_z cI 60)] H := hP
  have hD : va_D A [(h0, .inr (7, [.int 0, .ref a7_5, .ref a16_9, .ref a25_13, .ref a33_17, .ref a41_21, .ref a50_25, .ref a59_29, .int 0, .int 0, .int 0, .int 0, .int 0, .ref a67_33, .ref a76_37, .ref a85_41, .ref a94_45, .ref a103_49, .ref a112_53, .ref a121_57, .ref a129_61, .ref a138_65, .ref a146_69, .ref a155_73, .ref a163_77, .ref a171_81])), (a7_5, lp_z cI 60), (a16_9, lp_z cI 1200), (a25_13, lp_z cI 1200), (a33_17, lp_z cI 121), (a41_21, lp_z cI 11), (a50_25, lp_z cI 1200), (a59_29, lp_z cI 13200), (a67_33, lp_z cI 60), (a76_37, lp_z cI 1200), (a85_41, lp_z cI 1200), (a94_45, lp_z cI 1200), (a103_49, lp_z cI 1200), (a112_53, lp_z cI 1200), (a121_57, lp_z cI 1200), (a129_61, lp_z cI 121), (a138_65, lp_z cI 7381), (a146_69, lp_z cI 121), (a155_73, lp_z cI 7381), (a163_77, lp_z cI 8), (a171_81, lp_z cI 60)] := hD
  refine lv_iconst (v := 0) hx hb dX7_init_176 (by decide) ?_
  refine lv_istore_n (lv' := [(1, .int 0), (0, .ref h0)]) hx hb dX7_init_177 rfl hl (by decide) rfl (fun ls hl => ?_)
  refine lv_iload_n hx hb dX7_init_178 rfl (lv_at hl 0 rfl) ?_
  refine lv_bipush (v := 11) hx hb dX7_init_179 (by decide) ?_
  refine lv_icmp_ge (tgt := 197) hx hb dX7_init_181 (by decide) (fun q => absurd q (by decide)) (fun _ => ?_)
  refine lv_aload_n hx hb dX7_init_184 rfl (lv_at hl 1 rfl) ?_
  refine va_get (D := D) (ci := 7) (v := .ref a41_21) (C := RX7) (T := TX7) (N := 26) hx hb T lp_u7 hown hWd.1 hP 0 rfl rfl 5 (by decide) (T (.fieldLink RX7 22 "LoadPressModel" "cost" "[I") (by decide +kernel)) (fun _ h9 => h9) rfl dX7_init_185 ?_
  refine lv_iload_n hx hb dX7_init_188 rfl (lv_at hl 0 rfl) ?_
  refine lv_iconst (v := 1) hx hb dX7_init_189 (by decide) ?_
  refine va_iast hx hb hWd.1 hP hD hS 5 0 rfl rfl (lp_vin (a := 0) (by omega) (by omega)) dX7_init_190 (fun H locs hP hD hS => ?_)
  have hP : va_P D vwCl [(h0, .inr (7, [.int 0, .ref a7_5, .ref a16_9, .ref a25_13, .ref a33_17, .ref a41_21, .ref a50_25, .ref a59_29, .int 0, .int 0, .int 0, .int 0, .int 0, .ref a67_33, .ref a76_37, .ref a85_41, .ref a94_45, .ref a103_49, .ref a112_53, .ref a121_57, .ref a129_61, .ref a138_65, .ref a146_69, .ref a155_73, .ref a163_77, .ref a171_81])), (a7_5, lp_z cI 60), (a16_9, lp_z cI 1200), (a25_13, lp_z cI 1200), (a33_17, lp_z cI 121), (a41_21, .inl (cI, 11, .inl (upd (fun _ => 0) 0 1))), (a50_25, lp_z cI 1200), (a59_29, lp_z cI 13200), (a67_33, lp_z cI 60), (a76_37, lp_z cI 1200), (a85_41, lp_z cI 1200), (a94_45, lp_z cI 1200), (a103_49, lp_z cI 1200), (a112_53, lp_z cI 1200), (a121_57, lp_z cI 1200), (a129_61, lp_z cI 121), (a138_65, lp_z cI 7381), (a146_69, lp_z cI 121), (a155_73, lp_z cI 7381), (a163_77, lp_z cI 8), (a171_81, lp_z cI 60)] H := hP
  have hD : va_D A [(h0, .inr (7, [.int 0, .ref a7_5, .ref a16_9, .ref a25_13, .ref a33_17, .ref a41_21, .ref a50_25, .ref a59_29, .int 0, .int 0, .int 0, .int 0, .int 0, .ref a67_33, .ref a76_37, .ref a85_41, .ref a94_45, .ref a103_49, .ref a112_53, .ref a121_57, .ref a129_61, .ref a138_65, .ref a146_69, .ref a155_73, .ref a163_77, .ref a171_81])), (a7_5, lp_z cI 60), (a16_9, lp_z cI 1200), (a25_13, lp_z cI 1200), (a33_17, lp_z cI 121), (a41_21, .inl (cI, 11, .inl (upd (fun _ => 0) 0 1))), (a50_25, lp_z cI 1200), (a59_29, lp_z cI 13200), (a67_33, lp_z cI 60), (a76_37, lp_z cI 1200), (a85_41, lp_z cI 1200), (a94_45, lp_z cI 1200), (a103_49, lp_z cI 1200), (a112_53, lp_z cI 1200), (a121_57, lp_z cI 1200), (a129_61, lp_z cI 121), (a138_65, lp_z cI 7381), (a146_69, lp_z cI 121), (a155_73, lp_z cI 7381), (a163_77, lp_z cI 8), (a171_81, lp_z cI 60)] := hD
  refine lv_iinc (v := 1) (lv' := [(1, .int 1), (0, .ref h0)]) hx hb dX7_init_191 hl (k := 0) rfl (by decide) (by decide) rfl (fun ls hl => ?_)
  refine lv_goto (tgt := 178) hx hb dX7_init_194 (by decide) ?_
  refine lv_iload_n hx hb dX7_init_178 rfl (lv_at hl 0 rfl) ?_
  refine lv_bipush (v := 11) hx hb dX7_init_179 (by decide) ?_
  refine lv_icmp_ge (tgt := 197) hx hb dX7_init_181 (by decide) (fun q => absurd q (by decide)) (fun _ => ?_)
  refine lv_aload_n hx hb dX7_init_184 rfl (lv_at hl 1 rfl) ?_
  refine va_get (D := D) (ci := 7) (v := .ref a41_21) (C := RX7) (T := TX7) (N := 26) hx hb T lp_u7 hown hWd.1 hP 0 rfl rfl 5 (by decide) (T (.fieldLink RX7 22 "LoadPressModel" "cost" "[I") (by decide +kernel)) (fun _ h9 => h9) rfl dX7_init_185 ?_
  refine lv_iload_n hx hb dX7_init_188 rfl (lv_at hl 0 rfl) ?_
  refine lv_iconst (v := 1) hx hb dX7_init_189 (by decide) ?_
  refine va_iast hx hb hWd.1 hP hD hS 5 0 rfl rfl (lp_vin (a := 1) (by omega) (by omega)) dX7_init_190 (fun H locs hP hD hS => ?_)
  have hP : va_P D vwCl [(h0, .inr (7, [.int 0, .ref a7_5, .ref a16_9, .ref a25_13, .ref a33_17, .ref a41_21, .ref a50_25, .ref a59_29, .int 0, .int 0, .int 0, .int 0, .int 0, .ref a67_33, .ref a76_37, .ref a85_41, .ref a94_45, .ref a103_49, .ref a112_53, .ref a121_57, .ref a129_61, .ref a138_65, .ref a146_69, .ref a155_73, .ref a163_77, .ref a171_81])), (a7_5, lp_z cI 60), (a16_9, lp_z cI 1200), (a25_13, lp_z cI 1200), (a33_17, lp_z cI 121), (a41_21, .inl (cI, 11, .inl (upd (upd (fun _ => 0) 0 1) 1 1))), (a50_25, lp_z cI 1200), (a59_29, lp_z cI 13200), (a67_33, lp_z cI 60), (a76_37, lp_z cI 1200), (a85_41, lp_z cI 1200), (a94_45, lp_z cI 1200), (a103_49, lp_z cI 1200), (a112_53, lp_z cI 1200), (a121_57, lp_z cI 1200), (a129_61, lp_z cI 121), (a138_65, lp_z cI 7381), (a146_69, lp_z cI 121), (a155_73, lp_z cI 7381), (a163_77, lp_z cI 8), (a171_81, lp_z cI 60)] H := hP
  have hD : va_D A [(h0, .inr (7, [.int 0, .ref a7_5, .ref a16_9, .ref a25_13, .ref a33_17, .ref a41_21, .ref a50_25, .ref a59_29, .int 0, .int 0, .int 0, .int 0, .int 0, .ref a67_33, .ref a76_37, .ref a85_41, .ref a94_45, .ref a103_49, .ref a112_53, .ref a121_57, .ref a129_61, .ref a138_65, .ref a146_69, .ref a155_73, .ref a163_77, .ref a171_81])), (a7_5, lp_z cI 60), (a16_9, lp_z cI 1200), (a25_13, lp_z cI 1200), (a33_17, lp_z cI 121), (a41_21, .inl (cI, 11, .inl (upd (upd (fun _ => 0) 0 1) 1 1))), (a50_25, lp_z cI 1200), (a59_29, lp_z cI 13200), (a67_33, lp_z cI 60), (a76_37, lp_z cI 1200), (a85_41, lp_z cI 1200), (a94_45, lp_z cI 1200), (a103_49, lp_z cI 1200), (a112_53, lp_z cI 1200), (a121_57, lp_z cI 1200), (a129_61, lp_z cI 121), (a138_65, lp_z cI 7381), (a146_69, lp_z cI 121), (a155_73, lp_z cI 7381), (a163_77, lp_z cI 8), (a171_81, lp_z cI 60)] := hD
  refine lv_iinc (v := 2) (lv' := [(1, .int 2), (0, .ref h0)]) hx hb dX7_init_191 hl (k := 0) rfl (by decide) (by decide) rfl (fun ls hl => ?_)
  refine lv_goto (tgt := 178) hx hb dX7_init_194 (by decide) ?_
  refine lv_iload_n hx hb dX7_init_178 rfl (lv_at hl 0 rfl) ?_
  refine lv_bipush (v := 11) hx hb dX7_init_179 (by decide) ?_
  refine lv_icmp_ge (tgt := 197) hx hb dX7_init_181 (by decide) (fun q => absurd q (by decide)) (fun _ => ?_)
  refine lv_aload_n hx hb dX7_init_184 rfl (lv_at hl 1 rfl) ?_
  refine va_get (D := D) (ci := 7) (v := .ref a41_21) (C := RX7) (T := TX7) (N := 26) hx hb T lp_u7 hown hWd.1 hP 0 rfl rfl 5 (by decide) (T (.fieldLink RX7 22 "LoadPressModel" "cost" "[I") (by decide +kernel)) (fun _ h9 => h9) rfl dX7_init_185 ?_
  refine lv_iload_n hx hb dX7_init_188 rfl (lv_at hl 0 rfl) ?_
  refine lv_iconst (v := 1) hx hb dX7_init_189 (by decide) ?_
  refine va_iast hx hb hWd.1 hP hD hS 5 0 rfl rfl (lp_vin (a := 2) (by omega) (by omega)) dX7_init_190 (fun H locs hP hD hS => ?_)
  have hP : va_P D vwCl [(h0, .inr (7, [.int 0, .ref a7_5, .ref a16_9, .ref a25_13, .ref a33_17, .ref a41_21, .ref a50_25, .ref a59_29, .int 0, .int 0, .int 0, .int 0, .int 0, .ref a67_33, .ref a76_37, .ref a85_41, .ref a94_45, .ref a103_49, .ref a112_53, .ref a121_57, .ref a129_61, .ref a138_65, .ref a146_69, .ref a155_73, .ref a163_77, .ref a171_81])), (a7_5, lp_z cI 60), (a16_9, lp_z cI 1200), (a25_13, lp_z cI 1200), (a33_17, lp_z cI 121), (a41_21, .inl (cI, 11, .inl (upd (upd (upd (fun _ => 0) 0 1) 1 1) 2 1))), (a50_25, lp_z cI 1200), (a59_29, lp_z cI 13200), (a67_33, lp_z cI 60), (a76_37, lp_z cI 1200), (a85_41, lp_z cI 1200), (a94_45, lp_z cI 1200), (a103_49, lp_z cI 1200), (a112_53, lp_z cI 1200), (a121_57, lp_z cI 1200), (a129_61, lp_z cI 121), (a138_65, lp_z cI 7381), (a146_69, lp_z cI 121), (a155_73, lp_z cI 7381), (a163_77, lp_z cI 8), (a171_81, lp_z cI 60)] H := hP
  have hD : va_D A [(h0, .inr (7, [.int 0, .ref a7_5, .ref a16_9, .ref a25_13, .ref a33_17, .ref a41_21, .ref a50_25, .ref a59_29, .int 0, .int 0, .int 0, .int 0, .int 0, .ref a67_33, .ref a76_37, .ref a85_41, .ref a94_45, .ref a103_49, .ref a112_53, .ref a121_57, .ref a129_61, .ref a138_65, .ref a146_69, .ref a155_73, .ref a163_77, .ref a171_81])), (a7_5, lp_z cI 60), (a16_9, lp_z cI 1200), (a25_13, lp_z cI 1200), (a33_17, lp_z cI 121), (a41_21, .inl (cI, 11, .inl (upd (upd (upd (fun _ => 0) 0 1) 1 1) 2 1))), (a50_25, lp_z cI 1200), (a59_29, lp_z cI 13200), (a67_33, lp_z cI 60), (a76_37, lp_z cI 1200), (a85_41, lp_z cI 1200), (a94_45, lp_z cI 1200), (a103_49, lp_z cI 1200), (a112_53, lp_z cI 1200), (a121_57, lp_z cI 1200), (a129_61, lp_z cI 121), (a138_65, lp_z cI 7381), (a146_69, lp_z cI 121), (a155_73, lp_z cI 7381), (a163_77, lp_z cI 8), (a171_81, lp_z cI 60)] := hD
  refine lv_iinc (v := 3) (lv' := [(1, .int 3), (0, .ref h0)]) hx hb dX7_init_191 hl (k := 0) rfl (by decide) (by decide) rfl (fun ls hl => ?_)
  refine lv_goto (tgt := 178) hx hb dX7_init_194 (by decide) ?_
  refine lv_iload_n hx hb dX7_init_178 rfl (lv_at hl 0 rfl) ?_
  refine lv_bipush (v := 11) hx hb dX7_init_179 (by decide) ?_
  refine lv_icmp_ge (tgt := 197) hx hb dX7_init_181 (by decide) (fun q => absurd q (by decide)) (fun _ => ?_)
  refine lv_aload_n hx hb dX7_init_184 rfl (lv_at hl 1 rfl) ?_
  refine va_get (D := D) (ci := 7) (v := .ref a41_21) (C := RX7) (T := TX7) (N := 26) hx hb T lp_u7 hown hWd.1 hP 0 rfl rfl 5 (by decide) (T (.fieldLink RX7 22 "LoadPressModel" "cost" "[I") (by decide +kernel)) (fun _ h9 => h9) rfl dX7_init_185 ?_
  refine lv_iload_n hx hb dX7_init_188 rfl (lv_at hl 0 rfl) ?_
  refine lv_iconst (v := 1) hx hb dX7_init_189 (by decide) ?_
  refine va_iast hx hb hWd.1 hP hD hS 5 0 rfl rfl (lp_vin (a := 3) (by omega) (by omega)) dX7_init_190 (fun H locs hP hD hS => ?_)
  have hP : va_P D vwCl [(h0, .inr (7, [.int 0, .ref a7_5, .ref a16_9, .ref a25_13, .ref a33_17, .ref a41_21, .ref a50_25, .ref a59_29, .int 0, .int 0, .int 0, .int 0, .int 0, .ref a67_33, .ref a76_37, .ref a85_41, .ref a94_45, .ref a103_49, .ref a112_53, .ref a121_57, .ref a129_61, .ref a138_65, .ref a146_69, .ref a155_73, .ref a163_77, .ref a171_81])), (a7_5, lp_z cI 60), (a16_9, lp_z cI 1200), (a25_13, lp_z cI 1200), (a33_17, lp_z cI 121), (a41_21, .inl (cI, 11, .inl (upd (upd (upd (upd (fun _ => 0) 0 1) 1 1) 2 1) 3 1))), (a50_25, lp_z cI 1200), (a59_29, lp_z cI 13200), (a67_33, lp_z cI 60), (a76_37, lp_z cI 1200), (a85_41, lp_z cI 1200), (a94_45, lp_z cI 1200), (a103_49, lp_z cI 1200), (a112_53, lp_z cI 1200), (a121_57, lp_z cI 1200), (a129_61, lp_z cI 121), (a138_65, lp_z cI 7381), (a146_69, lp_z cI 121), (a155_73, lp_z cI 7381), (a163_77, lp_z cI 8), (a171_81, lp_z cI 60)] H := hP
  have hD : va_D A [(h0, .inr (7, [.int 0, .ref a7_5, .ref a16_9, .ref a25_13, .ref a33_17, .ref a41_21, .ref a50_25, .ref a59_29, .int 0, .int 0, .int 0, .int 0, .int 0, .ref a67_33, .ref a76_37, .ref a85_41, .ref a94_45, .ref a103_49, .ref a112_53, .ref a121_57, .ref a129_61, .ref a138_65, .ref a146_69, .ref a155_73, .ref a163_77, .ref a171_81])), (a7_5, lp_z cI 60), (a16_9, lp_z cI 1200), (a25_13, lp_z cI 1200), (a33_17, lp_z cI 121), (a41_21, .inl (cI, 11, .inl (upd (upd (upd (upd (fun _ => 0) 0 1) 1 1) 2 1) 3 1))), (a50_25, lp_z cI 1200), (a59_29, lp_z cI 13200), (a67_33, lp_z cI 60), (a76_37, lp_z cI 1200), (a85_41, lp_z cI 1200), (a94_45, lp_z cI 1200), (a103_49, lp_z cI 1200), (a112_53, lp_z cI 1200), (a121_57, lp_z cI 1200), (a129_61, lp_z cI 121), (a138_65, lp_z cI 7381), (a146_69, lp_z cI 121), (a155_73, lp_z cI 7381), (a163_77, lp_z cI 8), (a171_81, lp_z cI 60)] := hD
  refine lv_iinc (v := 4) (lv' := [(1, .int 4), (0, .ref h0)]) hx hb dX7_init_191 hl (k := 0) rfl (by decide) (by decide) rfl (fun ls hl => ?_)
  refine lv_goto (tgt := 178) hx hb dX7_init_194 (by decide) ?_
  refine lv_iload_n hx hb dX7_init_178 rfl (lv_at hl 0 rfl) ?_
  refine lv_bipush (v := 11) hx hb dX7_init_179 (by decide) ?_
  refine lv_icmp_ge (tgt := 197) hx hb dX7_init_181 (by decide) (fun q => absurd q (by decide)) (fun _ => ?_)
  refine lv_aload_n hx hb dX7_init_184 rfl (lv_at hl 1 rfl) ?_
  refine va_get (D := D) (ci := 7) (v := .ref a41_21) (C := RX7) (T := TX7) (N := 26) hx hb T lp_u7 hown hWd.1 hP 0 rfl rfl 5 (by decide) (T (.fieldLink RX7 22 "LoadPressModel" "cost" "[I") (by decide +kernel)) (fun _ h9 => h9) rfl dX7_init_185 ?_
  refine lv_iload_n hx hb dX7_init_188 rfl (lv_at hl 0 rfl) ?_
  refine lv_iconst (v := 1) hx hb dX7_init_189 (by decide) ?_
  refine va_iast hx hb hWd.1 hP hD hS 5 0 rfl rfl (lp_vin (a := 4) (by omega) (by omega)) dX7_init_190 (fun H locs hP hD hS => ?_)
  have hP : va_P D vwCl [(h0, .inr (7, [.int 0, .ref a7_5, .ref a16_9, .ref a25_13, .ref a33_17, .ref a41_21, .ref a50_25, .ref a59_29, .int 0, .int 0, .int 0, .int 0, .int 0, .ref a67_33, .ref a76_37, .ref a85_41, .ref a94_45, .ref a103_49, .ref a112_53, .ref a121_57, .ref a129_61, .ref a138_65, .ref a146_69, .ref a155_73, .ref a163_77, .ref a171_81])), (a7_5, lp_z cI 60), (a16_9, lp_z cI 1200), (a25_13, lp_z cI 1200), (a33_17, lp_z cI 121), (a41_21, .inl (cI, 11, .inl (upd (upd (upd (upd (upd (fun _ => 0) 0 1) 1 1) 2 1) 3 1) 4 1))), (a50_25, lp_z cI 1200), (a59_29, lp_z cI 13200), (a67_33, lp_z cI 60), (a76_37, lp_z cI 1200), (a85_41, lp_z cI 1200), (a94_45, lp_z cI 1200), (a103_49, lp_z cI 1200), (a112_53, lp_z cI 1200), (a121_57, lp_z cI 1200), (a129_61, lp_z cI 121), (a138_65, lp_z cI 7381), (a146_69, lp_z cI 121), (a155_73, lp_z cI 7381), (a163_77, lp_z cI 8), (a171_81, lp_z cI 60)] H := hP
  have hD : va_D A [(h0, .inr (7, [.int 0, .ref a7_5, .ref a16_9, .ref a25_13, .ref a33_17, .ref a41_21, .ref a50_25, .ref a59_29, .int 0, .int 0, .int 0, .int 0, .int 0, .ref a67_33, .ref a76_37, .ref a85_41, .ref a94_45, .ref a103_49, .ref a112_53, .ref a121_57, .ref a129_61, .ref a138_65, .ref a146_69, .ref a155_73, .ref a163_77, .ref a171_81])), (a7_5, lp_z cI 60), (a16_9, lp_z cI 1200), (a25_13, lp_z cI 1200), (a33_17, lp_z cI 121), (a41_21, .inl (cI, 11, .inl (upd (upd (upd (upd (upd (fun _ => 0) 0 1) 1 1) 2 1) 3 1) 4 1))), (a50_25, lp_z cI 1200), (a59_29, lp_z cI 13200), (a67_33, lp_z cI 60), (a76_37, lp_z cI 1200), (a85_41, lp_z cI 1200), (a94_45, lp_z cI 1200), (a103_49, lp_z cI 1200), (a112_53, lp_z cI 1200), (a121_57, lp_z cI 1200), (a129_61, lp_z cI 121), (a138_65, lp_z cI 7381), (a146_69, lp_z cI 121), (a155_73, lp_z cI 7381), (a163_77, lp_z cI 8), (a171_81, lp_z cI 60)] := hD
  refine lv_iinc (v := 5) (lv' := [(1, .int 5), (0, .ref h0)]) hx hb dX7_init_191 hl (k := 0) rfl (by decide) (by decide) rfl (fun ls hl => ?_)
  refine lv_goto (tgt := 178) hx hb dX7_init_194 (by decide) ?_
  refine lv_iload_n hx hb dX7_init_178 rfl (lv_at hl 0 rfl) ?_
  refine lv_bipush (v := 11) hx hb dX7_init_179 (by decide) ?_
  refine lv_icmp_ge (tgt := 197) hx hb dX7_init_181 (by decide) (fun q => absurd q (by decide)) (fun _ => ?_)
  refine lv_aload_n hx hb dX7_init_184 rfl (lv_at hl 1 rfl) ?_
  refine va_get (D := D) (ci := 7) (v := .ref a41_21) (C := RX7) (T := TX7) (N := 26) hx hb T lp_u7 hown hWd.1 hP 0 rfl rfl 5 (by decide) (T (.fieldLink RX7 22 "LoadPressModel" "cost" "[I") (by decide +kernel)) (fun _ h9 => h9) rfl dX7_init_185 ?_
  refine lv_iload_n hx hb dX7_init_188 rfl (lv_at hl 0 rfl) ?_
  refine lv_iconst (v := 1) hx hb dX7_init_189 (by decide) ?_
  refine va_iast hx hb hWd.1 hP hD hS 5 0 rfl rfl (lp_vin (a := 5) (by omega) (by omega)) dX7_init_190 (fun H locs hP hD hS => ?_)
  have hP : va_P D vwCl [(h0, .inr (7, [.int 0, .ref a7_5, .ref a16_9, .ref a25_13, .ref a33_17, .ref a41_21, .ref a50_25, .ref a59_29, .int 0, .int 0, .int 0, .int 0, .int 0, .ref a67_33, .ref a76_37, .ref a85_41, .ref a94_45, .ref a103_49, .ref a112_53, .ref a121_57, .ref a129_61, .ref a138_65, .ref a146_69, .ref a155_73, .ref a163_77, .ref a171_81])), (a7_5, lp_z cI 60), (a16_9, lp_z cI 1200), (a25_13, lp_z cI 1200), (a33_17, lp_z cI 121), (a41_21, .inl (cI, 11, .inl (upd (upd (upd (upd (upd (upd (fun _ => 0) 0 1) 1 1) 2 1) 3 1) 4 1) 5 1))), (a50_25, lp_z cI 1200), (a59_29, lp_z cI 13200), (a67_33, lp_z cI 60), (a76_37, lp_z cI 1200), (a85_41, lp_z cI 1200), (a94_45, lp_z cI 1200), (a103_49, lp_z cI 1200), (a112_53, lp_z cI 1200), (a121_57, lp_z cI 1200), (a129_61, lp_z cI 121), (a138_65, lp_z cI 7381), (a146_69, lp_z cI 121), (a155_73, lp_z cI 7381), (a163_77, lp_z cI 8), (a171_81, lp_z cI 60)] H := hP
  have hD : va_D A [(h0, .inr (7, [.int 0, .ref a7_5, .ref a16_9, .ref a25_13, .ref a33_17, .ref a41_21, .ref a50_25, .ref a59_29, .int 0, .int 0, .int 0, .int 0, .int 0, .ref a67_33, .ref a76_37, .ref a85_41, .ref a94_45, .ref a103_49, .ref a112_53, .ref a121_57, .ref a129_61, .ref a138_65, .ref a146_69, .ref a155_73, .ref a163_77, .ref a171_81])), (a7_5, lp_z cI 60), (a16_9, lp_z cI 1200), (a25_13, lp_z cI 1200), (a33_17, lp_z cI 121), (a41_21, .inl (cI, 11, .inl (upd (upd (upd (upd (upd (upd (fun _ => 0) 0 1) 1 1) 2 1) 3 1) 4 1) 5 1))), (a50_25, lp_z cI 1200), (a59_29, lp_z cI 13200), (a67_33, lp_z cI 60), (a76_37, lp_z cI 1200), (a85_41, lp_z cI 1200), (a94_45, lp_z cI 1200), (a103_49, lp_z cI 1200), (a112_53, lp_z cI 1200), (a121_57, lp_z cI 1200), (a129_61, lp_z cI 121), (a138_65, lp_z cI 7381), (a146_69, lp_z cI 121), (a155_73, lp_z cI 7381), (a163_77, lp_z cI 8), (a171_81, lp_z cI 60)] := hD
  refine lv_iinc (v := 6) (lv' := [(1, .int 6), (0, .ref h0)]) hx hb dX7_init_191 hl (k := 0) rfl (by decide) (by decide) rfl (fun ls hl => ?_)
  refine lv_goto (tgt := 178) hx hb dX7_init_194 (by decide) ?_
  refine lv_iload_n hx hb dX7_init_178 rfl (lv_at hl 0 rfl) ?_
  refine lv_bipush (v := 11) hx hb dX7_init_179 (by decide) ?_
  refine lv_icmp_ge (tgt := 197) hx hb dX7_init_181 (by decide) (fun q => absurd q (by decide)) (fun _ => ?_)
  refine lv_aload_n hx hb dX7_init_184 rfl (lv_at hl 1 rfl) ?_
  refine va_get (D := D) (ci := 7) (v := .ref a41_21) (C := RX7) (T := TX7) (N := 26) hx hb T lp_u7 hown hWd.1 hP 0 rfl rfl 5 (by decide) (T (.fieldLink RX7 22 "LoadPressModel" "cost" "[I") (by decide +kernel)) (fun _ h9 => h9) rfl dX7_init_185 ?_
  refine lv_iload_n hx hb dX7_init_188 rfl (lv_at hl 0 rfl) ?_
  refine lv_iconst (v := 1) hx hb dX7_init_189 (by decide) ?_
  refine va_iast hx hb hWd.1 hP hD hS 5 0 rfl rfl (lp_vin (a := 6) (by omega) (by omega)) dX7_init_190 (fun H locs hP hD hS => ?_)
  have hP : va_P D vwCl [(h0, .inr (7, [.int 0, .ref a7_5, .ref a16_9, .ref a25_13, .ref a33_17, .ref a41_21, .ref a50_25, .ref a59_29, .int 0, .int 0, .int 0, .int 0, .int 0, .ref a67_33, .ref a76_37, .ref a85_41, .ref a94_45, .ref a103_49, .ref a112_53, .ref a121_57, .ref a129_61, .ref a138_65, .ref a146_69, .ref a155_73, .ref a163_77, .ref a171_81])), (a7_5, lp_z cI 60), (a16_9, lp_z cI 1200), (a25_13, lp_z cI 1200), (a33_17, lp_z cI 121), (a41_21, .inl (cI, 11, .inl (upd (upd (upd (upd (upd (upd (upd (fun _ => 0) 0 1) 1 1) 2 1) 3 1) 4 1) 5 1) 6 1))), (a50_25, lp_z cI 1200), (a59_29, lp_z cI 13200), (a67_33, lp_z cI 60), (a76_37, lp_z cI 1200), (a85_41, lp_z cI 1200), (a94_45, lp_z cI 1200), (a103_49, lp_z cI 1200), (a112_53, lp_z cI 1200), (a121_57, lp_z cI 1200), (a129_61, lp_z cI 121), (a138_65, lp_z cI 7381), (a146_69, lp_z cI 121), (a155_73, lp_z cI 7381), (a163_77, lp_z cI 8), (a171_81, lp_z cI 60)] H := hP
  have hD : va_D A [(h0, .inr (7, [.int 0, .ref a7_5, .ref a16_9, .ref a25_13, .ref a33_17, .ref a41_21, .ref a50_25, .ref a59_29, .int 0, .int 0, .int 0, .int 0, .int 0, .ref a67_33, .ref a76_37, .ref a85_41, .ref a94_45, .ref a103_49, .ref a112_53, .ref a121_57, .ref a129_61, .ref a138_65, .ref a146_69, .ref a155_73, .ref a163_77, .ref a171_81])), (a7_5, lp_z cI 60), (a16_9, lp_z cI 1200), (a25_13, lp_z cI 1200), (a33_17, lp_z cI 121), (a41_21, .inl (cI, 11, .inl (upd (upd (upd (upd (upd (upd (upd (fun _ => 0) 0 1) 1 1) 2 1) 3 1) 4 1) 5 1) 6 1))), (a50_25, lp_z cI 1200), (a59_29, lp_z cI 13200), (a67_33, lp_z cI 60), (a76_37, lp_z cI 1200), (a85_41, lp_z cI 1200), (a94_45, lp_z cI 1200), (a103_49, lp_z cI 1200), (a112_53, lp_z cI 1200), (a121_57, lp_z cI 1200), (a129_61, lp_z cI 121), (a138_65, lp_z cI 7381), (a146_69, lp_z cI 121), (a155_73, lp_z cI 7381), (a163_77, lp_z cI 8), (a171_81, lp_z cI 60)] := hD
  refine lv_iinc (v := 7) (lv' := [(1, .int 7), (0, .ref h0)]) hx hb dX7_init_191 hl (k := 0) rfl (by decide) (by decide) rfl (fun ls hl => ?_)
  refine lv_goto (tgt := 178) hx hb dX7_init_194 (by decide) ?_
  refine lv_iload_n hx hb dX7_init_178 rfl (lv_at hl 0 rfl) ?_
  refine lv_bipush (v := 11) hx hb dX7_init_179 (by decide) ?_
  refine lv_icmp_ge (tgt := 197) hx hb dX7_init_181 (by decide) (fun q => absurd q (by decide)) (fun _ => ?_)
  refine lv_aload_n hx hb dX7_init_184 rfl (lv_at hl 1 rfl) ?_
  refine va_get (D := D) (ci := 7) (v := .ref a41_21) (C := RX7) (T := TX7) (N := 26) hx hb T lp_u7 hown hWd.1 hP 0 rfl rfl 5 (by decide) (T (.fieldLink RX7 22 "LoadPressModel" "cost" "[I") (by decide +kernel)) (fun _ h9 => h9) rfl dX7_init_185 ?_
  refine lv_iload_n hx hb dX7_init_188 rfl (lv_at hl 0 rfl) ?_
  refine lv_iconst (v := 1) hx hb dX7_init_189 (by decide) ?_
  refine va_iast hx hb hWd.1 hP hD hS 5 0 rfl rfl (lp_vin (a := 7) (by omega) (by omega)) dX7_init_190 (fun H locs hP hD hS => ?_)
  have hP : va_P D vwCl [(h0, .inr (7, [.int 0, .ref a7_5, .ref a16_9, .ref a25_13, .ref a33_17, .ref a41_21, .ref a50_25, .ref a59_29, .int 0, .int 0, .int 0, .int 0, .int 0, .ref a67_33, .ref a76_37, .ref a85_41, .ref a94_45, .ref a103_49, .ref a112_53, .ref a121_57, .ref a129_61, .ref a138_65, .ref a146_69, .ref a155_73, .ref a163_77, .ref a171_81])), (a7_5, lp_z cI 60), (a16_9, lp_z cI 1200), (a25_13, lp_z cI 1200), (a33_17, lp_z cI 121), (a41_21, .inl (cI, 11, .inl (upd (upd (upd (upd (upd (upd (upd (upd (fun _ => 0) 0 1) 1 1) 2 1) 3 1) 4 1) 5 1) 6 1) 7 1))), (a50_25, lp_z cI 1200), (a59_29, lp_z cI 13200), (a67_33, lp_z cI 60), (a76_37, lp_z cI 1200), (a85_41, lp_z cI 1200), (a94_45, lp_z cI 1200), (a103_49, lp_z cI 1200), (a112_53, lp_z cI 1200), (a121_57, lp_z cI 1200), (a129_61, lp_z cI 121), (a138_65, lp_z cI 7381), (a146_69, lp_z cI 121), (a155_73, lp_z cI 7381), (a163_77, lp_z cI 8), (a171_81, lp_z cI 60)] H := hP
  have hD : va_D A [(h0, .inr (7, [.int 0, .ref a7_5, .ref a16_9, .ref a25_13, .ref a33_17, .ref a41_21, .ref a50_25, .ref a59_29, .int 0, .int 0, .int 0, .int 0, .int 0, .ref a67_33, .ref a76_37, .ref a85_41, .ref a94_45, .ref a103_49, .ref a112_53, .ref a121_57, .ref a129_61, .ref a138_65, .ref a146_69, .ref a155_73, .ref a163_77, .ref a171_81])), (a7_5, lp_z cI 60), (a16_9, lp_z cI 1200), (a25_13, lp_z cI 1200), (a33_17, lp_z cI 121), (a41_21, .inl (cI, 11, .inl (upd (upd (upd (upd (upd (upd (upd (upd (fun _ => 0) 0 1) 1 1) 2 1) 3 1) 4 1) 5 1) 6 1) 7 1))), (a50_25, lp_z cI 1200), (a59_29, lp_z cI 13200), (a67_33, lp_z cI 60), (a76_37, lp_z cI 1200), (a85_41, lp_z cI 1200), (a94_45, lp_z cI 1200), (a103_49, lp_z cI 1200), (a112_53, lp_z cI 1200), (a121_57, lp_z cI 1200), (a129_61, lp_z cI 121), (a138_65, lp_z cI 7381), (a146_69, lp_z cI 121), (a155_73, lp_z cI 7381), (a163_77, lp_z cI 8), (a171_81, lp_z cI 60)] := hD
  refine lv_iinc (v := 8) (lv' := [(1, .int 8), (0, .ref h0)]) hx hb dX7_init_191 hl (k := 0) rfl (by decide) (by decide) rfl (fun ls hl => ?_)
  refine lv_goto (tgt := 178) hx hb dX7_init_194 (by decide) ?_
  refine lv_iload_n hx hb dX7_init_178 rfl (lv_at hl 0 rfl) ?_
  refine lv_bipush (v := 11) hx hb dX7_init_179 (by decide) ?_
  refine lv_icmp_ge (tgt := 197) hx hb dX7_init_181 (by decide) (fun q => absurd q (by decide)) (fun _ => ?_)
  refine lv_aload_n hx hb dX7_init_184 rfl (lv_at hl 1 rfl) ?_
  refine va_get (D := D) (ci := 7) (v := .ref a41_21) (C := RX7) (T := TX7) (N := 26) hx hb T lp_u7 hown hWd.1 hP 0 rfl rfl 5 (by decide) (T (.fieldLink RX7 22 "LoadPressModel" "cost" "[I") (by decide +kernel)) (fun _ h9 => h9) rfl dX7_init_185 ?_
  refine lv_iload_n hx hb dX7_init_188 rfl (lv_at hl 0 rfl) ?_
  refine lv_iconst (v := 1) hx hb dX7_init_189 (by decide) ?_
  refine va_iast hx hb hWd.1 hP hD hS 5 0 rfl rfl (lp_vin (a := 8) (by omega) (by omega)) dX7_init_190 (fun H locs hP hD hS => ?_)
  have hP : va_P D vwCl [(h0, .inr (7, [.int 0, .ref a7_5, .ref a16_9, .ref a25_13, .ref a33_17, .ref a41_21, .ref a50_25, .ref a59_29, .int 0, .int 0, .int 0, .int 0, .int 0, .ref a67_33, .ref a76_37, .ref a85_41, .ref a94_45, .ref a103_49, .ref a112_53, .ref a121_57, .ref a129_61, .ref a138_65, .ref a146_69, .ref a155_73, .ref a163_77, .ref a171_81])), (a7_5, lp_z cI 60), (a16_9, lp_z cI 1200), (a25_13, lp_z cI 1200), (a33_17, lp_z cI 121), (a41_21, .inl (cI, 11, .inl (upd (upd (upd (upd (upd (upd (upd (upd (upd (fun _ => 0) 0 1) 1 1) 2 1) 3 1) 4 1) 5 1) 6 1) 7 1) 8 1))), (a50_25, lp_z cI 1200), (a59_29, lp_z cI 13200), (a67_33, lp_z cI 60), (a76_37, lp_z cI 1200), (a85_41, lp_z cI 1200), (a94_45, lp_z cI 1200), (a103_49, lp_z cI 1200), (a112_53, lp_z cI 1200), (a121_57, lp_z cI 1200), (a129_61, lp_z cI 121), (a138_65, lp_z cI 7381), (a146_69, lp_z cI 121), (a155_73, lp_z cI 7381), (a163_77, lp_z cI 8), (a171_81, lp_z cI 60)] H := hP
  have hD : va_D A [(h0, .inr (7, [.int 0, .ref a7_5, .ref a16_9, .ref a25_13, .ref a33_17, .ref a41_21, .ref a50_25, .ref a59_29, .int 0, .int 0, .int 0, .int 0, .int 0, .ref a67_33, .ref a76_37, .ref a85_41, .ref a94_45, .ref a103_49, .ref a112_53, .ref a121_57, .ref a129_61, .ref a138_65, .ref a146_69, .ref a155_73, .ref a163_77, .ref a171_81])), (a7_5, lp_z cI 60), (a16_9, lp_z cI 1200), (a25_13, lp_z cI 1200), (a33_17, lp_z cI 121), (a41_21, .inl (cI, 11, .inl (upd (upd (upd (upd (upd (upd (upd (upd (upd (fun _ => 0) 0 1) 1 1) 2 1) 3 1) 4 1) 5 1) 6 1) 7 1) 8 1))), (a50_25, lp_z cI 1200), (a59_29, lp_z cI 13200), (a67_33, lp_z cI 60), (a76_37, lp_z cI 1200), (a85_41, lp_z cI 1200), (a94_45, lp_z cI 1200), (a103_49, lp_z cI 1200), (a112_53, lp_z cI 1200), (a121_57, lp_z cI 1200), (a129_61, lp_z cI 121), (a138_65, lp_z cI 7381), (a146_69, lp_z cI 121), (a155_73, lp_z cI 7381), (a163_77, lp_z cI 8), (a171_81, lp_z cI 60)] := hD
  refine lv_iinc (v := 9) (lv' := [(1, .int 9), (0, .ref h0)]) hx hb dX7_init_191 hl (k := 0) rfl (by decide) (by decide) rfl (fun ls hl => ?_)
  refine lv_goto (tgt := 178) hx hb dX7_init_194 (by decide) ?_
  refine lv_iload_n hx hb dX7_init_178 rfl (lv_at hl 0 rfl) ?_
  refine lv_bipush (v := 11) hx hb dX7_init_179 (by decide) ?_
  refine lv_icmp_ge (tgt := 197) hx hb dX7_init_181 (by decide) (fun q => absurd q (by decide)) (fun _ => ?_)
  refine lv_aload_n hx hb dX7_init_184 rfl (lv_at hl 1 rfl) ?_
  refine va_get (D := D) (ci := 7) (v := .ref a41_21) (C := RX7) (T := TX7) (N := 26) hx hb T lp_u7 hown hWd.1 hP 0 rfl rfl 5 (by decide) (T (.fieldLink RX7 22 "LoadPressModel" "cost" "[I") (by decide +kernel)) (fun _ h9 => h9) rfl dX7_init_185 ?_
  refine lv_iload_n hx hb dX7_init_188 rfl (lv_at hl 0 rfl) ?_
  refine lv_iconst (v := 1) hx hb dX7_init_189 (by decide) ?_
  refine va_iast hx hb hWd.1 hP hD hS 5 0 rfl rfl (lp_vin (a := 9) (by omega) (by omega)) dX7_init_190 (fun H locs hP hD hS => ?_)
  have hP : va_P D vwCl [(h0, .inr (7, [.int 0, .ref a7_5, .ref a16_9, .ref a25_13, .ref a33_17, .ref a41_21, .ref a50_25, .ref a59_29, .int 0, .int 0, .int 0, .int 0, .int 0, .ref a67_33, .ref a76_37, .ref a85_41, .ref a94_45, .ref a103_49, .ref a112_53, .ref a121_57, .ref a129_61, .ref a138_65, .ref a146_69, .ref a155_73, .ref a163_77, .ref a171_81])), (a7_5, lp_z cI 60), (a16_9, lp_z cI 1200), (a25_13, lp_z cI 1200), (a33_17, lp_z cI 121), (a41_21, .inl (cI, 11, .inl (upd (upd (upd (upd (upd (upd (upd (upd (upd (upd (fun _ => 0) 0 1) 1 1) 2 1) 3 1) 4 1) 5 1) 6 1) 7 1) 8 1) 9 1))), (a50_25, lp_z cI 1200), (a59_29, lp_z cI 13200), (a67_33, lp_z cI 60), (a76_37, lp_z cI 1200), (a85_41, lp_z cI 1200), (a94_45, lp_z cI 1200), (a103_49, lp_z cI 1200), (a112_53, lp_z cI 1200), (a121_57, lp_z cI 1200), (a129_61, lp_z cI 121), (a138_65, lp_z cI 7381), (a146_69, lp_z cI 121), (a155_73, lp_z cI 7381), (a163_77, lp_z cI 8), (a171_81, lp_z cI 60)] H := hP
  have hD : va_D A [(h0, .inr (7, [.int 0, .ref a7_5, .ref a16_9, .ref a25_13, .ref a33_17, .ref a41_21, .ref a50_25, .ref a59_29, .int 0, .int 0, .int 0, .int 0, .int 0, .ref a67_33, .ref a76_37, .ref a85_41, .ref a94_45, .ref a103_49, .ref a112_53, .ref a121_57, .ref a129_61, .ref a138_65, .ref a146_69, .ref a155_73, .ref a163_77, .ref a171_81])), (a7_5, lp_z cI 60), (a16_9, lp_z cI 1200), (a25_13, lp_z cI 1200), (a33_17, lp_z cI 121), (a41_21, .inl (cI, 11, .inl (upd (upd (upd (upd (upd (upd (upd (upd (upd (upd (fun _ => 0) 0 1) 1 1) 2 1) 3 1) 4 1) 5 1) 6 1) 7 1) 8 1) 9 1))), (a50_25, lp_z cI 1200), (a59_29, lp_z cI 13200), (a67_33, lp_z cI 60), (a76_37, lp_z cI 1200), (a85_41, lp_z cI 1200), (a94_45, lp_z cI 1200), (a103_49, lp_z cI 1200), (a112_53, lp_z cI 1200), (a121_57, lp_z cI 1200), (a129_61, lp_z cI 121), (a138_65, lp_z cI 7381), (a146_69, lp_z cI 121), (a155_73, lp_z cI 7381), (a163_77, lp_z cI 8), (a171_81, lp_z cI 60)] := hD
  refine lv_iinc (v := 10) (lv' := [(1, .int 10), (0, .ref h0)]) hx hb dX7_init_191 hl (k := 0) rfl (by decide) (by decide) rfl (fun ls hl => ?_)
  refine lv_goto (tgt := 178) hx hb dX7_init_194 (by decide) ?_
  refine lv_iload_n hx hb dX7_init_178 rfl (lv_at hl 0 rfl) ?_
  refine lv_bipush (v := 11) hx hb dX7_init_179 (by decide) ?_
  refine lv_icmp_ge (tgt := 197) hx hb dX7_init_181 (by decide) (fun q => absurd q (by decide)) (fun _ => ?_)
  refine lv_aload_n hx hb dX7_init_184 rfl (lv_at hl 1 rfl) ?_
  refine va_get (D := D) (ci := 7) (v := .ref a41_21) (C := RX7) (T := TX7) (N := 26) hx hb T lp_u7 hown hWd.1 hP 0 rfl rfl 5 (by decide) (T (.fieldLink RX7 22 "LoadPressModel" "cost" "[I") (by decide +kernel)) (fun _ h9 => h9) rfl dX7_init_185 ?_
  refine lv_iload_n hx hb dX7_init_188 rfl (lv_at hl 0 rfl) ?_
  refine lv_iconst (v := 1) hx hb dX7_init_189 (by decide) ?_
  refine va_iast hx hb hWd.1 hP hD hS 5 0 rfl rfl (lp_vin (a := 10) (by omega) (by omega)) dX7_init_190 (fun H locs hP hD hS => ?_)
  have hP : va_P D vwCl [(h0, .inr (7, [.int 0, .ref a7_5, .ref a16_9, .ref a25_13, .ref a33_17, .ref a41_21, .ref a50_25, .ref a59_29, .int 0, .int 0, .int 0, .int 0, .int 0, .ref a67_33, .ref a76_37, .ref a85_41, .ref a94_45, .ref a103_49, .ref a112_53, .ref a121_57, .ref a129_61, .ref a138_65, .ref a146_69, .ref a155_73, .ref a163_77, .ref a171_81])), (a7_5, lp_z cI 60), (a16_9, lp_z cI 1200), (a25_13, lp_z cI 1200), (a33_17, lp_z cI 121), (a41_21, .inl (cI, 11, .inl (upd (upd (upd (upd (upd (upd (upd (upd (upd (upd (upd (fun _ => 0) 0 1) 1 1) 2 1) 3 1) 4 1) 5 1) 6 1) 7 1) 8 1) 9 1) 10 1))), (a50_25, lp_z cI 1200), (a59_29, lp_z cI 13200), (a67_33, lp_z cI 60), (a76_37, lp_z cI 1200), (a85_41, lp_z cI 1200), (a94_45, lp_z cI 1200), (a103_49, lp_z cI 1200), (a112_53, lp_z cI 1200), (a121_57, lp_z cI 1200), (a129_61, lp_z cI 121), (a138_65, lp_z cI 7381), (a146_69, lp_z cI 121), (a155_73, lp_z cI 7381), (a163_77, lp_z cI 8), (a171_81, lp_z cI 60)] H := hP
  have hD : va_D A [(h0, .inr (7, [.int 0, .ref a7_5, .ref a16_9, .ref a25_13, .ref a33_17, .ref a41_21, .ref a50_25, .ref a59_29, .int 0, .int 0, .int 0, .int 0, .int 0, .ref a67_33, .ref a76_37, .ref a85_41, .ref a94_45, .ref a103_49, .ref a112_53, .ref a121_57, .ref a129_61, .ref a138_65, .ref a146_69, .ref a155_73, .ref a163_77, .ref a171_81])), (a7_5, lp_z cI 60), (a16_9, lp_z cI 1200), (a25_13, lp_z cI 1200), (a33_17, lp_z cI 121), (a41_21, .inl (cI, 11, .inl (upd (upd (upd (upd (upd (upd (upd (upd (upd (upd (upd (fun _ => 0) 0 1) 1 1) 2 1) 3 1) 4 1) 5 1) 6 1) 7 1) 8 1) 9 1) 10 1))), (a50_25, lp_z cI 1200), (a59_29, lp_z cI 13200), (a67_33, lp_z cI 60), (a76_37, lp_z cI 1200), (a85_41, lp_z cI 1200), (a94_45, lp_z cI 1200), (a103_49, lp_z cI 1200), (a112_53, lp_z cI 1200), (a121_57, lp_z cI 1200), (a129_61, lp_z cI 121), (a138_65, lp_z cI 7381), (a146_69, lp_z cI 121), (a155_73, lp_z cI 7381), (a163_77, lp_z cI 8), (a171_81, lp_z cI 60)] := hD
  refine lv_iinc (v := 11) (lv' := [(1, .int 11), (0, .ref h0)]) hx hb dX7_init_191 hl (k := 0) rfl (by decide) (by decide) rfl (fun ls hl => ?_)
  refine lv_goto (tgt := 178) hx hb dX7_init_194 (by decide) ?_
  refine lv_iload_n hx hb dX7_init_178 rfl (lv_at hl 0 rfl) ?_
  refine lv_bipush (v := 11) hx hb dX7_init_179 (by decide) ?_
  refine lv_icmp_ge (tgt := 197) hx hb dX7_init_181 (by decide) (fun _ => ?_) (fun q => absurd (by decide) q)
  have hP9 := hP.sub (ws' := [(h0, .inr (7, [.int 0, .ref a7_5, .ref a16_9, .ref a25_13, .ref a33_17, .ref a41_21, .ref a50_25, .ref a59_29, .int 0, .int 0, .int 0, .int 0, .int 0, .ref a67_33, .ref a76_37, .ref a85_41, .ref a94_45, .ref a103_49, .ref a112_53, .ref a121_57, .ref a129_61, .ref a138_65, .ref a146_69, .ref a155_73, .ref a163_77, .ref a171_81])), (a7_5, lp_z cI 60), (a16_9, lp_z cI 1200), (a25_13, lp_z cI 1200), (a33_17, lp_z cI 121), (a41_21, .inl (cI, 11, .inl (upd (upd (upd (upd (upd (upd (upd (upd (upd (upd (upd (fun _ => 0) 0 1) 1 1) 2 1) 3 1) 4 1) 5 1) 6 1) 7 1) 8 1) 9 1) 10 1))), (a50_25, lp_z cI 1200), (a59_29, lp_z cI 13200), (a67_33, lp_z cI 60), (a76_37, lp_z cI 1200), (a85_41, lp_z cI 1200), (a94_45, lp_z cI 1200), (a103_49, lp_z cI 1200), (a112_53, lp_z cI 1200), (a121_57, lp_z cI 1200), (a129_61, lp_z cI 121), (a138_65, lp_z cI 7381), (a146_69, lp_z cI 121), (a155_73, lp_z cI 7381), (a163_77, lp_z cI 8), (a171_81, lp_z cI 60)]) [0, 1, 2, 3, 4, 5, 6, 7, 8, 9, 10, 11, 12, 13, 14, 15, 16, 17, 18, 19, 20] rfl
  have hD9 := hD.sub (ws' := [(h0, .inr (7, [.int 0, .ref a7_5, .ref a16_9, .ref a25_13, .ref a33_17, .ref a41_21, .ref a50_25, .ref a59_29, .int 0, .int 0, .int 0, .int 0, .int 0, .ref a67_33, .ref a76_37, .ref a85_41, .ref a94_45, .ref a103_49, .ref a112_53, .ref a121_57, .ref a129_61, .ref a138_65, .ref a146_69, .ref a155_73, .ref a163_77, .ref a171_81])), (a7_5, lp_z cI 60), (a16_9, lp_z cI 1200), (a25_13, lp_z cI 1200), (a33_17, lp_z cI 121), (a41_21, .inl (cI, 11, .inl (upd (upd (upd (upd (upd (upd (upd (upd (upd (upd (upd (fun _ => 0) 0 1) 1 1) 2 1) 3 1) 4 1) 5 1) 6 1) 7 1) 8 1) 9 1) 10 1))), (a50_25, lp_z cI 1200), (a59_29, lp_z cI 13200), (a67_33, lp_z cI 60), (a76_37, lp_z cI 1200), (a85_41, lp_z cI 1200), (a94_45, lp_z cI 1200), (a103_49, lp_z cI 1200), (a112_53, lp_z cI 1200), (a121_57, lp_z cI 1200), (a129_61, lp_z cI 121), (a138_65, lp_z cI 7381), (a146_69, lp_z cI 121), (a155_73, lp_z cI 7381), (a163_77, lp_z cI 8), (a171_81, lp_z cI 60)]) [0, 1, 2, 3, 4, 5, 6, 7, 8, 9, 10, 11, 12, 13, 14, 15, 16, 17, 18, 19, 20] (by decide) rfl
  exact W.vret hx hb hr (fun t ht hW => ⟨⟨fun k => ([a7_5, a16_9, a25_13, a33_17, a41_21, a50_25, a59_29, a67_33, a76_37, a85_41, a94_45, a103_49, a112_53, a121_57, a129_61, a138_65, a146_69, a155_73, a163_77, a171_81] : List Nat).getD k 0, rfl, trivial, by rw [ht]; exact hP9, lp_Wd_move hW hWd, hD9⟩, hS.F ht⟩) hS.2.2 dX7_init_197
end
section
/-! ===== a Dealing of the Machine comes to life ===== -/
def lp_born (σ : lpM) (j : Nat) : lpM := fun r k i => if r = 9 ∧ k = 0 ∧ i = j then 1 else if (r = 27 ∨ r = 28) ∧ k = j then 0 else σ r k i
def lp_adn (ad : Nat → Nat → Nat) (j q0 q1 q2 : Nat) : Nat → Nat → Nat := fun r k => if r = 26 ∧ k = j then q0 else if r = 27 ∧ k = j then q1 else if r = 28 ∧ k = j then q2 else ad r k
theorem lp_adn_ne {ad : Nat → Nat → Nat} {j q0 q1 q2 r k : Nat} (h : ¬ (26 ≤ r ∧ r ≤ 28 ∧ k = j)) : lp_adn ad j q0 q1 q2 r k = ad r k := by
  unfold lp_adn
  rw [if_neg (by omega), if_neg (by omega), if_neg (by omega)]
theorem lp_isD_iff (r : Nat) : lp_isD r = true ↔ 26 ≤ r ∧ r ≤ 28 := by
  simp [lp_isD, Nat.ble_eq]
theorem lp_live_born {σ : lpM} {j : Nat} (hj : j < 121) (hz : σ 9 0 j = 0) (r k : Nat) : lp_live (lp_born σ j) r k ↔ lp_live σ r k ∨ (26 ≤ r ∧ r ≤ 28 ∧ k = j) := by
  unfold lp_live
  rw [lp_isD_iff]
  have h9 : lp_born σ j 9 0 k = if k = j then 1 else σ 9 0 k := by
    unfold lp_born
    by_cases e : k = j
    · rw [if_pos ⟨rfl, rfl, e⟩, if_pos e]
    · rw [if_neg (fun z => e z.2.2), if_neg (by omega), if_neg e]
  rw [h9]
  constructor
  · rintro ⟨h1, h2⟩
    by_cases hd : 26 ≤ r ∧ r ≤ 28
    · by_cases e : k = j
      · exact Or.inr ⟨hd.1, hd.2, e⟩
      · refine Or.inl ⟨h1, fun a b => ?_⟩
        have := h2 a b
        rwa [if_neg e] at this
    · exact Or.inl ⟨h1, fun a => absurd a hd⟩
  · rintro (⟨h1, h2⟩ | ⟨h1, h2, rfl⟩)
    · refine ⟨h1, fun a b => ?_⟩
      split
      · decide
      · exact h2 a b
    · have : r = 26 ∨ r = 27 ∨ r = 28 := by omega
      refine ⟨?_, fun a b => ?_⟩
      · rcases this with rfl | rfl | rfl
        · show k < 132; omega
        · show k < 132; omega
        · show k < 132; omega
      · rw [if_pos rfl]; decide
theorem lp_not_live {σ : lpM} {j r : Nat} (hj : j < 121) (hz : σ 9 0 j = 0) (hr : 26 ≤ r ∧ r ≤ 28) : ¬ lp_live σ r j := fun h => h.2 ((lp_isD_iff r).mpr hr) hj hz
theorem lp_dead_born {σ : lpM} {j : Nat} (hj : j < 121) (hz : σ 9 0 j = 0) : lp_dead (lp_born σ j) + 1 = lp_dead σ := by
  unfold lp_dead
  have h9 : ∀ k, lp_born σ j 9 0 k = if k = j then 1 else σ 9 0 k := by
    intro k
    unfold lp_born
    by_cases e : k = j
    · rw [if_pos ⟨rfl, rfl, e⟩, if_pos e]
    · rw [if_neg (fun z => e z.2.2), if_neg (by omega), if_neg e]
  have key : ∀ n : Nat, (List.range n).countP (fun k => decide (lp_born σ j 9 0 k = 0)) + (if j < n then 1 else 0) = (List.range n).countP (fun k => decide (σ 9 0 k = 0)) := by
    intro n
    induction n with
    | zero => simp
    | succ n ih =>
      rw [List.range_succ, List.countP_append, List.countP_append, ← ih]
      simp only [List.countP_singleton, h9]
      by_cases e : n = j
      · subst e
        simp [hz]
      · by_cases e2 : j < n
        · simp [e, e2, show j < n + 1 by omega]; omega
        · simp [e, e2, show ¬ j < n + 1 by omega]
  have := key 121
  rw [if_pos hj] at this
  exact this
theorem lp_fv_adn {ad ad' : Nat → Nat → Nat} {σ σ' : lpM} {r k : Nat} (hσ : σ' r k = σ r k) : ∀ (j : Nat) (fs : List (Option (Nat × (Nat → Nat)))), (∀ q, some q ∈ fs → ad' q.1 (q.2 k) = ad q.1 (q.2 k)) → lp_fv ad' σ' r k j fs = lp_fv ad σ r k j fs
  | _, [], _ => rfl
  | j, none :: fs, h => by
    show Value.int (σ' r k j) :: _ = Value.int (σ r k j) :: _
    rw [hσ, lp_fv_adn hσ (j + 1) fs (fun q hq => h q (List.mem_cons_of_mem _ hq))]
  | j, some q :: fs, h => by
    show Value.ref (ad' q.1 (q.2 k)) :: _ = Value.ref (ad q.1 (q.2 k)) :: _
    rw [h q List.mem_cons_self, lp_fv_adn hσ (j + 1) fs (fun q hq => h q (List.mem_cons_of_mem _ hq))]
theorem lp_born_ne {σ : lpM} {j r k : Nat} (h9 : ¬ (r = 9 ∧ k = 0)) (h2 : ¬ ((r = 27 ∨ r = 28) ∧ k = j)) : lp_born σ j r k = σ r k := by
  funext i
  unfold lp_born
  rw [if_neg (fun z => h9 ⟨z.1, z.2.1⟩), if_neg h2]
theorem lp_refs : ((List.range 60).all fun r => match lp_lay r with
  | some (.inr (.inr _)) => r == 9 || r == 17
  | _ => true) = true := by decide +kernel
set_option maxHeartbeats 4000000 in
theorem lp_Rep_born {D : va_G} {cI cD : ClassId} {ad : Nat → Nat → Nat} {σ : lpM} {H H3 : Heap} {j q0 q1 q2 : Nat} (hR : lp_Rep D cI cD ad σ H) (hj : j < 121) (hz : σ 9 0 j = 0) (hq : (H.size ≤ q0 ∧ H.size ≤ q1 ∧ H.size ≤ q2) ∧ q0 ≠ q1 ∧ q0 ≠ q2 ∧ q1 ≠ q2)
    (h0 : va_at D vwCl (q0, .inr (1, [.ref q1, .ref q2])) H3) (h1 : va_at D vwCl (q1, lp_z cI 61) H3) (h2 : va_at D vwCl (q2, lp_z cI 61) H3)
    (h9 : va_at D vwCl (ad 9 0, .inl (cD, 121, .inr (.inr (.inr (.inr (va_up (lp_rf ad σ 9 0 26 (fun j => j)) j (some q0))))))) H3) (ho : ∀ q : Nat, q < H.size → q ≠ ad 9 0 → H3[q]? = H[q]?) : lp_Rep D cI cD (lp_adn ad j q0 q1 q2) (lp_born σ j) H3 := by
  have live9 : lp_live σ 9 0 := ⟨by decide, fun h => by cases h⟩
  have hlt : ∀ r k, lp_live σ r k → ad r k < H.size := fun r k h => (hR.1 r k h).lt
  have e26 : lp_adn ad j q0 q1 q2 26 j = q0 := if_pos ⟨rfl, rfl⟩
  have e27 : lp_adn ad j q0 q1 q2 27 j = q1 := by unfold lp_adn; rw [if_neg (by omega), if_pos ⟨rfl, rfl⟩]
  have e28 : lp_adn ad j q0 q1 q2 28 j = q2 := by unfold lp_adn; rw [if_neg (by omega), if_neg (by omega), if_pos ⟨rfl, rfl⟩]
  have hd : lp_dl j = 61 := if_pos hj
  refine ⟨fun r k hn => ?_, fun r k r' k' hn hn' e => ?_⟩
  · rcases (lp_live_born hj hz r k).mp hn with h | ⟨ha, hb, hkj⟩
    · have hne : ¬ (26 ≤ r ∧ r ≤ 28 ∧ k = j) := fun z => by
        rw [z.2.2] at h
        exact lp_not_live hj hz ⟨z.1, z.2.1⟩ h
      rw [lp_adn_ne hne]
      by_cases e9 : r = 9 ∧ k = 0
      · obtain ⟨rfl, rfl⟩ := e9
        have ec : lp_cell cI cD (lp_adn ad j q0 q1 q2) (lp_born σ j) 9 0 = .inl (cD, 121, .inr (.inr (.inr (.inr (lp_rf (lp_adn ad j q0 q1 q2) (lp_born σ j) 9 0 26 (fun j => j)))))) := rfl
        rw [ec]
        have ef : lp_rf (lp_adn ad j q0 q1 q2) (lp_born σ j) 9 0 26 (fun j => j) = va_up (lp_rf ad σ 9 0 26 (fun j => j)) j (some q0) := by
          funext i
          unfold lp_rf va_up
          by_cases e : i = j
          · subst e
            rw [if_pos rfl, e26]
            have : lp_born σ i 9 0 i = 1 := if_pos ⟨rfl, rfl, rfl⟩
            rw [this]
            rfl
          · rw [if_neg e, lp_adn_ne (fun z => e z.2.2)]
            have : lp_born σ j 9 0 i = σ 9 0 i := by unfold lp_born; rw [if_neg (fun z => e z.2.2), if_neg (by omega)]
            rw [this]
        rw [ef]
        exact h9
      · have hσ : lp_born σ j r k = σ r k := lp_born_ne e9 (fun z => hne ⟨by omega, by omega, z.2⟩)
        have hk := (hR.1 r k h).kept (ho _ (hlt r k h) (fun z => e9 (hR.2 r k 9 0 h live9 z)))
        have ec : lp_cell cI cD (lp_adn ad j q0 q1 q2) (lp_born σ j) r k = lp_cell cI cD ad σ r k := by
          unfold lp_cell
          rcases hl : lp_lay r with _ | ⟨ci, fs⟩ | len | ⟨len, r', ix⟩
          · rfl
          · dsimp only
            rw [lp_fv_adn hσ 0 fs (fun q hq => ?_)]
            obtain ⟨i, hi⟩ := List.mem_iff_getElem?.mp hq
            have hlf := lp_live_field (j := i) (r' := q.1) (g := q.2) h hl (by rw [lp_nth_eq]; exact hi)
            exact lp_adn_ne (fun z => by
              obtain ⟨a, b, c⟩ := z
              rw [c] at hlf
              exact lp_not_live hj hz ⟨a, b⟩ hlf)
          · dsimp only
            rw [hσ]
          · dsimp only
            have h17 : r = 17 := by
              have a := List.all_eq_true.mp lp_refs r (List.mem_range.mpr (lp_cnt_lt h.1))
              rw [hl] at a
              rcases (show r = 9 ∨ r = 17 by simpa using a) with rfl | z
              · have : k < 1 := h.1
                exact absurd ⟨rfl, by omega⟩ e9
              · exact z
            subst h17
            have ef : lp_rf (lp_adn ad j q0 q1 q2) (lp_born σ j) 17 k r' ix = lp_rf ad σ 17 k r' ix := by
              cases hl
              funext i
              unfold lp_rf
              rw [hσ, lp_adn_ne (fun z => by have : 121 + i = j := z.2.2; omega)]
            rw [ef]
        rw [ec]
        exact hk
    · subst hkj
      have : r = 26 ∨ r = 27 ∨ r = 28 := by omega
      rcases this with rfl | rfl | rfl
      · rw [e26]
        have ec : lp_cell cI cD (lp_adn ad k q0 q1 q2) (lp_born σ k) 26 k = .inr (1, [.ref (lp_adn ad k q0 q1 q2 27 k), .ref (lp_adn ad k q0 q1 q2 28 k)]) := rfl
        rw [ec, e27, e28]
        exact h0
      · rw [e27]
        have ec : lp_cell cI cD (lp_adn ad k q0 q1 q2) (lp_born σ k) 27 k = .inl (cI, lp_dl k, .inl (lp_born σ k 27 k)) := rfl
        have ez : lp_born σ k 27 k = fun _ => 0 := by funext i; unfold lp_born; rw [if_neg (by omega), if_pos ⟨Or.inl rfl, rfl⟩]
        rw [ec, ez, hd]
        exact h1
      · rw [e28]
        have ec : lp_cell cI cD (lp_adn ad k q0 q1 q2) (lp_born σ k) 28 k = .inl (cI, lp_dl k, .inl (lp_born σ k 28 k)) := rfl
        have ez : lp_born σ k 28 k = fun _ => 0 := by funext i; unfold lp_born; rw [if_neg (by omega), if_pos ⟨Or.inr rfl, rfl⟩]
        rw [ec, ez, hd]
        exact h2
  · have old : ∀ r k, lp_live σ r k → lp_adn ad j q0 q1 q2 r k = ad r k ∧ ¬ (26 ≤ r ∧ r ≤ 28 ∧ k = j) := fun r k h => by
      have hne : ¬ (26 ≤ r ∧ r ≤ 28 ∧ k = j) := fun z => by
        rw [z.2.2] at h
        exact lp_not_live hj hz ⟨z.1, z.2.1⟩ h
      exact ⟨lp_adn_ne hne, hne⟩
    have new : ∀ r, 26 ≤ r → r ≤ 28 → H.size ≤ lp_adn ad j q0 q1 q2 r j := fun r a b => by
      have : r = 26 ∨ r = 27 ∨ r = 28 := by omega
      rcases this with rfl | rfl | rfl
      · rw [e26]; exact hq.1.1
      · rw [e27]; exact hq.1.2.1
      · rw [e28]; exact hq.1.2.2
    rcases (lp_live_born hj hz r k).mp hn with h | ⟨ha, hb, hc⟩ <;> rcases (lp_live_born hj hz r' k').mp hn' with h' | ⟨ha', hb', hc'⟩
    · rw [(old r k h).1, (old r' k' h').1] at e
      exact hR.2 r k r' k' h h' e
    · have a1 := new r' ha' hb'
      have a2 := hlt r k h
      rw [(old r k h).1, hc'] at e
      omega
    · have a1 := new r ha hb
      have a2 := hlt r' k' h'
      rw [(old r' k' h').1, hc] at e
      omega
    · obtain ⟨-, n1, n2, n3⟩ := hq
      rw [hc, hc'] at e
      refine ⟨?_, hc.trans hc'.symm⟩
      rcases (show r = 26 ∨ r = 27 ∨ r = 28 by omega) with e1 | e1 | e1 <;> rcases (show r' = 26 ∨ r' = 27 ∨ r' = 28 by omega) with e2 | e2 | e2 <;> rw [e1, e2] at e ⊢ <;> simp only [e26, e27, e28] at e <;> exfalso <;> first | exact n1 e | exact n2 e | exact n3 e | exact n1 e.symm | exact n2 e.symm | exact n3 e.symm
end
section
/-! ===== Machine.lengthen ===== -/
section LPN
variable {p : Program} {l : Launch} {e : Env} {R : Room} {s : State} {m : MethodId} {args : Array Value} {below : List Frame} {meth : Method} {c : Code} {H : Heap} {locs : List Loc} {cells slots : Nat} {Q : State → Prop}
variable {cc : ByteArray} {pc : Nat} {ls : Array Slot} {rest : List Value} {D : va_G} {cI cD : ClassId}
/-- new, with the whole heap behind it -/
theorem lp_new (hexec : p.tables.exec = Jvm.exec) (hb : c.code = cc) {own C : String} {T : u_T} {N ci index : Nat} {Ts : List Cond} (hts : ∀ w ∈ Ts, w.before args s = true) (hin : ∀ w ∈ u_ws C T N, w ∈ Ts) (ty : Nat → FieldType) (hty : ∀ k, k < N → parseFieldDescriptor (T k).2.2.1 = some (ty k)) (hown : s.vm.findClass own = some m.cls) (hcl : (Cond.classLink own index C).before args s = true) (hinst : (Cond.instantiable C N).before args s = true) (hini : (Cond.initialized C).before args s = true)
    (hWd : lp_Wd D cI cD s) (hc : vwCl[ci]? = some (C, T, N)) {fs : List Value} (hfs : ∀ j, j < N → defaultValue (ty j) = vp_V fs j) (hcells : cells + 1 ≤ R.cells) (hslots : slots + N ≤ R.slots) (hdg : decode cc pc = .ok (.new index, 3))
    (kk : ∀ (H1 : Heap), va_at D vwCl (H.size, .inr (ci, fs)) H1 → H1.size = H.size + 1 → (∀ q : Nat, q < H.size → H1[q]? = H[q]?) →
      W p l e R s m args below meth c H1 locs (cells + 1) (slots + N) Q (F0 m (pc + 3) ls (.ref H.size :: rest))) : W p l e R s m args below meth c H locs cells slots Q (F0 m pc ls rest) := by
  have hKn := hWd.1.1 ci _ hc
  refine W.newcK hexec hb hown hcl hinst hini rfl hdg hcells hslots hKn.2.1 rfl fun H1 kC hkC e1 z1 o1 => ?_
  exact kk H1 ⟨_, hc, (u_born ty hts hin hKn hkC e1 hty).to hfs⟩ z1 o1
/-- aastore, with the whole heap behind it -/
theorem lp_aast (hexec : p.tables.exec = Jvm.exec) (hb : c.code = cc) (hWd : lp_Wd D cI cD s) {a n v ci : Nat} {vs : List Value} {f : Nat → Option Nat} (ha : va_at D vwCl (a, .inl (cD, n, .inr (.inr (.inr (.inr f))))) H) (hv : va_at D vwCl (v, .inr (1, vs)) H) {i : Int32} (hin : vp_in i n) (hdg : decode cc pc = .ok (.aastore, 1))
    (kk : ∀ (H1 : Heap) (j : Nat), va_at D vwCl (a, .inl (cD, n, .inr (.inr (.inr (.inr (va_up f i.toNatClampNeg (some v))))))) H1 → H1.size = H.size → (∀ q : Nat, q ≠ a → H1[q]? = H[q]?) → W p l e R s m args below meth c H1 (locs ++ [⟨a, j⟩]) cells slots Q (F0 m (pc + 1) ls rest)) : W p l e R s m args below meth c H locs cells slots Q (F0 m pc ls (.ref v :: .int i :: .ref a :: rest)) := by
  have hlt : i.toNatClampNeg < n := Nat.not_le.mp fun q => hin (Or.inr q)
  have h0 : ¬ i < 0 := fun q => hin (Or.inl q)
  obtain ⟨r', hr', cellV, g1, g2, g3, -⟩ := hv
  have hcls := (hWd.1.1 1 (RX1, TX1, 2) rfl).2
  obtain ⟨kA, comp, k1, k2, k3, -⟩ := (hWd.1.2 1 (cD, .object RX1) rfl).2
  have hcomp : comp = D.1 1 := Option.some.inj (k3.symm.trans hcls.1)
  subst hcomp
  obtain ⟨kC, hkC, -⟩ := hcls.2
  refine W.aast hexec hb ha (fun q h => by cases h) (fun h => by cases h) k1 k2 rfl hkC ⟨h0, by show _ < (arrV _ _ _).slots.size; rw [arrV_size]; exact hlt⟩ g1 (fun q h => by rw [g3] at h; cases h) (by rw [g2]; exact hkC) (by rw [g2]; exact va_assign hcls) rfl rfl hdg fun H1 e z oq => ?_
  refine kk H1 _ ?_ z oq
  show H1[a]? = some (vp_cell _ _)
  rw [e]
  rw [vp_cell_q, vp_cell_q, arrV_store]
  congr 2
  funext q
  by_cases hq : q = i.toNatClampNeg
  · subst hq
    simp [updV, va_up, va_rf]
  · simp [updV, va_up, hq]
end LPN
theorem dX2_lengthen_86 : decode cX2_lengthen 86 = .ok (.aload_n 0, 1) := by decide +kernel
theorem dX2_lengthen_87 : decode cX2_lengthen 87 = .ok (.getfield 20, 3) := by decide +kernel
theorem dX2_lengthen_90 : decode cX2_lengthen 90 = .ok (.iload 4, 2) := by decide +kernel
theorem dX2_lengthen_92 : decode cX2_lengthen 92 = .ok (.new 18, 3) := by decide +kernel
theorem dX2_lengthen_95 : decode cX2_lengthen 95 = .ok (.dup, 1) := by decide +kernel
theorem dX2_lengthen_96 : decode cX2_lengthen 96 = .ok (.bipush 61, 2) := by decide +kernel
theorem dX2_lengthen_98 : decode cX2_lengthen 98 = .ok (.invokespecial 47, 3) := by decide +kernel
theorem dX2_lengthen_101 : decode cX2_lengthen 101 = .ok (.aastore, 1) := by decide +kernel
set_option maxHeartbeats 16000000 in
set_option maxRecDepth 100000 in
/-- from 86 to 102: the Dealing of a step is made -/
theorem lp_birth {p : Program} {l : Launch} {e : Env} {R : Room} {s : State} {m : MethodId} {args : Array Value} {below : List Frame} {meth : Method} {c : Code} {D : va_G} {cI cD : ClassId} {ad0 : Nat → Nat → Nat} {σ0 : lpM} {sz : Nat} {Q : State → Prop}
    (hx : p.tables.exec = Jvm.exec) (hb : c.code = cX2_lengthen) (hml : c.maxLocals = 5) (hown : s.vm.findClass RX2 = some m.cls) (hts : ∀ w ∈ (Cond.code yX2_lengthen cX2_lengthen 5 none :: lp_tbl), w.before args s = true) (hWd : lp_Wd D cI cD s) (hRf : 2 ≤ R.frames ∧ 58 ≤ R.locals) (hsz0 : s.heap.size = sz)
    {ad : Nat → Nat → Nat} {σ : lpM} {H : Heap} {locs : List Loc} {cells slots : Nat} {ls : Array Slot} {j : Nat} {x y z : lpV} {L : lpL} (A : lp_At D cI cD R s ad0 σ0 sz 5 ad σ H locs cells slots ls L) (hL : L = [some (.inr (some (6, 0))), some x, some y, some z, some (.inl (nI j))]) (hj : j < 121) (hz : σ 9 0 j = 0)
    (kk : ∀ (ad' : Nat → Nat → Nat) (H' : Heap) (locs' : List Loc) (cells' slots' : Nat), lp_At D cI cD R s ad0 σ0 sz 5 ad' (lp_born σ j) H' locs' cells' slots' ls L → W p l e R s m args below meth c H' locs' cells' slots' Q (F0 m 102 ls [])) :
    W p l e R s m args below meth c H locs cells slots Q (F0 m 86 ls []) := by
  have T : ∀ w ∈ lp_tbl, w.before args s = true := fun w hw => hts w (List.mem_cons_of_mem _ hw)
  obtain ⟨a1, a2, a3, a4, ⟨b1, b2, b3⟩, ⟨c1, c2⟩, c3, c4⟩ := id A
  have live6 : lp_live σ 6 0 := ⟨by decide, fun h => by cases h⟩
  have live9 : lp_live σ 9 0 := ⟨by decide, fun h => by cases h⟩
  have hdead := lp_dead_born hj hz
  have hsz : ls.size = 5 := b1.1.trans b3
  refine lv_aload_n (x := ad 6 0) hx hb dX2_lengthen_86 rfl (lp_loc_at (v := .inr (some (6, 0))) b1 (by rw [hL]; rfl)) ?_
  refine va_get (D := D) (ws := [(ad 6 0, lp_cell cI cD ad σ 6 0)]) (ci := 2) (v := .ref (ad 9 0)) (C := RX2) (T := TX2) (N := 3) hx hb T lp_u2 hown hWd.1 (lp_one (a1.1 6 0 live6)) 0 rfl rfl 2 (by decide) (T (.fieldLink RX2 20 "LoadPress$Machine" "waits" "[LLoadPress$Dealing;") (by decide +kernel)) (fun _ h9 => h9) rfl dX2_lengthen_87 ?_
  refine lv_iload (x := nI j) hx hb dX2_lengthen_90 (lp_loc_at (v := .inl (nI j)) b1 (by rw [hL]; rfl)) ?_
  refine lp_new (ci := 1) (fs := [.null, .null]) (C := RX1) (T := TX1) (N := 2) hx hb T lp_u1 tyX1 tyX1_ok hown (T (.classLink RX2 18 RX1) (by decide +kernel)) (T (.instantiable RX1 2) (by decide +kernel)) (T (.initialized RX1) (by decide +kernel)) hWd rfl (fun j hj => by rcases (show j = 0 ∨ j = 1 by omega) with rfl | rfl <;> rfl) (by omega) (by omega) dX2_lengthen_92 (fun H1 v1 z1 o1 => ?_)
  refine lv_dup hx hb dX2_lengthen_95 rfl ?_
  refine lv_bipush (v := nI 61) hx hb dX2_lengthen_96 (by decide) ?_
  have hS1 : va_S (lp_Dom ad0 σ0 sz) s.heap H1 locs := ⟨by have := a4.1; omega, fun q h1 h2 => by rw [o1 q (Nat.lt_of_lt_of_le h1 a4.1)]; exact a4.2.1 q h1 h2, a4.2.2⟩
  have hA1 : ∀ q : Nat, va_A [(H.size, .inr (1, [.null, .null]))] H1.size q → H.size ≤ q := by
    rintro q (⟨k, e, hk⟩ | hq)
    · rcases k with _ | k
      · cases hk; exact Nat.le_refl _
      · simp at hk
    · omega
  have hA2 : ∀ q : Nat, H.size ≤ q → lp_Dom ad0 σ0 sz q := fun q hq => Or.inr (by rw [← hsz0]; exact Nat.le_trans a4.1 hq)
  refine va_callv (A0 := lp_Dom ad0 σ0 sz) (va_runI (As := [.int (nI 61)]) (rest := [.ref H.size, .int (nI j), .ref (ad 9 0)]) ⟨hx, hb, hml, hown, hts⟩ (ci_X1 l D cI cD H.size H1.size 61 (by omega)) (cwI 1 hts (lp_good (w0 := Cond.code yX2_lengthen cX2_lengthen 5 none) (y := yX1_init) (bytes := cX1_init) (nL := 3) (ret := none) (by decide +kernel)) rfl rfl rfl (T (.initialized RX1) (by decide +kernel)) (T (.methodLink RX2 47 yX1_init) (by decide +kernel)) (T (.instanceMethod yX1_init) (by decide +kernel)) rfl (by decide +kernel) ⟨hRf.1, hRf.2⟩) ⟨fun a U g mk q => by obtain ⟨q0, q1, qP, qW, qD⟩ := q; exact ⟨q0, q1, qP, lp_Wd_call qW, qD⟩, fun U hU hW => ⟨rfl, by rw [hU], by rw [hU]; exact lp_one v1, lp_Wd_move hW hWd, ⟨fun i j p q h1 h2 _ => by
      have := (List.getElem?_eq_some_iff.mp h1).1
      have := (List.getElem?_eq_some_iff.mp h2).1
      simp at *
      omega, fun _ _ _ => trivial⟩⟩⟩ rfl rfl hsz rfl (lv_room (Nat.le_of_ble_eq_true rfl)) dX2_lengthen_98 ⟨by omega, by omega⟩) hS1 (fun q _ h => hA2 q (hA1 q h)) (fun q h => hA2 q (hA1 q h)) (fun Q1 t H2 locs2 ht hvm hw hB hz1 hk1 hS2 => ?_)
  obtain ⟨hP1, -, hD1⟩ := hB
  rw [ht] at hP1
  unfold wX1 at hP1 hD1
  have hq0 := hP1 0 _ rfl
  have hq1 := hP1 1 _ rfl
  have hq2 := hP1 2 _ rfl
  have d1 := hA1 _ (hD1.2 1 _ rfl)
  have d2 := hA1 _ (hD1.2 2 _ rfl)
  have n1 : H.size ≠ Q1 0 := fun q => absurd (hD1.1 0 1 _ _ rfl rfl q) (by omega)
  have n2 : H.size ≠ Q1 1 := fun q => absurd (hD1.1 0 2 _ _ rfl rfl q) (by omega)
  have n3 : Q1 0 ≠ Q1 1 := fun q => absurd (hD1.1 1 2 _ _ rfl rfl q) (by omega)
  have o2 : ∀ q : Nat, q < H.size → H2[q]? = H[q]? := fun q hq => by
    rw [hk1 q (by omega) (fun h => by have := hA1 q h; omega)]
    exact o1 q hq
  have hlt9 := (a1.1 9 0 live9).lt
  have hv9 : va_at D vwCl (ad 9 0, .inl (cD, 121, .inr (.inr (.inr (.inr (lp_rf ad σ 9 0 26 (fun j => j))))))) H2 := (a1.1 9 0 live9).kept (o2 _ hlt9)
  refine lp_aast (ci := 1) hx hb hWd hv9 hq0 (lp_vin hj (by omega)) dX2_lengthen_101 (fun H3 jj v3 z3 o3 => ?_)
  rw [lp_clm (by omega)] at v3
  have hR3 := lp_Rep_born (H3 := H3) a1 hj hz ⟨⟨Nat.le_refl _, d1, d2⟩, n1, n2, n3⟩ (hq0.kept (o3 _ (by show H.size ≠ ad 9 0; have : ad 9 0 < H.size := hlt9; omega))) (hq1.kept (o3 _ (by show Q1 0 ≠ ad 9 0; have : ad 9 0 < H.size := hlt9; omega))) (hq2.kept (o3 _ (by show Q1 1 ≠ ad 9 0; have : ad 9 0 < H.size := hlt9; omega))) v3 (fun q h1 h2 => by rw [o3 q h2]; exact o2 q h1)
  refine lp_loose (fun s1 s2 => ?_)
  have hold : ∀ r k, lp_live σ r k → lp_adn ad j H.size (Q1 0) (Q1 1) r k = ad r k := fun r k h => lp_adn_ne (fun q => by
    rw [q.2.2] at h
    exact lp_not_live hj hz ⟨q.1, q.2.1⟩ h)
  have cvs : ∀ v, lp_ok σ v → lp_cv (lp_adn ad j H.size (Q1 0) (Q1 1)) v = lp_cv ad v := by
    intro v hv
    rcases v with y | _ | q
    · rfl
    · rfl
    · simp [lp_cv, hold q.1 q.2 hv]
  refine kk _ H3 _ _ _ ⟨hR3, fun r k h => ?_, fun r k h => ?_, ?_, ⟨?_, fun v hv => ?_, b3⟩, ⟨by omega, by omega⟩, by omega, by omega⟩
  · obtain ⟨g1, g2⟩ := a2 r k h
    exact ⟨(lp_live_born hj hz r k).mpr (Or.inl g1), (hold r k g1).trans g2⟩
  · rcases (lp_live_born hj hz r k).mp h with h | ⟨ha, hb', hc⟩
    · rw [hold r k h]
      exact a3 r k h
    · rw [hc]
      apply hA2
      rcases (show r = 26 ∨ r = 27 ∨ r = 28 by omega) with rfl | rfl | rfl
      · show H.size ≤ (if _ then _ else _)
        rw [if_pos ⟨rfl, rfl⟩]
        exact Nat.le_refl _
      · show H.size ≤ (if _ then _ else if _ then _ else _)
        rw [if_neg (by omega), if_pos ⟨rfl, rfl⟩]
        exact d1
      · show H.size ≤ (if _ then _ else if _ then _ else if _ then _ else _)
        rw [if_neg (by omega), if_neg (by omega), if_pos ⟨rfl, rfl⟩]
        exact d2
  · exact hS2.put z3 o3 (a3 9 0 live9)
  · show lv_has ls L.length (lp_kl _ 0 L)
    rw [lp_kl_congr (ad := ad) (fun v hv => cvs v (b2 v hv))]
    exact b1
  · have := b2 v hv
    rcases v with y | _ | q
    · exact trivial
    · exact trivial
    · exact (lp_live_born hj hz q.1 q.2).mpr (Or.inl this)
end
section
/-! ===== Machine.lengthen: its contract ===== -/
def lp_lc1 (ct : Nat → Nat) (f : Nat) : Nat → Nat := if f = 10 then ct else nu ct (f * 11 + 10) (ct (f * 11 + 10) - 1)
def lp_lc2 (ct : Nat → Nat) (f p : Nat) : Nat → Nat := nu (lp_lc1 ct f) (f * 11 + p) (lp_lc1 ct f (f * 11 + p) + 1)
def lp_lct (ct : Nat → Nat) (f p : Nat) : Nat → Nat := nu (lp_lc2 ct f p) (p * 11 + 10) (lp_lc2 ct f p (p * 11 + 10) + 1)
def lp_F2 (σ τ : lpM) : Prop := (∀ r, r ≠ 7 → r ≠ 9 → r ≠ 27 → r ≠ 28 → τ r = σ r) ∧ (∀ k, 121 ≤ k → τ 27 k = σ 27 k ∧ τ 28 k = σ 28 k)
def lp_T7 (σ τ : lpM) (ct : Nat → Nat) : Prop := (∀ r, r ≠ 7 → τ r = σ r) ∧ ∀ j, j < 121 → τ 7 0 j = nI (ct j)
theorem lp_T7_w3 {σ τ : lpM} {ct : Nat → Nat} {i x : Nat} (h : lp_T7 σ τ ct) : lp_T7 σ (lp_w3 τ 7 0 i (nI x)) (nu ct i x) := by
  refine ⟨fun r hr => ?_, fun j hj => ?_⟩
  · rw [← h.1 r hr]
    funext k
    exact lp_w3_ne (fun z => hr z.1)
  · rw [lp_rd]
    by_cases ej : j = i
    · rw [if_pos ⟨rfl, rfl, ej⟩, ej, nu_same]
    · rw [if_neg (fun z => ej z.2.2), nu_ne ej]
      exact h.2 j hj
theorem lp_lc1_le {ct : Nat → Nat} {f : Nat} (j : Nat) : lp_lc1 ct f j ≤ ct j := by
  unfold lp_lc1
  split
  · exact Nat.le_refl _
  · by_cases e : j = f * 11 + 10
    · rw [e, nu_same]; omega
    · rw [nu_ne e]; exact Nat.le_refl _
theorem lp_lc2_le {ct : Nat → Nat} {f p : Nat} (j : Nat) : lp_lc2 ct f p j ≤ ct j + 1 := by
  have := lp_lc1_le (ct := ct) (f := f) j
  unfold lp_lc2
  by_cases e : j = f * 11 + p
  · rw [e, nu_same]; rw [e] at this; omega
  · rw [nu_ne e]; omega
theorem lp_lct_le {ct : Nat → Nat} {f p : Nat} (j : Nat) : lp_lct ct f p j ≤ ct j + 2 := by
  have := lp_lc2_le (ct := ct) (f := f) (p := p) j
  unfold lp_lct
  by_cases e : j = p * 11 + 10
  · rw [e, nu_same]; rw [e] at this; omega
  · rw [nu_ne e]; omega
def sp_X2_lengthen : lpS := fun as σ Q => match as with
  | [.inr (some (r, k)), .inl x, .inl y, .inl z] => r = 6 ∧ k = 0 ∧ ∃ (ct rr : Nat → Nat) (wc : Nat → Nat → Nat) (f p w : Nat), x = nI f ∧ y = nI p ∧ z = nI w ∧ f ≤ 10 ∧ p ≤ 9 ∧ w ≤ 60 ∧ lp_Mach σ ct rr wc ∧ (f ≠ 10 → 0 < ct (f * 11 + 10)) ∧ (∀ j, j < 121 → ct j ≤ 2000) ∧
      ∀ τ, lp_Mach τ (lp_lct ct f p) rr (u2 wc (f * 11 + p) w) → lp_F2 σ τ → Q none τ
  | _ => False
set_option maxHeartbeats 16000000 in
set_option maxRecDepth 100000 in
theorem ct_X2_lengthen (l : Launch) (D : va_G) (cI cD : ClassId) : lp_Ct l D cI cD yX2_lengthen cX2_lengthen 5 none 2 sp_X2_lengthen := by
  intro ad σ as Q sz hoka hs
  rcases as with _ | ⟨_ | _ | ⟨r, k⟩, _ | ⟨x | _, _ | ⟨y | _, _ | ⟨z | _, _ | ⟨c, as⟩⟩⟩⟩⟩ <;> try exact (hs : False).elim
  obtain ⟨rfl, rfl, ct, rr, wc, f, p, w, rfl, rfl, rfl, hf, hp, hw, hM, hc0, hcb, hq⟩ := hs
  have hcs : ∀ x ∈ [(33, none, 1, sp_X6_isPlace), (37, none, 1, sp_X6_isPage), (40, none, 1, sp_X6_isWait), (43, none, 2, sp_X6_stepOf)], lp_CallOK l D cI cD RX2 2 x := lp_cs1 (lp_mkCall lkX2_33 (ct_X6_isPlace l D cI cD) (by omega)) (lp_cs1 (lp_mkCall lkX2_37 (ct_X6_isPage l D cI cD) (by omega)) (lp_cs1 (lp_mkCall lkX2_40 (ct_X6_isWait l D cI cD) (by omega)) (lp_cs1 (lp_mkCall lkX2_43 (ct_X6_stepOf l D cI cD) (by omega)) lp_cs0)))
  have hstep : f * 11 + p < 121 := by omega
  obtain ⟨P43, hP43⟩ : ∃ P : lpL → lpM → Prop, P = fun L τ => lp_T7 σ τ (lp_lc1 ct f) ∧ L = [some (.inr (some (6, 0))), some (.inl (nI f)), some (.inl (nI p)), some (.inl (nI w)), none] := ⟨_, rfl⟩
  obtain ⟨P86, hP86⟩ : ∃ P : lpL → lpM → Prop, P = fun L τ => lp_T7 σ τ (lp_lct ct f p) ∧ τ 9 0 (f * 11 + p) = 0 ∧ L = [some (.inr (some (6, 0))), some (.inl (nI f)), some (.inl (nI p)), some (.inl (nI w)), some (.inl (nI (f * 11 + p)))] := ⟨_, rfl⟩
  obtain ⟨P102, hP102⟩ : ∃ P : lpL → lpM → Prop, P = fun L τ => (∀ r, r ≠ 7 → r ≠ 9 → r ≠ 27 → r ≠ 28 → τ r = σ r) ∧ (∀ k, k ≠ f * 11 + p → τ 27 k = σ 27 k ∧ τ 28 k = σ 28 k) ∧ (∀ j, j < 121 → τ 7 0 j = nI (lp_lct ct f p j)) ∧ (∀ j, j ≠ f * 11 + p → τ 9 0 j = σ 9 0 j) ∧ τ 9 0 (f * 11 + p) ≠ 0 ∧ (∀ i, i < 61 → τ 27 (f * 11 + p) i = nI (wc (f * 11 + p) i)) ∧ L = [some (.inr (some (6, 0))), some (.inl (nI f)), some (.inl (nI p)), some (.inl (nI w)), some (.inl (nI (f * 11 + p)))] := ⟨_, rfl⟩
  have w102 : ∀ L τ, P102 L τ → lp_wp flX2 pfX2 kcX2 [(33, none, 1, sp_X6_isPlace), (37, none, 1, sp_X6_isPage), (40, none, 1, sp_X6_isWait), (43, none, 2, sp_X6_stepOf)] false kX2_lengthen [43, 86, 102] (fun _ _ _ => False) Q 500 (lp_to 102 kX2_lengthen) L [] τ := by
    intro L τ hh
    rw [hP102] at hh
    obtain ⟨t1, t2, t3, t4, t5, t6, rfl⟩ := hh
    ((conv => whnf); (try dsimp only))
    refine ⟨lp_vin hstep (by omega), ?_⟩
    rw [lp_clm (by omega)]
    refine ⟨fun q => absurd q t5, fun _ => ?_⟩
    ((conv => whnf); (try dsimp only))
    have hd : lp_dl (f * 11 + p) = 61 := if_pos hstep
    refine ⟨lp_vin (by rw [hd]; omega) (lp_dl_lt _), ?_⟩
    rw [lp_clm (by omega), t6 w (by omega)]
    ((conv => whnf); (try dsimp only))
    refine ⟨lp_vin (by rw [hd]; omega) (lp_dl_lt _), ?_⟩
    rw [lp_clm (by omega), show nI (wc (f * 11 + p) w) + Int32.ofInt 1 = nI (wc (f * 11 + p) w + 1) from (nI_succ _).symm]
    ((conv => whnf); (try dsimp only))
    refine hq _ ⟨fun j hj => ?_, fun j hj => ?_, fun j hj hz i hi => ?_, fun j hj hz i hi => ?_⟩ ⟨fun r h7 h9 h27 h28 => ?_, fun k hk => ?_⟩
    · rw [lp_w3_ne (by omega)]
      have := lp_lct_le (ct := ct) (f := f) (p := p) j
      have := hcb j hj
      exact ⟨t3 j hj, by omega⟩
    · rw [lp_w3_ne (by omega), t1 8 (by omega) (by omega) (by omega) (by omega)]
      exact hM.2.1 j hj
    · rw [lp_w3_ne (by omega)] at hz
      have ej : j ≠ f * 11 + p := fun z => by rw [z] at hz; exact t5 hz
      unfold u2
      rw [if_neg (fun z => ej z.1)]
      rw [t4 j ej] at hz
      exact hM.2.2.1 j hj hz i hi
    · rw [lp_w3_ne (by omega)] at hz
      rw [lp_rd]
      unfold u2
      by_cases ej : j = f * 11 + p
      · subst ej
        by_cases ei : i = w
        · subst ei
          rw [if_pos ⟨rfl, rfl, rfl⟩, if_pos ⟨rfl, rfl⟩]
        · rw [if_neg (fun z => ei z.2.2), if_neg (fun z => ei z.2)]
          exact t6 i hi
      · rw [if_neg (fun z => ej z.2.1), if_neg (fun z => ej z.1), (t2 j ej).1]
        rw [t4 j ej] at hz
        exact hM.2.2.2 j hj hz i hi
    · rw [← t1 r h7 h9 h27 h28]
      funext k
      exact lp_w3_ne (fun z => h27 z.1)
    · rw [lp_w3_ne (by omega), lp_w3_ne (by omega)]
      exact t2 k (by omega)
  have w43 : ∀ L τ, P43 L τ → lp_wp flX2 pfX2 kcX2 [(33, none, 1, sp_X6_isPlace), (37, none, 1, sp_X6_isPage), (40, none, 1, sp_X6_isWait), (43, none, 2, sp_X6_stepOf)] false kX2_lengthen [43, 86, 102] (fun pc L τ => (pc = 86 ∧ P86 L τ) ∨ (pc = 102 ∧ P102 L τ)) Q 500 (lp_to 43 kX2_lengthen) L [] τ := by
    intro L τ hh
    rw [hP43] at hh
    obtain ⟨t1, rfl⟩ := hh
    ((conv => whnf); (try dsimp only))
    rw [lp_step]
    refine ⟨lp_vin hstep (by omega), ?_⟩
    rw [lp_clm (by omega), t1.2 _ hstep]
    ((conv => whnf); (try dsimp only))
    refine ⟨lp_vin hstep (by omega), ?_⟩
    rw [lp_clm (by omega), show nI (lp_lc1 ct f (f * 11 + p)) + Int32.ofInt 1 = nI (lp_lc1 ct f (f * 11 + p) + 1) from (nI_succ _).symm]
    have t2 : lp_T7 σ (lp_w3 τ 7 0 (f * 11 + p) (nI (lp_lc1 ct f (f * 11 + p) + 1))) (lp_lc2 ct f p) := lp_T7_w3 t1
    generalize lp_w3 τ 7 0 (f * 11 + p) (nI (lp_lc1 ct f (f * 11 + p) + 1)) = τ2 at t2 ⊢
    ((conv => whnf); (try dsimp only))
    rw [show nI p * nI 11 + (Int8.ofInt 10).toInt32 = nI (p * 11 + 10) from lp_step (b := 10)]
    refine ⟨lp_vin (by omega) (by omega), ?_⟩
    rw [lp_clm (by omega), t2.2 _ (by omega)]
    ((conv => whnf); (try dsimp only))
    refine ⟨lp_vin (by omega) (by omega), ?_⟩
    rw [lp_clm (by omega), show nI (lp_lc2 ct f p (p * 11 + 10)) + Int32.ofInt 1 = nI (lp_lc2 ct f p (p * 11 + 10) + 1) from (nI_succ _).symm]
    have t3 : lp_T7 σ (lp_w3 τ2 7 0 (p * 11 + 10) (nI (lp_lc2 ct f p (p * 11 + 10) + 1))) (lp_lct ct f p) := lp_T7_w3 t2
    generalize lp_w3 τ2 7 0 (p * 11 + 10) (nI (lp_lc2 ct f p (p * 11 + 10) + 1)) = τ3 at t3 ⊢
    ((conv => whnf); (try dsimp only))
    refine ⟨lp_vin hstep (by omega), ?_⟩
    rw [lp_clm (by omega)]
    refine ⟨fun q => ?_, fun q => ?_⟩ <;> ((conv => whnf); (try dsimp only))
    · refine Or.inl ⟨rfl, ?_⟩
      rw [hP86]
      exact ⟨t3, q, rfl⟩
    · refine Or.inr ⟨rfl, ?_⟩
      rw [hP102]
      have q' := q
      rw [t3.1 9 (by omega)] at q'
      exact ⟨fun r h7 h9 h27 h28 => t3.1 r h7, fun k hk => ⟨by rw [t3.1 27 (by omega)], by rw [t3.1 28 (by omega)]⟩, t3.2, fun j hj => by rw [t3.1 9 (by omega)], q, fun i hi => by rw [t3.1 27 (by omega)]; exact hM.2.2.2 _ hstep q' i hi, rfl⟩
  have w0 : lp_wp flX2 pfX2 kcX2 [(33, none, 1, sp_X6_isPlace), (37, none, 1, sp_X6_isPage), (40, none, 1, sp_X6_isWait), (43, none, 2, sp_X6_stepOf)] false kX2_lengthen [43, 86, 102] (fun pc L τ => pc = 43 ∧ P43 L τ) Q 500 kX2_lengthen (lp_ent [.inr (some (6, 0)), .inl (nI f), .inl (nI p), .inl (nI w)] 5) [] σ := by
    ((conv => whnf); (try dsimp only))
    refine Or.inl ⟨f, hf, rfl, ?_⟩
    ((conv => whnf); (try dsimp only))
    refine ⟨fun q => absurd q (by decide), fun _ => ?_⟩
    ((conv => whnf); (try dsimp only))
    refine Or.inl ⟨p, hp, rfl, ?_⟩
    ((conv => whnf); (try dsimp only))
    refine ⟨fun q => absurd q (by decide), fun _ => ?_⟩
    ((conv => whnf); (try dsimp only))
    refine Or.inl ⟨w, hw, rfl, ?_⟩
    ((conv => whnf); (try dsimp only))
    refine ⟨fun _ => ?_, fun q => absurd q (by decide)⟩
    ((conv => whnf); (try dsimp only))
    have e10 : (nI f = (Int8.ofInt 10).toInt32) ↔ f = 10 := nI_eq (a := f) (b := 10) (by omega) (by omega)
    refine ⟨fun q => ?_, fun q => ?_⟩ <;> ((conv => whnf); (try dsimp only))
    · refine ⟨rfl, ?_⟩
      rw [hP43]
      refine ⟨⟨fun _ _ => rfl, fun j hj => ?_⟩, rfl⟩
      unfold lp_lc1
      rw [if_pos (e10.mp q)]
      exact (hM.1 j hj).1
    · have hf10 : ¬ f = 10 := fun z => q (e10.mpr z)
      rw [show nI f * nI 11 + (Int8.ofInt 10).toInt32 = nI (f * 11 + 10) from lp_step (b := 10)]
      refine ⟨lp_vin (by omega) (by omega), ?_⟩
      rw [lp_clm (by omega), (hM.1 _ (by omega)).1]
      ((conv => whnf); (try dsimp only))
      refine ⟨lp_vin (by omega) (by omega), ?_⟩
      rw [lp_clm (by omega), show nI (ct (f * 11 + 10)) - Int32.ofInt 1 = nI (ct (f * 11 + 10) - 1) from pk_sub (b := 1) (hc0 hf10)]
      ((conv => whnf); (try dsimp only))
      refine ⟨rfl, ?_⟩
      rw [hP43]
      have t0 : lp_T7 σ σ ct := ⟨fun _ _ => rfl, fun j hj => (hM.1 j hj).1⟩
      have t1 := lp_T7_w3 (i := f * 11 + 10) (x := ct (f * 11 + 10) - 1) t0
      refine ⟨?_, rfl⟩
      unfold lp_lc1
      rw [if_neg hf10]
      exact t1
  refine Met.ofW (cc := cX2_lengthen) (maxL := 5) (ret := none) (by decide) rfl ?_
  intro p' e s m args below meth c s₁ B hml hv
  obtain ⟨rfl, hsz, hRep, hWd⟩ := hv
  have hx := B.exec
  have hb := B.bytes
  have hr := B.returns
  have hts := atoms_spec (ws := Cond.code yX2_lengthen cX2_lengthen 5 none :: lp_tbl) B.pre
  have hown' : s.vm.findClass RX2 = some m.cls := findClass_of_methodNamed B.named
  have hlocks := B.notSynchronized
  have hlv := lv_entry (([.inr (some (6, 0)), .inl (nI f), .inl (nI p), .inl (nI w)] : List lpV).map (lp_cv ad)) (n := 5) (by show 4 ≤ 5; omega)
  rw [lg_entry_eq]
  generalize (lg_sl (([.inr (some (6, 0)), .inl (nI f), .inl (nI p), .inl (nI w)] : List lpV).map (lp_cv ad)) ++ List.replicate (5 - (lg_sl (([.inr (some (6, 0)), .inl (nI f), .inl (nI p), .inl (nI w)] : List lpV).map (lp_cv ad))).length) Slot.unset).toArray = ls at hlv ⊢
  have A0 : lp_At D cI cD (headSpec (Cond.code yX2_lengthen cX2_lengthen 5 none :: lp_tbl) { frames := 2, cells := 3 * lp_dead σ, slots := 124 * lp_dead σ, locals := 36 * 2 }).room s ad σ sz 5 ad σ s.heap [] 0 0 ls (lp_ent [.inr (some (6, 0)), .inl (nI f), .inl (nI p), .inl (nI w)] 5) := by
    refine ⟨hRep, fun r k h => ⟨h, rfl⟩, fun r k h => Or.inl ⟨r, k, h, rfl⟩, va_S.rf, ⟨⟨hlv.1, hlv.2.1, fun q hq => hlv.2.2 q (lp_kl_ent ad _ 0 _ q hq)⟩, fun v hv => ?_, rfl⟩, ?_, ?_⟩
    · rcases List.mem_append.mp hv with q | q
      · obtain ⟨w', hw', e'⟩ := List.mem_map.mp q
        cases e'
        exact hoka _ hw'
      · have := List.eq_of_mem_replicate q
        cases this
    · exact ⟨Nat.le_of_eq (Nat.zero_add _), Nat.le_of_eq (Nat.zero_add _)⟩
    · exact ⟨Nat.le_refl _, Nat.le_refl _⟩
  have W102 := fun (L' : lpL) (σ' : lpM) (ad' : Nat → Nat → Nat) (H' : Heap) (locs' : List Loc) (cells' slots' : Nat) (ls' : Array Slot) (hP : P102 L' σ') (A' : lp_At D cI cD (headSpec (Cond.code yX2_lengthen cX2_lengthen 5 none :: lp_tbl) { frames := 2, cells := 3 * lp_dead σ, slots := 124 * lp_dead σ, locals := 36 * 2 }).room s ad σ sz 5 ad' σ' H' locs' cells' slots' ls' L') =>
    lp_sound (p := p') (e := e) (own := RX2) (y0 := yX2_lengthen) (Q0 := Q) (below := below) (ret0 := none) (h := 2) hx hb hml hown' hts hWd ⟨rfl, rfl⟩ ⟨rfl, rfl⟩ hsz hr hlocks (lp_rV rfl) flX2_ok pfX2_ok kcX2_ok hcs kX2_lengthen_ok (labs := [43, 86, 102]) (lab := fun _ _ _ => False) (fun pc L' σ' ad' H' locs' cells' slots' ls' hlb A' => hlb.elim) 500 (lp_to 102 kX2_lengthen) L' [] σ' ad' H' locs' cells' slots' ls' (102, .aload_n 0, 1) rfl (lp_to_suf 102 kX2_lengthen) (w102 L' σ' hP) A' (fun v hv => by cases hv)
  have W86 := fun (L' : lpL) (σ' : lpM) (ad' : Nat → Nat → Nat) (H' : Heap) (locs' : List Loc) (cells' slots' : Nat) (ls' : Array Slot) (hP : P86 L' σ') (A' : lp_At D cI cD (headSpec (Cond.code yX2_lengthen cX2_lengthen 5 none :: lp_tbl) { frames := 2, cells := 3 * lp_dead σ, slots := 124 * lp_dead σ, locals := 36 * 2 }).room s ad σ sz 5 ad' σ' H' locs' cells' slots' ls' L') =>
    lp_birth (Q := MQ below (lp_Qc D cI cD ad σ sz Q) (([.inr (some (6, 0)), .inl (nI f), .inl (nI p), .inl (nI w)] : List lpV).map (lp_cv ad)).toArray s (3 * lp_dead σ) (124 * lp_dead σ) (lp_Dom ad σ sz)) (l := l) (p := p') (e := e) (below := below) (meth := meth) (j := f * 11 + p) hx hb hml hown' hts hWd ⟨Nat.le_refl 2, by show 58 ≤ 36 * 2; omega⟩ hsz A' (by rw [hP86] at hP; exact hP.2.2) hstep (by rw [hP86] at hP; exact hP.2.1) (fun ad2 H2 locs2 cells2 slots2 A2 => W102 L' _ ad2 H2 locs2 cells2 slots2 ls' (by
      rw [hP86] at hP
      rw [hP102]
      obtain ⟨t3, hz, hL⟩ := hP
      have hz' := hz
      rw [t3.1 9 (by omega)] at hz'
      refine ⟨fun r h7 h9 h27 h28 => ?_, fun k hk => ⟨?_, ?_⟩, fun j hj => ?_, fun j hj => ?_, ?_, fun i hi => ?_, hL⟩
      · rw [← t3.1 r h7]
        funext k
        exact lp_born_ne (fun z => h9 z.1) (by omega)
      · rw [lp_born_ne (by omega) (fun z => hk z.2), t3.1 27 (by omega)]
      · rw [lp_born_ne (by omega) (fun z => hk z.2), t3.1 28 (by omega)]
      · rw [lp_born_ne (by omega) (by omega)]
        exact t3.2 j hj
      · unfold lp_born
        rw [if_neg (fun z => hj z.2.2), if_neg (by omega), t3.1 9 (by omega)]
      · unfold lp_born
        rw [if_pos ⟨rfl, rfl, rfl⟩]
        decide
      · unfold lp_born
        rw [if_neg (by omega), if_pos ⟨Or.inl rfl, rfl⟩, hM.2.2.1 _ hstep hz' i hi]
        rfl) A2)
  have W43 := fun (L' : lpL) (σ' : lpM) (ad' : Nat → Nat → Nat) (H' : Heap) (locs' : List Loc) (cells' slots' : Nat) (ls' : Array Slot) (hP : P43 L' σ') (A' : lp_At D cI cD (headSpec (Cond.code yX2_lengthen cX2_lengthen 5 none :: lp_tbl) { frames := 2, cells := 3 * lp_dead σ, slots := 124 * lp_dead σ, locals := 36 * 2 }).room s ad σ sz 5 ad' σ' H' locs' cells' slots' ls' L') =>
    lp_sound (p := p') (e := e) (own := RX2) (y0 := yX2_lengthen) (Q0 := Q) (below := below) (ret0 := none) (h := 2) hx hb hml hown' hts hWd ⟨rfl, rfl⟩ ⟨rfl, rfl⟩ hsz hr hlocks (lp_rV rfl) flX2_ok pfX2_ok kcX2_ok hcs kX2_lengthen_ok (labs := [43, 86, 102]) (lab := fun pc L τ => (pc = 86 ∧ P86 L τ) ∨ (pc = 102 ∧ P102 L τ)) (fun pc L' σ' ad' H' locs' cells' slots' ls' hlb A' => by
      rcases hlb with ⟨rfl, h1⟩ | ⟨rfl, h1⟩
      · exact W86 L' σ' ad' H' locs' cells' slots' ls' h1 A'
      · exact W102 L' σ' ad' H' locs' cells' slots' ls' h1 A') 500 (lp_to 43 kX2_lengthen) L' [] σ' ad' H' locs' cells' slots' ls' (43, .iload_n 1, 1) rfl (lp_to_suf 43 kX2_lengthen) (w43 L' σ' hP) A' (fun v hv => by cases hv)
  exact lp_sound (p := p') (e := e) (own := RX2) (y0 := yX2_lengthen) (Q0 := Q) (below := below) (ret0 := none) (h := 2) hx hb hml hown' hts hWd ⟨rfl, rfl⟩ ⟨rfl, rfl⟩ hsz hr hlocks (lp_rV rfl) flX2_ok pfX2_ok kcX2_ok hcs kX2_lengthen_ok (labs := [43, 86, 102]) (lab := fun pc L τ => pc = 43 ∧ P43 L τ) (fun pc L' σ' ad' H' locs' cells' slots' ls' hlb A' => by
      obtain ⟨rfl, h1⟩ := hlb
      exact W43 L' σ' ad' H' locs' cells' slots' ls' h1 A') 500 kX2_lengthen _ [] σ ad s.heap [] 0 0 ls (0, .iload_n 1, 1) rfl (List.suffix_refl _) w0 A0 (fun v hv => by cases hv)
end
section
/-! ===== pure: the stepped system to its end; since when it is behind ===== -/
theorem lsum_eqs {f g : Nat → Nat} : ∀ {n : Nat}, (∀ i, i < n → f i ≤ g i) → lsum f n = lsum g n → ∀ i, i < n → f i = g i
  | 0, _, _, i, hi => absurd hi (Nat.not_lt_zero _)
  | n + 1, h, hs, i, hi => by
    have a := lsum_le (f := f) (g := g) (n := n) (fun i hi => h i (by omega))
    have b := h n (by omega)
    have hs : lsum f n + f n = lsum g n + g n := hs
    by_cases e1 : i = n
    · subst e1; omega
    · exact lsum_eqs (f := f) (g := g) (n := n) (fun i hi => h i (by omega)) (by omega) i (by omega)
theorem lpI_end {n : Nat} {s wt : Nat → Nat} {P : Nat → Nat → Nat} (hV : lpV0 n s wt) (h : lpI n s (s n) P) : ∀ v, v < n → P 0 v = s (v + 1) := by
  intro v hv
  have h1 := lpV0_tel hV n (Nat.le_refl _)
  have h2 := lsum_eqs (f := fun v => P 0 v - s v) (g := fun v => s (v + 1) - s v) (n := n) (fun i hi => by have := h.1 i hi; omega) (by rw [h1]; exact h.2) v hv
  have h3 := h.1 v hv
  have := (hV.2.2.1 v hv).1
  omega
theorem lp_find {n : Nat} {s wt : Nat → Nat} (hV : lpV0 n s wt) {sl : Nat} : ∀ m, m ≤ n → sl < s m → ∃ v, v < m ∧ s v ≤ sl ∧ sl < s (v + 1)
  | 0, _, h => by have := hV.2.1; omega
  | m + 1, hm, h => by
    by_cases hl : sl < s m
    · obtain ⟨v, h1, h2⟩ := lp_find hV m (by omega) hl
      exact ⟨v, by omega, h2⟩
    · exact ⟨m, by omega, by omega, h⟩
def lp_pr (n : Nat) (s : Nat → Nat) (P : Nat → Nat → Nat) (sl : Nat) : Prop := ∃ v, v < n ∧ s v ≤ sl ∧ sl < P 0 v
def lp_Bh (n S : Nat) (s : Nat → Nat) (P : Nat → Nat → Nat) : Prop :=
  P 7 3 ≤ P 7 2 ∧ (∀ sl, lp_pr n s P sl → P 4 sl ≤ P 7 2 ∧ (P 7 3 ≤ P 4 sl → P 7 3 ≤ P 3 sl)) ∧ (∀ x, P 7 3 < x → x ≤ P 7 2 → ∃ sl, lp_pr n s P sl ∧ x ≤ P 4 sl ∧ P 3 sl < x) ∧
  (P 7 2 ≠ 0 → ∃ sl, lp_pr n s P sl ∧ P 4 sl = P 7 2) ∧ (∀ v, v < n → P 0 v < s (v + 1) → P 7 3 ≤ P 1 v ∧ ∀ k, k < S → P 7 2 ≤ max (P 1 v) (P 2 k))
theorem lp_pr_ne {n q v sl : Nat} {s wt : Nat → Nat} {P : Nat → Nat → Nat} (hV : lpV0 n s wt) (hI : lpI n s q P) (hv : v < n) (ha : P 0 v < s (v + 1)) (h : lp_pr n s P sl) : sl ≠ P 0 v := by
  obtain ⟨v', h1, h2, h3⟩ := h
  have a := hI.1 v hv
  have b := hI.1 v' h1
  rcases Nat.lt_trichotomy v' v with z | z | z
  · have := lpV0_le hV (show v' + 1 ≤ v by omega) (show v ≤ n by omega)
    omega
  · subst z; omega
  · have := lpV0_le hV (show v + 1 ≤ v' by omega) (show v' ≤ n by omega)
    omega
theorem lp_Bh_step {n S q v c : Nat} {s wt : Nat → Nat} {P : Nat → Nat → Nat} (hV : lpV0 n s wt) (hI : lpI n s q P) (hB : lp_Bh n (S + 1) s P) (hv : v < n) (ha : P 0 v < s (v + 1)) (hmin : ∀ v', v' < n → P 0 v' < s (v' + 1) → P 1 v ≤ P 1 v') : lp_Bh n (S + 1) s (svA s wt c v (ps (P 2) (S + 1)) P) := by
  obtain ⟨b1, b2, b3, b4, b5⟩ := hB
  obtain ⟨k1, k2⟩ := ps_spec (P 2) S
  generalize ps (P 2) (S + 1) = k at k1 k2 ⊢
  have hbs := (b5 v hv ha).1
  have hlb := (b5 v hv ha).2 k (by omega)
  have hb' : (if P 7 2 < P 1 v then P 1 v else min (P 7 3) (P 1 v)) = if P 7 2 < P 1 v then P 1 v else P 7 3 := by rw [Nat.min_eq_left hbs]
  have hBd : P 1 v ≤ max (P 1 v) (P 2 k) := Nat.le_max_left _ _
  have hBf : P 2 k ≤ max (P 1 v) (P 2 k) := Nat.le_max_right _ _
  have hold : ∀ sl, lp_pr n s P sl → svA s wt c v k P 4 sl = P 4 sl ∧ svA s wt c v k P 3 sl = P 3 sl ∧ lp_pr n s (svA s wt c v k P) sl := by
    intro sl h
    have hne := lp_pr_ne hV hI hv ha h
    refine ⟨by rw [svA_4, if_neg hne], by rw [svA_3, if_neg hne], ?_⟩
    obtain ⟨v', h1, h2, h3⟩ := h
    refine ⟨v', h1, h2, ?_⟩
    rw [svA_0]
    split
    · rename_i z; rw [z] at h3; omega
    · exact h3
  have hnew : svA s wt c v k P 4 (P 0 v) = max (P 1 v) (P 2 k) ∧ svA s wt c v k P 3 (P 0 v) = P 1 v ∧ lp_pr n s (svA s wt c v k P) (P 0 v) := by
    refine ⟨by rw [svA_4, if_pos rfl], by rw [svA_3, if_pos rfl], v, hv, (hI.1 v hv).1, ?_⟩
    rw [svA_0, if_pos rfl]; omega
  have hcase : ∀ sl, lp_pr n s (svA s wt c v k P) sl → lp_pr n s P sl ∨ sl = P 0 v := by
    rintro sl ⟨v', h1, h2, h3⟩
    rw [svA_0] at h3
    by_cases z : v' = v
    · subst z
      rw [if_pos rfl] at h3
      by_cases z2 : sl = P 0 v'
      · exact Or.inr z2
      · exact Or.inl ⟨v', h1, h2, by omega⟩
    · rw [if_neg z] at h3
      exact Or.inl ⟨v', h1, h2, h3⟩
  have e2 : svA s wt c v k P 7 2 = max (P 1 v) (P 2 k) := svA_72
  have e3 : svA s wt c v k P 7 3 = if P 7 2 < P 1 v then P 1 v else P 7 3 := svA_73.trans hb'
  have hle : ∀ v', v' < n → svA s wt c v k P 0 v' < s (v' + 1) → P 1 v ≤ svA s wt c v k P 1 v' ∧ max (P 1 v) (P 2 k) ≤ max (svA s wt c v k P 1 v') (P 2 k) := by
    intro v' h1 h2
    rw [svA_0] at h2
    rw [svA_1]
    by_cases z : v' = v
    · subst z
      rw [if_pos rfl] at h2 ⊢
      rw [if_pos h2]
      exact ⟨by omega, by omega⟩
    · rw [if_neg z] at h2 ⊢
      have := hmin v' h1 h2
      exact ⟨this, by omega⟩
  refine ⟨?_, fun sl h => ?_, fun x h1 h2 => ?_, fun _ => ⟨_, hnew.2.2, by rw [hnew.1, e2]⟩, fun v' h1 h2 => ⟨?_, fun k' hk' => ?_⟩⟩
  · rw [e2, e3]
    split <;> omega
  · rw [e2, e3]
    rcases hcase sl h with h | h
    · obtain ⟨a, b, -⟩ := hold sl h
      rw [a, b]
      have := b2 sl h
      refine ⟨by omega, fun z => ?_⟩
      by_cases hr : P 7 2 < P 1 v
      · rw [if_pos hr] at z; omega
      · rw [if_neg hr] at z ⊢; exact this.2 z
    · rw [h, hnew.1, hnew.2.1]
      refine ⟨Nat.le_refl _, fun _ => ?_⟩
      split <;> omega
  · rw [e3] at h1
    rw [e2] at h2
    by_cases hr : P 7 2 < P 1 v
    · rw [if_pos hr] at h1
      exact ⟨_, hnew.2.2, by rw [hnew.1]; exact h2, by rw [hnew.2.1]; exact h1⟩
    · rw [if_neg hr] at h1
      by_cases hx : x ≤ P 7 2
      · obtain ⟨sl, g1, g2, g3⟩ := b3 x h1 hx
        obtain ⟨a, b, d⟩ := hold sl g1
        exact ⟨sl, d, by rw [a]; exact g2, by rw [b]; exact g3⟩
      · exact ⟨_, hnew.2.2, by rw [hnew.1]; exact h2, by rw [hnew.2.1]; omega⟩
  · rw [e3]
    have := (hle v' h1 h2).1
    split
    · exact this
    · omega
  · rw [e2]
    have a := (hle v' h1 h2).1
    have b : P 2 k ≤ svA s wt c v k P 2 k' := by
      rw [svA_2]
      split
      · omega
      · exact k2 k' (by omega)
    omega
theorem svs_keep {n S : Nat} {s wt cst : Nat → Nat} (hV : lpV0 n s wt) (hS : S < 8) (hc : ∀ sl, sl < s n → 1 ≤ cst sl ∧ cst sl ≤ 50) : ∀ (m q K : Nat) (P : Nat → Nat → Nat), lpI n s q P → lpN n s K P → lp_Bh n (S + 1) s P → q + m ≤ s n →
    lpI n s (q + m) (svs s wt cst n (S + 1) m P) ∧ lpN n s (K + 110 * m) (svs s wt cst n (S + 1) m P) ∧ lp_Bh n (S + 1) s (svs s wt cst n (S + 1) m P)
  | 0, q, K, P, hI, hN, hB, _ => ⟨hI, hN, hB⟩
  | m + 1, q, K, P, hI, hN, hB, hm => by
    obtain ⟨v, hp, hv, ha⟩ := lpI_pv hV hI (by omega)
    have e1 : svS s wt cst n (S + 1) P = svA s wt (cst (P 0 v)) v (ps (P 2) (S + 1)) P := by unfold svS; rw [hp]
    have hsl : P 0 v < s n := by have := lpV0_le hV (show v + 1 ≤ n by omega) (Nat.le_refl n); omega
    have hcc := hc _ hsl
    have hps := (ps_spec (P 2) S).1
    have g := svs_keep hV hS hc m (q + 1) (K + 110) (svS s wt cst n (S + 1) P) (by rw [e1]; exact lpI_step hI hv ha) (by rw [e1]; exact lpN_step hV hI hN hv ha hcc (by omega)) (by
      rw [e1]
      exact lp_Bh_step hV hI hB hv ha (fun v' h1 h2 => (pv_spec hp).2.2 v' h1 (decide_eq_true h2))) (by omega)
    show lpI n s (q + (m + 1)) (svs s wt cst n (S + 1) m (svS s wt cst n (S + 1) P)) ∧ lpN n s (K + 110 * (m + 1)) (svs s wt cst n (S + 1) m (svS s wt cst n (S + 1) P)) ∧ lp_Bh n (S + 1) s (svs s wt cst n (S + 1) m (svS s wt cst n (S + 1) P))
    rw [show q + (m + 1) = q + 1 + m by omega, show K + 110 * (m + 1) = K + 110 + 110 * m by omega]
    exact g
/-- what is known of a PRESS that ran -/
def lp_PF (n : Nat) (s : Nat → Nat) (P : Nat → Nat → Nat) : Prop := (∀ sl, sl < s n → P 3 sl ≤ P 4 sl ∧ P 4 sl < P 5 sl ∧ P 5 sl < 2 ^ 18 ∧ P 6 sl < 8) ∧ (∀ j, P 7 j < 2 ^ 18) ∧ P 7 3 ≤ P 7 2 ∧ (∀ sl, sl < s n → P 4 sl ≤ P 7 2 ∧ (P 7 3 ≤ P 4 sl → P 7 3 ≤ P 3 sl)) ∧ (∀ x, P 7 3 < x → x ≤ P 7 2 → ∃ sl, sl < s n ∧ x ≤ P 4 sl ∧ P 3 sl < x) ∧ (P 7 2 ≠ 0 → ∃ sl, sl < s n ∧ P 4 sl = P 7 2)
theorem lpV0_1200 {n : Nat} {s wt : Nat → Nat} (hV : lpV0 n s wt) : ∀ v, v ≤ n → s v ≤ 20 * v
  | 0, _ => by have := hV.2.1; omega
  | v + 1, hv => by have := lpV0_1200 hV v (by omega); have := hV.2.2.1 v (by omega); omega
theorem lp_PF_svs {n S G : Nat} {s wt cst : Nat → Nat} (hV : lpV0 n s wt) (hS : S < 8) (hG : G ≤ 100) (hc : ∀ sl, sl < s n → 1 ≤ cst sl ∧ cst sl ≤ 50) :
    lp_PF n s (svs s wt cst n (S + 1) (s n) (p0 s wt G)) ∧ ∀ v, v < n → svs s wt cst n (S + 1) (s n) (p0 s wt G) 0 v = s (v + 1) := by
  have hB0 : lp_Bh n (S + 1) s (p0 s wt G) := by
    refine ⟨Nat.le_refl _, fun sl h => ?_, fun x h1 h2 => ?_, fun h => absurd rfl h, fun v hv _ => ⟨Nat.zero_le _, fun k _ => Nat.zero_le _⟩⟩
    · obtain ⟨v, h1, h2, h3⟩ := h
      have h3 : sl < s v := h3
      omega
    · have h1 : 0 < x := h1
      have h2 : x ≤ 0 := h2
      omega
  have hI0 : lpI n s 0 (p0 s wt G) := ⟨fun v hv => ⟨Nat.le_refl _, (hV.2.2.1 v hv).1⟩, lsum_zero (fun v _ => Nat.sub_self _)⟩
  obtain ⟨g1, g2, g3⟩ := svs_keep hV hS hc (s n) 0 6060 (p0 s wt G) hI0 (lpN_0 hV hG) hB0 (by omega)
  generalize svs s wt cst n (S + 1) (s n) (p0 s wt G) = P at g1 g2 g3 ⊢
  rw [Nat.zero_add] at g1
  have hend := lpI_end hV g1
  have hb := lpV0_1200 hV n (Nat.le_refl _)
  have hn := hV.1
  have hK : 6060 + 110 * s n < 2 ^ 18 := by omega
  have hpr : ∀ sl, sl < s n ↔ lp_pr n s P sl := fun sl => by
    constructor
    · intro h
      obtain ⟨v, h1, h2, h3⟩ := lp_find hV n (Nat.le_refl _) h
      exact ⟨v, h1, h2, by rw [hend v h1]; exact h3⟩
    · rintro ⟨v, h1, h2, h3⟩
      rw [hend v h1] at h3
      have := lpV0_le hV (show v + 1 ≤ n by omega) (Nat.le_refl n)
      omega
  refine ⟨⟨fun sl h => ?_, fun j => Nat.lt_of_le_of_lt (g2.2.2.1 j) hK, g3.1, fun sl h => g3.2.1 sl ((hpr sl).mp h), fun x h1 h2 => ?_, fun h => ?_⟩, hend⟩
  · obtain ⟨v, h1, h2, h3⟩ := (hpr sl).mp h
    have := g2.2.2.2 v sl h1 h2 h3
    omega
  · obtain ⟨sl, h3, h4⟩ := g3.2.2.1 x h1 h2
    exact ⟨sl, (hpr sl).mpr h3, h4⟩
  · obtain ⟨sl, h3, h4⟩ := g3.2.2.2.1 h
    exact ⟨sl, (hpr sl).mpr h3, h4⟩
end
section
/-! ===== LoadPress: its state as numbers ===== -/
abbrev lpLg : Type := Nat × (Nat → Nat) × (Nat → Nat) × (Nat → Nat)
abbrev lpZ : Type := lpLg × ((Nat → Nat) × (Nat → Nat)) × lpLg × ((Nat → Nat → Nat) × (Nat → Nat → Nat))
abbrev tn (x : Int32) : Nat := x.toNatClampNeg
abbrev ir (x : Int32) (n : Nat) : Prop := x = nI (tn x) ∧ tn x ≤ n
abbrev ir1 (x : Int32) (n : Nat) : Prop := x = nI (tn x) ∧ 1 ≤ tn x ∧ tn x ≤ n
theorem ir_of {x : Int32} {a n : Nat} (h : x = nI a) (ha : a ≤ n) (hn : n < 2 ^ 31) : ir x n := by
  subst h
  have : tn (nI a) = a := lp_clm (by omega)
  exact ⟨by rw [this], by rw [this]; exact ha⟩
theorem ir1_of {x : Int32} {a n : Nat} (h : x = nI a) (h1 : 1 ≤ a) (ha : a ≤ n) (hn : n < 2 ^ 31) : ir1 x n := by
  subst h
  have : tn (nI a) = a := lp_clm (by omega)
  exact ⟨by rw [this], by rw [this]; exact h1, by rw [this]; exact ha⟩
def lp_ctL (L : lpLg) : Nat → Nat := fun j => inL L.1 L.2.1 L.2.2.1 (j / 11) (j % 11)
def lp_wcL (L : lpLg) : Nat → Nat → Nat := fun j w => wL L.1 L.2.1 L.2.2.1 L.2.2.2 (j / 11) (j % 11) w
def LPg (σ : lpM) (L : lpLg) (rr : Nat → Nat) : Prop := lp_Vis σ 0 L.1 L.2.1 L.2.2.1 L.2.2.2 ∧ lp_Mach σ (lp_ctL L) rr (lp_wcL L)
def LPc (σ : lpM) (co : Nat → Nat) : Prop := ∀ j, j < 10 → σ 15 0 j = nI (co j) ∧ 1 ≤ co j ∧ co j ≤ 50
def LPp (σ : lpM) (M : lpLg) (P cm : Nat → Nat → Nat) : Prop := (∀ f, f < 11 → σ 17 0 f ≠ 0) ∧ lp_Vis σ 1 M.1 M.2.1 M.2.2.1 M.2.2.2 ∧ lp_Done σ (M.2.1 M.1) P ∧ (σ 18 0 9 = nI (P 7 2) ∧ σ 18 0 10 = nI (P 7 3) ∧ σ 18 0 11 = nI (P 7 0) ∧ σ 18 0 12 = nI (P 7 1)) ∧ (∀ j, P 7 j < 2 ^ 18) ∧ (∀ f, f < 11 → ∀ t, t < 11 → σ 28 (121 + f) t = nI (cm f t))
def lpP (σ : lpM) (Z : lpZ) : Prop := LPg σ Z.1 Z.2.1.1 ∧ LPc σ Z.2.1.2 ∧ LPp σ Z.2.2.1 Z.2.2.2.1 Z.2.2.2.2
def lpFL (σ τ : lpM) : Prop := ∀ r, 30 ≤ r → τ r = σ r
theorem FL_rf (σ : lpM) : lpFL σ σ := fun _ _ => rfl
theorem FL_tr {σ τ υ : lpM} (h1 : lpFL σ τ) (h2 : lpFL τ υ) : lpFL σ υ := fun r hr => by rw [h2 r hr, h1 r hr]
theorem lp_w3_r {σ : lpM} {r k j r' : Nat} {x : Int32} (h : r' ≠ r) : lp_w3 σ r k j x r' = σ r' := by
  funext k'
  exact lp_w3_ne (fun z => h z.1)
theorem LPg_congr {σ τ : lpM} {L : lpLg} {rr : Nat → Nat} (h : LPg σ L rr) (h2 : ∀ r, 2 ≤ r → r ≤ 5 → τ r 0 = σ r 0) (h7 : ∀ r, 7 ≤ r → r ≤ 9 → τ r = σ r) (h27 : ∀ k, k < 121 → τ 27 k = σ 27 k) : LPg τ L rr :=
  ⟨lp_Vis_congr h.1 (h2 2 (by omega) (by omega)) (h2 3 (by omega) (by omega)) (h2 4 (by omega) (by omega)) (h2 5 (by omega) (by omega)), lp_Mach_congr h.2 (h7 7 (by omega) (by omega)) (h7 8 (by omega) (by omega)) (h7 9 (by omega) (by omega)) h27⟩
theorem LPc_congr {σ τ : lpM} {co : Nat → Nat} (h : LPc σ co) (h15 : τ 15 = σ 15) : LPc τ co := fun j hj => by rw [h15]; exact h j hj
theorem LPp_congr {σ τ : lpM} {M : lpLg} {P cm : Nat → Nat → Nat} (h : LPp σ M P cm) (h17 : τ 17 = σ 17) (h2 : ∀ r, 2 ≤ r → r ≤ 5 → τ r 1 = σ r 1) (h18 : ∀ r, 18 ≤ r → r ≤ 25 → τ r = σ r) (h28 : ∀ k, 121 ≤ k → τ 28 k = σ 28 k) : LPp τ M P cm := by
  obtain ⟨a, b, c, d, e1, f⟩ := h
  refine ⟨by rw [h17]; exact a, lp_Vis_congr b (h2 2 (by omega) (by omega)) (h2 3 (by omega) (by omega)) (h2 4 (by omega) (by omega)) (h2 5 (by omega) (by omega)), ?_, by rw [h18 18 (by omega) (by omega)]; exact d, e1, fun x hx t ht => by rw [h28 _ (by omega)]; exact f x hx t ht⟩
  unfold lp_Done
  rw [h18 19 (by omega) (by omega), h18 20 (by omega) (by omega), h18 21 (by omega) (by omega), h18 22 (by omega) (by omega)]
  exact c
theorem LP_low {σ τ : lpM} {Z : lpZ} (h : lpP σ Z) (hr : ∀ r, r < 30 → τ r = σ r) : lpP τ Z :=
  ⟨LPg_congr h.1 (fun r _ _ => by rw [hr r (by omega)]) (fun r _ _ => hr r (by omega)) (fun k _ => by rw [hr 27 (by omega)]), LPc_congr h.2.1 (hr 15 (by omega)), LPp_congr h.2.2 (hr 17 (by omega)) (fun r _ _ => by rw [hr r (by omega)]) (fun r _ _ => hr r (by omega)) (fun k _ => by rw [hr 28 (by omega)])⟩
theorem lp_Mach_eq {σ : lpM} {ct ct' rr : Nat → Nat} {wc wc' : Nat → Nat → Nat} (h : lp_Mach σ ct rr wc) (h1 : ∀ j, j < 121 → ct' j = ct j) (h2 : ∀ j, j < 121 → ∀ w, w < 61 → wc' j w = wc j w) : lp_Mach σ ct' rr wc' := by
  obtain ⟨a, b, c, d⟩ := h
  refine ⟨fun j hj => by rw [h1 j hj]; exact a j hj, b, fun j hj hz w hw => by rw [h2 j hj w hw]; exact c j hj hz w hw, fun j hj hz w hw => by rw [h2 j hj w hw]; exact d j hj hz w hw⟩
def lg_open (L : lpLg) : lpLg := (L.1 + 1, nu L.2.1 (L.1 + 1) (L.2.1 L.1), L.2.2.1, L.2.2.2)
def lg_add (L : lpLg) (p w : Nat) : lpLg := (L.1, nu L.2.1 L.1 (L.2.1 L.1 + 1), nu L.2.2.1 (L.2.1 L.1) p, nu L.2.2.2 (L.2.1 L.1) w)
abbrev lg_len (L : lpLg) : Nat := L.2.1 L.1 - L.2.1 (L.1 - 1)
abbrev lg_can (L : lpLg) : Prop := 0 < L.1 ∧ lg_len L < 20
def lg_lst (L : lpLg) : Nat := if L.1 = 0 then 10 else lpl L.2.1 L.2.2.1 (L.1 - 1)
theorem lct_eq {ct ct' : Nat → Nat} {f p : Nat} {ne : Prop} [Decidable ne] (hf : f ≤ 10) (hp : p ≤ 9) (hne : ne ↔ f ≠ 10) (hc0 : f ≠ 10 → 0 < ct (f * 11 + 10)) (h : ∀ j, j < 121 → ct' j + (if ne ∧ j / 11 = f ∧ j % 11 = 10 then 1 else 0) = ct j + (if j / 11 = f ∧ j % 11 = p then 1 else 0) + (if j / 11 = p ∧ j % 11 = 10 then 1 else 0)) : ∀ j, j < 121 → ct' j = lp_lct ct f p j := by
  intro j hj
  have h := h j hj
  have c1 : (j / 11 = f ∧ j % 11 = 10) ↔ j = f * 11 + 10 := by omega
  have c2 : (j / 11 = f ∧ j % 11 = p) ↔ j = f * 11 + p := by omega
  have c3 : (j / 11 = p ∧ j % 11 = 10) ↔ j = p * 11 + 10 := by omega
  simp only [c1, c2, c3, hne] at h
  unfold lp_lct lp_lc2 lp_lc1
  by_cases e1 : j = p * 11 + 10
  · subst e1
    rw [nu_same, nu_ne (by omega)]
    rw [if_neg (show ¬ p * 11 + 10 = f * 11 + p by omega), if_pos rfl] at h
    by_cases ef : f = 10
    · rw [if_pos ef]
      rw [if_neg (fun z => z.1 ef)] at h
      omega
    · rw [if_neg ef]
      by_cases ep : p = f
      · subst ep
        rw [nu_same]
        rw [if_pos ⟨ef, rfl⟩] at h
        have := hc0 ef
        omega
      · rw [nu_ne (by omega)]
        rw [if_neg (fun z => ep (by omega))] at h
        omega
  · rw [nu_ne e1]
    rw [if_neg e1] at h
    by_cases e2 : j = f * 11 + p
    · subst e2
      rw [nu_same]
      rw [if_pos rfl, if_neg (fun z => by omega)] at h
      by_cases ef : f = 10
      · rw [if_pos ef]; omega
      · rw [if_neg ef, nu_ne (by omega)]; omega
    · rw [nu_ne e2]
      rw [if_neg e2] at h
      by_cases ef : f = 10
      · rw [if_pos ef]
        rw [if_neg (fun z => z.1 ef)] at h
        omega
      · rw [if_neg ef]
        by_cases e3 : j = f * 11 + 10
        · subst e3
          rw [nu_same]
          rw [if_pos ⟨ef, rfl⟩] at h
          omega
        · rw [nu_ne e3]
          rw [if_neg (fun z => e3 z.2)] at h
          omega
theorem lpl_le {s pg wt : Nat → Nat} {v : Nat} (hV : lpV0 (v + 1) s wt) (hpg : ∀ j, j < s (v + 1) → pg j < 10) : lpl s pg v ≤ 10 ∧ (s (v + 1) - s v ≠ 0 ↔ lpl s pg v ≠ 10) := by
  unfold lpl
  by_cases z : s (v + 1) - s v = 0
  · rw [if_pos z]
    exact ⟨Nat.le_refl _, fun q => absurd z q, fun q => absurd rfl q⟩
  · rw [if_neg z]
    have := hpg (s (v + 1) - 1) (by omega)
    exact ⟨by omega, fun _ => by omega, fun _ => z⟩
theorem lpl_pos {s pg wt : Nat → Nat} {v : Nat} (hV : lpV0 (v + 1) s wt) (h : s (v + 1) - s v ≠ 0) : 0 < inL (v + 1) s pg (lpl s pg v) 10 := by
  obtain ⟨p, h1, h2⟩ : ∃ p : Nat, p ≠ lpl s pg v ∧ p ≠ 10 := by
    by_cases z : lpl s pg v = 0
    · exact ⟨1, by omega, by omega⟩
    · exact ⟨0, by omega, by omega⟩
  have a := inL_add (p := p) (pg := pg) hV (lpl s pg v) 10
  have c1 : s (v + 1) - s v ≠ 0 ∧ lpl s pg v = lpl s pg v ∧ 10 = 10 := ⟨h, rfl, rfl⟩
  have c2 : ¬ (lpl s pg v = lpl s pg v ∧ 10 = p) := fun z => h2 z.2.symm
  have c3 : ¬ (lpl s pg v = p ∧ 10 = 10) := fun z => h1 z.1.symm
  rw [if_pos c1, if_neg c2, if_neg c3] at a
  omega
/-- the Machine's counts when an ASK is added -/
theorem lp_Mach_add {τ : lpM} {v p w : Nat} {s pg wt rr : Nat → Nat} (hV : lpV0 (v + 1) s wt) (hpg : ∀ j, j < s (v + 1) → pg j < 10) (hp : p ≤ 9) (hw : w ≤ 60) (h : lp_Mach τ (lp_lct (lp_ctL (v + 1, s, pg, wt)) (lpl s pg v) p) rr (u2 (lp_wcL (v + 1, s, pg, wt)) (lpl s pg v * 11 + p) w)) : lp_Mach τ (lp_ctL (lg_add (v + 1, s, pg, wt) p w)) rr (lp_wcL (lg_add (v + 1, s, pg, wt) p w)) := by
  obtain ⟨f1, f2⟩ := lpl_le hV hpg
  refine lp_Mach_eq h (lct_eq (ne := s (v + 1) - s v ≠ 0) f1 hp f2 (fun z => ?_) (fun j hj => inL_add hV (j / 11) (j % 11))) (fun j hj w' hw' => ?_)
  · show 0 < inL (v + 1) s pg ((lpl s pg v * 11 + 10) / 11) ((lpl s pg v * 11 + 10) % 11)
    rw [show (lpl s pg v * 11 + 10) / 11 = lpl s pg v by omega, show (lpl s pg v * 11 + 10) % 11 = 10 by omega]
    exact lpl_pos hV (f2.mpr z)
  · show wL (v + 1) (nu s (v + 1) (s (v + 1) + 1)) (nu pg (s (v + 1)) p) (nu wt (s (v + 1)) w) (j / 11) (j % 11) w' = _
    rw [wL_add hV]
    unfold u2
    by_cases e1 : j = lpl s pg v * 11 + p ∧ w' = w
    · rw [if_pos e1, if_pos (by omega)]
      rfl
    · rw [if_neg e1, if_neg (by omega)]
      rfl
end
section
/-! ===== LoadPress: contracts ===== -/
def an_visit (Z : lpZ) : Int32 := if Z.1.1 < 60 then nI Z.1.1 else -1
def st_visit (Z : lpZ) : lpZ := if Z.1.1 < 60 then (lg_open Z.1, Z.2) else Z
theorem lp_Mach_open {σ : lpM} {n : Nat} {s pg wt rr : Nat → Nat} (hV : lpV0 n s wt) (h : lp_Mach σ (lp_ctL (n, s, pg, wt)) rr (lp_wcL (n, s, pg, wt))) : lp_Mach σ (lp_ctL (lg_open (n, s, pg, wt))) rr (lp_wcL (lg_open (n, s, pg, wt))) :=
  lp_Mach_eq h (fun j _ => inL_open hV) (fun j _ w _ => wL_open hV)
theorem LP_open {σ : lpM} {Z : lpZ} (h : lpP σ Z) (hn : Z.1.1 < 60) : lpP (lp_w3 (lp_w3 σ 5 0 (Z.1.1 + 1) (nI (Z.1.2.1 Z.1.1))) 2 0 3 (nI (Z.1.1 + 1))) (lg_open Z.1, Z.2) ∧ lpFL σ (lp_w3 (lp_w3 σ 5 0 (Z.1.1 + 1) (nI (Z.1.2.1 Z.1.1))) 2 0 3 (nI (Z.1.1 + 1))) := by
  obtain ⟨⟨hV, hM⟩, hC, hP⟩ := h
  have hV0 := lp_Vis_V0 hV
  refine ⟨⟨⟨lp_Vis_open hV hn, lp_Mach_congr (lp_Mach_open hV0 hM) ?_ ?_ ?_ (fun k _ => ?_)⟩, LPc_congr hC ?_, LPp_congr hP ?_ (fun r _ _ => ?_) (fun r _ _ => ?_) (fun k _ => ?_)⟩, fun r _ => ?_⟩
  all_goals first
    | (rw [lp_w3_r (by omega), lp_w3_r (by omega)])
    | (rw [lp_w3_ne (by omega), lp_w3_ne (by omega)])
def sp_X6_visit : lpS := fun as σ Q => match as with
  | [.inr (some (r, k))] => r = 1 ∧ k = 0 ∧ ∃ Z, lpP σ Z ∧ ∀ τ, lpP τ (st_visit Z) → lpFL σ τ → Q (some (an_visit Z)) τ
  | _ => False
set_option maxHeartbeats 4000000 in
set_option maxRecDepth 100000 in
theorem ct_X6_visit (l : Launch) (D : va_G) (cI cD : ClassId) : lp_Ct l D cI cD yX6_visit cX6_visit 1 (some .int) 1 sp_X6_visit := by
  refine lp_method0 flX6 pfX6 kcX6 [(54, some 4, 0, sp_X4_open)] false kX6_visit rfl rfl (lp_rI rfl) flX6_ok pfX6_ok kcX6_ok kX6_visit_ok ⟨_, _, rfl, rfl⟩ (lp_cs1 (lp_mkCall lkX6_54 (ct_X4_open l D cI cD) (by omega)) lp_cs0) ?_
  intro as σ Q hs
  rcases as with _ | ⟨_ | _ | ⟨r, k⟩, _ | ⟨c, as⟩⟩ <;> try exact (hs : False).elim
  obtain ⟨rfl, rfl, ⟨⟨n, s, pg, wt⟩, ⟨rr, co⟩, M, P, cm⟩, ⟨⟨hV, hM⟩, hC, hP⟩, hq⟩ := hs
  dsimp only at hV hM hC hP
  unfold st_visit an_visit at hq
  dsimp only at hq
  refine ⟨Nat.le_refl 1, ?_⟩
  have hV0 := lp_Vis_V0 hV
  ((conv => whnf); (try dsimp only))
  refine ⟨rfl, n, s, pg, wt, hV, ?_⟩
  by_cases h : n < 60
  · simp only [if_pos h] at hq
    refine Or.inl ⟨h, ?_⟩
    ((conv => whnf); (try dsimp only))
    exact hq _ (LP_open (Z := ((n, s, pg, wt), (rr, co), M, P, cm)) ⟨⟨hV, hM⟩, hC, hP⟩ h).1 (LP_open (Z := ((n, s, pg, wt), (rr, co), M, P, cm)) ⟨⟨hV, hM⟩, hC, hP⟩ h).2
  · simp only [if_neg h] at hq
    refine Or.inr ⟨by have := hV.2.1; omega, ?_⟩
    ((conv => whnf); (try dsimp only))
    exact hq σ ⟨⟨hV, hM⟩, hC, hP⟩ (FL_rf σ)
def sp_X6_note : lpS := fun as σ Q => match as with
  | [.inr (some (r, k)), .inl x, .inl y] => r = 1 ∧ k = 0 ∧ ∃ (Z : lpZ) (p w : Nat), x = nI p ∧ y = nI w ∧ p ≤ 9 ∧ w ≤ 60 ∧ lpP σ Z ∧ ((lg_can Z.1 ∧ ∀ τ, lpP τ (lg_add Z.1 p w, Z.2) → lpFL σ τ → (∀ r, 2 ≤ r → r ≤ 5 → τ r 1 = σ r 1) → Q (some (nI (lg_len Z.1 + 1))) τ) ∨ (¬ lg_can Z.1 ∧ Q (some (-1)) σ))
  | _ => False
set_option maxHeartbeats 4000000 in
set_option maxRecDepth 100000 in
theorem ct_X6_note (l : Launch) (D : va_G) (cI cD : ClassId) : lp_Ct l D cI cD yX6_note cX6_note 5 (some .int) 4 sp_X6_note := by
  refine lp_method flX6 pfX6 kcX6 [(161, some 4, 0, sp_X4_lastPlace), (164, some 4, 2, sp_X4_add), (167, some 2, 3, sp_X2_lengthen)] false kX6_note [8] rfl rfl (lp_rI rfl) flX6_ok pfX6_ok kcX6_ok kX6_note_ok ⟨_, _, rfl, rfl⟩ (lp_cs1 (lp_mkCall lkX6_161 (ct_X4_lastPlace l D cI cD) (by omega)) (lp_cs1 (lp_mkCall lkX6_164 (ct_X4_add l D cI cD) (by omega)) (lp_cs1 (lp_mkCall lkX6_167 (ct_X2_lengthen l D cI cD) (by omega)) lp_cs0))) ?_
  intro as σ Q hok hs
  rcases as with _ | ⟨_ | _ | ⟨r, k⟩, _ | ⟨x | _, _ | ⟨y | _, _ | ⟨c, as⟩⟩⟩⟩ <;> try exact (hs : False).elim
  obtain ⟨rfl, rfl, ⟨⟨n, s, pg, wt⟩, ⟨rr, co⟩, M, P, cm⟩, p, w, rfl, rfl, hp, hw, ⟨⟨hV, hM⟩, hC, hP⟩, hq⟩ := hs
  dsimp only at hV hM hC hP hq
  have hV0 := lp_Vis_V0 hV
  have hn := hV.2.1
  have hpg : ∀ j, j < s n → pg j < 10 := fun j hj => (hV.2.2.2.2.2 j hj).2.1
  refine ⟨by show 3 ≤ 5; omega, fun m pc L τ => pc = 8 ∧ m = 0 ∧ σ = τ ∧ L = [some (.inr (some (1, 0))), some (.inl (nI p)), some (.inl (nI w)), some (.inl (nI (lg_lst (n, s, pg, wt)))), none], ?_, ?_⟩
  · ((conv => whnf); (try dsimp only))
    refine ⟨rfl, n, s, pg, wt, hV, ?_⟩
    rcases n with _ | v
    · refine Or.inr ⟨fun v hv => by omega, ?_⟩
      ((conv => whnf); (try dsimp only))
      exact ⟨0, rfl, rfl, rfl, rfl⟩
    · have hv := hV.2.2.2.2.1 v (by omega)
      by_cases hz : s (v + 1) - s v = 0
      · refine Or.inr ⟨fun v' hv' => by rw [show v' = v by omega]; omega, ?_⟩
        ((conv => whnf); (try dsimp only))
        refine ⟨0, rfl, rfl, rfl, ?_⟩
        rw [show lg_lst (v + 1, s, pg, wt) = 10 from if_pos hz]
        rfl
      · refine Or.inl ⟨v, rfl, by omega, ?_⟩
        ((conv => whnf); (try dsimp only))
        refine ⟨0, rfl, rfl, rfl, ?_⟩
        rw [show lg_lst (v + 1, s, pg, wt) = pg (s (v + 1) - 1) from if_neg hz]
        rfl
  · rintro m pc L τ ⟨rfl, rfl, rfl, rfl⟩
    ((conv => whnf); (try dsimp only))
    refine ⟨rfl, n, s, pg, wt, hV, ?_⟩
    rcases n with _ | v
    · refine Or.inr ⟨fun v hv => by omega, ?_⟩
      ((conv => whnf); (try dsimp only))
      refine ⟨fun _ => ?_, fun q => absurd rfl q⟩
      ((conv => whnf); (try dsimp only))
      rcases hq with ⟨h1, -⟩ | ⟨h1, hq⟩
      · exact absurd h1.1 (Nat.lt_irrefl 0)
      · exact hq
    · have hv := hV.2.2.2.2.1 v (by omega)
      have hlst : lg_lst (v + 1, s, pg, wt) = lpl s pg v := rfl
      rw [hlst]
      by_cases hl : s (v + 1) - s v < 20
      · refine Or.inl ⟨v, rfl, hl, ?_⟩
        have hVa := lp_Vis_add (t := p) (w := w) hV hl (by omega) hw
        have hr : ∀ r, ¬ (3 ≤ r ∧ r ≤ 5) → lp_w3 (lp_w3 (lp_w3 σ 3 0 (s (v + 1)) (nI p)) 4 0 (s (v + 1)) (nI w)) 5 0 (v + 1) (nI (s (v + 1) + 1)) r = σ r := fun r hr => by
          rw [lp_w3_r (by omega), lp_w3_r (by omega), lp_w3_r (by omega)]
        have hr1 : ∀ r, lp_w3 (lp_w3 (lp_w3 σ 3 0 (s (v + 1)) (nI p)) 4 0 (s (v + 1)) (nI w)) 5 0 (v + 1) (nI (s (v + 1) + 1)) r 1 = σ r 1 := fun r => by
          rw [lp_w3_ne (by omega), lp_w3_ne (by omega), lp_w3_ne (by omega)]
        generalize lp_w3 (lp_w3 (lp_w3 σ 3 0 (s (v + 1)) (nI p)) 4 0 (s (v + 1)) (nI w)) 5 0 (v + 1) (nI (s (v + 1) + 1)) = τ at hVa hr hr1 ⊢
        ((conv => whnf); (try dsimp only))
        refine ⟨fun q => absurd q (lp_neg1 (by omega)), fun _ => ?_⟩
        ((conv => whnf); (try dsimp only))
        obtain ⟨f1, f2⟩ := lpl_le hV0 hpg
        have hMτ : lp_Mach τ (lp_ctL (v + 1, s, pg, wt)) rr (lp_wcL (v + 1, s, pg, wt)) := lp_Mach_congr hM (hr 7 (by omega)) (hr 8 (by omega)) (hr 9 (by omega)) (fun k _ => by rw [hr 27 (by omega)])
        refine ⟨rfl, rfl, _, rr, _, lpl s pg v, p, w, rfl, rfl, rfl, f1, hp, hw, hMτ, fun z => ?_, fun j hj => ?_, fun τ' hM' hF => ?_⟩
        · show 0 < inL (v + 1) s pg ((lpl s pg v * 11 + 10) / 11) ((lpl s pg v * 11 + 10) % 11)
          rw [show (lpl s pg v * 11 + 10) / 11 = lpl s pg v by omega, show (lpl s pg v * 11 + 10) % 11 = 10 by omega]
          exact lpl_pos hV0 (f2.mpr z)
        · have := inL_le (pg := pg) hV0 (j / 11) (j % 11)
          exact Nat.le_trans this (by omega)
        · ((conv => whnf); (try dsimp only))
          have hMa := lp_Mach_add hV0 hpg hp hw hM'
          rcases hq with ⟨h1, hq⟩ | ⟨h1, hq⟩
          · refine hq τ' ⟨⟨lp_Vis_congr hVa ?_ ?_ ?_ ?_, hMa⟩, LPc_congr hC ?_, LPp_congr hP ?_ (fun r _ _ => ?_) (fun r _ _ => ?_) (fun k hk => ?_)⟩ (fun r hr' => ?_) (fun r _ _ => ?_)
            · rw [hF.1 2 (by omega) (by omega) (by omega) (by omega)]
            · rw [hF.1 3 (by omega) (by omega) (by omega) (by omega)]
            · rw [hF.1 4 (by omega) (by omega) (by omega) (by omega)]
            · rw [hF.1 5 (by omega) (by omega) (by omega) (by omega)]
            · rw [hF.1 15 (by omega) (by omega) (by omega) (by omega), hr 15 (by omega)]
            · rw [hF.1 17 (by omega) (by omega) (by omega) (by omega), hr 17 (by omega)]
            · rw [hF.1 r (by omega) (by omega) (by omega) (by omega), hr1 r]
            · rw [hF.1 r (by omega) (by omega) (by omega) (by omega), hr r (by omega)]
            · rw [(hF.2 k hk).2, hr 28 (by omega)]
            · rw [hF.1 r (by omega) (by omega) (by omega) (by omega), hr r (by omega)]
            · rw [hF.1 r (by omega) (by omega) (by omega) (by omega), hr1 r]
          · exact absurd ⟨Nat.succ_pos v, hl⟩ h1
      · refine Or.inr ⟨fun v' hv' => by rw [show v' = v by omega]; omega, ?_⟩
        ((conv => whnf); (try dsimp only))
        refine ⟨fun _ => ?_, fun q => absurd rfl q⟩
        ((conv => whnf); (try dsimp only))
        rcases hq with ⟨h1, -⟩ | ⟨h1, hq⟩
        · exact absurd h1.2 hl
        · exact hq
def an_ask (x y : Int32) (Z : lpZ) : Int32 := if ir x 9 ∧ ir y 60 ∧ lg_can Z.1 then nI (lg_len Z.1 + 1) else -1
def st_ask (x y : Int32) (Z : lpZ) : lpZ := if ir x 9 ∧ ir y 60 ∧ lg_can Z.1 then (lg_add Z.1 (tn x) (tn y), Z.2) else Z
def sp_X6_ask : lpS := fun as σ Q => match as with
  | [.inr (some (r, k)), .inl x, .inl y] => r = 1 ∧ k = 0 ∧ ∃ Z, lpP σ Z ∧ ∀ τ, lpP τ (st_ask x y Z) → lpFL σ τ → Q (some (an_ask x y Z)) τ
  | _ => False
set_option maxHeartbeats 4000000 in
set_option maxRecDepth 100000 in
theorem ct_X6_ask (l : Launch) (D : va_G) (cI cD : ClassId) : lp_Ct l D cI cD yX6_ask cX6_ask 3 (some .int) 5 sp_X6_ask := by
  refine lp_method0 flX6 pfX6 kcX6 [(58, none, 1, sp_X6_isPage), (62, none, 1, sp_X6_isWait), (65, some 6, 2, sp_X6_note)] false kX6_ask rfl rfl (lp_rI rfl) flX6_ok pfX6_ok kcX6_ok kX6_ask_ok ⟨_, _, rfl, rfl⟩ (lp_cs1 (lp_mkCall lkX6_58 (ct_X6_isPage l D cI cD) (by omega)) (lp_cs1 (lp_mkCall lkX6_62 (ct_X6_isWait l D cI cD) (by omega)) (lp_cs1 (lp_mkCall lkX6_65 (ct_X6_note l D cI cD) (by omega)) lp_cs0))) ?_
  intro as σ Q hs
  rcases as with _ | ⟨_ | _ | ⟨r, k⟩, _ | ⟨x | _, _ | ⟨y | _, _ | ⟨c, as⟩⟩⟩⟩ <;> try exact (hs : False).elim
  obtain ⟨rfl, rfl, Z, hL, hq⟩ := hs
  unfold st_ask an_ask at hq
  refine ⟨Nat.le_refl 3, ?_⟩
  ((conv => whnf); (try dsimp only))
  by_cases hx : ir x 9
  rotate_left
  · simp only [if_neg (show ¬ (ir x 9 ∧ ir y 60 ∧ lg_can Z.1) from fun z => hx z.1)] at hq
    refine Or.inr ⟨fun v hv e1 => hx (ir_of e1 hv (by omega)), ?_⟩
    ((conv => whnf); (try dsimp only))
    refine ⟨fun _ => ?_, fun q => absurd rfl q⟩
    ((conv => whnf); (try dsimp only))
    exact hq σ hL (FL_rf σ)
  refine Or.inl ⟨tn x, hx.2, hx.1, ?_⟩
  ((conv => whnf); (try dsimp only))
  refine ⟨fun q => absurd q (by decide), fun _ => ?_⟩
  ((conv => whnf); (try dsimp only))
  by_cases hy : ir y 60
  rotate_left
  · simp only [if_neg (show ¬ (ir x 9 ∧ ir y 60 ∧ lg_can Z.1) from fun z => hy z.2.1)] at hq
    refine Or.inr ⟨fun v hv e1 => hy (ir_of e1 hv (by omega)), ?_⟩
    ((conv => whnf); (try dsimp only))
    refine ⟨fun q => absurd rfl q, fun _ => ?_⟩
    ((conv => whnf); (try dsimp only))
    exact hq σ hL (FL_rf σ)
  refine Or.inl ⟨tn y, hy.2, hy.1, ?_⟩
  ((conv => whnf); (try dsimp only))
  refine ⟨fun _ => ?_, fun q => absurd q (by decide)⟩
  ((conv => whnf); (try dsimp only))
  refine ⟨rfl, rfl, Z, tn x, tn y, hx.1, hy.1, hx.2, hy.2, hL, ?_⟩
  by_cases hc : lg_can Z.1
  · simp only [if_pos (show (ir x 9 ∧ ir y 60 ∧ lg_can Z.1) from ⟨hx, hy, hc⟩)] at hq
    exact Or.inl ⟨hc, fun τ h1 h2 _ => hq τ h1 h2⟩
  · simp only [if_neg (show ¬ (ir x 9 ∧ ir y 60 ∧ lg_can Z.1) from fun z => hc z.2.2)] at hq
    exact Or.inr ⟨hc, hq σ hL (FL_rf σ)⟩
def st_clear (Z : lpZ) : lpZ := ((0, Z.1.2), Z.2)
def sp_X6_clear : lpS := fun as σ Q => match as with
  | [.inr (some (r, k))] => r = 1 ∧ k = 0 ∧ ∃ Z, lpP σ Z ∧ ∀ τ, lpP τ (st_clear Z) → lpFL σ τ → (∀ r, 2 ≤ r → r ≤ 5 → τ r 1 = σ r 1) → Q none τ
  | _ => False
set_option maxHeartbeats 4000000 in
set_option maxRecDepth 100000 in
theorem ct_X6_clear (l : Launch) (D : va_G) (cI cD : ClassId) : lp_Ct l D cI cD yX6_clear cX6_clear 1 none 2 sp_X6_clear := by
  refine lp_method0 flX6 pfX6 kcX6 [(69, some 4, 0, sp_X4_empty), (72, some 2, 0, sp_X2_forget)] false kX6_clear rfl rfl (lp_rV rfl) flX6_ok pfX6_ok kcX6_ok kX6_clear_ok ⟨_, _, rfl, rfl⟩ (lp_cs1 (lp_mkCall lkX6_69 (ct_X4_empty l D cI cD) (by omega)) (lp_cs1 (lp_mkCall lkX6_72 (ct_X2_forget l D cI cD) (by omega)) lp_cs0)) ?_
  intro as σ Q hs
  rcases as with _ | ⟨_ | _ | ⟨r, k⟩, _ | ⟨c, as⟩⟩ <;> try exact (hs : False).elim
  obtain ⟨rfl, rfl, ⟨⟨n, s, pg, wt⟩, ⟨rr, co⟩, M, P, cm⟩, ⟨⟨hV, hM⟩, hC, hP⟩, hq⟩ := hs
  dsimp only at hV hM hC hP
  refine ⟨Nat.le_refl 1, ?_⟩
  ((conv => whnf); (try dsimp only))
  refine ⟨rfl, ?_⟩
  ((conv => whnf); (try dsimp only))
  refine ⟨rfl, rfl, ?_⟩
  ((conv => whnf); (try dsimp only))
  have hr : ∀ r, r ≠ 2 → r ≠ 7 → r ≠ 27 → lp_clr 27 (lp_fill (lp_w3 σ 2 0 3 (nI 0)) 7 0 121 (nI 0)) 121 r = σ r := fun r h2 h7 h27 => by
    funext k j
    simp [lp_clr, h27, lp_fill, va_up, h7, lp_w3_r h2]
  have hr2 : ∀ k, k ≠ 0 → lp_clr 27 (lp_fill (lp_w3 σ 2 0 3 (nI 0)) 7 0 121 (nI 0)) 121 2 k = σ 2 k := fun k hk => by
    funext j
    simp [lp_clr, lp_fill, va_up, lp_w3_ne (σ := σ) (r := 2) (k := 0) (j := 3) (r' := 2) (k' := k) (x := nI 0) (by omega)]
  have hr2' : lp_clr 27 (lp_fill (lp_w3 σ 2 0 3 (nI 0)) 7 0 121 (nI 0)) 121 2 0 3 = nI 0 := by
    simp [lp_clr, lp_fill, va_up, lp_rd]
  have hr7 : ∀ j, j < 121 → lp_clr 27 (lp_fill (lp_w3 σ 2 0 3 (nI 0)) 7 0 121 (nI 0)) 121 7 0 j = nI 0 := fun j hj => by
    simp [lp_clr, lp_fill, va_up, hj]
  have hr27 : ∀ j, j < 121 → σ 9 0 j ≠ 0 → ∀ w, w < 61 → lp_clr 27 (lp_fill (lp_w3 σ 2 0 3 (nI 0)) 7 0 121 (nI 0)) 121 27 j w = nI 0 := fun j hj hz w hw => by
    have : lp_fill (lp_w3 σ 2 0 3 (nI 0)) 7 0 121 (nI 0) 9 0 j = σ 9 0 j := by simp [lp_fill, va_up, lp_w3_r (σ := σ) (r := 2) (k := 0) (j := 3) (r' := 9) (x := nI 0) (by omega)]
    simp [lp_clr, hj, hw, this, hz]
  generalize lp_clr 27 (lp_fill (lp_w3 σ 2 0 3 (nI 0)) 7 0 121 (nI 0)) 121 = τ at hr hr2 hr2' hr7 hr27 ⊢
  refine hq τ ⟨⟨⟨hr2', by show 0 ≤ 60; omega, fun v hv => ?_, hV.2.2.2.1, fun v hv => absurd hv (Nat.not_lt_zero _), fun j hj => absurd hj (by show ¬ j < s 0; rw [hV.2.2.2.1]; omega)⟩, fun j hj => ⟨hr7 j hj, by show inL 0 s pg _ _ < 30000; exact Nat.lt_of_le_of_lt (Nat.le_refl 0) (by omega)⟩, fun j hj => by rw [hr 8 (by omega) (by omega) (by omega)]; exact hM.2.1 j hj, fun j hj hz w hw => rfl, fun j hj hz w hw => hr27 j hj (by rw [← hr 9 (by omega) (by omega) (by omega)]; exact hz) w hw⟩, LPc_congr hC (hr 15 (by omega) (by omega) (by omega)), LPp_congr hP (hr 17 (by omega) (by omega) (by omega)) (fun r _ _ => ?_) (fun r _ _ => hr r (by omega) (by omega) (by omega)) (fun k _ => by rw [hr 28 (by omega) (by omega) (by omega)])⟩ (fun r _ => hr r (by omega) (by omega) (by omega)) (fun r _ _ => ?_)
  · rw [hr 5 (by omega) (by omega) (by omega)]
    exact hV.2.2.1 v (by have : v ≤ 0 := hv; omega)
  · by_cases e2 : r = 2
    · subst e2; exact hr2 1 (by omega)
    · rw [hr r e2 (by omega) (by omega)]
  · by_cases e2 : r = 2
    · subst e2; exact hr2 1 (by omega)
    · rw [hr r e2 (by omega) (by omega)]
end
section
/-! ===== LoadPress: reads ===== -/
def an_steps (x y : Int32) (Z : lpZ) : Int32 := if ir x 10 ∧ ir y 10 then nI (lp_mc (lp_ctL Z.1 (tn x * 11 + tn y)) (Z.2.1.1 (tn x * 11 + tn y))) else nI 0
def sp_X6_steps : lpS := fun as σ Q => match as with
  | [.inr (some (r, k)), .inl x, .inl y] => r = 1 ∧ k = 0 ∧ ∃ Z, lpP σ Z ∧ Q (some (an_steps x y Z)) σ
  | _ => False
set_option maxHeartbeats 4000000 in
set_option maxRecDepth 100000 in
theorem ct_X6_steps (l : Launch) (D : va_G) (cI cD : ClassId) : lp_Ct l D cI cD yX6_steps cX6_steps 3 (some .int) 3 sp_X6_steps := by
  refine lp_method0 flX6 pfX6 kcX6 [(75, some 2, 2, sp_X2_countOf)] false kX6_steps rfl rfl (lp_rI rfl) flX6_ok pfX6_ok kcX6_ok kX6_steps_ok ⟨_, _, rfl, rfl⟩ (lp_cs1 (lp_mkCall lkX6_75 (ct_X2_countOf l D cI cD) (by omega)) lp_cs0) ?_
  intro as σ Q hs
  rcases as with _ | ⟨_ | _ | ⟨r, k⟩, _ | ⟨x | _, _ | ⟨y | _, _ | ⟨c, as⟩⟩⟩⟩ <;> try exact (hs : False).elim
  obtain ⟨rfl, rfl, Z, hL, hq⟩ := hs
  unfold an_steps at hq
  refine ⟨Nat.le_refl 3, ?_⟩
  ((conv => whnf); (try dsimp only))
  refine ⟨rfl, rfl, _, _, _, hL.1.2, ?_⟩
  by_cases h : ir x 10 ∧ ir y 10
  · simp only [if_pos h] at hq
    refine Or.inl ⟨tn x, tn y, h.1.2, h.2.2, h.1.1, h.2.1, ?_⟩
    ((conv => whnf); (try dsimp only))
    exact hq
  · simp only [if_neg h] at hq
    refine Or.inr ⟨fun a b ha hb z => h ⟨ir_of z.1 ha (by omega), ir_of z.2 hb (by omega)⟩, ?_⟩
    ((conv => whnf); (try dsimp only))
    exact hq
def an_waits (x y z : Int32) (Z : lpZ) : Int32 := if ir x 10 ∧ ir y 9 ∧ ir z 60 then nI (lp_wcL Z.1 (tn x * 11 + tn y) (tn z)) else nI 0
def sp_X6_waits : lpS := fun as σ Q => match as with
  | [.inr (some (r, k)), .inl x, .inl y, .inl z] => r = 1 ∧ k = 0 ∧ ∃ Z, lpP σ Z ∧ Q (some (an_waits x y z Z)) σ
  | _ => False
set_option maxHeartbeats 4000000 in
set_option maxRecDepth 100000 in
theorem ct_X6_waits (l : Launch) (D : va_G) (cI cD : ClassId) : lp_Ct l D cI cD yX6_waits cX6_waits 4 (some .int) 3 sp_X6_waits := by
  refine lp_method0 flX6 pfX6 kcX6 [(78, some 2, 3, sp_X2_timesOfWait)] false kX6_waits rfl rfl (lp_rI rfl) flX6_ok pfX6_ok kcX6_ok kX6_waits_ok ⟨_, _, rfl, rfl⟩ (lp_cs1 (lp_mkCall lkX6_78 (ct_X2_timesOfWait l D cI cD) (by omega)) lp_cs0) ?_
  intro as σ Q hs
  rcases as with _ | ⟨_ | _ | ⟨r, k⟩, _ | ⟨x | _, _ | ⟨y | _, _ | ⟨z | _, _ | ⟨c, as⟩⟩⟩⟩⟩ <;> try exact (hs : False).elim
  obtain ⟨rfl, rfl, Z, hL, hq⟩ := hs
  unfold an_waits at hq
  refine ⟨Nat.le_refl 4, ?_⟩
  ((conv => whnf); (try dsimp only))
  refine ⟨rfl, rfl, _, _, _, hL.1.2, ?_⟩
  by_cases h : ir x 10 ∧ ir y 9 ∧ ir z 60
  · simp only [if_pos h] at hq
    refine Or.inl ⟨tn x, tn y, tn z, h.1.2, h.2.1.2, h.2.2.2, h.1.1, h.2.1.1, h.2.2.1, ?_⟩
    ((conv => whnf); (try dsimp only))
    exact hq
  · simp only [if_neg h] at hq
    refine Or.inr ⟨fun a b c ha hb hc z => h ⟨ir_of z.1 ha (by omega), ir_of z.2.1 hb (by omega), ir_of z.2.2 hc (by omega)⟩, ?_⟩
    ((conv => whnf); (try dsimp only))
    exact hq
def an_rare (x y z : Int32) : Int32 := if ir x 10 ∧ ir y 10 ∧ ir z 100 then 1 else 0
def st_rare (x y z : Int32) (Z : lpZ) : lpZ := if ir x 10 ∧ ir y 10 ∧ ir z 100 then (Z.1, (nu Z.2.1.1 (tn x * 11 + tn y) (tn z), Z.2.1.2), Z.2.2) else Z
def sp_X6_rare : lpS := fun as σ Q => match as with
  | [.inr (some (r, k)), .inl x, .inl y, .inl z] => r = 1 ∧ k = 0 ∧ ∃ Z, lpP σ Z ∧ ∀ τ, lpP τ (st_rare x y z Z) → lpFL σ τ → Q (some (an_rare x y z)) τ
  | _ => False
set_option maxHeartbeats 4000000 in
set_option maxRecDepth 100000 in
theorem ct_X6_rare (l : Launch) (D : va_G) (cI cD : ClassId) : lp_Ct l D cI cD yX6_rare cX6_rare 4 (some .boolean) 3 sp_X6_rare := by
  refine lp_method0 flX6 pfX6 kcX6 [(82, some 2, 3, sp_X2_tellRare)] true kX6_rare rfl rfl (lp_rB rfl) flX6_ok pfX6_ok kcX6_ok kX6_rare_ok ⟨_, _, rfl, rfl⟩ (lp_cs1 (lp_mkCall lkX6_82 (ct_X2_tellRare l D cI cD) (by omega)) lp_cs0) ?_
  intro as σ Q hs
  rcases as with _ | ⟨_ | _ | ⟨r, k⟩, _ | ⟨x | _, _ | ⟨y | _, _ | ⟨z | _, _ | ⟨c, as⟩⟩⟩⟩⟩ <;> try exact (hs : False).elim
  obtain ⟨rfl, rfl, Z, hL, hq⟩ := hs
  unfold an_rare st_rare at hq
  refine ⟨Nat.le_refl 4, ?_⟩
  ((conv => whnf); (try dsimp only))
  refine ⟨rfl, rfl, ?_⟩
  by_cases h : ir x 10 ∧ ir y 10 ∧ ir z 100
  · simp only [if_pos h] at hq
    refine Or.inl ⟨tn x, tn y, tn z, h.1.2, h.2.1.2, h.2.2.2, h.1.1, h.2.1.1, h.2.2.1, ?_⟩
    ((conv => whnf); (try dsimp only))
    refine ⟨Or.inr rfl, hq _ ⟨⟨lp_Vis_congr hL.1.1 ?_ ?_ ?_ ?_, fun j hj => ?_, fun j hj => ?_, fun j hj => ?_, fun j hj => ?_⟩, LPc_congr hL.2.1 ?_, LPp_congr hL.2.2 ?_ (fun r _ _ => ?_) (fun r _ _ => ?_) (fun k _ => ?_)⟩ (fun r _ => ?_)⟩
    · rw [lp_w3_r (by omega)]
    · rw [lp_w3_r (by omega)]
    · rw [lp_w3_r (by omega)]
    · rw [lp_w3_r (by omega)]
    · rw [lp_w3_r (by omega)]; exact hL.1.2.1 j hj
    · dsimp only
      rw [lp_rd]
      have := hL.1.2.2.1 j hj
      by_cases e1 : j = tn x * 11 + tn y
      · rw [if_pos ⟨rfl, rfl, e1⟩, e1, nu_same]
        exact ⟨rfl, h.2.2.2⟩
      · rw [if_neg (fun q => e1 q.2.2), nu_ne e1]
        exact this
    · rw [lp_w3_r (by omega)]; exact hL.1.2.2.2.1 j hj
    · rw [lp_w3_r (by omega), lp_w3_r (by omega)]; exact hL.1.2.2.2.2 j hj
    · rw [lp_w3_r (by omega)]
    · rw [lp_w3_r (by omega)]
    · rw [lp_w3_r (by omega)]
    · rw [lp_w3_r (by omega)]
    · rw [lp_w3_r (by omega)]
    · rw [lp_w3_r (by omega)]
  · simp only [if_neg h] at hq
    refine Or.inr ⟨fun a b c ha hb hc z => h ⟨ir_of z.1 ha (by omega), ir_of z.2.1 hb (by omega), ir_of z.2.2 hc (by omega)⟩, ?_⟩
    ((conv => whnf); (try dsimp only))
    exact ⟨Or.inl rfl, hq σ hL (FL_rf σ)⟩
def an_cost (x y : Int32) : Int32 := if ir x 9 ∧ ir1 y 50 then 1 else 0
def st_cost (x y : Int32) (Z : lpZ) : lpZ := if ir x 9 ∧ ir1 y 50 then (Z.1, (Z.2.1.1, nu Z.2.1.2 (tn x) (tn y)), Z.2.2) else Z
def sp_X6_cost : lpS := fun as σ Q => match as with
  | [.inr (some (r, k)), .inl x, .inl y] => r = 1 ∧ k = 0 ∧ ∃ Z, lpP σ Z ∧ ∀ τ, lpP τ (st_cost x y Z) → lpFL σ τ → Q (some (an_cost x y)) τ
  | _ => False
set_option maxHeartbeats 4000000 in
set_option maxRecDepth 100000 in
theorem ct_X6_cost (l : Launch) (D : va_G) (cI cD : ClassId) : lp_Ct l D cI cD yX6_cost cX6_cost 3 (some .boolean) 2 sp_X6_cost := by
  refine lp_method0 flX6 pfX6 kcX6 [(58, none, 1, sp_X6_isPage), (86, none, 3, sp_X6_isWithin)] true kX6_cost rfl rfl (lp_rB rfl) flX6_ok pfX6_ok kcX6_ok kX6_cost_ok ⟨_, _, rfl, rfl⟩ (lp_cs1 (lp_mkCall lkX6_58 (ct_X6_isPage l D cI cD) (by omega)) (lp_cs1 (lp_mkCall lkX6_86 (ct_X6_isWithin l D cI cD) (by omega)) lp_cs0)) ?_
  intro as σ Q hs
  rcases as with _ | ⟨_ | _ | ⟨r, k⟩, _ | ⟨x | _, _ | ⟨y | _, _ | ⟨c, as⟩⟩⟩⟩ <;> try exact (hs : False).elim
  obtain ⟨rfl, rfl, Z, hL, hq⟩ := hs
  unfold an_cost st_cost at hq
  refine ⟨Nat.le_refl 3, ?_⟩
  ((conv => whnf); (try dsimp only))
  by_cases hx : ir x 9
  rotate_left
  · simp only [if_neg (show ¬ (ir x 9 ∧ ir1 y 50) from fun z => hx z.1)] at hq
    refine Or.inr ⟨fun v hv e1 => hx (ir_of e1 hv (by omega)), ?_⟩
    ((conv => whnf); (try dsimp only))
    refine ⟨fun _ => ?_, fun q => absurd rfl q⟩
    ((conv => whnf); (try dsimp only))
    exact ⟨Or.inl rfl, hq σ hL (FL_rf σ)⟩
  refine Or.inl ⟨tn x, hx.2, hx.1, ?_⟩
  ((conv => whnf); (try dsimp only))
  refine ⟨fun q => absurd q (by decide), fun _ => ?_⟩
  ((conv => whnf); (try dsimp only))
  refine lp_upto1 (n := 50) (by decide) ?_
  by_cases hy : ir1 y 50
  rotate_left
  · simp only [if_neg (show ¬ (ir x 9 ∧ ir1 y 50) from fun z => hy z.2)] at hq
    refine Or.inr ⟨fun v h1 hv e1 => hy (ir1_of e1 h1 hv (by omega)), ?_⟩
    ((conv => whnf); (try dsimp only))
    refine ⟨fun q => absurd rfl q, fun _ => ?_⟩
    ((conv => whnf); (try dsimp only))
    exact ⟨Or.inl rfl, hq σ hL (FL_rf σ)⟩
  refine Or.inl ⟨tn y, hy.2.1, hy.2.2, hy.1, ?_⟩
  simp only [if_pos (show (ir x 9 ∧ ir1 y 50) from ⟨hx, hy⟩)] at hq
  ((conv => whnf); (try dsimp only))
  refine ⟨fun _ => ?_, fun q => absurd q (by decide)⟩
  ((conv => whnf); (try dsimp only))
  refine ⟨by have h1 := hx.1; have h2 := hx.2; rw [h1]; exact lp_vin (by omega) (by omega), ?_⟩
  ((conv => whnf); (try dsimp only))
  refine ⟨Or.inr rfl, hq _ ⟨LPg_congr hL.1 (fun r _ _ => ?_) (fun r _ _ => ?_) (fun k _ => ?_), fun j hj => ?_, LPp_congr hL.2.2 ?_ (fun r _ _ => ?_) (fun r _ _ => ?_) (fun k _ => ?_)⟩ (fun r _ => ?_)⟩
  · rw [lp_w3_r (by omega)]
  · rw [lp_w3_r (by omega)]
  · rw [lp_w3_r (by omega)]
  · dsimp only
    rw [lp_rd]
    have := hL.2.1 j hj
    by_cases e1 : j = tn x
    · rw [if_pos ⟨rfl, rfl, e1⟩, e1, nu_same]
      exact ⟨hy.1, hy.2⟩
    · rw [if_neg (fun q => e1 q.2.2), nu_ne e1]
      exact this
  · rw [lp_w3_r (by omega)]
  · rw [lp_w3_r (by omega)]
  · rw [lp_w3_r (by omega)]
  · rw [lp_w3_r (by omega)]
  · rw [lp_w3_r (by omega)]
theorem LP_FX {σ τ : lpM} {Z : lpZ} (h : lpP σ Z) (hF : lp_FX σ τ) : lpP τ Z :=
  ⟨LPg_congr h.1 (fun r _ _ => by rw [hF r (by omega)]) (fun r _ _ => hF r (by omega)) (fun k _ => by rw [hF 27 (by omega)]), LPc_congr h.2.1 (hF 15 (by omega)), LPp_congr h.2.2 (hF 17 (by omega)) (fun r _ _ => by rw [hF r (by omega)]) (fun r _ _ => hF r (by omega)) (fun k _ => by rw [hF 28 (by omega)])⟩
theorem FL_FX {σ τ : lpM} (hF : lp_FX σ τ) : lpFL σ τ := fun r hr => hF r (by omega)
noncomputable def an_contexts (x : Int32) (Z : lpZ) : Int32 := if ir1 x 4 then nI (cnum (gth Z.1.1 Z.1.2.1 Z.1.2.2.1 (tn x))) else -1
noncomputable def an_states (x : Int32) (Z : lpZ) : Int32 := if ir1 x 4 then nI (cstt (gth Z.1.1 Z.1.2.1 Z.1.2.2.1 (tn x))) else -1
def sp_X6_contexts : lpS := fun as σ Q => match as with
  | [.inr (some (r, k)), .inl x] => r = 1 ∧ k = 0 ∧ ∃ Z, lpP σ Z ∧ ∀ τ, lpP τ Z → lpFL σ τ → Q (some (an_contexts x Z)) τ
  | _ => False
set_option maxHeartbeats 4000000 in
set_option maxRecDepth 100000 in
theorem ct_X6_contexts (l : Launch) (D : va_G) (cI cD : ClassId) : lp_Ct l D cI cD yX6_contexts cX6_contexts 2 (some .int) 5 sp_X6_contexts := by
  refine lp_method0 flX6 pfX6 kcX6 [(86, none, 3, sp_X6_isWithin), (89, some 0, 2, sp_X0_gather), (93, some 0, 0, sp_X0_number)] false kX6_contexts rfl rfl (lp_rI rfl) flX6_ok pfX6_ok kcX6_ok kX6_contexts_ok ⟨_, _, rfl, rfl⟩ (lp_cs1 (lp_mkCall lkX6_86 (ct_X6_isWithin l D cI cD) (by omega)) (lp_cs1 (lp_mkCall lkX6_89 (ct_X0_gather l D cI cD) (by omega)) (lp_cs1 (lp_mkCall lkX6_93 (ct_X0_number l D cI cD) (by omega)) lp_cs0))) ?_
  intro as σ Q hs
  rcases as with _ | ⟨_ | _ | ⟨r, k⟩, _ | ⟨x | _, _ | ⟨c, as⟩⟩⟩ <;> try exact (hs : False).elim
  obtain ⟨rfl, rfl, Z, hL, hq⟩ := hs
  unfold an_contexts at hq
  refine ⟨Nat.le_refl 2, ?_⟩
  ((conv => whnf); (try dsimp only))
  refine lp_upto1 (n := 4) (by decide) ?_
  by_cases hx : ir1 x 4
  rotate_left
  · simp only [if_neg hx] at hq
    refine Or.inr ⟨fun v h1 hv e1 => hx (ir1_of e1 h1 hv (by omega)), ?_⟩
    ((conv => whnf); (try dsimp only))
    refine ⟨fun q => absurd rfl q, fun _ => ?_⟩
    ((conv => whnf); (try dsimp only))
    exact hq σ hL (FL_rf σ)
  simp only [if_pos hx] at hq
  refine Or.inl ⟨tn x, hx.2.1, hx.2.2, hx.1, ?_⟩
  ((conv => whnf); (try dsimp only))
  refine ⟨fun _ => ?_, fun q => absurd q (by decide)⟩
  ((conv => whnf); (try dsimp only))
  refine ⟨rfl, rfl, rfl, rfl, _, tn x, _, _, _, hL.1.1, hx.1, hx.2.1, hx.2.2, fun τ D h1 h2 h3 h4 => ?_⟩
  ((conv => whnf); (try dsimp only))
  refine ⟨rfl, rfl, _, D, h2, h4, ?_⟩
  ((conv => whnf); (try dsimp only))
  rw [prm_cnum h3]
  exact hq τ (LP_FX hL h1) (FL_FX h1)
def sp_X6_states : lpS := fun as σ Q => match as with
  | [.inr (some (r, k)), .inl x] => r = 1 ∧ k = 0 ∧ ∃ Z, lpP σ Z ∧ ∀ τ, lpP τ Z → lpFL σ τ → Q (some (an_states x Z)) τ
  | _ => False
set_option maxHeartbeats 4000000 in
set_option maxRecDepth 100000 in
theorem ct_X6_states (l : Launch) (D : va_G) (cI cD : ClassId) : lp_Ct l D cI cD yX6_states cX6_states 2 (some .int) 5 sp_X6_states := by
  refine lp_method0 flX6 pfX6 kcX6 [(86, none, 3, sp_X6_isWithin), (89, some 0, 2, sp_X0_gather), (96, some 0, 0, sp_X0_numberOfUnlike)] false kX6_states rfl rfl (lp_rI rfl) flX6_ok pfX6_ok kcX6_ok kX6_states_ok ⟨_, _, rfl, rfl⟩ (lp_cs1 (lp_mkCall lkX6_86 (ct_X6_isWithin l D cI cD) (by omega)) (lp_cs1 (lp_mkCall lkX6_89 (ct_X0_gather l D cI cD) (by omega)) (lp_cs1 (lp_mkCall lkX6_96 (ct_X0_numberOfUnlike l D cI cD) (by omega)) lp_cs0))) ?_
  intro as σ Q hs
  rcases as with _ | ⟨_ | _ | ⟨r, k⟩, _ | ⟨x | _, _ | ⟨c, as⟩⟩⟩ <;> try exact (hs : False).elim
  obtain ⟨rfl, rfl, Z, hL, hq⟩ := hs
  unfold an_states at hq
  refine ⟨Nat.le_refl 2, ?_⟩
  ((conv => whnf); (try dsimp only))
  refine lp_upto1 (n := 4) (by decide) ?_
  by_cases hx : ir1 x 4
  rotate_left
  · simp only [if_neg hx] at hq
    refine Or.inr ⟨fun v h1 hv e1 => hx (ir1_of e1 h1 hv (by omega)), ?_⟩
    ((conv => whnf); (try dsimp only))
    refine ⟨fun q => absurd rfl q, fun _ => ?_⟩
    ((conv => whnf); (try dsimp only))
    exact hq σ hL (FL_rf σ)
  simp only [if_pos hx] at hq
  refine Or.inl ⟨tn x, hx.2.1, hx.2.2, hx.1, ?_⟩
  ((conv => whnf); (try dsimp only))
  refine ⟨fun _ => ?_, fun q => absurd q (by decide)⟩
  ((conv => whnf); (try dsimp only))
  refine ⟨rfl, rfl, rfl, rfl, _, tn x, _, _, _, hL.1.1, hx.1, hx.2.1, hx.2.2, fun τ D h1 h2 h3 h4 => ?_⟩
  ((conv => whnf); (try dsimp only))
  refine ⟨rfl, rfl, _, D, h2, h4, fun τ' h5 => ?_⟩
  ((conv => whnf); (try dsimp only))
  rw [prm_cstt h3]
  exact hq τ' (LP_FX hL (lp_FX_tr h1 h5)) (FL_FX (lp_FX_tr h1 h5))
def an_walked (x : Int32) (Z : lpZ) : Int32 := if 0 < Z.2.2.1.1 ∧ ir x (Z.2.2.1.1 - 1) then nI (Z.2.2.1.2.1 (tn x + 1) - Z.2.2.1.2.1 (tn x)) else -1
def sp_X6_walked : lpS := fun as σ Q => match as with
  | [.inr (some (r, k)), .inl x] => r = 1 ∧ k = 0 ∧ ∃ Z, lpP σ Z ∧ Q (some (an_walked x Z)) σ
  | _ => False
set_option maxHeartbeats 4000000 in
set_option maxRecDepth 100000 in
theorem ct_X6_walked (l : Launch) (D : va_G) (cI cD : ClassId) : lp_Ct l D cI cD yX6_walked cX6_walked 2 (some .int) 3 sp_X6_walked := by
  refine lp_method0 flX6 pfX6 kcX6 [(113, some 4, 1, sp_X4_lengthOf)] false kX6_walked rfl rfl (lp_rI rfl) flX6_ok pfX6_ok kcX6_ok kX6_walked_ok ⟨_, _, rfl, rfl⟩ (lp_cs1 (lp_mkCall lkX6_113 (ct_X4_lengthOf l D cI cD) (by omega)) lp_cs0) ?_
  intro as σ Q hs
  rcases as with _ | ⟨_ | _ | ⟨r, k⟩, _ | ⟨x | _, _ | ⟨c, as⟩⟩⟩ <;> try exact (hs : False).elim
  obtain ⟨rfl, rfl, Z, hL, hq⟩ := hs
  have hV := hL.2.2.2.1
  have hn := hV.2.1
  unfold an_walked at hq
  refine ⟨Nat.le_refl 2, ?_⟩
  ((conv => whnf); (try dsimp only))
  refine ⟨rfl, _, _, _, _, hV, ?_⟩
  by_cases h : 0 < Z.2.2.1.1 ∧ ir x (Z.2.2.1.1 - 1)
  · simp only [if_pos h] at hq
    refine Or.inl ⟨tn x, by have := h.2.2; omega, h.2.1, ?_⟩
    ((conv => whnf); (try dsimp only))
    exact hq
  · simp only [if_neg h] at hq
    refine Or.inr ⟨fun v hv e1 => h ⟨by omega, ir_of e1 (by omega) (by omega)⟩, ?_⟩
    ((conv => whnf); (try dsimp only))
    exact hq
def an_told (x y z : Int32) (Z : lpZ) : Int32 := if 0 < Z.2.2.1.1 ∧ ir x (Z.2.2.1.1 - 1) ∧ 0 < Z.2.2.1.2.1 (tn x + 1) - Z.2.2.1.2.1 (tn x) ∧ ir y (Z.2.2.1.2.1 (tn x + 1) - Z.2.2.1.2.1 (tn x) - 1) then lp_tv (Z.2.2.1.2.2.1 (Z.2.2.1.2.1 (tn x) + tn y)) (Z.2.2.1.2.2.2 (Z.2.2.1.2.1 (tn x) + tn y)) (Z.2.2.2.1 3 (Z.2.2.1.2.1 (tn x) + tn y)) (Z.2.2.2.1 4 (Z.2.2.1.2.1 (tn x) + tn y)) (Z.2.2.2.1 5 (Z.2.2.1.2.1 (tn x) + tn y)) (Z.2.2.2.1 6 (Z.2.2.1.2.1 (tn x) + tn y)) z else -1
def sp_X6_told : lpS := fun as σ Q => match as with
  | [.inr (some (r, k)), .inl x, .inl y, .inl z] => r = 1 ∧ k = 0 ∧ ∃ Z, lpP σ Z ∧ Q (some (an_told x y z Z)) σ
  | _ => False
set_option maxHeartbeats 4000000 in
set_option maxRecDepth 100000 in
theorem ct_X6_told (l : Launch) (D : va_G) (cI cD : ClassId) : lp_Ct l D cI cD yX6_told cX6_told 4 (some .int) 4 sp_X6_told := by
  refine lp_method0 flX6 pfX6 kcX6 [(117, some 4, 2, sp_X4_slotOf), (120, some 3, 2, sp_X3_tell)] false kX6_told rfl rfl (lp_rI rfl) flX6_ok pfX6_ok kcX6_ok kX6_told_ok ⟨_, _, rfl, rfl⟩ (lp_cs1 (lp_mkCall lkX6_117 (ct_X4_slotOf l D cI cD) (by omega)) (lp_cs1 (lp_mkCall lkX6_120 (ct_X3_tell l D cI cD) (by omega)) lp_cs0)) ?_
  intro as σ Q hs
  rcases as with _ | ⟨_ | _ | ⟨r, k⟩, _ | ⟨x | _, _ | ⟨y | _, _ | ⟨z | _, _ | ⟨c, as⟩⟩⟩⟩⟩ <;> try exact (hs : False).elim
  obtain ⟨rfl, rfl, ⟨L, C, ⟨N, s, pg, wt⟩, P, cm⟩, hL, hq⟩ := hs
  obtain ⟨-, -, -, hV, hD, -⟩ := hL
  dsimp only at hV hD
  have hn := hV.2.1
  unfold an_told at hq
  dsimp only at hq
  refine ⟨Nat.le_refl 4, ?_⟩
  ((conv => whnf); (try dsimp only))
  refine ⟨rfl, _, _, _, _, hV, ?_⟩
  by_cases h : 0 < N ∧ ir x (N - 1) ∧ 0 < s (tn x + 1) - s (tn x) ∧ ir y (s (tn x + 1) - s (tn x) - 1)
  · simp only [if_pos h] at hq
    obtain ⟨h1, h2, h3, h4⟩ := h
    have hv : tn x < N := by have := h2.2; omega
    have hi : tn y < s (tn x + 1) - s (tn x) := by have := h4.2; omega
    refine Or.inl ⟨tn x, tn y, hv, hi, h2.1, h4.1, ?_⟩
    ((conv => whnf); (try dsimp only))
    have hsn := lp_Vis_sn hV (show tn x + 1 ≤ N by omega)
    refine ⟨rfl, rfl, _, _, _, _, P, hV, hD, Or.inl ⟨s (tn x) + tn y, by omega, rfl, ?_⟩⟩
    ((conv => whnf); (try dsimp only))
    exact hq
  · simp only [if_neg h] at hq
    refine Or.inr ⟨fun v i hv hi z => h ?_, ?_⟩
    · have hs := lp_Vis_sn hV (show v + 1 ≤ N by omega)
      have hb := lp_Vis_bd hV
      have e1 : tn x = v := by rw [z.1]; exact lp_clm (by omega)
      refine ⟨by omega, ir_of z.1 (by omega) (by omega), ?_, ?_⟩
      · rw [e1]; omega
      · rw [e1]; exact ir_of z.2 (by omega) (by omega)
    · ((conv => whnf); (try dsimp only))
      refine ⟨rfl, rfl, _, _, _, _, P, hV, hD, Or.inr ⟨fun j hj e1 => ?_, ?_⟩⟩
      · have hb := lp_Vis_bd hV
        exact lp_neg1 (show j < 2 ^ 31 by omega) e1.symm
      · ((conv => whnf); (try dsimp only))
        exact hq
def an_dealt (x y : Int32) (Z : lpZ) : Int32 := if ir x 10 ∧ ir y 10 then nI (Z.2.2.2.2 (tn x) (tn y)) else nI 0
def sp_X6_dealt : lpS := fun as σ Q => match as with
  | [.inr (some (r, k)), .inl x, .inl y] => r = 1 ∧ k = 0 ∧ ∃ Z, lpP σ Z ∧ Q (some (an_dealt x y Z)) σ
  | _ => False
set_option maxHeartbeats 4000000 in
set_option maxRecDepth 100000 in
theorem ct_X6_dealt (l : Launch) (D : va_G) (cI cD : ClassId) : lp_Ct l D cI cD yX6_dealt cX6_dealt 3 (some .int) 3 sp_X6_dealt := by
  refine lp_method0 flX6 pfX6 kcX6 [(123, some 5, 2, sp_X5_timesOf)] false kX6_dealt rfl rfl (lp_rI rfl) flX6_ok pfX6_ok kcX6_ok kX6_dealt_ok ⟨_, _, rfl, rfl⟩ (lp_cs1 (lp_mkCall lkX6_123 (ct_X5_timesOf l D cI cD) (by omega)) lp_cs0) ?_
  intro as σ Q hs
  rcases as with _ | ⟨_ | _ | ⟨r, k⟩, _ | ⟨x | _, _ | ⟨y | _, _ | ⟨c, as⟩⟩⟩⟩ <;> try exact (hs : False).elim
  obtain ⟨rfl, rfl, Z, hL, hq⟩ := hs
  unfold an_dealt at hq
  refine ⟨Nat.le_refl 3, ?_⟩
  ((conv => whnf); (try dsimp only))
  refine ⟨rfl, rfl, hL.2.2.1, ?_⟩
  by_cases h : ir x 10 ∧ ir y 10
  · simp only [if_pos h] at hq
    refine Or.inl ⟨tn x, tn y, h.1.2, h.2.2, h.1.1, h.2.1, ?_⟩
    ((conv => whnf); (try dsimp only))
    rw [hL.2.2.2.2.2.2.2 (tn x) (by have := h.1.2; omega) (tn y) (by have := h.2.2; omega)]
    exact hq
  · simp only [if_neg h] at hq
    refine Or.inr ⟨fun a b ha hb z => h ⟨ir_of z.1 ha (by omega), ir_of z.2 hb (by omega)⟩, ?_⟩
    ((conv => whnf); (try dsimp only))
    exact hq
def an_behind (Z : lpZ) : Int32 := if Z.2.2.2.1 7 3 < Z.2.2.2.1 7 2 then nI (Z.2.2.2.1 7 3) else -1
def sp_X6_behind : lpS := fun as σ Q => match as with
  | [.inr (some (r, k))] => r = 1 ∧ k = 0 ∧ ∃ Z, lpP σ Z ∧ Q (some (an_behind Z)) σ
  | _ => False
set_option maxHeartbeats 4000000 in
set_option maxRecDepth 100000 in
theorem ct_X6_behind (l : Launch) (D : va_G) (cI cD : ClassId) : lp_Ct l D cI cD yX6_behind cX6_behind 1 (some .int) 1 sp_X6_behind := by
  refine lp_method0 flX6 pfX6 kcX6 [(136, some 3, 0, sp_X3_fallsBehind)] false kX6_behind rfl rfl (lp_rI rfl) flX6_ok pfX6_ok kcX6_ok kX6_behind_ok ⟨_, _, rfl, rfl⟩ (lp_cs1 (lp_mkCall lkX6_136 (ct_X3_fallsBehind l D cI cD) (by omega)) lp_cs0) ?_
  intro as σ Q hs
  rcases as with _ | ⟨_ | _ | ⟨r, k⟩, _ | ⟨c, as⟩⟩ <;> try exact (hs : False).elim
  obtain ⟨rfl, rfl, Z, hL, hq⟩ := hs
  obtain ⟨-, -, -, -, -, ⟨d1, d2, d3, d4⟩, hb, -⟩ := hL
  have hb2 := hb 2
  have hb3 := hb 3
  unfold an_behind at hq
  refine ⟨Nat.le_refl 1, ?_⟩
  ((conv => whnf); (try dsimp only))
  refine ⟨rfl, rfl, _, _, d1, d2, by omega, by omega, ?_⟩
  by_cases h : Z.2.2.2.1 7 3 < Z.2.2.2.1 7 2
  · simp only [if_pos h] at hq
    refine Or.inl ⟨h, ?_⟩
    ((conv => whnf); (try dsimp only))
    exact hq
  · simp only [if_neg h] at hq
    refine Or.inr ⟨by omega, ?_⟩
    ((conv => whnf); (try dsimp only))
    exact hq
end
section
/-! ===== LoadPress: part, late, waiting, count, press, learn ===== -/
theorem lp_lt_anti {P : Nat → Nat → Nat} {a b t u : Nat} (h : t ≤ u) : lsum (lp_lt P a u) b ≤ lsum (lp_lt P a t) b := lsum_le (fun i _ => by
  unfold lp_lt
  by_cases h1 : a ≤ i ∧ u < P 5 i - P 3 i
  · rw [if_pos h1, if_pos ⟨h1.1, by omega⟩]; omega
  · rw [if_neg h1]; omega)
theorem lp_prt_mono {P : Nat → Nat → Nat} {a b th t u : Nat} (h : t ≤ u) (hp : lp_prt P a b th t) : lp_prt P a b th u := by
  unfold lp_prt at hp ⊢
  have := lp_lt_anti (P := P) (a := a) (b := b) h
  exact Nat.le_trans hp (Nat.mul_le_mul_right _ (by omega))
noncomputable def lp_pt (P : Nat → Nat → Nat) (a b th : Nat) : Nat := Classical.epsilon (fun t => ¬ lp_prt P a b th t ∧ lp_prt P a b th (t + 1)) + 1
theorem lp_pt_eq {P : Nat → Nat → Nat} {a b th t : Nat} (h1 : ¬ lp_prt P a b th t) (h2 : lp_prt P a b th (t + 1)) : lp_pt P a b th = t + 1 := by
  have h := Classical.epsilon_spec (p := fun t => ¬ lp_prt P a b th t ∧ lp_prt P a b th (t + 1)) ⟨t, h1, h2⟩
  unfold lp_pt
  generalize Classical.epsilon (fun t => ¬ lp_prt P a b th t ∧ lp_prt P a b th (t + 1)) = u at h
  rcases Nat.lt_trichotomy u t with z | z | z
  · exact absurd (lp_prt_mono (show u + 1 ≤ t by omega) h.2) h1
  · rw [z]
  · exact absurd (lp_prt_mono (show t + 1 ≤ u by omega) h2) h.1
noncomputable def an_part (x y : Int32) (Z : lpZ) : Int32 := if ir1 x 1000 ∧ (0 < Z.2.2.1.1 ∧ ir y (Z.2.2.1.1 - 1)) ∧ Z.2.2.1.2.1 (tn y) < Z.2.2.1.2.1 Z.2.2.1.1 then nI (lp_pt Z.2.2.2.1 (Z.2.2.1.2.1 (tn y)) (Z.2.2.1.2.1 Z.2.2.1.1) (tn x)) else -1
def sp_X6_part : lpS := fun as σ Q => match as with
  | [.inr (some (r, k)), .inl x, .inl y] => r = 1 ∧ k = 0 ∧ ∃ Z, lpP σ Z ∧ Q (some (an_part x y Z)) σ
  | _ => False
set_option maxHeartbeats 4000000 in
set_option maxRecDepth 100000 in
theorem ct_X6_part (l : Launch) (D : va_G) (cI cD : ClassId) : lp_Ct l D cI cD yX6_part cX6_part 3 (some .int) 5 sp_X6_part := by
  refine lp_method0 flX6 pfX6 kcX6 [(86, none, 3, sp_X6_isWithin), (126, some 4, 1, sp_X4_has), (129, some 3, 2, sp_X3_leastTicks)] false kX6_part rfl rfl (lp_rI rfl) flX6_ok pfX6_ok kcX6_ok kX6_part_ok ⟨_, _, rfl, rfl⟩ (lp_cs1 (lp_mkCall lkX6_86 (ct_X6_isWithin l D cI cD) (by omega)) (lp_cs1 (lp_mkCall lkX6_126 (ct_X4_has l D cI cD) (by omega)) (lp_cs1 (lp_mkCall lkX6_129 (ct_X3_leastTicks l D cI cD) (by omega)) lp_cs0))) ?_
  intro as σ Q hs
  rcases as with _ | ⟨_ | _ | ⟨r, k⟩, _ | ⟨x | _, _ | ⟨y | _, _ | ⟨c, as⟩⟩⟩⟩ <;> try exact (hs : False).elim
  obtain ⟨rfl, rfl, ⟨L, C, ⟨N, s, pg, wt⟩, P, cm⟩, hL, hq⟩ := hs
  obtain ⟨-, -, -, hV, hD, -⟩ := hL
  dsimp only at hV hD
  have hn := hV.2.1
  unfold an_part at hq
  dsimp only at hq
  refine ⟨Nat.le_refl 3, ?_⟩
  ((conv => whnf); (try dsimp only))
  refine lp_upto1 (n := 1000) (by decide) ?_
  by_cases hx : ir1 x 1000
  rotate_left
  · rw [if_neg (fun z => hx z.1)] at hq
    refine Or.inr ⟨fun v h1 hv e1 => hx (ir1_of e1 h1 hv (by omega)), ?_⟩
    ((conv => whnf); (try dsimp only))
    refine ⟨fun _ => ?_, fun q => absurd rfl q⟩
    ((conv => whnf); (try dsimp only))
    exact hq
  refine Or.inl ⟨tn x, hx.2.1, hx.2.2, hx.1, ?_⟩
  ((conv => whnf); (try dsimp only))
  refine ⟨fun q => absurd q (by decide), fun _ => ?_⟩
  ((conv => whnf); (try dsimp only))
  refine ⟨rfl, _, _, _, _, hV, ?_⟩
  by_cases hy : 0 < N ∧ ir y (N - 1)
  rotate_left
  · rw [if_neg (fun z => hy z.2.1)] at hq
    refine Or.inr ⟨fun v hv e1 => hy ⟨by omega, ir_of e1 (by omega) (by omega)⟩, ?_⟩
    ((conv => whnf); (try dsimp only))
    refine ⟨fun q => absurd rfl q, fun _ => ?_⟩
    ((conv => whnf); (try dsimp only))
    exact hq
  have hyN : tn y < N := by have := hy.2.2; omega
  refine Or.inl ⟨tn y, hyN, hy.2.1, ?_⟩
  ((conv => whnf); (try dsimp only))
  refine ⟨fun _ => ?_, fun q => absurd q (by decide)⟩
  ((conv => whnf); (try dsimp only))
  refine ⟨rfl, rfl, _, tn x, tn y, _, _, _, P, hV, hD, hx.1, hx.2.1, hx.2.2, hy.2.1, hyN, ?_⟩
  have hsn := lp_Vis_sn hV (show tn y ≤ N by omega)
  by_cases hz : s (tn y) < s N
  · rw [if_pos ⟨hx, hy, hz⟩] at hq
    refine Or.inr ⟨hz, fun t h1 h2 => ?_⟩
    ((conv => whnf); (try dsimp only))
    rw [← lp_pt_eq h1 h2]
    exact hq
  · rw [if_neg (fun z => hz z.2.2)] at hq
    refine Or.inl ⟨by omega, ?_⟩
    ((conv => whnf); (try dsimp only))
    exact hq
def an_late (x y : Int32) (Z : lpZ) : Int32 := if ir x 1000000 ∧ (0 < Z.2.2.1.1 ∧ ir y (Z.2.2.1.1 - 1)) then nI (lsum (lp_lt Z.2.2.2.1 (Z.2.2.1.2.1 (tn y)) (tn x)) (Z.2.2.1.2.1 Z.2.2.1.1)) else -1
def sp_X6_late : lpS := fun as σ Q => match as with
  | [.inr (some (r, k)), .inl x, .inl y] => r = 1 ∧ k = 0 ∧ ∃ Z, lpP σ Z ∧ Q (some (an_late x y Z)) σ
  | _ => False
set_option maxHeartbeats 4000000 in
set_option maxRecDepth 100000 in
theorem ct_X6_late (l : Launch) (D : va_G) (cI cD : ClassId) : lp_Ct l D cI cD yX6_late cX6_late 3 (some .int) 4 sp_X6_late := by
  refine lp_method0 flX6 pfX6 kcX6 [(86, none, 3, sp_X6_isWithin), (126, some 4, 1, sp_X4_has), (133, some 3, 2, sp_X3_longerThan)] false kX6_late rfl rfl (lp_rI rfl) flX6_ok pfX6_ok kcX6_ok kX6_late_ok ⟨_, _, rfl, rfl⟩ (lp_cs1 (lp_mkCall lkX6_86 (ct_X6_isWithin l D cI cD) (by omega)) (lp_cs1 (lp_mkCall lkX6_126 (ct_X4_has l D cI cD) (by omega)) (lp_cs1 (lp_mkCall lkX6_133 (ct_X3_longerThan l D cI cD) (by omega)) lp_cs0))) ?_
  intro as σ Q hs
  rcases as with _ | ⟨_ | _ | ⟨r, k⟩, _ | ⟨x | _, _ | ⟨y | _, _ | ⟨c, as⟩⟩⟩⟩ <;> try exact (hs : False).elim
  obtain ⟨rfl, rfl, ⟨L, C, ⟨N, s, pg, wt⟩, P, cm⟩, hL, hq⟩ := hs
  obtain ⟨-, -, -, hV, hD, -⟩ := hL
  dsimp only at hV hD
  have hn := hV.2.1
  unfold an_late at hq
  dsimp only at hq
  refine ⟨Nat.le_refl 3, ?_⟩
  ((conv => whnf); (try dsimp only))
  refine lp_upto (n := 1000000) (by decide) ?_
  by_cases hx : ir x 1000000
  rotate_left
  · rw [if_neg (fun z => hx z.1)] at hq
    refine Or.inr ⟨fun v hv e1 => hx (ir_of e1 hv (by omega)), ?_⟩
    ((conv => whnf); (try dsimp only))
    refine ⟨fun _ => ?_, fun q => absurd rfl q⟩
    ((conv => whnf); (try dsimp only))
    exact hq
  refine Or.inl ⟨tn x, hx.2, hx.1, ?_⟩
  ((conv => whnf); (try dsimp only))
  refine ⟨fun q => absurd q (by decide), fun _ => ?_⟩
  ((conv => whnf); (try dsimp only))
  refine ⟨rfl, _, _, _, _, hV, ?_⟩
  by_cases hy : 0 < N ∧ ir y (N - 1)
  rotate_left
  · rw [if_neg (fun z => hy z.2)] at hq
    refine Or.inr ⟨fun v hv e1 => hy ⟨by omega, ir_of e1 (by omega) (by omega)⟩, ?_⟩
    ((conv => whnf); (try dsimp only))
    refine ⟨fun q => absurd rfl q, fun _ => ?_⟩
    ((conv => whnf); (try dsimp only))
    exact hq
  have hyN : tn y < N := by have := hy.2.2; omega
  rw [if_pos ⟨hx, hy⟩] at hq
  refine Or.inl ⟨tn y, hyN, hy.2.1, ?_⟩
  ((conv => whnf); (try dsimp only))
  refine ⟨fun _ => ?_, fun q => absurd q (by decide)⟩
  ((conv => whnf); (try dsimp only))
  refine ⟨rfl, rfl, _, tn x, tn y, _, _, _, P, hV, hD, hx.1, by have := hx.2; omega, hy.2.1, hyN, ?_⟩
  ((conv => whnf); (try dsimp only))
  exact hq
def an_waiting (x : Int32) (Z : lpZ) : Int32 := if ir x 1000000 ∧ 0 < Z.2.2.1.1 then nI (lsum (lp_wa Z.2.2.2.1 (tn x)) (Z.2.2.1.2.1 Z.2.2.1.1)) else -1
def sp_X6_waiting : lpS := fun as σ Q => match as with
  | [.inr (some (r, k)), .inl x] => r = 1 ∧ k = 0 ∧ ∃ Z, lpP σ Z ∧ Q (some (an_waiting x Z)) σ
  | _ => False
set_option maxHeartbeats 4000000 in
set_option maxRecDepth 100000 in
theorem ct_X6_waiting (l : Launch) (D : va_G) (cI cD : ClassId) : lp_Ct l D cI cD yX6_waiting cX6_waiting 2 (some .int) 2 sp_X6_waiting := by
  refine lp_method0 flX6 pfX6 kcX6 [(86, none, 3, sp_X6_isWithin), (143, some 3, 1, sp_X3_notBegunAt)] false kX6_waiting rfl rfl (lp_rI rfl) flX6_ok pfX6_ok kcX6_ok kX6_waiting_ok ⟨_, _, rfl, rfl⟩ (lp_cs1 (lp_mkCall lkX6_86 (ct_X6_isWithin l D cI cD) (by omega)) (lp_cs1 (lp_mkCall lkX6_143 (ct_X3_notBegunAt l D cI cD) (by omega)) lp_cs0)) ?_
  intro as σ Q hs
  rcases as with _ | ⟨_ | _ | ⟨r, k⟩, _ | ⟨x | _, _ | ⟨c, as⟩⟩⟩ <;> try exact (hs : False).elim
  obtain ⟨rfl, rfl, ⟨L, C, ⟨N, s, pg, wt⟩, P, cm⟩, hL, hq⟩ := hs
  obtain ⟨-, -, -, hV, hD, -⟩ := hL
  dsimp only at hV hD
  have hn := hV.2.1
  unfold an_waiting at hq
  dsimp only at hq
  refine ⟨Nat.le_refl 2, ?_⟩
  ((conv => whnf); (try dsimp only))
  refine lp_upto (n := 1000000) (by decide) ?_
  by_cases hx : ir x 1000000
  rotate_left
  · rw [if_neg (fun z => hx z.1)] at hq
    refine Or.inr ⟨fun v hv e1 => hx (ir_of e1 hv (by omega)), ?_⟩
    ((conv => whnf); (try dsimp only))
    refine ⟨fun _ => ?_, fun q => absurd rfl q⟩
    ((conv => whnf); (try dsimp only))
    exact hq
  refine Or.inl ⟨tn x, hx.2, hx.1, ?_⟩
  ((conv => whnf); (try dsimp only))
  refine ⟨fun q => absurd q (by decide), fun _ => ?_⟩
  ((conv => whnf); (try dsimp only))
  rw [hV.1]
  refine ⟨fun q => ?_, fun q => ?_⟩ <;> ((conv => whnf); (try dsimp only))
  · have hz : 0 < N := Nat.pos_of_ne_zero (fun z => q (by rw [z]; rfl))
    rw [if_pos ⟨hx, hz⟩] at hq
    refine ⟨rfl, rfl, _, tn x, _, _, _, P, hV, hD, hx.1, by have := hx.2; omega, ?_⟩
    ((conv => whnf); (try dsimp only))
    exact hq
  · have hz : N = 0 := lp_inj (by omega) (by omega) q
    rw [if_neg (fun z => by omega)] at hq
    exact hq
def lp_tv7 (a0 a1 a2 a3 a4 a5 a6 : Nat) (y : Int32) : Int32 := if y = nI 0 then nI a0 else if y = nI 1 then nI a1 else if y = nI 2 then nI a2 else if y = nI 3 then nI a3 else if y = nI 4 then nI a4 else if y = nI 5 then nI a5 else if y = nI 6 then nI a6 else -1
theorem lp_tv7_out {a0 a1 a2 a3 a4 a5 a6 : Nat} {y : Int32} (h : y.toInt < 0 ∨ 6 < y.toInt) : lp_tv7 a0 a1 a2 a3 a4 a5 a6 y = -1 := by
  have k : ∀ c : Nat, c < 7 → y ≠ nI c := fun c hc e => by
    have := (lp_ti (x := y) (c := c) (by omega)).mpr e
    omega
  simp [lp_tv7, k 0 (by omega), k 1 (by omega), k 2 (by omega), k 3 (by omega), k 4 (by omega), k 5 (by omega), k 6 (by omega)]
def an_count (x : Int32) (Z : lpZ) : Int32 := lp_tv7 Z.1.1 (Z.1.2.1 Z.1.1) Z.2.2.1.1 (Z.2.2.1.2.1 Z.2.2.1.1) (Z.2.2.2.1 7 0) (Z.2.2.2.1 7 1) (lsum (fun j => if 0 < lp_ctL Z.1 j then 1 else 0) 121) x
def sp_X6_count : lpS := fun as σ Q => match as with
  | [.inr (some (r, k)), .inl x] => r = 1 ∧ k = 0 ∧ ∃ Z, lpP σ Z ∧ Q (some (an_count x Z)) σ
  | _ => False
set_option maxHeartbeats 4000000 in
set_option maxRecDepth 100000 in
theorem ct_X6_count (l : Launch) (D : va_G) (cI cD : ClassId) : lp_Ct l D cI cD yX6_count cX6_count 2 (some .int) 1 sp_X6_count := by
  refine lp_method0 flX6 pfX6 kcX6 [(99, some 4, 0, sp_X4_asks), (158, some 2, 0, sp_X2_unlikeSteps)] false kX6_count rfl rfl (lp_rI rfl) flX6_ok pfX6_ok kcX6_ok kX6_count_ok ⟨_, _, rfl, rfl⟩ (lp_cs1 (lp_mkCall lkX6_99 (ct_X4_asks l D cI cD) (by omega)) (lp_cs1 (lp_mkCall lkX6_158 (ct_X2_unlikeSteps l D cI cD) (by omega)) lp_cs0)) ?_
  intro as σ Q hs
  rcases as with _ | ⟨_ | _ | ⟨r, k⟩, _ | ⟨x | _, _ | ⟨c, as⟩⟩⟩ <;> try exact (hs : False).elim
  obtain ⟨rfl, rfl, Z, ⟨⟨hV, hM⟩, -, -, hV2, -, ⟨d1, d2, d3, d4⟩, -⟩, hq⟩ := hs
  unfold an_count at hq
  refine ⟨Nat.le_refl 2, ?_⟩
  ((conv => whnf); (try dsimp only))
  refine ⟨fun z => ?_, fun z => ?_, fun z => ?_, fun z => ?_, fun z => ?_, fun z => ?_, fun z => ?_, fun z => ?_, trivial⟩ <;> ((conv => whnf); (try dsimp only))
  · rw [lp_tv7_out z] at hq
    exact hq
  · have z : x = nI 0 := (lp_ti (c := 0) (by omega)).mp z
    subst z
    rw [hV.1]
    exact hq
  · have z : x = nI 1 := (lp_ti (c := 1) (by omega)).mp z
    subst z
    exact ⟨rfl, _, _, _, _, hV, hq⟩
  · have z : x = nI 2 := (lp_ti (c := 2) (by omega)).mp z
    subst z
    rw [hV2.1]
    exact hq
  · have z : x = nI 3 := (lp_ti (c := 3) (by omega)).mp z
    subst z
    exact ⟨rfl, _, _, _, _, hV2, hq⟩
  · have z : x = nI 4 := (lp_ti (c := 4) (by omega)).mp z
    subst z
    rw [d3]
    exact hq
  · have z : x = nI 5 := (lp_ti (c := 5) (by omega)).mp z
    subst z
    rw [d4]
    exact hq
  · have z : x = nI 6 := (lp_ti (c := 6) (by omega)).mp z
    subst z
    exact ⟨rfl, rfl, _, _, _, hM, hq⟩
def pr_F (L : lpLg) (rr : Nat → Nat) (N : Nat) : (Nat → Nat) × lpW := wks (fun f t => lp_mc (lp_ctL L (f * 11 + t)) (rr (f * 11 + t))) (lp_wcL L) N 0 (fun _ => 0) lp_W0
def pr_M (L : lpLg) (rr : Nat → Nat) (N : Nat) : lpLg := (N, (pr_F L rr N).1, (pr_F L rr N).2.2.1, (pr_F L rr N).2.2.2.1)
def pr_P (M : lpLg) (co : Nat → Nat) (G S : Nat) : Nat → Nat → Nat := svs M.2.1 M.2.2.2 (fun sl => co (M.2.2.1 sl)) M.1 S (M.2.1 M.1) (p0 M.2.1 M.2.2.2 G)
abbrev pr_ok (x y z : Int32) (Z : lpZ) : Prop := (ir1 x 60 ∧ ir y 100 ∧ ir1 z 8) ∧ 0 < Z.1.2.1 Z.1.1
def an_press (x y z : Int32) (Z : lpZ) : Int32 := if pr_ok x y z Z then nI ((pr_M Z.1 Z.2.1.1 (tn x)).2.1 (tn x)) else -1
def st_press (x y z : Int32) (Z : lpZ) : lpZ := if pr_ok x y z Z then (Z.1, Z.2.1, pr_M Z.1 Z.2.1.1 (tn x), pr_P (pr_M Z.1 Z.2.1.1 (tn x)) Z.2.1.2 (tn y) (tn z), (pr_F Z.1 Z.2.1.1 (tn x)).2.2.2.2.1) else Z
def sp_X6_press : lpS := fun as σ Q => match as with
  | [.inr (some (r, k)), .inl x, .inl y, .inl z] => r = 1 ∧ k = 0 ∧ ∃ Z, lpP σ Z ∧ ∀ τ, lpP τ (st_press x y z Z) → lpFL σ τ → Q (some (an_press x y z Z)) τ
  | _ => False
set_option maxHeartbeats 4000000 in
set_option maxRecDepth 100000 in
theorem ct_X6_press (l : Launch) (D : va_G) (cI cD : ClassId) : lp_Ct l D cI cD yX6_press cX6_press 5 (some .int) 6 sp_X6_press := by
  refine lp_method flX6 pfX6 kcX6 [(86, none, 3, sp_X6_isWithin), (99, some 4, 0, sp_X4_asks), (105, some 5, 3, sp_X5_dealWalks), (109, some 3, 3, sp_X3_run)] false kX6_press [37] rfl rfl (lp_rI rfl) flX6_ok pfX6_ok kcX6_ok kX6_press_ok ⟨_, _, rfl, rfl⟩ (lp_cs1 (lp_mkCall lkX6_86 (ct_X6_isWithin l D cI cD) (by omega)) (lp_cs1 (lp_mkCall lkX6_99 (ct_X4_asks l D cI cD) (by omega)) (lp_cs1 (lp_mkCall lkX6_105 (ct_X5_dealWalks l D cI cD) (by omega)) (lp_cs1 (lp_mkCall lkX6_109 (ct_X3_run l D cI cD) (by omega)) lp_cs0)))) ?_
  intro as σ Q hok hs
  rcases as with _ | ⟨_ | _ | ⟨r, k⟩, _ | ⟨x | _, _ | ⟨y | _, _ | ⟨z | _, _ | ⟨c, as⟩⟩⟩⟩⟩ <;> try exact (hs : False).elim
  obtain ⟨rfl, rfl, ⟨⟨n, s, pg, wt⟩, ⟨rr, co⟩, M, P, cm⟩, ⟨⟨hV, hM⟩, hC, hP⟩, hq⟩ := hs
  dsimp only at hV hM hC hP
  unfold st_press an_press at hq
  dsimp only at hq
  have hV0 := lp_Vis_V0 hV
  have hn := hV.2.1
  have hbd := lp_Vis_bd hV
  have hpg : ∀ j, j < s n → pg j < 10 := fun j hj => (hV.2.2.2.2.2 j hj).2.1
  refine ⟨by show 4 ≤ 5; omega, fun m pc L τ => pc = 37 ∧ m = 0 ∧ σ = τ ∧ ∃ b : Int32, (((ir1 x 60 ∧ ir y 100 ∧ ir1 z 8) ∧ b = 1) ∨ (¬ (ir1 x 60 ∧ ir y 100 ∧ ir1 z 8) ∧ b = 0)) ∧ L = [some (.inr (some (1, 0))), some (.inl x), some (.inl y), some (.inl z), some (.inl b)], ?_, ?_⟩
  · ((conv => whnf); (try dsimp only))
    refine lp_upto1 (n := 60) (by decide) ?_
    by_cases hx : ir1 x 60
    rotate_left
    · refine Or.inr ⟨fun v h1 hv e1 => hx (ir1_of e1 h1 hv (by omega)), ?_⟩
      ((conv => whnf); (try dsimp only))
      refine ⟨fun _ => ?_, fun q => absurd rfl q⟩
      ((conv => whnf); (try dsimp only))
      exact ⟨0, rfl, rfl, rfl, 0, Or.inr ⟨fun z => hx z.1, rfl⟩, rfl⟩
    refine Or.inl ⟨tn x, hx.2.1, hx.2.2, hx.1, ?_⟩
    ((conv => whnf); (try dsimp only))
    refine ⟨fun q => absurd q (by decide), fun _ => ?_⟩
    ((conv => whnf); (try dsimp only))
    refine lp_upto (n := 100) (by decide) ?_
    by_cases hy : ir y 100
    rotate_left
    · refine Or.inr ⟨fun v hv e1 => hy (ir_of e1 hv (by omega)), ?_⟩
      ((conv => whnf); (try dsimp only))
      refine ⟨fun _ => ?_, fun q => absurd rfl q⟩
      ((conv => whnf); (try dsimp only))
      exact ⟨0, rfl, rfl, rfl, 0, Or.inr ⟨fun z => hy z.2.1, rfl⟩, rfl⟩
    refine Or.inl ⟨tn y, hy.2, hy.1, ?_⟩
    ((conv => whnf); (try dsimp only))
    refine ⟨fun q => absurd q (by decide), fun _ => ?_⟩
    ((conv => whnf); (try dsimp only))
    refine lp_upto1 (n := 8) (by decide) ?_
    by_cases hz : ir1 z 8
    rotate_left
    · refine Or.inr ⟨fun v h1 hv e1 => hz (ir1_of e1 h1 hv (by omega)), ?_⟩
      ((conv => whnf); (try dsimp only))
      refine ⟨fun _ => ?_, fun q => absurd rfl q⟩
      ((conv => whnf); (try dsimp only))
      exact ⟨0, rfl, rfl, rfl, 0, Or.inr ⟨fun z => hz z.2.2, rfl⟩, rfl⟩
    refine Or.inl ⟨tn z, hz.2.1, hz.2.2, hz.1, ?_⟩
    ((conv => whnf); (try dsimp only))
    refine ⟨fun q => absurd q (by decide), fun _ => ?_⟩
    ((conv => whnf); (try dsimp only))
    exact ⟨0, rfl, rfl, rfl, 1, Or.inl ⟨⟨hx, hy, hz⟩, rfl⟩, rfl⟩
  · rintro m pc L τ ⟨rfl, rfl, rfl, b, hb, rfl⟩
    rcases hb with ⟨hin, rfl⟩ | ⟨hin, rfl⟩
    rotate_left
    · simp only [if_neg (show ¬ pr_ok x y z ((n, s, pg, wt), (rr, co), M, P, cm) from fun q => hin q.1)] at hq
      ((conv => whnf); (try dsimp only))
      refine ⟨fun _ => ?_, fun q => absurd rfl q⟩
      ((conv => whnf); (try dsimp only))
      exact hq σ ⟨⟨hV, hM⟩, hC, hP⟩ (FL_rf σ)
    ((conv => whnf); (try dsimp only))
    refine ⟨fun q => absurd q (by decide), fun _ => ?_⟩
    ((conv => whnf); (try dsimp only))
    refine ⟨rfl, n, s, pg, wt, hV, ?_⟩
    ((conv => whnf); (try dsimp only))
    refine ⟨fun q => ?_, fun q => ?_⟩ <;> ((conv => whnf); (try dsimp only))
    rotate_left
    · have hz : s n = 0 := lp_inj (by omega) (by omega) q
      simp only [if_neg (show ¬ pr_ok x y z ((n, s, pg, wt), (rr, co), M, P, cm) from fun q => by have := q.2; dsimp only at this; omega)] at hq
      exact hq σ ⟨⟨hV, hM⟩, hC, hP⟩ (FL_rf σ)
    have hz : 0 < s n := Nat.pos_of_ne_zero (fun z => q (by rw [z]; rfl))
    simp only [if_pos (show pr_ok x y z ((n, s, pg, wt), (rr, co), M, P, cm) from ⟨hin, hz⟩)] at hq
    obtain ⟨hx, hy, hz8⟩ := hin
    have hG : lpG (fun f t => lp_mc (lp_ctL (n, s, pg, wt) (f * 11 + t)) (rr (f * 11 + t))) (lp_wcL (n, s, pg, wt)) := lpG_log hV0 hpg (fun j hj => (hM.2.1 j hj).2) hz
    have h50 : σ 5 1 0 = nI 0 := by
      have h1 := hP.2.1.2.2.1 0 (Nat.zero_le _)
      rw [hP.2.1.2.2.2.1] at h1
      exact h1
    refine ⟨rfl, rfl, rfl, rfl, rfl, rfl, _, rr, _, tn x, hx.1, hx.2.2, hM, hP.1, h50, hG, fun τ hW hVw hF6 => ?_⟩
    replace hVw : lp_Vis τ 1 (tn x) (pr_M (n, s, pg, wt) rr (tn x)).2.1 (pr_M (n, s, pg, wt) rr (tn x)).2.2.1 (pr_M (n, s, pg, wt) rr (tn x)).2.2.2 := hVw
    replace hW : lp_Wk τ (fun f t => lp_mc (lp_ctL (n, s, pg, wt) (f * 11 + t)) (rr (f * 11 + t))) (lp_wcL (n, s, pg, wt)) (pr_F (n, s, pg, wt) rr (tn x)).2.2.2.2.1 (pr_F (n, s, pg, wt) rr (tn x)).2.2.2.2.2 := hW
    have e1 : (pr_M (n, s, pg, wt) rr (tn x)).1 = tn x := rfl
    generalize pr_M (n, s, pg, wt) rr (tn x) = M' at hVw hq e1
    generalize pr_F (n, s, pg, wt) rr (tn x) = F' at hW hq
    obtain ⟨N', s', pg', wt'⟩ := M'
    dsimp only at hVw hq e1
    subst e1
    ((conv => whnf); (try dsimp only))
    obtain ⟨S, hS⟩ : ∃ S, tn z = S + 1 := ⟨tn z - 1, by have := hz8.2.1; omega⟩
    have hC' : ∀ j, j < 10 → τ 15 0 j = nI (co j) ∧ 1 ≤ co j ∧ co j ≤ 50 := fun j hj => by
      rw [hF6.1 15 (by omega) (by omega) (by omega) (by omega) (by omega) (by omega)]
      exact hC j hj
    refine ⟨rfl, rfl, rfl, rfl, tn x, tn y, S, s', pg', wt', co, hVw, hy.1, by rw [← hS]; exact hz8.1, hy.2, by have := hz8.2.2; omega, hC', fun τ2 hSv hF8 => ?_⟩
    have hV2 := lp_F8_Vis hVw hF8
    ((conv => whnf); (try dsimp only))
    refine ⟨rfl, _, _, _, _, hV2, ?_⟩
    ((conv => whnf); (try dsimp only))
    have hV0' := lp_Vis_V0 hVw
    obtain ⟨hPF, hend⟩ := lp_PF_svs (S := S) (G := tn y) (cst := fun sl => co (pg' sl)) hV0' (by have := hz8.2.2; omega) hy.2 (fun sl hsl => (hC _ (hVw.2.2.2.2.2 sl hsl).2.1).2)
    rw [hS] at hq
    replace hq : ∀ τ : lpM, lpP τ ((n, s, pg, wt), (rr, co), (tn x, s', pg', wt'), svs s' wt' (fun sl => co (pg' sl)) (tn x) (S + 1) (s' (tn x)) (p0 s' wt' (tn y)), F'.2.2.2.2.1) → lpFL σ τ → Q (some (nI (s' (tn x)))) τ := hq
    generalize svs s' wt' (fun sl => co (pg' sl)) (tn x) (S + 1) (s' (tn x)) (p0 s' wt' (tn y)) = P' at hSv hPF hend hq
    have hr : ∀ r, ¬ (18 ≤ r ∧ r ≤ 25) → r ≠ 2 → r ≠ 3 → r ≠ 4 → r ≠ 5 → r ≠ 27 → r ≠ 28 → τ2 r = σ r := fun r h1 h2 h3 h4 h5 h6 h7 => by
      rw [hF8 r h1, hF6.1 r h2 h3 h4 h5 h6 h7]
    refine hq τ2 ⟨LPg_congr (σ := σ) ⟨hV, hM⟩ (fun r _ _ => ?_) (fun r _ _ => hr r (by omega) (by omega) (by omega) (by omega) (by omega) (by omega) (by omega)) (fun k hk => ?_), LPc_congr hC (hr 15 (by omega) (by omega) (by omega) (by omega) (by omega) (by omega) (by omega)), ⟨fun f hf => ?_, hV2, fun sl hsl => ?_, ?_, hPF.2.1, fun f hf t ht => ?_⟩⟩ (fun r _ => hr r (by omega) (by omega) (by omega) (by omega) (by omega) (by omega) (by omega))
    · rw [hF8 r (by omega)]
      exact hF6.2.1 r (by omega)
    · rw [hF8 27 (by omega)]
      exact hF6.2.2 k hk
    · rw [hr 17 (by omega) (by omega) (by omega) (by omega) (by omega) (by omega) (by omega)]
      exact hP.1 f hf
    · obtain ⟨v, h1, h2, h3⟩ := lp_find hV0' _ (Nat.le_refl _) hsl
      exact ⟨hSv.2.2.1 v sl h1 h2 (by rw [hend v h1]; exact h3), hPF.1 sl hsl⟩
    · exact ⟨hSv.2.2.2.2.1, hSv.2.2.2.2.2.1, hSv.2.2.2.2.2.2.1, hSv.2.2.2.2.2.2.2⟩
    · rw [hF8 28 (by omega)]
      exact (hW.2.1 f hf t ht).2
theorem nu_nu (f : Nat → Nat) (k a b : Nat) : nu (nu f k a) k b = nu f k b := by
  funext x
  unfold nu
  split <;> rfl
theorem lg_add_id (v a : Nat) (s pg wt : Nat → Nat) : lg_add (v + 1, nu s (v + 1) a, pg, wt) (pg a) (wt a) = (v + 1, nu s (v + 1) (a + 1), pg, wt) := by
  unfold lg_add
  dsimp only
  rw [nu_same, nu_nu, nu_id, nu_id]
def sp_X6_noteAsks : lpS := fun as σ Q => match as with
  | [.inr (some (r, k)), .inr (some (r2, k2)), .inl x] => r = 1 ∧ k = 0 ∧ r2 = 2 ∧ k2 = 1 ∧ ∃ (Y : lpLg × lpLg × ((Nat → Nat → Nat) × (Nat → Nat → Nat)) × ((Nat → Nat) × (Nat → Nat))) (v : Nat), x = nI v ∧ v < Y.2.1.1 ∧ lpP σ ((v + 1, nu Y.2.1.2.1 (v + 1) (Y.2.1.2.1 v), Y.2.1.2.2), Y.2.2.2, Y.2.1, Y.2.2.1) ∧
      ∀ τ, lpP τ ((v + 1, Y.2.1.2), Y.2.2.2, Y.2.1, Y.2.2.1) → lpFL σ τ → Q none τ
  | _ => False
set_option maxHeartbeats 4000000 in
set_option maxRecDepth 100000 in
theorem ct_X6_noteAsks (l : Launch) (D : va_G) (cI cD : ClassId) : lp_Ct l D cI cD yX6_noteAsks cX6_noteAsks 4 none 5 sp_X6_noteAsks := by
  refine lp_method flX6 pfX6 kcX6 [(65, some 6, 2, sp_X6_note), (171, some 4, 1, sp_X4_startOf), (174, some 4, 1, sp_X4_endOf), (177, some 4, 1, sp_X4_pageAt), (180, some 4, 1, sp_X4_waitAt)] false kX6_noteAsks [6] rfl rfl (lp_rV rfl) flX6_ok pfX6_ok kcX6_ok kX6_noteAsks_ok ⟨_, _, rfl, rfl⟩ (lp_cs1 (lp_mkCall lkX6_65 (ct_X6_note l D cI cD) (by omega)) (lp_cs1 (lp_mkCall lkX6_171 (ct_X4_startOf l D cI cD) (by omega)) (lp_cs1 (lp_mkCall lkX6_174 (ct_X4_endOf l D cI cD) (by omega)) (lp_cs1 (lp_mkCall lkX6_177 (ct_X4_pageAt l D cI cD) (by omega)) (lp_cs1 (lp_mkCall lkX6_180 (ct_X4_waitAt l D cI cD) (by omega)) lp_cs0))))) ?_
  intro as σ Q hok hs
  rcases as with _ | ⟨_ | _ | ⟨r, k⟩, _ | ⟨_ | _ | ⟨r2, k2⟩, _ | ⟨x | _, _ | ⟨c, as⟩⟩⟩⟩ <;> try exact (hs : False).elim
  obtain ⟨rfl, rfl, rfl, rfl, ⟨L0, ⟨N, s, pg, wt⟩, PC, RC⟩, v, rfl, hv, hL, hq⟩ := hs
  dsimp only at hL hq hv
  have hVσ := hL.2.2.2.1
  have hn := hVσ.2.1
  have hsv := hVσ.2.2.2.2.1 v hv
  have hb := lp_Vis_bd hVσ
  have hsn := lp_Vis_sn hVσ (show v + 1 ≤ N by exact hv)
  dsimp only at hn hsv hb hsn
  refine ⟨by show 3 ≤ 4; omega, fun m pc L τ => pc = 6 ∧ ∃ i, m + i = s (v + 1) - s v ∧ i ≤ s (v + 1) - s v ∧ lpP τ ((v + 1, nu s (v + 1) (s v + i), pg, wt), RC, (N, s, pg, wt), PC) ∧ lpFL σ τ ∧ L = [some (.inr (some (1, 0))), some (.inr (some (2, 1))), some (.inl (nI v)), some (.inl (nI (s v + i)))], ?_, ?_⟩
  · ((conv => whnf); (try dsimp only))
    refine ⟨rfl, _, _, _, _, hVσ, Or.inl ⟨v, hv, rfl, ?_⟩⟩
    ((conv => whnf); (try dsimp only))
    exact ⟨_, rfl, 0, rfl, Nat.zero_le _, hL, FL_rf σ, rfl⟩
  · rintro m pc L τ ⟨rfl, i, hm, hi, hLτ, hF, rfl⟩
    have hVτ := hLτ.2.2.2.1
    ((conv => whnf); (try dsimp only))
    refine ⟨rfl, _, _, _, _, hVτ, Or.inl ⟨v, hv, rfl, ?_⟩⟩
    ((conv => whnf); (try dsimp only))
    refine ⟨fun h => ?_, fun h => ?_⟩ <;> ((conv => whnf); (try dsimp only))
    · rw [nI_leI (by omega) (by omega)] at h
      have e1 : s v + i = s (v + 1) := by omega
      rw [e1, nu_id] at hLτ
      exact hq τ hLτ hF
    · rw [nI_leI (by omega) (by omega)] at h
      refine ⟨rfl, _, _, _, _, hVτ, Or.inl ⟨s v + i, by dsimp only; omega, rfl, ?_⟩⟩
      ((conv => whnf); (try dsimp only))
      refine ⟨rfl, _, _, _, _, hVτ, Or.inl ⟨s v + i, by dsimp only; omega, rfl, ?_⟩⟩
      ((conv => whnf); (try dsimp only))
      have hpw := hVτ.2.2.2.2.2 (s v + i) (by dsimp only; omega)
      dsimp only at hpw
      have hcan : lg_can (v + 1, nu s (v + 1) (s v + i), pg, wt) := by
        refine ⟨Nat.succ_pos v, ?_⟩
        show nu s (v + 1) (s v + i) (v + 1) - nu s (v + 1) (s v + i) (v + 1 - 1) < 20
        rw [nu_same, nu_ne (by omega), show v + 1 - 1 = v from rfl]
        omega
      refine ⟨rfl, rfl, _, pg (s v + i), wt (s v + i), rfl, rfl, by omega, hpw.2.2.2, hLτ, Or.inl ⟨hcan, fun τ' h1 h2 h3 => ?_⟩⟩
      ((conv => whnf); (try dsimp only))
      dsimp only at h1
      rw [lg_add_id] at h1
      exact ⟨s (v + 1) - s v - (i + 1), by omega, rfl, i + 1, by omega, by omega, h1, FL_tr hF h2, by rw [show s v + (i + 1) = s v + i + 1 by omega, nI_succ (s v + i)]; rfl⟩
def an_learn (Z : lpZ) : Int32 := if Z.2.2.1.1 = 0 then -1 else nI (Z.2.2.1.2.1 Z.2.2.1.1)
def st_learn (Z : lpZ) : lpZ := if Z.2.2.1.1 = 0 then Z else (Z.2.2.1, Z.2)
def sp_X6_learn : lpS := fun as σ Q => match as with
  | [.inr (some (r, k))] => r = 1 ∧ k = 0 ∧ ∃ Z, lpP σ Z ∧ ∀ τ, lpP τ (st_learn Z) → lpFL σ τ → Q (some (an_learn Z)) τ
  | _ => False
set_option maxHeartbeats 4000000 in
set_option maxRecDepth 100000 in
theorem ct_X6_learn (l : Launch) (D : va_G) (cI cD : ClassId) : lp_Ct l D cI cD yX6_learn cX6_learn 2 (some .int) 6 sp_X6_learn := by
  refine lp_method flX6 pfX6 kcX6 [(54, some 4, 0, sp_X4_open), (99, some 4, 0, sp_X4_asks), (146, some 6, 0, sp_X6_clear), (149, some 6, 2, sp_X6_noteAsks)] false kX6_learn [21] rfl rfl (lp_rI rfl) flX6_ok pfX6_ok kcX6_ok kX6_learn_ok ⟨_, _, rfl, rfl⟩ (lp_cs1 (lp_mkCall lkX6_54 (ct_X4_open l D cI cD) (by omega)) (lp_cs1 (lp_mkCall lkX6_99 (ct_X4_asks l D cI cD) (by omega)) (lp_cs1 (lp_mkCall lkX6_146 (ct_X6_clear l D cI cD) (by omega)) (lp_cs1 (lp_mkCall lkX6_149 (ct_X6_noteAsks l D cI cD) (by omega)) lp_cs0)))) ?_
  intro as σ Q hok hs
  rcases as with _ | ⟨_ | _ | ⟨r, k⟩, _ | ⟨c, as⟩⟩ <;> try exact (hs : False).elim
  obtain ⟨rfl, rfl, ⟨L, RC, ⟨N, s, pg, wt⟩, PC⟩, hL, hq⟩ := hs
  have hVσ := hL.2.2.2.1
  have hn := hVσ.2.1
  unfold st_learn an_learn at hq
  dsimp only at hq hn
  refine ⟨by show 1 ≤ 2; omega, fun m pc L τ => pc = 21 ∧ 0 < N ∧ ∃ v, m + v = N ∧ v ≤ N ∧ lpP τ ((v, s, pg, wt), RC, (N, s, pg, wt), PC) ∧ lpFL σ τ ∧ L = [some (.inr (some (1, 0))), some (.inl (nI v))], ?_, ?_⟩
  · ((conv => whnf); (try dsimp only))
    rw [hVσ.1]
    refine ⟨fun q => ?_, fun q => ?_⟩ <;> ((conv => whnf); (try dsimp only))
    · have hz : 0 < N := Nat.pos_of_ne_zero (fun z => q (by dsimp only; rw [z]; rfl))
      refine ⟨rfl, rfl, _, hL, fun τ h1 h2 h3 => ?_⟩
      ((conv => whnf); (try dsimp only))
      refine ⟨N, rfl, hz, 0, rfl, Nat.zero_le _, ⟨⟨?_, ?_⟩, h1.2⟩, h2, rfl⟩
      · obtain ⟨a, b, c, d, e1, f⟩ := h1.1.1
        refine ⟨a, b, fun v hv => ?_, hVσ.2.2.2.1, fun v hv => absurd hv (Nat.not_lt_zero _), fun j hj => absurd hj (by show ¬ j < s 0; have : s 0 = 0 := hVσ.2.2.2.1; omega)⟩
        have hv : v ≤ 0 := hv
        obtain rfl : v = 0 := by omega
        rw [c 0 (Nat.le_refl _), d]
        show nI 0 = nI (s 0)
        rw [show s 0 = 0 from hVσ.2.2.2.1]
      · exact lp_Mach_eq h1.1.2 (fun j _ => rfl) (fun j _ w _ => rfl)
    · have hz : N = 0 := lp_inj (by omega) (by omega) q
      simp only [if_pos hz] at hq
      exact hq σ hL (FL_rf σ)
  · rintro m pc L' τ ⟨rfl, hN0, v, hm, hv, hLτ, hF, rfl⟩
    have hVτ := hLτ.2.2.2.1
    ((conv => whnf); (try dsimp only))
    rw [hVτ.1]
    refine ⟨fun h => ?_, fun h => ?_⟩ <;> ((conv => whnf); (try dsimp only))
    · rw [nI_leI (by dsimp only; omega) (by omega)] at h
      obtain rfl : v = N := by dsimp only at h; omega
      refine ⟨rfl, _, _, _, _, hLτ.1.1, ?_⟩
      ((conv => whnf); (try dsimp only))
      simp only [if_neg (show ¬ v = 0 by omega)] at hq
      exact hq τ hLτ hF
    · rw [nI_leI (by dsimp only; omega) (by omega)] at h
      dsimp only at h
      have ho := LP_open hLτ (show v < 60 by omega)
      refine ⟨rfl, _, _, _, _, hLτ.1.1, Or.inl ⟨by show v < 60; omega, ?_⟩⟩
      ((conv => whnf); (try dsimp only))
      refine ⟨rfl, rfl, rfl, rfl, ((v, s, pg, wt), (N, s, pg, wt), PC, RC), v, rfl, by show v < N; omega, ho.1, fun τ' h1 h2 => ?_⟩
      ((conv => whnf); (try dsimp only))
      exact ⟨N - (v + 1), by omega, rfl, hN0, v + 1, by omega, by omega, h1, FL_tr (FL_tr hF ho.2) h2, by rw [nI_succ v]; rfl⟩
end
section
/-! ===== the model (30, 0): its state as numbers; small methods ===== -/
def MDg (σ : lpM) (L : lpLg) : Prop := σ 30 0 0 = nI L.1 ∧ (∀ v, v < L.1 → σ 31 0 v = nI (L.2.1 (v + 1) - L.2.1 v)) ∧ (∀ v i, v < L.1 → i < L.2.1 (v + 1) - L.2.1 v → σ 32 0 (20 * v + i) = nI (L.2.2.1 (L.2.1 v + i)) ∧ σ 33 0 (20 * v + i) = nI (L.2.2.2 (L.2.1 v + i))) ∧ lpV0 L.1 L.2.1 L.2.2.2 ∧ (∀ j, j < L.2.1 L.1 → L.2.2.1 j < 10)
def MDr (σ : lpM) (rr co : Nat → Nat) : Prop := (∀ j, j < 121 → σ 34 0 j = nI (rr j) ∧ rr j ≤ 100) ∧ (∀ j, j < 10 → σ 35 0 j = nI (co j) ∧ 1 ≤ co j ∧ co j ≤ 50)
def MDp (σ : lpM) (M : lpLg) (P cm : Nat → Nat → Nat) : Prop := (σ 30 0 9 = nI M.1 ∧ σ 30 0 10 = nI (M.2.1 M.1) ∧ σ 30 0 11 = nI (P 7 0) ∧ σ 30 0 12 = nI (P 7 1)) ∧ (∀ v, v < M.1 → σ 38 0 v = nI (M.2.1 (v + 1) - M.2.1 v)) ∧
  (∀ v i, v < M.1 → i < M.2.1 (v + 1) - M.2.1 v → σ 39 0 (20 * v + i) = nI (M.2.2.1 (M.2.1 v + i)) ∧ σ 40 0 (20 * v + i) = nI (M.2.2.2 (M.2.1 v + i)) ∧ σ 41 0 (20 * v + i) = nI (P 3 (M.2.1 v + i)) ∧ σ 42 0 (20 * v + i) = nI (P 4 (M.2.1 v + i)) ∧ σ 43 0 (20 * v + i) = nI (P 5 (M.2.1 v + i)) ∧ σ 44 0 (20 * v + i) = nI (P 6 (M.2.1 v + i))) ∧
  lpV0 M.1 M.2.1 M.2.2.2 ∧ (∀ j, j < M.2.1 M.1 → M.2.2.1 j < 10) ∧ lp_PF M.1 M.2.1 P ∧ (∀ f, f < 11 → ∀ t, t < 11 → σ 45 0 (11 * f + t) = nI (cm f t)) ∧ (M.1 = 0 → ∀ f t, f < 11 → t < 11 → cm f t = 0)
def lpD (σ : lpM) (Z : lpZ) : Prop := MDg σ Z.1 ∧ MDr σ Z.2.1.1 Z.2.1.2 ∧ MDp σ Z.2.2.1 Z.2.2.2.1 Z.2.2.2.2
def lpFM (σ τ : lpM) : Prop := ∀ r, r < 30 → τ r = σ r
theorem lpFM_rf (σ : lpM) : lpFM σ σ := fun _ _ => rfl
theorem lpFM_tr {σ τ υ : lpM} (h1 : lpFM σ τ) (h2 : lpFM τ υ) : lpFM σ υ := fun r hr => by rw [h2 r hr, h1 r hr]
theorem lpFM_w3 {σ τ : lpM} {r k j : Nat} {x : Int32} (h : lpFM σ τ) (hr : 30 ≤ r) : lpFM σ (lp_w3 τ r k j x) := fun r' h' => by
  rw [lp_w3_r (by omega)]
  exact h r' h'
theorem MDg_congr {σ τ : lpM} {L : lpLg} (h : MDg σ L) (h0 : τ 30 0 0 = σ 30 0 0) (hr : ∀ r, 31 ≤ r → r ≤ 33 → τ r = σ r) : MDg τ L := by
  unfold MDg
  rw [h0, hr 31 (by omega) (by omega), hr 32 (by omega) (by omega), hr 33 (by omega) (by omega)]
  exact h
theorem MDr_congr {σ τ : lpM} {rr co : Nat → Nat} (h : MDr σ rr co) (h4 : τ 34 = σ 34) (h5 : τ 35 = σ 35) : MDr τ rr co := by
  unfold MDr
  rw [h4, h5]
  exact h
theorem MDp_congr {σ τ : lpM} {M : lpLg} {P cm : Nat → Nat → Nat} (h : MDp σ M P cm) (h0 : ∀ j, 9 ≤ j → j ≤ 12 → τ 30 0 j = σ 30 0 j) (hr : ∀ r, 38 ≤ r → r ≤ 45 → τ r = σ r) : MDp τ M P cm := by
  unfold MDp
  rw [h0 9 (by omega) (by omega), h0 10 (by omega) (by omega), h0 11 (by omega) (by omega), h0 12 (by omega) (by omega), hr 38 (by omega) (by omega), hr 39 (by omega) (by omega), hr 40 (by omega) (by omega), hr 41 (by omega) (by omega), hr 42 (by omega) (by omega), hr 43 (by omega) (by omega), hr 44 (by omega) (by omega), hr 45 (by omega) (by omega)]
  exact h
theorem lpD_high {σ τ : lpM} {Z : lpZ} (h : lpD σ Z) (hr : ∀ r, 30 ≤ r → τ r = σ r) : lpD τ Z :=
  ⟨MDg_congr h.1 (by rw [hr 30 (by omega)]) (fun r _ _ => hr r (by omega)), MDr_congr h.2.1 (hr 34 (by omega)) (hr 35 (by omega)), MDp_congr h.2.2 (fun j _ _ => by rw [hr 30 (by omega)]) (fun r _ _ => hr r (by omega))⟩
theorem lp_ix {a v i : Nat} : nI a * nI v + nI i = nI (a * v + i) := by rw [pk_mul, nI_add]
theorem lpV0_open {n : Nat} {s wt : Nat → Nat} (h : lpV0 n s wt) (hn : n < 60) : lpV0 (n + 1) (nu s (n + 1) (s n)) wt := by
  obtain ⟨a, b, c, d⟩ := h
  refine ⟨by omega, by rw [nu_ne (by omega)]; exact b, fun v hv => ?_, fun j hj => d j (by rw [nu_same] at hj; exact hj)⟩
  by_cases e1 : v = n
  · subst e1
    rw [nu_same, nu_ne (by omega)]
    omega
  · rw [nu_ne (by omega), nu_ne (by omega)]
    exact c v (by omega)
theorem lpV0_add {v w : Nat} {s wt : Nat → Nat} (h : lpV0 (v + 1) s wt) (hl : s (v + 1) - s v < 20) (hw : w ≤ 60) : lpV0 (v + 1) (nu s (v + 1) (s (v + 1) + 1)) (nu wt (s (v + 1)) w) := by
  obtain ⟨a, b, c, d⟩ := h
  refine ⟨a, by rw [nu_ne (by omega)]; exact b, fun x hx => ?_, fun j hj => ?_⟩
  · have := c x hx
    by_cases e1 : x = v
    · subst e1
      rw [nu_same, nu_ne (by omega)]
      omega
    · rw [nu_ne (by omega), nu_ne (by omega)]
      exact this
  · rw [nu_same] at hj
    by_cases e1 : j = s (v + 1)
    · subst e1; rw [nu_same]; exact hw
    · rw [nu_ne e1]; exact d j (by omega)
def sp_X7_in : lpS := sp_X6_isWithin
set_option maxHeartbeats 4000000 in
set_option maxRecDepth 100000 in
theorem ct_X7_in (l : Launch) (D : va_G) (cI cD : ClassId) : lp_Ct l D cI cD yX7_in cX7_in 3 (some .boolean) 0 sp_X7_in := by
  refine lp_method0 flX7 pfX7 kcX7 [] true kX7_in rfl rfl (lp_rB rfl) flX7_ok pfX7_ok kcX7_ok kX7_in_ok ⟨_, _, rfl, rfl⟩ lp_cs0 ?_
  intro as σ Q hs
  rcases as with _ | ⟨a | a, _ | ⟨b | b, _ | ⟨c | c, _ | ⟨d, as⟩⟩⟩⟩ <;> try exact (hs : False).elim
  refine ⟨Nat.le_refl 3, ?_⟩
  conv => whnf
  refine ⟨fun q1 => ?_, fun q1 => ?_⟩ <;> conv => whnf
  · refine ⟨Or.inl rfl, ?_⟩
    rcases hs with ⟨p1, p2, hq⟩ | ⟨p1, hq⟩
    · exact absurd q1 (Int32.not_lt.mpr p1)
    · exact hq
  · refine ⟨fun q2 => ?_, fun q2 => ?_⟩ <;> conv => whnf
    · refine ⟨Or.inl rfl, ?_⟩
      rcases hs with ⟨p1, p2, hq⟩ | ⟨p1, hq⟩
      · exact absurd q2 (Int32.not_lt.mpr p2)
      · exact hq
    · refine ⟨Or.inr rfl, ?_⟩
      rcases hs with ⟨p1, p2, hq⟩ | ⟨p1, hq⟩
      · exact hq
      · exact absurd ⟨Int32.not_lt.mp q1, Int32.not_lt.mp q2⟩ p1
def sp_X7_arePlaces : lpS := fun as σ Q => match as with
  | [.inl x, .inl y] => ((ir x 10 ∧ ir y 10) ∧ Q (some 1) σ) ∨ (¬ (ir x 10 ∧ ir y 10) ∧ Q (some 0) σ)
  | _ => False
set_option maxHeartbeats 4000000 in
set_option maxRecDepth 100000 in
theorem ct_X7_arePlaces (l : Launch) (D : va_G) (cI cD : ClassId) : lp_Ct l D cI cD yX7_arePlaces cX7_arePlaces 2 (some .boolean) 1 sp_X7_arePlaces := by
  refine lp_method0 flX7 pfX7 kcX7 [(74, none, 3, sp_X7_in)] true kX7_arePlaces rfl rfl (lp_rB rfl) flX7_ok pfX7_ok kcX7_ok kX7_arePlaces_ok ⟨_, _, rfl, rfl⟩ (lp_cs1 (lp_mkCall lkX7_74 (ct_X7_in l D cI cD) (by omega)) lp_cs0) ?_
  intro as σ Q hs
  rcases as with _ | ⟨x | _, _ | ⟨y | _, _ | ⟨c, as⟩⟩⟩ <;> try exact (hs : False).elim
  refine ⟨Nat.le_refl 2, ?_⟩
  ((conv => whnf); (try dsimp only))
  refine lp_upto (n := 10) (by decide) ?_
  by_cases hx : ir x 10
  rotate_left
  · refine Or.inr ⟨fun v hv e1 => hx (ir_of e1 hv (by omega)), ?_⟩
    ((conv => whnf); (try dsimp only))
    refine ⟨fun _ => ?_, fun q => absurd rfl q⟩
    ((conv => whnf); (try dsimp only))
    refine ⟨Or.inl rfl, ?_⟩
    rcases hs with ⟨h, hq⟩ | ⟨h, hq⟩
    · exact absurd h.1 hx
    · exact hq
  refine Or.inl ⟨tn x, hx.2, hx.1, ?_⟩
  ((conv => whnf); (try dsimp only))
  refine ⟨fun q => absurd q (by decide), fun _ => ?_⟩
  ((conv => whnf); (try dsimp only))
  refine lp_upto (n := 10) (by decide) ?_
  by_cases hy : ir y 10
  rotate_left
  · refine Or.inr ⟨fun v hv e1 => hy (ir_of e1 hv (by omega)), ?_⟩
    ((conv => whnf); (try dsimp only))
    refine ⟨fun _ => ?_, fun q => absurd rfl q⟩
    ((conv => whnf); (try dsimp only))
    refine ⟨Or.inl rfl, ?_⟩
    rcases hs with ⟨h, hq⟩ | ⟨h, hq⟩
    · exact absurd h.2 hy
    · exact hq
  refine Or.inl ⟨tn y, hy.2, hy.1, ?_⟩
  ((conv => whnf); (try dsimp only))
  refine ⟨fun q => absurd q (by decide), fun _ => ?_⟩
  ((conv => whnf); (try dsimp only))
  refine ⟨Or.inr rfl, ?_⟩
  rcases hs with ⟨h, hq⟩ | ⟨h, hq⟩
  · exact hq
  · exact absurd ⟨hx, hy⟩ h
def sp_X7_next : lpS := fun as σ Q => match as with
  | [.inr (some (r, k)), .inl x, .inl y] => r = 30 ∧ k = 0 ∧ ∃ (L : lpLg) (v i : Nat), MDg σ L ∧ x = nI v ∧ y = nI i ∧ v < L.1 ∧ i < 1000 ∧ Q (some (nI (ltt L.2.1 L.2.2.1 v i))) σ
  | _ => False
set_option maxHeartbeats 4000000 in
set_option maxRecDepth 100000 in
theorem ct_X7_next (l : Launch) (D : va_G) (cI cD : ClassId) : lp_Ct l D cI cD yX7_next cX7_next 3 (some .int) 0 sp_X7_next := by
  refine lp_method0 flX7 pfX7 kcX7 [] false kX7_next rfl rfl (lp_rI rfl) flX7_ok pfX7_ok kcX7_ok kX7_next_ok ⟨_, _, rfl, rfl⟩ lp_cs0 ?_
  intro as σ Q hs
  rcases as with _ | ⟨_ | _ | ⟨r, k⟩, _ | ⟨x | _, _ | ⟨y | _, _ | ⟨c, as⟩⟩⟩⟩ <;> try exact (hs : False).elim
  obtain ⟨rfl, rfl, ⟨n, s, pg, wt⟩, v, i, ⟨g0, g1, g2, hV, hpg⟩, rfl, rfl, hv, hi, hq⟩ := hs
  dsimp only at g0 g1 g2 hV hpg hv hq
  have hn := hV.1
  have hsv := hV.2.2.1 v hv
  unfold ltt at hq
  refine ⟨Nat.le_refl 3, ?_⟩
  ((conv => whnf); (try dsimp only))
  refine ⟨lp_vin (by omega) (by omega), ?_⟩
  rw [lp_clm (by omega), g1 v hv]
  ((conv => whnf); (try dsimp only))
  refine ⟨fun q => ?_, fun q => ?_⟩ <;> ((conv => whnf); (try dsimp only))
  · rw [nI_leI (by omega) (by omega)] at q
    rw [if_neg (by omega)] at hq
    exact hq
  · rw [nI_leI (by omega) (by omega)] at q
    rw [if_pos (by omega)] at hq
    rw [show (Int8.ofInt 20).toInt32 * nI v + nI i = nI (20 * v + i) from lp_ix]
    refine ⟨lp_vin (by omega) (by omega), ?_⟩
    rw [lp_clm (by omega), (g2 v i hv (by omega)).1]
    ((conv => whnf); (try dsimp only))
    exact hq
def sp_X7_visit : lpS := fun as σ Q => match as with
  | [.inr (some (r, k))] => r = 30 ∧ k = 0 ∧ ∃ Z, lpD σ Z ∧ ∀ τ, lpD τ (st_visit Z) → lpFM σ τ → Q (some (an_visit Z)) τ
  | _ => False
set_option maxHeartbeats 4000000 in
set_option maxRecDepth 100000 in
theorem ct_X7_visit (l : Launch) (D : va_G) (cI cD : ClassId) : lp_Ct l D cI cD yX7_visit cX7_visit 1 (some .int) 0 sp_X7_visit := by
  refine lp_method0 flX7 pfX7 kcX7 [] false kX7_visit rfl rfl (lp_rI rfl) flX7_ok pfX7_ok kcX7_ok kX7_visit_ok ⟨_, _, rfl, rfl⟩ lp_cs0 ?_
  intro as σ Q hs
  rcases as with _ | ⟨_ | _ | ⟨r, k⟩, _ | ⟨c, as⟩⟩ <;> try exact (hs : False).elim
  obtain ⟨rfl, rfl, ⟨⟨n, s, pg, wt⟩, RC, M, P, cm⟩, hD, hq⟩ := hs
  obtain ⟨⟨g0, g1, g2, hV, hpg⟩, hR, hP⟩ := id hD
  dsimp only at g0 g1 g2 hV hpg hR hP
  unfold st_visit an_visit at hq
  dsimp only at hq
  have hn := hV.1
  refine ⟨Nat.le_refl 1, ?_⟩
  ((conv => whnf); (try dsimp only))
  rw [g0]
  have e60 : (nI n = (Int8.ofInt 60).toInt32) ↔ n = 60 := nI_eq (a := n) (b := 60) (by omega) (by omega)
  refine ⟨fun q => ?_, fun q => ?_⟩ <;> ((conv => whnf); (try dsimp only))
  · have h : n < 60 := by have : ¬ n = 60 := fun z => q (e60.mpr z); omega
    simp only [if_pos h] at hq
    rw [g0]
    refine ⟨lp_vin (by omega) (by omega), ?_⟩
    rw [lp_clm (by omega)]
    ((conv => whnf); (try dsimp only))
    have e0 : lp_w3 σ 31 0 n (Int32.ofInt 0) 30 0 0 = nI n := by rw [lp_w3_r (by omega)]; exact g0
    rw [e0, show nI n + Int32.ofInt 1 = nI (n + 1) from (nI_succ n).symm]
    have e1 : lp_w3 (lp_w3 σ 31 0 n (Int32.ofInt 0)) 30 0 0 (nI (n + 1)) 30 0 0 = nI (n + 1) := by rw [lp_rd]; exact if_pos ⟨rfl, rfl, rfl⟩
    rw [e1, show nI (n + 1) - Int32.ofInt 1 = nI n from nI_pred n]
    refine hq _ ⟨⟨e1, fun v hv => ?_, fun v i hv hi => ?_, lpV0_open hV h, fun j hj => ?_⟩, MDr_congr hR ?_ ?_, MDp_congr hP (fun j _ _ => ?_) (fun r _ _ => ?_)⟩ (lpFM_w3 (lpFM_w3 (lpFM_rf σ) (by omega)) (by omega))
    · have hv : v < n + 1 := hv
      show _ = nI (nu s (n + 1) (s n) (v + 1) - nu s (n + 1) (s n) v)
      rw [lp_w3_r (by omega), lp_rd]
      by_cases e2 : v = n
      · subst e2
        rw [if_pos ⟨rfl, rfl, rfl⟩, nu_same, nu_ne (by omega), Nat.sub_self]
        rfl
      · rw [if_neg (fun z => e2 z.2.2), nu_ne (by omega), nu_ne (by omega)]
        exact g1 v (by omega)
    · have hv : v < n + 1 := hv
      replace hi : i < nu s (n + 1) (s n) (v + 1) - nu s (n + 1) (s n) v := hi
      show _ = nI (pg (nu s (n + 1) (s n) v + i)) ∧ _ = nI (wt (nu s (n + 1) (s n) v + i))
      rw [lp_w3_r (by omega), lp_w3_r (by omega), lp_w3_r (by omega), lp_w3_r (by omega), nu_ne (show v ≠ n + 1 by omega)]
      by_cases e2 : v = n
      · subst e2
        rw [nu_same, nu_ne (by omega)] at hi
        omega
      · rw [nu_ne (by omega), nu_ne (by omega)] at hi
        exact g2 v i (by omega) hi
    · replace hj : j < nu s (n + 1) (s n) (n + 1) := hj
      rw [nu_same] at hj
      exact hpg j hj
    · rw [lp_w3_r (by omega), lp_w3_r (by omega)]
    · rw [lp_w3_r (by omega), lp_w3_r (by omega)]
    · rw [lp_rd, if_neg (by omega), lp_w3_r (by omega)]
    · rw [lp_w3_r (by omega), lp_w3_r (by omega)]
  · have h : n = 60 := e60.mp q
    simp only [if_neg (show ¬ n < 60 by omega)] at hq
    exact hq σ hD (lpFM_rf σ)
def sp_X7_clear : lpS := fun as σ Q => match as with
  | [.inr (some (r, k))] => r = 30 ∧ k = 0 ∧ ∃ Z, lpD σ Z ∧ ∀ τ, lpD τ (st_clear Z) → lpFM σ τ → Q none τ
  | _ => False
set_option maxHeartbeats 4000000 in
set_option maxRecDepth 100000 in
theorem ct_X7_clear (l : Launch) (D : va_G) (cI cD : ClassId) : lp_Ct l D cI cD yX7_clear cX7_clear 1 none 0 sp_X7_clear := by
  refine lp_method0 flX7 pfX7 kcX7 [] false kX7_clear rfl rfl (lp_rV rfl) flX7_ok pfX7_ok kcX7_ok kX7_clear_ok ⟨_, _, rfl, rfl⟩ lp_cs0 ?_
  intro as σ Q hs
  rcases as with _ | ⟨_ | _ | ⟨r, k⟩, _ | ⟨c, as⟩⟩ <;> try exact (hs : False).elim
  obtain ⟨rfl, rfl, ⟨⟨n, s, pg, wt⟩, RC, M, P, cm⟩, ⟨⟨g0, g1, g2, hV, hpg⟩, hR, hP⟩, hq⟩ := hs
  dsimp only at g0 g1 g2 hV hpg hR hP
  refine ⟨Nat.le_refl 1, ?_⟩
  ((conv => whnf); (try dsimp only))
  refine hq _ ⟨⟨by rw [lp_rd]; exact if_pos ⟨rfl, rfl, rfl⟩, fun v hv => absurd hv (Nat.not_lt_zero _), fun v i hv => absurd hv (Nat.not_lt_zero _), ⟨by show 0 ≤ 60; omega, hV.2.1, fun v hv => absurd hv (Nat.not_lt_zero _), fun j hj => absurd hj (by show ¬ j < s 0; rw [hV.2.1]; omega)⟩, fun j hj => absurd hj (by show ¬ j < s 0; rw [hV.2.1]; omega)⟩, MDr_congr hR ?_ ?_, MDp_congr hP (fun j _ _ => ?_) (fun r _ _ => ?_)⟩ (lpFM_w3 (lpFM_rf σ) (by omega))
  · rw [lp_w3_r (by omega)]
  · rw [lp_w3_r (by omega)]
  · rw [lp_rd, if_neg (by omega)]
  · rw [lp_w3_r (by omega)]
def sp_X7_rare : lpS := fun as σ Q => match as with
  | [.inr (some (r, k)), .inl x, .inl y, .inl z] => r = 30 ∧ k = 0 ∧ ∃ Z, lpD σ Z ∧ ∀ τ, lpD τ (st_rare x y z Z) → lpFM σ τ → Q (some (an_rare x y z)) τ
  | _ => False
set_option maxHeartbeats 4000000 in
set_option maxRecDepth 100000 in
theorem ct_X7_rare (l : Launch) (D : va_G) (cI cD : ClassId) : lp_Ct l D cI cD yX7_rare cX7_rare 4 (some .boolean) 2 sp_X7_rare := by
  refine lp_method0 flX7 pfX7 kcX7 [(74, none, 3, sp_X7_in), (90, none, 2, sp_X7_arePlaces)] true kX7_rare rfl rfl (lp_rB rfl) flX7_ok pfX7_ok kcX7_ok kX7_rare_ok ⟨_, _, rfl, rfl⟩ (lp_cs1 (lp_mkCall lkX7_74 (ct_X7_in l D cI cD) (by omega)) (lp_cs1 (lp_mkCall lkX7_90 (ct_X7_arePlaces l D cI cD) (by omega)) lp_cs0)) ?_
  intro as σ Q hs
  rcases as with _ | ⟨_ | _ | ⟨r, k⟩, _ | ⟨x | _, _ | ⟨y | _, _ | ⟨z | _, _ | ⟨c, as⟩⟩⟩⟩⟩ <;> try exact (hs : False).elim
  obtain ⟨rfl, rfl, Z, hD, hq⟩ := hs
  unfold an_rare st_rare at hq
  refine ⟨Nat.le_refl 4, ?_⟩
  ((conv => whnf); (try dsimp only))
  by_cases hxy : ir x 10 ∧ ir y 10
  rotate_left
  · simp only [if_neg (show ¬ (ir x 10 ∧ ir y 10 ∧ ir z 100) from fun q => hxy ⟨q.1, q.2.1⟩)] at hq
    refine Or.inr ⟨hxy, ?_⟩
    ((conv => whnf); (try dsimp only))
    refine ⟨fun _ => ?_, fun q => absurd rfl q⟩
    ((conv => whnf); (try dsimp only))
    exact ⟨Or.inl rfl, hq σ hD (lpFM_rf σ)⟩
  refine Or.inl ⟨hxy, ?_⟩
  ((conv => whnf); (try dsimp only))
  refine ⟨fun q => absurd q (by decide), fun _ => ?_⟩
  ((conv => whnf); (try dsimp only))
  refine lp_upto (n := 100) (by decide) ?_
  by_cases hz : ir z 100
  rotate_left
  · simp only [if_neg (show ¬ (ir x 10 ∧ ir y 10 ∧ ir z 100) from fun q => hz q.2.2)] at hq
    refine Or.inr ⟨fun v hv e1 => hz (ir_of e1 hv (by omega)), ?_⟩
    ((conv => whnf); (try dsimp only))
    refine ⟨fun q => absurd rfl q, fun _ => ?_⟩
    ((conv => whnf); (try dsimp only))
    exact ⟨Or.inl rfl, hq σ hD (lpFM_rf σ)⟩
  refine Or.inl ⟨tn z, hz.2, hz.1, ?_⟩
  simp only [if_pos (show (ir x 10 ∧ ir y 10 ∧ ir z 100) from ⟨hxy.1, hxy.2, hz⟩)] at hq
  ((conv => whnf); (try dsimp only))
  refine ⟨fun _ => ?_, fun q => absurd q (by decide)⟩
  ((conv => whnf); (try dsimp only))
  have h1 := hxy.1.2
  have h2 := hxy.2.2
  have e1 : (Int8.ofInt 11).toInt32 * x + y = nI (tn x * 11 + tn y) := by
    have a := hxy.1.1
    have b := hxy.2.1
    generalize tn x = a' at a ⊢
    generalize tn y = b' at b ⊢
    subst a
    subst b
    rw [Nat.mul_comm a' 11]
    exact lp_ix
  rw [e1]
  refine ⟨lp_vin (by omega) (by omega), ?_⟩
  rw [lp_clm (by omega)]
  ((conv => whnf); (try dsimp only))
  refine ⟨Or.inr rfl, hq _ ⟨MDg_congr hD.1 ?_ (fun r _ _ => ?_), ⟨fun j hj => ?_, fun j hj => ?_⟩, MDp_congr hD.2.2 (fun j _ _ => ?_) (fun r _ _ => ?_)⟩ (lpFM_w3 (lpFM_rf σ) (by omega))⟩
  · rw [lp_w3_r (by omega)]
  · rw [lp_w3_r (by omega)]
  · dsimp only
    rw [lp_rd]
    by_cases e2 : j = tn x * 11 + tn y
    · rw [if_pos ⟨rfl, rfl, e2⟩, e2, nu_same]
      exact ⟨hz.1, hz.2⟩
    · rw [if_neg (fun q => e2 q.2.2), nu_ne e2]
      exact hD.2.1.1 j hj
  · rw [lp_w3_r (by omega)]; exact hD.2.1.2 j hj
  · rw [lp_w3_r (by omega)]
  · rw [lp_w3_r (by omega)]
def sp_X7_cost : lpS := fun as σ Q => match as with
  | [.inr (some (r, k)), .inl x, .inl y] => r = 30 ∧ k = 0 ∧ ∃ Z, lpD σ Z ∧ ∀ τ, lpD τ (st_cost x y Z) → lpFM σ τ → Q (some (an_cost x y)) τ
  | _ => False
set_option maxHeartbeats 4000000 in
set_option maxRecDepth 100000 in
theorem ct_X7_cost (l : Launch) (D : va_G) (cI cD : ClassId) : lp_Ct l D cI cD yX7_cost cX7_cost 3 (some .boolean) 1 sp_X7_cost := by
  refine lp_method0 flX7 pfX7 kcX7 [(74, none, 3, sp_X7_in)] true kX7_cost rfl rfl (lp_rB rfl) flX7_ok pfX7_ok kcX7_ok kX7_cost_ok ⟨_, _, rfl, rfl⟩ (lp_cs1 (lp_mkCall lkX7_74 (ct_X7_in l D cI cD) (by omega)) lp_cs0) ?_
  intro as σ Q hs
  rcases as with _ | ⟨_ | _ | ⟨r, k⟩, _ | ⟨x | _, _ | ⟨y | _, _ | ⟨c, as⟩⟩⟩⟩ <;> try exact (hs : False).elim
  obtain ⟨rfl, rfl, Z, hD, hq⟩ := hs
  unfold an_cost st_cost at hq
  refine ⟨Nat.le_refl 3, ?_⟩
  ((conv => whnf); (try dsimp only))
  refine lp_upto (n := 9) (by decide) ?_
  by_cases hx : ir x 9
  rotate_left
  · simp only [if_neg (show ¬ (ir x 9 ∧ ir1 y 50) from fun z => hx z.1)] at hq
    refine Or.inr ⟨fun v hv e1 => hx (ir_of e1 hv (by omega)), ?_⟩
    ((conv => whnf); (try dsimp only))
    refine ⟨fun _ => ?_, fun q => absurd rfl q⟩
    ((conv => whnf); (try dsimp only))
    exact ⟨Or.inl rfl, hq σ hD (lpFM_rf σ)⟩
  refine Or.inl ⟨tn x, hx.2, hx.1, ?_⟩
  ((conv => whnf); (try dsimp only))
  refine ⟨fun q => absurd q (by decide), fun _ => ?_⟩
  ((conv => whnf); (try dsimp only))
  refine lp_upto1 (n := 50) (by decide) ?_
  by_cases hy : ir1 y 50
  rotate_left
  · simp only [if_neg (show ¬ (ir x 9 ∧ ir1 y 50) from fun z => hy z.2)] at hq
    refine Or.inr ⟨fun v h1 hv e1 => hy (ir1_of e1 h1 hv (by omega)), ?_⟩
    ((conv => whnf); (try dsimp only))
    refine ⟨fun q => absurd rfl q, fun _ => ?_⟩
    ((conv => whnf); (try dsimp only))
    exact ⟨Or.inl rfl, hq σ hD (lpFM_rf σ)⟩
  refine Or.inl ⟨tn y, hy.2.1, hy.2.2, hy.1, ?_⟩
  simp only [if_pos (show (ir x 9 ∧ ir1 y 50) from ⟨hx, hy⟩)] at hq
  ((conv => whnf); (try dsimp only))
  refine ⟨fun _ => ?_, fun q => absurd q (by decide)⟩
  ((conv => whnf); (try dsimp only))
  refine ⟨by have h1 := hx.1; have h2 := hx.2; rw [h1]; exact lp_vin (by omega) (by omega), ?_⟩
  ((conv => whnf); (try dsimp only))
  refine ⟨Or.inr rfl, hq _ ⟨MDg_congr hD.1 ?_ (fun r _ _ => ?_), ⟨fun j hj => ?_, fun j hj => ?_⟩, MDp_congr hD.2.2 (fun j _ _ => ?_) (fun r _ _ => ?_)⟩ (lpFM_w3 (lpFM_rf σ) (by omega))⟩
  · rw [lp_w3_r (by omega)]
  · rw [lp_w3_r (by omega)]
  · rw [lp_w3_r (by omega)]; exact hD.2.1.1 j hj
  · dsimp only
    rw [lp_rd]
    by_cases e1 : j = tn x
    · rw [if_pos ⟨rfl, rfl, e1⟩, e1, nu_same]
      exact ⟨hy.1, hy.2⟩
    · rw [if_neg (fun q => e1 q.2.2), nu_ne e1]
      exact hD.2.1.2 j hj
  · rw [lp_w3_r (by omega)]
  · rw [lp_w3_r (by omega)]
end
