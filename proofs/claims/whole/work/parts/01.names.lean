-- ===== PART A: goes FIRST, ahead of the names: the tables' words, and 'selects' of the private methods out of them =====
/-- a private method of a class that the tables say can be made, by its rows of tables_1 -/
def lw_okq (q : MethodName × Nat) : Prop := (q.1.cls ≠ "java/lang/invoke/MethodHandle" ∧ q.1.cls ≠ "java/lang/invoke/VarHandle") ∧ Cond.instantiable q.1.cls q.2 ∈ tables_1 ∧ Cond.privateMethod q.1 ∈ tables_1 ∧ Cond.instanceMethod q.1 ∈ tables_1
theorem lw_p0 : lw_okq (⟨"ConflictSolve", "hasVersion", "(II)Z"⟩, 14) := ⟨⟨by decide +kernel, by decide +kernel⟩, List.mem_of_getElem? (i := 6) (by decide +kernel), List.mem_of_getElem? (i := 72) (by decide +kernel), List.mem_of_getElem? (i := 73) (by decide +kernel)⟩
theorem lw_p1 : lw_okq (⟨"ConflictSolve", "hasPack", "(I)Z"⟩, 14) := ⟨⟨by decide +kernel, by decide +kernel⟩, List.mem_of_getElem? (i := 6) (by decide +kernel), List.mem_of_getElem? (i := 76) (by decide +kernel), List.mem_of_getElem? (i := 77) (by decide +kernel)⟩
theorem lw_p2 : lw_okq (⟨"ConflictSolve", "startAlternatives", "(IZ)V"⟩, 14) := ⟨⟨by decide +kernel, by decide +kernel⟩, List.mem_of_getElem? (i := 6) (by decide +kernel), List.mem_of_getElem? (i := 98) (by decide +kernel), List.mem_of_getElem? (i := 99) (by decide +kernel)⟩
theorem lw_p3 : lw_okq (⟨"ConflictSolve", "moveToNeeded", "(I)V"⟩, 14) := ⟨⟨by decide +kernel, by decide +kernel⟩, List.mem_of_getElem? (i := 6) (by decide +kernel), List.mem_of_getElem? (i := 106) (by decide +kernel), List.mem_of_getElem? (i := 107) (by decide +kernel)⟩
theorem lw_p4 : lw_okq (⟨"ConflictSolve", "positionOf", "(I)I"⟩, 14) := ⟨⟨by decide +kernel, by decide +kernel⟩, List.mem_of_getElem? (i := 6) (by decide +kernel), List.mem_of_getElem? (i := 110) (by decide +kernel), List.mem_of_getElem? (i := 111) (by decide +kernel)⟩
theorem lw_p5 : lw_okq (⟨"ConflictSolve", "addToLatestDemand", "(II)V"⟩, 14) := ⟨⟨by decide +kernel, by decide +kernel⟩, List.mem_of_getElem? (i := 6) (by decide +kernel), List.mem_of_getElem? (i := 118) (by decide +kernel), List.mem_of_getElem? (i := 119) (by decide +kernel)⟩
theorem lw_p6 : lw_okq (⟨"ConflictSolve", "addToLatestRow", "(II)V"⟩, 14) := ⟨⟨by decide +kernel, by decide +kernel⟩, List.mem_of_getElem? (i := 6) (by decide +kernel), List.mem_of_getElem? (i := 122) (by decide +kernel), List.mem_of_getElem? (i := 123) (by decide +kernel)⟩
theorem lw_p7 : lw_okq (⟨"ConflictSolve", "hasPlace", "(II)Z"⟩, 14) := ⟨⟨by decide +kernel, by decide +kernel⟩, List.mem_of_getElem? (i := 6) (by decide +kernel), List.mem_of_getElem? (i := 134) (by decide +kernel), List.mem_of_getElem? (i := 135) (by decide +kernel)⟩
theorem lw_p8 : lw_okq (⟨"ConflictSolve", "demandsThatCount", "()I"⟩, 14) := ⟨⟨by decide +kernel, by decide +kernel⟩, List.mem_of_getElem? (i := 6) (by decide +kernel), List.mem_of_getElem? (i := 142) (by decide +kernel), List.mem_of_getElem? (i := 143) (by decide +kernel)⟩
theorem lw_p9 : lw_okq (⟨"ConflictSolve", "firstWithin", "(JII)J"⟩, 14) := ⟨⟨by decide +kernel, by decide +kernel⟩, List.mem_of_getElem? (i := 6) (by decide +kernel), List.mem_of_getElem? (i := 146) (by decide +kernel), List.mem_of_getElem? (i := 147) (by decide +kernel)⟩
theorem lw_p10 : lw_okq (⟨"ConflictSolve", "narrow", "(JI)J"⟩, 14) := ⟨⟨by decide +kernel, by decide +kernel⟩, List.mem_of_getElem? (i := 6) (by decide +kernel), List.mem_of_getElem? (i := 150) (by decide +kernel), List.mem_of_getElem? (i := 151) (by decide +kernel)⟩
theorem lw_p11 : lw_okq (⟨"ConflictSolve", "firstOf", "(JII)J"⟩, 14) := ⟨⟨by decide +kernel, by decide +kernel⟩, List.mem_of_getElem? (i := 6) (by decide +kernel), List.mem_of_getElem? (i := 163) (by decide +kernel), List.mem_of_getElem? (i := 164) (by decide +kernel)⟩
theorem lw_p12 : lw_okq (⟨"ConflictSolve", "placeAt", "(IIZ)J"⟩, 14) := ⟨⟨by decide +kernel, by decide +kernel⟩, List.mem_of_getElem? (i := 6) (by decide +kernel), List.mem_of_getElem? (i := 167) (by decide +kernel), List.mem_of_getElem? (i := 168) (by decide +kernel)⟩
theorem lw_p13 : lw_okq (⟨"ConflictSolve", "someRightKeeps", "(I)Z"⟩, 14) := ⟨⟨by decide +kernel, by decide +kernel⟩, List.mem_of_getElem? (i := 6) (by decide +kernel), List.mem_of_getElem? (i := 179) (by decide +kernel), List.mem_of_getElem? (i := 180) (by decide +kernel)⟩
theorem lw_p14 : lw_okq (⟨"ConflictSolve", "someRightGives", "(II)Z"⟩, 14) := ⟨⟨by decide +kernel, by decide +kernel⟩, List.mem_of_getElem? (i := 6) (by decide +kernel), List.mem_of_getElem? (i := 197) (by decide +kernel), List.mem_of_getElem? (i := 198) (by decide +kernel)⟩
theorem lw_p15 : lw_okq (⟨"ConflictSolveModel", "isVersion", "(II)Z"⟩, 23) := ⟨⟨by decide +kernel, by decide +kernel⟩, List.mem_of_getElem? (i := 205) (by decide +kernel), List.mem_of_getElem? (i := 290) (by decide +kernel), List.mem_of_getElem? (i := 291) (by decide +kernel)⟩
def lw_privs_1 : List (MethodName × Nat) := [(⟨"ConflictSolve", "hasVersion", "(II)Z"⟩, 14), (⟨"ConflictSolve", "hasPack", "(I)Z"⟩, 14), (⟨"ConflictSolve", "startAlternatives", "(IZ)V"⟩, 14), (⟨"ConflictSolve", "moveToNeeded", "(I)V"⟩, 14), (⟨"ConflictSolve", "positionOf", "(I)I"⟩, 14), (⟨"ConflictSolve", "addToLatestDemand", "(II)V"⟩, 14), (⟨"ConflictSolve", "addToLatestRow", "(II)V"⟩, 14), (⟨"ConflictSolve", "hasPlace", "(II)Z"⟩, 14), (⟨"ConflictSolve", "demandsThatCount", "()I"⟩, 14), (⟨"ConflictSolve", "firstWithin", "(JII)J"⟩, 14), (⟨"ConflictSolve", "narrow", "(JI)J"⟩, 14), (⟨"ConflictSolve", "firstOf", "(JII)J"⟩, 14), (⟨"ConflictSolve", "placeAt", "(IIZ)J"⟩, 14), (⟨"ConflictSolve", "someRightKeeps", "(I)Z"⟩, 14), (⟨"ConflictSolve", "someRightGives", "(II)Z"⟩, 14), (⟨"ConflictSolveModel", "isVersion", "(II)Z"⟩, 23)]
theorem lw_r1 : ∀ q ∈ lw_privs_1, lw_okq q := List.forall_mem_cons.mpr ⟨lw_p0, List.forall_mem_cons.mpr ⟨lw_p1, List.forall_mem_cons.mpr ⟨lw_p2, List.forall_mem_cons.mpr ⟨lw_p3, List.forall_mem_cons.mpr ⟨lw_p4, List.forall_mem_cons.mpr ⟨lw_p5, List.forall_mem_cons.mpr ⟨lw_p6, List.forall_mem_cons.mpr ⟨lw_p7, List.forall_mem_cons.mpr ⟨lw_p8, List.forall_mem_cons.mpr ⟨lw_p9, List.forall_mem_cons.mpr ⟨lw_p10, List.forall_mem_cons.mpr ⟨lw_p11, List.forall_mem_cons.mpr ⟨lw_p12, List.forall_mem_cons.mpr ⟨lw_p13, List.forall_mem_cons.mpr ⟨lw_p14, List.forall_mem_cons.mpr ⟨lw_p15, fun _ h => absurd h List.not_mem_nil⟩⟩⟩⟩⟩⟩⟩⟩⟩⟩⟩⟩⟩⟩⟩⟩
theorem lw_p16 : lw_okq (⟨"ConflictSolveModel", "isPackage", "(I)Z"⟩, 23) := ⟨⟨by decide +kernel, by decide +kernel⟩, List.mem_of_getElem? (i := 205) (by decide +kernel), List.mem_of_getElem? (i := 294) (by decide +kernel), List.mem_of_getElem? (i := 295) (by decide +kernel)⟩
theorem lw_p17 : lw_okq (⟨"ConflictSolveModel", "keep", "(IIII)V"⟩, 23) := ⟨⟨by decide +kernel, by decide +kernel⟩, List.mem_of_getElem? (i := 205) (by decide +kernel), List.mem_of_getElem? (i := 298) (by decide +kernel), List.mem_of_getElem? (i := 299) (by decide +kernel)⟩
theorem lw_p18 : lw_okq (⟨"ConflictSolveModel", "none", "()V"⟩, 23) := ⟨⟨by decide +kernel, by decide +kernel⟩, List.mem_of_getElem? (i := 205) (by decide +kernel), List.mem_of_getElem? (i := 322) (by decide +kernel), List.mem_of_getElem? (i := 323) (by decide +kernel)⟩
theorem lw_p19 : lw_okq (⟨"ConflictSolveModel", "search", "(II)Z"⟩, 23) := ⟨⟨by decide +kernel, by decide +kernel⟩, List.mem_of_getElem? (i := 205) (by decide +kernel), List.mem_of_getElem? (i := 326) (by decide +kernel), List.mem_of_getElem? (i := 327) (by decide +kernel)⟩
theorem lw_p20 : lw_okq (⟨"ConflictSolveModel", "arrange", "()V"⟩, 23) := ⟨⟨by decide +kernel, by decide +kernel⟩, List.mem_of_getElem? (i := 205) (by decide +kernel), List.mem_of_getElem? (i := 330) (by decide +kernel), List.mem_of_getElem? (i := 331) (by decide +kernel)⟩
theorem lw_p21 : lw_okq (⟨"ConflictSolveModel", "place", "(I)V"⟩, 23) := ⟨⟨by decide +kernel, by decide +kernel⟩, List.mem_of_getElem? (i := 205) (by decide +kernel), List.mem_of_getElem? (i := 334) (by decide +kernel), List.mem_of_getElem? (i := 335) (by decide +kernel)⟩
theorem lw_p22 : lw_okq (⟨"ConflictSolveModel", "goes", "(III)Z"⟩, 23) := ⟨⟨by decide +kernel, by decide +kernel⟩, List.mem_of_getElem? (i := 205) (by decide +kernel), List.mem_of_getElem? (i := 338) (by decide +kernel), List.mem_of_getElem? (i := 339) (by decide +kernel)⟩
theorem lw_p23 : lw_okq (⟨"ConflictSolveModel", "ranked", "(II)I"⟩, 23) := ⟨⟨by decide +kernel, by decide +kernel⟩, List.mem_of_getElem? (i := 205) (by decide +kernel), List.mem_of_getElem? (i := 342) (by decide +kernel), List.mem_of_getElem? (i := 343) (by decide +kernel)⟩
theorem lw_p24 : lw_okq (⟨"ConflictSolveModel", "rank", "(II)I"⟩, 23) := ⟨⟨by decide +kernel, by decide +kernel⟩, List.mem_of_getElem? (i := 205) (by decide +kernel), List.mem_of_getElem? (i := 346) (by decide +kernel), List.mem_of_getElem? (i := 347) (by decide +kernel)⟩
theorem lw_p25 : lw_okq (⟨"ConflictSolveModel", "broken", "()I"⟩, 23) := ⟨⟨by decide +kernel, by decide +kernel⟩, List.mem_of_getElem? (i := 205) (by decide +kernel), List.mem_of_getElem? (i := 350) (by decide +kernel), List.mem_of_getElem? (i := 351) (by decide +kernel)⟩
theorem lw_p26 : lw_okq (⟨"ConflictSolveModel", "isBroken", "(I)Z"⟩, 23) := ⟨⟨by decide +kernel, by decide +kernel⟩, List.mem_of_getElem? (i := 205) (by decide +kernel), List.mem_of_getElem? (i := 354) (by decide +kernel), List.mem_of_getElem? (i := 355) (by decide +kernel)⟩
theorem lw_p27 : lw_okq (⟨"ConflictSolveModel", "others", "(I)I"⟩, 23) := ⟨⟨by decide +kernel, by decide +kernel⟩, List.mem_of_getElem? (i := 205) (by decide +kernel), List.mem_of_getElem? (i := 358) (by decide +kernel), List.mem_of_getElem? (i := 359) (by decide +kernel)⟩
def lw_privs_2 : List (MethodName × Nat) := [(⟨"ConflictSolveModel", "isPackage", "(I)Z"⟩, 23), (⟨"ConflictSolveModel", "keep", "(IIII)V"⟩, 23), (⟨"ConflictSolveModel", "none", "()V"⟩, 23), (⟨"ConflictSolveModel", "search", "(II)Z"⟩, 23), (⟨"ConflictSolveModel", "arrange", "()V"⟩, 23), (⟨"ConflictSolveModel", "place", "(I)V"⟩, 23), (⟨"ConflictSolveModel", "goes", "(III)Z"⟩, 23), (⟨"ConflictSolveModel", "ranked", "(II)I"⟩, 23), (⟨"ConflictSolveModel", "rank", "(II)I"⟩, 23), (⟨"ConflictSolveModel", "broken", "()I"⟩, 23), (⟨"ConflictSolveModel", "isBroken", "(I)Z"⟩, 23), (⟨"ConflictSolveModel", "others", "(I)I"⟩, 23)]
theorem lw_r2 : ∀ q ∈ lw_privs_2, lw_okq q := List.forall_mem_cons.mpr ⟨lw_p16, List.forall_mem_cons.mpr ⟨lw_p17, List.forall_mem_cons.mpr ⟨lw_p18, List.forall_mem_cons.mpr ⟨lw_p19, List.forall_mem_cons.mpr ⟨lw_p20, List.forall_mem_cons.mpr ⟨lw_p21, List.forall_mem_cons.mpr ⟨lw_p22, List.forall_mem_cons.mpr ⟨lw_p23, List.forall_mem_cons.mpr ⟨lw_p24, List.forall_mem_cons.mpr ⟨lw_p25, List.forall_mem_cons.mpr ⟨lw_p26, List.forall_mem_cons.mpr ⟨lw_p27, fun _ h => absurd h List.not_mem_nil⟩⟩⟩⟩⟩⟩⟩⟩⟩⟩⟩⟩
def lw_privs : List (MethodName × Nat) := lw_privs_1 ++ (lw_privs_2)
def lw_tbl : List Cond := k2_sels lw_privs ++ tables_1
theorem lw_privs_ok : ∀ q ∈ lw_privs, lw_okq q := by
  show ∀ q ∈ lw_privs_1 ++ (lw_privs_2), lw_okq q
  exact List.forall_mem_append.mpr ⟨lw_r1, lw_r2⟩
def RX0 : String := "ConflictSolve"
def TX0 : u_T := fun k => match k with
  | 0 => ("ConflictSolve", "rowRules", "[J", true)
  | 1 => ("ConflictSolve", "demandRules", "[J", true)
  | 2 => ("ConflictSolve", "order", "[I", true)
  | 3 => ("ConflictSolve", "packs", "I", false)
  | 4 => ("ConflictSolve", "rows", "I", false)
  | 5 => ("ConflictSolve", "demands", "I", false)
  | 6 => ("ConflictSolve", "neededPacks", "I", false)
  | 7 => ("ConflictSolve", "places", "J", false)
  | 8 => ("ConflictSolve", "locked", "J", false)
  | 9 => ("ConflictSolve", "leftOut", "I", false)
  | 10 => ("ConflictSolve", "alternativesFree", "I", false)
  | 11 => ("ConflictSolve", "latestIsDemand", "Z", false)
  | 12 => ("ConflictSolve", "picked", "J", false)
  | _ => ("ConflictSolve", "toBlame", "I", false)
def tyX0 : Nat → FieldType := fun k => match k with
  | 0 => .array .long
  | 1 => .array .long
  | 2 => .array .int
  | 3 => .int
  | 4 => .int
  | 5 => .int
  | 6 => .int
  | 7 => .long
  | 8 => .long
  | 9 => .int
  | 10 => .int
  | 11 => .boolean
  | 12 => .long
  | _ => .int
theorem nmX0 : ∀ a, a < 14 → ∀ b, b < 14 → a ≠ b → (TX0 a).2.1 ≠ (TX0 b).2.1 := by decide +kernel
theorem tyX0_ok : ∀ k, k < 14 → parseFieldDescriptor (TX0 k).2.2.1 = some (tyX0 k) := by decide +kernel
def RX1 : String := "ConflictSolveModel"
def TX1 : u_T := fun k => match k with
  | 0 => ("ConflictSolveModel", "code", "I", false)
  | 1 => ("ConflictSolveModel", "versions", "[I", true)
  | 2 => ("ConflictSolveModel", "locks", "[I", true)
  | 3 => ("ConflictSolveModel", "chosen", "[I", true)
  | 4 => ("ConflictSolveModel", "value", "[I", true)
  | 5 => ("ConflictSolveModel", "order", "[I", true)
  | 6 => ("ConflictSolveModel", "option", "[I", true)
  | 7 => ("ConflictSolveModel", "blames0", "[I", true)
  | 8 => ("ConflictSolveModel", "packages", "I", false)
  | 9 => ("ConflictSolveModel", "rows", "I", false)
  | 10 => ("ConflictSolveModel", "demands", "I", false)
  | 11 => ("ConflictSolveModel", "needed", "I", false)
  | 12 => ("ConflictSolveModel", "pack", "[I", true)
  | 13 => ("ConflictSolveModel", "version", "[I", true)
  | 14 => ("ConflictSolveModel", "kind", "[I", true)
  | 15 => ("ConflictSolveModel", "many", "[I", true)
  | 16 => ("ConflictSolveModel", "other", "[I", true)
  | 17 => ("ConflictSolveModel", "set", "[I", true)
  | 18 => ("ConflictSolveModel", "out", "[Z", true)
  | 19 => ("ConflictSolveModel", "away", "[Z", true)
  | 20 => ("ConflictSolveModel", "latest", "I", false)
  | 21 => ("ConflictSolveModel", "blamed", "[I", true)
  | _ => ("ConflictSolveModel", "blames", "I", false)
def tyX1 : Nat → FieldType := fun k => match k with
  | 0 => .int
  | 1 => .array .int
  | 2 => .array .int
  | 3 => .array .int
  | 4 => .array .int
  | 5 => .array .int
  | 6 => .array .int
  | 7 => .array .int
  | 8 => .int
  | 9 => .int
  | 10 => .int
  | 11 => .int
  | 12 => .array .int
  | 13 => .array .int
  | 14 => .array .int
  | 15 => .array .int
  | 16 => .array .int
  | 17 => .array .int
  | 18 => .array .boolean
  | 19 => .array .boolean
  | 20 => .int
  | 21 => .array .int
  | _ => .int
theorem nmX1 : ∀ a, a < 23 → ∀ b, b < 23 → a ≠ b → (TX1 a).2.1 ≠ (TX1 b).2.1 := by decide +kernel
theorem tyX1_ok : ∀ k, k < 23 → parseFieldDescriptor (TX1 k).2.2.1 = some (tyX1 k) := by decide +kernel
def RJ6 : String := "java/lang/Integer"
def RJ13 : String := "java/lang/Long"
def RL : String := "ConflictSolveLaw"
abbrev cL_law : ByteArray := code
abbrev cX0_init : ByteArray := prog_1_method_1_code
def yX0_init : MethodName := ⟨RX0, "<init>", "()V"⟩
abbrev cX0_pack : ByteArray := prog_1_method_2_code
def yX0_pack : MethodName := ⟨RX0, "pack", "(I)I"⟩
abbrev cX0_row : ByteArray := prog_1_method_3_code
def yX0_row : MethodName := ⟨RX0, "row", "(IIIII)Z"⟩
abbrev cX0_demand : ByteArray := prog_1_method_4_code
def yX0_demand : MethodName := ⟨RX0, "demand", "(III)I"⟩
abbrev cX0_or : ByteArray := prog_1_method_5_code
def yX0_or : MethodName := ⟨RX0, "or", "(II)Z"⟩
abbrev cX0_leaveOut : ByteArray := prog_1_method_6_code
def yX0_leaveOut : MethodName := ⟨RX0, "leaveOut", "(IZ)Z"⟩
abbrev cX0_lock : ByteArray := prog_1_method_7_code
def yX0_lock : MethodName := ⟨RX0, "lock", "(II)Z"⟩
abbrev cX0_solve : ByteArray := prog_1_method_8_code
def yX0_solve : MethodName := ⟨RX0, "solve", "()I"⟩
abbrev cX0_chosen : ByteArray := prog_1_method_9_code
def yX0_chosen : MethodName := ⟨RX0, "chosen", "(I)I"⟩
abbrev cX0_blame : ByteArray := prog_1_method_10_code
def yX0_blame : MethodName := ⟨RX0, "blame", "()I"⟩
abbrev cX0_blamed : ByteArray := prog_1_method_11_code
def yX0_blamed : MethodName := ⟨RX0, "blamed", "(I)I"⟩
abbrev cX0_can : ByteArray := prog_1_method_12_code
def yX0_can : MethodName := ⟨RX0, "can", "(II)Z"⟩
abbrev cX0_must : ByteArray := prog_1_method_13_code
def yX0_must : MethodName := ⟨RX0, "must", "(I)Z"⟩
abbrev cX0_hasPack : ByteArray := prog_1_method_14_code
def yX0_hasPack : MethodName := ⟨RX0, "hasPack", "(I)Z"⟩
abbrev cX0_hasVersion : ByteArray := prog_1_method_15_code
def yX0_hasVersion : MethodName := ⟨RX0, "hasVersion", "(II)Z"⟩
abbrev cX0_hasPlace : ByteArray := prog_1_method_16_code
def yX0_hasPlace : MethodName := ⟨RX0, "hasPlace", "(II)Z"⟩
abbrev cX0_isKind : ByteArray := prog_1_method_17_code
def yX0_isKind : MethodName := ⟨RX0, "isKind", "(I)Z"⟩
abbrev cX0_allOf : ByteArray := prog_1_method_18_code
def yX0_allOf : MethodName := ⟨RX0, "allOf", "(I)J"⟩
abbrev cX0_noneOf : ByteArray := prog_1_method_19_code
def yX0_noneOf : MethodName := ⟨RX0, "noneOf", "(I)J"⟩
abbrev cX0_versionsOf : ByteArray := prog_1_method_20_code
def yX0_versionsOf : MethodName := ⟨RX0, "versionsOf", "(II)J"⟩
abbrev cX0_placeOf : ByteArray := prog_1_method_21_code
def yX0_placeOf : MethodName := ⟨RX0, "placeOf", "(II)J"⟩
abbrev cX0_keeping : ByteArray := prog_1_method_22_code
def yX0_keeping : MethodName := ⟨RX0, "keeping", "(III)J"⟩
abbrev cX0_startAlternatives : ByteArray := prog_1_method_23_code
def yX0_startAlternatives : MethodName := ⟨RX0, "startAlternatives", "(IZ)V"⟩
abbrev cX0_addToLatestDemand : ByteArray := prog_1_method_24_code
def yX0_addToLatestDemand : MethodName := ⟨RX0, "addToLatestDemand", "(II)V"⟩
abbrev cX0_addToLatestRow : ByteArray := prog_1_method_25_code
def yX0_addToLatestRow : MethodName := ⟨RX0, "addToLatestRow", "(II)V"⟩
abbrev cX0_moveToNeeded : ByteArray := prog_1_method_26_code
def yX0_moveToNeeded : MethodName := ⟨RX0, "moveToNeeded", "(I)V"⟩
abbrev cX0_positionOf : ByteArray := prog_1_method_27_code
def yX0_positionOf : MethodName := ⟨RX0, "positionOf", "(I)I"⟩
abbrev cX0_demandsThatCount : ByteArray := prog_1_method_28_code
def yX0_demandsThatCount : MethodName := ⟨RX0, "demandsThatCount", "()I"⟩
abbrev cX0_someRightGives : ByteArray := prog_1_method_29_code
def yX0_someRightGives : MethodName := ⟨RX0, "someRightGives", "(II)Z"⟩
abbrev cX0_someRightKeeps : ByteArray := prog_1_method_30_code
def yX0_someRightKeeps : MethodName := ⟨RX0, "someRightKeeps", "(I)Z"⟩
abbrev cX0_firstWithin : ByteArray := prog_1_method_31_code
def yX0_firstWithin : MethodName := ⟨RX0, "firstWithin", "(JII)J"⟩
abbrev cX0_firstOf : ByteArray := prog_1_method_32_code
def yX0_firstOf : MethodName := ⟨RX0, "firstOf", "(JII)J"⟩
abbrev cX0_placeAt : ByteArray := prog_1_method_33_code
def yX0_placeAt : MethodName := ⟨RX0, "placeAt", "(IIZ)J"⟩
abbrev cX0_narrow : ByteArray := prog_1_method_34_code
def yX0_narrow : MethodName := ⟨RX0, "narrow", "(JI)J"⟩
abbrev cX0_narrowByRule : ByteArray := prog_1_method_35_code
def yX0_narrowByRule : MethodName := ⟨RX0, "narrowByRule", "(JJ)J"⟩
abbrev cX1_init : ByteArray := prog_3_method_1_code
def yX1_init : MethodName := ⟨RX1, "<init>", "()V"⟩
abbrev cX1_isPackage : ByteArray := prog_3_method_3_code
def yX1_isPackage : MethodName := ⟨RX1, "isPackage", "(I)Z"⟩
abbrev cX1_isVersion : ByteArray := prog_3_method_4_code
def yX1_isVersion : MethodName := ⟨RX1, "isVersion", "(II)Z"⟩
abbrev cX1_pack : ByteArray := prog_3_method_5_code
def yX1_pack : MethodName := ⟨RX1, "pack", "(I)I"⟩
abbrev cX1_keep : ByteArray := prog_3_method_6_code
def yX1_keep : MethodName := ⟨RX1, "keep", "(IIII)V"⟩
abbrev cX1_row : ByteArray := prog_3_method_7_code
def yX1_row : MethodName := ⟨RX1, "row", "(IIIII)Z"⟩
abbrev cX1_demand : ByteArray := prog_3_method_8_code
def yX1_demand : MethodName := ⟨RX1, "demand", "(III)I"⟩
abbrev cX1_or : ByteArray := prog_3_method_9_code
def yX1_or : MethodName := ⟨RX1, "or", "(II)Z"⟩
abbrev cX1_leaveOut : ByteArray := prog_3_method_10_code
def yX1_leaveOut : MethodName := ⟨RX1, "leaveOut", "(IZ)Z"⟩
abbrev cX1_lock : ByteArray := prog_3_method_11_code
def yX1_lock : MethodName := ⟨RX1, "lock", "(II)Z"⟩
abbrev cX1_isBroken : ByteArray := prog_3_method_12_code
def yX1_isBroken : MethodName := ⟨RX1, "isBroken", "(I)Z"⟩
abbrev cX1_broken : ByteArray := prog_3_method_13_code
def yX1_broken : MethodName := ⟨RX1, "broken", "()I"⟩
abbrev cX1_others : ByteArray := prog_3_method_14_code
def yX1_others : MethodName := ⟨RX1, "others", "(I)I"⟩
abbrev cX1_arrange : ByteArray := prog_3_method_15_code
def yX1_arrange : MethodName := ⟨RX1, "arrange", "()V"⟩
abbrev cX1_place : ByteArray := prog_3_method_16_code
def yX1_place : MethodName := ⟨RX1, "place", "(I)V"⟩
abbrev cX1_rank : ByteArray := prog_3_method_17_code
def yX1_rank : MethodName := ⟨RX1, "rank", "(II)I"⟩
abbrev cX1_ranked : ByteArray := prog_3_method_18_code
def yX1_ranked : MethodName := ⟨RX1, "ranked", "(II)I"⟩
abbrev cX1_search : ByteArray := prog_3_method_19_code
def yX1_search : MethodName := ⟨RX1, "search", "(II)Z"⟩
abbrev cX1_goes : ByteArray := prog_3_method_20_code
def yX1_goes : MethodName := ⟨RX1, "goes", "(III)Z"⟩
abbrev cX1_none : ByteArray := prog_3_method_21_code
def yX1_none : MethodName := ⟨RX1, "none", "()V"⟩
abbrev cX1_solve : ByteArray := prog_3_method_22_code
def yX1_solve : MethodName := ⟨RX1, "solve", "()I"⟩
abbrev cX1_chosen : ByteArray := prog_3_method_23_code
def yX1_chosen : MethodName := ⟨RX1, "chosen", "(I)I"⟩
abbrev cX1_blame : ByteArray := prog_3_method_24_code
def yX1_blame : MethodName := ⟨RX1, "blame", "()I"⟩
abbrev cX1_blamed : ByteArray := prog_3_method_25_code
def yX1_blamed : MethodName := ⟨RX1, "blamed", "(I)I"⟩
abbrev cX1_can : ByteArray := prog_3_method_26_code
def yX1_can : MethodName := ⟨RX1, "can", "(II)Z"⟩
abbrev cX1_must : ByteArray := prog_3_method_27_code
def yX1_must : MethodName := ⟨RX1, "must", "(I)Z"⟩
abbrev cJ6_bitCount : ByteArray := prog_4_method_49_code
def yJ6_bitCount : MethodName := ⟨RJ6, "bitCount", "(I)I"⟩
abbrev cJ13_bitCount : ByteArray := prog_5_method_50_code
def yJ13_bitCount : MethodName := ⟨RJ13, "bitCount", "(J)I"⟩
abbrev vwCl : List vw_C := [(RX0, TX0, 14), (RX1, TX1, 23)]
/-- the words that every method here is given: the good ones of the tables -/
def TW : List Cond := lw_tbl.filter goodWord
theorem tw_in {w : Cond} (h : w ∈ lw_tbl) (g : goodWord w = true) : w ∈ TW := List.mem_filter.mpr ⟨h, g⟩
theorem tw_tbl {w : Cond} (h : w ∈ TW) : w ∈ lw_tbl := (List.mem_filter.mp h).1
theorem tw_g {c0 : Cond} (ys : List Cond) (h : ∀ w ∈ ys, w ∈ TW) : GoodIn (c0 :: TW) (ys ++ TW) := fun w hw => by
  have hm : w ∈ TW := (List.mem_append.mp hw).elim (h w) id
  exact ⟨List.mem_cons_of_mem _ hm, good_of_word (List.mem_filter.mp hm).2⟩
theorem tw_l (ys : List Cond) (h : ∀ w ∈ ys, w ∈ TW) : GoodIn lw_tbl (ys ++ TW) := fun w hw => by
  have hm : w ∈ TW := (List.mem_append.mp hw).elim (h w) id
  exact ⟨tw_tbl hm, good_of_word (List.mem_filter.mp hm).2⟩
theorem inX0 : ∀ w ∈ u_ws RX0 TX0 14, w ∈ lw_tbl := by decide +kernel
theorem inGX0 : ∀ w ∈ u_ws RX0 TX0 14, goodWord w = true := by decide +kernel
theorem inTX0 : ∀ w ∈ u_ws RX0 TX0 14, w ∈ TW := fun w h => tw_in (inX0 w h) (inGX0 w h)
theorem inX1 : ∀ w ∈ u_ws RX1 TX1 23, w ∈ lw_tbl := by decide +kernel
theorem inGX1 : ∀ w ∈ u_ws RX1 TX1 23, goodWord w = true := by decide +kernel
theorem inTX1 : ∀ w ∈ u_ws RX1 TX1 23, w ∈ TW := fun w h => tw_in (inX1 w h) (inGX1 w h)
