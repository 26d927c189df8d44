section
-- ===== PART A: goes FIRST, ahead of the names: the tables' words, and 'selects' of the private methods out of them =====
/-- a private method of a class that the tables say can be made, by its rows of tables_1 -/
def lw_okq (q : MethodName × Nat) : Prop := (q.1.cls ≠ "java/lang/invoke/MethodHandle" ∧ q.1.cls ≠ "java/lang/invoke/VarHandle") ∧ Cond.instantiable q.1.cls q.2 ∈ tables_1 ∧ Cond.privateMethod q.1 ∈ tables_1 ∧ Cond.instanceMethod q.1 ∈ tables_1
theorem lw_p0 : lw_okq (⟨"ConflictSolve", "hasVersion", "(II)Z"⟩, 14) := ⟨⟨by decide +kernel, by decide +kernel⟩, List.mem_of_getElem? (i := 6) (by decide +kernel), List.mem_of_getElem? (i := 72) (by decide +kernel), List.mem_of_getElem? (i := 73) (by decide +kernel)⟩
theorem lw_p1 : lw_okq (⟨"ConflictSolve", "hasPack", "(I)Z"⟩, 14) := ⟨⟨by decide +kernel, by decide +kernel⟩, List.mem_of_getElem? (i := 6) (by decide +kernel), List.mem_of_getElem? (i := 76) (by decide +kernel), List.mem_of_getElem? (i := 77) (by decide +kernel)⟩
theorem lw_p2 : lw_okq (⟨"ConflictSolve", "startAlternatives", "(IZ)V"⟩, 14) := ⟨⟨by decide +kernel, by decide +kernel⟩, List.mem_of_getElem? (i := 6) (by decide +kernel), List.mem_of_getElem? (i := 98) (by decide +kernel), List.mem_of_getElem? (i := 99) (by decide +kernel)⟩
theorem lw_p3 : lw_okq (⟨"ConflictSolve", "moveToNeeded", "(I)V"⟩, 14) := ⟨⟨by decide +kernel, by decide +kernel⟩, List.mem_of_getElem? (i := 6) (by decide +kernel), List.mem_of_getElem? (i := 106) (by decide +kernel), List.mem_of_getElem? (i := 107) (by decide +kernel)⟩
theorem lw_p4 : lw_okq (⟨"ConflictSolve", "positionOf", "(I)I"⟩, 14) := ⟨⟨by decide +kernel, by decide +kernel⟩, List.mem_of_getElem? (i := 6) (by decide +kernel), List.mem_of_getElem? (i := 110) (by decide +kernel), List.mem_of_getElem? (i := 111) (by decide +kernel)⟩
theorem lw_p5 : lw_okq (⟨"ConflictSolve", "addToLatestDemand", "(II)V"⟩, 14) := ⟨⟨by decide +kernel, by decide +kernel⟩, List.mem_of_getElem? (i := 6) (by decide +kernel), List.mem_of_getElem? (i := 118) (by decide +kernel), List.mem_of_getElem? (i := 119) (by decide +kernel)⟩
theorem lw_p6 : lw_okq (⟨"ConflictSolve", "addToLatestRow", "(II)V"⟩, 14) := ⟨⟨by decide +kernel, by decide +kernel⟩, List.mem_of_getElem? (i := 6) (by decide +kernel), List.mem_of_getElem? (i := 122) (by decide +kernel), List.mem_of_getElem? (i := 123) (by decide +kernel)⟩
theorem lw_p7 : lw_okq (⟨"ConflictSolve", "hasPlace", "(II)Z"⟩, 14) := ⟨⟨by decide +kernel, by decide +kernel⟩, List.mem_of_getElem? (i := 6) (by decide +kernel), List.mem_of_getElem? (i := 134) (by decide +kernel), List.mem_of_getElem? (i := 135) (by decide +kernel)⟩
theorem lw_p8 : lw_okq (⟨"ConflictSolve", "demandsThatCount", "()I"⟩, 14) := ⟨⟨by decide +kernel, by decide +kernel⟩, List.mem_of_getElem? (i := 6) (by decide +kernel), List.mem_of_getElem? (i := 142) (by decide +kernel), List.mem_of_getElem? (i := 143) (by decide +kernel)⟩
theorem lw_p9 : lw_okq (⟨"ConflictSolve", "firstWithin", "(JII)J"⟩, 14) := ⟨⟨by decide +kernel, by decide +kernel⟩, List.mem_of_getElem? (i := 6) (by decide +kernel), List.mem_of_getElem? (i := 146) (by decide +kernel), List.mem_of_getElem? (i := 147) (by decide +kernel)⟩
theorem lw_p10 : lw_okq (⟨"ConflictSolve", "narrow", "(JI)J"⟩, 14) := ⟨⟨by decide +kernel, by decide +kernel⟩, List.mem_of_getElem? (i := 6) (by decide +kernel), List.mem_of_getElem? (i := 150) (by decide +kernel), List.mem_of_getElem? (i := 151) (by decide +kernel)⟩
theorem lw_p11 : lw_okq (⟨"ConflictSolve", "firstOf", "(JII)J"⟩, 14) := ⟨⟨by decide +kernel, by decide +kernel⟩, List.mem_of_getElem? (i := 6) (by decide +kernel), List.mem_of_getElem? (i := 163) (by decide +kernel), List.mem_of_getElem? (i := 164) (by decide +kernel)⟩
theorem lw_p12 : lw_okq (⟨"ConflictSolve", "placeAt", "(IIZ)J"⟩, 14) := ⟨⟨by decide +kernel, by decide +kernel⟩, List.mem_of_getElem? (i := 6) (by decide +kernel), List.mem_of_getElem? (i := 167) (by decide +kernel), List.mem_of_getElem? (i := 168) (by decide +kernel)⟩
theorem lw_p13 : lw_okq (⟨"ConflictSolve", "someRightKeeps", "(I)Z"⟩, 14) := ⟨⟨by decide +kernel, by decide +kernel⟩, List.mem_of_getElem? (i := 6) (by decide +kernel), List.mem_of_getElem? (i := 179) (by decide +kernel), List.mem_of_getElem? (i := 180) (by decide +kernel)⟩
theorem lw_p14 : lw_okq (⟨"ConflictSolve", "someRightGives", "(II)Z"⟩, 14) := ⟨⟨by decide +kernel, by decide +kernel⟩, List.mem_of_getElem? (i := 6) (by decide +kernel), List.mem_of_getElem? (i := 197) (by decide +kernel), List.mem_of_getElem? (i := 198) (by decide +kernel)⟩
theorem lw_p15 : lw_okq (⟨"ConflictSolveModel", "isVersion", "(II)Z"⟩, 23) := ⟨⟨by decide +kernel, by decide +kernel⟩, List.mem_of_getElem? (i := 205) (by decide +kernel), List.mem_of_getElem? (i := 290) (by decide +kernel), List.mem_of_getElem? (i := 291) (by decide +kernel)⟩
def lw_privs_1 : List (MethodName × Nat) := [(⟨"ConflictSolve", "hasVersion", "(II)Z"⟩, 14), (⟨"ConflictSolve", "hasPack", "(I)Z"⟩, 14), (⟨"ConflictSolve", "startAlternatives", "(IZ)V"⟩, 14), (⟨"ConflictSolve", "moveToNeeded", "(I)V"⟩, 14), (⟨"ConflictSolve", "positionOf", "(I)I"⟩, 14), (⟨"ConflictSolve", "addToLatestDemand", "(II)V"⟩, 14), (⟨"ConflictSolve", "addToLatestRow", "(II)V"⟩, 14), (⟨"ConflictSolve", "hasPlace", "(II)Z"⟩, 14), (⟨"ConflictSolve", "demandsThatCount", "()I"⟩, 14), (⟨"ConflictSolve", "firstWithin", "(JII)J"⟩, 14), (⟨"ConflictSolve", "narrow", "(JI)J"⟩, 14), (⟨"ConflictSolve", "firstOf", "(JII)J"⟩, 14), (⟨"ConflictSolve", "placeAt", "(IIZ)J"⟩, 14), (⟨"ConflictSolve", "someRightKeeps", "(I)Z"⟩, 14), (⟨"ConflictSolve", "someRightGives", "(II)Z"⟩, 14), (⟨"ConflictSolveModel", "isVersion", "(II)Z"⟩, 23)]
theorem lw_r1 : ∀ q ∈ lw_privs_1, lw_okq q := List.forall_mem_cons.mpr ⟨lw_p0, List.forall_mem_cons.mpr ⟨lw_p1, List.forall_mem_cons.mpr ⟨lw_p2, List.forall_mem_cons.mpr ⟨lw_p3, List.forall_mem_cons.mpr ⟨lw_p4, List.forall_mem_cons.mpr ⟨lw_p5, List.forall_mem_cons.mpr ⟨lw_p6, List.forall_mem_cons.mpr ⟨lw_p7, List.forall_mem_cons.mpr ⟨lw_p8, List.forall_mem_cons.mpr ⟨lw_p9, List.forall_mem_cons.mpr ⟨lw_p10, List.forall_mem_cons.mpr ⟨lw_p11, List.forall_mem_cons.mpr ⟨lw_p12, List.forall_mem_cons.mpr ⟨lw_p13, List.forall_mem_cons.mpr ⟨lw_p14, List.forall_mem_cons.mpr ⟨lw_p15, fun _ h => absurd h List.not_mem_nil⟩⟩⟩⟩⟩⟩⟩⟩⟩⟩⟩⟩⟩⟩⟩⟩
theorem lw_p16 : lw_okq (⟨"ConflictSolveModel", "isPackage", "(I)Z"⟩, 23) := ⟨⟨by decide +kernel, by decide +kernel⟩, List.mem_of_getElem? (i := 205) (by decide +kernel), List.mem_of_getElem? (i := 294) (by decide +kernel), List.mem_of_getElem? (i := 295) (by decide +kernel)⟩
theorem lw_p17 : lw_okq (⟨"ConflictSolveModel", "keep", "(IIII)V"⟩, 23) := ⟨⟨by decide +kernel, by decide +kernel⟩, List.mem_of_getElem? (i := 205) (by decide +kernel), List.mem_of_getElem? (i := 298) (by decide +kernel), List.mem_of_getElem? (i := 299) (by decide +kernel)⟩
theorem lw_p18 : lw_okq (⟨"ConflictSolveModel", "none", "()V"⟩, 23) := ⟨⟨by decide +kernel, by decide +kernel⟩, List.mem_of_getElem? (i := 205) (by decide +kernel), List.mem_of_getElem? (i := 322) (by decide +kernel), List.mem_of_getElem? (i := 323) (by decide +kernel)⟩
theorem lw_p19 : lw_okq (⟨"ConflictSolveModel", "search", "(II)Z"⟩, 23) := ⟨⟨by decide +kernel, by decide +kernel⟩, List.mem_of_getElem? (i := 205) (by decide +kernel), List.mem_of_getElem? (i := 326) (by decide +kernel), List.mem_of_getElem? (i := 327) (by decide +kernel)⟩
theorem lw_p20 : lw_okq (⟨"ConflictSolveModel", "arrange", "()V"⟩, 23) := ⟨⟨by decide +kernel, by decide +kernel⟩, List.mem_of_getElem? (i := 205) (by decide +kernel), List.mem_of_getElem? (i := 330) (by decide +kernel), List.mem_of_getElem? (i := 331) (by decide +kernel)⟩
theorem lw_p21 : lw_okq (⟨"ConflictSolveModel", "place", "(I)V"⟩, 23) := ⟨⟨by decide +kernel, by decide +kernel⟩, List.mem_of_getElem? (i := 205) (by decide +kernel), List.mem_of_getElem? (i := 334) (by decide +kernel), List.mem_of_getElem? (i := 335) (by decide +kernel)⟩
theorem lw_p22 : lw_okq (⟨"ConflictSolveModel", "goes", "(III)Z"⟩, 23) := ⟨⟨by decide +kernel, by decide +kernel⟩, List.mem_of_getElem? (i := 205) (by decide +kernel), List.mem_of_getElem? (i := 338) (by decide +kernel), List.mem_of_getElem? (i := 339) (by decide +kernel)⟩
theorem lw_p23 : lw_okq (⟨"ConflictSolveModel", "ranked", "(II)I"⟩, 23) := ⟨⟨by decide +kernel, by decide +kernel⟩, List.mem_of_getElem? (i := 205) (by decide +kernel), List.mem_of_getElem? (i := 342) (by decide +kernel), List.mem_of_getElem? (i := 343) (by decide +kernel)⟩
theorem lw_p24 : lw_okq (⟨"ConflictSolveModel", "rank", "(II)I"⟩, 23) := ⟨⟨by decide +kernel, by decide +kernel⟩, List.mem_of_getElem? (i := 205) (by decide +kernel), List.mem_of_getElem? (i := 346) (by decide +kernel), List.mem_of_getElem? (i := 347) (by decide +kernel)⟩
theorem lw_p25 : lw_okq (⟨"ConflictSolveModel", "broken", "()I"⟩, 23) := ⟨⟨by decide +kernel, by decide +kernel⟩, List.mem_of_getElem? (i := 205) (by decide +kernel), List.mem_of_getElem? (i := 350) (by decide +kernel), List.mem_of_getElem? (i := 351) (by decide +kernel)⟩
theorem lw_p26 : lw_okq (⟨"ConflictSolveModel", "isBroken", "(I)Z"⟩, 23) := ⟨⟨by decide +kernel, by decide +kernel⟩, List.mem_of_getElem? (i := 205) (by decide +kernel), List.mem_of_getElem? (i := 354) (by decide +kernel), List.mem_of_getElem? (i := 355) (by decide +kernel)⟩
theorem lw_p27 : lw_okq (⟨"ConflictSolveModel", "others", "(I)I"⟩, 23) := ⟨⟨by decide +kernel, by decide +kernel⟩, List.mem_of_getElem? (i := 205) (by decide +kernel), List.mem_of_getElem? (i := 358) (by decide +kernel), List.mem_of_getElem? (i := 359) (by decide +kernel)⟩
def lw_privs_2 : List (MethodName × Nat) := [(⟨"ConflictSolveModel", "isPackage", "(I)Z"⟩, 23), (⟨"ConflictSolveModel", "keep", "(IIII)V"⟩, 23), (⟨"ConflictSolveModel", "none", "()V"⟩, 23), (⟨"ConflictSolveModel", "search", "(II)Z"⟩, 23), (⟨"ConflictSolveModel", "arrange", "()V"⟩, 23), (⟨"ConflictSolveModel", "place", "(I)V"⟩, 23), (⟨"ConflictSolveModel", "goes", "(III)Z"⟩, 23), (⟨"ConflictSolveModel", "ranked", "(II)I"⟩, 23), (⟨"ConflictSolveModel", "rank", "(II)I"⟩, 23), (⟨"ConflictSolveModel", "broken", "()I"⟩, 23), (⟨"ConflictSolveModel", "isBroken", "(I)Z"⟩, 23), (⟨"ConflictSolveModel", "others", "(I)I"⟩, 23)]
theorem lw_r2 : ∀ q ∈ lw_privs_2, lw_okq q := List.forall_mem_cons.mpr ⟨lw_p16, List.forall_mem_cons.mpr ⟨lw_p17, List.forall_mem_cons.mpr ⟨lw_p18, List.forall_mem_cons.mpr ⟨lw_p19, List.forall_mem_cons.mpr ⟨lw_p20, List.forall_mem_cons.mpr ⟨lw_p21, List.forall_mem_cons.mpr ⟨lw_p22, List.forall_mem_cons.mpr ⟨lw_p23, List.forall_mem_cons.mpr ⟨lw_p24, List.forall_mem_cons.mpr ⟨lw_p25, List.forall_mem_cons.mpr ⟨lw_p26, List.forall_mem_cons.mpr ⟨lw_p27, fun _ h => absurd h List.not_mem_nil⟩⟩⟩⟩⟩⟩⟩⟩⟩⟩⟩⟩
def lw_privs : List (MethodName × Nat) := lw_privs_1 ++ (lw_privs_2)
def lw_tbl : List Cond := k2_sels lw_privs ++ tables_1
theorem lw_privs_ok : ∀ q ∈ lw_privs, lw_okq q := by
  show ∀ q ∈ lw_privs_1 ++ (lw_privs_2), lw_okq q
  exact List.forall_mem_append.mpr ⟨lw_r1, lw_r2⟩
def RX0 : String := "ConflictSolve"
def TX0 : u_T := fun k => match k with
  | 0 => ("ConflictSolve", "rowRules", "[J", true)
  | 1 => ("ConflictSolve", "demandRules", "[J", true)
  | 2 => ("ConflictSolve", "order", "[I", true)
  | 3 => ("ConflictSolve", "packs", "I", false)
  | 4 => ("ConflictSolve", "rows", "I", false)
  | 5 => ("ConflictSolve", "demands", "I", false)
  | 6 => ("ConflictSolve", "neededPacks", "I", false)
  | 7 => ("ConflictSolve", "places", "J", false)
  | 8 => ("ConflictSolve", "locked", "J", false)
  | 9 => ("ConflictSolve", "leftOut", "I", false)
  | 10 => ("ConflictSolve", "alternativesFree", "I", false)
  | 11 => ("ConflictSolve", "latestIsDemand", "Z", false)
  | 12 => ("ConflictSolve", "picked", "J", false)
  | _ => ("ConflictSolve", "toBlame", "I", false)
def tyX0 : Nat → FieldType := fun k => match k with
  | 0 => .array .long
  | 1 => .array .long
  | 2 => .array .int
  | 3 => .int
  | 4 => .int
  | 5 => .int
  | 6 => .int
  | 7 => .long
  | 8 => .long
  | 9 => .int
  | 10 => .int
  | 11 => .boolean
  | 12 => .long
  | _ => .int
theorem nmX0 : ∀ a, a < 14 → ∀ b, b < 14 → a ≠ b → (TX0 a).2.1 ≠ (TX0 b).2.1 := by decide +kernel
theorem tyX0_ok : ∀ k, k < 14 → parseFieldDescriptor (TX0 k).2.2.1 = some (tyX0 k) := by decide +kernel
def RX1 : String := "ConflictSolveModel"
def TX1 : u_T := fun k => match k with
  | 0 => ("ConflictSolveModel", "code", "I", false)
  | 1 => ("ConflictSolveModel", "versions", "[I", true)
  | 2 => ("ConflictSolveModel", "locks", "[I", true)
  | 3 => ("ConflictSolveModel", "chosen", "[I", true)
  | 4 => ("ConflictSolveModel", "value", "[I", true)
  | 5 => ("ConflictSolveModel", "order", "[I", true)
  | 6 => ("ConflictSolveModel", "option", "[I", true)
  | 7 => ("ConflictSolveModel", "blames0", "[I", true)
  | 8 => ("ConflictSolveModel", "packages", "I", false)
  | 9 => ("ConflictSolveModel", "rows", "I", false)
  | 10 => ("ConflictSolveModel", "demands", "I", false)
  | 11 => ("ConflictSolveModel", "needed", "I", false)
  | 12 => ("ConflictSolveModel", "pack", "[I", true)
  | 13 => ("ConflictSolveModel", "version", "[I", true)
  | 14 => ("ConflictSolveModel", "kind", "[I", true)
  | 15 => ("ConflictSolveModel", "many", "[I", true)
  | 16 => ("ConflictSolveModel", "other", "[I", true)
  | 17 => ("ConflictSolveModel", "set", "[I", true)
  | 18 => ("ConflictSolveModel", "out", "[Z", true)
  | 19 => ("ConflictSolveModel", "away", "[Z", true)
  | 20 => ("ConflictSolveModel", "latest", "I", false)
  | 21 => ("ConflictSolveModel", "blamed", "[I", true)
  | _ => ("ConflictSolveModel", "blames", "I", false)
def tyX1 : Nat → FieldType := fun k => match k with
  | 0 => .int
  | 1 => .array .int
  | 2 => .array .int
  | 3 => .array .int
  | 4 => .array .int
  | 5 => .array .int
  | 6 => .array .int
  | 7 => .array .int
  | 8 => .int
  | 9 => .int
  | 10 => .int
  | 11 => .int
  | 12 => .array .int
  | 13 => .array .int
  | 14 => .array .int
  | 15 => .array .int
  | 16 => .array .int
  | 17 => .array .int
  | 18 => .array .boolean
  | 19 => .array .boolean
  | 20 => .int
  | 21 => .array .int
  | _ => .int
theorem nmX1 : ∀ a, a < 23 → ∀ b, b < 23 → a ≠ b → (TX1 a).2.1 ≠ (TX1 b).2.1 := by decide +kernel
theorem tyX1_ok : ∀ k, k < 23 → parseFieldDescriptor (TX1 k).2.2.1 = some (tyX1 k) := by decide +kernel
def RJ6 : String := "java/lang/Integer"
def RJ13 : String := "java/lang/Long"
def RL : String := "ConflictSolveLaw"
abbrev cL_law : ByteArray := code
abbrev cX0_init : ByteArray := prog_1_method_1_code
def yX0_init : MethodName := ⟨RX0, "<init>", "()V"⟩
abbrev cX0_pack : ByteArray := prog_1_method_2_code
def yX0_pack : MethodName := ⟨RX0, "pack", "(I)I"⟩
abbrev cX0_row : ByteArray := prog_1_method_3_code
def yX0_row : MethodName := ⟨RX0, "row", "(IIIII)Z"⟩
abbrev cX0_demand : ByteArray := prog_1_method_4_code
def yX0_demand : MethodName := ⟨RX0, "demand", "(III)I"⟩
abbrev cX0_or : ByteArray := prog_1_method_5_code
def yX0_or : MethodName := ⟨RX0, "or", "(II)Z"⟩
abbrev cX0_leaveOut : ByteArray := prog_1_method_6_code
def yX0_leaveOut : MethodName := ⟨RX0, "leaveOut", "(IZ)Z"⟩
abbrev cX0_lock : ByteArray := prog_1_method_7_code
def yX0_lock : MethodName := ⟨RX0, "lock", "(II)Z"⟩
abbrev cX0_solve : ByteArray := prog_1_method_8_code
def yX0_solve : MethodName := ⟨RX0, "solve", "()I"⟩
abbrev cX0_chosen : ByteArray := prog_1_method_9_code
def yX0_chosen : MethodName := ⟨RX0, "chosen", "(I)I"⟩
abbrev cX0_blame : ByteArray := prog_1_method_10_code
def yX0_blame : MethodName := ⟨RX0, "blame", "()I"⟩
abbrev cX0_blamed : ByteArray := prog_1_method_11_code
def yX0_blamed : MethodName := ⟨RX0, "blamed", "(I)I"⟩
abbrev cX0_can : ByteArray := prog_1_method_12_code
def yX0_can : MethodName := ⟨RX0, "can", "(II)Z"⟩
abbrev cX0_must : ByteArray := prog_1_method_13_code
def yX0_must : MethodName := ⟨RX0, "must", "(I)Z"⟩
abbrev cX0_hasPack : ByteArray := prog_1_method_14_code
def yX0_hasPack : MethodName := ⟨RX0, "hasPack", "(I)Z"⟩
abbrev cX0_hasVersion : ByteArray := prog_1_method_15_code
def yX0_hasVersion : MethodName := ⟨RX0, "hasVersion", "(II)Z"⟩
abbrev cX0_hasPlace : ByteArray := prog_1_method_16_code
def yX0_hasPlace : MethodName := ⟨RX0, "hasPlace", "(II)Z"⟩
abbrev cX0_isKind : ByteArray := prog_1_method_17_code
def yX0_isKind : MethodName := ⟨RX0, "isKind", "(I)Z"⟩
abbrev cX0_allOf : ByteArray := prog_1_method_18_code
def yX0_allOf : MethodName := ⟨RX0, "allOf", "(I)J"⟩
abbrev cX0_noneOf : ByteArray := prog_1_method_19_code
def yX0_noneOf : MethodName := ⟨RX0, "noneOf", "(I)J"⟩
abbrev cX0_versionsOf : ByteArray := prog_1_method_20_code
def yX0_versionsOf : MethodName := ⟨RX0, "versionsOf", "(II)J"⟩
abbrev cX0_placeOf : ByteArray := prog_1_method_21_code
def yX0_placeOf : MethodName := ⟨RX0, "placeOf", "(II)J"⟩
abbrev cX0_keeping : ByteArray := prog_1_method_22_code
def yX0_keeping : MethodName := ⟨RX0, "keeping", "(III)J"⟩
abbrev cX0_startAlternatives : ByteArray := prog_1_method_23_code
def yX0_startAlternatives : MethodName := ⟨RX0, "startAlternatives", "(IZ)V"⟩
abbrev cX0_addToLatestDemand : ByteArray := prog_1_method_24_code
def yX0_addToLatestDemand : MethodName := ⟨RX0, "addToLatestDemand", "(II)V"⟩
abbrev cX0_addToLatestRow : ByteArray := prog_1_method_25_code
def yX0_addToLatestRow : MethodName := ⟨RX0, "addToLatestRow", "(II)V"⟩
abbrev cX0_moveToNeeded : ByteArray := prog_1_method_26_code
def yX0_moveToNeeded : MethodName := ⟨RX0, "moveToNeeded", "(I)V"⟩
abbrev cX0_positionOf : ByteArray := prog_1_method_27_code
def yX0_positionOf : MethodName := ⟨RX0, "positionOf", "(I)I"⟩
abbrev cX0_demandsThatCount : ByteArray := prog_1_method_28_code
def yX0_demandsThatCount : MethodName := ⟨RX0, "demandsThatCount", "()I"⟩
abbrev cX0_someRightGives : ByteArray := prog_1_method_29_code
def yX0_someRightGives : MethodName := ⟨RX0, "someRightGives", "(II)Z"⟩
abbrev cX0_someRightKeeps : ByteArray := prog_1_method_30_code
def yX0_someRightKeeps : MethodName := ⟨RX0, "someRightKeeps", "(I)Z"⟩
abbrev cX0_firstWithin : ByteArray := prog_1_method_31_code
def yX0_firstWithin : MethodName := ⟨RX0, "firstWithin", "(JII)J"⟩
abbrev cX0_firstOf : ByteArray := prog_1_method_32_code
def yX0_firstOf : MethodName := ⟨RX0, "firstOf", "(JII)J"⟩
abbrev cX0_placeAt : ByteArray := prog_1_method_33_code
def yX0_placeAt : MethodName := ⟨RX0, "placeAt", "(IIZ)J"⟩
abbrev cX0_narrow : ByteArray := prog_1_method_34_code
def yX0_narrow : MethodName := ⟨RX0, "narrow", "(JI)J"⟩
abbrev cX0_narrowByRule : ByteArray := prog_1_method_35_code
def yX0_narrowByRule : MethodName := ⟨RX0, "narrowByRule", "(JJ)J"⟩
abbrev cX1_init : ByteArray := prog_3_method_1_code
def yX1_init : MethodName := ⟨RX1, "<init>", "()V"⟩
abbrev cX1_isPackage : ByteArray := prog_3_method_3_code
def yX1_isPackage : MethodName := ⟨RX1, "isPackage", "(I)Z"⟩
abbrev cX1_isVersion : ByteArray := prog_3_method_4_code
def yX1_isVersion : MethodName := ⟨RX1, "isVersion", "(II)Z"⟩
abbrev cX1_pack : ByteArray := prog_3_method_5_code
def yX1_pack : MethodName := ⟨RX1, "pack", "(I)I"⟩
abbrev cX1_keep : ByteArray := prog_3_method_6_code
def yX1_keep : MethodName := ⟨RX1, "keep", "(IIII)V"⟩
abbrev cX1_row : ByteArray := prog_3_method_7_code
def yX1_row : MethodName := ⟨RX1, "row", "(IIIII)Z"⟩
abbrev cX1_demand : ByteArray := prog_3_method_8_code
def yX1_demand : MethodName := ⟨RX1, "demand", "(III)I"⟩
abbrev cX1_or : ByteArray := prog_3_method_9_code
def yX1_or : MethodName := ⟨RX1, "or", "(II)Z"⟩
abbrev cX1_leaveOut : ByteArray := prog_3_method_10_code
def yX1_leaveOut : MethodName := ⟨RX1, "leaveOut", "(IZ)Z"⟩
abbrev cX1_lock : ByteArray := prog_3_method_11_code
def yX1_lock : MethodName := ⟨RX1, "lock", "(II)Z"⟩
abbrev cX1_isBroken : ByteArray := prog_3_method_12_code
def yX1_isBroken : MethodName := ⟨RX1, "isBroken", "(I)Z"⟩
abbrev cX1_broken : ByteArray := prog_3_method_13_code
def yX1_broken : MethodName := ⟨RX1, "broken", "()I"⟩
abbrev cX1_others : ByteArray := prog_3_method_14_code
def yX1_others : MethodName := ⟨RX1, "others", "(I)I"⟩
abbrev cX1_arrange : ByteArray := prog_3_method_15_code
def yX1_arrange : MethodName := ⟨RX1, "arrange", "()V"⟩
abbrev cX1_place : ByteArray := prog_3_method_16_code
def yX1_place : MethodName := ⟨RX1, "place", "(I)V"⟩
abbrev cX1_rank : ByteArray := prog_3_method_17_code
def yX1_rank : MethodName := ⟨RX1, "rank", "(II)I"⟩
abbrev cX1_ranked : ByteArray := prog_3_method_18_code
def yX1_ranked : MethodName := ⟨RX1, "ranked", "(II)I"⟩
abbrev cX1_search : ByteArray := prog_3_method_19_code
def yX1_search : MethodName := ⟨RX1, "search", "(II)Z"⟩
abbrev cX1_goes : ByteArray := prog_3_method_20_code
def yX1_goes : MethodName := ⟨RX1, "goes", "(III)Z"⟩
abbrev cX1_none : ByteArray := prog_3_method_21_code
def yX1_none : MethodName := ⟨RX1, "none", "()V"⟩
abbrev cX1_solve : ByteArray := prog_3_method_22_code
def yX1_solve : MethodName := ⟨RX1, "solve", "()I"⟩
abbrev cX1_chosen : ByteArray := prog_3_method_23_code
def yX1_chosen : MethodName := ⟨RX1, "chosen", "(I)I"⟩
abbrev cX1_blame : ByteArray := prog_3_method_24_code
def yX1_blame : MethodName := ⟨RX1, "blame", "()I"⟩
abbrev cX1_blamed : ByteArray := prog_3_method_25_code
def yX1_blamed : MethodName := ⟨RX1, "blamed", "(I)I"⟩
abbrev cX1_can : ByteArray := prog_3_method_26_code
def yX1_can : MethodName := ⟨RX1, "can", "(II)Z"⟩
abbrev cX1_must : ByteArray := prog_3_method_27_code
def yX1_must : MethodName := ⟨RX1, "must", "(I)Z"⟩
abbrev cJ6_bitCount : ByteArray := prog_4_method_49_code
def yJ6_bitCount : MethodName := ⟨RJ6, "bitCount", "(I)I"⟩
abbrev cJ13_bitCount : ByteArray := prog_5_method_50_code
def yJ13_bitCount : MethodName := ⟨RJ13, "bitCount", "(J)I"⟩
abbrev vwCl : List vw_C := [(RX0, TX0, 14), (RX1, TX1, 23)]
/-- the words that every method here is given: the good ones of the tables -/
def TW : List Cond := lw_tbl.filter goodWord
theorem tw_in {w : Cond} (h : w ∈ lw_tbl) (g : goodWord w = true) : w ∈ TW := List.mem_filter.mpr ⟨h, g⟩
theorem tw_tbl {w : Cond} (h : w ∈ TW) : w ∈ lw_tbl := (List.mem_filter.mp h).1
theorem tw_g {c0 : Cond} (ys : List Cond) (h : ∀ w ∈ ys, w ∈ TW) : GoodIn (c0 :: TW) (ys ++ TW) := fun w hw => by
  have hm : w ∈ TW := (List.mem_append.mp hw).elim (h w) id
  exact ⟨List.mem_cons_of_mem _ hm, good_of_word (List.mem_filter.mp hm).2⟩
theorem tw_l (ys : List Cond) (h : ∀ w ∈ ys, w ∈ TW) : GoodIn lw_tbl (ys ++ TW) := fun w hw => by
  have hm : w ∈ TW := (List.mem_append.mp hw).elim (h w) id
  exact ⟨tw_tbl hm, good_of_word (List.mem_filter.mp hm).2⟩
theorem inX0 : ∀ w ∈ u_ws RX0 TX0 14, w ∈ lw_tbl := by decide +kernel
theorem inGX0 : ∀ w ∈ u_ws RX0 TX0 14, goodWord w = true := by decide +kernel
theorem inTX0 : ∀ w ∈ u_ws RX0 TX0 14, w ∈ TW := fun w h => tw_in (inX0 w h) (inGX0 w h)
theorem inX1 : ∀ w ∈ u_ws RX1 TX1 23, w ∈ lw_tbl := by decide +kernel
theorem inGX1 : ∀ w ∈ u_ws RX1 TX1 23, goodWord w = true := by decide +kernel
theorem inTX1 : ∀ w ∈ u_ws RX1 TX1 23, w ∈ TW := fun w h => tw_in (inX1 w h) (inGX1 w h)
end
section
theorem tz_0 : (Cond.selects RX0 yX0_hasVersion yX0_hasVersion : Cond) ∈ TW := tw_in (List.mem_of_getElem? (i := 0) (by decide +kernel)) (by decide +kernel)
theorem tz_1 : (Cond.selects RX0 yX0_hasPack yX0_hasPack : Cond) ∈ TW := tw_in (List.mem_of_getElem? (i := 1) (by decide +kernel)) (by decide +kernel)
theorem tz_2 : (Cond.selects RX0 yX0_startAlternatives yX0_startAlternatives : Cond) ∈ TW := tw_in (List.mem_of_getElem? (i := 2) (by decide +kernel)) (by decide +kernel)
theorem tz_3 : (Cond.selects RX0 yX0_moveToNeeded yX0_moveToNeeded : Cond) ∈ TW := tw_in (List.mem_of_getElem? (i := 3) (by decide +kernel)) (by decide +kernel)
theorem tz_4 : (Cond.selects RX0 yX0_positionOf yX0_positionOf : Cond) ∈ TW := tw_in (List.mem_of_getElem? (i := 4) (by decide +kernel)) (by decide +kernel)
theorem tz_5 : (Cond.selects RX0 yX0_addToLatestDemand yX0_addToLatestDemand : Cond) ∈ TW := tw_in (List.mem_of_getElem? (i := 5) (by decide +kernel)) (by decide +kernel)
theorem tz_6 : (Cond.selects RX0 yX0_addToLatestRow yX0_addToLatestRow : Cond) ∈ TW := tw_in (List.mem_of_getElem? (i := 6) (by decide +kernel)) (by decide +kernel)
theorem tz_7 : (Cond.selects RX0 yX0_hasPlace yX0_hasPlace : Cond) ∈ TW := tw_in (List.mem_of_getElem? (i := 7) (by decide +kernel)) (by decide +kernel)
theorem tz_8 : (Cond.selects RX0 yX0_demandsThatCount yX0_demandsThatCount : Cond) ∈ TW := tw_in (List.mem_of_getElem? (i := 8) (by decide +kernel)) (by decide +kernel)
theorem tz_9 : (Cond.selects RX0 yX0_firstWithin yX0_firstWithin : Cond) ∈ TW := tw_in (List.mem_of_getElem? (i := 9) (by decide +kernel)) (by decide +kernel)
theorem tz_10 : (Cond.selects RX0 yX0_narrow yX0_narrow : Cond) ∈ TW := tw_in (List.mem_of_getElem? (i := 10) (by decide +kernel)) (by decide +kernel)
theorem tz_11 : (Cond.selects RX0 yX0_firstOf yX0_firstOf : Cond) ∈ TW := tw_in (List.mem_of_getElem? (i := 11) (by decide +kernel)) (by decide +kernel)
theorem tz_12 : (Cond.selects RX0 yX0_placeAt yX0_placeAt : Cond) ∈ TW := tw_in (List.mem_of_getElem? (i := 12) (by decide +kernel)) (by decide +kernel)
theorem tz_13 : (Cond.selects RX0 yX0_someRightKeeps yX0_someRightKeeps : Cond) ∈ TW := tw_in (List.mem_of_getElem? (i := 13) (by decide +kernel)) (by decide +kernel)
theorem tz_14 : (Cond.selects RX0 yX0_someRightGives yX0_someRightGives : Cond) ∈ TW := tw_in (List.mem_of_getElem? (i := 14) (by decide +kernel)) (by decide +kernel)
theorem tz_15 : (Cond.selects RX1 yX1_isVersion yX1_isVersion : Cond) ∈ TW := tw_in (List.mem_of_getElem? (i := 15) (by decide +kernel)) (by decide +kernel)
theorem tz_16 : (Cond.selects RX1 yX1_isPackage yX1_isPackage : Cond) ∈ TW := tw_in (List.mem_of_getElem? (i := 16) (by decide +kernel)) (by decide +kernel)
theorem tz_17 : (Cond.selects RX1 yX1_keep yX1_keep : Cond) ∈ TW := tw_in (List.mem_of_getElem? (i := 17) (by decide +kernel)) (by decide +kernel)
theorem tz_18 : (Cond.selects RX1 yX1_none yX1_none : Cond) ∈ TW := tw_in (List.mem_of_getElem? (i := 18) (by decide +kernel)) (by decide +kernel)
theorem tz_19 : (Cond.selects RX1 yX1_search yX1_search : Cond) ∈ TW := tw_in (List.mem_of_getElem? (i := 19) (by decide +kernel)) (by decide +kernel)
theorem tz_20 : (Cond.selects RX1 yX1_arrange yX1_arrange : Cond) ∈ TW := tw_in (List.mem_of_getElem? (i := 20) (by decide +kernel)) (by decide +kernel)
theorem tz_21 : (Cond.selects RX1 yX1_place yX1_place : Cond) ∈ TW := tw_in (List.mem_of_getElem? (i := 21) (by decide +kernel)) (by decide +kernel)
theorem tz_22 : (Cond.selects RX1 yX1_goes yX1_goes : Cond) ∈ TW := tw_in (List.mem_of_getElem? (i := 22) (by decide +kernel)) (by decide +kernel)
theorem tz_23 : (Cond.selects RX1 yX1_ranked yX1_ranked : Cond) ∈ TW := tw_in (List.mem_of_getElem? (i := 23) (by decide +kernel)) (by decide +kernel)
theorem tz_24 : (Cond.selects RX1 yX1_rank yX1_rank : Cond) ∈ TW := tw_in (List.mem_of_getElem? (i := 24) (by decide +kernel)) (by decide +kernel)
theorem tz_25 : (Cond.selects RX1 yX1_broken yX1_broken : Cond) ∈ TW := tw_in (List.mem_of_getElem? (i := 25) (by decide +kernel)) (by decide +kernel)
theorem tz_26 : (Cond.selects RX1 yX1_isBroken yX1_isBroken : Cond) ∈ TW := tw_in (List.mem_of_getElem? (i := 26) (by decide +kernel)) (by decide +kernel)
theorem tz_27 : (Cond.selects RX1 yX1_others yX1_others : Cond) ∈ TW := tw_in (List.mem_of_getElem? (i := 27) (by decide +kernel)) (by decide +kernel)
theorem tz_29 : (Cond.initialized RX0 : Cond) ∈ TW := tw_in (List.mem_of_getElem? (i := 29) (by decide +kernel)) (by decide +kernel)
theorem tz_30 : (Cond.initialized RX1 : Cond) ∈ TW := tw_in (List.mem_of_getElem? (i := 30) (by decide +kernel)) (by decide +kernel)
theorem tz_31 : (Cond.initialized RJ13 : Cond) ∈ TW := tw_in (List.mem_of_getElem? (i := 31) (by decide +kernel)) (by decide +kernel)
theorem tz_32 : (Cond.initialized RJ6 : Cond) ∈ TW := tw_in (List.mem_of_getElem? (i := 32) (by decide +kernel)) (by decide +kernel)
theorem tz_33 : (Cond.classLink RL 7 RX0 : Cond) ∈ TW := tw_in (List.mem_of_getElem? (i := 33) (by decide +kernel)) (by decide +kernel)
theorem tz_34 : (Cond.instantiable RX0 14 : Cond) ∈ TW := tw_in (List.mem_of_getElem? (i := 34) (by decide +kernel)) (by decide +kernel)
theorem tz_35 : (Cond.methodLink RL 9 yX0_init : Cond) ∈ TW := tw_in (List.mem_of_getElem? (i := 35) (by decide +kernel)) (by decide +kernel)
theorem tz_36 : (Cond.instanceMethod yX0_init : Cond) ∈ TW := tw_in (List.mem_of_getElem? (i := 36) (by decide +kernel)) (by decide +kernel)
theorem tz_37 : (Cond.code yX0_init cX0_init 2 none : Cond) ∈ TW := tw_in (List.mem_of_getElem? (i := 37) rfl) (by decide +kernel)
theorem tz_38 : (Cond.methodLink RX0 1 objectInit : Cond) ∈ TW := tw_in (List.mem_of_getElem? (i := 38) (by decide +kernel)) (by decide +kernel)
theorem tz_39 : (Cond.instanceMethod objectInit : Cond) ∈ TW := tw_in (List.mem_of_getElem? (i := 39) (by decide +kernel)) (by decide +kernel)
theorem tz_40 : (Cond.code objectInit ⟨#[0xb1]⟩ 1 none : Cond) ∈ TW := tw_in (List.mem_of_getElem? (i := 40) rfl) (by decide +kernel)
theorem tz_41 : (Cond.constantLong RX0 20 (4629771061636907072) : Cond) ∈ TW := tw_in (List.mem_of_getElem? (i := 41) (by decide +kernel)) (by decide +kernel)
theorem tz_42 : (Cond.fieldLink RX0 9 "ConflictSolve" "rowRules" "[J" : Cond) ∈ TW := tw_in (List.mem_of_getElem? (i := 42) (by decide +kernel)) (by decide +kernel)
theorem tz_43 : (Cond.fieldLink RX0 13 "ConflictSolve" "demandRules" "[J" : Cond) ∈ TW := tw_in (List.mem_of_getElem? (i := 43) (by decide +kernel)) (by decide +kernel)
theorem tz_44 : (Cond.fieldLink RX0 16 "ConflictSolve" "order" "[I" : Cond) ∈ TW := tw_in (List.mem_of_getElem? (i := 44) (by decide +kernel)) (by decide +kernel)
theorem tz_45 : (Cond.fieldLink RX0 26 "ConflictSolve" "packs" "I" : Cond) ∈ TW := tw_in (List.mem_of_getElem? (i := 45) (by decide +kernel)) (by decide +kernel)
theorem tz_46 : (Cond.fieldLink RX0 34 "ConflictSolve" "rows" "I" : Cond) ∈ TW := tw_in (List.mem_of_getElem? (i := 46) (by decide +kernel)) (by decide +kernel)
theorem tz_47 : (Cond.fieldLink RX0 65 "ConflictSolve" "demands" "I" : Cond) ∈ TW := tw_in (List.mem_of_getElem? (i := 47) (by decide +kernel)) (by decide +kernel)
theorem tz_48 : (Cond.fieldLink RX0 133 "ConflictSolve" "neededPacks" "I" : Cond) ∈ TW := tw_in (List.mem_of_getElem? (i := 48) (by decide +kernel)) (by decide +kernel)
theorem tz_49 : (Cond.fieldLink RX0 22 "ConflictSolve" "places" "J" : Cond) ∈ TW := tw_in (List.mem_of_getElem? (i := 49) (by decide +kernel)) (by decide +kernel)
theorem tz_50 : (Cond.fieldLink RX0 92 "ConflictSolve" "locked" "J" : Cond) ∈ TW := tw_in (List.mem_of_getElem? (i := 50) (by decide +kernel)) (by decide +kernel)
theorem tz_51 : (Cond.fieldLink RX0 86 "ConflictSolve" "leftOut" "I" : Cond) ∈ TW := tw_in (List.mem_of_getElem? (i := 51) (by decide +kernel)) (by decide +kernel)
theorem tz_52 : (Cond.fieldLink RX0 72 "ConflictSolve" "alternativesFree" "I" : Cond) ∈ TW := tw_in (List.mem_of_getElem? (i := 52) (by decide +kernel)) (by decide +kernel)
theorem tz_53 : (Cond.fieldLink RX0 75 "ConflictSolve" "latestIsDemand" "Z" : Cond) ∈ TW := tw_in (List.mem_of_getElem? (i := 53) (by decide +kernel)) (by decide +kernel)
theorem tz_54 : (Cond.fieldLink RX0 103 "ConflictSolve" "picked" "J" : Cond) ∈ TW := tw_in (List.mem_of_getElem? (i := 54) (by decide +kernel)) (by decide +kernel)
theorem tz_55 : (Cond.fieldLink RX0 106 "ConflictSolve" "toBlame" "I" : Cond) ∈ TW := tw_in (List.mem_of_getElem? (i := 55) (by decide +kernel)) (by decide +kernel)
theorem tz_85 : (Cond.arrayClass .long : Cond) ∈ TW := tw_in (List.mem_of_getElem? (i := 85) (by decide +kernel)) (by decide +kernel)
theorem tz_86 : (Cond.arrayClass .int : Cond) ∈ TW := tw_in (List.mem_of_getElem? (i := 86) (by decide +kernel)) (by decide +kernel)
theorem tz_87 : (Cond.methodLink RL 13 yX0_pack : Cond) ∈ TW := tw_in (List.mem_of_getElem? (i := 87) (by decide +kernel)) (by decide +kernel)
theorem tz_88 : (Cond.instanceMethod yX0_pack : Cond) ∈ TW := tw_in (List.mem_of_getElem? (i := 88) (by decide +kernel)) (by decide +kernel)
theorem tz_89 : (Cond.selects RX0 yX0_pack yX0_pack : Cond) ∈ TW := tw_in (List.mem_of_getElem? (i := 89) (by decide +kernel)) (by decide +kernel)
theorem tz_90 : (Cond.code yX0_pack cX0_pack 3 (some .int) : Cond) ∈ TW := tw_in (List.mem_of_getElem? (i := 90) rfl) (by decide +kernel)
theorem tz_91 : (Cond.methodLink RX0 30 yX0_versionsOf : Cond) ∈ TW := tw_in (List.mem_of_getElem? (i := 91) (by decide +kernel)) (by decide +kernel)
theorem tz_92 : (Cond.static yX0_versionsOf : Cond) ∈ TW := tw_in (List.mem_of_getElem? (i := 92) (by decide +kernel)) (by decide +kernel)
theorem tz_93 : (Cond.code yX0_versionsOf cX0_versionsOf 2 (some .long) : Cond) ∈ TW := tw_in (List.mem_of_getElem? (i := 93) rfl) (by decide +kernel)
theorem tz_94 : (Cond.constantLong RX0 125 (63) : Cond) ∈ TW := tw_in (List.mem_of_getElem? (i := 94) (by decide +kernel)) (by decide +kernel)
theorem tz_95 : (Cond.methodLink RL 18 yX0_row : Cond) ∈ TW := tw_in (List.mem_of_getElem? (i := 95) (by decide +kernel)) (by decide +kernel)
theorem tz_96 : (Cond.instanceMethod yX0_row : Cond) ∈ TW := tw_in (List.mem_of_getElem? (i := 96) (by decide +kernel)) (by decide +kernel)
theorem tz_97 : (Cond.selects RX0 yX0_row yX0_row : Cond) ∈ TW := tw_in (List.mem_of_getElem? (i := 97) (by decide +kernel)) (by decide +kernel)
theorem tz_98 : (Cond.code yX0_row cX0_row 8 (some .boolean) : Cond) ∈ TW := tw_in (List.mem_of_getElem? (i := 98) rfl) (by decide +kernel)
theorem tz_99 : (Cond.methodLink RX0 37 yX0_hasVersion : Cond) ∈ TW := tw_in (List.mem_of_getElem? (i := 99) (by decide +kernel)) (by decide +kernel)
theorem tz_101 : (Cond.instanceMethod yX0_hasVersion : Cond) ∈ TW := tw_in (List.mem_of_getElem? (i := 101) (by decide +kernel)) (by decide +kernel)
theorem tz_102 : (Cond.code yX0_hasVersion cX0_hasVersion 3 (some .boolean) : Cond) ∈ TW := tw_in (List.mem_of_getElem? (i := 102) rfl) (by decide +kernel)
theorem tz_103 : (Cond.methodLink RX0 45 yX0_hasPack : Cond) ∈ TW := tw_in (List.mem_of_getElem? (i := 103) (by decide +kernel)) (by decide +kernel)
theorem tz_105 : (Cond.instanceMethod yX0_hasPack : Cond) ∈ TW := tw_in (List.mem_of_getElem? (i := 105) (by decide +kernel)) (by decide +kernel)
theorem tz_106 : (Cond.code yX0_hasPack cX0_hasPack 2 (some .boolean) : Cond) ∈ TW := tw_in (List.mem_of_getElem? (i := 106) rfl) (by decide +kernel)
theorem tz_107 : (Cond.methodLink RX0 52 yX0_placeOf : Cond) ∈ TW := tw_in (List.mem_of_getElem? (i := 107) (by decide +kernel)) (by decide +kernel)
theorem tz_108 : (Cond.static yX0_placeOf : Cond) ∈ TW := tw_in (List.mem_of_getElem? (i := 108) (by decide +kernel)) (by decide +kernel)
theorem tz_109 : (Cond.code yX0_placeOf cX0_placeOf 2 (some .long) : Cond) ∈ TW := tw_in (List.mem_of_getElem? (i := 109) rfl) (by decide +kernel)
theorem tz_110 : (Cond.methodLink RX0 127 yX0_noneOf : Cond) ∈ TW := tw_in (List.mem_of_getElem? (i := 110) (by decide +kernel)) (by decide +kernel)
theorem tz_111 : (Cond.static yX0_noneOf : Cond) ∈ TW := tw_in (List.mem_of_getElem? (i := 111) (by decide +kernel)) (by decide +kernel)
theorem tz_112 : (Cond.code yX0_noneOf cX0_noneOf 1 (some .long) : Cond) ∈ TW := tw_in (List.mem_of_getElem? (i := 112) rfl) (by decide +kernel)
theorem tz_113 : (Cond.constantLong RX0 123 (64) : Cond) ∈ TW := tw_in (List.mem_of_getElem? (i := 113) (by decide +kernel)) (by decide +kernel)
theorem tz_114 : (Cond.methodLink RX0 41 yX0_isKind : Cond) ∈ TW := tw_in (List.mem_of_getElem? (i := 114) (by decide +kernel)) (by decide +kernel)
theorem tz_115 : (Cond.static yX0_isKind : Cond) ∈ TW := tw_in (List.mem_of_getElem? (i := 115) (by decide +kernel)) (by decide +kernel)
theorem tz_116 : (Cond.code yX0_isKind cX0_isKind 1 (some .boolean) : Cond) ∈ TW := tw_in (List.mem_of_getElem? (i := 116) rfl) (by decide +kernel)
theorem tz_117 : (Cond.methodLink RX0 48 yX0_allOf : Cond) ∈ TW := tw_in (List.mem_of_getElem? (i := 117) (by decide +kernel)) (by decide +kernel)
theorem tz_118 : (Cond.static yX0_allOf : Cond) ∈ TW := tw_in (List.mem_of_getElem? (i := 118) (by decide +kernel)) (by decide +kernel)
theorem tz_119 : (Cond.code yX0_allOf cX0_allOf 1 (some .long) : Cond) ∈ TW := tw_in (List.mem_of_getElem? (i := 119) rfl) (by decide +kernel)
theorem tz_120 : (Cond.constantLong RX0 121 (127) : Cond) ∈ TW := tw_in (List.mem_of_getElem? (i := 120) (by decide +kernel)) (by decide +kernel)
theorem tz_121 : (Cond.constantLong RX0 55 (-1) : Cond) ∈ TW := tw_in (List.mem_of_getElem? (i := 121) (by decide +kernel)) (by decide +kernel)
theorem tz_122 : (Cond.methodLink RX0 57 yX0_keeping : Cond) ∈ TW := tw_in (List.mem_of_getElem? (i := 122) (by decide +kernel)) (by decide +kernel)
theorem tz_123 : (Cond.static yX0_keeping : Cond) ∈ TW := tw_in (List.mem_of_getElem? (i := 123) (by decide +kernel)) (by decide +kernel)
theorem tz_124 : (Cond.code yX0_keeping cX0_keeping 5 (some .long) : Cond) ∈ TW := tw_in (List.mem_of_getElem? (i := 124) rfl) (by decide +kernel)
theorem tz_125 : (Cond.methodLink RX0 61 yX0_startAlternatives : Cond) ∈ TW := tw_in (List.mem_of_getElem? (i := 125) (by decide +kernel)) (by decide +kernel)
theorem tz_127 : (Cond.instanceMethod yX0_startAlternatives : Cond) ∈ TW := tw_in (List.mem_of_getElem? (i := 127) (by decide +kernel)) (by decide +kernel)
theorem tz_128 : (Cond.code yX0_startAlternatives cX0_startAlternatives 3 none : Cond) ∈ TW := tw_in (List.mem_of_getElem? (i := 128) rfl) (by decide +kernel)
theorem tz_129 : (Cond.methodLink RL 23 yX0_demand : Cond) ∈ TW := tw_in (List.mem_of_getElem? (i := 129) (by decide +kernel)) (by decide +kernel)
theorem tz_130 : (Cond.instanceMethod yX0_demand : Cond) ∈ TW := tw_in (List.mem_of_getElem? (i := 130) (by decide +kernel)) (by decide +kernel)
theorem tz_131 : (Cond.selects RX0 yX0_demand yX0_demand : Cond) ∈ TW := tw_in (List.mem_of_getElem? (i := 131) (by decide +kernel)) (by decide +kernel)
theorem tz_132 : (Cond.code yX0_demand cX0_demand 5 (some .int) : Cond) ∈ TW := tw_in (List.mem_of_getElem? (i := 132) rfl) (by decide +kernel)
theorem tz_133 : (Cond.methodLink RX0 68 yX0_moveToNeeded : Cond) ∈ TW := tw_in (List.mem_of_getElem? (i := 133) (by decide +kernel)) (by decide +kernel)
theorem tz_135 : (Cond.instanceMethod yX0_moveToNeeded : Cond) ∈ TW := tw_in (List.mem_of_getElem? (i := 135) (by decide +kernel)) (by decide +kernel)
theorem tz_136 : (Cond.code yX0_moveToNeeded cX0_moveToNeeded 4 none : Cond) ∈ TW := tw_in (List.mem_of_getElem? (i := 136) rfl) (by decide +kernel)
theorem tz_137 : (Cond.methodLink RX0 130 yX0_positionOf : Cond) ∈ TW := tw_in (List.mem_of_getElem? (i := 137) (by decide +kernel)) (by decide +kernel)
theorem tz_139 : (Cond.instanceMethod yX0_positionOf : Cond) ∈ TW := tw_in (List.mem_of_getElem? (i := 139) (by decide +kernel)) (by decide +kernel)
theorem tz_140 : (Cond.code yX0_positionOf cX0_positionOf 3 (some .int) : Cond) ∈ TW := tw_in (List.mem_of_getElem? (i := 140) rfl) (by decide +kernel)
theorem tz_141 : (Cond.methodLink RL 28 yX0_or : Cond) ∈ TW := tw_in (List.mem_of_getElem? (i := 141) (by decide +kernel)) (by decide +kernel)
theorem tz_142 : (Cond.instanceMethod yX0_or : Cond) ∈ TW := tw_in (List.mem_of_getElem? (i := 142) (by decide +kernel)) (by decide +kernel)
theorem tz_143 : (Cond.selects RX0 yX0_or yX0_or : Cond) ∈ TW := tw_in (List.mem_of_getElem? (i := 143) (by decide +kernel)) (by decide +kernel)
theorem tz_144 : (Cond.code yX0_or cX0_or 3 (some .boolean) : Cond) ∈ TW := tw_in (List.mem_of_getElem? (i := 144) rfl) (by decide +kernel)
theorem tz_145 : (Cond.methodLink RX0 79 yX0_addToLatestDemand : Cond) ∈ TW := tw_in (List.mem_of_getElem? (i := 145) (by decide +kernel)) (by decide +kernel)
theorem tz_147 : (Cond.instanceMethod yX0_addToLatestDemand : Cond) ∈ TW := tw_in (List.mem_of_getElem? (i := 147) (by decide +kernel)) (by decide +kernel)
theorem tz_148 : (Cond.code yX0_addToLatestDemand cX0_addToLatestDemand 3 none : Cond) ∈ TW := tw_in (List.mem_of_getElem? (i := 148) rfl) (by decide +kernel)
theorem tz_149 : (Cond.methodLink RX0 83 yX0_addToLatestRow : Cond) ∈ TW := tw_in (List.mem_of_getElem? (i := 149) (by decide +kernel)) (by decide +kernel)
theorem tz_151 : (Cond.instanceMethod yX0_addToLatestRow : Cond) ∈ TW := tw_in (List.mem_of_getElem? (i := 151) (by decide +kernel)) (by decide +kernel)
theorem tz_152 : (Cond.code yX0_addToLatestRow cX0_addToLatestRow 3 none : Cond) ∈ TW := tw_in (List.mem_of_getElem? (i := 152) rfl) (by decide +kernel)
theorem tz_153 : (Cond.methodLink RL 33 yX0_leaveOut : Cond) ∈ TW := tw_in (List.mem_of_getElem? (i := 153) (by decide +kernel)) (by decide +kernel)
theorem tz_154 : (Cond.instanceMethod yX0_leaveOut : Cond) ∈ TW := tw_in (List.mem_of_getElem? (i := 154) (by decide +kernel)) (by decide +kernel)
theorem tz_155 : (Cond.selects RX0 yX0_leaveOut yX0_leaveOut : Cond) ∈ TW := tw_in (List.mem_of_getElem? (i := 155) (by decide +kernel)) (by decide +kernel)
theorem tz_156 : (Cond.code yX0_leaveOut cX0_leaveOut 5 (some .boolean) : Cond) ∈ TW := tw_in (List.mem_of_getElem? (i := 156) rfl) (by decide +kernel)
theorem tz_157 : (Cond.methodLink RL 38 yX0_lock : Cond) ∈ TW := tw_in (List.mem_of_getElem? (i := 157) (by decide +kernel)) (by decide +kernel)
theorem tz_158 : (Cond.instanceMethod yX0_lock : Cond) ∈ TW := tw_in (List.mem_of_getElem? (i := 158) (by decide +kernel)) (by decide +kernel)
theorem tz_159 : (Cond.selects RX0 yX0_lock yX0_lock : Cond) ∈ TW := tw_in (List.mem_of_getElem? (i := 159) (by decide +kernel)) (by decide +kernel)
theorem tz_160 : (Cond.code yX0_lock cX0_lock 3 (some .boolean) : Cond) ∈ TW := tw_in (List.mem_of_getElem? (i := 160) rfl) (by decide +kernel)
theorem tz_161 : (Cond.methodLink RX0 89 yX0_hasPlace : Cond) ∈ TW := tw_in (List.mem_of_getElem? (i := 161) (by decide +kernel)) (by decide +kernel)
theorem tz_163 : (Cond.instanceMethod yX0_hasPlace : Cond) ∈ TW := tw_in (List.mem_of_getElem? (i := 163) (by decide +kernel)) (by decide +kernel)
theorem tz_164 : (Cond.code yX0_hasPlace cX0_hasPlace 3 (some .boolean) : Cond) ∈ TW := tw_in (List.mem_of_getElem? (i := 164) rfl) (by decide +kernel)
theorem tz_165 : (Cond.methodLink RL 42 yX0_solve : Cond) ∈ TW := tw_in (List.mem_of_getElem? (i := 165) (by decide +kernel)) (by decide +kernel)
theorem tz_166 : (Cond.instanceMethod yX0_solve : Cond) ∈ TW := tw_in (List.mem_of_getElem? (i := 166) (by decide +kernel)) (by decide +kernel)
theorem tz_167 : (Cond.selects RX0 yX0_solve yX0_solve : Cond) ∈ TW := tw_in (List.mem_of_getElem? (i := 167) (by decide +kernel)) (by decide +kernel)
theorem tz_168 : (Cond.code yX0_solve cX0_solve 1 (some .int) : Cond) ∈ TW := tw_in (List.mem_of_getElem? (i := 168) rfl) (by decide +kernel)
theorem tz_169 : (Cond.methodLink RX0 95 yX0_demandsThatCount : Cond) ∈ TW := tw_in (List.mem_of_getElem? (i := 169) (by decide +kernel)) (by decide +kernel)
theorem tz_171 : (Cond.instanceMethod yX0_demandsThatCount : Cond) ∈ TW := tw_in (List.mem_of_getElem? (i := 171) (by decide +kernel)) (by decide +kernel)
theorem tz_172 : (Cond.code yX0_demandsThatCount cX0_demandsThatCount 1 (some .int) : Cond) ∈ TW := tw_in (List.mem_of_getElem? (i := 172) rfl) (by decide +kernel)
theorem tz_173 : (Cond.methodLink RX0 99 yX0_firstWithin : Cond) ∈ TW := tw_in (List.mem_of_getElem? (i := 173) (by decide +kernel)) (by decide +kernel)
theorem tz_175 : (Cond.instanceMethod yX0_firstWithin : Cond) ∈ TW := tw_in (List.mem_of_getElem? (i := 175) (by decide +kernel)) (by decide +kernel)
theorem tz_176 : (Cond.code yX0_firstWithin cX0_firstWithin 7 (some .long) : Cond) ∈ TW := tw_in (List.mem_of_getElem? (i := 176) rfl) (by decide +kernel)
theorem tz_177 : (Cond.methodLink RX0 136 yX0_narrow : Cond) ∈ TW := tw_in (List.mem_of_getElem? (i := 177) (by decide +kernel)) (by decide +kernel)
theorem tz_179 : (Cond.instanceMethod yX0_narrow : Cond) ∈ TW := tw_in (List.mem_of_getElem? (i := 179) (by decide +kernel)) (by decide +kernel)
theorem tz_180 : (Cond.code yX0_narrow cX0_narrow 10 (some .long) : Cond) ∈ TW := tw_in (List.mem_of_getElem? (i := 180) rfl) (by decide +kernel)
theorem tz_181 : (Cond.methodLink RX0 147 yX0_narrowByRule : Cond) ∈ TW := tw_in (List.mem_of_getElem? (i := 181) (by decide +kernel)) (by decide +kernel)
theorem tz_182 : (Cond.static yX0_narrowByRule : Cond) ∈ TW := tw_in (List.mem_of_getElem? (i := 182) (by decide +kernel)) (by decide +kernel)
theorem tz_183 : (Cond.code yX0_narrowByRule cX0_narrowByRule 10 (some .long) : Cond) ∈ TW := tw_in (List.mem_of_getElem? (i := 183) rfl) (by decide +kernel)
theorem tz_184 : (Cond.methodLink RX0 151 yJ13_bitCount : Cond) ∈ TW := tw_in (List.mem_of_getElem? (i := 184) (by decide +kernel)) (by decide +kernel)
theorem tz_185 : (Cond.static yJ13_bitCount : Cond) ∈ TW := tw_in (List.mem_of_getElem? (i := 185) (by decide +kernel)) (by decide +kernel)
theorem tz_186 : (Cond.code yJ13_bitCount cJ13_bitCount 2 (some .int) : Cond) ∈ TW := tw_in (List.mem_of_getElem? (i := 186) rfl) (by decide +kernel)
theorem tz_187 : (Cond.constantLong RJ13 314 (6148914691236517205) : Cond) ∈ TW := tw_in (List.mem_of_getElem? (i := 187) (by decide +kernel)) (by decide +kernel)
theorem tz_188 : (Cond.constantLong RJ13 316 (3689348814741910323) : Cond) ∈ TW := tw_in (List.mem_of_getElem? (i := 188) (by decide +kernel)) (by decide +kernel)
theorem tz_189 : (Cond.constantLong RJ13 318 (1085102592571150095) : Cond) ∈ TW := tw_in (List.mem_of_getElem? (i := 189) (by decide +kernel)) (by decide +kernel)
theorem tz_190 : (Cond.methodLink RX0 140 yX0_firstOf : Cond) ∈ TW := tw_in (List.mem_of_getElem? (i := 190) (by decide +kernel)) (by decide +kernel)
theorem tz_192 : (Cond.instanceMethod yX0_firstOf : Cond) ∈ TW := tw_in (List.mem_of_getElem? (i := 192) (by decide +kernel)) (by decide +kernel)
theorem tz_193 : (Cond.code yX0_firstOf cX0_firstOf 14 (some .long) : Cond) ∈ TW := tw_in (List.mem_of_getElem? (i := 193) rfl) (by decide +kernel)
theorem tz_194 : (Cond.methodLink RX0 143 yX0_placeAt : Cond) ∈ TW := tw_in (List.mem_of_getElem? (i := 194) (by decide +kernel)) (by decide +kernel)
theorem tz_196 : (Cond.instanceMethod yX0_placeAt : Cond) ∈ TW := tw_in (List.mem_of_getElem? (i := 196) (by decide +kernel)) (by decide +kernel)
theorem tz_197 : (Cond.code yX0_placeAt cX0_placeAt 4 (some .long) : Cond) ∈ TW := tw_in (List.mem_of_getElem? (i := 197) rfl) (by decide +kernel)
theorem tz_198 : (Cond.methodLink RL 47 yX0_chosen : Cond) ∈ TW := tw_in (List.mem_of_getElem? (i := 198) (by decide +kernel)) (by decide +kernel)
theorem tz_199 : (Cond.instanceMethod yX0_chosen : Cond) ∈ TW := tw_in (List.mem_of_getElem? (i := 199) (by decide +kernel)) (by decide +kernel)
theorem tz_200 : (Cond.selects RX0 yX0_chosen yX0_chosen : Cond) ∈ TW := tw_in (List.mem_of_getElem? (i := 200) (by decide +kernel)) (by decide +kernel)
theorem tz_201 : (Cond.code yX0_chosen cX0_chosen 3 (some .int) : Cond) ∈ TW := tw_in (List.mem_of_getElem? (i := 201) rfl) (by decide +kernel)
theorem tz_202 : (Cond.methodLink RL 51 yX0_blame : Cond) ∈ TW := tw_in (List.mem_of_getElem? (i := 202) (by decide +kernel)) (by decide +kernel)
theorem tz_203 : (Cond.instanceMethod yX0_blame : Cond) ∈ TW := tw_in (List.mem_of_getElem? (i := 203) (by decide +kernel)) (by decide +kernel)
theorem tz_204 : (Cond.selects RX0 yX0_blame yX0_blame : Cond) ∈ TW := tw_in (List.mem_of_getElem? (i := 204) (by decide +kernel)) (by decide +kernel)
theorem tz_205 : (Cond.code yX0_blame cX0_blame 4 (some .int) : Cond) ∈ TW := tw_in (List.mem_of_getElem? (i := 205) rfl) (by decide +kernel)
theorem tz_206 : (Cond.methodLink RX0 109 yX0_someRightKeeps : Cond) ∈ TW := tw_in (List.mem_of_getElem? (i := 206) (by decide +kernel)) (by decide +kernel)
theorem tz_208 : (Cond.instanceMethod yX0_someRightKeeps : Cond) ∈ TW := tw_in (List.mem_of_getElem? (i := 208) (by decide +kernel)) (by decide +kernel)
theorem tz_209 : (Cond.code yX0_someRightKeeps cX0_someRightKeeps 2 (some .boolean) : Cond) ∈ TW := tw_in (List.mem_of_getElem? (i := 209) rfl) (by decide +kernel)
theorem tz_210 : (Cond.methodLink RX0 112 yJ6_bitCount : Cond) ∈ TW := tw_in (List.mem_of_getElem? (i := 210) (by decide +kernel)) (by decide +kernel)
theorem tz_211 : (Cond.static yJ6_bitCount : Cond) ∈ TW := tw_in (List.mem_of_getElem? (i := 211) (by decide +kernel)) (by decide +kernel)
theorem tz_212 : (Cond.code yJ6_bitCount cJ6_bitCount 1 (some .int) : Cond) ∈ TW := tw_in (List.mem_of_getElem? (i := 212) rfl) (by decide +kernel)
theorem tz_213 : (Cond.constant RJ6 265 (1431655765) : Cond) ∈ TW := tw_in (List.mem_of_getElem? (i := 213) (by decide +kernel)) (by decide +kernel)
theorem tz_214 : (Cond.constant RJ6 266 (858993459) : Cond) ∈ TW := tw_in (List.mem_of_getElem? (i := 214) (by decide +kernel)) (by decide +kernel)
theorem tz_215 : (Cond.constant RJ6 267 (252645135) : Cond) ∈ TW := tw_in (List.mem_of_getElem? (i := 215) (by decide +kernel)) (by decide +kernel)
theorem tz_216 : (Cond.methodLink RL 55 yX0_blamed : Cond) ∈ TW := tw_in (List.mem_of_getElem? (i := 216) (by decide +kernel)) (by decide +kernel)
theorem tz_217 : (Cond.instanceMethod yX0_blamed : Cond) ∈ TW := tw_in (List.mem_of_getElem? (i := 217) (by decide +kernel)) (by decide +kernel)
theorem tz_218 : (Cond.selects RX0 yX0_blamed yX0_blamed : Cond) ∈ TW := tw_in (List.mem_of_getElem? (i := 218) (by decide +kernel)) (by decide +kernel)
theorem tz_219 : (Cond.code yX0_blamed cX0_blamed 4 (some .int) : Cond) ∈ TW := tw_in (List.mem_of_getElem? (i := 219) rfl) (by decide +kernel)
theorem tz_220 : (Cond.methodLink RL 59 yX0_can : Cond) ∈ TW := tw_in (List.mem_of_getElem? (i := 220) (by decide +kernel)) (by decide +kernel)
theorem tz_221 : (Cond.instanceMethod yX0_can : Cond) ∈ TW := tw_in (List.mem_of_getElem? (i := 221) (by decide +kernel)) (by decide +kernel)
theorem tz_222 : (Cond.selects RX0 yX0_can yX0_can : Cond) ∈ TW := tw_in (List.mem_of_getElem? (i := 222) (by decide +kernel)) (by decide +kernel)
theorem tz_223 : (Cond.code yX0_can cX0_can 3 (some .boolean) : Cond) ∈ TW := tw_in (List.mem_of_getElem? (i := 223) rfl) (by decide +kernel)
theorem tz_224 : (Cond.methodLink RX0 118 yX0_someRightGives : Cond) ∈ TW := tw_in (List.mem_of_getElem? (i := 224) (by decide +kernel)) (by decide +kernel)
theorem tz_226 : (Cond.instanceMethod yX0_someRightGives : Cond) ∈ TW := tw_in (List.mem_of_getElem? (i := 226) (by decide +kernel)) (by decide +kernel)
theorem tz_227 : (Cond.code yX0_someRightGives cX0_someRightGives 5 (some .boolean) : Cond) ∈ TW := tw_in (List.mem_of_getElem? (i := 227) rfl) (by decide +kernel)
theorem tz_228 : (Cond.methodLink RL 63 yX0_must : Cond) ∈ TW := tw_in (List.mem_of_getElem? (i := 228) (by decide +kernel)) (by decide +kernel)
theorem tz_229 : (Cond.instanceMethod yX0_must : Cond) ∈ TW := tw_in (List.mem_of_getElem? (i := 229) (by decide +kernel)) (by decide +kernel)
theorem tz_230 : (Cond.selects RX0 yX0_must yX0_must : Cond) ∈ TW := tw_in (List.mem_of_getElem? (i := 230) (by decide +kernel)) (by decide +kernel)
theorem tz_231 : (Cond.code yX0_must cX0_must 2 (some .boolean) : Cond) ∈ TW := tw_in (List.mem_of_getElem? (i := 231) rfl) (by decide +kernel)
theorem tz_232 : (Cond.classLink RL 10 RX1 : Cond) ∈ TW := tw_in (List.mem_of_getElem? (i := 232) (by decide +kernel)) (by decide +kernel)
theorem tz_233 : (Cond.instantiable RX1 23 : Cond) ∈ TW := tw_in (List.mem_of_getElem? (i := 233) (by decide +kernel)) (by decide +kernel)
theorem tz_234 : (Cond.methodLink RL 12 yX1_init : Cond) ∈ TW := tw_in (List.mem_of_getElem? (i := 234) (by decide +kernel)) (by decide +kernel)
theorem tz_235 : (Cond.instanceMethod yX1_init : Cond) ∈ TW := tw_in (List.mem_of_getElem? (i := 235) (by decide +kernel)) (by decide +kernel)
theorem tz_236 : (Cond.code yX1_init cX1_init 2 none : Cond) ∈ TW := tw_in (List.mem_of_getElem? (i := 236) rfl) (by decide +kernel)
theorem tz_237 : (Cond.methodLink RX1 1 objectInit : Cond) ∈ TW := tw_in (List.mem_of_getElem? (i := 237) (by decide +kernel)) (by decide +kernel)
theorem tz_238 : (Cond.fieldLink RX1 63 "ConflictSolveModel" "code" "I" : Cond) ∈ TW := tw_in (List.mem_of_getElem? (i := 238) (by decide +kernel)) (by decide +kernel)
theorem tz_239 : (Cond.fieldLink RX1 7 "ConflictSolveModel" "versions" "[I" : Cond) ∈ TW := tw_in (List.mem_of_getElem? (i := 239) (by decide +kernel)) (by decide +kernel)
theorem tz_240 : (Cond.fieldLink RX1 13 "ConflictSolveModel" "locks" "[I" : Cond) ∈ TW := tw_in (List.mem_of_getElem? (i := 240) (by decide +kernel)) (by decide +kernel)
theorem tz_241 : (Cond.fieldLink RX1 16 "ConflictSolveModel" "chosen" "[I" : Cond) ∈ TW := tw_in (List.mem_of_getElem? (i := 241) (by decide +kernel)) (by decide +kernel)
theorem tz_242 : (Cond.fieldLink RX1 19 "ConflictSolveModel" "value" "[I" : Cond) ∈ TW := tw_in (List.mem_of_getElem? (i := 242) (by decide +kernel)) (by decide +kernel)
theorem tz_243 : (Cond.fieldLink RX1 22 "ConflictSolveModel" "order" "[I" : Cond) ∈ TW := tw_in (List.mem_of_getElem? (i := 243) (by decide +kernel)) (by decide +kernel)
theorem tz_244 : (Cond.fieldLink RX1 25 "ConflictSolveModel" "option" "[I" : Cond) ∈ TW := tw_in (List.mem_of_getElem? (i := 244) (by decide +kernel)) (by decide +kernel)
theorem tz_245 : (Cond.fieldLink RX1 28 "ConflictSolveModel" "blames0" "[I" : Cond) ∈ TW := tw_in (List.mem_of_getElem? (i := 245) (by decide +kernel)) (by decide +kernel)
theorem tz_246 : (Cond.fieldLink RX1 66 "ConflictSolveModel" "packages" "I" : Cond) ∈ TW := tw_in (List.mem_of_getElem? (i := 246) (by decide +kernel)) (by decide +kernel)
theorem tz_247 : (Cond.fieldLink RX1 77 "ConflictSolveModel" "rows" "I" : Cond) ∈ TW := tw_in (List.mem_of_getElem? (i := 247) (by decide +kernel)) (by decide +kernel)
theorem tz_248 : (Cond.fieldLink RX1 84 "ConflictSolveModel" "demands" "I" : Cond) ∈ TW := tw_in (List.mem_of_getElem? (i := 248) (by decide +kernel)) (by decide +kernel)
theorem tz_249 : (Cond.fieldLink RX1 94 "ConflictSolveModel" "needed" "I" : Cond) ∈ TW := tw_in (List.mem_of_getElem? (i := 249) (by decide +kernel)) (by decide +kernel)
theorem tz_250 : (Cond.fieldLink RX1 31 "ConflictSolveModel" "pack" "[I" : Cond) ∈ TW := tw_in (List.mem_of_getElem? (i := 250) (by decide +kernel)) (by decide +kernel)
theorem tz_251 : (Cond.fieldLink RX1 34 "ConflictSolveModel" "version" "[I" : Cond) ∈ TW := tw_in (List.mem_of_getElem? (i := 251) (by decide +kernel)) (by decide +kernel)
theorem tz_252 : (Cond.fieldLink RX1 37 "ConflictSolveModel" "kind" "[I" : Cond) ∈ TW := tw_in (List.mem_of_getElem? (i := 252) (by decide +kernel)) (by decide +kernel)
theorem tz_253 : (Cond.fieldLink RX1 40 "ConflictSolveModel" "many" "[I" : Cond) ∈ TW := tw_in (List.mem_of_getElem? (i := 253) (by decide +kernel)) (by decide +kernel)
theorem tz_254 : (Cond.fieldLink RX1 43 "ConflictSolveModel" "other" "[I" : Cond) ∈ TW := tw_in (List.mem_of_getElem? (i := 254) (by decide +kernel)) (by decide +kernel)
theorem tz_255 : (Cond.fieldLink RX1 46 "ConflictSolveModel" "set" "[I" : Cond) ∈ TW := tw_in (List.mem_of_getElem? (i := 255) (by decide +kernel)) (by decide +kernel)
theorem tz_256 : (Cond.fieldLink RX1 49 "ConflictSolveModel" "out" "[Z" : Cond) ∈ TW := tw_in (List.mem_of_getElem? (i := 256) (by decide +kernel)) (by decide +kernel)
theorem tz_257 : (Cond.fieldLink RX1 53 "ConflictSolveModel" "away" "[Z" : Cond) ∈ TW := tw_in (List.mem_of_getElem? (i := 257) (by decide +kernel)) (by decide +kernel)
theorem tz_258 : (Cond.fieldLink RX1 56 "ConflictSolveModel" "latest" "I" : Cond) ∈ TW := tw_in (List.mem_of_getElem? (i := 258) (by decide +kernel)) (by decide +kernel)
theorem tz_259 : (Cond.fieldLink RX1 60 "ConflictSolveModel" "blamed" "[I" : Cond) ∈ TW := tw_in (List.mem_of_getElem? (i := 259) (by decide +kernel)) (by decide +kernel)
theorem tz_260 : (Cond.fieldLink RX1 125 "ConflictSolveModel" "blames" "I" : Cond) ∈ TW := tw_in (List.mem_of_getElem? (i := 260) (by decide +kernel)) (by decide +kernel)
theorem tz_308 : (Cond.arrayClass .boolean : Cond) ∈ TW := tw_in (List.mem_of_getElem? (i := 308) (by decide +kernel)) (by decide +kernel)
theorem tz_309 : (Cond.methodLink RL 17 yX1_pack : Cond) ∈ TW := tw_in (List.mem_of_getElem? (i := 309) (by decide +kernel)) (by decide +kernel)
theorem tz_310 : (Cond.instanceMethod yX1_pack : Cond) ∈ TW := tw_in (List.mem_of_getElem? (i := 310) (by decide +kernel)) (by decide +kernel)
theorem tz_311 : (Cond.selects RX1 yX1_pack yX1_pack : Cond) ∈ TW := tw_in (List.mem_of_getElem? (i := 311) (by decide +kernel)) (by decide +kernel)
theorem tz_312 : (Cond.code yX1_pack cX1_pack 2 (some .int) : Cond) ∈ TW := tw_in (List.mem_of_getElem? (i := 312) rfl) (by decide +kernel)
theorem tz_313 : (Cond.methodLink RL 22 yX1_row : Cond) ∈ TW := tw_in (List.mem_of_getElem? (i := 313) (by decide +kernel)) (by decide +kernel)
theorem tz_314 : (Cond.instanceMethod yX1_row : Cond) ∈ TW := tw_in (List.mem_of_getElem? (i := 314) (by decide +kernel)) (by decide +kernel)
theorem tz_315 : (Cond.selects RX1 yX1_row yX1_row : Cond) ∈ TW := tw_in (List.mem_of_getElem? (i := 315) (by decide +kernel)) (by decide +kernel)
theorem tz_316 : (Cond.code yX1_row cX1_row 6 (some .boolean) : Cond) ∈ TW := tw_in (List.mem_of_getElem? (i := 316) rfl) (by decide +kernel)
theorem tz_317 : (Cond.methodLink RX1 73 yX1_isVersion : Cond) ∈ TW := tw_in (List.mem_of_getElem? (i := 317) (by decide +kernel)) (by decide +kernel)
theorem tz_319 : (Cond.instanceMethod yX1_isVersion : Cond) ∈ TW := tw_in (List.mem_of_getElem? (i := 319) (by decide +kernel)) (by decide +kernel)
theorem tz_320 : (Cond.code yX1_isVersion cX1_isVersion 3 (some .boolean) : Cond) ∈ TW := tw_in (List.mem_of_getElem? (i := 320) rfl) (by decide +kernel)
theorem tz_321 : (Cond.methodLink RX1 69 yX1_isPackage : Cond) ∈ TW := tw_in (List.mem_of_getElem? (i := 321) (by decide +kernel)) (by decide +kernel)
theorem tz_323 : (Cond.instanceMethod yX1_isPackage : Cond) ∈ TW := tw_in (List.mem_of_getElem? (i := 323) (by decide +kernel)) (by decide +kernel)
theorem tz_324 : (Cond.code yX1_isPackage cX1_isPackage 2 (some .boolean) : Cond) ∈ TW := tw_in (List.mem_of_getElem? (i := 324) rfl) (by decide +kernel)
theorem tz_325 : (Cond.methodLink RX1 80 yX1_keep : Cond) ∈ TW := tw_in (List.mem_of_getElem? (i := 325) (by decide +kernel)) (by decide +kernel)
theorem tz_327 : (Cond.instanceMethod yX1_keep : Cond) ∈ TW := tw_in (List.mem_of_getElem? (i := 327) (by decide +kernel)) (by decide +kernel)
theorem tz_328 : (Cond.code yX1_keep cX1_keep 5 none : Cond) ∈ TW := tw_in (List.mem_of_getElem? (i := 328) rfl) (by decide +kernel)
theorem tz_329 : (Cond.methodLink RL 27 yX1_demand : Cond) ∈ TW := tw_in (List.mem_of_getElem? (i := 329) (by decide +kernel)) (by decide +kernel)
theorem tz_330 : (Cond.instanceMethod yX1_demand : Cond) ∈ TW := tw_in (List.mem_of_getElem? (i := 330) (by decide +kernel)) (by decide +kernel)
theorem tz_331 : (Cond.selects RX1 yX1_demand yX1_demand : Cond) ∈ TW := tw_in (List.mem_of_getElem? (i := 331) (by decide +kernel)) (by decide +kernel)
theorem tz_332 : (Cond.code yX1_demand cX1_demand 4 (some .int) : Cond) ∈ TW := tw_in (List.mem_of_getElem? (i := 332) rfl) (by decide +kernel)
theorem tz_333 : (Cond.methodLink RL 32 yX1_or : Cond) ∈ TW := tw_in (List.mem_of_getElem? (i := 333) (by decide +kernel)) (by decide +kernel)
theorem tz_334 : (Cond.instanceMethod yX1_or : Cond) ∈ TW := tw_in (List.mem_of_getElem? (i := 334) (by decide +kernel)) (by decide +kernel)
theorem tz_335 : (Cond.selects RX1 yX1_or yX1_or : Cond) ∈ TW := tw_in (List.mem_of_getElem? (i := 335) (by decide +kernel)) (by decide +kernel)
theorem tz_336 : (Cond.code yX1_or cX1_or 3 (some .boolean) : Cond) ∈ TW := tw_in (List.mem_of_getElem? (i := 336) rfl) (by decide +kernel)
theorem tz_337 : (Cond.methodLink RL 37 yX1_leaveOut : Cond) ∈ TW := tw_in (List.mem_of_getElem? (i := 337) (by decide +kernel)) (by decide +kernel)
theorem tz_338 : (Cond.instanceMethod yX1_leaveOut : Cond) ∈ TW := tw_in (List.mem_of_getElem? (i := 338) (by decide +kernel)) (by decide +kernel)
theorem tz_339 : (Cond.selects RX1 yX1_leaveOut yX1_leaveOut : Cond) ∈ TW := tw_in (List.mem_of_getElem? (i := 339) (by decide +kernel)) (by decide +kernel)
theorem tz_340 : (Cond.code yX1_leaveOut cX1_leaveOut 3 (some .boolean) : Cond) ∈ TW := tw_in (List.mem_of_getElem? (i := 340) rfl) (by decide +kernel)
theorem tz_341 : (Cond.methodLink RL 41 yX1_lock : Cond) ∈ TW := tw_in (List.mem_of_getElem? (i := 341) (by decide +kernel)) (by decide +kernel)
theorem tz_342 : (Cond.instanceMethod yX1_lock : Cond) ∈ TW := tw_in (List.mem_of_getElem? (i := 342) (by decide +kernel)) (by decide +kernel)
theorem tz_343 : (Cond.selects RX1 yX1_lock yX1_lock : Cond) ∈ TW := tw_in (List.mem_of_getElem? (i := 343) (by decide +kernel)) (by decide +kernel)
theorem tz_344 : (Cond.code yX1_lock cX1_lock 3 (some .boolean) : Cond) ∈ TW := tw_in (List.mem_of_getElem? (i := 344) rfl) (by decide +kernel)
theorem tz_345 : (Cond.methodLink RL 46 yX1_solve : Cond) ∈ TW := tw_in (List.mem_of_getElem? (i := 345) (by decide +kernel)) (by decide +kernel)
theorem tz_346 : (Cond.instanceMethod yX1_solve : Cond) ∈ TW := tw_in (List.mem_of_getElem? (i := 346) (by decide +kernel)) (by decide +kernel)
theorem tz_347 : (Cond.selects RX1 yX1_solve yX1_solve : Cond) ∈ TW := tw_in (List.mem_of_getElem? (i := 347) (by decide +kernel)) (by decide +kernel)
theorem tz_348 : (Cond.code yX1_solve cX1_solve 3 (some .int) : Cond) ∈ TW := tw_in (List.mem_of_getElem? (i := 348) rfl) (by decide +kernel)
theorem tz_349 : (Cond.methodLink RX1 119 yX1_none : Cond) ∈ TW := tw_in (List.mem_of_getElem? (i := 349) (by decide +kernel)) (by decide +kernel)
theorem tz_351 : (Cond.instanceMethod yX1_none : Cond) ∈ TW := tw_in (List.mem_of_getElem? (i := 351) (by decide +kernel)) (by decide +kernel)
theorem tz_352 : (Cond.code yX1_none cX1_none 2 none : Cond) ∈ TW := tw_in (List.mem_of_getElem? (i := 352) rfl) (by decide +kernel)
theorem tz_353 : (Cond.methodLink RX1 122 yX1_search : Cond) ∈ TW := tw_in (List.mem_of_getElem? (i := 353) (by decide +kernel)) (by decide +kernel)
theorem tz_355 : (Cond.instanceMethod yX1_search : Cond) ∈ TW := tw_in (List.mem_of_getElem? (i := 355) (by decide +kernel)) (by decide +kernel)
theorem tz_356 : (Cond.code yX1_search cX1_search 5 (some .boolean) : Cond) ∈ TW := tw_in (List.mem_of_getElem? (i := 356) rfl) (by decide +kernel)
theorem tz_357 : (Cond.methodLink RX1 105 yX1_arrange : Cond) ∈ TW := tw_in (List.mem_of_getElem? (i := 357) (by decide +kernel)) (by decide +kernel)
theorem tz_359 : (Cond.instanceMethod yX1_arrange : Cond) ∈ TW := tw_in (List.mem_of_getElem? (i := 359) (by decide +kernel)) (by decide +kernel)
theorem tz_360 : (Cond.code yX1_arrange cX1_arrange 3 none : Cond) ∈ TW := tw_in (List.mem_of_getElem? (i := 360) rfl) (by decide +kernel)
theorem tz_361 : (Cond.methodLink RX1 97 yX1_place : Cond) ∈ TW := tw_in (List.mem_of_getElem? (i := 361) (by decide +kernel)) (by decide +kernel)
theorem tz_363 : (Cond.instanceMethod yX1_place : Cond) ∈ TW := tw_in (List.mem_of_getElem? (i := 363) (by decide +kernel)) (by decide +kernel)
theorem tz_364 : (Cond.code yX1_place cX1_place 4 none : Cond) ∈ TW := tw_in (List.mem_of_getElem? (i := 364) rfl) (by decide +kernel)
theorem tz_365 : (Cond.methodLink RX1 108 yX1_goes : Cond) ∈ TW := tw_in (List.mem_of_getElem? (i := 365) (by decide +kernel)) (by decide +kernel)
theorem tz_367 : (Cond.instanceMethod yX1_goes : Cond) ∈ TW := tw_in (List.mem_of_getElem? (i := 367) (by decide +kernel)) (by decide +kernel)
theorem tz_368 : (Cond.code yX1_goes cX1_goes 6 (some .boolean) : Cond) ∈ TW := tw_in (List.mem_of_getElem? (i := 368) rfl) (by decide +kernel)
theorem tz_369 : (Cond.methodLink RX1 116 yX1_ranked : Cond) ∈ TW := tw_in (List.mem_of_getElem? (i := 369) (by decide +kernel)) (by decide +kernel)
theorem tz_371 : (Cond.instanceMethod yX1_ranked : Cond) ∈ TW := tw_in (List.mem_of_getElem? (i := 371) (by decide +kernel)) (by decide +kernel)
theorem tz_372 : (Cond.code yX1_ranked cX1_ranked 4 (some .int) : Cond) ∈ TW := tw_in (List.mem_of_getElem? (i := 372) rfl) (by decide +kernel)
theorem tz_373 : (Cond.methodLink RX1 101 yX1_rank : Cond) ∈ TW := tw_in (List.mem_of_getElem? (i := 373) (by decide +kernel)) (by decide +kernel)
theorem tz_375 : (Cond.instanceMethod yX1_rank : Cond) ∈ TW := tw_in (List.mem_of_getElem? (i := 375) (by decide +kernel)) (by decide +kernel)
theorem tz_376 : (Cond.code yX1_rank cX1_rank 6 (some .int) : Cond) ∈ TW := tw_in (List.mem_of_getElem? (i := 376) rfl) (by decide +kernel)
theorem tz_377 : (Cond.methodLink RX1 112 yX1_broken : Cond) ∈ TW := tw_in (List.mem_of_getElem? (i := 377) (by decide +kernel)) (by decide +kernel)
theorem tz_379 : (Cond.instanceMethod yX1_broken : Cond) ∈ TW := tw_in (List.mem_of_getElem? (i := 379) (by decide +kernel)) (by decide +kernel)
theorem tz_380 : (Cond.code yX1_broken cX1_broken 3 (some .int) : Cond) ∈ TW := tw_in (List.mem_of_getElem? (i := 380) rfl) (by decide +kernel)
theorem tz_381 : (Cond.methodLink RX1 87 yX1_isBroken : Cond) ∈ TW := tw_in (List.mem_of_getElem? (i := 381) (by decide +kernel)) (by decide +kernel)
theorem tz_383 : (Cond.instanceMethod yX1_isBroken : Cond) ∈ TW := tw_in (List.mem_of_getElem? (i := 383) (by decide +kernel)) (by decide +kernel)
theorem tz_384 : (Cond.code yX1_isBroken cX1_isBroken 6 (some .boolean) : Cond) ∈ TW := tw_in (List.mem_of_getElem? (i := 384) rfl) (by decide +kernel)
theorem tz_385 : (Cond.methodLink RX1 90 yX1_others : Cond) ∈ TW := tw_in (List.mem_of_getElem? (i := 385) (by decide +kernel)) (by decide +kernel)
theorem tz_387 : (Cond.instanceMethod yX1_others : Cond) ∈ TW := tw_in (List.mem_of_getElem? (i := 387) (by decide +kernel)) (by decide +kernel)
theorem tz_388 : (Cond.code yX1_others cX1_others 4 (some .int) : Cond) ∈ TW := tw_in (List.mem_of_getElem? (i := 388) rfl) (by decide +kernel)
theorem tz_389 : (Cond.methodLink RL 50 yX1_chosen : Cond) ∈ TW := tw_in (List.mem_of_getElem? (i := 389) (by decide +kernel)) (by decide +kernel)
theorem tz_390 : (Cond.instanceMethod yX1_chosen : Cond) ∈ TW := tw_in (List.mem_of_getElem? (i := 390) (by decide +kernel)) (by decide +kernel)
theorem tz_391 : (Cond.selects RX1 yX1_chosen yX1_chosen : Cond) ∈ TW := tw_in (List.mem_of_getElem? (i := 391) (by decide +kernel)) (by decide +kernel)
theorem tz_392 : (Cond.code yX1_chosen cX1_chosen 2 (some .int) : Cond) ∈ TW := tw_in (List.mem_of_getElem? (i := 392) rfl) (by decide +kernel)
theorem tz_393 : (Cond.methodLink RL 54 yX1_blame : Cond) ∈ TW := tw_in (List.mem_of_getElem? (i := 393) (by decide +kernel)) (by decide +kernel)
theorem tz_394 : (Cond.instanceMethod yX1_blame : Cond) ∈ TW := tw_in (List.mem_of_getElem? (i := 394) (by decide +kernel)) (by decide +kernel)
theorem tz_395 : (Cond.selects RX1 yX1_blame yX1_blame : Cond) ∈ TW := tw_in (List.mem_of_getElem? (i := 395) (by decide +kernel)) (by decide +kernel)
theorem tz_396 : (Cond.code yX1_blame cX1_blame 2 (some .int) : Cond) ∈ TW := tw_in (List.mem_of_getElem? (i := 396) rfl) (by decide +kernel)
theorem tz_397 : (Cond.methodLink RL 58 yX1_blamed : Cond) ∈ TW := tw_in (List.mem_of_getElem? (i := 397) (by decide +kernel)) (by decide +kernel)
theorem tz_398 : (Cond.instanceMethod yX1_blamed : Cond) ∈ TW := tw_in (List.mem_of_getElem? (i := 398) (by decide +kernel)) (by decide +kernel)
theorem tz_399 : (Cond.selects RX1 yX1_blamed yX1_blamed : Cond) ∈ TW := tw_in (List.mem_of_getElem? (i := 399) (by decide +kernel)) (by decide +kernel)
theorem tz_400 : (Cond.code yX1_blamed cX1_blamed 2 (some .int) : Cond) ∈ TW := tw_in (List.mem_of_getElem? (i := 400) rfl) (by decide +kernel)
theorem tz_401 : (Cond.methodLink RL 62 yX1_can : Cond) ∈ TW := tw_in (List.mem_of_getElem? (i := 401) (by decide +kernel)) (by decide +kernel)
theorem tz_402 : (Cond.instanceMethod yX1_can : Cond) ∈ TW := tw_in (List.mem_of_getElem? (i := 402) (by decide +kernel)) (by decide +kernel)
theorem tz_403 : (Cond.selects RX1 yX1_can yX1_can : Cond) ∈ TW := tw_in (List.mem_of_getElem? (i := 403) (by decide +kernel)) (by decide +kernel)
theorem tz_404 : (Cond.code yX1_can cX1_can 3 (some .boolean) : Cond) ∈ TW := tw_in (List.mem_of_getElem? (i := 404) rfl) (by decide +kernel)
theorem tz_405 : (Cond.methodLink RL 67 yX1_must : Cond) ∈ TW := tw_in (List.mem_of_getElem? (i := 405) (by decide +kernel)) (by decide +kernel)
theorem tz_406 : (Cond.instanceMethod yX1_must : Cond) ∈ TW := tw_in (List.mem_of_getElem? (i := 406) (by decide +kernel)) (by decide +kernel)
theorem tz_407 : (Cond.selects RX1 yX1_must yX1_must : Cond) ∈ TW := tw_in (List.mem_of_getElem? (i := 407) (by decide +kernel)) (by decide +kernel)
theorem tz_408 : (Cond.code yX1_must cX1_must 2 (some .boolean) : Cond) ∈ TW := tw_in (List.mem_of_getElem? (i := 408) rfl) (by decide +kernel)
def wzX0_init : List Cond := .code yX0_init cX0_init 2 none :: TW
def wzX0_pack : List Cond := .code yX0_pack cX0_pack 3 (some .int) :: TW
def wzX0_row : List Cond := .code yX0_row cX0_row 8 (some .boolean) :: TW
def wzX0_demand : List Cond := .code yX0_demand cX0_demand 5 (some .int) :: TW
def wzX0_or : List Cond := .code yX0_or cX0_or 3 (some .boolean) :: TW
def wzX0_leaveOut : List Cond := .code yX0_leaveOut cX0_leaveOut 5 (some .boolean) :: TW
def wzX0_lock : List Cond := .code yX0_lock cX0_lock 3 (some .boolean) :: TW
def wzX0_solve : List Cond := .code yX0_solve cX0_solve 1 (some .int) :: TW
def wzX0_chosen : List Cond := .code yX0_chosen cX0_chosen 3 (some .int) :: TW
def wzX0_blame : List Cond := .code yX0_blame cX0_blame 4 (some .int) :: TW
def wzX0_blamed : List Cond := .code yX0_blamed cX0_blamed 4 (some .int) :: TW
def wzX0_can : List Cond := .code yX0_can cX0_can 3 (some .boolean) :: TW
def wzX0_must : List Cond := .code yX0_must cX0_must 2 (some .boolean) :: TW
def wzX0_hasPack : List Cond := .code yX0_hasPack cX0_hasPack 2 (some .boolean) :: TW
def wzX0_hasVersion : List Cond := .code yX0_hasVersion cX0_hasVersion 3 (some .boolean) :: TW
def wzX0_hasPlace : List Cond := .code yX0_hasPlace cX0_hasPlace 3 (some .boolean) :: TW
def wzX0_isKind : List Cond := .code yX0_isKind cX0_isKind 1 (some .boolean) :: TW
def wzX0_allOf : List Cond := .code yX0_allOf cX0_allOf 1 (some .long) :: TW
def wzX0_noneOf : List Cond := .code yX0_noneOf cX0_noneOf 1 (some .long) :: TW
def wzX0_versionsOf : List Cond := .code yX0_versionsOf cX0_versionsOf 2 (some .long) :: TW
def wzX0_placeOf : List Cond := .code yX0_placeOf cX0_placeOf 2 (some .long) :: TW
def wzX0_keeping : List Cond := .code yX0_keeping cX0_keeping 5 (some .long) :: TW
def wzX0_startAlternatives : List Cond := .code yX0_startAlternatives cX0_startAlternatives 3 none :: TW
def wzX0_addToLatestDemand : List Cond := .code yX0_addToLatestDemand cX0_addToLatestDemand 3 none :: TW
def wzX0_addToLatestRow : List Cond := .code yX0_addToLatestRow cX0_addToLatestRow 3 none :: TW
def wzX0_moveToNeeded : List Cond := .code yX0_moveToNeeded cX0_moveToNeeded 4 none :: TW
def wzX0_positionOf : List Cond := .code yX0_positionOf cX0_positionOf 3 (some .int) :: TW
def wzX0_demandsThatCount : List Cond := .code yX0_demandsThatCount cX0_demandsThatCount 1 (some .int) :: TW
def wzX0_someRightGives : List Cond := .code yX0_someRightGives cX0_someRightGives 5 (some .boolean) :: TW
def wzX0_someRightKeeps : List Cond := .code yX0_someRightKeeps cX0_someRightKeeps 2 (some .boolean) :: TW
def wzX0_firstWithin : List Cond := .code yX0_firstWithin cX0_firstWithin 7 (some .long) :: TW
def wzX0_firstOf : List Cond := .code yX0_firstOf cX0_firstOf 14 (some .long) :: TW
def wzX0_placeAt : List Cond := .code yX0_placeAt cX0_placeAt 4 (some .long) :: TW
def wzX0_narrow : List Cond := .code yX0_narrow cX0_narrow 10 (some .long) :: TW
def wzX0_narrowByRule : List Cond := .code yX0_narrowByRule cX0_narrowByRule 10 (some .long) :: TW
def wzX1_init : List Cond := .code yX1_init cX1_init 2 none :: TW
def wzX1_isPackage : List Cond := .code yX1_isPackage cX1_isPackage 2 (some .boolean) :: TW
def wzX1_isVersion : List Cond := .code yX1_isVersion cX1_isVersion 3 (some .boolean) :: TW
def wzX1_pack : List Cond := .code yX1_pack cX1_pack 2 (some .int) :: TW
def wzX1_keep : List Cond := .code yX1_keep cX1_keep 5 none :: TW
def wzX1_row : List Cond := .code yX1_row cX1_row 6 (some .boolean) :: TW
def wzX1_demand : List Cond := .code yX1_demand cX1_demand 4 (some .int) :: TW
def wzX1_or : List Cond := .code yX1_or cX1_or 3 (some .boolean) :: TW
def wzX1_leaveOut : List Cond := .code yX1_leaveOut cX1_leaveOut 3 (some .boolean) :: TW
def wzX1_lock : List Cond := .code yX1_lock cX1_lock 3 (some .boolean) :: TW
def wzX1_isBroken : List Cond := .code yX1_isBroken cX1_isBroken 6 (some .boolean) :: TW
def wzX1_broken : List Cond := .code yX1_broken cX1_broken 3 (some .int) :: TW
def wzX1_others : List Cond := .code yX1_others cX1_others 4 (some .int) :: TW
def wzX1_arrange : List Cond := .code yX1_arrange cX1_arrange 3 none :: TW
def wzX1_place : List Cond := .code yX1_place cX1_place 4 none :: TW
def wzX1_rank : List Cond := .code yX1_rank cX1_rank 6 (some .int) :: TW
def wzX1_ranked : List Cond := .code yX1_ranked cX1_ranked 4 (some .int) :: TW
def wzX1_search : List Cond := .code yX1_search cX1_search 5 (some .boolean) :: TW
def wzX1_goes : List Cond := .code yX1_goes cX1_goes 6 (some .boolean) :: TW
def wzX1_none : List Cond := .code yX1_none cX1_none 2 none :: TW
def wzX1_solve : List Cond := .code yX1_solve cX1_solve 3 (some .int) :: TW
def wzX1_chosen : List Cond := .code yX1_chosen cX1_chosen 2 (some .int) :: TW
def wzX1_blame : List Cond := .code yX1_blame cX1_blame 2 (some .int) :: TW
def wzX1_blamed : List Cond := .code yX1_blamed cX1_blamed 2 (some .int) :: TW
def wzX1_can : List Cond := .code yX1_can cX1_can 3 (some .boolean) :: TW
def wzX1_must : List Cond := .code yX1_must cX1_must 2 (some .boolean) :: TW
def wzJ6_bitCount : List Cond := .code yJ6_bitCount cJ6_bitCount 1 (some .int) :: TW
def wzJ13_bitCount : List Cond := .code yJ13_bitCount cJ13_bitCount 2 (some .int) :: TW
theorem gX0_pack_X0_versionsOf : GoodIn wzX0_pack (va_wsS RX0 30 yX0_versionsOf wzX0_versionsOf) := tw_g [.methodLink RX0 30 yX0_versionsOf, .static yX0_versionsOf, .initialized RX0, .code yX0_versionsOf cX0_versionsOf 2 (some .long)] (List.forall_mem_cons.mpr ⟨tz_91, (List.forall_mem_cons.mpr ⟨tz_92, (List.forall_mem_cons.mpr ⟨tz_29, (List.forall_mem_cons.mpr ⟨tz_93, (fun _ h => absurd h List.not_mem_nil)⟩)⟩)⟩)⟩)
theorem gX0_placeOf_X0_versionsOf : GoodIn wzX0_placeOf (va_wsS RX0 30 yX0_versionsOf wzX0_versionsOf) := tw_g [.methodLink RX0 30 yX0_versionsOf, .static yX0_versionsOf, .initialized RX0, .code yX0_versionsOf cX0_versionsOf 2 (some .long)] (List.forall_mem_cons.mpr ⟨tz_91, (List.forall_mem_cons.mpr ⟨tz_92, (List.forall_mem_cons.mpr ⟨tz_29, (List.forall_mem_cons.mpr ⟨tz_93, (fun _ h => absurd h List.not_mem_nil)⟩)⟩)⟩)⟩)
theorem gX0_placeOf_X0_noneOf : GoodIn wzX0_placeOf (va_wsS RX0 127 yX0_noneOf wzX0_noneOf) := tw_g [.methodLink RX0 127 yX0_noneOf, .static yX0_noneOf, .initialized RX0, .code yX0_noneOf cX0_noneOf 1 (some .long)] (List.forall_mem_cons.mpr ⟨tz_110, (List.forall_mem_cons.mpr ⟨tz_111, (List.forall_mem_cons.mpr ⟨tz_29, (List.forall_mem_cons.mpr ⟨tz_112, (fun _ h => absurd h List.not_mem_nil)⟩)⟩)⟩)⟩)
theorem gX0_hasVersion_X0_hasPack : GoodIn wzX0_hasVersion (wsV RX0 45 RX0 yX0_hasPack wzX0_hasPack) := tw_g [.methodLink RX0 45 yX0_hasPack, .instanceMethod yX0_hasPack, .selects RX0 yX0_hasPack yX0_hasPack, .initialized RX0, .code yX0_hasPack cX0_hasPack 2 (some .boolean)] (List.forall_mem_cons.mpr ⟨tz_103, (List.forall_mem_cons.mpr ⟨tz_105, (List.forall_mem_cons.mpr ⟨tz_1, (List.forall_mem_cons.mpr ⟨tz_29, (List.forall_mem_cons.mpr ⟨tz_106, (fun _ h => absurd h List.not_mem_nil)⟩)⟩)⟩)⟩)⟩)
theorem gX0_hasVersion_X0_placeOf : GoodIn wzX0_hasVersion (va_wsS RX0 52 yX0_placeOf wzX0_placeOf) := tw_g [.methodLink RX0 52 yX0_placeOf, .static yX0_placeOf, .initialized RX0, .code yX0_placeOf cX0_placeOf 2 (some .long)] (List.forall_mem_cons.mpr ⟨tz_107, (List.forall_mem_cons.mpr ⟨tz_108, (List.forall_mem_cons.mpr ⟨tz_29, (List.forall_mem_cons.mpr ⟨tz_109, (fun _ h => absurd h List.not_mem_nil)⟩)⟩)⟩)⟩)
theorem gX0_keeping_X0_versionsOf : GoodIn wzX0_keeping (va_wsS RX0 30 yX0_versionsOf wzX0_versionsOf) := tw_g [.methodLink RX0 30 yX0_versionsOf, .static yX0_versionsOf, .initialized RX0, .code yX0_versionsOf cX0_versionsOf 2 (some .long)] (List.forall_mem_cons.mpr ⟨tz_91, (List.forall_mem_cons.mpr ⟨tz_92, (List.forall_mem_cons.mpr ⟨tz_29, (List.forall_mem_cons.mpr ⟨tz_93, (fun _ h => absurd h List.not_mem_nil)⟩)⟩)⟩)⟩)
theorem gX0_keeping_X0_noneOf : GoodIn wzX0_keeping (va_wsS RX0 127 yX0_noneOf wzX0_noneOf) := tw_g [.methodLink RX0 127 yX0_noneOf, .static yX0_noneOf, .initialized RX0, .code yX0_noneOf cX0_noneOf 1 (some .long)] (List.forall_mem_cons.mpr ⟨tz_110, (List.forall_mem_cons.mpr ⟨tz_111, (List.forall_mem_cons.mpr ⟨tz_29, (List.forall_mem_cons.mpr ⟨tz_112, (fun _ h => absurd h List.not_mem_nil)⟩)⟩)⟩)⟩)
theorem gX0_keeping_X0_allOf : GoodIn wzX0_keeping (va_wsS RX0 48 yX0_allOf wzX0_allOf) := tw_g [.methodLink RX0 48 yX0_allOf, .static yX0_allOf, .initialized RX0, .code yX0_allOf cX0_allOf 1 (some .long)] (List.forall_mem_cons.mpr ⟨tz_117, (List.forall_mem_cons.mpr ⟨tz_118, (List.forall_mem_cons.mpr ⟨tz_29, (List.forall_mem_cons.mpr ⟨tz_119, (fun _ h => absurd h List.not_mem_nil)⟩)⟩)⟩)⟩)
theorem gX0_row_X0_hasVersion : GoodIn wzX0_row (wsV RX0 37 RX0 yX0_hasVersion wzX0_hasVersion) := tw_g [.methodLink RX0 37 yX0_hasVersion, .instanceMethod yX0_hasVersion, .selects RX0 yX0_hasVersion yX0_hasVersion, .initialized RX0, .code yX0_hasVersion cX0_hasVersion 3 (some .boolean)] (List.forall_mem_cons.mpr ⟨tz_99, (List.forall_mem_cons.mpr ⟨tz_101, (List.forall_mem_cons.mpr ⟨tz_0, (List.forall_mem_cons.mpr ⟨tz_29, (List.forall_mem_cons.mpr ⟨tz_102, (fun _ h => absurd h List.not_mem_nil)⟩)⟩)⟩)⟩)⟩)
theorem gX0_row_X0_isKind : GoodIn wzX0_row (va_wsS RX0 41 yX0_isKind wzX0_isKind) := tw_g [.methodLink RX0 41 yX0_isKind, .static yX0_isKind, .initialized RX0, .code yX0_isKind cX0_isKind 1 (some .boolean)] (List.forall_mem_cons.mpr ⟨tz_114, (List.forall_mem_cons.mpr ⟨tz_115, (List.forall_mem_cons.mpr ⟨tz_29, (List.forall_mem_cons.mpr ⟨tz_116, (fun _ h => absurd h List.not_mem_nil)⟩)⟩)⟩)⟩)
theorem gX0_row_X0_hasPack : GoodIn wzX0_row (wsV RX0 45 RX0 yX0_hasPack wzX0_hasPack) := tw_g [.methodLink RX0 45 yX0_hasPack, .instanceMethod yX0_hasPack, .selects RX0 yX0_hasPack yX0_hasPack, .initialized RX0, .code yX0_hasPack cX0_hasPack 2 (some .boolean)] (List.forall_mem_cons.mpr ⟨tz_103, (List.forall_mem_cons.mpr ⟨tz_105, (List.forall_mem_cons.mpr ⟨tz_1, (List.forall_mem_cons.mpr ⟨tz_29, (List.forall_mem_cons.mpr ⟨tz_106, (fun _ h => absurd h List.not_mem_nil)⟩)⟩)⟩)⟩)⟩)
theorem gX0_row_X0_allOf : GoodIn wzX0_row (va_wsS RX0 48 yX0_allOf wzX0_allOf) := tw_g [.methodLink RX0 48 yX0_allOf, .static yX0_allOf, .initialized RX0, .code yX0_allOf cX0_allOf 1 (some .long)] (List.forall_mem_cons.mpr ⟨tz_117, (List.forall_mem_cons.mpr ⟨tz_118, (List.forall_mem_cons.mpr ⟨tz_29, (List.forall_mem_cons.mpr ⟨tz_119, (fun _ h => absurd h List.not_mem_nil)⟩)⟩)⟩)⟩)
theorem gX0_row_X0_placeOf : GoodIn wzX0_row (va_wsS RX0 52 yX0_placeOf wzX0_placeOf) := tw_g [.methodLink RX0 52 yX0_placeOf, .static yX0_placeOf, .initialized RX0, .code yX0_placeOf cX0_placeOf 2 (some .long)] (List.forall_mem_cons.mpr ⟨tz_107, (List.forall_mem_cons.mpr ⟨tz_108, (List.forall_mem_cons.mpr ⟨tz_29, (List.forall_mem_cons.mpr ⟨tz_109, (fun _ h => absurd h List.not_mem_nil)⟩)⟩)⟩)⟩)
theorem gX0_row_X0_keeping : GoodIn wzX0_row (va_wsS RX0 57 yX0_keeping wzX0_keeping) := tw_g [.methodLink RX0 57 yX0_keeping, .static yX0_keeping, .initialized RX0, .code yX0_keeping cX0_keeping 5 (some .long)] (List.forall_mem_cons.mpr ⟨tz_122, (List.forall_mem_cons.mpr ⟨tz_123, (List.forall_mem_cons.mpr ⟨tz_29, (List.forall_mem_cons.mpr ⟨tz_124, (fun _ h => absurd h List.not_mem_nil)⟩)⟩)⟩)⟩)
theorem gX0_row_X0_startAlternatives : GoodIn wzX0_row (wsV RX0 61 RX0 yX0_startAlternatives wzX0_startAlternatives) := tw_g [.methodLink RX0 61 yX0_startAlternatives, .instanceMethod yX0_startAlternatives, .selects RX0 yX0_startAlternatives yX0_startAlternatives, .initialized RX0, .code yX0_startAlternatives cX0_startAlternatives 3 none] (List.forall_mem_cons.mpr ⟨tz_125, (List.forall_mem_cons.mpr ⟨tz_127, (List.forall_mem_cons.mpr ⟨tz_2, (List.forall_mem_cons.mpr ⟨tz_29, (List.forall_mem_cons.mpr ⟨tz_128, (fun _ h => absurd h List.not_mem_nil)⟩)⟩)⟩)⟩)⟩)
theorem gX0_moveToNeeded_X0_positionOf : GoodIn wzX0_moveToNeeded (wsV RX0 130 RX0 yX0_positionOf wzX0_positionOf) := tw_g [.methodLink RX0 130 yX0_positionOf, .instanceMethod yX0_positionOf, .selects RX0 yX0_positionOf yX0_positionOf, .initialized RX0, .code yX0_positionOf cX0_positionOf 3 (some .int)] (List.forall_mem_cons.mpr ⟨tz_137, (List.forall_mem_cons.mpr ⟨tz_139, (List.forall_mem_cons.mpr ⟨tz_4, (List.forall_mem_cons.mpr ⟨tz_29, (List.forall_mem_cons.mpr ⟨tz_140, (fun _ h => absurd h List.not_mem_nil)⟩)⟩)⟩)⟩)⟩)
theorem gX0_demand_X0_isKind : GoodIn wzX0_demand (va_wsS RX0 41 yX0_isKind wzX0_isKind) := tw_g [.methodLink RX0 41 yX0_isKind, .static yX0_isKind, .initialized RX0, .code yX0_isKind cX0_isKind 1 (some .boolean)] (List.forall_mem_cons.mpr ⟨tz_114, (List.forall_mem_cons.mpr ⟨tz_115, (List.forall_mem_cons.mpr ⟨tz_29, (List.forall_mem_cons.mpr ⟨tz_116, (fun _ h => absurd h List.not_mem_nil)⟩)⟩)⟩)⟩)
theorem gX0_demand_X0_hasPack : GoodIn wzX0_demand (wsV RX0 45 RX0 yX0_hasPack wzX0_hasPack) := tw_g [.methodLink RX0 45 yX0_hasPack, .instanceMethod yX0_hasPack, .selects RX0 yX0_hasPack yX0_hasPack, .initialized RX0, .code yX0_hasPack cX0_hasPack 2 (some .boolean)] (List.forall_mem_cons.mpr ⟨tz_103, (List.forall_mem_cons.mpr ⟨tz_105, (List.forall_mem_cons.mpr ⟨tz_1, (List.forall_mem_cons.mpr ⟨tz_29, (List.forall_mem_cons.mpr ⟨tz_106, (fun _ h => absurd h List.not_mem_nil)⟩)⟩)⟩)⟩)⟩)
theorem gX0_demand_X0_keeping : GoodIn wzX0_demand (va_wsS RX0 57 yX0_keeping wzX0_keeping) := tw_g [.methodLink RX0 57 yX0_keeping, .static yX0_keeping, .initialized RX0, .code yX0_keeping cX0_keeping 5 (some .long)] (List.forall_mem_cons.mpr ⟨tz_122, (List.forall_mem_cons.mpr ⟨tz_123, (List.forall_mem_cons.mpr ⟨tz_29, (List.forall_mem_cons.mpr ⟨tz_124, (fun _ h => absurd h List.not_mem_nil)⟩)⟩)⟩)⟩)
theorem gX0_demand_X0_startAlternatives : GoodIn wzX0_demand (wsV RX0 61 RX0 yX0_startAlternatives wzX0_startAlternatives) := tw_g [.methodLink RX0 61 yX0_startAlternatives, .instanceMethod yX0_startAlternatives, .selects RX0 yX0_startAlternatives yX0_startAlternatives, .initialized RX0, .code yX0_startAlternatives cX0_startAlternatives 3 none] (List.forall_mem_cons.mpr ⟨tz_125, (List.forall_mem_cons.mpr ⟨tz_127, (List.forall_mem_cons.mpr ⟨tz_2, (List.forall_mem_cons.mpr ⟨tz_29, (List.forall_mem_cons.mpr ⟨tz_128, (fun _ h => absurd h List.not_mem_nil)⟩)⟩)⟩)⟩)⟩)
theorem gX0_demand_X0_moveToNeeded : GoodIn wzX0_demand (wsV RX0 68 RX0 yX0_moveToNeeded wzX0_moveToNeeded) := tw_g [.methodLink RX0 68 yX0_moveToNeeded, .instanceMethod yX0_moveToNeeded, .selects RX0 yX0_moveToNeeded yX0_moveToNeeded, .initialized RX0, .code yX0_moveToNeeded cX0_moveToNeeded 4 none] (List.forall_mem_cons.mpr ⟨tz_133, (List.forall_mem_cons.mpr ⟨tz_135, (List.forall_mem_cons.mpr ⟨tz_3, (List.forall_mem_cons.mpr ⟨tz_29, (List.forall_mem_cons.mpr ⟨tz_136, (fun _ h => absurd h List.not_mem_nil)⟩)⟩)⟩)⟩)⟩)
theorem gX0_addToLatestDemand_X0_versionsOf : GoodIn wzX0_addToLatestDemand (va_wsS RX0 30 yX0_versionsOf wzX0_versionsOf) := tw_g [.methodLink RX0 30 yX0_versionsOf, .static yX0_versionsOf, .initialized RX0, .code yX0_versionsOf cX0_versionsOf 2 (some .long)] (List.forall_mem_cons.mpr ⟨tz_91, (List.forall_mem_cons.mpr ⟨tz_92, (List.forall_mem_cons.mpr ⟨tz_29, (List.forall_mem_cons.mpr ⟨tz_93, (fun _ h => absurd h List.not_mem_nil)⟩)⟩)⟩)⟩)
theorem gX0_addToLatestDemand_X0_moveToNeeded : GoodIn wzX0_addToLatestDemand (wsV RX0 68 RX0 yX0_moveToNeeded wzX0_moveToNeeded) := tw_g [.methodLink RX0 68 yX0_moveToNeeded, .instanceMethod yX0_moveToNeeded, .selects RX0 yX0_moveToNeeded yX0_moveToNeeded, .initialized RX0, .code yX0_moveToNeeded cX0_moveToNeeded 4 none] (List.forall_mem_cons.mpr ⟨tz_133, (List.forall_mem_cons.mpr ⟨tz_135, (List.forall_mem_cons.mpr ⟨tz_3, (List.forall_mem_cons.mpr ⟨tz_29, (List.forall_mem_cons.mpr ⟨tz_136, (fun _ h => absurd h List.not_mem_nil)⟩)⟩)⟩)⟩)⟩)
theorem gX0_addToLatestRow_X0_versionsOf : GoodIn wzX0_addToLatestRow (va_wsS RX0 30 yX0_versionsOf wzX0_versionsOf) := tw_g [.methodLink RX0 30 yX0_versionsOf, .static yX0_versionsOf, .initialized RX0, .code yX0_versionsOf cX0_versionsOf 2 (some .long)] (List.forall_mem_cons.mpr ⟨tz_91, (List.forall_mem_cons.mpr ⟨tz_92, (List.forall_mem_cons.mpr ⟨tz_29, (List.forall_mem_cons.mpr ⟨tz_93, (fun _ h => absurd h List.not_mem_nil)⟩)⟩)⟩)⟩)
theorem gX0_or_X0_hasPack : GoodIn wzX0_or (wsV RX0 45 RX0 yX0_hasPack wzX0_hasPack) := tw_g [.methodLink RX0 45 yX0_hasPack, .instanceMethod yX0_hasPack, .selects RX0 yX0_hasPack yX0_hasPack, .initialized RX0, .code yX0_hasPack cX0_hasPack 2 (some .boolean)] (List.forall_mem_cons.mpr ⟨tz_103, (List.forall_mem_cons.mpr ⟨tz_105, (List.forall_mem_cons.mpr ⟨tz_1, (List.forall_mem_cons.mpr ⟨tz_29, (List.forall_mem_cons.mpr ⟨tz_106, (fun _ h => absurd h List.not_mem_nil)⟩)⟩)⟩)⟩)⟩)
theorem gX0_or_X0_addToLatestRow : GoodIn wzX0_or (wsV RX0 83 RX0 yX0_addToLatestRow wzX0_addToLatestRow) := tw_g [.methodLink RX0 83 yX0_addToLatestRow, .instanceMethod yX0_addToLatestRow, .selects RX0 yX0_addToLatestRow yX0_addToLatestRow, .initialized RX0, .code yX0_addToLatestRow cX0_addToLatestRow 3 none] (List.forall_mem_cons.mpr ⟨tz_149, (List.forall_mem_cons.mpr ⟨tz_151, (List.forall_mem_cons.mpr ⟨tz_6, (List.forall_mem_cons.mpr ⟨tz_29, (List.forall_mem_cons.mpr ⟨tz_152, (fun _ h => absurd h List.not_mem_nil)⟩)⟩)⟩)⟩)⟩)
theorem gX0_or_X0_addToLatestDemand : GoodIn wzX0_or (wsV RX0 79 RX0 yX0_addToLatestDemand wzX0_addToLatestDemand) := tw_g [.methodLink RX0 79 yX0_addToLatestDemand, .instanceMethod yX0_addToLatestDemand, .selects RX0 yX0_addToLatestDemand yX0_addToLatestDemand, .initialized RX0, .code yX0_addToLatestDemand cX0_addToLatestDemand 3 none] (List.forall_mem_cons.mpr ⟨tz_145, (List.forall_mem_cons.mpr ⟨tz_147, (List.forall_mem_cons.mpr ⟨tz_5, (List.forall_mem_cons.mpr ⟨tz_29, (List.forall_mem_cons.mpr ⟨tz_148, (fun _ h => absurd h List.not_mem_nil)⟩)⟩)⟩)⟩)⟩)
theorem gX0_hasPlace_X0_hasVersion : GoodIn wzX0_hasPlace (wsV RX0 37 RX0 yX0_hasVersion wzX0_hasVersion) := tw_g [.methodLink RX0 37 yX0_hasVersion, .instanceMethod yX0_hasVersion, .selects RX0 yX0_hasVersion yX0_hasVersion, .initialized RX0, .code yX0_hasVersion cX0_hasVersion 3 (some .boolean)] (List.forall_mem_cons.mpr ⟨tz_99, (List.forall_mem_cons.mpr ⟨tz_101, (List.forall_mem_cons.mpr ⟨tz_0, (List.forall_mem_cons.mpr ⟨tz_29, (List.forall_mem_cons.mpr ⟨tz_102, (fun _ h => absurd h List.not_mem_nil)⟩)⟩)⟩)⟩)⟩)
theorem gX0_hasPlace_X0_hasPack : GoodIn wzX0_hasPlace (wsV RX0 45 RX0 yX0_hasPack wzX0_hasPack) := tw_g [.methodLink RX0 45 yX0_hasPack, .instanceMethod yX0_hasPack, .selects RX0 yX0_hasPack yX0_hasPack, .initialized RX0, .code yX0_hasPack cX0_hasPack 2 (some .boolean)] (List.forall_mem_cons.mpr ⟨tz_103, (List.forall_mem_cons.mpr ⟨tz_105, (List.forall_mem_cons.mpr ⟨tz_1, (List.forall_mem_cons.mpr ⟨tz_29, (List.forall_mem_cons.mpr ⟨tz_106, (fun _ h => absurd h List.not_mem_nil)⟩)⟩)⟩)⟩)⟩)
theorem gX0_lock_X0_hasPlace : GoodIn wzX0_lock (wsV RX0 89 RX0 yX0_hasPlace wzX0_hasPlace) := tw_g [.methodLink RX0 89 yX0_hasPlace, .instanceMethod yX0_hasPlace, .selects RX0 yX0_hasPlace yX0_hasPlace, .initialized RX0, .code yX0_hasPlace cX0_hasPlace 3 (some .boolean)] (List.forall_mem_cons.mpr ⟨tz_161, (List.forall_mem_cons.mpr ⟨tz_163, (List.forall_mem_cons.mpr ⟨tz_7, (List.forall_mem_cons.mpr ⟨tz_29, (List.forall_mem_cons.mpr ⟨tz_164, (fun _ h => absurd h List.not_mem_nil)⟩)⟩)⟩)⟩)⟩)
theorem gX0_lock_X0_allOf : GoodIn wzX0_lock (va_wsS RX0 48 yX0_allOf wzX0_allOf) := tw_g [.methodLink RX0 48 yX0_allOf, .static yX0_allOf, .initialized RX0, .code yX0_allOf cX0_allOf 1 (some .long)] (List.forall_mem_cons.mpr ⟨tz_117, (List.forall_mem_cons.mpr ⟨tz_118, (List.forall_mem_cons.mpr ⟨tz_29, (List.forall_mem_cons.mpr ⟨tz_119, (fun _ h => absurd h List.not_mem_nil)⟩)⟩)⟩)⟩)
theorem gX0_lock_X0_placeOf : GoodIn wzX0_lock (va_wsS RX0 52 yX0_placeOf wzX0_placeOf) := tw_g [.methodLink RX0 52 yX0_placeOf, .static yX0_placeOf, .initialized RX0, .code yX0_placeOf cX0_placeOf 2 (some .long)] (List.forall_mem_cons.mpr ⟨tz_107, (List.forall_mem_cons.mpr ⟨tz_108, (List.forall_mem_cons.mpr ⟨tz_29, (List.forall_mem_cons.mpr ⟨tz_109, (fun _ h => absurd h List.not_mem_nil)⟩)⟩)⟩)⟩)
theorem gX0_narrowByRule_J13_bitCount : GoodIn wzX0_narrowByRule (va_wsS RX0 151 yJ13_bitCount wzJ13_bitCount) := tw_g [.methodLink RX0 151 yJ13_bitCount, .static yJ13_bitCount, .initialized RJ13, .code yJ13_bitCount cJ13_bitCount 2 (some .int)] (List.forall_mem_cons.mpr ⟨tz_184, (List.forall_mem_cons.mpr ⟨tz_185, (List.forall_mem_cons.mpr ⟨tz_31, (List.forall_mem_cons.mpr ⟨tz_186, (fun _ h => absurd h List.not_mem_nil)⟩)⟩)⟩)⟩)
theorem gX0_narrowByRule_X0_allOf : GoodIn wzX0_narrowByRule (va_wsS RX0 48 yX0_allOf wzX0_allOf) := tw_g [.methodLink RX0 48 yX0_allOf, .static yX0_allOf, .initialized RX0, .code yX0_allOf cX0_allOf 1 (some .long)] (List.forall_mem_cons.mpr ⟨tz_117, (List.forall_mem_cons.mpr ⟨tz_118, (List.forall_mem_cons.mpr ⟨tz_29, (List.forall_mem_cons.mpr ⟨tz_119, (fun _ h => absurd h List.not_mem_nil)⟩)⟩)⟩)⟩)
theorem gX0_narrow_X0_narrowByRule : GoodIn wzX0_narrow (va_wsS RX0 147 yX0_narrowByRule wzX0_narrowByRule) := tw_g [.methodLink RX0 147 yX0_narrowByRule, .static yX0_narrowByRule, .initialized RX0, .code yX0_narrowByRule cX0_narrowByRule 10 (some .long)] (List.forall_mem_cons.mpr ⟨tz_181, (List.forall_mem_cons.mpr ⟨tz_182, (List.forall_mem_cons.mpr ⟨tz_29, (List.forall_mem_cons.mpr ⟨tz_183, (fun _ h => absurd h List.not_mem_nil)⟩)⟩)⟩)⟩)
theorem gX0_placeAt_X0_placeOf : GoodIn wzX0_placeAt (va_wsS RX0 52 yX0_placeOf wzX0_placeOf) := tw_g [.methodLink RX0 52 yX0_placeOf, .static yX0_placeOf, .initialized RX0, .code yX0_placeOf cX0_placeOf 2 (some .long)] (List.forall_mem_cons.mpr ⟨tz_107, (List.forall_mem_cons.mpr ⟨tz_108, (List.forall_mem_cons.mpr ⟨tz_29, (List.forall_mem_cons.mpr ⟨tz_109, (fun _ h => absurd h List.not_mem_nil)⟩)⟩)⟩)⟩)
theorem gX0_placeAt_X0_noneOf : GoodIn wzX0_placeAt (va_wsS RX0 127 yX0_noneOf wzX0_noneOf) := tw_g [.methodLink RX0 127 yX0_noneOf, .static yX0_noneOf, .initialized RX0, .code yX0_noneOf cX0_noneOf 1 (some .long)] (List.forall_mem_cons.mpr ⟨tz_110, (List.forall_mem_cons.mpr ⟨tz_111, (List.forall_mem_cons.mpr ⟨tz_29, (List.forall_mem_cons.mpr ⟨tz_112, (fun _ h => absurd h List.not_mem_nil)⟩)⟩)⟩)⟩)
theorem gX0_placeAt_X0_allOf : GoodIn wzX0_placeAt (va_wsS RX0 48 yX0_allOf wzX0_allOf) := tw_g [.methodLink RX0 48 yX0_allOf, .static yX0_allOf, .initialized RX0, .code yX0_allOf cX0_allOf 1 (some .long)] (List.forall_mem_cons.mpr ⟨tz_117, (List.forall_mem_cons.mpr ⟨tz_118, (List.forall_mem_cons.mpr ⟨tz_29, (List.forall_mem_cons.mpr ⟨tz_119, (fun _ h => absurd h List.not_mem_nil)⟩)⟩)⟩)⟩)
theorem gX0_firstOf_X0_placeAt : GoodIn wzX0_firstOf (wsV RX0 143 RX0 yX0_placeAt wzX0_placeAt) := tw_g [.methodLink RX0 143 yX0_placeAt, .instanceMethod yX0_placeAt, .selects RX0 yX0_placeAt yX0_placeAt, .initialized RX0, .code yX0_placeAt cX0_placeAt 4 (some .long)] (List.forall_mem_cons.mpr ⟨tz_194, (List.forall_mem_cons.mpr ⟨tz_196, (List.forall_mem_cons.mpr ⟨tz_12, (List.forall_mem_cons.mpr ⟨tz_29, (List.forall_mem_cons.mpr ⟨tz_197, (fun _ h => absurd h List.not_mem_nil)⟩)⟩)⟩)⟩)⟩)
theorem gX0_firstOf_X0_allOf : GoodIn wzX0_firstOf (va_wsS RX0 48 yX0_allOf wzX0_allOf) := tw_g [.methodLink RX0 48 yX0_allOf, .static yX0_allOf, .initialized RX0, .code yX0_allOf cX0_allOf 1 (some .long)] (List.forall_mem_cons.mpr ⟨tz_117, (List.forall_mem_cons.mpr ⟨tz_118, (List.forall_mem_cons.mpr ⟨tz_29, (List.forall_mem_cons.mpr ⟨tz_119, (fun _ h => absurd h List.not_mem_nil)⟩)⟩)⟩)⟩)
theorem gX0_firstOf_X0_firstWithin : GoodIn wzX0_firstOf (wsV RX0 99 RX0 yX0_firstWithin wzX0_firstWithin) := tw_g [.methodLink RX0 99 yX0_firstWithin, .instanceMethod yX0_firstWithin, .selects RX0 yX0_firstWithin yX0_firstWithin, .initialized RX0, .code yX0_firstWithin cX0_firstWithin 7 (some .long)] (List.forall_mem_cons.mpr ⟨tz_173, (List.forall_mem_cons.mpr ⟨tz_175, (List.forall_mem_cons.mpr ⟨tz_9, (List.forall_mem_cons.mpr ⟨tz_29, (List.forall_mem_cons.mpr ⟨tz_176, (fun _ h => absurd h List.not_mem_nil)⟩)⟩)⟩)⟩)⟩)
theorem gX0_firstWithin_X0_narrow : GoodIn wzX0_firstWithin (wsV RX0 136 RX0 yX0_narrow wzX0_narrow) := tw_g [.methodLink RX0 136 yX0_narrow, .instanceMethod yX0_narrow, .selects RX0 yX0_narrow yX0_narrow, .initialized RX0, .code yX0_narrow cX0_narrow 10 (some .long)] (List.forall_mem_cons.mpr ⟨tz_177, (List.forall_mem_cons.mpr ⟨tz_179, (List.forall_mem_cons.mpr ⟨tz_10, (List.forall_mem_cons.mpr ⟨tz_29, (List.forall_mem_cons.mpr ⟨tz_180, (fun _ h => absurd h List.not_mem_nil)⟩)⟩)⟩)⟩)⟩)
theorem gX0_firstWithin_X0_firstOf : GoodIn wzX0_firstWithin (wsV RX0 140 RX0 yX0_firstOf wzX0_firstOf) := tw_g [.methodLink RX0 140 yX0_firstOf, .instanceMethod yX0_firstOf, .selects RX0 yX0_firstOf yX0_firstOf, .initialized RX0, .code yX0_firstOf cX0_firstOf 14 (some .long)] (List.forall_mem_cons.mpr ⟨tz_190, (List.forall_mem_cons.mpr ⟨tz_192, (List.forall_mem_cons.mpr ⟨tz_11, (List.forall_mem_cons.mpr ⟨tz_29, (List.forall_mem_cons.mpr ⟨tz_193, (fun _ h => absurd h List.not_mem_nil)⟩)⟩)⟩)⟩)⟩)
theorem gX0_solve_X0_demandsThatCount : GoodIn wzX0_solve (wsV RX0 95 RX0 yX0_demandsThatCount wzX0_demandsThatCount) := tw_g [.methodLink RX0 95 yX0_demandsThatCount, .instanceMethod yX0_demandsThatCount, .selects RX0 yX0_demandsThatCount yX0_demandsThatCount, .initialized RX0, .code yX0_demandsThatCount cX0_demandsThatCount 1 (some .int)] (List.forall_mem_cons.mpr ⟨tz_169, (List.forall_mem_cons.mpr ⟨tz_171, (List.forall_mem_cons.mpr ⟨tz_8, (List.forall_mem_cons.mpr ⟨tz_29, (List.forall_mem_cons.mpr ⟨tz_172, (fun _ h => absurd h List.not_mem_nil)⟩)⟩)⟩)⟩)⟩)
theorem gX0_solve_X0_firstWithin : GoodIn wzX0_solve (wsV RX0 99 RX0 yX0_firstWithin wzX0_firstWithin) := tw_g [.methodLink RX0 99 yX0_firstWithin, .instanceMethod yX0_firstWithin, .selects RX0 yX0_firstWithin yX0_firstWithin, .initialized RX0, .code yX0_firstWithin cX0_firstWithin 7 (some .long)] (List.forall_mem_cons.mpr ⟨tz_173, (List.forall_mem_cons.mpr ⟨tz_175, (List.forall_mem_cons.mpr ⟨tz_9, (List.forall_mem_cons.mpr ⟨tz_29, (List.forall_mem_cons.mpr ⟨tz_176, (fun _ h => absurd h List.not_mem_nil)⟩)⟩)⟩)⟩)⟩)
theorem gX0_chosen_X0_hasPack : GoodIn wzX0_chosen (wsV RX0 45 RX0 yX0_hasPack wzX0_hasPack) := tw_g [.methodLink RX0 45 yX0_hasPack, .instanceMethod yX0_hasPack, .selects RX0 yX0_hasPack yX0_hasPack, .initialized RX0, .code yX0_hasPack cX0_hasPack 2 (some .boolean)] (List.forall_mem_cons.mpr ⟨tz_103, (List.forall_mem_cons.mpr ⟨tz_105, (List.forall_mem_cons.mpr ⟨tz_1, (List.forall_mem_cons.mpr ⟨tz_29, (List.forall_mem_cons.mpr ⟨tz_106, (fun _ h => absurd h List.not_mem_nil)⟩)⟩)⟩)⟩)⟩)
theorem gX0_chosen_X0_placeOf : GoodIn wzX0_chosen (va_wsS RX0 52 yX0_placeOf wzX0_placeOf) := tw_g [.methodLink RX0 52 yX0_placeOf, .static yX0_placeOf, .initialized RX0, .code yX0_placeOf cX0_placeOf 2 (some .long)] (List.forall_mem_cons.mpr ⟨tz_107, (List.forall_mem_cons.mpr ⟨tz_108, (List.forall_mem_cons.mpr ⟨tz_29, (List.forall_mem_cons.mpr ⟨tz_109, (fun _ h => absurd h List.not_mem_nil)⟩)⟩)⟩)⟩)
theorem gX0_someRightKeeps_X0_firstWithin : GoodIn wzX0_someRightKeeps (wsV RX0 99 RX0 yX0_firstWithin wzX0_firstWithin) := tw_g [.methodLink RX0 99 yX0_firstWithin, .instanceMethod yX0_firstWithin, .selects RX0 yX0_firstWithin yX0_firstWithin, .initialized RX0, .code yX0_firstWithin cX0_firstWithin 7 (some .long)] (List.forall_mem_cons.mpr ⟨tz_173, (List.forall_mem_cons.mpr ⟨tz_175, (List.forall_mem_cons.mpr ⟨tz_9, (List.forall_mem_cons.mpr ⟨tz_29, (List.forall_mem_cons.mpr ⟨tz_176, (fun _ h => absurd h List.not_mem_nil)⟩)⟩)⟩)⟩)⟩)
theorem gX0_blame_X0_demandsThatCount : GoodIn wzX0_blame (wsV RX0 95 RX0 yX0_demandsThatCount wzX0_demandsThatCount) := tw_g [.methodLink RX0 95 yX0_demandsThatCount, .instanceMethod yX0_demandsThatCount, .selects RX0 yX0_demandsThatCount yX0_demandsThatCount, .initialized RX0, .code yX0_demandsThatCount cX0_demandsThatCount 1 (some .int)] (List.forall_mem_cons.mpr ⟨tz_169, (List.forall_mem_cons.mpr ⟨tz_171, (List.forall_mem_cons.mpr ⟨tz_8, (List.forall_mem_cons.mpr ⟨tz_29, (List.forall_mem_cons.mpr ⟨tz_172, (fun _ h => absurd h List.not_mem_nil)⟩)⟩)⟩)⟩)⟩)
theorem gX0_blame_X0_someRightKeeps : GoodIn wzX0_blame (wsV RX0 109 RX0 yX0_someRightKeeps wzX0_someRightKeeps) := tw_g [.methodLink RX0 109 yX0_someRightKeeps, .instanceMethod yX0_someRightKeeps, .selects RX0 yX0_someRightKeeps yX0_someRightKeeps, .initialized RX0, .code yX0_someRightKeeps cX0_someRightKeeps 2 (some .boolean)] (List.forall_mem_cons.mpr ⟨tz_206, (List.forall_mem_cons.mpr ⟨tz_208, (List.forall_mem_cons.mpr ⟨tz_13, (List.forall_mem_cons.mpr ⟨tz_29, (List.forall_mem_cons.mpr ⟨tz_209, (fun _ h => absurd h List.not_mem_nil)⟩)⟩)⟩)⟩)⟩)
theorem gX0_blame_J6_bitCount : GoodIn wzX0_blame (va_wsS RX0 112 yJ6_bitCount wzJ6_bitCount) := tw_g [.methodLink RX0 112 yJ6_bitCount, .static yJ6_bitCount, .initialized RJ6, .code yJ6_bitCount cJ6_bitCount 1 (some .int)] (List.forall_mem_cons.mpr ⟨tz_210, (List.forall_mem_cons.mpr ⟨tz_211, (List.forall_mem_cons.mpr ⟨tz_32, (List.forall_mem_cons.mpr ⟨tz_212, (fun _ h => absurd h List.not_mem_nil)⟩)⟩)⟩)⟩)
theorem gX0_someRightGives_X0_allOf : GoodIn wzX0_someRightGives (va_wsS RX0 48 yX0_allOf wzX0_allOf) := tw_g [.methodLink RX0 48 yX0_allOf, .static yX0_allOf, .initialized RX0, .code yX0_allOf cX0_allOf 1 (some .long)] (List.forall_mem_cons.mpr ⟨tz_117, (List.forall_mem_cons.mpr ⟨tz_118, (List.forall_mem_cons.mpr ⟨tz_29, (List.forall_mem_cons.mpr ⟨tz_119, (fun _ h => absurd h List.not_mem_nil)⟩)⟩)⟩)⟩)
theorem gX0_someRightGives_X0_placeOf : GoodIn wzX0_someRightGives (va_wsS RX0 52 yX0_placeOf wzX0_placeOf) := tw_g [.methodLink RX0 52 yX0_placeOf, .static yX0_placeOf, .initialized RX0, .code yX0_placeOf cX0_placeOf 2 (some .long)] (List.forall_mem_cons.mpr ⟨tz_107, (List.forall_mem_cons.mpr ⟨tz_108, (List.forall_mem_cons.mpr ⟨tz_29, (List.forall_mem_cons.mpr ⟨tz_109, (fun _ h => absurd h List.not_mem_nil)⟩)⟩)⟩)⟩)
theorem gX0_someRightGives_X0_demandsThatCount : GoodIn wzX0_someRightGives (wsV RX0 95 RX0 yX0_demandsThatCount wzX0_demandsThatCount) := tw_g [.methodLink RX0 95 yX0_demandsThatCount, .instanceMethod yX0_demandsThatCount, .selects RX0 yX0_demandsThatCount yX0_demandsThatCount, .initialized RX0, .code yX0_demandsThatCount cX0_demandsThatCount 1 (some .int)] (List.forall_mem_cons.mpr ⟨tz_169, (List.forall_mem_cons.mpr ⟨tz_171, (List.forall_mem_cons.mpr ⟨tz_8, (List.forall_mem_cons.mpr ⟨tz_29, (List.forall_mem_cons.mpr ⟨tz_172, (fun _ h => absurd h List.not_mem_nil)⟩)⟩)⟩)⟩)⟩)
theorem gX0_someRightGives_X0_firstWithin : GoodIn wzX0_someRightGives (wsV RX0 99 RX0 yX0_firstWithin wzX0_firstWithin) := tw_g [.methodLink RX0 99 yX0_firstWithin, .instanceMethod yX0_firstWithin, .selects RX0 yX0_firstWithin yX0_firstWithin, .initialized RX0, .code yX0_firstWithin cX0_firstWithin 7 (some .long)] (List.forall_mem_cons.mpr ⟨tz_173, (List.forall_mem_cons.mpr ⟨tz_175, (List.forall_mem_cons.mpr ⟨tz_9, (List.forall_mem_cons.mpr ⟨tz_29, (List.forall_mem_cons.mpr ⟨tz_176, (fun _ h => absurd h List.not_mem_nil)⟩)⟩)⟩)⟩)⟩)
theorem gX0_can_X0_hasPlace : GoodIn wzX0_can (wsV RX0 89 RX0 yX0_hasPlace wzX0_hasPlace) := tw_g [.methodLink RX0 89 yX0_hasPlace, .instanceMethod yX0_hasPlace, .selects RX0 yX0_hasPlace yX0_hasPlace, .initialized RX0, .code yX0_hasPlace cX0_hasPlace 3 (some .boolean)] (List.forall_mem_cons.mpr ⟨tz_161, (List.forall_mem_cons.mpr ⟨tz_163, (List.forall_mem_cons.mpr ⟨tz_7, (List.forall_mem_cons.mpr ⟨tz_29, (List.forall_mem_cons.mpr ⟨tz_164, (fun _ h => absurd h List.not_mem_nil)⟩)⟩)⟩)⟩)⟩)
theorem gX0_can_X0_someRightGives : GoodIn wzX0_can (wsV RX0 118 RX0 yX0_someRightGives wzX0_someRightGives) := tw_g [.methodLink RX0 118 yX0_someRightGives, .instanceMethod yX0_someRightGives, .selects RX0 yX0_someRightGives yX0_someRightGives, .initialized RX0, .code yX0_someRightGives cX0_someRightGives 5 (some .boolean)] (List.forall_mem_cons.mpr ⟨tz_224, (List.forall_mem_cons.mpr ⟨tz_226, (List.forall_mem_cons.mpr ⟨tz_14, (List.forall_mem_cons.mpr ⟨tz_29, (List.forall_mem_cons.mpr ⟨tz_227, (fun _ h => absurd h List.not_mem_nil)⟩)⟩)⟩)⟩)⟩)
theorem gX0_must_X0_hasPack : GoodIn wzX0_must (wsV RX0 45 RX0 yX0_hasPack wzX0_hasPack) := tw_g [.methodLink RX0 45 yX0_hasPack, .instanceMethod yX0_hasPack, .selects RX0 yX0_hasPack yX0_hasPack, .initialized RX0, .code yX0_hasPack cX0_hasPack 2 (some .boolean)] (List.forall_mem_cons.mpr ⟨tz_103, (List.forall_mem_cons.mpr ⟨tz_105, (List.forall_mem_cons.mpr ⟨tz_1, (List.forall_mem_cons.mpr ⟨tz_29, (List.forall_mem_cons.mpr ⟨tz_106, (fun _ h => absurd h List.not_mem_nil)⟩)⟩)⟩)⟩)⟩)
theorem gX0_must_X0_someRightGives : GoodIn wzX0_must (wsV RX0 118 RX0 yX0_someRightGives wzX0_someRightGives) := tw_g [.methodLink RX0 118 yX0_someRightGives, .instanceMethod yX0_someRightGives, .selects RX0 yX0_someRightGives yX0_someRightGives, .initialized RX0, .code yX0_someRightGives cX0_someRightGives 5 (some .boolean)] (List.forall_mem_cons.mpr ⟨tz_224, (List.forall_mem_cons.mpr ⟨tz_226, (List.forall_mem_cons.mpr ⟨tz_14, (List.forall_mem_cons.mpr ⟨tz_29, (List.forall_mem_cons.mpr ⟨tz_227, (fun _ h => absurd h List.not_mem_nil)⟩)⟩)⟩)⟩)⟩)
theorem gX1_isVersion_X1_isPackage : GoodIn wzX1_isVersion (wsV RX1 69 RX1 yX1_isPackage wzX1_isPackage) := tw_g [.methodLink RX1 69 yX1_isPackage, .instanceMethod yX1_isPackage, .selects RX1 yX1_isPackage yX1_isPackage, .initialized RX1, .code yX1_isPackage cX1_isPackage 2 (some .boolean)] (List.forall_mem_cons.mpr ⟨tz_321, (List.forall_mem_cons.mpr ⟨tz_323, (List.forall_mem_cons.mpr ⟨tz_16, (List.forall_mem_cons.mpr ⟨tz_30, (List.forall_mem_cons.mpr ⟨tz_324, (fun _ h => absurd h List.not_mem_nil)⟩)⟩)⟩)⟩)⟩)
theorem gX1_row_X1_isVersion : GoodIn wzX1_row (wsV RX1 73 RX1 yX1_isVersion wzX1_isVersion) := tw_g [.methodLink RX1 73 yX1_isVersion, .instanceMethod yX1_isVersion, .selects RX1 yX1_isVersion yX1_isVersion, .initialized RX1, .code yX1_isVersion cX1_isVersion 3 (some .boolean)] (List.forall_mem_cons.mpr ⟨tz_317, (List.forall_mem_cons.mpr ⟨tz_319, (List.forall_mem_cons.mpr ⟨tz_15, (List.forall_mem_cons.mpr ⟨tz_30, (List.forall_mem_cons.mpr ⟨tz_320, (fun _ h => absurd h List.not_mem_nil)⟩)⟩)⟩)⟩)⟩)
theorem gX1_row_X1_isPackage : GoodIn wzX1_row (wsV RX1 69 RX1 yX1_isPackage wzX1_isPackage) := tw_g [.methodLink RX1 69 yX1_isPackage, .instanceMethod yX1_isPackage, .selects RX1 yX1_isPackage yX1_isPackage, .initialized RX1, .code yX1_isPackage cX1_isPackage 2 (some .boolean)] (List.forall_mem_cons.mpr ⟨tz_321, (List.forall_mem_cons.mpr ⟨tz_323, (List.forall_mem_cons.mpr ⟨tz_16, (List.forall_mem_cons.mpr ⟨tz_30, (List.forall_mem_cons.mpr ⟨tz_324, (fun _ h => absurd h List.not_mem_nil)⟩)⟩)⟩)⟩)⟩)
theorem gX1_row_X1_keep : GoodIn wzX1_row (wsV RX1 80 RX1 yX1_keep wzX1_keep) := tw_g [.methodLink RX1 80 yX1_keep, .instanceMethod yX1_keep, .selects RX1 yX1_keep yX1_keep, .initialized RX1, .code yX1_keep cX1_keep 5 none] (List.forall_mem_cons.mpr ⟨tz_325, (List.forall_mem_cons.mpr ⟨tz_327, (List.forall_mem_cons.mpr ⟨tz_17, (List.forall_mem_cons.mpr ⟨tz_30, (List.forall_mem_cons.mpr ⟨tz_328, (fun _ h => absurd h List.not_mem_nil)⟩)⟩)⟩)⟩)⟩)
theorem gX1_demand_X1_isPackage : GoodIn wzX1_demand (wsV RX1 69 RX1 yX1_isPackage wzX1_isPackage) := tw_g [.methodLink RX1 69 yX1_isPackage, .instanceMethod yX1_isPackage, .selects RX1 yX1_isPackage yX1_isPackage, .initialized RX1, .code yX1_isPackage cX1_isPackage 2 (some .boolean)] (List.forall_mem_cons.mpr ⟨tz_321, (List.forall_mem_cons.mpr ⟨tz_323, (List.forall_mem_cons.mpr ⟨tz_16, (List.forall_mem_cons.mpr ⟨tz_30, (List.forall_mem_cons.mpr ⟨tz_324, (fun _ h => absurd h List.not_mem_nil)⟩)⟩)⟩)⟩)⟩)
theorem gX1_demand_X1_keep : GoodIn wzX1_demand (wsV RX1 80 RX1 yX1_keep wzX1_keep) := tw_g [.methodLink RX1 80 yX1_keep, .instanceMethod yX1_keep, .selects RX1 yX1_keep yX1_keep, .initialized RX1, .code yX1_keep cX1_keep 5 none] (List.forall_mem_cons.mpr ⟨tz_325, (List.forall_mem_cons.mpr ⟨tz_327, (List.forall_mem_cons.mpr ⟨tz_17, (List.forall_mem_cons.mpr ⟨tz_30, (List.forall_mem_cons.mpr ⟨tz_328, (fun _ h => absurd h List.not_mem_nil)⟩)⟩)⟩)⟩)⟩)
theorem gX1_or_X1_isPackage : GoodIn wzX1_or (wsV RX1 69 RX1 yX1_isPackage wzX1_isPackage) := tw_g [.methodLink RX1 69 yX1_isPackage, .instanceMethod yX1_isPackage, .selects RX1 yX1_isPackage yX1_isPackage, .initialized RX1, .code yX1_isPackage cX1_isPackage 2 (some .boolean)] (List.forall_mem_cons.mpr ⟨tz_321, (List.forall_mem_cons.mpr ⟨tz_323, (List.forall_mem_cons.mpr ⟨tz_16, (List.forall_mem_cons.mpr ⟨tz_30, (List.forall_mem_cons.mpr ⟨tz_324, (fun _ h => absurd h List.not_mem_nil)⟩)⟩)⟩)⟩)⟩)
theorem gX1_lock_X1_isPackage : GoodIn wzX1_lock (wsV RX1 69 RX1 yX1_isPackage wzX1_isPackage) := tw_g [.methodLink RX1 69 yX1_isPackage, .instanceMethod yX1_isPackage, .selects RX1 yX1_isPackage yX1_isPackage, .initialized RX1, .code yX1_isPackage cX1_isPackage 2 (some .boolean)] (List.forall_mem_cons.mpr ⟨tz_321, (List.forall_mem_cons.mpr ⟨tz_323, (List.forall_mem_cons.mpr ⟨tz_16, (List.forall_mem_cons.mpr ⟨tz_30, (List.forall_mem_cons.mpr ⟨tz_324, (fun _ h => absurd h List.not_mem_nil)⟩)⟩)⟩)⟩)⟩)
theorem gX1_lock_X1_isVersion : GoodIn wzX1_lock (wsV RX1 73 RX1 yX1_isVersion wzX1_isVersion) := tw_g [.methodLink RX1 73 yX1_isVersion, .instanceMethod yX1_isVersion, .selects RX1 yX1_isVersion yX1_isVersion, .initialized RX1, .code yX1_isVersion cX1_isVersion 3 (some .boolean)] (List.forall_mem_cons.mpr ⟨tz_317, (List.forall_mem_cons.mpr ⟨tz_319, (List.forall_mem_cons.mpr ⟨tz_15, (List.forall_mem_cons.mpr ⟨tz_30, (List.forall_mem_cons.mpr ⟨tz_320, (fun _ h => absurd h List.not_mem_nil)⟩)⟩)⟩)⟩)⟩)
theorem gX1_broken_X1_isBroken : GoodIn wzX1_broken (wsV RX1 87 RX1 yX1_isBroken wzX1_isBroken) := tw_g [.methodLink RX1 87 yX1_isBroken, .instanceMethod yX1_isBroken, .selects RX1 yX1_isBroken yX1_isBroken, .initialized RX1, .code yX1_isBroken cX1_isBroken 6 (some .boolean)] (List.forall_mem_cons.mpr ⟨tz_381, (List.forall_mem_cons.mpr ⟨tz_383, (List.forall_mem_cons.mpr ⟨tz_26, (List.forall_mem_cons.mpr ⟨tz_30, (List.forall_mem_cons.mpr ⟨tz_384, (fun _ h => absurd h List.not_mem_nil)⟩)⟩)⟩)⟩)⟩)
theorem gX1_broken_X1_others : GoodIn wzX1_broken (wsV RX1 90 RX1 yX1_others wzX1_others) := tw_g [.methodLink RX1 90 yX1_others, .instanceMethod yX1_others, .selects RX1 yX1_others yX1_others, .initialized RX1, .code yX1_others cX1_others 4 (some .int)] (List.forall_mem_cons.mpr ⟨tz_385, (List.forall_mem_cons.mpr ⟨tz_387, (List.forall_mem_cons.mpr ⟨tz_27, (List.forall_mem_cons.mpr ⟨tz_30, (List.forall_mem_cons.mpr ⟨tz_388, (fun _ h => absurd h List.not_mem_nil)⟩)⟩)⟩)⟩)⟩)
theorem gX1_arrange_X1_place : GoodIn wzX1_arrange (wsV RX1 97 RX1 yX1_place wzX1_place) := tw_g [.methodLink RX1 97 yX1_place, .instanceMethod yX1_place, .selects RX1 yX1_place yX1_place, .initialized RX1, .code yX1_place cX1_place 4 none] (List.forall_mem_cons.mpr ⟨tz_361, (List.forall_mem_cons.mpr ⟨tz_363, (List.forall_mem_cons.mpr ⟨tz_21, (List.forall_mem_cons.mpr ⟨tz_30, (List.forall_mem_cons.mpr ⟨tz_364, (fun _ h => absurd h List.not_mem_nil)⟩)⟩)⟩)⟩)⟩)
theorem gX1_ranked_X1_rank : GoodIn wzX1_ranked (wsV RX1 101 RX1 yX1_rank wzX1_rank) := tw_g [.methodLink RX1 101 yX1_rank, .instanceMethod yX1_rank, .selects RX1 yX1_rank yX1_rank, .initialized RX1, .code yX1_rank cX1_rank 6 (some .int)] (List.forall_mem_cons.mpr ⟨tz_373, (List.forall_mem_cons.mpr ⟨tz_375, (List.forall_mem_cons.mpr ⟨tz_24, (List.forall_mem_cons.mpr ⟨tz_30, (List.forall_mem_cons.mpr ⟨tz_376, (fun _ h => absurd h List.not_mem_nil)⟩)⟩)⟩)⟩)⟩)
theorem gX1_goes_X1_ranked : GoodIn wzX1_goes (wsV RX1 116 RX1 yX1_ranked wzX1_ranked) := tw_g [.methodLink RX1 116 yX1_ranked, .instanceMethod yX1_ranked, .selects RX1 yX1_ranked yX1_ranked, .initialized RX1, .code yX1_ranked cX1_ranked 4 (some .int)] (List.forall_mem_cons.mpr ⟨tz_369, (List.forall_mem_cons.mpr ⟨tz_371, (List.forall_mem_cons.mpr ⟨tz_23, (List.forall_mem_cons.mpr ⟨tz_30, (List.forall_mem_cons.mpr ⟨tz_372, (fun _ h => absurd h List.not_mem_nil)⟩)⟩)⟩)⟩)⟩)
theorem gX1_goes_X1_broken : GoodIn wzX1_goes (wsV RX1 112 RX1 yX1_broken wzX1_broken) := tw_g [.methodLink RX1 112 yX1_broken, .instanceMethod yX1_broken, .selects RX1 yX1_broken yX1_broken, .initialized RX1, .code yX1_broken cX1_broken 3 (some .int)] (List.forall_mem_cons.mpr ⟨tz_377, (List.forall_mem_cons.mpr ⟨tz_379, (List.forall_mem_cons.mpr ⟨tz_25, (List.forall_mem_cons.mpr ⟨tz_30, (List.forall_mem_cons.mpr ⟨tz_380, (fun _ h => absurd h List.not_mem_nil)⟩)⟩)⟩)⟩)⟩)
theorem gX1_search_X1_arrange : GoodIn wzX1_search (wsV RX1 105 RX1 yX1_arrange wzX1_arrange) := tw_g [.methodLink RX1 105 yX1_arrange, .instanceMethod yX1_arrange, .selects RX1 yX1_arrange yX1_arrange, .initialized RX1, .code yX1_arrange cX1_arrange 3 none] (List.forall_mem_cons.mpr ⟨tz_357, (List.forall_mem_cons.mpr ⟨tz_359, (List.forall_mem_cons.mpr ⟨tz_20, (List.forall_mem_cons.mpr ⟨tz_30, (List.forall_mem_cons.mpr ⟨tz_360, (fun _ h => absurd h List.not_mem_nil)⟩)⟩)⟩)⟩)⟩)
theorem gX1_search_X1_goes : GoodIn wzX1_search (wsV RX1 108 RX1 yX1_goes wzX1_goes) := tw_g [.methodLink RX1 108 yX1_goes, .instanceMethod yX1_goes, .selects RX1 yX1_goes yX1_goes, .initialized RX1, .code yX1_goes cX1_goes 6 (some .boolean)] (List.forall_mem_cons.mpr ⟨tz_365, (List.forall_mem_cons.mpr ⟨tz_367, (List.forall_mem_cons.mpr ⟨tz_22, (List.forall_mem_cons.mpr ⟨tz_30, (List.forall_mem_cons.mpr ⟨tz_368, (fun _ h => absurd h List.not_mem_nil)⟩)⟩)⟩)⟩)⟩)
theorem gX1_search_X1_broken : GoodIn wzX1_search (wsV RX1 112 RX1 yX1_broken wzX1_broken) := tw_g [.methodLink RX1 112 yX1_broken, .instanceMethod yX1_broken, .selects RX1 yX1_broken yX1_broken, .initialized RX1, .code yX1_broken cX1_broken 3 (some .int)] (List.forall_mem_cons.mpr ⟨tz_377, (List.forall_mem_cons.mpr ⟨tz_379, (List.forall_mem_cons.mpr ⟨tz_25, (List.forall_mem_cons.mpr ⟨tz_30, (List.forall_mem_cons.mpr ⟨tz_380, (fun _ h => absurd h List.not_mem_nil)⟩)⟩)⟩)⟩)⟩)
theorem gX1_solve_X1_none : GoodIn wzX1_solve (wsV RX1 119 RX1 yX1_none wzX1_none) := tw_g [.methodLink RX1 119 yX1_none, .instanceMethod yX1_none, .selects RX1 yX1_none yX1_none, .initialized RX1, .code yX1_none cX1_none 2 none] (List.forall_mem_cons.mpr ⟨tz_349, (List.forall_mem_cons.mpr ⟨tz_351, (List.forall_mem_cons.mpr ⟨tz_18, (List.forall_mem_cons.mpr ⟨tz_30, (List.forall_mem_cons.mpr ⟨tz_352, (fun _ h => absurd h List.not_mem_nil)⟩)⟩)⟩)⟩)⟩)
theorem gX1_solve_X1_search : GoodIn wzX1_solve (wsV RX1 122 RX1 yX1_search wzX1_search) := tw_g [.methodLink RX1 122 yX1_search, .instanceMethod yX1_search, .selects RX1 yX1_search yX1_search, .initialized RX1, .code yX1_search cX1_search 5 (some .boolean)] (List.forall_mem_cons.mpr ⟨tz_353, (List.forall_mem_cons.mpr ⟨tz_355, (List.forall_mem_cons.mpr ⟨tz_19, (List.forall_mem_cons.mpr ⟨tz_30, (List.forall_mem_cons.mpr ⟨tz_356, (fun _ h => absurd h List.not_mem_nil)⟩)⟩)⟩)⟩)⟩)
theorem gX1_chosen_X1_isPackage : GoodIn wzX1_chosen (wsV RX1 69 RX1 yX1_isPackage wzX1_isPackage) := tw_g [.methodLink RX1 69 yX1_isPackage, .instanceMethod yX1_isPackage, .selects RX1 yX1_isPackage yX1_isPackage, .initialized RX1, .code yX1_isPackage cX1_isPackage 2 (some .boolean)] (List.forall_mem_cons.mpr ⟨tz_321, (List.forall_mem_cons.mpr ⟨tz_323, (List.forall_mem_cons.mpr ⟨tz_16, (List.forall_mem_cons.mpr ⟨tz_30, (List.forall_mem_cons.mpr ⟨tz_324, (fun _ h => absurd h List.not_mem_nil)⟩)⟩)⟩)⟩)⟩)
theorem gX1_blame_X1_none : GoodIn wzX1_blame (wsV RX1 119 RX1 yX1_none wzX1_none) := tw_g [.methodLink RX1 119 yX1_none, .instanceMethod yX1_none, .selects RX1 yX1_none yX1_none, .initialized RX1, .code yX1_none cX1_none 2 none] (List.forall_mem_cons.mpr ⟨tz_349, (List.forall_mem_cons.mpr ⟨tz_351, (List.forall_mem_cons.mpr ⟨tz_18, (List.forall_mem_cons.mpr ⟨tz_30, (List.forall_mem_cons.mpr ⟨tz_352, (fun _ h => absurd h List.not_mem_nil)⟩)⟩)⟩)⟩)⟩)
theorem gX1_blame_X1_search : GoodIn wzX1_blame (wsV RX1 122 RX1 yX1_search wzX1_search) := tw_g [.methodLink RX1 122 yX1_search, .instanceMethod yX1_search, .selects RX1 yX1_search yX1_search, .initialized RX1, .code yX1_search cX1_search 5 (some .boolean)] (List.forall_mem_cons.mpr ⟨tz_353, (List.forall_mem_cons.mpr ⟨tz_355, (List.forall_mem_cons.mpr ⟨tz_19, (List.forall_mem_cons.mpr ⟨tz_30, (List.forall_mem_cons.mpr ⟨tz_356, (fun _ h => absurd h List.not_mem_nil)⟩)⟩)⟩)⟩)⟩)
theorem gX1_can_X1_isPackage : GoodIn wzX1_can (wsV RX1 69 RX1 yX1_isPackage wzX1_isPackage) := tw_g [.methodLink RX1 69 yX1_isPackage, .instanceMethod yX1_isPackage, .selects RX1 yX1_isPackage yX1_isPackage, .initialized RX1, .code yX1_isPackage cX1_isPackage 2 (some .boolean)] (List.forall_mem_cons.mpr ⟨tz_321, (List.forall_mem_cons.mpr ⟨tz_323, (List.forall_mem_cons.mpr ⟨tz_16, (List.forall_mem_cons.mpr ⟨tz_30, (List.forall_mem_cons.mpr ⟨tz_324, (fun _ h => absurd h List.not_mem_nil)⟩)⟩)⟩)⟩)⟩)
theorem gX1_can_X1_none : GoodIn wzX1_can (wsV RX1 119 RX1 yX1_none wzX1_none) := tw_g [.methodLink RX1 119 yX1_none, .instanceMethod yX1_none, .selects RX1 yX1_none yX1_none, .initialized RX1, .code yX1_none cX1_none 2 none] (List.forall_mem_cons.mpr ⟨tz_349, (List.forall_mem_cons.mpr ⟨tz_351, (List.forall_mem_cons.mpr ⟨tz_18, (List.forall_mem_cons.mpr ⟨tz_30, (List.forall_mem_cons.mpr ⟨tz_352, (fun _ h => absurd h List.not_mem_nil)⟩)⟩)⟩)⟩)⟩)
theorem gX1_can_X1_search : GoodIn wzX1_can (wsV RX1 122 RX1 yX1_search wzX1_search) := tw_g [.methodLink RX1 122 yX1_search, .instanceMethod yX1_search, .selects RX1 yX1_search yX1_search, .initialized RX1, .code yX1_search cX1_search 5 (some .boolean)] (List.forall_mem_cons.mpr ⟨tz_353, (List.forall_mem_cons.mpr ⟨tz_355, (List.forall_mem_cons.mpr ⟨tz_19, (List.forall_mem_cons.mpr ⟨tz_30, (List.forall_mem_cons.mpr ⟨tz_356, (fun _ h => absurd h List.not_mem_nil)⟩)⟩)⟩)⟩)⟩)
theorem gX1_can_X1_isVersion : GoodIn wzX1_can (wsV RX1 73 RX1 yX1_isVersion wzX1_isVersion) := tw_g [.methodLink RX1 73 yX1_isVersion, .instanceMethod yX1_isVersion, .selects RX1 yX1_isVersion yX1_isVersion, .initialized RX1, .code yX1_isVersion cX1_isVersion 3 (some .boolean)] (List.forall_mem_cons.mpr ⟨tz_317, (List.forall_mem_cons.mpr ⟨tz_319, (List.forall_mem_cons.mpr ⟨tz_15, (List.forall_mem_cons.mpr ⟨tz_30, (List.forall_mem_cons.mpr ⟨tz_320, (fun _ h => absurd h List.not_mem_nil)⟩)⟩)⟩)⟩)⟩)
theorem gX1_must_X1_isPackage : GoodIn wzX1_must (wsV RX1 69 RX1 yX1_isPackage wzX1_isPackage) := tw_g [.methodLink RX1 69 yX1_isPackage, .instanceMethod yX1_isPackage, .selects RX1 yX1_isPackage yX1_isPackage, .initialized RX1, .code yX1_isPackage cX1_isPackage 2 (some .boolean)] (List.forall_mem_cons.mpr ⟨tz_321, (List.forall_mem_cons.mpr ⟨tz_323, (List.forall_mem_cons.mpr ⟨tz_16, (List.forall_mem_cons.mpr ⟨tz_30, (List.forall_mem_cons.mpr ⟨tz_324, (fun _ h => absurd h List.not_mem_nil)⟩)⟩)⟩)⟩)⟩)
theorem gX1_must_X1_none : GoodIn wzX1_must (wsV RX1 119 RX1 yX1_none wzX1_none) := tw_g [.methodLink RX1 119 yX1_none, .instanceMethod yX1_none, .selects RX1 yX1_none yX1_none, .initialized RX1, .code yX1_none cX1_none 2 none] (List.forall_mem_cons.mpr ⟨tz_349, (List.forall_mem_cons.mpr ⟨tz_351, (List.forall_mem_cons.mpr ⟨tz_18, (List.forall_mem_cons.mpr ⟨tz_30, (List.forall_mem_cons.mpr ⟨tz_352, (fun _ h => absurd h List.not_mem_nil)⟩)⟩)⟩)⟩)⟩)
theorem gX1_must_X1_search : GoodIn wzX1_must (wsV RX1 122 RX1 yX1_search wzX1_search) := tw_g [.methodLink RX1 122 yX1_search, .instanceMethod yX1_search, .selects RX1 yX1_search yX1_search, .initialized RX1, .code yX1_search cX1_search 5 (some .boolean)] (List.forall_mem_cons.mpr ⟨tz_353, (List.forall_mem_cons.mpr ⟨tz_355, (List.forall_mem_cons.mpr ⟨tz_19, (List.forall_mem_cons.mpr ⟨tz_30, (List.forall_mem_cons.mpr ⟨tz_356, (fun _ h => absurd h List.not_mem_nil)⟩)⟩)⟩)⟩)⟩)
theorem gL_law_X0_init : GoodIn lw_tbl wzX0_init := tw_l [.code yX0_init cX0_init 2 none] (List.forall_mem_cons.mpr ⟨tz_37, (fun _ h => absurd h List.not_mem_nil)⟩)
theorem gL_law_X1_init : GoodIn lw_tbl wzX1_init := tw_l [.code yX1_init cX1_init 2 none] (List.forall_mem_cons.mpr ⟨tz_236, (fun _ h => absurd h List.not_mem_nil)⟩)
theorem gL_law_X0_pack : GoodIn lw_tbl (wsV RL 13 RX0 yX0_pack wzX0_pack) := tw_l [.methodLink RL 13 yX0_pack, .instanceMethod yX0_pack, .selects RX0 yX0_pack yX0_pack, .initialized RX0, .code yX0_pack cX0_pack 3 (some .int)] (List.forall_mem_cons.mpr ⟨tz_87, (List.forall_mem_cons.mpr ⟨tz_88, (List.forall_mem_cons.mpr ⟨tz_89, (List.forall_mem_cons.mpr ⟨tz_29, (List.forall_mem_cons.mpr ⟨tz_90, (fun _ h => absurd h List.not_mem_nil)⟩)⟩)⟩)⟩)⟩)
theorem gL_law_X1_pack : GoodIn lw_tbl (wsV RL 17 RX1 yX1_pack wzX1_pack) := tw_l [.methodLink RL 17 yX1_pack, .instanceMethod yX1_pack, .selects RX1 yX1_pack yX1_pack, .initialized RX1, .code yX1_pack cX1_pack 2 (some .int)] (List.forall_mem_cons.mpr ⟨tz_309, (List.forall_mem_cons.mpr ⟨tz_310, (List.forall_mem_cons.mpr ⟨tz_311, (List.forall_mem_cons.mpr ⟨tz_30, (List.forall_mem_cons.mpr ⟨tz_312, (fun _ h => absurd h List.not_mem_nil)⟩)⟩)⟩)⟩)⟩)
theorem gL_law_X0_row : GoodIn lw_tbl (wsV RL 18 RX0 yX0_row wzX0_row) := tw_l [.methodLink RL 18 yX0_row, .instanceMethod yX0_row, .selects RX0 yX0_row yX0_row, .initialized RX0, .code yX0_row cX0_row 8 (some .boolean)] (List.forall_mem_cons.mpr ⟨tz_95, (List.forall_mem_cons.mpr ⟨tz_96, (List.forall_mem_cons.mpr ⟨tz_97, (List.forall_mem_cons.mpr ⟨tz_29, (List.forall_mem_cons.mpr ⟨tz_98, (fun _ h => absurd h List.not_mem_nil)⟩)⟩)⟩)⟩)⟩)
theorem gL_law_X1_row : GoodIn lw_tbl (wsV RL 22 RX1 yX1_row wzX1_row) := tw_l [.methodLink RL 22 yX1_row, .instanceMethod yX1_row, .selects RX1 yX1_row yX1_row, .initialized RX1, .code yX1_row cX1_row 6 (some .boolean)] (List.forall_mem_cons.mpr ⟨tz_313, (List.forall_mem_cons.mpr ⟨tz_314, (List.forall_mem_cons.mpr ⟨tz_315, (List.forall_mem_cons.mpr ⟨tz_30, (List.forall_mem_cons.mpr ⟨tz_316, (fun _ h => absurd h List.not_mem_nil)⟩)⟩)⟩)⟩)⟩)
theorem gL_law_X0_demand : GoodIn lw_tbl (wsV RL 23 RX0 yX0_demand wzX0_demand) := tw_l [.methodLink RL 23 yX0_demand, .instanceMethod yX0_demand, .selects RX0 yX0_demand yX0_demand, .initialized RX0, .code yX0_demand cX0_demand 5 (some .int)] (List.forall_mem_cons.mpr ⟨tz_129, (List.forall_mem_cons.mpr ⟨tz_130, (List.forall_mem_cons.mpr ⟨tz_131, (List.forall_mem_cons.mpr ⟨tz_29, (List.forall_mem_cons.mpr ⟨tz_132, (fun _ h => absurd h List.not_mem_nil)⟩)⟩)⟩)⟩)⟩)
theorem gL_law_X1_demand : GoodIn lw_tbl (wsV RL 27 RX1 yX1_demand wzX1_demand) := tw_l [.methodLink RL 27 yX1_demand, .instanceMethod yX1_demand, .selects RX1 yX1_demand yX1_demand, .initialized RX1, .code yX1_demand cX1_demand 4 (some .int)] (List.forall_mem_cons.mpr ⟨tz_329, (List.forall_mem_cons.mpr ⟨tz_330, (List.forall_mem_cons.mpr ⟨tz_331, (List.forall_mem_cons.mpr ⟨tz_30, (List.forall_mem_cons.mpr ⟨tz_332, (fun _ h => absurd h List.not_mem_nil)⟩)⟩)⟩)⟩)⟩)
theorem gL_law_X0_or : GoodIn lw_tbl (wsV RL 28 RX0 yX0_or wzX0_or) := tw_l [.methodLink RL 28 yX0_or, .instanceMethod yX0_or, .selects RX0 yX0_or yX0_or, .initialized RX0, .code yX0_or cX0_or 3 (some .boolean)] (List.forall_mem_cons.mpr ⟨tz_141, (List.forall_mem_cons.mpr ⟨tz_142, (List.forall_mem_cons.mpr ⟨tz_143, (List.forall_mem_cons.mpr ⟨tz_29, (List.forall_mem_cons.mpr ⟨tz_144, (fun _ h => absurd h List.not_mem_nil)⟩)⟩)⟩)⟩)⟩)
theorem gL_law_X1_or : GoodIn lw_tbl (wsV RL 32 RX1 yX1_or wzX1_or) := tw_l [.methodLink RL 32 yX1_or, .instanceMethod yX1_or, .selects RX1 yX1_or yX1_or, .initialized RX1, .code yX1_or cX1_or 3 (some .boolean)] (List.forall_mem_cons.mpr ⟨tz_333, (List.forall_mem_cons.mpr ⟨tz_334, (List.forall_mem_cons.mpr ⟨tz_335, (List.forall_mem_cons.mpr ⟨tz_30, (List.forall_mem_cons.mpr ⟨tz_336, (fun _ h => absurd h List.not_mem_nil)⟩)⟩)⟩)⟩)⟩)
theorem gL_law_X0_leaveOut : GoodIn lw_tbl (wsV RL 33 RX0 yX0_leaveOut wzX0_leaveOut) := tw_l [.methodLink RL 33 yX0_leaveOut, .instanceMethod yX0_leaveOut, .selects RX0 yX0_leaveOut yX0_leaveOut, .initialized RX0, .code yX0_leaveOut cX0_leaveOut 5 (some .boolean)] (List.forall_mem_cons.mpr ⟨tz_153, (List.forall_mem_cons.mpr ⟨tz_154, (List.forall_mem_cons.mpr ⟨tz_155, (List.forall_mem_cons.mpr ⟨tz_29, (List.forall_mem_cons.mpr ⟨tz_156, (fun _ h => absurd h List.not_mem_nil)⟩)⟩)⟩)⟩)⟩)
theorem gL_law_X1_leaveOut : GoodIn lw_tbl (wsV RL 37 RX1 yX1_leaveOut wzX1_leaveOut) := tw_l [.methodLink RL 37 yX1_leaveOut, .instanceMethod yX1_leaveOut, .selects RX1 yX1_leaveOut yX1_leaveOut, .initialized RX1, .code yX1_leaveOut cX1_leaveOut 3 (some .boolean)] (List.forall_mem_cons.mpr ⟨tz_337, (List.forall_mem_cons.mpr ⟨tz_338, (List.forall_mem_cons.mpr ⟨tz_339, (List.forall_mem_cons.mpr ⟨tz_30, (List.forall_mem_cons.mpr ⟨tz_340, (fun _ h => absurd h List.not_mem_nil)⟩)⟩)⟩)⟩)⟩)
theorem gL_law_X0_lock : GoodIn lw_tbl (wsV RL 38 RX0 yX0_lock wzX0_lock) := tw_l [.methodLink RL 38 yX0_lock, .instanceMethod yX0_lock, .selects RX0 yX0_lock yX0_lock, .initialized RX0, .code yX0_lock cX0_lock 3 (some .boolean)] (List.forall_mem_cons.mpr ⟨tz_157, (List.forall_mem_cons.mpr ⟨tz_158, (List.forall_mem_cons.mpr ⟨tz_159, (List.forall_mem_cons.mpr ⟨tz_29, (List.forall_mem_cons.mpr ⟨tz_160, (fun _ h => absurd h List.not_mem_nil)⟩)⟩)⟩)⟩)⟩)
theorem gL_law_X1_lock : GoodIn lw_tbl (wsV RL 41 RX1 yX1_lock wzX1_lock) := tw_l [.methodLink RL 41 yX1_lock, .instanceMethod yX1_lock, .selects RX1 yX1_lock yX1_lock, .initialized RX1, .code yX1_lock cX1_lock 3 (some .boolean)] (List.forall_mem_cons.mpr ⟨tz_341, (List.forall_mem_cons.mpr ⟨tz_342, (List.forall_mem_cons.mpr ⟨tz_343, (List.forall_mem_cons.mpr ⟨tz_30, (List.forall_mem_cons.mpr ⟨tz_344, (fun _ h => absurd h List.not_mem_nil)⟩)⟩)⟩)⟩)⟩)
theorem gL_law_X0_solve : GoodIn lw_tbl (wsV RL 42 RX0 yX0_solve wzX0_solve) := tw_l [.methodLink RL 42 yX0_solve, .instanceMethod yX0_solve, .selects RX0 yX0_solve yX0_solve, .initialized RX0, .code yX0_solve cX0_solve 1 (some .int)] (List.forall_mem_cons.mpr ⟨tz_165, (List.forall_mem_cons.mpr ⟨tz_166, (List.forall_mem_cons.mpr ⟨tz_167, (List.forall_mem_cons.mpr ⟨tz_29, (List.forall_mem_cons.mpr ⟨tz_168, (fun _ h => absurd h List.not_mem_nil)⟩)⟩)⟩)⟩)⟩)
theorem gL_law_X1_solve : GoodIn lw_tbl (wsV RL 46 RX1 yX1_solve wzX1_solve) := tw_l [.methodLink RL 46 yX1_solve, .instanceMethod yX1_solve, .selects RX1 yX1_solve yX1_solve, .initialized RX1, .code yX1_solve cX1_solve 3 (some .int)] (List.forall_mem_cons.mpr ⟨tz_345, (List.forall_mem_cons.mpr ⟨tz_346, (List.forall_mem_cons.mpr ⟨tz_347, (List.forall_mem_cons.mpr ⟨tz_30, (List.forall_mem_cons.mpr ⟨tz_348, (fun _ h => absurd h List.not_mem_nil)⟩)⟩)⟩)⟩)⟩)
theorem gL_law_X0_chosen : GoodIn lw_tbl (wsV RL 47 RX0 yX0_chosen wzX0_chosen) := tw_l [.methodLink RL 47 yX0_chosen, .instanceMethod yX0_chosen, .selects RX0 yX0_chosen yX0_chosen, .initialized RX0, .code yX0_chosen cX0_chosen 3 (some .int)] (List.forall_mem_cons.mpr ⟨tz_198, (List.forall_mem_cons.mpr ⟨tz_199, (List.forall_mem_cons.mpr ⟨tz_200, (List.forall_mem_cons.mpr ⟨tz_29, (List.forall_mem_cons.mpr ⟨tz_201, (fun _ h => absurd h List.not_mem_nil)⟩)⟩)⟩)⟩)⟩)
theorem gL_law_X1_chosen : GoodIn lw_tbl (wsV RL 50 RX1 yX1_chosen wzX1_chosen) := tw_l [.methodLink RL 50 yX1_chosen, .instanceMethod yX1_chosen, .selects RX1 yX1_chosen yX1_chosen, .initialized RX1, .code yX1_chosen cX1_chosen 2 (some .int)] (List.forall_mem_cons.mpr ⟨tz_389, (List.forall_mem_cons.mpr ⟨tz_390, (List.forall_mem_cons.mpr ⟨tz_391, (List.forall_mem_cons.mpr ⟨tz_30, (List.forall_mem_cons.mpr ⟨tz_392, (fun _ h => absurd h List.not_mem_nil)⟩)⟩)⟩)⟩)⟩)
theorem gL_law_X0_blame : GoodIn lw_tbl (wsV RL 51 RX0 yX0_blame wzX0_blame) := tw_l [.methodLink RL 51 yX0_blame, .instanceMethod yX0_blame, .selects RX0 yX0_blame yX0_blame, .initialized RX0, .code yX0_blame cX0_blame 4 (some .int)] (List.forall_mem_cons.mpr ⟨tz_202, (List.forall_mem_cons.mpr ⟨tz_203, (List.forall_mem_cons.mpr ⟨tz_204, (List.forall_mem_cons.mpr ⟨tz_29, (List.forall_mem_cons.mpr ⟨tz_205, (fun _ h => absurd h List.not_mem_nil)⟩)⟩)⟩)⟩)⟩)
theorem gL_law_X1_blame : GoodIn lw_tbl (wsV RL 54 RX1 yX1_blame wzX1_blame) := tw_l [.methodLink RL 54 yX1_blame, .instanceMethod yX1_blame, .selects RX1 yX1_blame yX1_blame, .initialized RX1, .code yX1_blame cX1_blame 2 (some .int)] (List.forall_mem_cons.mpr ⟨tz_393, (List.forall_mem_cons.mpr ⟨tz_394, (List.forall_mem_cons.mpr ⟨tz_395, (List.forall_mem_cons.mpr ⟨tz_30, (List.forall_mem_cons.mpr ⟨tz_396, (fun _ h => absurd h List.not_mem_nil)⟩)⟩)⟩)⟩)⟩)
theorem gL_law_X0_blamed : GoodIn lw_tbl (wsV RL 55 RX0 yX0_blamed wzX0_blamed) := tw_l [.methodLink RL 55 yX0_blamed, .instanceMethod yX0_blamed, .selects RX0 yX0_blamed yX0_blamed, .initialized RX0, .code yX0_blamed cX0_blamed 4 (some .int)] (List.forall_mem_cons.mpr ⟨tz_216, (List.forall_mem_cons.mpr ⟨tz_217, (List.forall_mem_cons.mpr ⟨tz_218, (List.forall_mem_cons.mpr ⟨tz_29, (List.forall_mem_cons.mpr ⟨tz_219, (fun _ h => absurd h List.not_mem_nil)⟩)⟩)⟩)⟩)⟩)
theorem gL_law_X1_blamed : GoodIn lw_tbl (wsV RL 58 RX1 yX1_blamed wzX1_blamed) := tw_l [.methodLink RL 58 yX1_blamed, .instanceMethod yX1_blamed, .selects RX1 yX1_blamed yX1_blamed, .initialized RX1, .code yX1_blamed cX1_blamed 2 (some .int)] (List.forall_mem_cons.mpr ⟨tz_397, (List.forall_mem_cons.mpr ⟨tz_398, (List.forall_mem_cons.mpr ⟨tz_399, (List.forall_mem_cons.mpr ⟨tz_30, (List.forall_mem_cons.mpr ⟨tz_400, (fun _ h => absurd h List.not_mem_nil)⟩)⟩)⟩)⟩)⟩)
theorem gL_law_X0_can : GoodIn lw_tbl (wsV RL 59 RX0 yX0_can wzX0_can) := tw_l [.methodLink RL 59 yX0_can, .instanceMethod yX0_can, .selects RX0 yX0_can yX0_can, .initialized RX0, .code yX0_can cX0_can 3 (some .boolean)] (List.forall_mem_cons.mpr ⟨tz_220, (List.forall_mem_cons.mpr ⟨tz_221, (List.forall_mem_cons.mpr ⟨tz_222, (List.forall_mem_cons.mpr ⟨tz_29, (List.forall_mem_cons.mpr ⟨tz_223, (fun _ h => absurd h List.not_mem_nil)⟩)⟩)⟩)⟩)⟩)
theorem gL_law_X1_can : GoodIn lw_tbl (wsV RL 62 RX1 yX1_can wzX1_can) := tw_l [.methodLink RL 62 yX1_can, .instanceMethod yX1_can, .selects RX1 yX1_can yX1_can, .initialized RX1, .code yX1_can cX1_can 3 (some .boolean)] (List.forall_mem_cons.mpr ⟨tz_401, (List.forall_mem_cons.mpr ⟨tz_402, (List.forall_mem_cons.mpr ⟨tz_403, (List.forall_mem_cons.mpr ⟨tz_30, (List.forall_mem_cons.mpr ⟨tz_404, (fun _ h => absurd h List.not_mem_nil)⟩)⟩)⟩)⟩)⟩)
theorem gL_law_X0_must : GoodIn lw_tbl (wsV RL 63 RX0 yX0_must wzX0_must) := tw_l [.methodLink RL 63 yX0_must, .instanceMethod yX0_must, .selects RX0 yX0_must yX0_must, .initialized RX0, .code yX0_must cX0_must 2 (some .boolean)] (List.forall_mem_cons.mpr ⟨tz_228, (List.forall_mem_cons.mpr ⟨tz_229, (List.forall_mem_cons.mpr ⟨tz_230, (List.forall_mem_cons.mpr ⟨tz_29, (List.forall_mem_cons.mpr ⟨tz_231, (fun _ h => absurd h List.not_mem_nil)⟩)⟩)⟩)⟩)⟩)
theorem gL_law_X1_must : GoodIn lw_tbl (wsV RL 67 RX1 yX1_must wzX1_must) := tw_l [.methodLink RL 67 yX1_must, .instanceMethod yX1_must, .selects RX1 yX1_must yX1_must, .initialized RX1, .code yX1_must cX1_must 2 (some .boolean)] (List.forall_mem_cons.mpr ⟨tz_405, (List.forall_mem_cons.mpr ⟨tz_406, (List.forall_mem_cons.mpr ⟨tz_407, (List.forall_mem_cons.mpr ⟨tz_30, (List.forall_mem_cons.mpr ⟨tz_408, (fun _ h => absurd h List.not_mem_nil)⟩)⟩)⟩)⟩)⟩)
end
section
theorem dX0_init_0 : decode cX0_init 0 = .ok (.aload_n 0, 1) := by decide +kernel
theorem dX0_init_1 : decode cX0_init 1 = .ok (.invokespecial 1, 3) := by decide +kernel
theorem dX0_init_4 : decode cX0_init 4 = .ok (.aload_n 0, 1) := by decide +kernel
theorem dX0_init_5 : decode cX0_init 5 = .ok (.bipush 120, 2) := by decide +kernel
theorem dX0_init_7 : decode cX0_init 7 = .ok (.newarray .long, 2) := by decide +kernel
theorem dX0_init_9 : decode cX0_init 9 = .ok (.putfield 9, 3) := by decide +kernel
theorem dX0_init_12 : decode cX0_init 12 = .ok (.aload_n 0, 1) := by decide +kernel
theorem dX0_init_13 : decode cX0_init 13 = .ok (.bipush 12, 2) := by decide +kernel
theorem dX0_init_15 : decode cX0_init 15 = .ok (.newarray .long, 2) := by decide +kernel
theorem dX0_init_17 : decode cX0_init 17 = .ok (.putfield 13, 3) := by decide +kernel
theorem dX0_init_20 : decode cX0_init 20 = .ok (.aload_n 0, 1) := by decide +kernel
theorem dX0_init_21 : decode cX0_init 21 = .ok (.bipush 8, 2) := by decide +kernel
theorem dX0_init_23 : decode cX0_init 23 = .ok (.newarray .int, 2) := by decide +kernel
theorem dX0_init_25 : decode cX0_init 25 = .ok (.putfield 16, 3) := by decide +kernel
theorem dX0_init_28 : decode cX0_init 28 = .ok (.aload_n 0, 1) := by decide +kernel
theorem dX0_init_29 : decode cX0_init 29 = .ok (.ldc2_w 20, 3) := by decide +kernel
theorem dX0_init_32 : decode cX0_init 32 = .ok (.putfield 22, 3) := by decide +kernel
theorem dX0_init_35 : decode cX0_init 35 = .ok (.iconst 0, 1) := by decide +kernel
theorem dX0_init_36 : decode cX0_init 36 = .ok (.istore_n 1, 1) := by decide +kernel
theorem dX0_init_37 : decode cX0_init 37 = .ok (.iload_n 1, 1) := by decide +kernel
theorem dX0_init_38 : decode cX0_init 38 = .ok (.bipush 8, 2) := by decide +kernel
theorem dX0_init_40 : decode cX0_init 40 = .ok (.if_icmp .ge 16, 3) := by decide +kernel
theorem dX0_init_43 : decode cX0_init 43 = .ok (.aload_n 0, 1) := by decide +kernel
theorem dX0_init_44 : decode cX0_init 44 = .ok (.getfield 16, 3) := by decide +kernel
theorem dX0_init_47 : decode cX0_init 47 = .ok (.iload_n 1, 1) := by decide +kernel
theorem dX0_init_48 : decode cX0_init 48 = .ok (.iload_n 1, 1) := by decide +kernel
theorem dX0_init_49 : decode cX0_init 49 = .ok (.iastore, 1) := by decide +kernel
theorem dX0_init_50 : decode cX0_init 50 = .ok (.iinc 1 1, 3) := by decide +kernel
theorem dX0_init_53 : decode cX0_init 53 = .ok (.goto (-16), 3) := by decide +kernel
theorem dX0_init_56 : decode cX0_init 56 = .ok (.return_, 1) := by decide +kernel
theorem dX0_pack_0 : decode cX0_pack 0 = .ok (.aload_n 0, 1) := by decide +kernel
theorem dX0_pack_1 : decode cX0_pack 1 = .ok (.getfield 26, 3) := by decide +kernel
theorem dX0_pack_4 : decode cX0_pack 4 = .ok (.bipush 8, 2) := by decide +kernel
theorem dX0_pack_6 : decode cX0_pack 6 = .ok (.if_icmp .ge 13, 3) := by decide +kernel
theorem dX0_pack_9 : decode cX0_pack 9 = .ok (.iload_n 1, 1) := by decide +kernel
theorem dX0_pack_10 : decode cX0_pack 10 = .ok (.ifCond .lt 9, 3) := by decide +kernel
theorem dX0_pack_13 : decode cX0_pack 13 = .ok (.iload_n 1, 1) := by decide +kernel
theorem dX0_pack_14 : decode cX0_pack 14 = .ok (.bipush 6, 2) := by decide +kernel
theorem dX0_pack_16 : decode cX0_pack 16 = .ok (.if_icmp .le 5, 3) := by decide +kernel
theorem dX0_pack_19 : decode cX0_pack 19 = .ok (.iconst (-1), 1) := by decide +kernel
theorem dX0_pack_20 : decode cX0_pack 20 = .ok (.ireturn, 1) := by decide +kernel
theorem dX0_pack_21 : decode cX0_pack 21 = .ok (.aload_n 0, 1) := by decide +kernel
theorem dX0_pack_22 : decode cX0_pack 22 = .ok (.getfield 26, 3) := by decide +kernel
theorem dX0_pack_25 : decode cX0_pack 25 = .ok (.istore_n 2, 1) := by decide +kernel
theorem dX0_pack_26 : decode cX0_pack 26 = .ok (.aload_n 0, 1) := by decide +kernel
theorem dX0_pack_27 : decode cX0_pack 27 = .ok (.dup, 1) := by decide +kernel
theorem dX0_pack_28 : decode cX0_pack 28 = .ok (.getfield 22, 3) := by decide +kernel
theorem dX0_pack_31 : decode cX0_pack 31 = .ok (.iload_n 2, 1) := by decide +kernel
theorem dX0_pack_32 : decode cX0_pack 32 = .ok (.iconst 1, 1) := by decide +kernel
theorem dX0_pack_33 : decode cX0_pack 33 = .ok (.iload_n 1, 1) := by decide +kernel
theorem dX0_pack_34 : decode cX0_pack 34 = .ok (.ishl, 1) := by decide +kernel
theorem dX0_pack_35 : decode cX0_pack 35 = .ok (.iconst 1, 1) := by decide +kernel
theorem dX0_pack_36 : decode cX0_pack 36 = .ok (.isub, 1) := by decide +kernel
theorem dX0_pack_37 : decode cX0_pack 37 = .ok (.invokestatic 30, 3) := by decide +kernel
theorem dX0_pack_40 : decode cX0_pack 40 = .ok (.lor, 1) := by decide +kernel
theorem dX0_pack_41 : decode cX0_pack 41 = .ok (.putfield 22, 3) := by decide +kernel
theorem dX0_pack_44 : decode cX0_pack 44 = .ok (.aload_n 0, 1) := by decide +kernel
theorem dX0_pack_45 : decode cX0_pack 45 = .ok (.dup, 1) := by decide +kernel
theorem dX0_pack_46 : decode cX0_pack 46 = .ok (.getfield 26, 3) := by decide +kernel
theorem dX0_pack_49 : decode cX0_pack 49 = .ok (.iconst 1, 1) := by decide +kernel
theorem dX0_pack_50 : decode cX0_pack 50 = .ok (.iadd, 1) := by decide +kernel
theorem dX0_pack_51 : decode cX0_pack 51 = .ok (.putfield 26, 3) := by decide +kernel
theorem dX0_pack_54 : decode cX0_pack 54 = .ok (.iload_n 2, 1) := by decide +kernel
theorem dX0_pack_55 : decode cX0_pack 55 = .ok (.ireturn, 1) := by decide +kernel
theorem dX0_row_0 : decode cX0_row 0 = .ok (.aload_n 0, 1) := by decide +kernel
theorem dX0_row_1 : decode cX0_row 1 = .ok (.getfield 34, 3) := by decide +kernel
theorem dX0_row_4 : decode cX0_row 4 = .ok (.bipush 120, 2) := by decide +kernel
theorem dX0_row_6 : decode cX0_row 6 = .ok (.if_icmp .ge 28, 3) := by decide +kernel
theorem dX0_row_9 : decode cX0_row 9 = .ok (.aload_n 0, 1) := by decide +kernel
theorem dX0_row_10 : decode cX0_row 10 = .ok (.iload_n 1, 1) := by decide +kernel
theorem dX0_row_11 : decode cX0_row 11 = .ok (.iload_n 2, 1) := by decide +kernel
theorem dX0_row_12 : decode cX0_row 12 = .ok (.invokevirtual 37, 3) := by decide +kernel
theorem dX0_row_15 : decode cX0_row 15 = .ok (.ifCond .eq 19, 3) := by decide +kernel
theorem dX0_row_18 : decode cX0_row 18 = .ok (.iload_n 3, 1) := by decide +kernel
theorem dX0_row_19 : decode cX0_row 19 = .ok (.invokestatic 41, 3) := by decide +kernel
theorem dX0_row_22 : decode cX0_row 22 = .ok (.ifCond .eq 12, 3) := by decide +kernel
theorem dX0_row_25 : decode cX0_row 25 = .ok (.aload_n 0, 1) := by decide +kernel
theorem dX0_row_26 : decode cX0_row 26 = .ok (.iload 4, 2) := by decide +kernel
theorem dX0_row_28 : decode cX0_row 28 = .ok (.invokevirtual 45, 3) := by decide +kernel
theorem dX0_row_31 : decode cX0_row 31 = .ok (.ifCond .ne 5, 3) := by decide +kernel
theorem dX0_row_34 : decode cX0_row 34 = .ok (.iconst 0, 1) := by decide +kernel
theorem dX0_row_35 : decode cX0_row 35 = .ok (.ireturn, 1) := by decide +kernel
theorem dX0_row_36 : decode cX0_row 36 = .ok (.iload_n 1, 1) := by decide +kernel
theorem dX0_row_37 : decode cX0_row 37 = .ok (.invokestatic 48, 3) := by decide +kernel
theorem dX0_row_40 : decode cX0_row 40 = .ok (.iload_n 1, 1) := by decide +kernel
theorem dX0_row_41 : decode cX0_row 41 = .ok (.iload_n 2, 1) := by decide +kernel
theorem dX0_row_42 : decode cX0_row 42 = .ok (.invokestatic 52, 3) := by decide +kernel
theorem dX0_row_45 : decode cX0_row 45 = .ok (.ldc2_w 55, 3) := by decide +kernel
theorem dX0_row_48 : decode cX0_row 48 = .ok (.lxor, 1) := by decide +kernel
theorem dX0_row_49 : decode cX0_row 49 = .ok (.land, 1) := by decide +kernel
theorem dX0_row_50 : decode cX0_row 50 = .ok (.lstore 6, 2) := by decide +kernel
theorem dX0_row_52 : decode cX0_row 52 = .ok (.aload_n 0, 1) := by decide +kernel
theorem dX0_row_53 : decode cX0_row 53 = .ok (.getfield 9, 3) := by decide +kernel
theorem dX0_row_56 : decode cX0_row 56 = .ok (.aload_n 0, 1) := by decide +kernel
theorem dX0_row_57 : decode cX0_row 57 = .ok (.getfield 34, 3) := by decide +kernel
theorem dX0_row_60 : decode cX0_row 60 = .ok (.lload 6, 2) := by decide +kernel
theorem dX0_row_62 : decode cX0_row 62 = .ok (.iload_n 3, 1) := by decide +kernel
theorem dX0_row_63 : decode cX0_row 63 = .ok (.iload 4, 2) := by decide +kernel
theorem dX0_row_65 : decode cX0_row 65 = .ok (.iload 5, 2) := by decide +kernel
theorem dX0_row_67 : decode cX0_row 67 = .ok (.invokestatic 57, 3) := by decide +kernel
theorem dX0_row_70 : decode cX0_row 70 = .ok (.lor, 1) := by decide +kernel
theorem dX0_row_71 : decode cX0_row 71 = .ok (.lastore, 1) := by decide +kernel
theorem dX0_row_72 : decode cX0_row 72 = .ok (.aload_n 0, 1) := by decide +kernel
theorem dX0_row_73 : decode cX0_row 73 = .ok (.dup, 1) := by decide +kernel
theorem dX0_row_74 : decode cX0_row 74 = .ok (.getfield 34, 3) := by decide +kernel
theorem dX0_row_77 : decode cX0_row 77 = .ok (.iconst 1, 1) := by decide +kernel
theorem dX0_row_78 : decode cX0_row 78 = .ok (.iadd, 1) := by decide +kernel
theorem dX0_row_79 : decode cX0_row 79 = .ok (.putfield 34, 3) := by decide +kernel
theorem dX0_row_82 : decode cX0_row 82 = .ok (.aload_n 0, 1) := by decide +kernel
theorem dX0_row_83 : decode cX0_row 83 = .ok (.iload_n 3, 1) := by decide +kernel
theorem dX0_row_84 : decode cX0_row 84 = .ok (.iconst 0, 1) := by decide +kernel
theorem dX0_row_85 : decode cX0_row 85 = .ok (.invokevirtual 61, 3) := by decide +kernel
theorem dX0_row_88 : decode cX0_row 88 = .ok (.iconst 1, 1) := by decide +kernel
theorem dX0_row_89 : decode cX0_row 89 = .ok (.ireturn, 1) := by decide +kernel
theorem dX0_demand_0 : decode cX0_demand 0 = .ok (.aload_n 0, 1) := by decide +kernel
theorem dX0_demand_1 : decode cX0_demand 1 = .ok (.getfield 65, 3) := by decide +kernel
theorem dX0_demand_4 : decode cX0_demand 4 = .ok (.bipush 12, 2) := by decide +kernel
theorem dX0_demand_6 : decode cX0_demand 6 = .ok (.if_icmp .ge 18, 3) := by decide +kernel
theorem dX0_demand_9 : decode cX0_demand 9 = .ok (.iload_n 1, 1) := by decide +kernel
theorem dX0_demand_10 : decode cX0_demand 10 = .ok (.invokestatic 41, 3) := by decide +kernel
theorem dX0_demand_13 : decode cX0_demand 13 = .ok (.ifCond .eq 11, 3) := by decide +kernel
theorem dX0_demand_16 : decode cX0_demand 16 = .ok (.aload_n 0, 1) := by decide +kernel
theorem dX0_demand_17 : decode cX0_demand 17 = .ok (.iload_n 2, 1) := by decide +kernel
theorem dX0_demand_18 : decode cX0_demand 18 = .ok (.invokevirtual 45, 3) := by decide +kernel
theorem dX0_demand_21 : decode cX0_demand 21 = .ok (.ifCond .ne 5, 3) := by decide +kernel
theorem dX0_demand_24 : decode cX0_demand 24 = .ok (.iconst (-1), 1) := by decide +kernel
theorem dX0_demand_25 : decode cX0_demand 25 = .ok (.ireturn, 1) := by decide +kernel
theorem dX0_demand_26 : decode cX0_demand 26 = .ok (.aload_n 0, 1) := by decide +kernel
theorem dX0_demand_27 : decode cX0_demand 27 = .ok (.getfield 65, 3) := by decide +kernel
theorem dX0_demand_30 : decode cX0_demand 30 = .ok (.istore 4, 2) := by decide +kernel
theorem dX0_demand_32 : decode cX0_demand 32 = .ok (.aload_n 0, 1) := by decide +kernel
theorem dX0_demand_33 : decode cX0_demand 33 = .ok (.getfield 13, 3) := by decide +kernel
theorem dX0_demand_36 : decode cX0_demand 36 = .ok (.iload 4, 2) := by decide +kernel
theorem dX0_demand_38 : decode cX0_demand 38 = .ok (.iload_n 1, 1) := by decide +kernel
theorem dX0_demand_39 : decode cX0_demand 39 = .ok (.iload_n 2, 1) := by decide +kernel
theorem dX0_demand_40 : decode cX0_demand 40 = .ok (.iload_n 3, 1) := by decide +kernel
theorem dX0_demand_41 : decode cX0_demand 41 = .ok (.invokestatic 57, 3) := by decide +kernel
theorem dX0_demand_44 : decode cX0_demand 44 = .ok (.lastore, 1) := by decide +kernel
theorem dX0_demand_45 : decode cX0_demand 45 = .ok (.aload_n 0, 1) := by decide +kernel
theorem dX0_demand_46 : decode cX0_demand 46 = .ok (.dup, 1) := by decide +kernel
theorem dX0_demand_47 : decode cX0_demand 47 = .ok (.getfield 65, 3) := by decide +kernel
theorem dX0_demand_50 : decode cX0_demand 50 = .ok (.iconst 1, 1) := by decide +kernel
theorem dX0_demand_51 : decode cX0_demand 51 = .ok (.iadd, 1) := by decide +kernel
theorem dX0_demand_52 : decode cX0_demand 52 = .ok (.putfield 65, 3) := by decide +kernel
theorem dX0_demand_55 : decode cX0_demand 55 = .ok (.aload_n 0, 1) := by decide +kernel
theorem dX0_demand_56 : decode cX0_demand 56 = .ok (.iload_n 1, 1) := by decide +kernel
theorem dX0_demand_57 : decode cX0_demand 57 = .ok (.iconst 1, 1) := by decide +kernel
theorem dX0_demand_58 : decode cX0_demand 58 = .ok (.invokevirtual 61, 3) := by decide +kernel
theorem dX0_demand_61 : decode cX0_demand 61 = .ok (.iload_n 1, 1) := by decide +kernel
theorem dX0_demand_62 : decode cX0_demand 62 = .ok (.ifCond .ne 8, 3) := by decide +kernel
theorem dX0_demand_65 : decode cX0_demand 65 = .ok (.aload_n 0, 1) := by decide +kernel
theorem dX0_demand_66 : decode cX0_demand 66 = .ok (.iload_n 2, 1) := by decide +kernel
theorem dX0_demand_67 : decode cX0_demand 67 = .ok (.invokevirtual 68, 3) := by decide +kernel
theorem dX0_demand_70 : decode cX0_demand 70 = .ok (.iload 4, 2) := by decide +kernel
theorem dX0_demand_72 : decode cX0_demand 72 = .ok (.ireturn, 1) := by decide +kernel
theorem dX0_or_0 : decode cX0_or 0 = .ok (.aload_n 0, 1) := by decide +kernel
theorem dX0_or_1 : decode cX0_or 1 = .ok (.getfield 72, 3) := by decide +kernel
theorem dX0_or_4 : decode cX0_or 4 = .ok (.ifCond .le 11, 3) := by decide +kernel
theorem dX0_or_7 : decode cX0_or 7 = .ok (.aload_n 0, 1) := by decide +kernel
theorem dX0_or_8 : decode cX0_or 8 = .ok (.iload_n 1, 1) := by decide +kernel
theorem dX0_or_9 : decode cX0_or 9 = .ok (.invokevirtual 45, 3) := by decide +kernel
theorem dX0_or_12 : decode cX0_or 12 = .ok (.ifCond .ne 5, 3) := by decide +kernel
theorem dX0_or_15 : decode cX0_or 15 = .ok (.iconst 0, 1) := by decide +kernel
theorem dX0_or_16 : decode cX0_or 16 = .ok (.ireturn, 1) := by decide +kernel
theorem dX0_or_17 : decode cX0_or 17 = .ok (.aload_n 0, 1) := by decide +kernel
theorem dX0_or_18 : decode cX0_or 18 = .ok (.dup, 1) := by decide +kernel
theorem dX0_or_19 : decode cX0_or 19 = .ok (.getfield 72, 3) := by decide +kernel
theorem dX0_or_22 : decode cX0_or 22 = .ok (.iconst 1, 1) := by decide +kernel
theorem dX0_or_23 : decode cX0_or 23 = .ok (.isub, 1) := by decide +kernel
theorem dX0_or_24 : decode cX0_or 24 = .ok (.putfield 72, 3) := by decide +kernel
theorem dX0_or_27 : decode cX0_or 27 = .ok (.aload_n 0, 1) := by decide +kernel
theorem dX0_or_28 : decode cX0_or 28 = .ok (.getfield 75, 3) := by decide +kernel
theorem dX0_or_31 : decode cX0_or 31 = .ok (.ifCond .eq 12, 3) := by decide +kernel
theorem dX0_or_34 : decode cX0_or 34 = .ok (.aload_n 0, 1) := by decide +kernel
theorem dX0_or_35 : decode cX0_or 35 = .ok (.iload_n 1, 1) := by decide +kernel
theorem dX0_or_36 : decode cX0_or 36 = .ok (.iload_n 2, 1) := by decide +kernel
theorem dX0_or_37 : decode cX0_or 37 = .ok (.invokevirtual 79, 3) := by decide +kernel
theorem dX0_or_40 : decode cX0_or 40 = .ok (.goto 9, 3) := by decide +kernel
theorem dX0_or_43 : decode cX0_or 43 = .ok (.aload_n 0, 1) := by decide +kernel
theorem dX0_or_44 : decode cX0_or 44 = .ok (.iload_n 1, 1) := by decide +kernel
theorem dX0_or_45 : decode cX0_or 45 = .ok (.iload_n 2, 1) := by decide +kernel
theorem dX0_or_46 : decode cX0_or 46 = .ok (.invokevirtual 83, 3) := by decide +kernel
theorem dX0_or_49 : decode cX0_or 49 = .ok (.iconst 1, 1) := by decide +kernel
theorem dX0_or_50 : decode cX0_or 50 = .ok (.ireturn, 1) := by decide +kernel
theorem dX0_leaveOut_0 : decode cX0_leaveOut 0 = .ok (.iload_n 1, 1) := by decide +kernel
theorem dX0_leaveOut_1 : decode cX0_leaveOut 1 = .ok (.ifCond .lt 11, 3) := by decide +kernel
theorem dX0_leaveOut_4 : decode cX0_leaveOut 4 = .ok (.iload_n 1, 1) := by decide +kernel
theorem dX0_leaveOut_5 : decode cX0_leaveOut 5 = .ok (.aload_n 0, 1) := by decide +kernel
theorem dX0_leaveOut_6 : decode cX0_leaveOut 6 = .ok (.getfield 65, 3) := by decide +kernel
theorem dX0_leaveOut_9 : decode cX0_leaveOut 9 = .ok (.if_icmp .lt 5, 3) := by decide +kernel
theorem dX0_leaveOut_12 : decode cX0_leaveOut 12 = .ok (.iconst 0, 1) := by decide +kernel
theorem dX0_leaveOut_13 : decode cX0_leaveOut 13 = .ok (.ireturn, 1) := by decide +kernel
theorem dX0_leaveOut_14 : decode cX0_leaveOut 14 = .ok (.iconst 1, 1) := by decide +kernel
theorem dX0_leaveOut_15 : decode cX0_leaveOut 15 = .ok (.iload_n 1, 1) := by decide +kernel
theorem dX0_leaveOut_16 : decode cX0_leaveOut 16 = .ok (.ishl, 1) := by decide +kernel
theorem dX0_leaveOut_17 : decode cX0_leaveOut 17 = .ok (.istore_n 3, 1) := by decide +kernel
theorem dX0_leaveOut_18 : decode cX0_leaveOut 18 = .ok (.aload_n 0, 1) := by decide +kernel
theorem dX0_leaveOut_19 : decode cX0_leaveOut 19 = .ok (.getfield 86, 3) := by decide +kernel
theorem dX0_leaveOut_22 : decode cX0_leaveOut 22 = .ok (.iload_n 3, 1) := by decide +kernel
theorem dX0_leaveOut_23 : decode cX0_leaveOut 23 = .ok (.iand, 1) := by decide +kernel
theorem dX0_leaveOut_24 : decode cX0_leaveOut 24 = .ok (.ifCond .eq 7, 3) := by decide +kernel
theorem dX0_leaveOut_27 : decode cX0_leaveOut 27 = .ok (.iconst 1, 1) := by decide +kernel
theorem dX0_leaveOut_28 : decode cX0_leaveOut 28 = .ok (.goto 4, 3) := by decide +kernel
theorem dX0_leaveOut_31 : decode cX0_leaveOut 31 = .ok (.iconst 0, 1) := by decide +kernel
theorem dX0_leaveOut_32 : decode cX0_leaveOut 32 = .ok (.istore 4, 2) := by decide +kernel
theorem dX0_leaveOut_34 : decode cX0_leaveOut 34 = .ok (.iload 4, 2) := by decide +kernel
theorem dX0_leaveOut_36 : decode cX0_leaveOut 36 = .ok (.iload_n 2, 1) := by decide +kernel
theorem dX0_leaveOut_37 : decode cX0_leaveOut 37 = .ok (.if_icmp .ne 5, 3) := by decide +kernel
theorem dX0_leaveOut_40 : decode cX0_leaveOut 40 = .ok (.iconst 0, 1) := by decide +kernel
theorem dX0_leaveOut_41 : decode cX0_leaveOut 41 = .ok (.ireturn, 1) := by decide +kernel
theorem dX0_leaveOut_42 : decode cX0_leaveOut 42 = .ok (.aload_n 0, 1) := by decide +kernel
theorem dX0_leaveOut_43 : decode cX0_leaveOut 43 = .ok (.dup, 1) := by decide +kernel
theorem dX0_leaveOut_44 : decode cX0_leaveOut 44 = .ok (.getfield 86, 3) := by decide +kernel
theorem dX0_leaveOut_47 : decode cX0_leaveOut 47 = .ok (.iload_n 3, 1) := by decide +kernel
theorem dX0_leaveOut_48 : decode cX0_leaveOut 48 = .ok (.ixor, 1) := by decide +kernel
theorem dX0_leaveOut_49 : decode cX0_leaveOut 49 = .ok (.putfield 86, 3) := by decide +kernel
theorem dX0_leaveOut_52 : decode cX0_leaveOut 52 = .ok (.iconst 1, 1) := by decide +kernel
theorem dX0_leaveOut_53 : decode cX0_leaveOut 53 = .ok (.ireturn, 1) := by decide +kernel
theorem dX0_lock_0 : decode cX0_lock 0 = .ok (.aload_n 0, 1) := by decide +kernel
theorem dX0_lock_1 : decode cX0_lock 1 = .ok (.iload_n 1, 1) := by decide +kernel
theorem dX0_lock_2 : decode cX0_lock 2 = .ok (.iload_n 2, 1) := by decide +kernel
theorem dX0_lock_3 : decode cX0_lock 3 = .ok (.invokevirtual 89, 3) := by decide +kernel
theorem dX0_lock_6 : decode cX0_lock 6 = .ok (.ifCond .ne 5, 3) := by decide +kernel
theorem dX0_lock_9 : decode cX0_lock 9 = .ok (.iconst 0, 1) := by decide +kernel
theorem dX0_lock_10 : decode cX0_lock 10 = .ok (.ireturn, 1) := by decide +kernel
theorem dX0_lock_11 : decode cX0_lock 11 = .ok (.aload_n 0, 1) := by decide +kernel
theorem dX0_lock_12 : decode cX0_lock 12 = .ok (.dup, 1) := by decide +kernel
theorem dX0_lock_13 : decode cX0_lock 13 = .ok (.getfield 92, 3) := by decide +kernel
theorem dX0_lock_16 : decode cX0_lock 16 = .ok (.iload_n 1, 1) := by decide +kernel
theorem dX0_lock_17 : decode cX0_lock 17 = .ok (.invokestatic 48, 3) := by decide +kernel
theorem dX0_lock_20 : decode cX0_lock 20 = .ok (.ldc2_w 55, 3) := by decide +kernel
theorem dX0_lock_23 : decode cX0_lock 23 = .ok (.lxor, 1) := by decide +kernel
theorem dX0_lock_24 : decode cX0_lock 24 = .ok (.land, 1) := by decide +kernel
theorem dX0_lock_25 : decode cX0_lock 25 = .ok (.putfield 92, 3) := by decide +kernel
theorem dX0_lock_28 : decode cX0_lock 28 = .ok (.iload_n 2, 1) := by decide +kernel
theorem dX0_lock_29 : decode cX0_lock 29 = .ok (.iconst (-1), 1) := by decide +kernel
theorem dX0_lock_30 : decode cX0_lock 30 = .ok (.if_icmp .eq 17, 3) := by decide +kernel
theorem dX0_lock_33 : decode cX0_lock 33 = .ok (.aload_n 0, 1) := by decide +kernel
theorem dX0_lock_34 : decode cX0_lock 34 = .ok (.dup, 1) := by decide +kernel
theorem dX0_lock_35 : decode cX0_lock 35 = .ok (.getfield 92, 3) := by decide +kernel
theorem dX0_lock_38 : decode cX0_lock 38 = .ok (.iload_n 1, 1) := by decide +kernel
theorem dX0_lock_39 : decode cX0_lock 39 = .ok (.iload_n 2, 1) := by decide +kernel
theorem dX0_lock_40 : decode cX0_lock 40 = .ok (.invokestatic 52, 3) := by decide +kernel
theorem dX0_lock_43 : decode cX0_lock 43 = .ok (.lor, 1) := by decide +kernel
theorem dX0_lock_44 : decode cX0_lock 44 = .ok (.putfield 92, 3) := by decide +kernel
theorem dX0_lock_47 : decode cX0_lock 47 = .ok (.iconst 1, 1) := by decide +kernel
theorem dX0_lock_48 : decode cX0_lock 48 = .ok (.ireturn, 1) := by decide +kernel
theorem dX0_solve_0 : decode cX0_solve 0 = .ok (.aload_n 0, 1) := by decide +kernel
theorem dX0_solve_1 : decode cX0_solve 1 = .ok (.aload_n 0, 1) := by decide +kernel
theorem dX0_solve_2 : decode cX0_solve 2 = .ok (.aload_n 0, 1) := by decide +kernel
theorem dX0_solve_3 : decode cX0_solve 3 = .ok (.getfield 22, 3) := by decide +kernel
theorem dX0_solve_6 : decode cX0_solve 6 = .ok (.aload_n 0, 1) := by decide +kernel
theorem dX0_solve_7 : decode cX0_solve 7 = .ok (.invokevirtual 95, 3) := by decide +kernel
theorem dX0_solve_10 : decode cX0_solve 10 = .ok (.iconst 0, 1) := by decide +kernel
theorem dX0_solve_11 : decode cX0_solve 11 = .ok (.invokevirtual 99, 3) := by decide +kernel
theorem dX0_solve_14 : decode cX0_solve 14 = .ok (.putfield 103, 3) := by decide +kernel
theorem dX0_solve_17 : decode cX0_solve 17 = .ok (.aload_n 0, 1) := by decide +kernel
theorem dX0_solve_18 : decode cX0_solve 18 = .ok (.getfield 103, 3) := by decide +kernel
theorem dX0_solve_21 : decode cX0_solve 21 = .ok (.lconst 0, 1) := by decide +kernel
theorem dX0_solve_22 : decode cX0_solve 22 = .ok (.lcmp, 1) := by decide +kernel
theorem dX0_solve_23 : decode cX0_solve 23 = .ok (.ifCond .ne 7, 3) := by decide +kernel
theorem dX0_solve_26 : decode cX0_solve 26 = .ok (.iconst 0, 1) := by decide +kernel
theorem dX0_solve_27 : decode cX0_solve 27 = .ok (.goto 4, 3) := by decide +kernel
theorem dX0_solve_30 : decode cX0_solve 30 = .ok (.iconst 1, 1) := by decide +kernel
theorem dX0_solve_31 : decode cX0_solve 31 = .ok (.ireturn, 1) := by decide +kernel
theorem dX0_chosen_0 : decode cX0_chosen 0 = .ok (.aload_n 0, 1) := by decide +kernel
theorem dX0_chosen_1 : decode cX0_chosen 1 = .ok (.iload_n 1, 1) := by decide +kernel
theorem dX0_chosen_2 : decode cX0_chosen 2 = .ok (.invokevirtual 45, 3) := by decide +kernel
theorem dX0_chosen_5 : decode cX0_chosen 5 = .ok (.ifCond .ne 5, 3) := by decide +kernel
theorem dX0_chosen_8 : decode cX0_chosen 8 = .ok (.iconst (-1), 1) := by decide +kernel
theorem dX0_chosen_9 : decode cX0_chosen 9 = .ok (.ireturn, 1) := by decide +kernel
theorem dX0_chosen_10 : decode cX0_chosen 10 = .ok (.iconst 0, 1) := by decide +kernel
theorem dX0_chosen_11 : decode cX0_chosen 11 = .ok (.istore_n 2, 1) := by decide +kernel
theorem dX0_chosen_12 : decode cX0_chosen 12 = .ok (.iload_n 2, 1) := by decide +kernel
theorem dX0_chosen_13 : decode cX0_chosen 13 = .ok (.bipush 6, 2) := by decide +kernel
theorem dX0_chosen_15 : decode cX0_chosen 15 = .ok (.if_icmp .ge 26, 3) := by decide +kernel
theorem dX0_chosen_18 : decode cX0_chosen 18 = .ok (.aload_n 0, 1) := by decide +kernel
theorem dX0_chosen_19 : decode cX0_chosen 19 = .ok (.getfield 103, 3) := by decide +kernel
theorem dX0_chosen_22 : decode cX0_chosen 22 = .ok (.iload_n 1, 1) := by decide +kernel
theorem dX0_chosen_23 : decode cX0_chosen 23 = .ok (.iload_n 2, 1) := by decide +kernel
theorem dX0_chosen_24 : decode cX0_chosen 24 = .ok (.invokestatic 52, 3) := by decide +kernel
theorem dX0_chosen_27 : decode cX0_chosen 27 = .ok (.land, 1) := by decide +kernel
theorem dX0_chosen_28 : decode cX0_chosen 28 = .ok (.lconst 0, 1) := by decide +kernel
theorem dX0_chosen_29 : decode cX0_chosen 29 = .ok (.lcmp, 1) := by decide +kernel
theorem dX0_chosen_30 : decode cX0_chosen 30 = .ok (.ifCond .eq 5, 3) := by decide +kernel
theorem dX0_chosen_33 : decode cX0_chosen 33 = .ok (.iload_n 2, 1) := by decide +kernel
theorem dX0_chosen_34 : decode cX0_chosen 34 = .ok (.ireturn, 1) := by decide +kernel
theorem dX0_chosen_35 : decode cX0_chosen 35 = .ok (.iinc 2 1, 3) := by decide +kernel
theorem dX0_chosen_38 : decode cX0_chosen 38 = .ok (.goto (-26), 3) := by decide +kernel
theorem dX0_chosen_41 : decode cX0_chosen 41 = .ok (.iconst (-1), 1) := by decide +kernel
theorem dX0_chosen_42 : decode cX0_chosen 42 = .ok (.ireturn, 1) := by decide +kernel
theorem dX0_blame_0 : decode cX0_blame 0 = .ok (.aload_n 0, 1) := by decide +kernel
theorem dX0_blame_1 : decode cX0_blame 1 = .ok (.invokevirtual 95, 3) := by decide +kernel
theorem dX0_blame_4 : decode cX0_blame 4 = .ok (.istore_n 1, 1) := by decide +kernel
theorem dX0_blame_5 : decode cX0_blame 5 = .ok (.aload_n 0, 1) := by decide +kernel
theorem dX0_blame_6 : decode cX0_blame 6 = .ok (.iconst 0, 1) := by decide +kernel
theorem dX0_blame_7 : decode cX0_blame 7 = .ok (.putfield 106, 3) := by decide +kernel
theorem dX0_blame_10 : decode cX0_blame 10 = .ok (.aload_n 0, 1) := by decide +kernel
theorem dX0_blame_11 : decode cX0_blame 11 = .ok (.iload_n 1, 1) := by decide +kernel
theorem dX0_blame_12 : decode cX0_blame 12 = .ok (.invokevirtual 109, 3) := by decide +kernel
theorem dX0_blame_15 : decode cX0_blame 15 = .ok (.ifCond .eq 5, 3) := by decide +kernel
theorem dX0_blame_18 : decode cX0_blame 18 = .ok (.iconst 0, 1) := by decide +kernel
theorem dX0_blame_19 : decode cX0_blame 19 = .ok (.ireturn, 1) := by decide +kernel
theorem dX0_blame_20 : decode cX0_blame 20 = .ok (.iconst 0, 1) := by decide +kernel
theorem dX0_blame_21 : decode cX0_blame 21 = .ok (.istore_n 2, 1) := by decide +kernel
theorem dX0_blame_22 : decode cX0_blame 22 = .ok (.iload_n 2, 1) := by decide +kernel
theorem dX0_blame_23 : decode cX0_blame 23 = .ok (.aload_n 0, 1) := by decide +kernel
theorem dX0_blame_24 : decode cX0_blame 24 = .ok (.getfield 65, 3) := by decide +kernel
theorem dX0_blame_27 : decode cX0_blame 27 = .ok (.if_icmp .ge 32, 3) := by decide +kernel
theorem dX0_blame_30 : decode cX0_blame 30 = .ok (.iload_n 1, 1) := by decide +kernel
theorem dX0_blame_31 : decode cX0_blame 31 = .ok (.iconst 1, 1) := by decide +kernel
theorem dX0_blame_32 : decode cX0_blame 32 = .ok (.iload_n 2, 1) := by decide +kernel
theorem dX0_blame_33 : decode cX0_blame 33 = .ok (.ishl, 1) := by decide +kernel
theorem dX0_blame_34 : decode cX0_blame 34 = .ok (.iconst (-1), 1) := by decide +kernel
theorem dX0_blame_35 : decode cX0_blame 35 = .ok (.ixor, 1) := by decide +kernel
theorem dX0_blame_36 : decode cX0_blame 36 = .ok (.iand, 1) := by decide +kernel
theorem dX0_blame_37 : decode cX0_blame 37 = .ok (.istore_n 3, 1) := by decide +kernel
theorem dX0_blame_38 : decode cX0_blame 38 = .ok (.iload_n 3, 1) := by decide +kernel
theorem dX0_blame_39 : decode cX0_blame 39 = .ok (.iload_n 1, 1) := by decide +kernel
theorem dX0_blame_40 : decode cX0_blame 40 = .ok (.if_icmp .eq 13, 3) := by decide +kernel
theorem dX0_blame_43 : decode cX0_blame 43 = .ok (.aload_n 0, 1) := by decide +kernel
theorem dX0_blame_44 : decode cX0_blame 44 = .ok (.iload_n 3, 1) := by decide +kernel
theorem dX0_blame_45 : decode cX0_blame 45 = .ok (.invokevirtual 109, 3) := by decide +kernel
theorem dX0_blame_48 : decode cX0_blame 48 = .ok (.ifCond .ne 5, 3) := by decide +kernel
theorem dX0_blame_51 : decode cX0_blame 51 = .ok (.iload_n 3, 1) := by decide +kernel
theorem dX0_blame_52 : decode cX0_blame 52 = .ok (.istore_n 1, 1) := by decide +kernel
theorem dX0_blame_53 : decode cX0_blame 53 = .ok (.iinc 2 1, 3) := by decide +kernel
theorem dX0_blame_56 : decode cX0_blame 56 = .ok (.goto (-34), 3) := by decide +kernel
theorem dX0_blame_59 : decode cX0_blame 59 = .ok (.aload_n 0, 1) := by decide +kernel
theorem dX0_blame_60 : decode cX0_blame 60 = .ok (.iload_n 1, 1) := by decide +kernel
theorem dX0_blame_61 : decode cX0_blame 61 = .ok (.putfield 106, 3) := by decide +kernel
theorem dX0_blame_64 : decode cX0_blame 64 = .ok (.iload_n 1, 1) := by decide +kernel
theorem dX0_blame_65 : decode cX0_blame 65 = .ok (.invokestatic 112, 3) := by decide +kernel
theorem dX0_blame_68 : decode cX0_blame 68 = .ok (.ireturn, 1) := by decide +kernel
theorem dX0_blamed_0 : decode cX0_blamed 0 = .ok (.iconst 0, 1) := by decide +kernel
theorem dX0_blamed_1 : decode cX0_blamed 1 = .ok (.istore_n 2, 1) := by decide +kernel
theorem dX0_blamed_2 : decode cX0_blamed 2 = .ok (.iconst 0, 1) := by decide +kernel
theorem dX0_blamed_3 : decode cX0_blamed 3 = .ok (.istore_n 3, 1) := by decide +kernel
theorem dX0_blamed_4 : decode cX0_blamed 4 = .ok (.iload_n 3, 1) := by decide +kernel
theorem dX0_blamed_5 : decode cX0_blamed 5 = .ok (.bipush 12, 2) := by decide +kernel
theorem dX0_blamed_7 : decode cX0_blamed 7 = .ok (.if_icmp .ge 30, 3) := by decide +kernel
theorem dX0_blamed_10 : decode cX0_blamed 10 = .ok (.aload_n 0, 1) := by decide +kernel
theorem dX0_blamed_11 : decode cX0_blamed 11 = .ok (.getfield 106, 3) := by decide +kernel
theorem dX0_blamed_14 : decode cX0_blamed 14 = .ok (.iconst 1, 1) := by decide +kernel
theorem dX0_blamed_15 : decode cX0_blamed 15 = .ok (.iload_n 3, 1) := by decide +kernel
theorem dX0_blamed_16 : decode cX0_blamed 16 = .ok (.ishl, 1) := by decide +kernel
theorem dX0_blamed_17 : decode cX0_blamed 17 = .ok (.iand, 1) := by decide +kernel
theorem dX0_blamed_18 : decode cX0_blamed 18 = .ok (.ifCond .eq 13, 3) := by decide +kernel
theorem dX0_blamed_21 : decode cX0_blamed 21 = .ok (.iload_n 2, 1) := by decide +kernel
theorem dX0_blamed_22 : decode cX0_blamed 22 = .ok (.iload_n 1, 1) := by decide +kernel
theorem dX0_blamed_23 : decode cX0_blamed 23 = .ok (.if_icmp .ne 5, 3) := by decide +kernel
theorem dX0_blamed_26 : decode cX0_blamed 26 = .ok (.iload_n 3, 1) := by decide +kernel
theorem dX0_blamed_27 : decode cX0_blamed 27 = .ok (.ireturn, 1) := by decide +kernel
theorem dX0_blamed_28 : decode cX0_blamed 28 = .ok (.iinc 2 1, 3) := by decide +kernel
theorem dX0_blamed_31 : decode cX0_blamed 31 = .ok (.iinc 3 1, 3) := by decide +kernel
theorem dX0_blamed_34 : decode cX0_blamed 34 = .ok (.goto (-30), 3) := by decide +kernel
theorem dX0_blamed_37 : decode cX0_blamed 37 = .ok (.iconst (-1), 1) := by decide +kernel
theorem dX0_blamed_38 : decode cX0_blamed 38 = .ok (.ireturn, 1) := by decide +kernel
theorem dX0_can_0 : decode cX0_can 0 = .ok (.aload_n 0, 1) := by decide +kernel
theorem dX0_can_1 : decode cX0_can 1 = .ok (.iload_n 1, 1) := by decide +kernel
theorem dX0_can_2 : decode cX0_can 2 = .ok (.iload_n 2, 1) := by decide +kernel
theorem dX0_can_3 : decode cX0_can 3 = .ok (.invokevirtual 89, 3) := by decide +kernel
theorem dX0_can_6 : decode cX0_can 6 = .ok (.ifCond .eq 16, 3) := by decide +kernel
theorem dX0_can_9 : decode cX0_can 9 = .ok (.aload_n 0, 1) := by decide +kernel
theorem dX0_can_10 : decode cX0_can 10 = .ok (.iload_n 1, 1) := by decide +kernel
theorem dX0_can_11 : decode cX0_can 11 = .ok (.iload_n 2, 1) := by decide +kernel
theorem dX0_can_12 : decode cX0_can 12 = .ok (.invokevirtual 118, 3) := by decide +kernel
theorem dX0_can_15 : decode cX0_can 15 = .ok (.ifCond .eq 7, 3) := by decide +kernel
theorem dX0_can_18 : decode cX0_can 18 = .ok (.iconst 1, 1) := by decide +kernel
theorem dX0_can_19 : decode cX0_can 19 = .ok (.goto 4, 3) := by decide +kernel
theorem dX0_can_22 : decode cX0_can 22 = .ok (.iconst 0, 1) := by decide +kernel
theorem dX0_can_23 : decode cX0_can 23 = .ok (.ireturn, 1) := by decide +kernel
theorem dX0_must_0 : decode cX0_must 0 = .ok (.aload_n 0, 1) := by decide +kernel
theorem dX0_must_1 : decode cX0_must 1 = .ok (.iload_n 1, 1) := by decide +kernel
theorem dX0_must_2 : decode cX0_must 2 = .ok (.invokevirtual 45, 3) := by decide +kernel
theorem dX0_must_5 : decode cX0_must 5 = .ok (.ifCond .eq 16, 3) := by decide +kernel
theorem dX0_must_8 : decode cX0_must 8 = .ok (.aload_n 0, 1) := by decide +kernel
theorem dX0_must_9 : decode cX0_must 9 = .ok (.iload_n 1, 1) := by decide +kernel
theorem dX0_must_10 : decode cX0_must 10 = .ok (.iconst (-1), 1) := by decide +kernel
theorem dX0_must_11 : decode cX0_must 11 = .ok (.invokevirtual 118, 3) := by decide +kernel
theorem dX0_must_14 : decode cX0_must 14 = .ok (.ifCond .ne 7, 3) := by decide +kernel
theorem dX0_must_17 : decode cX0_must 17 = .ok (.iconst 1, 1) := by decide +kernel
theorem dX0_must_18 : decode cX0_must 18 = .ok (.goto 4, 3) := by decide +kernel
theorem dX0_must_21 : decode cX0_must 21 = .ok (.iconst 0, 1) := by decide +kernel
theorem dX0_must_22 : decode cX0_must 22 = .ok (.ireturn, 1) := by decide +kernel
theorem dX0_hasPack_0 : decode cX0_hasPack 0 = .ok (.iload_n 1, 1) := by decide +kernel
theorem dX0_hasPack_1 : decode cX0_hasPack 1 = .ok (.ifCond .lt 15, 3) := by decide +kernel
theorem dX0_hasPack_4 : decode cX0_hasPack 4 = .ok (.iload_n 1, 1) := by decide +kernel
theorem dX0_hasPack_5 : decode cX0_hasPack 5 = .ok (.aload_n 0, 1) := by decide +kernel
theorem dX0_hasPack_6 : decode cX0_hasPack 6 = .ok (.getfield 26, 3) := by decide +kernel
theorem dX0_hasPack_9 : decode cX0_hasPack 9 = .ok (.if_icmp .ge 7, 3) := by decide +kernel
theorem dX0_hasPack_12 : decode cX0_hasPack 12 = .ok (.iconst 1, 1) := by decide +kernel
theorem dX0_hasPack_13 : decode cX0_hasPack 13 = .ok (.goto 4, 3) := by decide +kernel
theorem dX0_hasPack_16 : decode cX0_hasPack 16 = .ok (.iconst 0, 1) := by decide +kernel
theorem dX0_hasPack_17 : decode cX0_hasPack 17 = .ok (.ireturn, 1) := by decide +kernel
theorem dX0_hasVersion_0 : decode cX0_hasVersion 0 = .ok (.aload_n 0, 1) := by decide +kernel
theorem dX0_hasVersion_1 : decode cX0_hasVersion 1 = .ok (.iload_n 1, 1) := by decide +kernel
theorem dX0_hasVersion_2 : decode cX0_hasVersion 2 = .ok (.invokevirtual 45, 3) := by decide +kernel
theorem dX0_hasVersion_5 : decode cX0_hasVersion 5 = .ok (.ifCond .eq 32, 3) := by decide +kernel
theorem dX0_hasVersion_8 : decode cX0_hasVersion 8 = .ok (.iload_n 2, 1) := by decide +kernel
theorem dX0_hasVersion_9 : decode cX0_hasVersion 9 = .ok (.ifCond .lt 28, 3) := by decide +kernel
theorem dX0_hasVersion_12 : decode cX0_hasVersion 12 = .ok (.iload_n 2, 1) := by decide +kernel
theorem dX0_hasVersion_13 : decode cX0_hasVersion 13 = .ok (.bipush 6, 2) := by decide +kernel
theorem dX0_hasVersion_15 : decode cX0_hasVersion 15 = .ok (.if_icmp .ge 22, 3) := by decide +kernel
theorem dX0_hasVersion_18 : decode cX0_hasVersion 18 = .ok (.aload_n 0, 1) := by decide +kernel
theorem dX0_hasVersion_19 : decode cX0_hasVersion 19 = .ok (.getfield 22, 3) := by decide +kernel
theorem dX0_hasVersion_22 : decode cX0_hasVersion 22 = .ok (.iload_n 1, 1) := by decide +kernel
theorem dX0_hasVersion_23 : decode cX0_hasVersion 23 = .ok (.iload_n 2, 1) := by decide +kernel
theorem dX0_hasVersion_24 : decode cX0_hasVersion 24 = .ok (.invokestatic 52, 3) := by decide +kernel
theorem dX0_hasVersion_27 : decode cX0_hasVersion 27 = .ok (.land, 1) := by decide +kernel
theorem dX0_hasVersion_28 : decode cX0_hasVersion 28 = .ok (.lconst 0, 1) := by decide +kernel
theorem dX0_hasVersion_29 : decode cX0_hasVersion 29 = .ok (.lcmp, 1) := by decide +kernel
theorem dX0_hasVersion_30 : decode cX0_hasVersion 30 = .ok (.ifCond .eq 7, 3) := by decide +kernel
theorem dX0_hasVersion_33 : decode cX0_hasVersion 33 = .ok (.iconst 1, 1) := by decide +kernel
theorem dX0_hasVersion_34 : decode cX0_hasVersion 34 = .ok (.goto 4, 3) := by decide +kernel
theorem dX0_hasVersion_37 : decode cX0_hasVersion 37 = .ok (.iconst 0, 1) := by decide +kernel
theorem dX0_hasVersion_38 : decode cX0_hasVersion 38 = .ok (.ireturn, 1) := by decide +kernel
theorem dX0_hasPlace_0 : decode cX0_hasPlace 0 = .ok (.iload_n 2, 1) := by decide +kernel
theorem dX0_hasPlace_1 : decode cX0_hasPlace 1 = .ok (.iconst (-1), 1) := by decide +kernel
theorem dX0_hasPlace_2 : decode cX0_hasPlace 2 = .ok (.if_icmp .ne 11, 3) := by decide +kernel
theorem dX0_hasPlace_5 : decode cX0_hasPlace 5 = .ok (.aload_n 0, 1) := by decide +kernel
theorem dX0_hasPlace_6 : decode cX0_hasPlace 6 = .ok (.iload_n 1, 1) := by decide +kernel
theorem dX0_hasPlace_7 : decode cX0_hasPlace 7 = .ok (.invokevirtual 45, 3) := by decide +kernel
theorem dX0_hasPlace_10 : decode cX0_hasPlace 10 = .ok (.goto 9, 3) := by decide +kernel
theorem dX0_hasPlace_13 : decode cX0_hasPlace 13 = .ok (.aload_n 0, 1) := by decide +kernel
theorem dX0_hasPlace_14 : decode cX0_hasPlace 14 = .ok (.iload_n 1, 1) := by decide +kernel
theorem dX0_hasPlace_15 : decode cX0_hasPlace 15 = .ok (.iload_n 2, 1) := by decide +kernel
theorem dX0_hasPlace_16 : decode cX0_hasPlace 16 = .ok (.invokevirtual 37, 3) := by decide +kernel
theorem dX0_hasPlace_19 : decode cX0_hasPlace 19 = .ok (.ireturn, 1) := by decide +kernel
theorem dX0_isKind_0 : decode cX0_isKind 0 = .ok (.iload_n 0, 1) := by decide +kernel
theorem dX0_isKind_1 : decode cX0_isKind 1 = .ok (.ifCond .eq 13, 3) := by decide +kernel
theorem dX0_isKind_4 : decode cX0_isKind 4 = .ok (.iload_n 0, 1) := by decide +kernel
theorem dX0_isKind_5 : decode cX0_isKind 5 = .ok (.iconst 1, 1) := by decide +kernel
theorem dX0_isKind_6 : decode cX0_isKind 6 = .ok (.if_icmp .eq 8, 3) := by decide +kernel
theorem dX0_isKind_9 : decode cX0_isKind 9 = .ok (.iload_n 0, 1) := by decide +kernel
theorem dX0_isKind_10 : decode cX0_isKind 10 = .ok (.iconst 2, 1) := by decide +kernel
theorem dX0_isKind_11 : decode cX0_isKind 11 = .ok (.if_icmp .ne 7, 3) := by decide +kernel
theorem dX0_isKind_14 : decode cX0_isKind 14 = .ok (.iconst 1, 1) := by decide +kernel
theorem dX0_isKind_15 : decode cX0_isKind 15 = .ok (.goto 4, 3) := by decide +kernel
theorem dX0_isKind_18 : decode cX0_isKind 18 = .ok (.iconst 0, 1) := by decide +kernel
theorem dX0_isKind_19 : decode cX0_isKind 19 = .ok (.ireturn, 1) := by decide +kernel
theorem dX0_allOf_0 : decode cX0_allOf 0 = .ok (.ldc2_w 121, 3) := by decide +kernel
theorem dX0_allOf_3 : decode cX0_allOf 3 = .ok (.iload_n 0, 1) := by decide +kernel
theorem dX0_allOf_4 : decode cX0_allOf 4 = .ok (.bipush 8, 2) := by decide +kernel
theorem dX0_allOf_6 : decode cX0_allOf 6 = .ok (.imul, 1) := by decide +kernel
theorem dX0_allOf_7 : decode cX0_allOf 7 = .ok (.lshl, 1) := by decide +kernel
theorem dX0_allOf_8 : decode cX0_allOf 8 = .ok (.lreturn, 1) := by decide +kernel
theorem dX0_noneOf_0 : decode cX0_noneOf 0 = .ok (.ldc2_w 123, 3) := by decide +kernel
theorem dX0_noneOf_3 : decode cX0_noneOf 3 = .ok (.iload_n 0, 1) := by decide +kernel
theorem dX0_noneOf_4 : decode cX0_noneOf 4 = .ok (.bipush 8, 2) := by decide +kernel
theorem dX0_noneOf_6 : decode cX0_noneOf 6 = .ok (.imul, 1) := by decide +kernel
theorem dX0_noneOf_7 : decode cX0_noneOf 7 = .ok (.lshl, 1) := by decide +kernel
theorem dX0_noneOf_8 : decode cX0_noneOf 8 = .ok (.lreturn, 1) := by decide +kernel
theorem dX0_versionsOf_0 : decode cX0_versionsOf 0 = .ok (.iload_n 1, 1) := by decide +kernel
theorem dX0_versionsOf_1 : decode cX0_versionsOf 1 = .ok (.i2l, 1) := by decide +kernel
theorem dX0_versionsOf_2 : decode cX0_versionsOf 2 = .ok (.ldc2_w 125, 3) := by decide +kernel
theorem dX0_versionsOf_5 : decode cX0_versionsOf 5 = .ok (.land, 1) := by decide +kernel
theorem dX0_versionsOf_6 : decode cX0_versionsOf 6 = .ok (.iload_n 0, 1) := by decide +kernel
theorem dX0_versionsOf_7 : decode cX0_versionsOf 7 = .ok (.bipush 8, 2) := by decide +kernel
theorem dX0_versionsOf_9 : decode cX0_versionsOf 9 = .ok (.imul, 1) := by decide +kernel
theorem dX0_versionsOf_10 : decode cX0_versionsOf 10 = .ok (.lshl, 1) := by decide +kernel
theorem dX0_versionsOf_11 : decode cX0_versionsOf 11 = .ok (.lreturn, 1) := by decide +kernel
theorem dX0_placeOf_0 : decode cX0_placeOf 0 = .ok (.iload_n 1, 1) := by decide +kernel
theorem dX0_placeOf_1 : decode cX0_placeOf 1 = .ok (.iconst (-1), 1) := by decide +kernel
theorem dX0_placeOf_2 : decode cX0_placeOf 2 = .ok (.if_icmp .ne 10, 3) := by decide +kernel
theorem dX0_placeOf_5 : decode cX0_placeOf 5 = .ok (.iload_n 0, 1) := by decide +kernel
theorem dX0_placeOf_6 : decode cX0_placeOf 6 = .ok (.invokestatic 127, 3) := by decide +kernel
theorem dX0_placeOf_9 : decode cX0_placeOf 9 = .ok (.goto 10, 3) := by decide +kernel
theorem dX0_placeOf_12 : decode cX0_placeOf 12 = .ok (.iload_n 0, 1) := by decide +kernel
theorem dX0_placeOf_13 : decode cX0_placeOf 13 = .ok (.iconst 1, 1) := by decide +kernel
theorem dX0_placeOf_14 : decode cX0_placeOf 14 = .ok (.iload_n 1, 1) := by decide +kernel
theorem dX0_placeOf_15 : decode cX0_placeOf 15 = .ok (.ishl, 1) := by decide +kernel
theorem dX0_placeOf_16 : decode cX0_placeOf 16 = .ok (.invokestatic 30, 3) := by decide +kernel
theorem dX0_placeOf_19 : decode cX0_placeOf 19 = .ok (.lreturn, 1) := by decide +kernel
theorem dX0_keeping_0 : decode cX0_keeping 0 = .ok (.iload_n 1, 1) := by decide +kernel
theorem dX0_keeping_1 : decode cX0_keeping 1 = .ok (.iload_n 2, 1) := by decide +kernel
theorem dX0_keeping_2 : decode cX0_keeping 2 = .ok (.invokestatic 30, 3) := by decide +kernel
theorem dX0_keeping_5 : decode cX0_keeping 5 = .ok (.lstore_n 3, 1) := by decide +kernel
theorem dX0_keeping_6 : decode cX0_keeping 6 = .ok (.iload_n 0, 1) := by decide +kernel
theorem dX0_keeping_7 : decode cX0_keeping 7 = .ok (.iconst 1, 1) := by decide +kernel
theorem dX0_keeping_8 : decode cX0_keeping 8 = .ok (.if_icmp .ne 14, 3) := by decide +kernel
theorem dX0_keeping_11 : decode cX0_keeping 11 = .ok (.iload_n 1, 1) := by decide +kernel
theorem dX0_keeping_12 : decode cX0_keeping 12 = .ok (.invokestatic 48, 3) := by decide +kernel
theorem dX0_keeping_15 : decode cX0_keeping 15 = .ok (.lload_n 3, 1) := by decide +kernel
theorem dX0_keeping_16 : decode cX0_keeping 16 = .ok (.ldc2_w 55, 3) := by decide +kernel
theorem dX0_keeping_19 : decode cX0_keeping 19 = .ok (.lxor, 1) := by decide +kernel
theorem dX0_keeping_20 : decode cX0_keeping 20 = .ok (.land, 1) := by decide +kernel
theorem dX0_keeping_21 : decode cX0_keeping 21 = .ok (.lreturn, 1) := by decide +kernel
theorem dX0_keeping_22 : decode cX0_keeping 22 = .ok (.iload_n 0, 1) := by decide +kernel
theorem dX0_keeping_23 : decode cX0_keeping 23 = .ok (.iconst 2, 1) := by decide +kernel
theorem dX0_keeping_24 : decode cX0_keeping 24 = .ok (.if_icmp .ne 12, 3) := by decide +kernel
theorem dX0_keeping_27 : decode cX0_keeping 27 = .ok (.lload_n 3, 1) := by decide +kernel
theorem dX0_keeping_28 : decode cX0_keeping 28 = .ok (.iload_n 1, 1) := by decide +kernel
theorem dX0_keeping_29 : decode cX0_keeping 29 = .ok (.invokestatic 127, 3) := by decide +kernel
theorem dX0_keeping_32 : decode cX0_keeping 32 = .ok (.lor, 1) := by decide +kernel
theorem dX0_keeping_33 : decode cX0_keeping 33 = .ok (.goto 4, 3) := by decide +kernel
theorem dX0_keeping_36 : decode cX0_keeping 36 = .ok (.lload_n 3, 1) := by decide +kernel
theorem dX0_keeping_37 : decode cX0_keeping 37 = .ok (.lreturn, 1) := by decide +kernel
theorem dX0_startAlternatives_0 : decode cX0_startAlternatives 0 = .ok (.aload_n 0, 1) := by decide +kernel
theorem dX0_startAlternatives_1 : decode cX0_startAlternatives 1 = .ok (.iload_n 1, 1) := by decide +kernel
theorem dX0_startAlternatives_2 : decode cX0_startAlternatives 2 = .ok (.ifCond .ne 7, 3) := by decide +kernel
theorem dX0_startAlternatives_5 : decode cX0_startAlternatives 5 = .ok (.iconst 2, 1) := by decide +kernel
theorem dX0_startAlternatives_6 : decode cX0_startAlternatives 6 = .ok (.goto 4, 3) := by decide +kernel
theorem dX0_startAlternatives_9 : decode cX0_startAlternatives 9 = .ok (.iconst 0, 1) := by decide +kernel
theorem dX0_startAlternatives_10 : decode cX0_startAlternatives 10 = .ok (.putfield 72, 3) := by decide +kernel
theorem dX0_startAlternatives_13 : decode cX0_startAlternatives 13 = .ok (.aload_n 0, 1) := by decide +kernel
theorem dX0_startAlternatives_14 : decode cX0_startAlternatives 14 = .ok (.iload_n 2, 1) := by decide +kernel
theorem dX0_startAlternatives_15 : decode cX0_startAlternatives 15 = .ok (.putfield 75, 3) := by decide +kernel
theorem dX0_startAlternatives_18 : decode cX0_startAlternatives 18 = .ok (.return_, 1) := by decide +kernel
theorem dX0_addToLatestDemand_0 : decode cX0_addToLatestDemand 0 = .ok (.aload_n 0, 1) := by decide +kernel
theorem dX0_addToLatestDemand_1 : decode cX0_addToLatestDemand 1 = .ok (.getfield 65, 3) := by decide +kernel
theorem dX0_addToLatestDemand_4 : decode cX0_addToLatestDemand 4 = .ok (.ifCond .le 27, 3) := by decide +kernel
theorem dX0_addToLatestDemand_7 : decode cX0_addToLatestDemand 7 = .ok (.aload_n 0, 1) := by decide +kernel
theorem dX0_addToLatestDemand_8 : decode cX0_addToLatestDemand 8 = .ok (.getfield 13, 3) := by decide +kernel
theorem dX0_addToLatestDemand_11 : decode cX0_addToLatestDemand 11 = .ok (.aload_n 0, 1) := by decide +kernel
theorem dX0_addToLatestDemand_12 : decode cX0_addToLatestDemand 12 = .ok (.getfield 65, 3) := by decide +kernel
theorem dX0_addToLatestDemand_15 : decode cX0_addToLatestDemand 15 = .ok (.iconst 1, 1) := by decide +kernel
theorem dX0_addToLatestDemand_16 : decode cX0_addToLatestDemand 16 = .ok (.isub, 1) := by decide +kernel
theorem dX0_addToLatestDemand_17 : decode cX0_addToLatestDemand 17 = .ok (.dup2, 1) := by decide +kernel
theorem dX0_addToLatestDemand_18 : decode cX0_addToLatestDemand 18 = .ok (.laload, 1) := by decide +kernel
theorem dX0_addToLatestDemand_19 : decode cX0_addToLatestDemand 19 = .ok (.iload_n 1, 1) := by decide +kernel
theorem dX0_addToLatestDemand_20 : decode cX0_addToLatestDemand 20 = .ok (.iload_n 2, 1) := by decide +kernel
theorem dX0_addToLatestDemand_21 : decode cX0_addToLatestDemand 21 = .ok (.invokestatic 30, 3) := by decide +kernel
theorem dX0_addToLatestDemand_24 : decode cX0_addToLatestDemand 24 = .ok (.lor, 1) := by decide +kernel
theorem dX0_addToLatestDemand_25 : decode cX0_addToLatestDemand 25 = .ok (.lastore, 1) := by decide +kernel
theorem dX0_addToLatestDemand_26 : decode cX0_addToLatestDemand 26 = .ok (.aload_n 0, 1) := by decide +kernel
theorem dX0_addToLatestDemand_27 : decode cX0_addToLatestDemand 27 = .ok (.iload_n 1, 1) := by decide +kernel
theorem dX0_addToLatestDemand_28 : decode cX0_addToLatestDemand 28 = .ok (.invokevirtual 68, 3) := by decide +kernel
theorem dX0_addToLatestDemand_31 : decode cX0_addToLatestDemand 31 = .ok (.return_, 1) := by decide +kernel
theorem dX0_addToLatestRow_0 : decode cX0_addToLatestRow 0 = .ok (.aload_n 0, 1) := by decide +kernel
theorem dX0_addToLatestRow_1 : decode cX0_addToLatestRow 1 = .ok (.getfield 34, 3) := by decide +kernel
theorem dX0_addToLatestRow_4 : decode cX0_addToLatestRow 4 = .ok (.ifCond .le 22, 3) := by decide +kernel
theorem dX0_addToLatestRow_7 : decode cX0_addToLatestRow 7 = .ok (.aload_n 0, 1) := by decide +kernel
theorem dX0_addToLatestRow_8 : decode cX0_addToLatestRow 8 = .ok (.getfield 9, 3) := by decide +kernel
theorem dX0_addToLatestRow_11 : decode cX0_addToLatestRow 11 = .ok (.aload_n 0, 1) := by decide +kernel
theorem dX0_addToLatestRow_12 : decode cX0_addToLatestRow 12 = .ok (.getfield 34, 3) := by decide +kernel
theorem dX0_addToLatestRow_15 : decode cX0_addToLatestRow 15 = .ok (.iconst 1, 1) := by decide +kernel
theorem dX0_addToLatestRow_16 : decode cX0_addToLatestRow 16 = .ok (.isub, 1) := by decide +kernel
theorem dX0_addToLatestRow_17 : decode cX0_addToLatestRow 17 = .ok (.dup2, 1) := by decide +kernel
theorem dX0_addToLatestRow_18 : decode cX0_addToLatestRow 18 = .ok (.laload, 1) := by decide +kernel
theorem dX0_addToLatestRow_19 : decode cX0_addToLatestRow 19 = .ok (.iload_n 1, 1) := by decide +kernel
theorem dX0_addToLatestRow_20 : decode cX0_addToLatestRow 20 = .ok (.iload_n 2, 1) := by decide +kernel
theorem dX0_addToLatestRow_21 : decode cX0_addToLatestRow 21 = .ok (.invokestatic 30, 3) := by decide +kernel
theorem dX0_addToLatestRow_24 : decode cX0_addToLatestRow 24 = .ok (.lor, 1) := by decide +kernel
theorem dX0_addToLatestRow_25 : decode cX0_addToLatestRow 25 = .ok (.lastore, 1) := by decide +kernel
theorem dX0_addToLatestRow_26 : decode cX0_addToLatestRow 26 = .ok (.return_, 1) := by decide +kernel
theorem dX0_moveToNeeded_0 : decode cX0_moveToNeeded 0 = .ok (.aload_n 0, 1) := by decide +kernel
theorem dX0_moveToNeeded_1 : decode cX0_moveToNeeded 1 = .ok (.iload_n 1, 1) := by decide +kernel
theorem dX0_moveToNeeded_2 : decode cX0_moveToNeeded 2 = .ok (.invokevirtual 130, 3) := by decide +kernel
theorem dX0_moveToNeeded_5 : decode cX0_moveToNeeded 5 = .ok (.istore_n 2, 1) := by decide +kernel
theorem dX0_moveToNeeded_6 : decode cX0_moveToNeeded 6 = .ok (.iload_n 2, 1) := by decide +kernel
theorem dX0_moveToNeeded_7 : decode cX0_moveToNeeded 7 = .ok (.aload_n 0, 1) := by decide +kernel
theorem dX0_moveToNeeded_8 : decode cX0_moveToNeeded 8 = .ok (.getfield 133, 3) := by decide +kernel
theorem dX0_moveToNeeded_11 : decode cX0_moveToNeeded 11 = .ok (.if_icmp .lt 9, 3) := by decide +kernel
theorem dX0_moveToNeeded_14 : decode cX0_moveToNeeded 14 = .ok (.iload_n 2, 1) := by decide +kernel
theorem dX0_moveToNeeded_15 : decode cX0_moveToNeeded 15 = .ok (.bipush 8, 2) := by decide +kernel
theorem dX0_moveToNeeded_17 : decode cX0_moveToNeeded 17 = .ok (.if_icmp .lt 4, 3) := by decide +kernel
theorem dX0_moveToNeeded_20 : decode cX0_moveToNeeded 20 = .ok (.return_, 1) := by decide +kernel
theorem dX0_moveToNeeded_21 : decode cX0_moveToNeeded 21 = .ok (.iload_n 2, 1) := by decide +kernel
theorem dX0_moveToNeeded_22 : decode cX0_moveToNeeded 22 = .ok (.istore_n 3, 1) := by decide +kernel
theorem dX0_moveToNeeded_23 : decode cX0_moveToNeeded 23 = .ok (.iload_n 3, 1) := by decide +kernel
theorem dX0_moveToNeeded_24 : decode cX0_moveToNeeded 24 = .ok (.aload_n 0, 1) := by decide +kernel
theorem dX0_moveToNeeded_25 : decode cX0_moveToNeeded 25 = .ok (.getfield 133, 3) := by decide +kernel
theorem dX0_moveToNeeded_28 : decode cX0_moveToNeeded 28 = .ok (.if_icmp .le 23, 3) := by decide +kernel
theorem dX0_moveToNeeded_31 : decode cX0_moveToNeeded 31 = .ok (.aload_n 0, 1) := by decide +kernel
theorem dX0_moveToNeeded_32 : decode cX0_moveToNeeded 32 = .ok (.getfield 16, 3) := by decide +kernel
theorem dX0_moveToNeeded_35 : decode cX0_moveToNeeded 35 = .ok (.iload_n 3, 1) := by decide +kernel
theorem dX0_moveToNeeded_36 : decode cX0_moveToNeeded 36 = .ok (.aload_n 0, 1) := by decide +kernel
theorem dX0_moveToNeeded_37 : decode cX0_moveToNeeded 37 = .ok (.getfield 16, 3) := by decide +kernel
theorem dX0_moveToNeeded_40 : decode cX0_moveToNeeded 40 = .ok (.iload_n 3, 1) := by decide +kernel
theorem dX0_moveToNeeded_41 : decode cX0_moveToNeeded 41 = .ok (.iconst 1, 1) := by decide +kernel
theorem dX0_moveToNeeded_42 : decode cX0_moveToNeeded 42 = .ok (.isub, 1) := by decide +kernel
theorem dX0_moveToNeeded_43 : decode cX0_moveToNeeded 43 = .ok (.iaload, 1) := by decide +kernel
theorem dX0_moveToNeeded_44 : decode cX0_moveToNeeded 44 = .ok (.iastore, 1) := by decide +kernel
theorem dX0_moveToNeeded_45 : decode cX0_moveToNeeded 45 = .ok (.iinc 3 (-1), 3) := by decide +kernel
theorem dX0_moveToNeeded_48 : decode cX0_moveToNeeded 48 = .ok (.goto (-25), 3) := by decide +kernel
theorem dX0_moveToNeeded_51 : decode cX0_moveToNeeded 51 = .ok (.aload_n 0, 1) := by decide +kernel
theorem dX0_moveToNeeded_52 : decode cX0_moveToNeeded 52 = .ok (.getfield 16, 3) := by decide +kernel
theorem dX0_moveToNeeded_55 : decode cX0_moveToNeeded 55 = .ok (.aload_n 0, 1) := by decide +kernel
theorem dX0_moveToNeeded_56 : decode cX0_moveToNeeded 56 = .ok (.getfield 133, 3) := by decide +kernel
theorem dX0_moveToNeeded_59 : decode cX0_moveToNeeded 59 = .ok (.iload_n 1, 1) := by decide +kernel
theorem dX0_moveToNeeded_60 : decode cX0_moveToNeeded 60 = .ok (.iastore, 1) := by decide +kernel
theorem dX0_moveToNeeded_61 : decode cX0_moveToNeeded 61 = .ok (.aload_n 0, 1) := by decide +kernel
theorem dX0_moveToNeeded_62 : decode cX0_moveToNeeded 62 = .ok (.dup, 1) := by decide +kernel
theorem dX0_moveToNeeded_63 : decode cX0_moveToNeeded 63 = .ok (.getfield 133, 3) := by decide +kernel
theorem dX0_moveToNeeded_66 : decode cX0_moveToNeeded 66 = .ok (.iconst 1, 1) := by decide +kernel
theorem dX0_moveToNeeded_67 : decode cX0_moveToNeeded 67 = .ok (.iadd, 1) := by decide +kernel
theorem dX0_moveToNeeded_68 : decode cX0_moveToNeeded 68 = .ok (.putfield 133, 3) := by decide +kernel
theorem dX0_moveToNeeded_71 : decode cX0_moveToNeeded 71 = .ok (.return_, 1) := by decide +kernel
theorem dX0_positionOf_0 : decode cX0_positionOf 0 = .ok (.iconst 0, 1) := by decide +kernel
theorem dX0_positionOf_1 : decode cX0_positionOf 1 = .ok (.istore_n 2, 1) := by decide +kernel
theorem dX0_positionOf_2 : decode cX0_positionOf 2 = .ok (.iload_n 2, 1) := by decide +kernel
theorem dX0_positionOf_3 : decode cX0_positionOf 3 = .ok (.bipush 8, 2) := by decide +kernel
theorem dX0_positionOf_5 : decode cX0_positionOf 5 = .ok (.if_icmp .ge 21, 3) := by decide +kernel
theorem dX0_positionOf_8 : decode cX0_positionOf 8 = .ok (.aload_n 0, 1) := by decide +kernel
theorem dX0_positionOf_9 : decode cX0_positionOf 9 = .ok (.getfield 16, 3) := by decide +kernel
theorem dX0_positionOf_12 : decode cX0_positionOf 12 = .ok (.iload_n 2, 1) := by decide +kernel
theorem dX0_positionOf_13 : decode cX0_positionOf 13 = .ok (.iaload, 1) := by decide +kernel
theorem dX0_positionOf_14 : decode cX0_positionOf 14 = .ok (.iload_n 1, 1) := by decide +kernel
theorem dX0_positionOf_15 : decode cX0_positionOf 15 = .ok (.if_icmp .ne 5, 3) := by decide +kernel
theorem dX0_positionOf_18 : decode cX0_positionOf 18 = .ok (.iload_n 2, 1) := by decide +kernel
theorem dX0_positionOf_19 : decode cX0_positionOf 19 = .ok (.ireturn, 1) := by decide +kernel
theorem dX0_positionOf_20 : decode cX0_positionOf 20 = .ok (.iinc 2 1, 3) := by decide +kernel
theorem dX0_positionOf_23 : decode cX0_positionOf 23 = .ok (.goto (-21), 3) := by decide +kernel
theorem dX0_positionOf_26 : decode cX0_positionOf 26 = .ok (.bipush 8, 2) := by decide +kernel
theorem dX0_positionOf_28 : decode cX0_positionOf 28 = .ok (.ireturn, 1) := by decide +kernel
theorem dX0_demandsThatCount_0 : decode cX0_demandsThatCount 0 = .ok (.iconst 1, 1) := by decide +kernel
theorem dX0_demandsThatCount_1 : decode cX0_demandsThatCount 1 = .ok (.aload_n 0, 1) := by decide +kernel
theorem dX0_demandsThatCount_2 : decode cX0_demandsThatCount 2 = .ok (.getfield 65, 3) := by decide +kernel
theorem dX0_demandsThatCount_5 : decode cX0_demandsThatCount 5 = .ok (.ishl, 1) := by decide +kernel
theorem dX0_demandsThatCount_6 : decode cX0_demandsThatCount 6 = .ok (.iconst 1, 1) := by decide +kernel
theorem dX0_demandsThatCount_7 : decode cX0_demandsThatCount 7 = .ok (.isub, 1) := by decide +kernel
theorem dX0_demandsThatCount_8 : decode cX0_demandsThatCount 8 = .ok (.aload_n 0, 1) := by decide +kernel
theorem dX0_demandsThatCount_9 : decode cX0_demandsThatCount 9 = .ok (.getfield 86, 3) := by decide +kernel
theorem dX0_demandsThatCount_12 : decode cX0_demandsThatCount 12 = .ok (.iconst (-1), 1) := by decide +kernel
theorem dX0_demandsThatCount_13 : decode cX0_demandsThatCount 13 = .ok (.ixor, 1) := by decide +kernel
theorem dX0_demandsThatCount_14 : decode cX0_demandsThatCount 14 = .ok (.iand, 1) := by decide +kernel
theorem dX0_demandsThatCount_15 : decode cX0_demandsThatCount 15 = .ok (.ireturn, 1) := by decide +kernel
theorem dX0_someRightGives_0 : decode cX0_someRightGives 0 = .ok (.aload_n 0, 1) := by decide +kernel
theorem dX0_someRightGives_1 : decode cX0_someRightGives 1 = .ok (.getfield 22, 3) := by decide +kernel
theorem dX0_someRightGives_4 : decode cX0_someRightGives 4 = .ok (.iload_n 1, 1) := by decide +kernel
theorem dX0_someRightGives_5 : decode cX0_someRightGives 5 = .ok (.invokestatic 48, 3) := by decide +kernel
theorem dX0_someRightGives_8 : decode cX0_someRightGives 8 = .ok (.ldc2_w 55, 3) := by decide +kernel
theorem dX0_someRightGives_11 : decode cX0_someRightGives 11 = .ok (.lxor, 1) := by decide +kernel
theorem dX0_someRightGives_12 : decode cX0_someRightGives 12 = .ok (.land, 1) := by decide +kernel
theorem dX0_someRightGives_13 : decode cX0_someRightGives 13 = .ok (.iload_n 1, 1) := by decide +kernel
theorem dX0_someRightGives_14 : decode cX0_someRightGives 14 = .ok (.iload_n 2, 1) := by decide +kernel
theorem dX0_someRightGives_15 : decode cX0_someRightGives 15 = .ok (.invokestatic 52, 3) := by decide +kernel
theorem dX0_someRightGives_18 : decode cX0_someRightGives 18 = .ok (.lor, 1) := by decide +kernel
theorem dX0_someRightGives_19 : decode cX0_someRightGives 19 = .ok (.lstore_n 3, 1) := by decide +kernel
theorem dX0_someRightGives_20 : decode cX0_someRightGives 20 = .ok (.aload_n 0, 1) := by decide +kernel
theorem dX0_someRightGives_21 : decode cX0_someRightGives 21 = .ok (.lload_n 3, 1) := by decide +kernel
theorem dX0_someRightGives_22 : decode cX0_someRightGives 22 = .ok (.aload_n 0, 1) := by decide +kernel
theorem dX0_someRightGives_23 : decode cX0_someRightGives 23 = .ok (.invokevirtual 95, 3) := by decide +kernel
theorem dX0_someRightGives_26 : decode cX0_someRightGives 26 = .ok (.iconst 0, 1) := by decide +kernel
theorem dX0_someRightGives_27 : decode cX0_someRightGives 27 = .ok (.invokevirtual 99, 3) := by decide +kernel
theorem dX0_someRightGives_30 : decode cX0_someRightGives 30 = .ok (.lconst 0, 1) := by decide +kernel
theorem dX0_someRightGives_31 : decode cX0_someRightGives 31 = .ok (.lcmp, 1) := by decide +kernel
theorem dX0_someRightGives_32 : decode cX0_someRightGives 32 = .ok (.ifCond .eq 7, 3) := by decide +kernel
theorem dX0_someRightGives_35 : decode cX0_someRightGives 35 = .ok (.iconst 1, 1) := by decide +kernel
theorem dX0_someRightGives_36 : decode cX0_someRightGives 36 = .ok (.goto 4, 3) := by decide +kernel
theorem dX0_someRightGives_39 : decode cX0_someRightGives 39 = .ok (.iconst 0, 1) := by decide +kernel
theorem dX0_someRightGives_40 : decode cX0_someRightGives 40 = .ok (.ireturn, 1) := by decide +kernel
theorem dX0_someRightKeeps_0 : decode cX0_someRightKeeps 0 = .ok (.aload_n 0, 1) := by decide +kernel
theorem dX0_someRightKeeps_1 : decode cX0_someRightKeeps 1 = .ok (.aload_n 0, 1) := by decide +kernel
theorem dX0_someRightKeeps_2 : decode cX0_someRightKeeps 2 = .ok (.getfield 22, 3) := by decide +kernel
theorem dX0_someRightKeeps_5 : decode cX0_someRightKeeps 5 = .ok (.iload_n 1, 1) := by decide +kernel
theorem dX0_someRightKeeps_6 : decode cX0_someRightKeeps 6 = .ok (.iconst 0, 1) := by decide +kernel
theorem dX0_someRightKeeps_7 : decode cX0_someRightKeeps 7 = .ok (.invokevirtual 99, 3) := by decide +kernel
theorem dX0_someRightKeeps_10 : decode cX0_someRightKeeps 10 = .ok (.lconst 0, 1) := by decide +kernel
theorem dX0_someRightKeeps_11 : decode cX0_someRightKeeps 11 = .ok (.lcmp, 1) := by decide +kernel
theorem dX0_someRightKeeps_12 : decode cX0_someRightKeeps 12 = .ok (.ifCond .eq 7, 3) := by decide +kernel
theorem dX0_someRightKeeps_15 : decode cX0_someRightKeeps 15 = .ok (.iconst 1, 1) := by decide +kernel
theorem dX0_someRightKeeps_16 : decode cX0_someRightKeeps 16 = .ok (.goto 4, 3) := by decide +kernel
theorem dX0_someRightKeeps_19 : decode cX0_someRightKeeps 19 = .ok (.iconst 0, 1) := by decide +kernel
theorem dX0_someRightKeeps_20 : decode cX0_someRightKeeps 20 = .ok (.ireturn, 1) := by decide +kernel
theorem dX0_firstWithin_0 : decode cX0_firstWithin 0 = .ok (.aload_n 0, 1) := by decide +kernel
theorem dX0_firstWithin_1 : decode cX0_firstWithin 1 = .ok (.lload_n 1, 1) := by decide +kernel
theorem dX0_firstWithin_2 : decode cX0_firstWithin 2 = .ok (.iload_n 3, 1) := by decide +kernel
theorem dX0_firstWithin_3 : decode cX0_firstWithin 3 = .ok (.invokevirtual 136, 3) := by decide +kernel
theorem dX0_firstWithin_6 : decode cX0_firstWithin 6 = .ok (.lstore 5, 2) := by decide +kernel
theorem dX0_firstWithin_8 : decode cX0_firstWithin 8 = .ok (.lload 5, 2) := by decide +kernel
theorem dX0_firstWithin_10 : decode cX0_firstWithin 10 = .ok (.lconst 0, 1) := by decide +kernel
theorem dX0_firstWithin_11 : decode cX0_firstWithin 11 = .ok (.lcmp, 1) := by decide +kernel
theorem dX0_firstWithin_12 : decode cX0_firstWithin 12 = .ok (.ifCond .ne 7, 3) := by decide +kernel
theorem dX0_firstWithin_15 : decode cX0_firstWithin 15 = .ok (.lconst 0, 1) := by decide +kernel
theorem dX0_firstWithin_16 : decode cX0_firstWithin 16 = .ok (.goto 12, 3) := by decide +kernel
theorem dX0_firstWithin_19 : decode cX0_firstWithin 19 = .ok (.aload_n 0, 1) := by decide +kernel
theorem dX0_firstWithin_20 : decode cX0_firstWithin 20 = .ok (.lload 5, 2) := by decide +kernel
theorem dX0_firstWithin_22 : decode cX0_firstWithin 22 = .ok (.iload_n 3, 1) := by decide +kernel
theorem dX0_firstWithin_23 : decode cX0_firstWithin 23 = .ok (.iload 4, 2) := by decide +kernel
theorem dX0_firstWithin_25 : decode cX0_firstWithin 25 = .ok (.invokevirtual 140, 3) := by decide +kernel
theorem dX0_firstWithin_28 : decode cX0_firstWithin 28 = .ok (.lreturn, 1) := by decide +kernel
theorem dX0_firstOf_0 : decode cX0_firstOf 0 = .ok (.iload 4, 2) := by decide +kernel
theorem dX0_firstOf_2 : decode cX0_firstOf 2 = .ok (.ifCond .lt 10, 3) := by decide +kernel
theorem dX0_firstOf_5 : decode cX0_firstOf 5 = .ok (.iload 4, 2) := by decide +kernel
theorem dX0_firstOf_7 : decode cX0_firstOf 7 = .ok (.bipush 8, 2) := by decide +kernel
theorem dX0_firstOf_9 : decode cX0_firstOf 9 = .ok (.if_icmp .lt 5, 3) := by decide +kernel
theorem dX0_firstOf_12 : decode cX0_firstOf 12 = .ok (.lload_n 1, 1) := by decide +kernel
theorem dX0_firstOf_13 : decode cX0_firstOf 13 = .ok (.lreturn, 1) := by decide +kernel
theorem dX0_firstOf_14 : decode cX0_firstOf 14 = .ok (.aload_n 0, 1) := by decide +kernel
theorem dX0_firstOf_15 : decode cX0_firstOf 15 = .ok (.getfield 16, 3) := by decide +kernel
theorem dX0_firstOf_18 : decode cX0_firstOf 18 = .ok (.iload 4, 2) := by decide +kernel
theorem dX0_firstOf_20 : decode cX0_firstOf 20 = .ok (.iaload, 1) := by decide +kernel
theorem dX0_firstOf_21 : decode cX0_firstOf 21 = .ok (.istore 5, 2) := by decide +kernel
theorem dX0_firstOf_23 : decode cX0_firstOf 23 = .ok (.iload 4, 2) := by decide +kernel
theorem dX0_firstOf_25 : decode cX0_firstOf 25 = .ok (.aload_n 0, 1) := by decide +kernel
theorem dX0_firstOf_26 : decode cX0_firstOf 26 = .ok (.getfield 133, 3) := by decide +kernel
theorem dX0_firstOf_29 : decode cX0_firstOf 29 = .ok (.if_icmp .ge 7, 3) := by decide +kernel
theorem dX0_firstOf_32 : decode cX0_firstOf 32 = .ok (.iconst 1, 1) := by decide +kernel
theorem dX0_firstOf_33 : decode cX0_firstOf 33 = .ok (.goto 4, 3) := by decide +kernel
theorem dX0_firstOf_36 : decode cX0_firstOf 36 = .ok (.iconst 0, 1) := by decide +kernel
theorem dX0_firstOf_37 : decode cX0_firstOf 37 = .ok (.istore 6, 2) := by decide +kernel
theorem dX0_firstOf_39 : decode cX0_firstOf 39 = .ok (.lload_n 1, 1) := by decide +kernel
theorem dX0_firstOf_40 : decode cX0_firstOf 40 = .ok (.lstore 7, 2) := by decide +kernel
theorem dX0_firstOf_42 : decode cX0_firstOf 42 = .ok (.iconst 0, 1) := by decide +kernel
theorem dX0_firstOf_43 : decode cX0_firstOf 43 = .ok (.istore 9, 2) := by decide +kernel
theorem dX0_firstOf_45 : decode cX0_firstOf 45 = .ok (.iload 9, 2) := by decide +kernel
theorem dX0_firstOf_47 : decode cX0_firstOf 47 = .ok (.bipush 8, 2) := by decide +kernel
theorem dX0_firstOf_49 : decode cX0_firstOf 49 = .ok (.if_icmp .ge 78, 3) := by decide +kernel
theorem dX0_firstOf_52 : decode cX0_firstOf 52 = .ok (.lload 7, 2) := by decide +kernel
theorem dX0_firstOf_54 : decode cX0_firstOf 54 = .ok (.aload_n 0, 1) := by decide +kernel
theorem dX0_firstOf_55 : decode cX0_firstOf 55 = .ok (.iload 9, 2) := by decide +kernel
theorem dX0_firstOf_57 : decode cX0_firstOf 57 = .ok (.iload 5, 2) := by decide +kernel
theorem dX0_firstOf_59 : decode cX0_firstOf 59 = .ok (.iload 6, 2) := by decide +kernel
theorem dX0_firstOf_61 : decode cX0_firstOf 61 = .ok (.invokevirtual 143, 3) := by decide +kernel
theorem dX0_firstOf_64 : decode cX0_firstOf 64 = .ok (.land, 1) := by decide +kernel
theorem dX0_firstOf_65 : decode cX0_firstOf 65 = .ok (.lstore 10, 2) := by decide +kernel
theorem dX0_firstOf_67 : decode cX0_firstOf 67 = .ok (.lload 10, 2) := by decide +kernel
theorem dX0_firstOf_69 : decode cX0_firstOf 69 = .ok (.lconst 0, 1) := by decide +kernel
theorem dX0_firstOf_70 : decode cX0_firstOf 70 = .ok (.lcmp, 1) := by decide +kernel
theorem dX0_firstOf_71 : decode cX0_firstOf 71 = .ok (.ifCond .eq 50, 3) := by decide +kernel
theorem dX0_firstOf_74 : decode cX0_firstOf 74 = .ok (.aload_n 0, 1) := by decide +kernel
theorem dX0_firstOf_75 : decode cX0_firstOf 75 = .ok (.lload 7, 2) := by decide +kernel
theorem dX0_firstOf_77 : decode cX0_firstOf 77 = .ok (.iload 5, 2) := by decide +kernel
theorem dX0_firstOf_79 : decode cX0_firstOf 79 = .ok (.invokestatic 48, 3) := by decide +kernel
theorem dX0_firstOf_82 : decode cX0_firstOf 82 = .ok (.ldc2_w 55, 3) := by decide +kernel
theorem dX0_firstOf_85 : decode cX0_firstOf 85 = .ok (.lxor, 1) := by decide +kernel
theorem dX0_firstOf_86 : decode cX0_firstOf 86 = .ok (.land, 1) := by decide +kernel
theorem dX0_firstOf_87 : decode cX0_firstOf 87 = .ok (.lload 10, 2) := by decide +kernel
theorem dX0_firstOf_89 : decode cX0_firstOf 89 = .ok (.lor, 1) := by decide +kernel
theorem dX0_firstOf_90 : decode cX0_firstOf 90 = .ok (.iload_n 3, 1) := by decide +kernel
theorem dX0_firstOf_91 : decode cX0_firstOf 91 = .ok (.iload 4, 2) := by decide +kernel
theorem dX0_firstOf_93 : decode cX0_firstOf 93 = .ok (.iconst 1, 1) := by decide +kernel
theorem dX0_firstOf_94 : decode cX0_firstOf 94 = .ok (.iadd, 1) := by decide +kernel
theorem dX0_firstOf_95 : decode cX0_firstOf 95 = .ok (.invokevirtual 99, 3) := by decide +kernel
theorem dX0_firstOf_98 : decode cX0_firstOf 98 = .ok (.lstore 12, 2) := by decide +kernel
theorem dX0_firstOf_100 : decode cX0_firstOf 100 = .ok (.lload 12, 2) := by decide +kernel
theorem dX0_firstOf_102 : decode cX0_firstOf 102 = .ok (.lconst 0, 1) := by decide +kernel
theorem dX0_firstOf_103 : decode cX0_firstOf 103 = .ok (.lcmp, 1) := by decide +kernel
theorem dX0_firstOf_104 : decode cX0_firstOf 104 = .ok (.ifCond .eq 6, 3) := by decide +kernel
theorem dX0_firstOf_107 : decode cX0_firstOf 107 = .ok (.lload 12, 2) := by decide +kernel
theorem dX0_firstOf_109 : decode cX0_firstOf 109 = .ok (.lreturn, 1) := by decide +kernel
theorem dX0_firstOf_110 : decode cX0_firstOf 110 = .ok (.lload 7, 2) := by decide +kernel
theorem dX0_firstOf_112 : decode cX0_firstOf 112 = .ok (.lload 10, 2) := by decide +kernel
theorem dX0_firstOf_114 : decode cX0_firstOf 114 = .ok (.ldc2_w 55, 3) := by decide +kernel
theorem dX0_firstOf_117 : decode cX0_firstOf 117 = .ok (.lxor, 1) := by decide +kernel
theorem dX0_firstOf_118 : decode cX0_firstOf 118 = .ok (.land, 1) := by decide +kernel
theorem dX0_firstOf_119 : decode cX0_firstOf 119 = .ok (.lstore 7, 2) := by decide +kernel
theorem dX0_firstOf_121 : decode cX0_firstOf 121 = .ok (.iinc 9 1, 3) := by decide +kernel
theorem dX0_firstOf_124 : decode cX0_firstOf 124 = .ok (.goto (-79), 3) := by decide +kernel
theorem dX0_firstOf_127 : decode cX0_firstOf 127 = .ok (.lconst 0, 1) := by decide +kernel
theorem dX0_firstOf_128 : decode cX0_firstOf 128 = .ok (.lreturn, 1) := by decide +kernel
theorem dX0_placeAt_0 : decode cX0_placeAt 0 = .ok (.iload_n 1, 1) := by decide +kernel
theorem dX0_placeAt_1 : decode cX0_placeAt 1 = .ok (.ifCond .ne 13, 3) := by decide +kernel
theorem dX0_placeAt_4 : decode cX0_placeAt 4 = .ok (.aload_n 0, 1) := by decide +kernel
theorem dX0_placeAt_5 : decode cX0_placeAt 5 = .ok (.getfield 92, 3) := by decide +kernel
theorem dX0_placeAt_8 : decode cX0_placeAt 8 = .ok (.iload_n 2, 1) := by decide +kernel
theorem dX0_placeAt_9 : decode cX0_placeAt 9 = .ok (.invokestatic 48, 3) := by decide +kernel
theorem dX0_placeAt_12 : decode cX0_placeAt 12 = .ok (.land, 1) := by decide +kernel
theorem dX0_placeAt_13 : decode cX0_placeAt 13 = .ok (.lreturn, 1) := by decide +kernel
theorem dX0_placeAt_14 : decode cX0_placeAt 14 = .ok (.iload_n 3, 1) := by decide +kernel
theorem dX0_placeAt_15 : decode cX0_placeAt 15 = .ok (.ifCond .eq 12, 3) := by decide +kernel
theorem dX0_placeAt_18 : decode cX0_placeAt 18 = .ok (.iload_n 2, 1) := by decide +kernel
theorem dX0_placeAt_19 : decode cX0_placeAt 19 = .ok (.bipush 6, 2) := by decide +kernel
theorem dX0_placeAt_21 : decode cX0_placeAt 21 = .ok (.iload_n 1, 1) := by decide +kernel
theorem dX0_placeAt_22 : decode cX0_placeAt 22 = .ok (.isub, 1) := by decide +kernel
theorem dX0_placeAt_23 : decode cX0_placeAt 23 = .ok (.invokestatic 52, 3) := by decide +kernel
theorem dX0_placeAt_26 : decode cX0_placeAt 26 = .ok (.lreturn, 1) := by decide +kernel
theorem dX0_placeAt_27 : decode cX0_placeAt 27 = .ok (.iload_n 1, 1) := by decide +kernel
theorem dX0_placeAt_28 : decode cX0_placeAt 28 = .ok (.iconst 1, 1) := by decide +kernel
theorem dX0_placeAt_29 : decode cX0_placeAt 29 = .ok (.if_icmp .ne 10, 3) := by decide +kernel
theorem dX0_placeAt_32 : decode cX0_placeAt 32 = .ok (.iload_n 2, 1) := by decide +kernel
theorem dX0_placeAt_33 : decode cX0_placeAt 33 = .ok (.invokestatic 127, 3) := by decide +kernel
theorem dX0_placeAt_36 : decode cX0_placeAt 36 = .ok (.goto 11, 3) := by decide +kernel
theorem dX0_placeAt_39 : decode cX0_placeAt 39 = .ok (.iload_n 2, 1) := by decide +kernel
theorem dX0_placeAt_40 : decode cX0_placeAt 40 = .ok (.bipush 7, 2) := by decide +kernel
theorem dX0_placeAt_42 : decode cX0_placeAt 42 = .ok (.iload_n 1, 1) := by decide +kernel
theorem dX0_placeAt_43 : decode cX0_placeAt 43 = .ok (.isub, 1) := by decide +kernel
theorem dX0_placeAt_44 : decode cX0_placeAt 44 = .ok (.invokestatic 52, 3) := by decide +kernel
theorem dX0_placeAt_47 : decode cX0_placeAt 47 = .ok (.lreturn, 1) := by decide +kernel
theorem dX0_narrow_0 : decode cX0_narrow 0 = .ok (.lload_n 1, 1) := by decide +kernel
theorem dX0_narrow_1 : decode cX0_narrow 1 = .ok (.lstore 4, 2) := by decide +kernel
theorem dX0_narrow_3 : decode cX0_narrow 3 = .ok (.iconst 0, 1) := by decide +kernel
theorem dX0_narrow_4 : decode cX0_narrow 4 = .ok (.istore 6, 2) := by decide +kernel
theorem dX0_narrow_6 : decode cX0_narrow 6 = .ok (.iload 6, 2) := by decide +kernel
theorem dX0_narrow_8 : decode cX0_narrow 8 = .ok (.bipush 64, 2) := by decide +kernel
theorem dX0_narrow_10 : decode cX0_narrow 10 = .ok (.if_icmp .ge 111, 3) := by decide +kernel
theorem dX0_narrow_13 : decode cX0_narrow 13 = .ok (.lload 4, 2) := by decide +kernel
theorem dX0_narrow_15 : decode cX0_narrow 15 = .ok (.lstore 7, 2) := by decide +kernel
theorem dX0_narrow_17 : decode cX0_narrow 17 = .ok (.iconst 0, 1) := by decide +kernel
theorem dX0_narrow_18 : decode cX0_narrow 18 = .ok (.istore 9, 2) := by decide +kernel
theorem dX0_narrow_20 : decode cX0_narrow 20 = .ok (.iload 9, 2) := by decide +kernel
theorem dX0_narrow_22 : decode cX0_narrow 22 = .ok (.aload_n 0, 1) := by decide +kernel
theorem dX0_narrow_23 : decode cX0_narrow 23 = .ok (.getfield 34, 3) := by decide +kernel
theorem dX0_narrow_26 : decode cX0_narrow 26 = .ok (.if_icmp .ge 30, 3) := by decide +kernel
theorem dX0_narrow_29 : decode cX0_narrow 29 = .ok (.lload 4, 2) := by decide +kernel
theorem dX0_narrow_31 : decode cX0_narrow 31 = .ok (.lconst 0, 1) := by decide +kernel
theorem dX0_narrow_32 : decode cX0_narrow 32 = .ok (.lcmp, 1) := by decide +kernel
theorem dX0_narrow_33 : decode cX0_narrow 33 = .ok (.ifCond .eq 23, 3) := by decide +kernel
theorem dX0_narrow_36 : decode cX0_narrow 36 = .ok (.lload 4, 2) := by decide +kernel
theorem dX0_narrow_38 : decode cX0_narrow 38 = .ok (.aload_n 0, 1) := by decide +kernel
theorem dX0_narrow_39 : decode cX0_narrow 39 = .ok (.getfield 9, 3) := by decide +kernel
theorem dX0_narrow_42 : decode cX0_narrow 42 = .ok (.iload 9, 2) := by decide +kernel
theorem dX0_narrow_44 : decode cX0_narrow 44 = .ok (.laload, 1) := by decide +kernel
theorem dX0_narrow_45 : decode cX0_narrow 45 = .ok (.invokestatic 147, 3) := by decide +kernel
theorem dX0_narrow_48 : decode cX0_narrow 48 = .ok (.lstore 4, 2) := by decide +kernel
theorem dX0_narrow_50 : decode cX0_narrow 50 = .ok (.iinc 9 1, 3) := by decide +kernel
theorem dX0_narrow_53 : decode cX0_narrow 53 = .ok (.goto (-33), 3) := by decide +kernel
theorem dX0_narrow_56 : decode cX0_narrow 56 = .ok (.iconst 0, 1) := by decide +kernel
theorem dX0_narrow_57 : decode cX0_narrow 57 = .ok (.istore 9, 2) := by decide +kernel
theorem dX0_narrow_59 : decode cX0_narrow 59 = .ok (.iload 9, 2) := by decide +kernel
theorem dX0_narrow_61 : decode cX0_narrow 61 = .ok (.aload_n 0, 1) := by decide +kernel
theorem dX0_narrow_62 : decode cX0_narrow 62 = .ok (.getfield 65, 3) := by decide +kernel
theorem dX0_narrow_65 : decode cX0_narrow 65 = .ok (.if_icmp .ge 39, 3) := by decide +kernel
theorem dX0_narrow_68 : decode cX0_narrow 68 = .ok (.lload 4, 2) := by decide +kernel
theorem dX0_narrow_70 : decode cX0_narrow 70 = .ok (.lconst 0, 1) := by decide +kernel
theorem dX0_narrow_71 : decode cX0_narrow 71 = .ok (.lcmp, 1) := by decide +kernel
theorem dX0_narrow_72 : decode cX0_narrow 72 = .ok (.ifCond .eq 32, 3) := by decide +kernel
theorem dX0_narrow_75 : decode cX0_narrow 75 = .ok (.iload_n 3, 1) := by decide +kernel
theorem dX0_narrow_76 : decode cX0_narrow 76 = .ok (.iconst 1, 1) := by decide +kernel
theorem dX0_narrow_77 : decode cX0_narrow 77 = .ok (.iload 9, 2) := by decide +kernel
theorem dX0_narrow_79 : decode cX0_narrow 79 = .ok (.ishl, 1) := by decide +kernel
theorem dX0_narrow_80 : decode cX0_narrow 80 = .ok (.iand, 1) := by decide +kernel
theorem dX0_narrow_81 : decode cX0_narrow 81 = .ok (.ifCond .eq 17, 3) := by decide +kernel
theorem dX0_narrow_84 : decode cX0_narrow 84 = .ok (.lload 4, 2) := by decide +kernel
theorem dX0_narrow_86 : decode cX0_narrow 86 = .ok (.aload_n 0, 1) := by decide +kernel
theorem dX0_narrow_87 : decode cX0_narrow 87 = .ok (.getfield 13, 3) := by decide +kernel
theorem dX0_narrow_90 : decode cX0_narrow 90 = .ok (.iload 9, 2) := by decide +kernel
theorem dX0_narrow_92 : decode cX0_narrow 92 = .ok (.laload, 1) := by decide +kernel
theorem dX0_narrow_93 : decode cX0_narrow 93 = .ok (.invokestatic 147, 3) := by decide +kernel
theorem dX0_narrow_96 : decode cX0_narrow 96 = .ok (.lstore 4, 2) := by decide +kernel
theorem dX0_narrow_98 : decode cX0_narrow 98 = .ok (.iinc 9 1, 3) := by decide +kernel
theorem dX0_narrow_101 : decode cX0_narrow 101 = .ok (.goto (-42), 3) := by decide +kernel
theorem dX0_narrow_104 : decode cX0_narrow 104 = .ok (.lload 4, 2) := by decide +kernel
theorem dX0_narrow_106 : decode cX0_narrow 106 = .ok (.lload 7, 2) := by decide +kernel
theorem dX0_narrow_108 : decode cX0_narrow 108 = .ok (.lcmp, 1) := by decide +kernel
theorem dX0_narrow_109 : decode cX0_narrow 109 = .ok (.ifCond .ne 6, 3) := by decide +kernel
theorem dX0_narrow_112 : decode cX0_narrow 112 = .ok (.lload 4, 2) := by decide +kernel
theorem dX0_narrow_114 : decode cX0_narrow 114 = .ok (.lreturn, 1) := by decide +kernel
theorem dX0_narrow_115 : decode cX0_narrow 115 = .ok (.iinc 6 1, 3) := by decide +kernel
theorem dX0_narrow_118 : decode cX0_narrow 118 = .ok (.goto (-112), 3) := by decide +kernel
theorem dX0_narrow_121 : decode cX0_narrow 121 = .ok (.lload 4, 2) := by decide +kernel
theorem dX0_narrow_123 : decode cX0_narrow 123 = .ok (.lreturn, 1) := by decide +kernel
theorem dX0_narrowByRule_0 : decode cX0_narrowByRule 0 = .ok (.lload_n 0, 1) := by decide +kernel
theorem dX0_narrowByRule_1 : decode cX0_narrowByRule 1 = .ok (.lload_n 2, 1) := by decide +kernel
theorem dX0_narrowByRule_2 : decode cX0_narrowByRule 2 = .ok (.land, 1) := by decide +kernel
theorem dX0_narrowByRule_3 : decode cX0_narrowByRule 3 = .ok (.lstore 4, 2) := by decide +kernel
theorem dX0_narrowByRule_5 : decode cX0_narrowByRule 5 = .ok (.lload 4, 2) := by decide +kernel
theorem dX0_narrowByRule_7 : decode cX0_narrowByRule 7 = .ok (.lconst 0, 1) := by decide +kernel
theorem dX0_narrowByRule_8 : decode cX0_narrowByRule 8 = .ok (.lcmp, 1) := by decide +kernel
theorem dX0_narrowByRule_9 : decode cX0_narrowByRule 9 = .ok (.ifCond .ne 5, 3) := by decide +kernel
theorem dX0_narrowByRule_12 : decode cX0_narrowByRule 12 = .ok (.lconst 0, 1) := by decide +kernel
theorem dX0_narrowByRule_13 : decode cX0_narrowByRule 13 = .ok (.lreturn, 1) := by decide +kernel
theorem dX0_narrowByRule_14 : decode cX0_narrowByRule 14 = .ok (.lload 4, 2) := by decide +kernel
theorem dX0_narrowByRule_16 : decode cX0_narrowByRule 16 = .ok (.lload 4, 2) := by decide +kernel
theorem dX0_narrowByRule_18 : decode cX0_narrowByRule 18 = .ok (.lneg, 1) := by decide +kernel
theorem dX0_narrowByRule_19 : decode cX0_narrowByRule 19 = .ok (.land, 1) := by decide +kernel
theorem dX0_narrowByRule_20 : decode cX0_narrowByRule 20 = .ok (.lconst 1, 1) := by decide +kernel
theorem dX0_narrowByRule_21 : decode cX0_narrowByRule 21 = .ok (.lsub, 1) := by decide +kernel
theorem dX0_narrowByRule_22 : decode cX0_narrowByRule 22 = .ok (.invokestatic 151, 3) := by decide +kernel
theorem dX0_narrowByRule_25 : decode cX0_narrowByRule 25 = .ok (.istore 6, 2) := by decide +kernel
theorem dX0_narrowByRule_27 : decode cX0_narrowByRule 27 = .ok (.iload 6, 2) := by decide +kernel
theorem dX0_narrowByRule_29 : decode cX0_narrowByRule 29 = .ok (.bipush 8, 2) := by decide +kernel
theorem dX0_narrowByRule_31 : decode cX0_narrowByRule 31 = .ok (.idiv, 1) := by decide +kernel
theorem dX0_narrowByRule_32 : decode cX0_narrowByRule 32 = .ok (.invokestatic 48, 3) := by decide +kernel
theorem dX0_narrowByRule_35 : decode cX0_narrowByRule 35 = .ok (.lstore 7, 2) := by decide +kernel
theorem dX0_narrowByRule_37 : decode cX0_narrowByRule 37 = .ok (.lload 4, 2) := by decide +kernel
theorem dX0_narrowByRule_39 : decode cX0_narrowByRule 39 = .ok (.lload 7, 2) := by decide +kernel
theorem dX0_narrowByRule_41 : decode cX0_narrowByRule 41 = .ok (.ldc2_w 55, 3) := by decide +kernel
theorem dX0_narrowByRule_44 : decode cX0_narrowByRule 44 = .ok (.lxor, 1) := by decide +kernel
theorem dX0_narrowByRule_45 : decode cX0_narrowByRule 45 = .ok (.land, 1) := by decide +kernel
theorem dX0_narrowByRule_46 : decode cX0_narrowByRule 46 = .ok (.lconst 0, 1) := by decide +kernel
theorem dX0_narrowByRule_47 : decode cX0_narrowByRule 47 = .ok (.lcmp, 1) := by decide +kernel
theorem dX0_narrowByRule_48 : decode cX0_narrowByRule 48 = .ok (.ifCond .ne 7, 3) := by decide +kernel
theorem dX0_narrowByRule_51 : decode cX0_narrowByRule 51 = .ok (.iconst 1, 1) := by decide +kernel
theorem dX0_narrowByRule_52 : decode cX0_narrowByRule 52 = .ok (.goto 4, 3) := by decide +kernel
theorem dX0_narrowByRule_55 : decode cX0_narrowByRule 55 = .ok (.iconst 0, 1) := by decide +kernel
theorem dX0_narrowByRule_56 : decode cX0_narrowByRule 56 = .ok (.istore 9, 2) := by decide +kernel
theorem dX0_narrowByRule_58 : decode cX0_narrowByRule 58 = .ok (.iload 9, 2) := by decide +kernel
theorem dX0_narrowByRule_60 : decode cX0_narrowByRule 60 = .ok (.ifCond .eq 17, 3) := by decide +kernel
theorem dX0_narrowByRule_63 : decode cX0_narrowByRule 63 = .ok (.lload_n 0, 1) := by decide +kernel
theorem dX0_narrowByRule_64 : decode cX0_narrowByRule 64 = .ok (.lload 7, 2) := by decide +kernel
theorem dX0_narrowByRule_66 : decode cX0_narrowByRule 66 = .ok (.ldc2_w 55, 3) := by decide +kernel
theorem dX0_narrowByRule_69 : decode cX0_narrowByRule 69 = .ok (.lxor, 1) := by decide +kernel
theorem dX0_narrowByRule_70 : decode cX0_narrowByRule 70 = .ok (.land, 1) := by decide +kernel
theorem dX0_narrowByRule_71 : decode cX0_narrowByRule 71 = .ok (.lload 4, 2) := by decide +kernel
theorem dX0_narrowByRule_73 : decode cX0_narrowByRule 73 = .ok (.lor, 1) := by decide +kernel
theorem dX0_narrowByRule_74 : decode cX0_narrowByRule 74 = .ok (.goto 4, 3) := by decide +kernel
theorem dX0_narrowByRule_77 : decode cX0_narrowByRule 77 = .ok (.lload_n 0, 1) := by decide +kernel
theorem dX0_narrowByRule_78 : decode cX0_narrowByRule 78 = .ok (.lreturn, 1) := by decide +kernel
theorem dJ6_bitCount_0 : decode cJ6_bitCount 0 = .ok (.iload_n 0, 1) := by decide +kernel
theorem dJ6_bitCount_1 : decode cJ6_bitCount 1 = .ok (.iload_n 0, 1) := by decide +kernel
theorem dJ6_bitCount_2 : decode cJ6_bitCount 2 = .ok (.iconst 1, 1) := by decide +kernel
theorem dJ6_bitCount_3 : decode cJ6_bitCount 3 = .ok (.iushr, 1) := by decide +kernel
theorem dJ6_bitCount_4 : decode cJ6_bitCount 4 = .ok (.ldc_w 265, 3) := by decide +kernel
theorem dJ6_bitCount_7 : decode cJ6_bitCount 7 = .ok (.iand, 1) := by decide +kernel
theorem dJ6_bitCount_8 : decode cJ6_bitCount 8 = .ok (.isub, 1) := by decide +kernel
theorem dJ6_bitCount_9 : decode cJ6_bitCount 9 = .ok (.istore_n 0, 1) := by decide +kernel
theorem dJ6_bitCount_10 : decode cJ6_bitCount 10 = .ok (.iload_n 0, 1) := by decide +kernel
theorem dJ6_bitCount_11 : decode cJ6_bitCount 11 = .ok (.ldc_w 266, 3) := by decide +kernel
theorem dJ6_bitCount_14 : decode cJ6_bitCount 14 = .ok (.iand, 1) := by decide +kernel
theorem dJ6_bitCount_15 : decode cJ6_bitCount 15 = .ok (.iload_n 0, 1) := by decide +kernel
theorem dJ6_bitCount_16 : decode cJ6_bitCount 16 = .ok (.iconst 2, 1) := by decide +kernel
theorem dJ6_bitCount_17 : decode cJ6_bitCount 17 = .ok (.iushr, 1) := by decide +kernel
theorem dJ6_bitCount_18 : decode cJ6_bitCount 18 = .ok (.ldc_w 266, 3) := by decide +kernel
theorem dJ6_bitCount_21 : decode cJ6_bitCount 21 = .ok (.iand, 1) := by decide +kernel
theorem dJ6_bitCount_22 : decode cJ6_bitCount 22 = .ok (.iadd, 1) := by decide +kernel
theorem dJ6_bitCount_23 : decode cJ6_bitCount 23 = .ok (.istore_n 0, 1) := by decide +kernel
theorem dJ6_bitCount_24 : decode cJ6_bitCount 24 = .ok (.iload_n 0, 1) := by decide +kernel
theorem dJ6_bitCount_25 : decode cJ6_bitCount 25 = .ok (.iload_n 0, 1) := by decide +kernel
theorem dJ6_bitCount_26 : decode cJ6_bitCount 26 = .ok (.iconst 4, 1) := by decide +kernel
theorem dJ6_bitCount_27 : decode cJ6_bitCount 27 = .ok (.iushr, 1) := by decide +kernel
theorem dJ6_bitCount_28 : decode cJ6_bitCount 28 = .ok (.iadd, 1) := by decide +kernel
theorem dJ6_bitCount_29 : decode cJ6_bitCount 29 = .ok (.ldc_w 267, 3) := by decide +kernel
theorem dJ6_bitCount_32 : decode cJ6_bitCount 32 = .ok (.iand, 1) := by decide +kernel
theorem dJ6_bitCount_33 : decode cJ6_bitCount 33 = .ok (.istore_n 0, 1) := by decide +kernel
theorem dJ6_bitCount_34 : decode cJ6_bitCount 34 = .ok (.iload_n 0, 1) := by decide +kernel
theorem dJ6_bitCount_35 : decode cJ6_bitCount 35 = .ok (.iload_n 0, 1) := by decide +kernel
theorem dJ6_bitCount_36 : decode cJ6_bitCount 36 = .ok (.bipush 8, 2) := by decide +kernel
theorem dJ6_bitCount_38 : decode cJ6_bitCount 38 = .ok (.iushr, 1) := by decide +kernel
theorem dJ6_bitCount_39 : decode cJ6_bitCount 39 = .ok (.iadd, 1) := by decide +kernel
theorem dJ6_bitCount_40 : decode cJ6_bitCount 40 = .ok (.istore_n 0, 1) := by decide +kernel
theorem dJ6_bitCount_41 : decode cJ6_bitCount 41 = .ok (.iload_n 0, 1) := by decide +kernel
theorem dJ6_bitCount_42 : decode cJ6_bitCount 42 = .ok (.iload_n 0, 1) := by decide +kernel
theorem dJ6_bitCount_43 : decode cJ6_bitCount 43 = .ok (.bipush 16, 2) := by decide +kernel
theorem dJ6_bitCount_45 : decode cJ6_bitCount 45 = .ok (.iushr, 1) := by decide +kernel
theorem dJ6_bitCount_46 : decode cJ6_bitCount 46 = .ok (.iadd, 1) := by decide +kernel
theorem dJ6_bitCount_47 : decode cJ6_bitCount 47 = .ok (.istore_n 0, 1) := by decide +kernel
theorem dJ6_bitCount_48 : decode cJ6_bitCount 48 = .ok (.iload_n 0, 1) := by decide +kernel
theorem dJ6_bitCount_49 : decode cJ6_bitCount 49 = .ok (.bipush 63, 2) := by decide +kernel
theorem dJ6_bitCount_51 : decode cJ6_bitCount 51 = .ok (.iand, 1) := by decide +kernel
theorem dJ6_bitCount_52 : decode cJ6_bitCount 52 = .ok (.ireturn, 1) := by decide +kernel
theorem dJ13_bitCount_0 : decode cJ13_bitCount 0 = .ok (.lload_n 0, 1) := by decide +kernel
theorem dJ13_bitCount_1 : decode cJ13_bitCount 1 = .ok (.lload_n 0, 1) := by decide +kernel
theorem dJ13_bitCount_2 : decode cJ13_bitCount 2 = .ok (.iconst 1, 1) := by decide +kernel
theorem dJ13_bitCount_3 : decode cJ13_bitCount 3 = .ok (.lushr, 1) := by decide +kernel
theorem dJ13_bitCount_4 : decode cJ13_bitCount 4 = .ok (.ldc2_w 314, 3) := by decide +kernel
theorem dJ13_bitCount_7 : decode cJ13_bitCount 7 = .ok (.land, 1) := by decide +kernel
theorem dJ13_bitCount_8 : decode cJ13_bitCount 8 = .ok (.lsub, 1) := by decide +kernel
theorem dJ13_bitCount_9 : decode cJ13_bitCount 9 = .ok (.lstore_n 0, 1) := by decide +kernel
theorem dJ13_bitCount_10 : decode cJ13_bitCount 10 = .ok (.lload_n 0, 1) := by decide +kernel
theorem dJ13_bitCount_11 : decode cJ13_bitCount 11 = .ok (.ldc2_w 316, 3) := by decide +kernel
theorem dJ13_bitCount_14 : decode cJ13_bitCount 14 = .ok (.land, 1) := by decide +kernel
theorem dJ13_bitCount_15 : decode cJ13_bitCount 15 = .ok (.lload_n 0, 1) := by decide +kernel
theorem dJ13_bitCount_16 : decode cJ13_bitCount 16 = .ok (.iconst 2, 1) := by decide +kernel
theorem dJ13_bitCount_17 : decode cJ13_bitCount 17 = .ok (.lushr, 1) := by decide +kernel
theorem dJ13_bitCount_18 : decode cJ13_bitCount 18 = .ok (.ldc2_w 316, 3) := by decide +kernel
theorem dJ13_bitCount_21 : decode cJ13_bitCount 21 = .ok (.land, 1) := by decide +kernel
theorem dJ13_bitCount_22 : decode cJ13_bitCount 22 = .ok (.ladd, 1) := by decide +kernel
theorem dJ13_bitCount_23 : decode cJ13_bitCount 23 = .ok (.lstore_n 0, 1) := by decide +kernel
theorem dJ13_bitCount_24 : decode cJ13_bitCount 24 = .ok (.lload_n 0, 1) := by decide +kernel
theorem dJ13_bitCount_25 : decode cJ13_bitCount 25 = .ok (.lload_n 0, 1) := by decide +kernel
theorem dJ13_bitCount_26 : decode cJ13_bitCount 26 = .ok (.iconst 4, 1) := by decide +kernel
theorem dJ13_bitCount_27 : decode cJ13_bitCount 27 = .ok (.lushr, 1) := by decide +kernel
theorem dJ13_bitCount_28 : decode cJ13_bitCount 28 = .ok (.ladd, 1) := by decide +kernel
theorem dJ13_bitCount_29 : decode cJ13_bitCount 29 = .ok (.ldc2_w 318, 3) := by decide +kernel
theorem dJ13_bitCount_32 : decode cJ13_bitCount 32 = .ok (.land, 1) := by decide +kernel
theorem dJ13_bitCount_33 : decode cJ13_bitCount 33 = .ok (.lstore_n 0, 1) := by decide +kernel
theorem dJ13_bitCount_34 : decode cJ13_bitCount 34 = .ok (.lload_n 0, 1) := by decide +kernel
theorem dJ13_bitCount_35 : decode cJ13_bitCount 35 = .ok (.lload_n 0, 1) := by decide +kernel
theorem dJ13_bitCount_36 : decode cJ13_bitCount 36 = .ok (.bipush 8, 2) := by decide +kernel
theorem dJ13_bitCount_38 : decode cJ13_bitCount 38 = .ok (.lushr, 1) := by decide +kernel
theorem dJ13_bitCount_39 : decode cJ13_bitCount 39 = .ok (.ladd, 1) := by decide +kernel
theorem dJ13_bitCount_40 : decode cJ13_bitCount 40 = .ok (.lstore_n 0, 1) := by decide +kernel
theorem dJ13_bitCount_41 : decode cJ13_bitCount 41 = .ok (.lload_n 0, 1) := by decide +kernel
theorem dJ13_bitCount_42 : decode cJ13_bitCount 42 = .ok (.lload_n 0, 1) := by decide +kernel
theorem dJ13_bitCount_43 : decode cJ13_bitCount 43 = .ok (.bipush 16, 2) := by decide +kernel
theorem dJ13_bitCount_45 : decode cJ13_bitCount 45 = .ok (.lushr, 1) := by decide +kernel
theorem dJ13_bitCount_46 : decode cJ13_bitCount 46 = .ok (.ladd, 1) := by decide +kernel
theorem dJ13_bitCount_47 : decode cJ13_bitCount 47 = .ok (.lstore_n 0, 1) := by decide +kernel
theorem dJ13_bitCount_48 : decode cJ13_bitCount 48 = .ok (.lload_n 0, 1) := by decide +kernel
theorem dJ13_bitCount_49 : decode cJ13_bitCount 49 = .ok (.lload_n 0, 1) := by decide +kernel
theorem dJ13_bitCount_50 : decode cJ13_bitCount 50 = .ok (.bipush 32, 2) := by decide +kernel
theorem dJ13_bitCount_52 : decode cJ13_bitCount 52 = .ok (.lushr, 1) := by decide +kernel
theorem dJ13_bitCount_53 : decode cJ13_bitCount 53 = .ok (.ladd, 1) := by decide +kernel
theorem dJ13_bitCount_54 : decode cJ13_bitCount 54 = .ok (.lstore_n 0, 1) := by decide +kernel
theorem dJ13_bitCount_55 : decode cJ13_bitCount 55 = .ok (.lload_n 0, 1) := by decide +kernel
theorem dJ13_bitCount_56 : decode cJ13_bitCount 56 = .ok (.l2i, 1) := by decide +kernel
theorem dJ13_bitCount_57 : decode cJ13_bitCount 57 = .ok (.bipush 127, 2) := by decide +kernel
theorem dJ13_bitCount_59 : decode cJ13_bitCount 59 = .ok (.iand, 1) := by decide +kernel
theorem dJ13_bitCount_60 : decode cJ13_bitCount 60 = .ok (.ireturn, 1) := by decide +kernel
end
section
theorem dX1_init_0 : decode cX1_init 0 = .ok (.aload_n 0, 1) := by decide +kernel
theorem dX1_init_1 : decode cX1_init 1 = .ok (.invokespecial 1, 3) := by decide +kernel
theorem dX1_init_4 : decode cX1_init 4 = .ok (.aload_n 0, 1) := by decide +kernel
theorem dX1_init_5 : decode cX1_init 5 = .ok (.bipush 8, 2) := by decide +kernel
theorem dX1_init_7 : decode cX1_init 7 = .ok (.newarray .int, 2) := by decide +kernel
theorem dX1_init_9 : decode cX1_init 9 = .ok (.putfield 7, 3) := by decide +kernel
theorem dX1_init_12 : decode cX1_init 12 = .ok (.aload_n 0, 1) := by decide +kernel
theorem dX1_init_13 : decode cX1_init 13 = .ok (.bipush 8, 2) := by decide +kernel
theorem dX1_init_15 : decode cX1_init 15 = .ok (.newarray .int, 2) := by decide +kernel
theorem dX1_init_17 : decode cX1_init 17 = .ok (.putfield 13, 3) := by decide +kernel
theorem dX1_init_20 : decode cX1_init 20 = .ok (.aload_n 0, 1) := by decide +kernel
theorem dX1_init_21 : decode cX1_init 21 = .ok (.bipush 8, 2) := by decide +kernel
theorem dX1_init_23 : decode cX1_init 23 = .ok (.newarray .int, 2) := by decide +kernel
theorem dX1_init_25 : decode cX1_init 25 = .ok (.putfield 16, 3) := by decide +kernel
theorem dX1_init_28 : decode cX1_init 28 = .ok (.aload_n 0, 1) := by decide +kernel
theorem dX1_init_29 : decode cX1_init 29 = .ok (.bipush 8, 2) := by decide +kernel
theorem dX1_init_31 : decode cX1_init 31 = .ok (.newarray .int, 2) := by decide +kernel
theorem dX1_init_33 : decode cX1_init 33 = .ok (.putfield 19, 3) := by decide +kernel
theorem dX1_init_36 : decode cX1_init 36 = .ok (.aload_n 0, 1) := by decide +kernel
theorem dX1_init_37 : decode cX1_init 37 = .ok (.bipush 8, 2) := by decide +kernel
theorem dX1_init_39 : decode cX1_init 39 = .ok (.newarray .int, 2) := by decide +kernel
theorem dX1_init_41 : decode cX1_init 41 = .ok (.putfield 22, 3) := by decide +kernel
theorem dX1_init_44 : decode cX1_init 44 = .ok (.aload_n 0, 1) := by decide +kernel
theorem dX1_init_45 : decode cX1_init 45 = .ok (.bipush 8, 2) := by decide +kernel
theorem dX1_init_47 : decode cX1_init 47 = .ok (.newarray .int, 2) := by decide +kernel
theorem dX1_init_49 : decode cX1_init 49 = .ok (.putfield 25, 3) := by decide +kernel
theorem dX1_init_52 : decode cX1_init 52 = .ok (.aload_n 0, 1) := by decide +kernel
theorem dX1_init_53 : decode cX1_init 53 = .ok (.bipush 8, 2) := by decide +kernel
theorem dX1_init_55 : decode cX1_init 55 = .ok (.newarray .int, 2) := by decide +kernel
theorem dX1_init_57 : decode cX1_init 57 = .ok (.putfield 28, 3) := by decide +kernel
theorem dX1_init_60 : decode cX1_init 60 = .ok (.aload_n 0, 1) := by decide +kernel
theorem dX1_init_61 : decode cX1_init 61 = .ok (.sipush 132, 3) := by decide +kernel
theorem dX1_init_64 : decode cX1_init 64 = .ok (.newarray .int, 2) := by decide +kernel
theorem dX1_init_66 : decode cX1_init 66 = .ok (.putfield 31, 3) := by decide +kernel
theorem dX1_init_69 : decode cX1_init 69 = .ok (.aload_n 0, 1) := by decide +kernel
theorem dX1_init_70 : decode cX1_init 70 = .ok (.sipush 132, 3) := by decide +kernel
theorem dX1_init_73 : decode cX1_init 73 = .ok (.newarray .int, 2) := by decide +kernel
theorem dX1_init_75 : decode cX1_init 75 = .ok (.putfield 34, 3) := by decide +kernel
theorem dX1_init_78 : decode cX1_init 78 = .ok (.aload_n 0, 1) := by decide +kernel
theorem dX1_init_79 : decode cX1_init 79 = .ok (.sipush 132, 3) := by decide +kernel
theorem dX1_init_82 : decode cX1_init 82 = .ok (.newarray .int, 2) := by decide +kernel
theorem dX1_init_84 : decode cX1_init 84 = .ok (.putfield 37, 3) := by decide +kernel
theorem dX1_init_87 : decode cX1_init 87 = .ok (.aload_n 0, 1) := by decide +kernel
theorem dX1_init_88 : decode cX1_init 88 = .ok (.sipush 132, 3) := by decide +kernel
theorem dX1_init_91 : decode cX1_init 91 = .ok (.newarray .int, 2) := by decide +kernel
theorem dX1_init_93 : decode cX1_init 93 = .ok (.putfield 40, 3) := by decide +kernel
theorem dX1_init_96 : decode cX1_init 96 = .ok (.aload_n 0, 1) := by decide +kernel
theorem dX1_init_97 : decode cX1_init 97 = .ok (.sipush 396, 3) := by decide +kernel
theorem dX1_init_100 : decode cX1_init 100 = .ok (.newarray .int, 2) := by decide +kernel
theorem dX1_init_102 : decode cX1_init 102 = .ok (.putfield 43, 3) := by decide +kernel
theorem dX1_init_105 : decode cX1_init 105 = .ok (.aload_n 0, 1) := by decide +kernel
theorem dX1_init_106 : decode cX1_init 106 = .ok (.sipush 396, 3) := by decide +kernel
theorem dX1_init_109 : decode cX1_init 109 = .ok (.newarray .int, 2) := by decide +kernel
theorem dX1_init_111 : decode cX1_init 111 = .ok (.putfield 46, 3) := by decide +kernel
theorem dX1_init_114 : decode cX1_init 114 = .ok (.aload_n 0, 1) := by decide +kernel
theorem dX1_init_115 : decode cX1_init 115 = .ok (.bipush 12, 2) := by decide +kernel
theorem dX1_init_117 : decode cX1_init 117 = .ok (.newarray .boolean, 2) := by decide +kernel
theorem dX1_init_119 : decode cX1_init 119 = .ok (.putfield 49, 3) := by decide +kernel
theorem dX1_init_122 : decode cX1_init 122 = .ok (.aload_n 0, 1) := by decide +kernel
theorem dX1_init_123 : decode cX1_init 123 = .ok (.bipush 12, 2) := by decide +kernel
theorem dX1_init_125 : decode cX1_init 125 = .ok (.newarray .boolean, 2) := by decide +kernel
theorem dX1_init_127 : decode cX1_init 127 = .ok (.putfield 53, 3) := by decide +kernel
theorem dX1_init_130 : decode cX1_init 130 = .ok (.aload_n 0, 1) := by decide +kernel
theorem dX1_init_131 : decode cX1_init 131 = .ok (.iconst (-1), 1) := by decide +kernel
theorem dX1_init_132 : decode cX1_init 132 = .ok (.putfield 56, 3) := by decide +kernel
theorem dX1_init_135 : decode cX1_init 135 = .ok (.aload_n 0, 1) := by decide +kernel
theorem dX1_init_136 : decode cX1_init 136 = .ok (.bipush 12, 2) := by decide +kernel
theorem dX1_init_138 : decode cX1_init 138 = .ok (.newarray .int, 2) := by decide +kernel
theorem dX1_init_140 : decode cX1_init 140 = .ok (.putfield 60, 3) := by decide +kernel
theorem dX1_init_143 : decode cX1_init 143 = .ok (.iconst 0, 1) := by decide +kernel
theorem dX1_init_144 : decode cX1_init 144 = .ok (.istore_n 1, 1) := by decide +kernel
theorem dX1_init_145 : decode cX1_init 145 = .ok (.iload_n 1, 1) := by decide +kernel
theorem dX1_init_146 : decode cX1_init 146 = .ok (.bipush 8, 2) := by decide +kernel
theorem dX1_init_148 : decode cX1_init 148 = .ok (.if_icmp .ge 23, 3) := by decide +kernel
theorem dX1_init_151 : decode cX1_init 151 = .ok (.aload_n 0, 1) := by decide +kernel
theorem dX1_init_152 : decode cX1_init 152 = .ok (.getfield 13, 3) := by decide +kernel
theorem dX1_init_155 : decode cX1_init 155 = .ok (.iload_n 1, 1) := by decide +kernel
theorem dX1_init_156 : decode cX1_init 156 = .ok (.iconst (-1), 1) := by decide +kernel
theorem dX1_init_157 : decode cX1_init 157 = .ok (.iastore, 1) := by decide +kernel
theorem dX1_init_158 : decode cX1_init 158 = .ok (.aload_n 0, 1) := by decide +kernel
theorem dX1_init_159 : decode cX1_init 159 = .ok (.getfield 16, 3) := by decide +kernel
theorem dX1_init_162 : decode cX1_init 162 = .ok (.iload_n 1, 1) := by decide +kernel
theorem dX1_init_163 : decode cX1_init 163 = .ok (.iconst (-1), 1) := by decide +kernel
theorem dX1_init_164 : decode cX1_init 164 = .ok (.iastore, 1) := by decide +kernel
theorem dX1_init_165 : decode cX1_init 165 = .ok (.iinc 1 1, 3) := by decide +kernel
theorem dX1_init_168 : decode cX1_init 168 = .ok (.goto (-23), 3) := by decide +kernel
theorem dX1_init_171 : decode cX1_init 171 = .ok (.return_, 1) := by decide +kernel
theorem dX1_isPackage_0 : decode cX1_isPackage 0 = .ok (.iload_n 1, 1) := by decide +kernel
theorem dX1_isPackage_1 : decode cX1_isPackage 1 = .ok (.ifCond .lt 15, 3) := by decide +kernel
theorem dX1_isPackage_4 : decode cX1_isPackage 4 = .ok (.iload_n 1, 1) := by decide +kernel
theorem dX1_isPackage_5 : decode cX1_isPackage 5 = .ok (.aload_n 0, 1) := by decide +kernel
theorem dX1_isPackage_6 : decode cX1_isPackage 6 = .ok (.getfield 66, 3) := by decide +kernel
theorem dX1_isPackage_9 : decode cX1_isPackage 9 = .ok (.if_icmp .ge 7, 3) := by decide +kernel
theorem dX1_isPackage_12 : decode cX1_isPackage 12 = .ok (.iconst 1, 1) := by decide +kernel
theorem dX1_isPackage_13 : decode cX1_isPackage 13 = .ok (.goto 4, 3) := by decide +kernel
theorem dX1_isPackage_16 : decode cX1_isPackage 16 = .ok (.iconst 0, 1) := by decide +kernel
theorem dX1_isPackage_17 : decode cX1_isPackage 17 = .ok (.ireturn, 1) := by decide +kernel
theorem dX1_isVersion_0 : decode cX1_isVersion 0 = .ok (.aload_n 0, 1) := by decide +kernel
theorem dX1_isVersion_1 : decode cX1_isVersion 1 = .ok (.iload_n 1, 1) := by decide +kernel
theorem dX1_isVersion_2 : decode cX1_isVersion 2 = .ok (.invokevirtual 69, 3) := by decide +kernel
theorem dX1_isVersion_5 : decode cX1_isVersion 5 = .ok (.ifCond .eq 21, 3) := by decide +kernel
theorem dX1_isVersion_8 : decode cX1_isVersion 8 = .ok (.iload_n 2, 1) := by decide +kernel
theorem dX1_isVersion_9 : decode cX1_isVersion 9 = .ok (.ifCond .lt 17, 3) := by decide +kernel
theorem dX1_isVersion_12 : decode cX1_isVersion 12 = .ok (.iload_n 2, 1) := by decide +kernel
theorem dX1_isVersion_13 : decode cX1_isVersion 13 = .ok (.aload_n 0, 1) := by decide +kernel
theorem dX1_isVersion_14 : decode cX1_isVersion 14 = .ok (.getfield 7, 3) := by decide +kernel
theorem dX1_isVersion_17 : decode cX1_isVersion 17 = .ok (.iload_n 1, 1) := by decide +kernel
theorem dX1_isVersion_18 : decode cX1_isVersion 18 = .ok (.iaload, 1) := by decide +kernel
theorem dX1_isVersion_19 : decode cX1_isVersion 19 = .ok (.if_icmp .ge 7, 3) := by decide +kernel
theorem dX1_isVersion_22 : decode cX1_isVersion 22 = .ok (.iconst 1, 1) := by decide +kernel
theorem dX1_isVersion_23 : decode cX1_isVersion 23 = .ok (.goto 4, 3) := by decide +kernel
theorem dX1_isVersion_26 : decode cX1_isVersion 26 = .ok (.iconst 0, 1) := by decide +kernel
theorem dX1_isVersion_27 : decode cX1_isVersion 27 = .ok (.ireturn, 1) := by decide +kernel
theorem dX1_pack_0 : decode cX1_pack 0 = .ok (.aload_n 0, 1) := by decide +kernel
theorem dX1_pack_1 : decode cX1_pack 1 = .ok (.iconst 0, 1) := by decide +kernel
theorem dX1_pack_2 : decode cX1_pack 2 = .ok (.putfield 63, 3) := by decide +kernel
theorem dX1_pack_5 : decode cX1_pack 5 = .ok (.aload_n 0, 1) := by decide +kernel
theorem dX1_pack_6 : decode cX1_pack 6 = .ok (.getfield 66, 3) := by decide +kernel
theorem dX1_pack_9 : decode cX1_pack 9 = .ok (.bipush 8, 2) := by decide +kernel
theorem dX1_pack_11 : decode cX1_pack 11 = .ok (.if_icmp .eq 13, 3) := by decide +kernel
theorem dX1_pack_14 : decode cX1_pack 14 = .ok (.iload_n 1, 1) := by decide +kernel
theorem dX1_pack_15 : decode cX1_pack 15 = .ok (.ifCond .lt 9, 3) := by decide +kernel
theorem dX1_pack_18 : decode cX1_pack 18 = .ok (.iload_n 1, 1) := by decide +kernel
theorem dX1_pack_19 : decode cX1_pack 19 = .ok (.bipush 6, 2) := by decide +kernel
theorem dX1_pack_21 : decode cX1_pack 21 = .ok (.if_icmp .le 5, 3) := by decide +kernel
theorem dX1_pack_24 : decode cX1_pack 24 = .ok (.iconst (-1), 1) := by decide +kernel
theorem dX1_pack_25 : decode cX1_pack 25 = .ok (.ireturn, 1) := by decide +kernel
theorem dX1_pack_26 : decode cX1_pack 26 = .ok (.aload_n 0, 1) := by decide +kernel
theorem dX1_pack_27 : decode cX1_pack 27 = .ok (.getfield 7, 3) := by decide +kernel
theorem dX1_pack_30 : decode cX1_pack 30 = .ok (.aload_n 0, 1) := by decide +kernel
theorem dX1_pack_31 : decode cX1_pack 31 = .ok (.getfield 66, 3) := by decide +kernel
theorem dX1_pack_34 : decode cX1_pack 34 = .ok (.iload_n 1, 1) := by decide +kernel
theorem dX1_pack_35 : decode cX1_pack 35 = .ok (.iastore, 1) := by decide +kernel
theorem dX1_pack_36 : decode cX1_pack 36 = .ok (.aload_n 0, 1) := by decide +kernel
theorem dX1_pack_37 : decode cX1_pack 37 = .ok (.dup, 1) := by decide +kernel
theorem dX1_pack_38 : decode cX1_pack 38 = .ok (.getfield 66, 3) := by decide +kernel
theorem dX1_pack_41 : decode cX1_pack 41 = .ok (.iconst 1, 1) := by decide +kernel
theorem dX1_pack_42 : decode cX1_pack 42 = .ok (.iadd, 1) := by decide +kernel
theorem dX1_pack_43 : decode cX1_pack 43 = .ok (.putfield 66, 3) := by decide +kernel
theorem dX1_pack_46 : decode cX1_pack 46 = .ok (.aload_n 0, 1) := by decide +kernel
theorem dX1_pack_47 : decode cX1_pack 47 = .ok (.getfield 66, 3) := by decide +kernel
theorem dX1_pack_50 : decode cX1_pack 50 = .ok (.iconst 1, 1) := by decide +kernel
theorem dX1_pack_51 : decode cX1_pack 51 = .ok (.isub, 1) := by decide +kernel
theorem dX1_pack_52 : decode cX1_pack 52 = .ok (.ireturn, 1) := by decide +kernel
theorem dX1_keep_0 : decode cX1_keep 0 = .ok (.aload_n 0, 1) := by decide +kernel
theorem dX1_keep_1 : decode cX1_keep 1 = .ok (.getfield 37, 3) := by decide +kernel
theorem dX1_keep_4 : decode cX1_keep 4 = .ok (.iload_n 1, 1) := by decide +kernel
theorem dX1_keep_5 : decode cX1_keep 5 = .ok (.iload_n 2, 1) := by decide +kernel
theorem dX1_keep_6 : decode cX1_keep 6 = .ok (.iastore, 1) := by decide +kernel
theorem dX1_keep_7 : decode cX1_keep 7 = .ok (.aload_n 0, 1) := by decide +kernel
theorem dX1_keep_8 : decode cX1_keep 8 = .ok (.getfield 40, 3) := by decide +kernel
theorem dX1_keep_11 : decode cX1_keep 11 = .ok (.iload_n 1, 1) := by decide +kernel
theorem dX1_keep_12 : decode cX1_keep 12 = .ok (.iconst 1, 1) := by decide +kernel
theorem dX1_keep_13 : decode cX1_keep 13 = .ok (.iastore, 1) := by decide +kernel
theorem dX1_keep_14 : decode cX1_keep 14 = .ok (.aload_n 0, 1) := by decide +kernel
theorem dX1_keep_15 : decode cX1_keep 15 = .ok (.getfield 43, 3) := by decide +kernel
theorem dX1_keep_18 : decode cX1_keep 18 = .ok (.iconst 3, 1) := by decide +kernel
theorem dX1_keep_19 : decode cX1_keep 19 = .ok (.iload_n 1, 1) := by decide +kernel
theorem dX1_keep_20 : decode cX1_keep 20 = .ok (.imul, 1) := by decide +kernel
theorem dX1_keep_21 : decode cX1_keep 21 = .ok (.iload_n 3, 1) := by decide +kernel
theorem dX1_keep_22 : decode cX1_keep 22 = .ok (.iastore, 1) := by decide +kernel
theorem dX1_keep_23 : decode cX1_keep 23 = .ok (.aload_n 0, 1) := by decide +kernel
theorem dX1_keep_24 : decode cX1_keep 24 = .ok (.getfield 46, 3) := by decide +kernel
theorem dX1_keep_27 : decode cX1_keep 27 = .ok (.iconst 3, 1) := by decide +kernel
theorem dX1_keep_28 : decode cX1_keep 28 = .ok (.iload_n 1, 1) := by decide +kernel
theorem dX1_keep_29 : decode cX1_keep 29 = .ok (.imul, 1) := by decide +kernel
theorem dX1_keep_30 : decode cX1_keep 30 = .ok (.iload 4, 2) := by decide +kernel
theorem dX1_keep_32 : decode cX1_keep 32 = .ok (.iastore, 1) := by decide +kernel
theorem dX1_keep_33 : decode cX1_keep 33 = .ok (.aload_n 0, 1) := by decide +kernel
theorem dX1_keep_34 : decode cX1_keep 34 = .ok (.iload_n 1, 1) := by decide +kernel
theorem dX1_keep_35 : decode cX1_keep 35 = .ok (.putfield 56, 3) := by decide +kernel
theorem dX1_keep_38 : decode cX1_keep 38 = .ok (.return_, 1) := by decide +kernel
theorem dX1_row_0 : decode cX1_row 0 = .ok (.aload_n 0, 1) := by decide +kernel
theorem dX1_row_1 : decode cX1_row 1 = .ok (.iconst 0, 1) := by decide +kernel
theorem dX1_row_2 : decode cX1_row 2 = .ok (.putfield 63, 3) := by decide +kernel
theorem dX1_row_5 : decode cX1_row 5 = .ok (.aload_n 0, 1) := by decide +kernel
theorem dX1_row_6 : decode cX1_row 6 = .ok (.iload_n 1, 1) := by decide +kernel
theorem dX1_row_7 : decode cX1_row 7 = .ok (.iload_n 2, 1) := by decide +kernel
theorem dX1_row_8 : decode cX1_row 8 = .ok (.invokevirtual 73, 3) := by decide +kernel
theorem dX1_row_11 : decode cX1_row 11 = .ok (.ifCond .eq 30, 3) := by decide +kernel
theorem dX1_row_14 : decode cX1_row 14 = .ok (.iload_n 3, 1) := by decide +kernel
theorem dX1_row_15 : decode cX1_row 15 = .ok (.ifCond .lt 26, 3) := by decide +kernel
theorem dX1_row_18 : decode cX1_row 18 = .ok (.iload_n 3, 1) := by decide +kernel
theorem dX1_row_19 : decode cX1_row 19 = .ok (.iconst 2, 1) := by decide +kernel
theorem dX1_row_20 : decode cX1_row 20 = .ok (.if_icmp .gt 21, 3) := by decide +kernel
theorem dX1_row_23 : decode cX1_row 23 = .ok (.aload_n 0, 1) := by decide +kernel
theorem dX1_row_24 : decode cX1_row 24 = .ok (.iload 4, 2) := by decide +kernel
theorem dX1_row_26 : decode cX1_row 26 = .ok (.invokevirtual 69, 3) := by decide +kernel
theorem dX1_row_29 : decode cX1_row 29 = .ok (.ifCond .eq 12, 3) := by decide +kernel
theorem dX1_row_32 : decode cX1_row 32 = .ok (.aload_n 0, 1) := by decide +kernel
theorem dX1_row_33 : decode cX1_row 33 = .ok (.getfield 77, 3) := by decide +kernel
theorem dX1_row_36 : decode cX1_row 36 = .ok (.bipush 120, 2) := by decide +kernel
theorem dX1_row_38 : decode cX1_row 38 = .ok (.if_icmp .ne 5, 3) := by decide +kernel
theorem dX1_row_41 : decode cX1_row 41 = .ok (.iconst 0, 1) := by decide +kernel
theorem dX1_row_42 : decode cX1_row 42 = .ok (.ireturn, 1) := by decide +kernel
theorem dX1_row_43 : decode cX1_row 43 = .ok (.aload_n 0, 1) := by decide +kernel
theorem dX1_row_44 : decode cX1_row 44 = .ok (.getfield 31, 3) := by decide +kernel
theorem dX1_row_47 : decode cX1_row 47 = .ok (.aload_n 0, 1) := by decide +kernel
theorem dX1_row_48 : decode cX1_row 48 = .ok (.getfield 77, 3) := by decide +kernel
theorem dX1_row_51 : decode cX1_row 51 = .ok (.iload_n 1, 1) := by decide +kernel
theorem dX1_row_52 : decode cX1_row 52 = .ok (.iastore, 1) := by decide +kernel
theorem dX1_row_53 : decode cX1_row 53 = .ok (.aload_n 0, 1) := by decide +kernel
theorem dX1_row_54 : decode cX1_row 54 = .ok (.getfield 34, 3) := by decide +kernel
theorem dX1_row_57 : decode cX1_row 57 = .ok (.aload_n 0, 1) := by decide +kernel
theorem dX1_row_58 : decode cX1_row 58 = .ok (.getfield 77, 3) := by decide +kernel
theorem dX1_row_61 : decode cX1_row 61 = .ok (.iload_n 2, 1) := by decide +kernel
theorem dX1_row_62 : decode cX1_row 62 = .ok (.iastore, 1) := by decide +kernel
theorem dX1_row_63 : decode cX1_row 63 = .ok (.aload_n 0, 1) := by decide +kernel
theorem dX1_row_64 : decode cX1_row 64 = .ok (.aload_n 0, 1) := by decide +kernel
theorem dX1_row_65 : decode cX1_row 65 = .ok (.getfield 77, 3) := by decide +kernel
theorem dX1_row_68 : decode cX1_row 68 = .ok (.iload_n 3, 1) := by decide +kernel
theorem dX1_row_69 : decode cX1_row 69 = .ok (.iload 4, 2) := by decide +kernel
theorem dX1_row_71 : decode cX1_row 71 = .ok (.iload 5, 2) := by decide +kernel
theorem dX1_row_73 : decode cX1_row 73 = .ok (.invokevirtual 80, 3) := by decide +kernel
theorem dX1_row_76 : decode cX1_row 76 = .ok (.aload_n 0, 1) := by decide +kernel
theorem dX1_row_77 : decode cX1_row 77 = .ok (.dup, 1) := by decide +kernel
theorem dX1_row_78 : decode cX1_row 78 = .ok (.getfield 77, 3) := by decide +kernel
theorem dX1_row_81 : decode cX1_row 81 = .ok (.iconst 1, 1) := by decide +kernel
theorem dX1_row_82 : decode cX1_row 82 = .ok (.iadd, 1) := by decide +kernel
theorem dX1_row_83 : decode cX1_row 83 = .ok (.putfield 77, 3) := by decide +kernel
theorem dX1_row_86 : decode cX1_row 86 = .ok (.iconst 1, 1) := by decide +kernel
theorem dX1_row_87 : decode cX1_row 87 = .ok (.ireturn, 1) := by decide +kernel
theorem dX1_demand_0 : decode cX1_demand 0 = .ok (.aload_n 0, 1) := by decide +kernel
theorem dX1_demand_1 : decode cX1_demand 1 = .ok (.iconst 0, 1) := by decide +kernel
theorem dX1_demand_2 : decode cX1_demand 2 = .ok (.putfield 63, 3) := by decide +kernel
theorem dX1_demand_5 : decode cX1_demand 5 = .ok (.iload_n 1, 1) := by decide +kernel
theorem dX1_demand_6 : decode cX1_demand 6 = .ok (.ifCond .lt 25, 3) := by decide +kernel
theorem dX1_demand_9 : decode cX1_demand 9 = .ok (.iload_n 1, 1) := by decide +kernel
theorem dX1_demand_10 : decode cX1_demand 10 = .ok (.iconst 2, 1) := by decide +kernel
theorem dX1_demand_11 : decode cX1_demand 11 = .ok (.if_icmp .gt 20, 3) := by decide +kernel
theorem dX1_demand_14 : decode cX1_demand 14 = .ok (.aload_n 0, 1) := by decide +kernel
theorem dX1_demand_15 : decode cX1_demand 15 = .ok (.iload_n 2, 1) := by decide +kernel
theorem dX1_demand_16 : decode cX1_demand 16 = .ok (.invokevirtual 69, 3) := by decide +kernel
theorem dX1_demand_19 : decode cX1_demand 19 = .ok (.ifCond .eq 12, 3) := by decide +kernel
theorem dX1_demand_22 : decode cX1_demand 22 = .ok (.aload_n 0, 1) := by decide +kernel
theorem dX1_demand_23 : decode cX1_demand 23 = .ok (.getfield 84, 3) := by decide +kernel
theorem dX1_demand_26 : decode cX1_demand 26 = .ok (.bipush 12, 2) := by decide +kernel
theorem dX1_demand_28 : decode cX1_demand 28 = .ok (.if_icmp .ne 5, 3) := by decide +kernel
theorem dX1_demand_31 : decode cX1_demand 31 = .ok (.iconst (-1), 1) := by decide +kernel
theorem dX1_demand_32 : decode cX1_demand 32 = .ok (.ireturn, 1) := by decide +kernel
theorem dX1_demand_33 : decode cX1_demand 33 = .ok (.aload_n 0, 1) := by decide +kernel
theorem dX1_demand_34 : decode cX1_demand 34 = .ok (.bipush 120, 2) := by decide +kernel
theorem dX1_demand_36 : decode cX1_demand 36 = .ok (.aload_n 0, 1) := by decide +kernel
theorem dX1_demand_37 : decode cX1_demand 37 = .ok (.getfield 84, 3) := by decide +kernel
theorem dX1_demand_40 : decode cX1_demand 40 = .ok (.iadd, 1) := by decide +kernel
theorem dX1_demand_41 : decode cX1_demand 41 = .ok (.iload_n 1, 1) := by decide +kernel
theorem dX1_demand_42 : decode cX1_demand 42 = .ok (.iload_n 2, 1) := by decide +kernel
theorem dX1_demand_43 : decode cX1_demand 43 = .ok (.iload_n 3, 1) := by decide +kernel
theorem dX1_demand_44 : decode cX1_demand 44 = .ok (.invokevirtual 80, 3) := by decide +kernel
theorem dX1_demand_47 : decode cX1_demand 47 = .ok (.aload_n 0, 1) := by decide +kernel
theorem dX1_demand_48 : decode cX1_demand 48 = .ok (.dup, 1) := by decide +kernel
theorem dX1_demand_49 : decode cX1_demand 49 = .ok (.getfield 84, 3) := by decide +kernel
theorem dX1_demand_52 : decode cX1_demand 52 = .ok (.iconst 1, 1) := by decide +kernel
theorem dX1_demand_53 : decode cX1_demand 53 = .ok (.iadd, 1) := by decide +kernel
theorem dX1_demand_54 : decode cX1_demand 54 = .ok (.putfield 84, 3) := by decide +kernel
theorem dX1_demand_57 : decode cX1_demand 57 = .ok (.aload_n 0, 1) := by decide +kernel
theorem dX1_demand_58 : decode cX1_demand 58 = .ok (.getfield 84, 3) := by decide +kernel
theorem dX1_demand_61 : decode cX1_demand 61 = .ok (.iconst 1, 1) := by decide +kernel
theorem dX1_demand_62 : decode cX1_demand 62 = .ok (.isub, 1) := by decide +kernel
theorem dX1_demand_63 : decode cX1_demand 63 = .ok (.ireturn, 1) := by decide +kernel
theorem dX1_or_0 : decode cX1_or 0 = .ok (.aload_n 0, 1) := by decide +kernel
theorem dX1_or_1 : decode cX1_or 1 = .ok (.iconst 0, 1) := by decide +kernel
theorem dX1_or_2 : decode cX1_or 2 = .ok (.putfield 63, 3) := by decide +kernel
theorem dX1_or_5 : decode cX1_or 5 = .ok (.aload_n 0, 1) := by decide +kernel
theorem dX1_or_6 : decode cX1_or 6 = .ok (.getfield 56, 3) := by decide +kernel
theorem dX1_or_9 : decode cX1_or 9 = .ok (.iconst (-1), 1) := by decide +kernel
theorem dX1_or_10 : decode cX1_or 10 = .ok (.if_icmp .eq 36, 3) := by decide +kernel
theorem dX1_or_13 : decode cX1_or 13 = .ok (.aload_n 0, 1) := by decide +kernel
theorem dX1_or_14 : decode cX1_or 14 = .ok (.getfield 37, 3) := by decide +kernel
theorem dX1_or_17 : decode cX1_or 17 = .ok (.aload_n 0, 1) := by decide +kernel
theorem dX1_or_18 : decode cX1_or 18 = .ok (.getfield 56, 3) := by decide +kernel
theorem dX1_or_21 : decode cX1_or 21 = .ok (.iaload, 1) := by decide +kernel
theorem dX1_or_22 : decode cX1_or 22 = .ok (.ifCond .ne 24, 3) := by decide +kernel
theorem dX1_or_25 : decode cX1_or 25 = .ok (.aload_n 0, 1) := by decide +kernel
theorem dX1_or_26 : decode cX1_or 26 = .ok (.getfield 40, 3) := by decide +kernel
theorem dX1_or_29 : decode cX1_or 29 = .ok (.aload_n 0, 1) := by decide +kernel
theorem dX1_or_30 : decode cX1_or 30 = .ok (.getfield 56, 3) := by decide +kernel
theorem dX1_or_33 : decode cX1_or 33 = .ok (.iaload, 1) := by decide +kernel
theorem dX1_or_34 : decode cX1_or 34 = .ok (.iconst 3, 1) := by decide +kernel
theorem dX1_or_35 : decode cX1_or 35 = .ok (.if_icmp .eq 11, 3) := by decide +kernel
theorem dX1_or_38 : decode cX1_or 38 = .ok (.aload_n 0, 1) := by decide +kernel
theorem dX1_or_39 : decode cX1_or 39 = .ok (.iload_n 1, 1) := by decide +kernel
theorem dX1_or_40 : decode cX1_or 40 = .ok (.invokevirtual 69, 3) := by decide +kernel
theorem dX1_or_43 : decode cX1_or 43 = .ok (.ifCond .ne 5, 3) := by decide +kernel
theorem dX1_or_46 : decode cX1_or 46 = .ok (.iconst 0, 1) := by decide +kernel
theorem dX1_or_47 : decode cX1_or 47 = .ok (.ireturn, 1) := by decide +kernel
theorem dX1_or_48 : decode cX1_or 48 = .ok (.aload_n 0, 1) := by decide +kernel
theorem dX1_or_49 : decode cX1_or 49 = .ok (.getfield 43, 3) := by decide +kernel
theorem dX1_or_52 : decode cX1_or 52 = .ok (.iconst 3, 1) := by decide +kernel
theorem dX1_or_53 : decode cX1_or 53 = .ok (.aload_n 0, 1) := by decide +kernel
theorem dX1_or_54 : decode cX1_or 54 = .ok (.getfield 56, 3) := by decide +kernel
theorem dX1_or_57 : decode cX1_or 57 = .ok (.imul, 1) := by decide +kernel
theorem dX1_or_58 : decode cX1_or 58 = .ok (.aload_n 0, 1) := by decide +kernel
theorem dX1_or_59 : decode cX1_or 59 = .ok (.getfield 40, 3) := by decide +kernel
theorem dX1_or_62 : decode cX1_or 62 = .ok (.aload_n 0, 1) := by decide +kernel
theorem dX1_or_63 : decode cX1_or 63 = .ok (.getfield 56, 3) := by decide +kernel
theorem dX1_or_66 : decode cX1_or 66 = .ok (.iaload, 1) := by decide +kernel
theorem dX1_or_67 : decode cX1_or 67 = .ok (.iadd, 1) := by decide +kernel
theorem dX1_or_68 : decode cX1_or 68 = .ok (.iload_n 1, 1) := by decide +kernel
theorem dX1_or_69 : decode cX1_or 69 = .ok (.iastore, 1) := by decide +kernel
theorem dX1_or_70 : decode cX1_or 70 = .ok (.aload_n 0, 1) := by decide +kernel
theorem dX1_or_71 : decode cX1_or 71 = .ok (.getfield 46, 3) := by decide +kernel
theorem dX1_or_74 : decode cX1_or 74 = .ok (.iconst 3, 1) := by decide +kernel
theorem dX1_or_75 : decode cX1_or 75 = .ok (.aload_n 0, 1) := by decide +kernel
theorem dX1_or_76 : decode cX1_or 76 = .ok (.getfield 56, 3) := by decide +kernel
theorem dX1_or_79 : decode cX1_or 79 = .ok (.imul, 1) := by decide +kernel
theorem dX1_or_80 : decode cX1_or 80 = .ok (.aload_n 0, 1) := by decide +kernel
theorem dX1_or_81 : decode cX1_or 81 = .ok (.getfield 40, 3) := by decide +kernel
theorem dX1_or_84 : decode cX1_or 84 = .ok (.aload_n 0, 1) := by decide +kernel
theorem dX1_or_85 : decode cX1_or 85 = .ok (.getfield 56, 3) := by decide +kernel
theorem dX1_or_88 : decode cX1_or 88 = .ok (.iaload, 1) := by decide +kernel
theorem dX1_or_89 : decode cX1_or 89 = .ok (.iadd, 1) := by decide +kernel
theorem dX1_or_90 : decode cX1_or 90 = .ok (.iload_n 2, 1) := by decide +kernel
theorem dX1_or_91 : decode cX1_or 91 = .ok (.iastore, 1) := by decide +kernel
theorem dX1_or_92 : decode cX1_or 92 = .ok (.aload_n 0, 1) := by decide +kernel
theorem dX1_or_93 : decode cX1_or 93 = .ok (.getfield 40, 3) := by decide +kernel
theorem dX1_or_96 : decode cX1_or 96 = .ok (.aload_n 0, 1) := by decide +kernel
theorem dX1_or_97 : decode cX1_or 97 = .ok (.getfield 56, 3) := by decide +kernel
theorem dX1_or_100 : decode cX1_or 100 = .ok (.dup2, 1) := by decide +kernel
theorem dX1_or_101 : decode cX1_or 101 = .ok (.iaload, 1) := by decide +kernel
theorem dX1_or_102 : decode cX1_or 102 = .ok (.iconst 1, 1) := by decide +kernel
theorem dX1_or_103 : decode cX1_or 103 = .ok (.iadd, 1) := by decide +kernel
theorem dX1_or_104 : decode cX1_or 104 = .ok (.iastore, 1) := by decide +kernel
theorem dX1_or_105 : decode cX1_or 105 = .ok (.iconst 1, 1) := by decide +kernel
theorem dX1_or_106 : decode cX1_or 106 = .ok (.ireturn, 1) := by decide +kernel
theorem dX1_leaveOut_0 : decode cX1_leaveOut 0 = .ok (.aload_n 0, 1) := by decide +kernel
theorem dX1_leaveOut_1 : decode cX1_leaveOut 1 = .ok (.iconst 0, 1) := by decide +kernel
theorem dX1_leaveOut_2 : decode cX1_leaveOut 2 = .ok (.putfield 63, 3) := by decide +kernel
theorem dX1_leaveOut_5 : decode cX1_leaveOut 5 = .ok (.iload_n 1, 1) := by decide +kernel
theorem dX1_leaveOut_6 : decode cX1_leaveOut 6 = .ok (.ifCond .lt 21, 3) := by decide +kernel
theorem dX1_leaveOut_9 : decode cX1_leaveOut 9 = .ok (.iload_n 1, 1) := by decide +kernel
theorem dX1_leaveOut_10 : decode cX1_leaveOut 10 = .ok (.aload_n 0, 1) := by decide +kernel
theorem dX1_leaveOut_11 : decode cX1_leaveOut 11 = .ok (.getfield 84, 3) := by decide +kernel
theorem dX1_leaveOut_14 : decode cX1_leaveOut 14 = .ok (.if_icmp .ge 13, 3) := by decide +kernel
theorem dX1_leaveOut_17 : decode cX1_leaveOut 17 = .ok (.aload_n 0, 1) := by decide +kernel
theorem dX1_leaveOut_18 : decode cX1_leaveOut 18 = .ok (.getfield 49, 3) := by decide +kernel
theorem dX1_leaveOut_21 : decode cX1_leaveOut 21 = .ok (.iload_n 1, 1) := by decide +kernel
theorem dX1_leaveOut_22 : decode cX1_leaveOut 22 = .ok (.baload, 1) := by decide +kernel
theorem dX1_leaveOut_23 : decode cX1_leaveOut 23 = .ok (.iload_n 2, 1) := by decide +kernel
theorem dX1_leaveOut_24 : decode cX1_leaveOut 24 = .ok (.if_icmp .ne 5, 3) := by decide +kernel
theorem dX1_leaveOut_27 : decode cX1_leaveOut 27 = .ok (.iconst 0, 1) := by decide +kernel
theorem dX1_leaveOut_28 : decode cX1_leaveOut 28 = .ok (.ireturn, 1) := by decide +kernel
theorem dX1_leaveOut_29 : decode cX1_leaveOut 29 = .ok (.aload_n 0, 1) := by decide +kernel
theorem dX1_leaveOut_30 : decode cX1_leaveOut 30 = .ok (.getfield 49, 3) := by decide +kernel
theorem dX1_leaveOut_33 : decode cX1_leaveOut 33 = .ok (.iload_n 1, 1) := by decide +kernel
theorem dX1_leaveOut_34 : decode cX1_leaveOut 34 = .ok (.iload_n 2, 1) := by decide +kernel
theorem dX1_leaveOut_35 : decode cX1_leaveOut 35 = .ok (.bastore, 1) := by decide +kernel
theorem dX1_leaveOut_36 : decode cX1_leaveOut 36 = .ok (.iconst 1, 1) := by decide +kernel
theorem dX1_leaveOut_37 : decode cX1_leaveOut 37 = .ok (.ireturn, 1) := by decide +kernel
theorem dX1_lock_0 : decode cX1_lock 0 = .ok (.aload_n 0, 1) := by decide +kernel
theorem dX1_lock_1 : decode cX1_lock 1 = .ok (.iconst 0, 1) := by decide +kernel
theorem dX1_lock_2 : decode cX1_lock 2 = .ok (.putfield 63, 3) := by decide +kernel
theorem dX1_lock_5 : decode cX1_lock 5 = .ok (.aload_n 0, 1) := by decide +kernel
theorem dX1_lock_6 : decode cX1_lock 6 = .ok (.iload_n 1, 1) := by decide +kernel
theorem dX1_lock_7 : decode cX1_lock 7 = .ok (.invokevirtual 69, 3) := by decide +kernel
theorem dX1_lock_10 : decode cX1_lock 10 = .ok (.ifCond .eq 17, 3) := by decide +kernel
theorem dX1_lock_13 : decode cX1_lock 13 = .ok (.iload_n 2, 1) := by decide +kernel
theorem dX1_lock_14 : decode cX1_lock 14 = .ok (.iconst (-1), 1) := by decide +kernel
theorem dX1_lock_15 : decode cX1_lock 15 = .ok (.if_icmp .eq 14, 3) := by decide +kernel
theorem dX1_lock_18 : decode cX1_lock 18 = .ok (.aload_n 0, 1) := by decide +kernel
theorem dX1_lock_19 : decode cX1_lock 19 = .ok (.iload_n 1, 1) := by decide +kernel
theorem dX1_lock_20 : decode cX1_lock 20 = .ok (.iload_n 2, 1) := by decide +kernel
theorem dX1_lock_21 : decode cX1_lock 21 = .ok (.invokevirtual 73, 3) := by decide +kernel
theorem dX1_lock_24 : decode cX1_lock 24 = .ok (.ifCond .ne 5, 3) := by decide +kernel
theorem dX1_lock_27 : decode cX1_lock 27 = .ok (.iconst 0, 1) := by decide +kernel
theorem dX1_lock_28 : decode cX1_lock 28 = .ok (.ireturn, 1) := by decide +kernel
theorem dX1_lock_29 : decode cX1_lock 29 = .ok (.aload_n 0, 1) := by decide +kernel
theorem dX1_lock_30 : decode cX1_lock 30 = .ok (.getfield 13, 3) := by decide +kernel
theorem dX1_lock_33 : decode cX1_lock 33 = .ok (.iload_n 1, 1) := by decide +kernel
theorem dX1_lock_34 : decode cX1_lock 34 = .ok (.iload_n 2, 1) := by decide +kernel
theorem dX1_lock_35 : decode cX1_lock 35 = .ok (.iastore, 1) := by decide +kernel
theorem dX1_lock_36 : decode cX1_lock 36 = .ok (.iconst 1, 1) := by decide +kernel
theorem dX1_lock_37 : decode cX1_lock 37 = .ok (.ireturn, 1) := by decide +kernel
theorem dX1_isBroken_0 : decode cX1_isBroken 0 = .ok (.iload_n 1, 1) := by decide +kernel
theorem dX1_isBroken_1 : decode cX1_isBroken 1 = .ok (.bipush 120, 2) := by decide +kernel
theorem dX1_isBroken_3 : decode cX1_isBroken 3 = .ok (.if_icmp .lt 30, 3) := by decide +kernel
theorem dX1_isBroken_6 : decode cX1_isBroken 6 = .ok (.aload_n 0, 1) := by decide +kernel
theorem dX1_isBroken_7 : decode cX1_isBroken 7 = .ok (.getfield 49, 3) := by decide +kernel
theorem dX1_isBroken_10 : decode cX1_isBroken 10 = .ok (.iload_n 1, 1) := by decide +kernel
theorem dX1_isBroken_11 : decode cX1_isBroken 11 = .ok (.bipush 120, 2) := by decide +kernel
theorem dX1_isBroken_13 : decode cX1_isBroken 13 = .ok (.isub, 1) := by decide +kernel
theorem dX1_isBroken_14 : decode cX1_isBroken 14 = .ok (.baload, 1) := by decide +kernel
theorem dX1_isBroken_15 : decode cX1_isBroken 15 = .ok (.ifCond .ne 38, 3) := by decide +kernel
theorem dX1_isBroken_18 : decode cX1_isBroken 18 = .ok (.aload_n 0, 1) := by decide +kernel
theorem dX1_isBroken_19 : decode cX1_isBroken 19 = .ok (.getfield 53, 3) := by decide +kernel
theorem dX1_isBroken_22 : decode cX1_isBroken 22 = .ok (.iload_n 1, 1) := by decide +kernel
theorem dX1_isBroken_23 : decode cX1_isBroken 23 = .ok (.bipush 120, 2) := by decide +kernel
theorem dX1_isBroken_25 : decode cX1_isBroken 25 = .ok (.isub, 1) := by decide +kernel
theorem dX1_isBroken_26 : decode cX1_isBroken 26 = .ok (.baload, 1) := by decide +kernel
theorem dX1_isBroken_27 : decode cX1_isBroken 27 = .ok (.ifCond .eq 28, 3) := by decide +kernel
theorem dX1_isBroken_30 : decode cX1_isBroken 30 = .ok (.goto 23, 3) := by decide +kernel
theorem dX1_isBroken_33 : decode cX1_isBroken 33 = .ok (.aload_n 0, 1) := by decide +kernel
theorem dX1_isBroken_34 : decode cX1_isBroken 34 = .ok (.getfield 19, 3) := by decide +kernel
theorem dX1_isBroken_37 : decode cX1_isBroken 37 = .ok (.aload_n 0, 1) := by decide +kernel
theorem dX1_isBroken_38 : decode cX1_isBroken 38 = .ok (.getfield 31, 3) := by decide +kernel
theorem dX1_isBroken_41 : decode cX1_isBroken 41 = .ok (.iload_n 1, 1) := by decide +kernel
theorem dX1_isBroken_42 : decode cX1_isBroken 42 = .ok (.iaload, 1) := by decide +kernel
theorem dX1_isBroken_43 : decode cX1_isBroken 43 = .ok (.iaload, 1) := by decide +kernel
theorem dX1_isBroken_44 : decode cX1_isBroken 44 = .ok (.aload_n 0, 1) := by decide +kernel
theorem dX1_isBroken_45 : decode cX1_isBroken 45 = .ok (.getfield 34, 3) := by decide +kernel
theorem dX1_isBroken_48 : decode cX1_isBroken 48 = .ok (.iload_n 1, 1) := by decide +kernel
theorem dX1_isBroken_49 : decode cX1_isBroken 49 = .ok (.iaload, 1) := by decide +kernel
theorem dX1_isBroken_50 : decode cX1_isBroken 50 = .ok (.if_icmp .eq 5, 3) := by decide +kernel
theorem dX1_isBroken_53 : decode cX1_isBroken 53 = .ok (.iconst 0, 1) := by decide +kernel
theorem dX1_isBroken_54 : decode cX1_isBroken 54 = .ok (.ireturn, 1) := by decide +kernel
theorem dX1_isBroken_55 : decode cX1_isBroken 55 = .ok (.iconst 1, 1) := by decide +kernel
theorem dX1_isBroken_56 : decode cX1_isBroken 56 = .ok (.istore_n 2, 1) := by decide +kernel
theorem dX1_isBroken_57 : decode cX1_isBroken 57 = .ok (.iconst 0, 1) := by decide +kernel
theorem dX1_isBroken_58 : decode cX1_isBroken 58 = .ok (.istore_n 3, 1) := by decide +kernel
theorem dX1_isBroken_59 : decode cX1_isBroken 59 = .ok (.iload_n 3, 1) := by decide +kernel
theorem dX1_isBroken_60 : decode cX1_isBroken 60 = .ok (.aload_n 0, 1) := by decide +kernel
theorem dX1_isBroken_61 : decode cX1_isBroken 61 = .ok (.getfield 40, 3) := by decide +kernel
theorem dX1_isBroken_64 : decode cX1_isBroken 64 = .ok (.iload_n 1, 1) := by decide +kernel
theorem dX1_isBroken_65 : decode cX1_isBroken 65 = .ok (.iaload, 1) := by decide +kernel
theorem dX1_isBroken_66 : decode cX1_isBroken 66 = .ok (.if_icmp .ge 119, 3) := by decide +kernel
theorem dX1_isBroken_69 : decode cX1_isBroken 69 = .ok (.aload_n 0, 1) := by decide +kernel
theorem dX1_isBroken_70 : decode cX1_isBroken 70 = .ok (.getfield 19, 3) := by decide +kernel
theorem dX1_isBroken_73 : decode cX1_isBroken 73 = .ok (.aload_n 0, 1) := by decide +kernel
theorem dX1_isBroken_74 : decode cX1_isBroken 74 = .ok (.getfield 43, 3) := by decide +kernel
theorem dX1_isBroken_77 : decode cX1_isBroken 77 = .ok (.iconst 3, 1) := by decide +kernel
theorem dX1_isBroken_78 : decode cX1_isBroken 78 = .ok (.iload_n 1, 1) := by decide +kernel
theorem dX1_isBroken_79 : decode cX1_isBroken 79 = .ok (.imul, 1) := by decide +kernel
theorem dX1_isBroken_80 : decode cX1_isBroken 80 = .ok (.iload_n 3, 1) := by decide +kernel
theorem dX1_isBroken_81 : decode cX1_isBroken 81 = .ok (.iadd, 1) := by decide +kernel
theorem dX1_isBroken_82 : decode cX1_isBroken 82 = .ok (.iaload, 1) := by decide +kernel
theorem dX1_isBroken_83 : decode cX1_isBroken 83 = .ok (.iaload, 1) := by decide +kernel
theorem dX1_isBroken_84 : decode cX1_isBroken 84 = .ok (.istore 4, 2) := by decide +kernel
theorem dX1_isBroken_86 : decode cX1_isBroken 86 = .ok (.iload 4, 2) := by decide +kernel
theorem dX1_isBroken_88 : decode cX1_isBroken 88 = .ok (.ifCond .lt 26, 3) := by decide +kernel
theorem dX1_isBroken_91 : decode cX1_isBroken 91 = .ok (.aload_n 0, 1) := by decide +kernel
theorem dX1_isBroken_92 : decode cX1_isBroken 92 = .ok (.getfield 46, 3) := by decide +kernel
theorem dX1_isBroken_95 : decode cX1_isBroken 95 = .ok (.iconst 3, 1) := by decide +kernel
theorem dX1_isBroken_96 : decode cX1_isBroken 96 = .ok (.iload_n 1, 1) := by decide +kernel
theorem dX1_isBroken_97 : decode cX1_isBroken 97 = .ok (.imul, 1) := by decide +kernel
theorem dX1_isBroken_98 : decode cX1_isBroken 98 = .ok (.iload_n 3, 1) := by decide +kernel
theorem dX1_isBroken_99 : decode cX1_isBroken 99 = .ok (.iadd, 1) := by decide +kernel
theorem dX1_isBroken_100 : decode cX1_isBroken 100 = .ok (.iaload, 1) := by decide +kernel
theorem dX1_isBroken_101 : decode cX1_isBroken 101 = .ok (.iload 4, 2) := by decide +kernel
theorem dX1_isBroken_103 : decode cX1_isBroken 103 = .ok (.ishr, 1) := by decide +kernel
theorem dX1_isBroken_104 : decode cX1_isBroken 104 = .ok (.iconst 1, 1) := by decide +kernel
theorem dX1_isBroken_105 : decode cX1_isBroken 105 = .ok (.iand, 1) := by decide +kernel
theorem dX1_isBroken_106 : decode cX1_isBroken 106 = .ok (.iconst 1, 1) := by decide +kernel
theorem dX1_isBroken_107 : decode cX1_isBroken 107 = .ok (.if_icmp .ne 7, 3) := by decide +kernel
theorem dX1_isBroken_110 : decode cX1_isBroken 110 = .ok (.iconst 1, 1) := by decide +kernel
theorem dX1_isBroken_111 : decode cX1_isBroken 111 = .ok (.goto 4, 3) := by decide +kernel
theorem dX1_isBroken_114 : decode cX1_isBroken 114 = .ok (.iconst 0, 1) := by decide +kernel
theorem dX1_isBroken_115 : decode cX1_isBroken 115 = .ok (.istore 5, 2) := by decide +kernel
theorem dX1_isBroken_117 : decode cX1_isBroken 117 = .ok (.iload_n 2, 1) := by decide +kernel
theorem dX1_isBroken_118 : decode cX1_isBroken 118 = .ok (.ifCond .eq 59, 3) := by decide +kernel
theorem dX1_isBroken_121 : decode cX1_isBroken 121 = .ok (.iload 4, 2) := by decide +kernel
theorem dX1_isBroken_123 : decode cX1_isBroken 123 = .ok (.bipush (-2), 2) := by decide +kernel
theorem dX1_isBroken_125 : decode cX1_isBroken 125 = .ok (.if_icmp .eq 52, 3) := by decide +kernel
theorem dX1_isBroken_128 : decode cX1_isBroken 128 = .ok (.aload_n 0, 1) := by decide +kernel
theorem dX1_isBroken_129 : decode cX1_isBroken 129 = .ok (.getfield 37, 3) := by decide +kernel
theorem dX1_isBroken_132 : decode cX1_isBroken 132 = .ok (.iload_n 1, 1) := by decide +kernel
theorem dX1_isBroken_133 : decode cX1_isBroken 133 = .ok (.iaload, 1) := by decide +kernel
theorem dX1_isBroken_134 : decode cX1_isBroken 134 = .ok (.ifCond .ne 11, 3) := by decide +kernel
theorem dX1_isBroken_137 : decode cX1_isBroken 137 = .ok (.iload 5, 2) := by decide +kernel
theorem dX1_isBroken_139 : decode cX1_isBroken 139 = .ok (.ifCond .ne 38, 3) := by decide +kernel
theorem dX1_isBroken_142 : decode cX1_isBroken 142 = .ok (.goto 31, 3) := by decide +kernel
theorem dX1_isBroken_145 : decode cX1_isBroken 145 = .ok (.aload_n 0, 1) := by decide +kernel
theorem dX1_isBroken_146 : decode cX1_isBroken 146 = .ok (.getfield 37, 3) := by decide +kernel
theorem dX1_isBroken_149 : decode cX1_isBroken 149 = .ok (.iload_n 1, 1) := by decide +kernel
theorem dX1_isBroken_150 : decode cX1_isBroken 150 = .ok (.iaload, 1) := by decide +kernel
theorem dX1_isBroken_151 : decode cX1_isBroken 151 = .ok (.iconst 1, 1) := by decide +kernel
theorem dX1_isBroken_152 : decode cX1_isBroken 152 = .ok (.if_icmp .ne 11, 3) := by decide +kernel
theorem dX1_isBroken_155 : decode cX1_isBroken 155 = .ok (.iload 5, 2) := by decide +kernel
theorem dX1_isBroken_157 : decode cX1_isBroken 157 = .ok (.ifCond .eq 20, 3) := by decide +kernel
theorem dX1_isBroken_160 : decode cX1_isBroken 160 = .ok (.goto 13, 3) := by decide +kernel
theorem dX1_isBroken_163 : decode cX1_isBroken 163 = .ok (.iload 4, 2) := by decide +kernel
theorem dX1_isBroken_165 : decode cX1_isBroken 165 = .ok (.ifCond .lt 12, 3) := by decide +kernel
theorem dX1_isBroken_168 : decode cX1_isBroken 168 = .ok (.iload 5, 2) := by decide +kernel
theorem dX1_isBroken_170 : decode cX1_isBroken 170 = .ok (.ifCond .ne 7, 3) := by decide +kernel
theorem dX1_isBroken_173 : decode cX1_isBroken 173 = .ok (.iconst 1, 1) := by decide +kernel
theorem dX1_isBroken_174 : decode cX1_isBroken 174 = .ok (.goto 4, 3) := by decide +kernel
theorem dX1_isBroken_177 : decode cX1_isBroken 177 = .ok (.iconst 0, 1) := by decide +kernel
theorem dX1_isBroken_178 : decode cX1_isBroken 178 = .ok (.istore_n 2, 1) := by decide +kernel
theorem dX1_isBroken_179 : decode cX1_isBroken 179 = .ok (.iinc 3 1, 3) := by decide +kernel
theorem dX1_isBroken_182 : decode cX1_isBroken 182 = .ok (.goto (-123), 3) := by decide +kernel
theorem dX1_isBroken_185 : decode cX1_isBroken 185 = .ok (.iload_n 2, 1) := by decide +kernel
theorem dX1_isBroken_186 : decode cX1_isBroken 186 = .ok (.ireturn, 1) := by decide +kernel
theorem dX1_broken_0 : decode cX1_broken 0 = .ok (.iconst 0, 1) := by decide +kernel
theorem dX1_broken_1 : decode cX1_broken 1 = .ok (.istore_n 1, 1) := by decide +kernel
theorem dX1_broken_2 : decode cX1_broken 2 = .ok (.iload_n 1, 1) := by decide +kernel
theorem dX1_broken_3 : decode cX1_broken 3 = .ok (.aload_n 0, 1) := by decide +kernel
theorem dX1_broken_4 : decode cX1_broken 4 = .ok (.getfield 77, 3) := by decide +kernel
theorem dX1_broken_7 : decode cX1_broken 7 = .ok (.if_icmp .ge 17, 3) := by decide +kernel
theorem dX1_broken_10 : decode cX1_broken 10 = .ok (.aload_n 0, 1) := by decide +kernel
theorem dX1_broken_11 : decode cX1_broken 11 = .ok (.iload_n 1, 1) := by decide +kernel
theorem dX1_broken_12 : decode cX1_broken 12 = .ok (.invokevirtual 87, 3) := by decide +kernel
theorem dX1_broken_15 : decode cX1_broken 15 = .ok (.ifCond .ne 9, 3) := by decide +kernel
theorem dX1_broken_18 : decode cX1_broken 18 = .ok (.iinc 1 1, 3) := by decide +kernel
theorem dX1_broken_21 : decode cX1_broken 21 = .ok (.goto (-19), 3) := by decide +kernel
theorem dX1_broken_24 : decode cX1_broken 24 = .ok (.iload_n 1, 1) := by decide +kernel
theorem dX1_broken_25 : decode cX1_broken 25 = .ok (.aload_n 0, 1) := by decide +kernel
theorem dX1_broken_26 : decode cX1_broken 26 = .ok (.getfield 77, 3) := by decide +kernel
theorem dX1_broken_29 : decode cX1_broken 29 = .ok (.if_icmp .ge 18, 3) := by decide +kernel
theorem dX1_broken_32 : decode cX1_broken 32 = .ok (.iconst 1, 1) := by decide +kernel
theorem dX1_broken_33 : decode cX1_broken 33 = .ok (.aload_n 0, 1) := by decide +kernel
theorem dX1_broken_34 : decode cX1_broken 34 = .ok (.getfield 31, 3) := by decide +kernel
theorem dX1_broken_37 : decode cX1_broken 37 = .ok (.iload_n 1, 1) := by decide +kernel
theorem dX1_broken_38 : decode cX1_broken 38 = .ok (.iaload, 1) := by decide +kernel
theorem dX1_broken_39 : decode cX1_broken 39 = .ok (.ishl, 1) := by decide +kernel
theorem dX1_broken_40 : decode cX1_broken 40 = .ok (.aload_n 0, 1) := by decide +kernel
theorem dX1_broken_41 : decode cX1_broken 41 = .ok (.iload_n 1, 1) := by decide +kernel
theorem dX1_broken_42 : decode cX1_broken 42 = .ok (.invokevirtual 90, 3) := by decide +kernel
theorem dX1_broken_45 : decode cX1_broken 45 = .ok (.ior, 1) := by decide +kernel
theorem dX1_broken_46 : decode cX1_broken 46 = .ok (.ireturn, 1) := by decide +kernel
theorem dX1_broken_47 : decode cX1_broken 47 = .ok (.iconst 0, 1) := by decide +kernel
theorem dX1_broken_48 : decode cX1_broken 48 = .ok (.istore_n 2, 1) := by decide +kernel
theorem dX1_broken_49 : decode cX1_broken 49 = .ok (.iload_n 2, 1) := by decide +kernel
theorem dX1_broken_50 : decode cX1_broken 50 = .ok (.aload_n 0, 1) := by decide +kernel
theorem dX1_broken_51 : decode cX1_broken 51 = .ok (.getfield 84, 3) := by decide +kernel
theorem dX1_broken_54 : decode cX1_broken 54 = .ok (.if_icmp .ge 20, 3) := by decide +kernel
theorem dX1_broken_57 : decode cX1_broken 57 = .ok (.aload_n 0, 1) := by decide +kernel
theorem dX1_broken_58 : decode cX1_broken 58 = .ok (.bipush 120, 2) := by decide +kernel
theorem dX1_broken_60 : decode cX1_broken 60 = .ok (.iload_n 2, 1) := by decide +kernel
theorem dX1_broken_61 : decode cX1_broken 61 = .ok (.iadd, 1) := by decide +kernel
theorem dX1_broken_62 : decode cX1_broken 62 = .ok (.invokevirtual 87, 3) := by decide +kernel
theorem dX1_broken_65 : decode cX1_broken 65 = .ok (.ifCond .ne 9, 3) := by decide +kernel
theorem dX1_broken_68 : decode cX1_broken 68 = .ok (.iinc 2 1, 3) := by decide +kernel
theorem dX1_broken_71 : decode cX1_broken 71 = .ok (.goto (-22), 3) := by decide +kernel
theorem dX1_broken_74 : decode cX1_broken 74 = .ok (.iload_n 2, 1) := by decide +kernel
theorem dX1_broken_75 : decode cX1_broken 75 = .ok (.aload_n 0, 1) := by decide +kernel
theorem dX1_broken_76 : decode cX1_broken 76 = .ok (.getfield 84, 3) := by decide +kernel
theorem dX1_broken_79 : decode cX1_broken 79 = .ok (.if_icmp .ge 18, 3) := by decide +kernel
theorem dX1_broken_82 : decode cX1_broken 82 = .ok (.sipush 256, 3) := by decide +kernel
theorem dX1_broken_85 : decode cX1_broken 85 = .ok (.aload_n 0, 1) := by decide +kernel
theorem dX1_broken_86 : decode cX1_broken 86 = .ok (.bipush 120, 2) := by decide +kernel
theorem dX1_broken_88 : decode cX1_broken 88 = .ok (.iload_n 2, 1) := by decide +kernel
theorem dX1_broken_89 : decode cX1_broken 89 = .ok (.iadd, 1) := by decide +kernel
theorem dX1_broken_90 : decode cX1_broken 90 = .ok (.invokevirtual 90, 3) := by decide +kernel
theorem dX1_broken_93 : decode cX1_broken 93 = .ok (.ior, 1) := by decide +kernel
theorem dX1_broken_94 : decode cX1_broken 94 = .ok (.goto 4, 3) := by decide +kernel
theorem dX1_broken_97 : decode cX1_broken 97 = .ok (.iconst 0, 1) := by decide +kernel
theorem dX1_broken_98 : decode cX1_broken 98 = .ok (.ireturn, 1) := by decide +kernel
theorem dX1_others_0 : decode cX1_others 0 = .ok (.iconst 0, 1) := by decide +kernel
theorem dX1_others_1 : decode cX1_others 1 = .ok (.istore_n 2, 1) := by decide +kernel
theorem dX1_others_2 : decode cX1_others 2 = .ok (.iconst 0, 1) := by decide +kernel
theorem dX1_others_3 : decode cX1_others 3 = .ok (.istore_n 3, 1) := by decide +kernel
theorem dX1_others_4 : decode cX1_others 4 = .ok (.iload_n 3, 1) := by decide +kernel
theorem dX1_others_5 : decode cX1_others 5 = .ok (.aload_n 0, 1) := by decide +kernel
theorem dX1_others_6 : decode cX1_others 6 = .ok (.getfield 40, 3) := by decide +kernel
theorem dX1_others_9 : decode cX1_others 9 = .ok (.iload_n 1, 1) := by decide +kernel
theorem dX1_others_10 : decode cX1_others 10 = .ok (.iaload, 1) := by decide +kernel
theorem dX1_others_11 : decode cX1_others 11 = .ok (.if_icmp .ge 24, 3) := by decide +kernel
theorem dX1_others_14 : decode cX1_others 14 = .ok (.iload_n 2, 1) := by decide +kernel
theorem dX1_others_15 : decode cX1_others 15 = .ok (.iconst 1, 1) := by decide +kernel
theorem dX1_others_16 : decode cX1_others 16 = .ok (.aload_n 0, 1) := by decide +kernel
theorem dX1_others_17 : decode cX1_others 17 = .ok (.getfield 43, 3) := by decide +kernel
theorem dX1_others_20 : decode cX1_others 20 = .ok (.iconst 3, 1) := by decide +kernel
theorem dX1_others_21 : decode cX1_others 21 = .ok (.iload_n 1, 1) := by decide +kernel
theorem dX1_others_22 : decode cX1_others 22 = .ok (.imul, 1) := by decide +kernel
theorem dX1_others_23 : decode cX1_others 23 = .ok (.iload_n 3, 1) := by decide +kernel
theorem dX1_others_24 : decode cX1_others 24 = .ok (.iadd, 1) := by decide +kernel
theorem dX1_others_25 : decode cX1_others 25 = .ok (.iaload, 1) := by decide +kernel
theorem dX1_others_26 : decode cX1_others 26 = .ok (.ishl, 1) := by decide +kernel
theorem dX1_others_27 : decode cX1_others 27 = .ok (.ior, 1) := by decide +kernel
theorem dX1_others_28 : decode cX1_others 28 = .ok (.istore_n 2, 1) := by decide +kernel
theorem dX1_others_29 : decode cX1_others 29 = .ok (.iinc 3 1, 3) := by decide +kernel
theorem dX1_others_32 : decode cX1_others 32 = .ok (.goto (-28), 3) := by decide +kernel
theorem dX1_others_35 : decode cX1_others 35 = .ok (.iload_n 2, 1) := by decide +kernel
theorem dX1_others_36 : decode cX1_others 36 = .ok (.ireturn, 1) := by decide +kernel
theorem dX1_arrange_0 : decode cX1_arrange 0 = .ok (.aload_n 0, 1) := by decide +kernel
theorem dX1_arrange_1 : decode cX1_arrange 1 = .ok (.iconst 0, 1) := by decide +kernel
theorem dX1_arrange_2 : decode cX1_arrange 2 = .ok (.putfield 94, 3) := by decide +kernel
theorem dX1_arrange_5 : decode cX1_arrange 5 = .ok (.bipush 120, 2) := by decide +kernel
theorem dX1_arrange_7 : decode cX1_arrange 7 = .ok (.istore_n 1, 1) := by decide +kernel
theorem dX1_arrange_8 : decode cX1_arrange 8 = .ok (.iload_n 1, 1) := by decide +kernel
theorem dX1_arrange_9 : decode cX1_arrange 9 = .ok (.bipush 120, 2) := by decide +kernel
theorem dX1_arrange_11 : decode cX1_arrange 11 = .ok (.aload_n 0, 1) := by decide +kernel
theorem dX1_arrange_12 : decode cX1_arrange 12 = .ok (.getfield 84, 3) := by decide +kernel
theorem dX1_arrange_15 : decode cX1_arrange 15 = .ok (.iadd, 1) := by decide +kernel
theorem dX1_arrange_16 : decode cX1_arrange 16 = .ok (.if_icmp .ge 50, 3) := by decide +kernel
theorem dX1_arrange_19 : decode cX1_arrange 19 = .ok (.iconst 0, 1) := by decide +kernel
theorem dX1_arrange_20 : decode cX1_arrange 20 = .ok (.istore_n 2, 1) := by decide +kernel
theorem dX1_arrange_21 : decode cX1_arrange 21 = .ok (.iload_n 2, 1) := by decide +kernel
theorem dX1_arrange_22 : decode cX1_arrange 22 = .ok (.aload_n 0, 1) := by decide +kernel
theorem dX1_arrange_23 : decode cX1_arrange 23 = .ok (.getfield 40, 3) := by decide +kernel
theorem dX1_arrange_26 : decode cX1_arrange 26 = .ok (.iload_n 1, 1) := by decide +kernel
theorem dX1_arrange_27 : decode cX1_arrange 27 = .ok (.iaload, 1) := by decide +kernel
theorem dX1_arrange_28 : decode cX1_arrange 28 = .ok (.if_icmp .ge 32, 3) := by decide +kernel
theorem dX1_arrange_31 : decode cX1_arrange 31 = .ok (.aload_n 0, 1) := by decide +kernel
theorem dX1_arrange_32 : decode cX1_arrange 32 = .ok (.getfield 37, 3) := by decide +kernel
theorem dX1_arrange_35 : decode cX1_arrange 35 = .ok (.iload_n 1, 1) := by decide +kernel
theorem dX1_arrange_36 : decode cX1_arrange 36 = .ok (.iaload, 1) := by decide +kernel
theorem dX1_arrange_37 : decode cX1_arrange 37 = .ok (.ifCond .ne 23, 3) := by decide +kernel
theorem dX1_arrange_40 : decode cX1_arrange 40 = .ok (.aload_n 0, 1) := by decide +kernel
theorem dX1_arrange_41 : decode cX1_arrange 41 = .ok (.aload_n 0, 1) := by decide +kernel
theorem dX1_arrange_42 : decode cX1_arrange 42 = .ok (.getfield 43, 3) := by decide +kernel
theorem dX1_arrange_45 : decode cX1_arrange 45 = .ok (.iconst 3, 1) := by decide +kernel
theorem dX1_arrange_46 : decode cX1_arrange 46 = .ok (.iload_n 1, 1) := by decide +kernel
theorem dX1_arrange_47 : decode cX1_arrange 47 = .ok (.imul, 1) := by decide +kernel
theorem dX1_arrange_48 : decode cX1_arrange 48 = .ok (.iload_n 2, 1) := by decide +kernel
theorem dX1_arrange_49 : decode cX1_arrange 49 = .ok (.iadd, 1) := by decide +kernel
theorem dX1_arrange_50 : decode cX1_arrange 50 = .ok (.iaload, 1) := by decide +kernel
theorem dX1_arrange_51 : decode cX1_arrange 51 = .ok (.invokevirtual 97, 3) := by decide +kernel
theorem dX1_arrange_54 : decode cX1_arrange 54 = .ok (.iinc 2 1, 3) := by decide +kernel
theorem dX1_arrange_57 : decode cX1_arrange 57 = .ok (.goto (-36), 3) := by decide +kernel
theorem dX1_arrange_60 : decode cX1_arrange 60 = .ok (.iinc 1 1, 3) := by decide +kernel
theorem dX1_arrange_63 : decode cX1_arrange 63 = .ok (.goto (-55), 3) := by decide +kernel
theorem dX1_arrange_66 : decode cX1_arrange 66 = .ok (.aload_n 0, 1) := by decide +kernel
theorem dX1_arrange_67 : decode cX1_arrange 67 = .ok (.getfield 94, 3) := by decide +kernel
theorem dX1_arrange_70 : decode cX1_arrange 70 = .ok (.istore_n 1, 1) := by decide +kernel
theorem dX1_arrange_71 : decode cX1_arrange 71 = .ok (.iconst 0, 1) := by decide +kernel
theorem dX1_arrange_72 : decode cX1_arrange 72 = .ok (.istore_n 2, 1) := by decide +kernel
theorem dX1_arrange_73 : decode cX1_arrange 73 = .ok (.iload_n 2, 1) := by decide +kernel
theorem dX1_arrange_74 : decode cX1_arrange 74 = .ok (.aload_n 0, 1) := by decide +kernel
theorem dX1_arrange_75 : decode cX1_arrange 75 = .ok (.getfield 66, 3) := by decide +kernel
theorem dX1_arrange_78 : decode cX1_arrange 78 = .ok (.if_icmp .ge 14, 3) := by decide +kernel
theorem dX1_arrange_81 : decode cX1_arrange 81 = .ok (.aload_n 0, 1) := by decide +kernel
theorem dX1_arrange_82 : decode cX1_arrange 82 = .ok (.iload_n 2, 1) := by decide +kernel
theorem dX1_arrange_83 : decode cX1_arrange 83 = .ok (.invokevirtual 97, 3) := by decide +kernel
theorem dX1_arrange_86 : decode cX1_arrange 86 = .ok (.iinc 2 1, 3) := by decide +kernel
theorem dX1_arrange_89 : decode cX1_arrange 89 = .ok (.goto (-16), 3) := by decide +kernel
theorem dX1_arrange_92 : decode cX1_arrange 92 = .ok (.aload_n 0, 1) := by decide +kernel
theorem dX1_arrange_93 : decode cX1_arrange 93 = .ok (.iload_n 1, 1) := by decide +kernel
theorem dX1_arrange_94 : decode cX1_arrange 94 = .ok (.putfield 94, 3) := by decide +kernel
theorem dX1_arrange_97 : decode cX1_arrange 97 = .ok (.return_, 1) := by decide +kernel
theorem dX1_place_0 : decode cX1_place 0 = .ok (.iconst 0, 1) := by decide +kernel
theorem dX1_place_1 : decode cX1_place 1 = .ok (.istore_n 2, 1) := by decide +kernel
theorem dX1_place_2 : decode cX1_place 2 = .ok (.iconst 0, 1) := by decide +kernel
theorem dX1_place_3 : decode cX1_place 3 = .ok (.istore_n 3, 1) := by decide +kernel
theorem dX1_place_4 : decode cX1_place 4 = .ok (.iload_n 3, 1) := by decide +kernel
theorem dX1_place_5 : decode cX1_place 5 = .ok (.aload_n 0, 1) := by decide +kernel
theorem dX1_place_6 : decode cX1_place 6 = .ok (.getfield 94, 3) := by decide +kernel
theorem dX1_place_9 : decode cX1_place 9 = .ok (.if_icmp .ge 29, 3) := by decide +kernel
theorem dX1_place_12 : decode cX1_place 12 = .ok (.iload_n 2, 1) := by decide +kernel
theorem dX1_place_13 : decode cX1_place 13 = .ok (.ifCond .ne 13, 3) := by decide +kernel
theorem dX1_place_16 : decode cX1_place 16 = .ok (.aload_n 0, 1) := by decide +kernel
theorem dX1_place_17 : decode cX1_place 17 = .ok (.getfield 22, 3) := by decide +kernel
theorem dX1_place_20 : decode cX1_place 20 = .ok (.iload_n 3, 1) := by decide +kernel
theorem dX1_place_21 : decode cX1_place 21 = .ok (.iaload, 1) := by decide +kernel
theorem dX1_place_22 : decode cX1_place 22 = .ok (.iload_n 1, 1) := by decide +kernel
theorem dX1_place_23 : decode cX1_place 23 = .ok (.if_icmp .ne 7, 3) := by decide +kernel
theorem dX1_place_26 : decode cX1_place 26 = .ok (.iconst 1, 1) := by decide +kernel
theorem dX1_place_27 : decode cX1_place 27 = .ok (.goto 4, 3) := by decide +kernel
theorem dX1_place_30 : decode cX1_place 30 = .ok (.iconst 0, 1) := by decide +kernel
theorem dX1_place_31 : decode cX1_place 31 = .ok (.istore_n 2, 1) := by decide +kernel
theorem dX1_place_32 : decode cX1_place 32 = .ok (.iinc 3 1, 3) := by decide +kernel
theorem dX1_place_35 : decode cX1_place 35 = .ok (.goto (-31), 3) := by decide +kernel
theorem dX1_place_38 : decode cX1_place 38 = .ok (.iload_n 2, 1) := by decide +kernel
theorem dX1_place_39 : decode cX1_place 39 = .ok (.ifCond .eq 4, 3) := by decide +kernel
theorem dX1_place_42 : decode cX1_place 42 = .ok (.return_, 1) := by decide +kernel
theorem dX1_place_43 : decode cX1_place 43 = .ok (.aload_n 0, 1) := by decide +kernel
theorem dX1_place_44 : decode cX1_place 44 = .ok (.getfield 22, 3) := by decide +kernel
theorem dX1_place_47 : decode cX1_place 47 = .ok (.aload_n 0, 1) := by decide +kernel
theorem dX1_place_48 : decode cX1_place 48 = .ok (.getfield 94, 3) := by decide +kernel
theorem dX1_place_51 : decode cX1_place 51 = .ok (.iload_n 1, 1) := by decide +kernel
theorem dX1_place_52 : decode cX1_place 52 = .ok (.iastore, 1) := by decide +kernel
theorem dX1_place_53 : decode cX1_place 53 = .ok (.aload_n 0, 1) := by decide +kernel
theorem dX1_place_54 : decode cX1_place 54 = .ok (.dup, 1) := by decide +kernel
theorem dX1_place_55 : decode cX1_place 55 = .ok (.getfield 94, 3) := by decide +kernel
theorem dX1_place_58 : decode cX1_place 58 = .ok (.iconst 1, 1) := by decide +kernel
theorem dX1_place_59 : decode cX1_place 59 = .ok (.iadd, 1) := by decide +kernel
theorem dX1_place_60 : decode cX1_place 60 = .ok (.putfield 94, 3) := by decide +kernel
theorem dX1_place_63 : decode cX1_place 63 = .ok (.return_, 1) := by decide +kernel
theorem dX1_rank_0 : decode cX1_rank 0 = .ok (.aload_n 0, 1) := by decide +kernel
theorem dX1_rank_1 : decode cX1_rank 1 = .ok (.getfield 22, 3) := by decide +kernel
theorem dX1_rank_4 : decode cX1_rank 4 = .ok (.iload_n 1, 1) := by decide +kernel
theorem dX1_rank_5 : decode cX1_rank 5 = .ok (.iaload, 1) := by decide +kernel
theorem dX1_rank_6 : decode cX1_rank 6 = .ok (.istore_n 3, 1) := by decide +kernel
theorem dX1_rank_7 : decode cX1_rank 7 = .ok (.iload_n 2, 1) := by decide +kernel
theorem dX1_rank_8 : decode cX1_rank 8 = .ok (.aload_n 0, 1) := by decide +kernel
theorem dX1_rank_9 : decode cX1_rank 9 = .ok (.getfield 13, 3) := by decide +kernel
theorem dX1_rank_12 : decode cX1_rank 12 = .ok (.iload_n 3, 1) := by decide +kernel
theorem dX1_rank_13 : decode cX1_rank 13 = .ok (.iaload, 1) := by decide +kernel
theorem dX1_rank_14 : decode cX1_rank 14 = .ok (.if_icmp .ne 10, 3) := by decide +kernel
theorem dX1_rank_17 : decode cX1_rank 17 = .ok (.iload_n 2, 1) := by decide +kernel
theorem dX1_rank_18 : decode cX1_rank 18 = .ok (.iconst (-1), 1) := by decide +kernel
theorem dX1_rank_19 : decode cX1_rank 19 = .ok (.if_icmp .eq 5, 3) := by decide +kernel
theorem dX1_rank_22 : decode cX1_rank 22 = .ok (.iconst 0, 1) := by decide +kernel
theorem dX1_rank_23 : decode cX1_rank 23 = .ok (.ireturn, 1) := by decide +kernel
theorem dX1_rank_24 : decode cX1_rank 24 = .ok (.iload_n 2, 1) := by decide +kernel
theorem dX1_rank_25 : decode cX1_rank 25 = .ok (.iconst (-1), 1) := by decide +kernel
theorem dX1_rank_26 : decode cX1_rank 26 = .ok (.if_icmp .ne 12, 3) := by decide +kernel
theorem dX1_rank_29 : decode cX1_rank 29 = .ok (.aload_n 0, 1) := by decide +kernel
theorem dX1_rank_30 : decode cX1_rank 30 = .ok (.getfield 7, 3) := by decide +kernel
theorem dX1_rank_33 : decode cX1_rank 33 = .ok (.iload_n 3, 1) := by decide +kernel
theorem dX1_rank_34 : decode cX1_rank 34 = .ok (.iaload, 1) := by decide +kernel
theorem dX1_rank_35 : decode cX1_rank 35 = .ok (.goto 13, 3) := by decide +kernel
theorem dX1_rank_38 : decode cX1_rank 38 = .ok (.aload_n 0, 1) := by decide +kernel
theorem dX1_rank_39 : decode cX1_rank 39 = .ok (.getfield 7, 3) := by decide +kernel
theorem dX1_rank_42 : decode cX1_rank 42 = .ok (.iload_n 3, 1) := by decide +kernel
theorem dX1_rank_43 : decode cX1_rank 43 = .ok (.iaload, 1) := by decide +kernel
theorem dX1_rank_44 : decode cX1_rank 44 = .ok (.iconst 1, 1) := by decide +kernel
theorem dX1_rank_45 : decode cX1_rank 45 = .ok (.isub, 1) := by decide +kernel
theorem dX1_rank_46 : decode cX1_rank 46 = .ok (.iload_n 2, 1) := by decide +kernel
theorem dX1_rank_47 : decode cX1_rank 47 = .ok (.isub, 1) := by decide +kernel
theorem dX1_rank_48 : decode cX1_rank 48 = .ok (.istore 4, 2) := by decide +kernel
theorem dX1_rank_50 : decode cX1_rank 50 = .ok (.aload_n 0, 1) := by decide +kernel
theorem dX1_rank_51 : decode cX1_rank 51 = .ok (.getfield 13, 3) := by decide +kernel
theorem dX1_rank_54 : decode cX1_rank 54 = .ok (.iload_n 3, 1) := by decide +kernel
theorem dX1_rank_55 : decode cX1_rank 55 = .ok (.iaload, 1) := by decide +kernel
theorem dX1_rank_56 : decode cX1_rank 56 = .ok (.iconst (-1), 1) := by decide +kernel
theorem dX1_rank_57 : decode cX1_rank 57 = .ok (.if_icmp .eq 16, 3) := by decide +kernel
theorem dX1_rank_60 : decode cX1_rank 60 = .ok (.iload_n 2, 1) := by decide +kernel
theorem dX1_rank_61 : decode cX1_rank 61 = .ok (.aload_n 0, 1) := by decide +kernel
theorem dX1_rank_62 : decode cX1_rank 62 = .ok (.getfield 13, 3) := by decide +kernel
theorem dX1_rank_65 : decode cX1_rank 65 = .ok (.iload_n 3, 1) := by decide +kernel
theorem dX1_rank_66 : decode cX1_rank 66 = .ok (.iaload, 1) := by decide +kernel
theorem dX1_rank_67 : decode cX1_rank 67 = .ok (.if_icmp .ge 6, 3) := by decide +kernel
theorem dX1_rank_70 : decode cX1_rank 70 = .ok (.iinc 4 (-1), 3) := by decide +kernel
theorem dX1_rank_73 : decode cX1_rank 73 = .ok (.aload_n 0, 1) := by decide +kernel
theorem dX1_rank_74 : decode cX1_rank 74 = .ok (.getfield 13, 3) := by decide +kernel
theorem dX1_rank_77 : decode cX1_rank 77 = .ok (.iload_n 3, 1) := by decide +kernel
theorem dX1_rank_78 : decode cX1_rank 78 = .ok (.iaload, 1) := by decide +kernel
theorem dX1_rank_79 : decode cX1_rank 79 = .ok (.iconst (-1), 1) := by decide +kernel
theorem dX1_rank_80 : decode cX1_rank 80 = .ok (.if_icmp .eq 7, 3) := by decide +kernel
theorem dX1_rank_83 : decode cX1_rank 83 = .ok (.iconst 1, 1) := by decide +kernel
theorem dX1_rank_84 : decode cX1_rank 84 = .ok (.goto 4, 3) := by decide +kernel
theorem dX1_rank_87 : decode cX1_rank 87 = .ok (.iconst 0, 1) := by decide +kernel
theorem dX1_rank_88 : decode cX1_rank 88 = .ok (.istore 5, 2) := by decide +kernel
theorem dX1_rank_90 : decode cX1_rank 90 = .ok (.iload_n 1, 1) := by decide +kernel
theorem dX1_rank_91 : decode cX1_rank 91 = .ok (.aload_n 0, 1) := by decide +kernel
theorem dX1_rank_92 : decode cX1_rank 92 = .ok (.getfield 94, 3) := by decide +kernel
theorem dX1_rank_95 : decode cX1_rank 95 = .ok (.if_icmp .ge 11, 3) := by decide +kernel
theorem dX1_rank_98 : decode cX1_rank 98 = .ok (.iload 5, 2) := by decide +kernel
theorem dX1_rank_100 : decode cX1_rank 100 = .ok (.iload 4, 2) := by decide +kernel
theorem dX1_rank_102 : decode cX1_rank 102 = .ok (.iadd, 1) := by decide +kernel
theorem dX1_rank_103 : decode cX1_rank 103 = .ok (.goto 20, 3) := by decide +kernel
theorem dX1_rank_106 : decode cX1_rank 106 = .ok (.iload_n 2, 1) := by decide +kernel
theorem dX1_rank_107 : decode cX1_rank 107 = .ok (.iconst (-1), 1) := by decide +kernel
theorem dX1_rank_108 : decode cX1_rank 108 = .ok (.if_icmp .ne 8, 3) := by decide +kernel
theorem dX1_rank_111 : decode cX1_rank 111 = .ok (.iload 5, 2) := by decide +kernel
theorem dX1_rank_113 : decode cX1_rank 113 = .ok (.goto 10, 3) := by decide +kernel
theorem dX1_rank_116 : decode cX1_rank 116 = .ok (.iload 5, 2) := by decide +kernel
theorem dX1_rank_118 : decode cX1_rank 118 = .ok (.iconst 1, 1) := by decide +kernel
theorem dX1_rank_119 : decode cX1_rank 119 = .ok (.iadd, 1) := by decide +kernel
theorem dX1_rank_120 : decode cX1_rank 120 = .ok (.iload 4, 2) := by decide +kernel
theorem dX1_rank_122 : decode cX1_rank 122 = .ok (.iadd, 1) := by decide +kernel
theorem dX1_rank_123 : decode cX1_rank 123 = .ok (.ireturn, 1) := by decide +kernel
theorem dX1_ranked_0 : decode cX1_ranked 0 = .ok (.iconst (-1), 1) := by decide +kernel
theorem dX1_ranked_1 : decode cX1_ranked 1 = .ok (.istore_n 3, 1) := by decide +kernel
theorem dX1_ranked_2 : decode cX1_ranked 2 = .ok (.aload_n 0, 1) := by decide +kernel
theorem dX1_ranked_3 : decode cX1_ranked 3 = .ok (.iload_n 1, 1) := by decide +kernel
theorem dX1_ranked_4 : decode cX1_ranked 4 = .ok (.iload_n 3, 1) := by decide +kernel
theorem dX1_ranked_5 : decode cX1_ranked 5 = .ok (.invokevirtual 101, 3) := by decide +kernel
theorem dX1_ranked_8 : decode cX1_ranked 8 = .ok (.iload_n 2, 1) := by decide +kernel
theorem dX1_ranked_9 : decode cX1_ranked 9 = .ok (.if_icmp .eq 9, 3) := by decide +kernel
theorem dX1_ranked_12 : decode cX1_ranked 12 = .ok (.iinc 3 1, 3) := by decide +kernel
theorem dX1_ranked_15 : decode cX1_ranked 15 = .ok (.goto (-13), 3) := by decide +kernel
theorem dX1_ranked_18 : decode cX1_ranked 18 = .ok (.iload_n 3, 1) := by decide +kernel
theorem dX1_ranked_19 : decode cX1_ranked 19 = .ok (.ireturn, 1) := by decide +kernel
theorem dX1_search_0 : decode cX1_search 0 = .ok (.aload_n 0, 1) := by decide +kernel
theorem dX1_search_1 : decode cX1_search 1 = .ok (.invokevirtual 105, 3) := by decide +kernel
theorem dX1_search_4 : decode cX1_search 4 = .ok (.iconst 0, 1) := by decide +kernel
theorem dX1_search_5 : decode cX1_search 5 = .ok (.istore_n 3, 1) := by decide +kernel
theorem dX1_search_6 : decode cX1_search 6 = .ok (.iload_n 3, 1) := by decide +kernel
theorem dX1_search_7 : decode cX1_search 7 = .ok (.bipush 8, 2) := by decide +kernel
theorem dX1_search_9 : decode cX1_search 9 = .ok (.if_icmp .ge 17, 3) := by decide +kernel
theorem dX1_search_12 : decode cX1_search 12 = .ok (.aload_n 0, 1) := by decide +kernel
theorem dX1_search_13 : decode cX1_search 13 = .ok (.getfield 19, 3) := by decide +kernel
theorem dX1_search_16 : decode cX1_search 16 = .ok (.iload_n 3, 1) := by decide +kernel
theorem dX1_search_17 : decode cX1_search 17 = .ok (.bipush (-2), 2) := by decide +kernel
theorem dX1_search_19 : decode cX1_search 19 = .ok (.iastore, 1) := by decide +kernel
theorem dX1_search_20 : decode cX1_search 20 = .ok (.iinc 3 1, 3) := by decide +kernel
theorem dX1_search_23 : decode cX1_search 23 = .ok (.goto (-17), 3) := by decide +kernel
theorem dX1_search_26 : decode cX1_search 26 = .ok (.iconst 0, 1) := by decide +kernel
theorem dX1_search_27 : decode cX1_search 27 = .ok (.istore_n 3, 1) := by decide +kernel
theorem dX1_search_28 : decode cX1_search 28 = .ok (.aload_n 0, 1) := by decide +kernel
theorem dX1_search_29 : decode cX1_search 29 = .ok (.getfield 25, 3) := by decide +kernel
theorem dX1_search_32 : decode cX1_search 32 = .ok (.iconst 0, 1) := by decide +kernel
theorem dX1_search_33 : decode cX1_search 33 = .ok (.iconst 0, 1) := by decide +kernel
theorem dX1_search_34 : decode cX1_search 34 = .ok (.iastore, 1) := by decide +kernel
theorem dX1_search_35 : decode cX1_search 35 = .ok (.aload_n 0, 1) := by decide +kernel
theorem dX1_search_36 : decode cX1_search 36 = .ok (.getfield 28, 3) := by decide +kernel
theorem dX1_search_39 : decode cX1_search 39 = .ok (.iconst 0, 1) := by decide +kernel
theorem dX1_search_40 : decode cX1_search 40 = .ok (.iconst 0, 1) := by decide +kernel
theorem dX1_search_41 : decode cX1_search 41 = .ok (.iastore, 1) := by decide +kernel
theorem dX1_search_42 : decode cX1_search 42 = .ok (.iload_n 3, 1) := by decide +kernel
theorem dX1_search_43 : decode cX1_search 43 = .ok (.ifCond .lt 139, 3) := by decide +kernel
theorem dX1_search_46 : decode cX1_search 46 = .ok (.iload_n 3, 1) := by decide +kernel
theorem dX1_search_47 : decode cX1_search 47 = .ok (.aload_n 0, 1) := by decide +kernel
theorem dX1_search_48 : decode cX1_search 48 = .ok (.getfield 66, 3) := by decide +kernel
theorem dX1_search_51 : decode cX1_search 51 = .ok (.if_icmp .ge 131, 3) := by decide +kernel
theorem dX1_search_54 : decode cX1_search 54 = .ok (.aload_n 0, 1) := by decide +kernel
theorem dX1_search_55 : decode cX1_search 55 = .ok (.iload_n 3, 1) := by decide +kernel
theorem dX1_search_56 : decode cX1_search 56 = .ok (.iload_n 1, 1) := by decide +kernel
theorem dX1_search_57 : decode cX1_search 57 = .ok (.iload_n 2, 1) := by decide +kernel
theorem dX1_search_58 : decode cX1_search 58 = .ok (.invokevirtual 108, 3) := by decide +kernel
theorem dX1_search_61 : decode cX1_search 61 = .ok (.ifCond .eq 31, 3) := by decide +kernel
theorem dX1_search_64 : decode cX1_search 64 = .ok (.iinc 3 1, 3) := by decide +kernel
theorem dX1_search_67 : decode cX1_search 67 = .ok (.iload_n 3, 1) := by decide +kernel
theorem dX1_search_68 : decode cX1_search 68 = .ok (.aload_n 0, 1) := by decide +kernel
theorem dX1_search_69 : decode cX1_search 69 = .ok (.getfield 66, 3) := by decide +kernel
theorem dX1_search_72 : decode cX1_search 72 = .ok (.if_icmp .ge (-30), 3) := by decide +kernel
theorem dX1_search_75 : decode cX1_search 75 = .ok (.aload_n 0, 1) := by decide +kernel
theorem dX1_search_76 : decode cX1_search 76 = .ok (.getfield 25, 3) := by decide +kernel
theorem dX1_search_79 : decode cX1_search 79 = .ok (.iload_n 3, 1) := by decide +kernel
theorem dX1_search_80 : decode cX1_search 80 = .ok (.iconst 0, 1) := by decide +kernel
theorem dX1_search_81 : decode cX1_search 81 = .ok (.iastore, 1) := by decide +kernel
theorem dX1_search_82 : decode cX1_search 82 = .ok (.aload_n 0, 1) := by decide +kernel
theorem dX1_search_83 : decode cX1_search 83 = .ok (.getfield 28, 3) := by decide +kernel
theorem dX1_search_86 : decode cX1_search 86 = .ok (.iload_n 3, 1) := by decide +kernel
theorem dX1_search_87 : decode cX1_search 87 = .ok (.iconst 0, 1) := by decide +kernel
theorem dX1_search_88 : decode cX1_search 88 = .ok (.iastore, 1) := by decide +kernel
theorem dX1_search_89 : decode cX1_search 89 = .ok (.goto (-47), 3) := by decide +kernel
theorem dX1_search_92 : decode cX1_search 92 = .ok (.aload_n 0, 1) := by decide +kernel
theorem dX1_search_93 : decode cX1_search 93 = .ok (.getfield 28, 3) := by decide +kernel
theorem dX1_search_96 : decode cX1_search 96 = .ok (.iload_n 3, 1) := by decide +kernel
theorem dX1_search_97 : decode cX1_search 97 = .ok (.iaload, 1) := by decide +kernel
theorem dX1_search_98 : decode cX1_search 98 = .ok (.iconst 1, 1) := by decide +kernel
theorem dX1_search_99 : decode cX1_search 99 = .ok (.aload_n 0, 1) := by decide +kernel
theorem dX1_search_100 : decode cX1_search 100 = .ok (.getfield 22, 3) := by decide +kernel
theorem dX1_search_103 : decode cX1_search 103 = .ok (.iload_n 3, 1) := by decide +kernel
theorem dX1_search_104 : decode cX1_search 104 = .ok (.iaload, 1) := by decide +kernel
theorem dX1_search_105 : decode cX1_search 105 = .ok (.ishl, 1) := by decide +kernel
theorem dX1_search_106 : decode cX1_search 106 = .ok (.iconst (-1), 1) := by decide +kernel
theorem dX1_search_107 : decode cX1_search 107 = .ok (.ixor, 1) := by decide +kernel
theorem dX1_search_108 : decode cX1_search 108 = .ok (.iand, 1) := by decide +kernel
theorem dX1_search_109 : decode cX1_search 109 = .ok (.istore 4, 2) := by decide +kernel
theorem dX1_search_111 : decode cX1_search 111 = .ok (.aload_n 0, 1) := by decide +kernel
theorem dX1_search_112 : decode cX1_search 112 = .ok (.getfield 19, 3) := by decide +kernel
theorem dX1_search_115 : decode cX1_search 115 = .ok (.aload_n 0, 1) := by decide +kernel
theorem dX1_search_116 : decode cX1_search 116 = .ok (.getfield 22, 3) := by decide +kernel
theorem dX1_search_119 : decode cX1_search 119 = .ok (.iload_n 3, 1) := by decide +kernel
theorem dX1_search_120 : decode cX1_search 120 = .ok (.iaload, 1) := by decide +kernel
theorem dX1_search_121 : decode cX1_search 121 = .ok (.bipush (-2), 2) := by decide +kernel
theorem dX1_search_123 : decode cX1_search 123 = .ok (.iastore, 1) := by decide +kernel
theorem dX1_search_124 : decode cX1_search 124 = .ok (.iinc 3 (-1), 3) := by decide +kernel
theorem dX1_search_127 : decode cX1_search 127 = .ok (.iload_n 3, 1) := by decide +kernel
theorem dX1_search_128 : decode cX1_search 128 = .ok (.ifCond .lt 36, 3) := by decide +kernel
theorem dX1_search_131 : decode cX1_search 131 = .ok (.iload 4, 2) := by decide +kernel
theorem dX1_search_133 : decode cX1_search 133 = .ok (.aload_n 0, 1) := by decide +kernel
theorem dX1_search_134 : decode cX1_search 134 = .ok (.getfield 22, 3) := by decide +kernel
theorem dX1_search_137 : decode cX1_search 137 = .ok (.iload_n 3, 1) := by decide +kernel
theorem dX1_search_138 : decode cX1_search 138 = .ok (.iaload, 1) := by decide +kernel
theorem dX1_search_139 : decode cX1_search 139 = .ok (.ishr, 1) := by decide +kernel
theorem dX1_search_140 : decode cX1_search 140 = .ok (.iconst 1, 1) := by decide +kernel
theorem dX1_search_141 : decode cX1_search 141 = .ok (.iand, 1) := by decide +kernel
theorem dX1_search_142 : decode cX1_search 142 = .ok (.ifCond .ne 22, 3) := by decide +kernel
theorem dX1_search_145 : decode cX1_search 145 = .ok (.aload_n 0, 1) := by decide +kernel
theorem dX1_search_146 : decode cX1_search 146 = .ok (.getfield 19, 3) := by decide +kernel
theorem dX1_search_149 : decode cX1_search 149 = .ok (.aload_n 0, 1) := by decide +kernel
theorem dX1_search_150 : decode cX1_search 150 = .ok (.getfield 22, 3) := by decide +kernel
theorem dX1_search_153 : decode cX1_search 153 = .ok (.iload_n 3, 1) := by decide +kernel
theorem dX1_search_154 : decode cX1_search 154 = .ok (.iaload, 1) := by decide +kernel
theorem dX1_search_155 : decode cX1_search 155 = .ok (.bipush (-2), 2) := by decide +kernel
theorem dX1_search_157 : decode cX1_search 157 = .ok (.iastore, 1) := by decide +kernel
theorem dX1_search_158 : decode cX1_search 158 = .ok (.iinc 3 (-1), 3) := by decide +kernel
theorem dX1_search_161 : decode cX1_search 161 = .ok (.goto (-34), 3) := by decide +kernel
theorem dX1_search_164 : decode cX1_search 164 = .ok (.iload_n 3, 1) := by decide +kernel
theorem dX1_search_165 : decode cX1_search 165 = .ok (.ifCond .lt 14, 3) := by decide +kernel
theorem dX1_search_168 : decode cX1_search 168 = .ok (.aload_n 0, 1) := by decide +kernel
theorem dX1_search_169 : decode cX1_search 169 = .ok (.getfield 28, 3) := by decide +kernel
theorem dX1_search_172 : decode cX1_search 172 = .ok (.iload_n 3, 1) := by decide +kernel
theorem dX1_search_173 : decode cX1_search 173 = .ok (.dup2, 1) := by decide +kernel
theorem dX1_search_174 : decode cX1_search 174 = .ok (.iaload, 1) := by decide +kernel
theorem dX1_search_175 : decode cX1_search 175 = .ok (.iload 4, 2) := by decide +kernel
theorem dX1_search_177 : decode cX1_search 177 = .ok (.ior, 1) := by decide +kernel
theorem dX1_search_178 : decode cX1_search 178 = .ok (.iastore, 1) := by decide +kernel
theorem dX1_search_179 : decode cX1_search 179 = .ok (.goto (-137), 3) := by decide +kernel
theorem dX1_search_182 : decode cX1_search 182 = .ok (.iload_n 3, 1) := by decide +kernel
theorem dX1_search_183 : decode cX1_search 183 = .ok (.ifCond .lt 21, 3) := by decide +kernel
theorem dX1_search_186 : decode cX1_search 186 = .ok (.aload_n 0, 1) := by decide +kernel
theorem dX1_search_187 : decode cX1_search 187 = .ok (.getfield 66, 3) := by decide +kernel
theorem dX1_search_190 : decode cX1_search 190 = .ok (.ifCond .gt 10, 3) := by decide +kernel
theorem dX1_search_193 : decode cX1_search 193 = .ok (.aload_n 0, 1) := by decide +kernel
theorem dX1_search_194 : decode cX1_search 194 = .ok (.invokevirtual 112, 3) := by decide +kernel
theorem dX1_search_197 : decode cX1_search 197 = .ok (.ifCond .ne 7, 3) := by decide +kernel
theorem dX1_search_200 : decode cX1_search 200 = .ok (.iconst 1, 1) := by decide +kernel
theorem dX1_search_201 : decode cX1_search 201 = .ok (.goto 4, 3) := by decide +kernel
theorem dX1_search_204 : decode cX1_search 204 = .ok (.iconst 0, 1) := by decide +kernel
theorem dX1_search_205 : decode cX1_search 205 = .ok (.ireturn, 1) := by decide +kernel
theorem dX1_goes_0 : decode cX1_goes 0 = .ok (.aload_n 0, 1) := by decide +kernel
theorem dX1_goes_1 : decode cX1_goes 1 = .ok (.getfield 22, 3) := by decide +kernel
theorem dX1_goes_4 : decode cX1_goes 4 = .ok (.iload_n 1, 1) := by decide +kernel
theorem dX1_goes_5 : decode cX1_goes 5 = .ok (.iaload, 1) := by decide +kernel
theorem dX1_goes_6 : decode cX1_goes 6 = .ok (.istore 4, 2) := by decide +kernel
theorem dX1_goes_8 : decode cX1_goes 8 = .ok (.aload_n 0, 1) := by decide +kernel
theorem dX1_goes_9 : decode cX1_goes 9 = .ok (.getfield 19, 3) := by decide +kernel
theorem dX1_goes_12 : decode cX1_goes 12 = .ok (.iload 4, 2) := by decide +kernel
theorem dX1_goes_14 : decode cX1_goes 14 = .ok (.bipush (-2), 2) := by decide +kernel
theorem dX1_goes_16 : decode cX1_goes 16 = .ok (.iastore, 1) := by decide +kernel
theorem dX1_goes_17 : decode cX1_goes 17 = .ok (.aload_n 0, 1) := by decide +kernel
theorem dX1_goes_18 : decode cX1_goes 18 = .ok (.getfield 25, 3) := by decide +kernel
theorem dX1_goes_21 : decode cX1_goes 21 = .ok (.iload_n 1, 1) := by decide +kernel
theorem dX1_goes_22 : decode cX1_goes 22 = .ok (.iaload, 1) := by decide +kernel
theorem dX1_goes_23 : decode cX1_goes 23 = .ok (.aload_n 0, 1) := by decide +kernel
theorem dX1_goes_24 : decode cX1_goes 24 = .ok (.getfield 7, 3) := by decide +kernel
theorem dX1_goes_27 : decode cX1_goes 27 = .ok (.iload 4, 2) := by decide +kernel
theorem dX1_goes_29 : decode cX1_goes 29 = .ok (.iaload, 1) := by decide +kernel
theorem dX1_goes_30 : decode cX1_goes 30 = .ok (.if_icmp .gt 78, 3) := by decide +kernel
theorem dX1_goes_33 : decode cX1_goes 33 = .ok (.aload_n 0, 1) := by decide +kernel
theorem dX1_goes_34 : decode cX1_goes 34 = .ok (.getfield 19, 3) := by decide +kernel
theorem dX1_goes_37 : decode cX1_goes 37 = .ok (.iload 4, 2) := by decide +kernel
theorem dX1_goes_39 : decode cX1_goes 39 = .ok (.aload_n 0, 1) := by decide +kernel
theorem dX1_goes_40 : decode cX1_goes 40 = .ok (.iload_n 1, 1) := by decide +kernel
theorem dX1_goes_41 : decode cX1_goes 41 = .ok (.aload_n 0, 1) := by decide +kernel
theorem dX1_goes_42 : decode cX1_goes 42 = .ok (.getfield 25, 3) := by decide +kernel
theorem dX1_goes_45 : decode cX1_goes 45 = .ok (.iload_n 1, 1) := by decide +kernel
theorem dX1_goes_46 : decode cX1_goes 46 = .ok (.iaload, 1) := by decide +kernel
theorem dX1_goes_47 : decode cX1_goes 47 = .ok (.invokevirtual 116, 3) := by decide +kernel
theorem dX1_goes_50 : decode cX1_goes 50 = .ok (.iastore, 1) := by decide +kernel
theorem dX1_goes_51 : decode cX1_goes 51 = .ok (.aload_n 0, 1) := by decide +kernel
theorem dX1_goes_52 : decode cX1_goes 52 = .ok (.getfield 25, 3) := by decide +kernel
theorem dX1_goes_55 : decode cX1_goes 55 = .ok (.iload_n 1, 1) := by decide +kernel
theorem dX1_goes_56 : decode cX1_goes 56 = .ok (.dup2, 1) := by decide +kernel
theorem dX1_goes_57 : decode cX1_goes 57 = .ok (.iaload, 1) := by decide +kernel
theorem dX1_goes_58 : decode cX1_goes 58 = .ok (.iconst 1, 1) := by decide +kernel
theorem dX1_goes_59 : decode cX1_goes 59 = .ok (.iadd, 1) := by decide +kernel
theorem dX1_goes_60 : decode cX1_goes 60 = .ok (.iastore, 1) := by decide +kernel
theorem dX1_goes_61 : decode cX1_goes 61 = .ok (.iload 4, 2) := by decide +kernel
theorem dX1_goes_63 : decode cX1_goes 63 = .ok (.iload_n 2, 1) := by decide +kernel
theorem dX1_goes_64 : decode cX1_goes 64 = .ok (.if_icmp .ne 17, 3) := by decide +kernel
theorem dX1_goes_67 : decode cX1_goes 67 = .ok (.aload_n 0, 1) := by decide +kernel
theorem dX1_goes_68 : decode cX1_goes 68 = .ok (.getfield 19, 3) := by decide +kernel
theorem dX1_goes_71 : decode cX1_goes 71 = .ok (.iload 4, 2) := by decide +kernel
theorem dX1_goes_73 : decode cX1_goes 73 = .ok (.iaload, 1) := by decide +kernel
theorem dX1_goes_74 : decode cX1_goes 74 = .ok (.iload_n 3, 1) := by decide +kernel
theorem dX1_goes_75 : decode cX1_goes 75 = .ok (.if_icmp .eq 6, 3) := by decide +kernel
theorem dX1_goes_78 : decode cX1_goes 78 = .ok (.goto (-61), 3) := by decide +kernel
theorem dX1_goes_81 : decode cX1_goes 81 = .ok (.aload_n 0, 1) := by decide +kernel
theorem dX1_goes_82 : decode cX1_goes 82 = .ok (.invokevirtual 112, 3) := by decide +kernel
theorem dX1_goes_85 : decode cX1_goes 85 = .ok (.istore 5, 2) := by decide +kernel
theorem dX1_goes_87 : decode cX1_goes 87 = .ok (.iload 5, 2) := by decide +kernel
theorem dX1_goes_89 : decode cX1_goes 89 = .ok (.ifCond .ne 5, 3) := by decide +kernel
theorem dX1_goes_92 : decode cX1_goes 92 = .ok (.iconst 1, 1) := by decide +kernel
theorem dX1_goes_93 : decode cX1_goes 93 = .ok (.ireturn, 1) := by decide +kernel
theorem dX1_goes_94 : decode cX1_goes 94 = .ok (.aload_n 0, 1) := by decide +kernel
theorem dX1_goes_95 : decode cX1_goes 95 = .ok (.getfield 28, 3) := by decide +kernel
theorem dX1_goes_98 : decode cX1_goes 98 = .ok (.iload_n 1, 1) := by decide +kernel
theorem dX1_goes_99 : decode cX1_goes 99 = .ok (.dup2, 1) := by decide +kernel
theorem dX1_goes_100 : decode cX1_goes 100 = .ok (.iaload, 1) := by decide +kernel
theorem dX1_goes_101 : decode cX1_goes 101 = .ok (.iload 5, 2) := by decide +kernel
theorem dX1_goes_103 : decode cX1_goes 103 = .ok (.ior, 1) := by decide +kernel
theorem dX1_goes_104 : decode cX1_goes 104 = .ok (.iastore, 1) := by decide +kernel
theorem dX1_goes_105 : decode cX1_goes 105 = .ok (.goto (-88), 3) := by decide +kernel
theorem dX1_goes_108 : decode cX1_goes 108 = .ok (.iconst 0, 1) := by decide +kernel
theorem dX1_goes_109 : decode cX1_goes 109 = .ok (.ireturn, 1) := by decide +kernel
theorem dX1_none_0 : decode cX1_none 0 = .ok (.iconst 0, 1) := by decide +kernel
theorem dX1_none_1 : decode cX1_none 1 = .ok (.istore_n 1, 1) := by decide +kernel
theorem dX1_none_2 : decode cX1_none 2 = .ok (.iload_n 1, 1) := by decide +kernel
theorem dX1_none_3 : decode cX1_none 3 = .ok (.bipush 12, 2) := by decide +kernel
theorem dX1_none_5 : decode cX1_none 5 = .ok (.if_icmp .ge 16, 3) := by decide +kernel
theorem dX1_none_8 : decode cX1_none 8 = .ok (.aload_n 0, 1) := by decide +kernel
theorem dX1_none_9 : decode cX1_none 9 = .ok (.getfield 53, 3) := by decide +kernel
theorem dX1_none_12 : decode cX1_none 12 = .ok (.iload_n 1, 1) := by decide +kernel
theorem dX1_none_13 : decode cX1_none 13 = .ok (.iconst 0, 1) := by decide +kernel
theorem dX1_none_14 : decode cX1_none 14 = .ok (.bastore, 1) := by decide +kernel
theorem dX1_none_15 : decode cX1_none 15 = .ok (.iinc 1 1, 3) := by decide +kernel
theorem dX1_none_18 : decode cX1_none 18 = .ok (.goto (-16), 3) := by decide +kernel
theorem dX1_none_21 : decode cX1_none 21 = .ok (.return_, 1) := by decide +kernel
theorem dX1_solve_0 : decode cX1_solve 0 = .ok (.aload_n 0, 1) := by decide +kernel
theorem dX1_solve_1 : decode cX1_solve 1 = .ok (.iconst 0, 1) := by decide +kernel
theorem dX1_solve_2 : decode cX1_solve 2 = .ok (.putfield 63, 3) := by decide +kernel
theorem dX1_solve_5 : decode cX1_solve 5 = .ok (.aload_n 0, 1) := by decide +kernel
theorem dX1_solve_6 : decode cX1_solve 6 = .ok (.invokevirtual 119, 3) := by decide +kernel
theorem dX1_solve_9 : decode cX1_solve 9 = .ok (.aload_n 0, 1) := by decide +kernel
theorem dX1_solve_10 : decode cX1_solve 10 = .ok (.iconst (-1), 1) := by decide +kernel
theorem dX1_solve_11 : decode cX1_solve 11 = .ok (.iconst (-1), 1) := by decide +kernel
theorem dX1_solve_12 : decode cX1_solve 12 = .ok (.invokevirtual 122, 3) := by decide +kernel
theorem dX1_solve_15 : decode cX1_solve 15 = .ok (.istore_n 1, 1) := by decide +kernel
theorem dX1_solve_16 : decode cX1_solve 16 = .ok (.iconst 0, 1) := by decide +kernel
theorem dX1_solve_17 : decode cX1_solve 17 = .ok (.istore_n 2, 1) := by decide +kernel
theorem dX1_solve_18 : decode cX1_solve 18 = .ok (.iload_n 2, 1) := by decide +kernel
theorem dX1_solve_19 : decode cX1_solve 19 = .ok (.bipush 8, 2) := by decide +kernel
theorem dX1_solve_21 : decode cX1_solve 21 = .ok (.if_icmp .ge 37, 3) := by decide +kernel
theorem dX1_solve_24 : decode cX1_solve 24 = .ok (.aload_n 0, 1) := by decide +kernel
theorem dX1_solve_25 : decode cX1_solve 25 = .ok (.getfield 16, 3) := by decide +kernel
theorem dX1_solve_28 : decode cX1_solve 28 = .ok (.iload_n 2, 1) := by decide +kernel
theorem dX1_solve_29 : decode cX1_solve 29 = .ok (.iload_n 1, 1) := by decide +kernel
theorem dX1_solve_30 : decode cX1_solve 30 = .ok (.ifCond .eq 20, 3) := by decide +kernel
theorem dX1_solve_33 : decode cX1_solve 33 = .ok (.iload_n 2, 1) := by decide +kernel
theorem dX1_solve_34 : decode cX1_solve 34 = .ok (.aload_n 0, 1) := by decide +kernel
theorem dX1_solve_35 : decode cX1_solve 35 = .ok (.getfield 66, 3) := by decide +kernel
theorem dX1_solve_38 : decode cX1_solve 38 = .ok (.if_icmp .ge 12, 3) := by decide +kernel
theorem dX1_solve_41 : decode cX1_solve 41 = .ok (.aload_n 0, 1) := by decide +kernel
theorem dX1_solve_42 : decode cX1_solve 42 = .ok (.getfield 19, 3) := by decide +kernel
theorem dX1_solve_45 : decode cX1_solve 45 = .ok (.iload_n 2, 1) := by decide +kernel
theorem dX1_solve_46 : decode cX1_solve 46 = .ok (.iaload, 1) := by decide +kernel
theorem dX1_solve_47 : decode cX1_solve 47 = .ok (.goto 4, 3) := by decide +kernel
theorem dX1_solve_50 : decode cX1_solve 50 = .ok (.iconst (-1), 1) := by decide +kernel
theorem dX1_solve_51 : decode cX1_solve 51 = .ok (.iastore, 1) := by decide +kernel
theorem dX1_solve_52 : decode cX1_solve 52 = .ok (.iinc 2 1, 3) := by decide +kernel
theorem dX1_solve_55 : decode cX1_solve 55 = .ok (.goto (-37), 3) := by decide +kernel
theorem dX1_solve_58 : decode cX1_solve 58 = .ok (.iload_n 1, 1) := by decide +kernel
theorem dX1_solve_59 : decode cX1_solve 59 = .ok (.ifCond .eq 7, 3) := by decide +kernel
theorem dX1_solve_62 : decode cX1_solve 62 = .ok (.iconst 1, 1) := by decide +kernel
theorem dX1_solve_63 : decode cX1_solve 63 = .ok (.goto 4, 3) := by decide +kernel
theorem dX1_solve_66 : decode cX1_solve 66 = .ok (.iconst 0, 1) := by decide +kernel
theorem dX1_solve_67 : decode cX1_solve 67 = .ok (.ireturn, 1) := by decide +kernel
theorem dX1_chosen_0 : decode cX1_chosen 0 = .ok (.aload_n 0, 1) := by decide +kernel
theorem dX1_chosen_1 : decode cX1_chosen 1 = .ok (.iconst 0, 1) := by decide +kernel
theorem dX1_chosen_2 : decode cX1_chosen 2 = .ok (.putfield 63, 3) := by decide +kernel
theorem dX1_chosen_5 : decode cX1_chosen 5 = .ok (.aload_n 0, 1) := by decide +kernel
theorem dX1_chosen_6 : decode cX1_chosen 6 = .ok (.iload_n 1, 1) := by decide +kernel
theorem dX1_chosen_7 : decode cX1_chosen 7 = .ok (.invokevirtual 69, 3) := by decide +kernel
theorem dX1_chosen_10 : decode cX1_chosen 10 = .ok (.ifCond .eq 12, 3) := by decide +kernel
theorem dX1_chosen_13 : decode cX1_chosen 13 = .ok (.aload_n 0, 1) := by decide +kernel
theorem dX1_chosen_14 : decode cX1_chosen 14 = .ok (.getfield 16, 3) := by decide +kernel
theorem dX1_chosen_17 : decode cX1_chosen 17 = .ok (.iload_n 1, 1) := by decide +kernel
theorem dX1_chosen_18 : decode cX1_chosen 18 = .ok (.iaload, 1) := by decide +kernel
theorem dX1_chosen_19 : decode cX1_chosen 19 = .ok (.goto 4, 3) := by decide +kernel
theorem dX1_chosen_22 : decode cX1_chosen 22 = .ok (.iconst (-1), 1) := by decide +kernel
theorem dX1_chosen_23 : decode cX1_chosen 23 = .ok (.ireturn, 1) := by decide +kernel
theorem dX1_blame_0 : decode cX1_blame 0 = .ok (.aload_n 0, 1) := by decide +kernel
theorem dX1_blame_1 : decode cX1_blame 1 = .ok (.iconst 0, 1) := by decide +kernel
theorem dX1_blame_2 : decode cX1_blame 2 = .ok (.putfield 63, 3) := by decide +kernel
theorem dX1_blame_5 : decode cX1_blame 5 = .ok (.aload_n 0, 1) := by decide +kernel
theorem dX1_blame_6 : decode cX1_blame 6 = .ok (.iconst 0, 1) := by decide +kernel
theorem dX1_blame_7 : decode cX1_blame 7 = .ok (.putfield 125, 3) := by decide +kernel
theorem dX1_blame_10 : decode cX1_blame 10 = .ok (.aload_n 0, 1) := by decide +kernel
theorem dX1_blame_11 : decode cX1_blame 11 = .ok (.invokevirtual 119, 3) := by decide +kernel
theorem dX1_blame_14 : decode cX1_blame 14 = .ok (.aload_n 0, 1) := by decide +kernel
theorem dX1_blame_15 : decode cX1_blame 15 = .ok (.iconst (-1), 1) := by decide +kernel
theorem dX1_blame_16 : decode cX1_blame 16 = .ok (.iconst (-1), 1) := by decide +kernel
theorem dX1_blame_17 : decode cX1_blame 17 = .ok (.invokevirtual 122, 3) := by decide +kernel
theorem dX1_blame_20 : decode cX1_blame 20 = .ok (.ifCond .eq 5, 3) := by decide +kernel
theorem dX1_blame_23 : decode cX1_blame 23 = .ok (.iconst 0, 1) := by decide +kernel
theorem dX1_blame_24 : decode cX1_blame 24 = .ok (.ireturn, 1) := by decide +kernel
theorem dX1_blame_25 : decode cX1_blame 25 = .ok (.iconst 0, 1) := by decide +kernel
theorem dX1_blame_26 : decode cX1_blame 26 = .ok (.istore_n 1, 1) := by decide +kernel
theorem dX1_blame_27 : decode cX1_blame 27 = .ok (.iload_n 1, 1) := by decide +kernel
theorem dX1_blame_28 : decode cX1_blame 28 = .ok (.aload_n 0, 1) := by decide +kernel
theorem dX1_blame_29 : decode cX1_blame 29 = .ok (.getfield 84, 3) := by decide +kernel
theorem dX1_blame_32 : decode cX1_blame 32 = .ok (.if_icmp .ge 67, 3) := by decide +kernel
theorem dX1_blame_35 : decode cX1_blame 35 = .ok (.aload_n 0, 1) := by decide +kernel
theorem dX1_blame_36 : decode cX1_blame 36 = .ok (.getfield 49, 3) := by decide +kernel
theorem dX1_blame_39 : decode cX1_blame 39 = .ok (.iload_n 1, 1) := by decide +kernel
theorem dX1_blame_40 : decode cX1_blame 40 = .ok (.baload, 1) := by decide +kernel
theorem dX1_blame_41 : decode cX1_blame 41 = .ok (.ifCond .eq 6, 3) := by decide +kernel
theorem dX1_blame_44 : decode cX1_blame 44 = .ok (.goto 49, 3) := by decide +kernel
theorem dX1_blame_47 : decode cX1_blame 47 = .ok (.aload_n 0, 1) := by decide +kernel
theorem dX1_blame_48 : decode cX1_blame 48 = .ok (.getfield 53, 3) := by decide +kernel
theorem dX1_blame_51 : decode cX1_blame 51 = .ok (.iload_n 1, 1) := by decide +kernel
theorem dX1_blame_52 : decode cX1_blame 52 = .ok (.iconst 1, 1) := by decide +kernel
theorem dX1_blame_53 : decode cX1_blame 53 = .ok (.bastore, 1) := by decide +kernel
theorem dX1_blame_54 : decode cX1_blame 54 = .ok (.aload_n 0, 1) := by decide +kernel
theorem dX1_blame_55 : decode cX1_blame 55 = .ok (.iconst (-1), 1) := by decide +kernel
theorem dX1_blame_56 : decode cX1_blame 56 = .ok (.iconst (-1), 1) := by decide +kernel
theorem dX1_blame_57 : decode cX1_blame 57 = .ok (.invokevirtual 122, 3) := by decide +kernel
theorem dX1_blame_60 : decode cX1_blame 60 = .ok (.ifCond .ne 6, 3) := by decide +kernel
theorem dX1_blame_63 : decode cX1_blame 63 = .ok (.goto 30, 3) := by decide +kernel
theorem dX1_blame_66 : decode cX1_blame 66 = .ok (.aload_n 0, 1) := by decide +kernel
theorem dX1_blame_67 : decode cX1_blame 67 = .ok (.getfield 53, 3) := by decide +kernel
theorem dX1_blame_70 : decode cX1_blame 70 = .ok (.iload_n 1, 1) := by decide +kernel
theorem dX1_blame_71 : decode cX1_blame 71 = .ok (.iconst 0, 1) := by decide +kernel
theorem dX1_blame_72 : decode cX1_blame 72 = .ok (.bastore, 1) := by decide +kernel
theorem dX1_blame_73 : decode cX1_blame 73 = .ok (.aload_n 0, 1) := by decide +kernel
theorem dX1_blame_74 : decode cX1_blame 74 = .ok (.getfield 60, 3) := by decide +kernel
theorem dX1_blame_77 : decode cX1_blame 77 = .ok (.aload_n 0, 1) := by decide +kernel
theorem dX1_blame_78 : decode cX1_blame 78 = .ok (.getfield 125, 3) := by decide +kernel
theorem dX1_blame_81 : decode cX1_blame 81 = .ok (.iload_n 1, 1) := by decide +kernel
theorem dX1_blame_82 : decode cX1_blame 82 = .ok (.iastore, 1) := by decide +kernel
theorem dX1_blame_83 : decode cX1_blame 83 = .ok (.aload_n 0, 1) := by decide +kernel
theorem dX1_blame_84 : decode cX1_blame 84 = .ok (.dup, 1) := by decide +kernel
theorem dX1_blame_85 : decode cX1_blame 85 = .ok (.getfield 125, 3) := by decide +kernel
theorem dX1_blame_88 : decode cX1_blame 88 = .ok (.iconst 1, 1) := by decide +kernel
theorem dX1_blame_89 : decode cX1_blame 89 = .ok (.iadd, 1) := by decide +kernel
theorem dX1_blame_90 : decode cX1_blame 90 = .ok (.putfield 125, 3) := by decide +kernel
theorem dX1_blame_93 : decode cX1_blame 93 = .ok (.iinc 1 1, 3) := by decide +kernel
theorem dX1_blame_96 : decode cX1_blame 96 = .ok (.goto (-69), 3) := by decide +kernel
theorem dX1_blame_99 : decode cX1_blame 99 = .ok (.aload_n 0, 1) := by decide +kernel
theorem dX1_blame_100 : decode cX1_blame 100 = .ok (.getfield 125, 3) := by decide +kernel
theorem dX1_blame_103 : decode cX1_blame 103 = .ok (.ireturn, 1) := by decide +kernel
theorem dX1_blamed_0 : decode cX1_blamed 0 = .ok (.aload_n 0, 1) := by decide +kernel
theorem dX1_blamed_1 : decode cX1_blamed 1 = .ok (.iconst 0, 1) := by decide +kernel
theorem dX1_blamed_2 : decode cX1_blamed 2 = .ok (.putfield 63, 3) := by decide +kernel
theorem dX1_blamed_5 : decode cX1_blamed 5 = .ok (.iload_n 1, 1) := by decide +kernel
theorem dX1_blamed_6 : decode cX1_blamed 6 = .ok (.ifCond .lt 11, 3) := by decide +kernel
theorem dX1_blamed_9 : decode cX1_blamed 9 = .ok (.iload_n 1, 1) := by decide +kernel
theorem dX1_blamed_10 : decode cX1_blamed 10 = .ok (.aload_n 0, 1) := by decide +kernel
theorem dX1_blamed_11 : decode cX1_blamed 11 = .ok (.getfield 125, 3) := by decide +kernel
theorem dX1_blamed_14 : decode cX1_blamed 14 = .ok (.if_icmp .lt 7, 3) := by decide +kernel
theorem dX1_blamed_17 : decode cX1_blamed 17 = .ok (.iconst (-1), 1) := by decide +kernel
theorem dX1_blamed_18 : decode cX1_blamed 18 = .ok (.goto 9, 3) := by decide +kernel
theorem dX1_blamed_21 : decode cX1_blamed 21 = .ok (.aload_n 0, 1) := by decide +kernel
theorem dX1_blamed_22 : decode cX1_blamed 22 = .ok (.getfield 60, 3) := by decide +kernel
theorem dX1_blamed_25 : decode cX1_blamed 25 = .ok (.iload_n 1, 1) := by decide +kernel
theorem dX1_blamed_26 : decode cX1_blamed 26 = .ok (.iaload, 1) := by decide +kernel
theorem dX1_blamed_27 : decode cX1_blamed 27 = .ok (.ireturn, 1) := by decide +kernel
theorem dX1_can_0 : decode cX1_can 0 = .ok (.aload_n 0, 1) := by decide +kernel
theorem dX1_can_1 : decode cX1_can 1 = .ok (.iconst 0, 1) := by decide +kernel
theorem dX1_can_2 : decode cX1_can 2 = .ok (.putfield 63, 3) := by decide +kernel
theorem dX1_can_5 : decode cX1_can 5 = .ok (.aload_n 0, 1) := by decide +kernel
theorem dX1_can_6 : decode cX1_can 6 = .ok (.iload_n 1, 1) := by decide +kernel
theorem dX1_can_7 : decode cX1_can 7 = .ok (.invokevirtual 69, 3) := by decide +kernel
theorem dX1_can_10 : decode cX1_can 10 = .ok (.ifCond .eq 17, 3) := by decide +kernel
theorem dX1_can_13 : decode cX1_can 13 = .ok (.iload_n 2, 1) := by decide +kernel
theorem dX1_can_14 : decode cX1_can 14 = .ok (.iconst (-1), 1) := by decide +kernel
theorem dX1_can_15 : decode cX1_can 15 = .ok (.if_icmp .eq 14, 3) := by decide +kernel
theorem dX1_can_18 : decode cX1_can 18 = .ok (.aload_n 0, 1) := by decide +kernel
theorem dX1_can_19 : decode cX1_can 19 = .ok (.iload_n 1, 1) := by decide +kernel
theorem dX1_can_20 : decode cX1_can 20 = .ok (.iload_n 2, 1) := by decide +kernel
theorem dX1_can_21 : decode cX1_can 21 = .ok (.invokevirtual 73, 3) := by decide +kernel
theorem dX1_can_24 : decode cX1_can 24 = .ok (.ifCond .ne 5, 3) := by decide +kernel
theorem dX1_can_27 : decode cX1_can 27 = .ok (.iconst 0, 1) := by decide +kernel
theorem dX1_can_28 : decode cX1_can 28 = .ok (.ireturn, 1) := by decide +kernel
theorem dX1_can_29 : decode cX1_can 29 = .ok (.aload_n 0, 1) := by decide +kernel
theorem dX1_can_30 : decode cX1_can 30 = .ok (.invokevirtual 119, 3) := by decide +kernel
theorem dX1_can_33 : decode cX1_can 33 = .ok (.aload_n 0, 1) := by decide +kernel
theorem dX1_can_34 : decode cX1_can 34 = .ok (.iload_n 1, 1) := by decide +kernel
theorem dX1_can_35 : decode cX1_can 35 = .ok (.iload_n 2, 1) := by decide +kernel
theorem dX1_can_36 : decode cX1_can 36 = .ok (.invokevirtual 122, 3) := by decide +kernel
theorem dX1_can_39 : decode cX1_can 39 = .ok (.ireturn, 1) := by decide +kernel
theorem dX1_must_0 : decode cX1_must 0 = .ok (.aload_n 0, 1) := by decide +kernel
theorem dX1_must_1 : decode cX1_must 1 = .ok (.iconst 0, 1) := by decide +kernel
theorem dX1_must_2 : decode cX1_must 2 = .ok (.putfield 63, 3) := by decide +kernel
theorem dX1_must_5 : decode cX1_must 5 = .ok (.aload_n 0, 1) := by decide +kernel
theorem dX1_must_6 : decode cX1_must 6 = .ok (.iload_n 1, 1) := by decide +kernel
theorem dX1_must_7 : decode cX1_must 7 = .ok (.invokevirtual 69, 3) := by decide +kernel
theorem dX1_must_10 : decode cX1_must 10 = .ok (.ifCond .ne 5, 3) := by decide +kernel
theorem dX1_must_13 : decode cX1_must 13 = .ok (.iconst 0, 1) := by decide +kernel
theorem dX1_must_14 : decode cX1_must 14 = .ok (.ireturn, 1) := by decide +kernel
theorem dX1_must_15 : decode cX1_must 15 = .ok (.aload_n 0, 1) := by decide +kernel
theorem dX1_must_16 : decode cX1_must 16 = .ok (.invokevirtual 119, 3) := by decide +kernel
theorem dX1_must_19 : decode cX1_must 19 = .ok (.aload_n 0, 1) := by decide +kernel
theorem dX1_must_20 : decode cX1_must 20 = .ok (.iload_n 1, 1) := by decide +kernel
theorem dX1_must_21 : decode cX1_must 21 = .ok (.iconst (-1), 1) := by decide +kernel
theorem dX1_must_22 : decode cX1_must 22 = .ok (.invokevirtual 122, 3) := by decide +kernel
theorem dX1_must_25 : decode cX1_must 25 = .ok (.ifCond .ne 7, 3) := by decide +kernel
theorem dX1_must_28 : decode cX1_must 28 = .ok (.iconst 1, 1) := by decide +kernel
theorem dX1_must_29 : decode cX1_must 29 = .ok (.goto 4, 3) := by decide +kernel
theorem dX1_must_32 : decode cX1_must 32 = .ok (.iconst 0, 1) := by decide +kernel
theorem dX1_must_33 : decode cX1_must 33 = .ok (.ireturn, 1) := by decide +kernel
end
section
theorem dL_law_0 : decode cL_law 0 = .ok (.new 7, 3) := by decide +kernel
theorem dL_law_3 : decode cL_law 3 = .ok (.dup, 1) := by decide +kernel
theorem dL_law_4 : decode cL_law 4 = .ok (.invokespecial 9, 3) := by decide +kernel
theorem dL_law_7 : decode cL_law 7 = .ok (.astore_n 1, 1) := by decide +kernel
theorem dL_law_8 : decode cL_law 8 = .ok (.new 10, 3) := by decide +kernel
theorem dL_law_11 : decode cL_law 11 = .ok (.dup, 1) := by decide +kernel
theorem dL_law_12 : decode cL_law 12 = .ok (.invokespecial 12, 3) := by decide +kernel
theorem dL_law_15 : decode cL_law 15 = .ok (.astore_n 2, 1) := by decide +kernel
theorem dL_law_16 : decode cL_law 16 = .ok (.iconst 0, 1) := by decide +kernel
theorem dL_law_17 : decode cL_law 17 = .ok (.istore_n 3, 1) := by decide +kernel
theorem dL_law_18 : decode cL_law 18 = .ok (.iload_n 3, 1) := by decide +kernel
theorem dL_law_19 : decode cL_law 19 = .ok (.aload_n 0, 1) := by decide +kernel
theorem dL_law_20 : decode cL_law 20 = .ok (.arraylength, 1) := by decide +kernel
theorem dL_law_21 : decode cL_law 21 = .ok (.bipush 6, 2) := by decide +kernel
theorem dL_law_23 : decode cL_law 23 = .ok (.isub, 1) := by decide +kernel
theorem dL_law_24 : decode cL_law 24 = .ok (.if_icmp .gt 450, 3) := by decide +kernel
theorem dL_law_27 : decode cL_law 27 = .ok (.aload_n 0, 1) := by decide +kernel
theorem dL_law_28 : decode cL_law 28 = .ok (.iload_n 3, 1) := by decide +kernel
theorem dL_law_29 : decode cL_law 29 = .ok (.iaload, 1) := by decide +kernel
theorem dL_law_30 : decode cL_law 30 = .ok (.bipush 15, 2) := by decide +kernel
theorem dL_law_32 : decode cL_law 32 = .ok (.iand, 1) := by decide +kernel
theorem dL_law_33 : decode cL_law 33 = .ok (.tableswitch 435 0 11 #[63, 86, 149, 192, 225, 274, 307, 320, 343, 356, 379, 412], 63) := by decide +kernel
theorem dL_law_96 : decode cL_law 96 = .ok (.aload_n 1, 1) := by decide +kernel
theorem dL_law_97 : decode cL_law 97 = .ok (.aload_n 0, 1) := by decide +kernel
theorem dL_law_98 : decode cL_law 98 = .ok (.iload_n 3, 1) := by decide +kernel
theorem dL_law_99 : decode cL_law 99 = .ok (.iconst 1, 1) := by decide +kernel
theorem dL_law_100 : decode cL_law 100 = .ok (.iadd, 1) := by decide +kernel
theorem dL_law_101 : decode cL_law 101 = .ok (.iaload, 1) := by decide +kernel
theorem dL_law_102 : decode cL_law 102 = .ok (.invokevirtual 13, 3) := by decide +kernel
theorem dL_law_105 : decode cL_law 105 = .ok (.aload_n 2, 1) := by decide +kernel
theorem dL_law_106 : decode cL_law 106 = .ok (.aload_n 0, 1) := by decide +kernel
theorem dL_law_107 : decode cL_law 107 = .ok (.iload_n 3, 1) := by decide +kernel
theorem dL_law_108 : decode cL_law 108 = .ok (.iconst 1, 1) := by decide +kernel
theorem dL_law_109 : decode cL_law 109 = .ok (.iadd, 1) := by decide +kernel
theorem dL_law_110 : decode cL_law 110 = .ok (.iaload, 1) := by decide +kernel
theorem dL_law_111 : decode cL_law 111 = .ok (.invokevirtual 17, 3) := by decide +kernel
theorem dL_law_114 : decode cL_law 114 = .ok (.if_icmp .eq 354, 3) := by decide +kernel
theorem dL_law_117 : decode cL_law 117 = .ok (.iconst 0, 1) := by decide +kernel
theorem dL_law_118 : decode cL_law 118 = .ok (.ireturn, 1) := by decide +kernel
theorem dL_law_119 : decode cL_law 119 = .ok (.aload_n 1, 1) := by decide +kernel
theorem dL_law_120 : decode cL_law 120 = .ok (.aload_n 0, 1) := by decide +kernel
theorem dL_law_121 : decode cL_law 121 = .ok (.iload_n 3, 1) := by decide +kernel
theorem dL_law_122 : decode cL_law 122 = .ok (.iconst 1, 1) := by decide +kernel
theorem dL_law_123 : decode cL_law 123 = .ok (.iadd, 1) := by decide +kernel
theorem dL_law_124 : decode cL_law 124 = .ok (.iaload, 1) := by decide +kernel
theorem dL_law_125 : decode cL_law 125 = .ok (.aload_n 0, 1) := by decide +kernel
theorem dL_law_126 : decode cL_law 126 = .ok (.iload_n 3, 1) := by decide +kernel
theorem dL_law_127 : decode cL_law 127 = .ok (.iconst 2, 1) := by decide +kernel
theorem dL_law_128 : decode cL_law 128 = .ok (.iadd, 1) := by decide +kernel
theorem dL_law_129 : decode cL_law 129 = .ok (.iaload, 1) := by decide +kernel
theorem dL_law_130 : decode cL_law 130 = .ok (.aload_n 0, 1) := by decide +kernel
theorem dL_law_131 : decode cL_law 131 = .ok (.iload_n 3, 1) := by decide +kernel
theorem dL_law_132 : decode cL_law 132 = .ok (.iconst 3, 1) := by decide +kernel
theorem dL_law_133 : decode cL_law 133 = .ok (.iadd, 1) := by decide +kernel
theorem dL_law_134 : decode cL_law 134 = .ok (.iaload, 1) := by decide +kernel
theorem dL_law_135 : decode cL_law 135 = .ok (.aload_n 0, 1) := by decide +kernel
theorem dL_law_136 : decode cL_law 136 = .ok (.iload_n 3, 1) := by decide +kernel
theorem dL_law_137 : decode cL_law 137 = .ok (.iconst 4, 1) := by decide +kernel
theorem dL_law_138 : decode cL_law 138 = .ok (.iadd, 1) := by decide +kernel
theorem dL_law_139 : decode cL_law 139 = .ok (.iaload, 1) := by decide +kernel
theorem dL_law_140 : decode cL_law 140 = .ok (.aload_n 0, 1) := by decide +kernel
theorem dL_law_141 : decode cL_law 141 = .ok (.iload_n 3, 1) := by decide +kernel
theorem dL_law_142 : decode cL_law 142 = .ok (.iconst 5, 1) := by decide +kernel
theorem dL_law_143 : decode cL_law 143 = .ok (.iadd, 1) := by decide +kernel
theorem dL_law_144 : decode cL_law 144 = .ok (.iaload, 1) := by decide +kernel
theorem dL_law_145 : decode cL_law 145 = .ok (.invokevirtual 18, 3) := by decide +kernel
theorem dL_law_148 : decode cL_law 148 = .ok (.aload_n 2, 1) := by decide +kernel
theorem dL_law_149 : decode cL_law 149 = .ok (.aload_n 0, 1) := by decide +kernel
theorem dL_law_150 : decode cL_law 150 = .ok (.iload_n 3, 1) := by decide +kernel
theorem dL_law_151 : decode cL_law 151 = .ok (.iconst 1, 1) := by decide +kernel
theorem dL_law_152 : decode cL_law 152 = .ok (.iadd, 1) := by decide +kernel
theorem dL_law_153 : decode cL_law 153 = .ok (.iaload, 1) := by decide +kernel
theorem dL_law_154 : decode cL_law 154 = .ok (.aload_n 0, 1) := by decide +kernel
theorem dL_law_155 : decode cL_law 155 = .ok (.iload_n 3, 1) := by decide +kernel
theorem dL_law_156 : decode cL_law 156 = .ok (.iconst 2, 1) := by decide +kernel
theorem dL_law_157 : decode cL_law 157 = .ok (.iadd, 1) := by decide +kernel
theorem dL_law_158 : decode cL_law 158 = .ok (.iaload, 1) := by decide +kernel
theorem dL_law_159 : decode cL_law 159 = .ok (.aload_n 0, 1) := by decide +kernel
theorem dL_law_160 : decode cL_law 160 = .ok (.iload_n 3, 1) := by decide +kernel
theorem dL_law_161 : decode cL_law 161 = .ok (.iconst 3, 1) := by decide +kernel
theorem dL_law_162 : decode cL_law 162 = .ok (.iadd, 1) := by decide +kernel
theorem dL_law_163 : decode cL_law 163 = .ok (.iaload, 1) := by decide +kernel
theorem dL_law_164 : decode cL_law 164 = .ok (.aload_n 0, 1) := by decide +kernel
theorem dL_law_165 : decode cL_law 165 = .ok (.iload_n 3, 1) := by decide +kernel
theorem dL_law_166 : decode cL_law 166 = .ok (.iconst 4, 1) := by decide +kernel
theorem dL_law_167 : decode cL_law 167 = .ok (.iadd, 1) := by decide +kernel
theorem dL_law_168 : decode cL_law 168 = .ok (.iaload, 1) := by decide +kernel
theorem dL_law_169 : decode cL_law 169 = .ok (.aload_n 0, 1) := by decide +kernel
theorem dL_law_170 : decode cL_law 170 = .ok (.iload_n 3, 1) := by decide +kernel
theorem dL_law_171 : decode cL_law 171 = .ok (.iconst 5, 1) := by decide +kernel
theorem dL_law_172 : decode cL_law 172 = .ok (.iadd, 1) := by decide +kernel
theorem dL_law_173 : decode cL_law 173 = .ok (.iaload, 1) := by decide +kernel
theorem dL_law_174 : decode cL_law 174 = .ok (.invokevirtual 22, 3) := by decide +kernel
theorem dL_law_177 : decode cL_law 177 = .ok (.if_icmp .eq 291, 3) := by decide +kernel
theorem dL_law_180 : decode cL_law 180 = .ok (.iconst 0, 1) := by decide +kernel
theorem dL_law_181 : decode cL_law 181 = .ok (.ireturn, 1) := by decide +kernel
theorem dL_law_182 : decode cL_law 182 = .ok (.aload_n 1, 1) := by decide +kernel
theorem dL_law_183 : decode cL_law 183 = .ok (.aload_n 0, 1) := by decide +kernel
theorem dL_law_184 : decode cL_law 184 = .ok (.iload_n 3, 1) := by decide +kernel
theorem dL_law_185 : decode cL_law 185 = .ok (.iconst 1, 1) := by decide +kernel
theorem dL_law_186 : decode cL_law 186 = .ok (.iadd, 1) := by decide +kernel
theorem dL_law_187 : decode cL_law 187 = .ok (.iaload, 1) := by decide +kernel
theorem dL_law_188 : decode cL_law 188 = .ok (.aload_n 0, 1) := by decide +kernel
theorem dL_law_189 : decode cL_law 189 = .ok (.iload_n 3, 1) := by decide +kernel
theorem dL_law_190 : decode cL_law 190 = .ok (.iconst 2, 1) := by decide +kernel
theorem dL_law_191 : decode cL_law 191 = .ok (.iadd, 1) := by decide +kernel
theorem dL_law_192 : decode cL_law 192 = .ok (.iaload, 1) := by decide +kernel
theorem dL_law_193 : decode cL_law 193 = .ok (.aload_n 0, 1) := by decide +kernel
theorem dL_law_194 : decode cL_law 194 = .ok (.iload_n 3, 1) := by decide +kernel
theorem dL_law_195 : decode cL_law 195 = .ok (.iconst 3, 1) := by decide +kernel
theorem dL_law_196 : decode cL_law 196 = .ok (.iadd, 1) := by decide +kernel
theorem dL_law_197 : decode cL_law 197 = .ok (.iaload, 1) := by decide +kernel
theorem dL_law_198 : decode cL_law 198 = .ok (.invokevirtual 23, 3) := by decide +kernel
theorem dL_law_201 : decode cL_law 201 = .ok (.aload_n 2, 1) := by decide +kernel
theorem dL_law_202 : decode cL_law 202 = .ok (.aload_n 0, 1) := by decide +kernel
theorem dL_law_203 : decode cL_law 203 = .ok (.iload_n 3, 1) := by decide +kernel
theorem dL_law_204 : decode cL_law 204 = .ok (.iconst 1, 1) := by decide +kernel
theorem dL_law_205 : decode cL_law 205 = .ok (.iadd, 1) := by decide +kernel
theorem dL_law_206 : decode cL_law 206 = .ok (.iaload, 1) := by decide +kernel
theorem dL_law_207 : decode cL_law 207 = .ok (.aload_n 0, 1) := by decide +kernel
theorem dL_law_208 : decode cL_law 208 = .ok (.iload_n 3, 1) := by decide +kernel
theorem dL_law_209 : decode cL_law 209 = .ok (.iconst 2, 1) := by decide +kernel
theorem dL_law_210 : decode cL_law 210 = .ok (.iadd, 1) := by decide +kernel
theorem dL_law_211 : decode cL_law 211 = .ok (.iaload, 1) := by decide +kernel
theorem dL_law_212 : decode cL_law 212 = .ok (.aload_n 0, 1) := by decide +kernel
theorem dL_law_213 : decode cL_law 213 = .ok (.iload_n 3, 1) := by decide +kernel
theorem dL_law_214 : decode cL_law 214 = .ok (.iconst 3, 1) := by decide +kernel
theorem dL_law_215 : decode cL_law 215 = .ok (.iadd, 1) := by decide +kernel
theorem dL_law_216 : decode cL_law 216 = .ok (.iaload, 1) := by decide +kernel
theorem dL_law_217 : decode cL_law 217 = .ok (.invokevirtual 27, 3) := by decide +kernel
theorem dL_law_220 : decode cL_law 220 = .ok (.if_icmp .eq 248, 3) := by decide +kernel
theorem dL_law_223 : decode cL_law 223 = .ok (.iconst 0, 1) := by decide +kernel
theorem dL_law_224 : decode cL_law 224 = .ok (.ireturn, 1) := by decide +kernel
theorem dL_law_225 : decode cL_law 225 = .ok (.aload_n 1, 1) := by decide +kernel
theorem dL_law_226 : decode cL_law 226 = .ok (.aload_n 0, 1) := by decide +kernel
theorem dL_law_227 : decode cL_law 227 = .ok (.iload_n 3, 1) := by decide +kernel
theorem dL_law_228 : decode cL_law 228 = .ok (.iconst 1, 1) := by decide +kernel
theorem dL_law_229 : decode cL_law 229 = .ok (.iadd, 1) := by decide +kernel
theorem dL_law_230 : decode cL_law 230 = .ok (.iaload, 1) := by decide +kernel
theorem dL_law_231 : decode cL_law 231 = .ok (.aload_n 0, 1) := by decide +kernel
theorem dL_law_232 : decode cL_law 232 = .ok (.iload_n 3, 1) := by decide +kernel
theorem dL_law_233 : decode cL_law 233 = .ok (.iconst 2, 1) := by decide +kernel
theorem dL_law_234 : decode cL_law 234 = .ok (.iadd, 1) := by decide +kernel
theorem dL_law_235 : decode cL_law 235 = .ok (.iaload, 1) := by decide +kernel
theorem dL_law_236 : decode cL_law 236 = .ok (.invokevirtual 28, 3) := by decide +kernel
theorem dL_law_239 : decode cL_law 239 = .ok (.aload_n 2, 1) := by decide +kernel
theorem dL_law_240 : decode cL_law 240 = .ok (.aload_n 0, 1) := by decide +kernel
theorem dL_law_241 : decode cL_law 241 = .ok (.iload_n 3, 1) := by decide +kernel
theorem dL_law_242 : decode cL_law 242 = .ok (.iconst 1, 1) := by decide +kernel
theorem dL_law_243 : decode cL_law 243 = .ok (.iadd, 1) := by decide +kernel
theorem dL_law_244 : decode cL_law 244 = .ok (.iaload, 1) := by decide +kernel
theorem dL_law_245 : decode cL_law 245 = .ok (.aload_n 0, 1) := by decide +kernel
theorem dL_law_246 : decode cL_law 246 = .ok (.iload_n 3, 1) := by decide +kernel
theorem dL_law_247 : decode cL_law 247 = .ok (.iconst 2, 1) := by decide +kernel
theorem dL_law_248 : decode cL_law 248 = .ok (.iadd, 1) := by decide +kernel
theorem dL_law_249 : decode cL_law 249 = .ok (.iaload, 1) := by decide +kernel
theorem dL_law_250 : decode cL_law 250 = .ok (.invokevirtual 32, 3) := by decide +kernel
theorem dL_law_253 : decode cL_law 253 = .ok (.if_icmp .eq 215, 3) := by decide +kernel
theorem dL_law_256 : decode cL_law 256 = .ok (.iconst 0, 1) := by decide +kernel
theorem dL_law_257 : decode cL_law 257 = .ok (.ireturn, 1) := by decide +kernel
theorem dL_law_258 : decode cL_law 258 = .ok (.aload_n 1, 1) := by decide +kernel
theorem dL_law_259 : decode cL_law 259 = .ok (.aload_n 0, 1) := by decide +kernel
theorem dL_law_260 : decode cL_law 260 = .ok (.iload_n 3, 1) := by decide +kernel
theorem dL_law_261 : decode cL_law 261 = .ok (.iconst 1, 1) := by decide +kernel
theorem dL_law_262 : decode cL_law 262 = .ok (.iadd, 1) := by decide +kernel
theorem dL_law_263 : decode cL_law 263 = .ok (.iaload, 1) := by decide +kernel
theorem dL_law_264 : decode cL_law 264 = .ok (.aload_n 0, 1) := by decide +kernel
theorem dL_law_265 : decode cL_law 265 = .ok (.iload_n 3, 1) := by decide +kernel
theorem dL_law_266 : decode cL_law 266 = .ok (.iconst 2, 1) := by decide +kernel
theorem dL_law_267 : decode cL_law 267 = .ok (.iadd, 1) := by decide +kernel
theorem dL_law_268 : decode cL_law 268 = .ok (.iaload, 1) := by decide +kernel
theorem dL_law_269 : decode cL_law 269 = .ok (.ifCond .eq 7, 3) := by decide +kernel
theorem dL_law_272 : decode cL_law 272 = .ok (.iconst 1, 1) := by decide +kernel
theorem dL_law_273 : decode cL_law 273 = .ok (.goto 4, 3) := by decide +kernel
theorem dL_law_276 : decode cL_law 276 = .ok (.iconst 0, 1) := by decide +kernel
theorem dL_law_277 : decode cL_law 277 = .ok (.invokevirtual 33, 3) := by decide +kernel
theorem dL_law_280 : decode cL_law 280 = .ok (.aload_n 2, 1) := by decide +kernel
theorem dL_law_281 : decode cL_law 281 = .ok (.aload_n 0, 1) := by decide +kernel
theorem dL_law_282 : decode cL_law 282 = .ok (.iload_n 3, 1) := by decide +kernel
theorem dL_law_283 : decode cL_law 283 = .ok (.iconst 1, 1) := by decide +kernel
theorem dL_law_284 : decode cL_law 284 = .ok (.iadd, 1) := by decide +kernel
theorem dL_law_285 : decode cL_law 285 = .ok (.iaload, 1) := by decide +kernel
theorem dL_law_286 : decode cL_law 286 = .ok (.aload_n 0, 1) := by decide +kernel
theorem dL_law_287 : decode cL_law 287 = .ok (.iload_n 3, 1) := by decide +kernel
theorem dL_law_288 : decode cL_law 288 = .ok (.iconst 2, 1) := by decide +kernel
theorem dL_law_289 : decode cL_law 289 = .ok (.iadd, 1) := by decide +kernel
theorem dL_law_290 : decode cL_law 290 = .ok (.iaload, 1) := by decide +kernel
theorem dL_law_291 : decode cL_law 291 = .ok (.ifCond .eq 7, 3) := by decide +kernel
theorem dL_law_294 : decode cL_law 294 = .ok (.iconst 1, 1) := by decide +kernel
theorem dL_law_295 : decode cL_law 295 = .ok (.goto 4, 3) := by decide +kernel
theorem dL_law_298 : decode cL_law 298 = .ok (.iconst 0, 1) := by decide +kernel
theorem dL_law_299 : decode cL_law 299 = .ok (.invokevirtual 37, 3) := by decide +kernel
theorem dL_law_302 : decode cL_law 302 = .ok (.if_icmp .eq 166, 3) := by decide +kernel
theorem dL_law_305 : decode cL_law 305 = .ok (.iconst 0, 1) := by decide +kernel
theorem dL_law_306 : decode cL_law 306 = .ok (.ireturn, 1) := by decide +kernel
theorem dL_law_307 : decode cL_law 307 = .ok (.aload_n 1, 1) := by decide +kernel
theorem dL_law_308 : decode cL_law 308 = .ok (.aload_n 0, 1) := by decide +kernel
theorem dL_law_309 : decode cL_law 309 = .ok (.iload_n 3, 1) := by decide +kernel
theorem dL_law_310 : decode cL_law 310 = .ok (.iconst 1, 1) := by decide +kernel
theorem dL_law_311 : decode cL_law 311 = .ok (.iadd, 1) := by decide +kernel
theorem dL_law_312 : decode cL_law 312 = .ok (.iaload, 1) := by decide +kernel
theorem dL_law_313 : decode cL_law 313 = .ok (.aload_n 0, 1) := by decide +kernel
theorem dL_law_314 : decode cL_law 314 = .ok (.iload_n 3, 1) := by decide +kernel
theorem dL_law_315 : decode cL_law 315 = .ok (.iconst 2, 1) := by decide +kernel
theorem dL_law_316 : decode cL_law 316 = .ok (.iadd, 1) := by decide +kernel
theorem dL_law_317 : decode cL_law 317 = .ok (.iaload, 1) := by decide +kernel
theorem dL_law_318 : decode cL_law 318 = .ok (.invokevirtual 38, 3) := by decide +kernel
theorem dL_law_321 : decode cL_law 321 = .ok (.aload_n 2, 1) := by decide +kernel
theorem dL_law_322 : decode cL_law 322 = .ok (.aload_n 0, 1) := by decide +kernel
theorem dL_law_323 : decode cL_law 323 = .ok (.iload_n 3, 1) := by decide +kernel
theorem dL_law_324 : decode cL_law 324 = .ok (.iconst 1, 1) := by decide +kernel
theorem dL_law_325 : decode cL_law 325 = .ok (.iadd, 1) := by decide +kernel
theorem dL_law_326 : decode cL_law 326 = .ok (.iaload, 1) := by decide +kernel
theorem dL_law_327 : decode cL_law 327 = .ok (.aload_n 0, 1) := by decide +kernel
theorem dL_law_328 : decode cL_law 328 = .ok (.iload_n 3, 1) := by decide +kernel
theorem dL_law_329 : decode cL_law 329 = .ok (.iconst 2, 1) := by decide +kernel
theorem dL_law_330 : decode cL_law 330 = .ok (.iadd, 1) := by decide +kernel
theorem dL_law_331 : decode cL_law 331 = .ok (.iaload, 1) := by decide +kernel
theorem dL_law_332 : decode cL_law 332 = .ok (.invokevirtual 41, 3) := by decide +kernel
theorem dL_law_335 : decode cL_law 335 = .ok (.if_icmp .eq 133, 3) := by decide +kernel
theorem dL_law_338 : decode cL_law 338 = .ok (.iconst 0, 1) := by decide +kernel
theorem dL_law_339 : decode cL_law 339 = .ok (.ireturn, 1) := by decide +kernel
theorem dL_law_340 : decode cL_law 340 = .ok (.aload_n 1, 1) := by decide +kernel
theorem dL_law_341 : decode cL_law 341 = .ok (.invokevirtual 42, 3) := by decide +kernel
theorem dL_law_344 : decode cL_law 344 = .ok (.aload_n 2, 1) := by decide +kernel
theorem dL_law_345 : decode cL_law 345 = .ok (.invokevirtual 46, 3) := by decide +kernel
theorem dL_law_348 : decode cL_law 348 = .ok (.if_icmp .eq 120, 3) := by decide +kernel
theorem dL_law_351 : decode cL_law 351 = .ok (.iconst 0, 1) := by decide +kernel
theorem dL_law_352 : decode cL_law 352 = .ok (.ireturn, 1) := by decide +kernel
theorem dL_law_353 : decode cL_law 353 = .ok (.aload_n 1, 1) := by decide +kernel
theorem dL_law_354 : decode cL_law 354 = .ok (.aload_n 0, 1) := by decide +kernel
theorem dL_law_355 : decode cL_law 355 = .ok (.iload_n 3, 1) := by decide +kernel
theorem dL_law_356 : decode cL_law 356 = .ok (.iconst 1, 1) := by decide +kernel
theorem dL_law_357 : decode cL_law 357 = .ok (.iadd, 1) := by decide +kernel
theorem dL_law_358 : decode cL_law 358 = .ok (.iaload, 1) := by decide +kernel
theorem dL_law_359 : decode cL_law 359 = .ok (.invokevirtual 47, 3) := by decide +kernel
theorem dL_law_362 : decode cL_law 362 = .ok (.aload_n 2, 1) := by decide +kernel
theorem dL_law_363 : decode cL_law 363 = .ok (.aload_n 0, 1) := by decide +kernel
theorem dL_law_364 : decode cL_law 364 = .ok (.iload_n 3, 1) := by decide +kernel
theorem dL_law_365 : decode cL_law 365 = .ok (.iconst 1, 1) := by decide +kernel
theorem dL_law_366 : decode cL_law 366 = .ok (.iadd, 1) := by decide +kernel
theorem dL_law_367 : decode cL_law 367 = .ok (.iaload, 1) := by decide +kernel
theorem dL_law_368 : decode cL_law 368 = .ok (.invokevirtual 50, 3) := by decide +kernel
theorem dL_law_371 : decode cL_law 371 = .ok (.if_icmp .eq 97, 3) := by decide +kernel
theorem dL_law_374 : decode cL_law 374 = .ok (.iconst 0, 1) := by decide +kernel
theorem dL_law_375 : decode cL_law 375 = .ok (.ireturn, 1) := by decide +kernel
theorem dL_law_376 : decode cL_law 376 = .ok (.aload_n 1, 1) := by decide +kernel
theorem dL_law_377 : decode cL_law 377 = .ok (.invokevirtual 51, 3) := by decide +kernel
theorem dL_law_380 : decode cL_law 380 = .ok (.aload_n 2, 1) := by decide +kernel
theorem dL_law_381 : decode cL_law 381 = .ok (.invokevirtual 54, 3) := by decide +kernel
theorem dL_law_384 : decode cL_law 384 = .ok (.if_icmp .eq 84, 3) := by decide +kernel
theorem dL_law_387 : decode cL_law 387 = .ok (.iconst 0, 1) := by decide +kernel
theorem dL_law_388 : decode cL_law 388 = .ok (.ireturn, 1) := by decide +kernel
theorem dL_law_389 : decode cL_law 389 = .ok (.aload_n 1, 1) := by decide +kernel
theorem dL_law_390 : decode cL_law 390 = .ok (.aload_n 0, 1) := by decide +kernel
theorem dL_law_391 : decode cL_law 391 = .ok (.iload_n 3, 1) := by decide +kernel
theorem dL_law_392 : decode cL_law 392 = .ok (.iconst 1, 1) := by decide +kernel
theorem dL_law_393 : decode cL_law 393 = .ok (.iadd, 1) := by decide +kernel
theorem dL_law_394 : decode cL_law 394 = .ok (.iaload, 1) := by decide +kernel
theorem dL_law_395 : decode cL_law 395 = .ok (.invokevirtual 55, 3) := by decide +kernel
theorem dL_law_398 : decode cL_law 398 = .ok (.aload_n 2, 1) := by decide +kernel
theorem dL_law_399 : decode cL_law 399 = .ok (.aload_n 0, 1) := by decide +kernel
theorem dL_law_400 : decode cL_law 400 = .ok (.iload_n 3, 1) := by decide +kernel
theorem dL_law_401 : decode cL_law 401 = .ok (.iconst 1, 1) := by decide +kernel
theorem dL_law_402 : decode cL_law 402 = .ok (.iadd, 1) := by decide +kernel
theorem dL_law_403 : decode cL_law 403 = .ok (.iaload, 1) := by decide +kernel
theorem dL_law_404 : decode cL_law 404 = .ok (.invokevirtual 58, 3) := by decide +kernel
theorem dL_law_407 : decode cL_law 407 = .ok (.if_icmp .eq 61, 3) := by decide +kernel
theorem dL_law_410 : decode cL_law 410 = .ok (.iconst 0, 1) := by decide +kernel
theorem dL_law_411 : decode cL_law 411 = .ok (.ireturn, 1) := by decide +kernel
theorem dL_law_412 : decode cL_law 412 = .ok (.aload_n 1, 1) := by decide +kernel
theorem dL_law_413 : decode cL_law 413 = .ok (.aload_n 0, 1) := by decide +kernel
theorem dL_law_414 : decode cL_law 414 = .ok (.iload_n 3, 1) := by decide +kernel
theorem dL_law_415 : decode cL_law 415 = .ok (.iconst 1, 1) := by decide +kernel
theorem dL_law_416 : decode cL_law 416 = .ok (.iadd, 1) := by decide +kernel
theorem dL_law_417 : decode cL_law 417 = .ok (.iaload, 1) := by decide +kernel
theorem dL_law_418 : decode cL_law 418 = .ok (.aload_n 0, 1) := by decide +kernel
theorem dL_law_419 : decode cL_law 419 = .ok (.iload_n 3, 1) := by decide +kernel
theorem dL_law_420 : decode cL_law 420 = .ok (.iconst 2, 1) := by decide +kernel
theorem dL_law_421 : decode cL_law 421 = .ok (.iadd, 1) := by decide +kernel
theorem dL_law_422 : decode cL_law 422 = .ok (.iaload, 1) := by decide +kernel
theorem dL_law_423 : decode cL_law 423 = .ok (.invokevirtual 59, 3) := by decide +kernel
theorem dL_law_426 : decode cL_law 426 = .ok (.aload_n 2, 1) := by decide +kernel
theorem dL_law_427 : decode cL_law 427 = .ok (.aload_n 0, 1) := by decide +kernel
theorem dL_law_428 : decode cL_law 428 = .ok (.iload_n 3, 1) := by decide +kernel
theorem dL_law_429 : decode cL_law 429 = .ok (.iconst 1, 1) := by decide +kernel
theorem dL_law_430 : decode cL_law 430 = .ok (.iadd, 1) := by decide +kernel
theorem dL_law_431 : decode cL_law 431 = .ok (.iaload, 1) := by decide +kernel
theorem dL_law_432 : decode cL_law 432 = .ok (.aload_n 0, 1) := by decide +kernel
theorem dL_law_433 : decode cL_law 433 = .ok (.iload_n 3, 1) := by decide +kernel
theorem dL_law_434 : decode cL_law 434 = .ok (.iconst 2, 1) := by decide +kernel
theorem dL_law_435 : decode cL_law 435 = .ok (.iadd, 1) := by decide +kernel
theorem dL_law_436 : decode cL_law 436 = .ok (.iaload, 1) := by decide +kernel
theorem dL_law_437 : decode cL_law 437 = .ok (.invokevirtual 62, 3) := by decide +kernel
theorem dL_law_440 : decode cL_law 440 = .ok (.if_icmp .eq 28, 3) := by decide +kernel
theorem dL_law_443 : decode cL_law 443 = .ok (.iconst 0, 1) := by decide +kernel
theorem dL_law_444 : decode cL_law 444 = .ok (.ireturn, 1) := by decide +kernel
theorem dL_law_445 : decode cL_law 445 = .ok (.aload_n 1, 1) := by decide +kernel
theorem dL_law_446 : decode cL_law 446 = .ok (.aload_n 0, 1) := by decide +kernel
theorem dL_law_447 : decode cL_law 447 = .ok (.iload_n 3, 1) := by decide +kernel
theorem dL_law_448 : decode cL_law 448 = .ok (.iconst 1, 1) := by decide +kernel
theorem dL_law_449 : decode cL_law 449 = .ok (.iadd, 1) := by decide +kernel
theorem dL_law_450 : decode cL_law 450 = .ok (.iaload, 1) := by decide +kernel
theorem dL_law_451 : decode cL_law 451 = .ok (.invokevirtual 63, 3) := by decide +kernel
theorem dL_law_454 : decode cL_law 454 = .ok (.aload_n 2, 1) := by decide +kernel
theorem dL_law_455 : decode cL_law 455 = .ok (.aload_n 0, 1) := by decide +kernel
theorem dL_law_456 : decode cL_law 456 = .ok (.iload_n 3, 1) := by decide +kernel
theorem dL_law_457 : decode cL_law 457 = .ok (.iconst 1, 1) := by decide +kernel
theorem dL_law_458 : decode cL_law 458 = .ok (.iadd, 1) := by decide +kernel
theorem dL_law_459 : decode cL_law 459 = .ok (.iaload, 1) := by decide +kernel
theorem dL_law_460 : decode cL_law 460 = .ok (.invokevirtual 67, 3) := by decide +kernel
theorem dL_law_463 : decode cL_law 463 = .ok (.if_icmp .eq 5, 3) := by decide +kernel
theorem dL_law_466 : decode cL_law 466 = .ok (.iconst 0, 1) := by decide +kernel
theorem dL_law_467 : decode cL_law 467 = .ok (.ireturn, 1) := by decide +kernel
theorem dL_law_468 : decode cL_law 468 = .ok (.iinc 3 6, 3) := by decide +kernel
theorem dL_law_471 : decode cL_law 471 = .ok (.goto (-453), 3) := by decide +kernel
theorem dL_law_474 : decode cL_law 474 = .ok (.iconst 1, 1) := by decide +kernel
theorem dL_law_475 : decode cL_law 475 = .ok (.ireturn, 1) := by decide +kernel
end
section
/-- what the printed functions are made of: a call's answer, a guard -/
def ob {α β : Type} (x : Option α) (f : α → Option β) : Option β := match x with
  | none => none
  | some a => f a
theorem ob_some {α β : Type} {x : Option α} {f : α → Option β} {r : β} (h : ob x f = some r) : ∃ a, x = some a ∧ f a = some r := by
  cases x with
  | none => exact absurd h (fun q => by cases q)
  | some a => exact ⟨a, rfl, h⟩
def og {β : Type} (b : Bool) (x : Option β) : Option β := if b = true then x else none
theorem og_some {β : Type} {b : Bool} {x : Option β} {r : β} (h : og b x = some r) : b = true ∧ x = some r := by
  cases b with
  | false => exact absurd h (fun q => by cases q)
  | true => exact ⟨rfl, h⟩
def inb (i : Int32) (n : Nat) : Bool := decide (¬ (i < 0 ∨ n ≤ i.toNatClampNeg))
theorem inb_in {i : Int32} {n : Nat} (h : inb i n = true) : vp_in i n := of_decide_eq_true (p := ¬ (i < 0 ∨ n ≤ i.toNatClampNeg)) h
def bz (x : Int32) : Bool := decide (x = 0 ∨ x = 1)
theorem bz_n {x : Int32} (h : bz x = true) : narrow .boolean (.int x) = .int x := by
  rcases of_decide_eq_true h with q | q <;> subst q <;> rfl
theorem bz_f {x : Int32} (h : bz x = true) : fits .boolean (.int x) = true := by
  rcases of_decide_eq_true h with q | q <;> subst q <;> rfl
def jn {α β : Type} (f : Int32 → α) (k : (Int32 → α) → β) : β := k f
theorem jn_e {α β : Type} {f : Int32 → α} {k : (Int32 → α) → β} {r : β} (h : jn f k = r) : k f = r := h
abbrev XS : Type := (Nat → Int64) × (Nat → Int64) × (Nat → Int32) × (Int32) × (Int32) × (Int32) × (Int32) × (Int64) × (Int64) × (Int32) × (Int32) × (Int32) × (Int64) × (Int32)
def x_rowRules (u : XS) : Nat → Int64 := u.1
def x_demandRules (u : XS) : Nat → Int64 := u.2.1
def x_order (u : XS) : Nat → Int32 := u.2.2.1
def x_packs (u : XS) : Int32 := u.2.2.2.1
def x_rows (u : XS) : Int32 := u.2.2.2.2.1
def x_demands (u : XS) : Int32 := u.2.2.2.2.2.1
def x_neededPacks (u : XS) : Int32 := u.2.2.2.2.2.2.1
def x_places (u : XS) : Int64 := u.2.2.2.2.2.2.2.1
def x_locked (u : XS) : Int64 := u.2.2.2.2.2.2.2.2.1
def x_leftOut (u : XS) : Int32 := u.2.2.2.2.2.2.2.2.2.1
def x_alternativesFree (u : XS) : Int32 := u.2.2.2.2.2.2.2.2.2.2.1
def x_latestIsDemand (u : XS) : Int32 := u.2.2.2.2.2.2.2.2.2.2.2.1
def x_picked (u : XS) : Int64 := u.2.2.2.2.2.2.2.2.2.2.2.2.1
def x_toBlame (u : XS) : Int32 := u.2.2.2.2.2.2.2.2.2.2.2.2.2
def xs_rowRules (u : XS) (v : Nat → Int64) : XS := (v, x_demandRules u, x_order u, x_packs u, x_rows u, x_demands u, x_neededPacks u, x_places u, x_locked u, x_leftOut u, x_alternativesFree u, x_latestIsDemand u, x_picked u, x_toBlame u)
def xs_demandRules (u : XS) (v : Nat → Int64) : XS := (x_rowRules u, v, x_order u, x_packs u, x_rows u, x_demands u, x_neededPacks u, x_places u, x_locked u, x_leftOut u, x_alternativesFree u, x_latestIsDemand u, x_picked u, x_toBlame u)
def xs_order (u : XS) (v : Nat → Int32) : XS := (x_rowRules u, x_demandRules u, v, x_packs u, x_rows u, x_demands u, x_neededPacks u, x_places u, x_locked u, x_leftOut u, x_alternativesFree u, x_latestIsDemand u, x_picked u, x_toBlame u)
def xs_packs (u : XS) (v : Int32) : XS := (x_rowRules u, x_demandRules u, x_order u, v, x_rows u, x_demands u, x_neededPacks u, x_places u, x_locked u, x_leftOut u, x_alternativesFree u, x_latestIsDemand u, x_picked u, x_toBlame u)
def xs_rows (u : XS) (v : Int32) : XS := (x_rowRules u, x_demandRules u, x_order u, x_packs u, v, x_demands u, x_neededPacks u, x_places u, x_locked u, x_leftOut u, x_alternativesFree u, x_latestIsDemand u, x_picked u, x_toBlame u)
def xs_demands (u : XS) (v : Int32) : XS := (x_rowRules u, x_demandRules u, x_order u, x_packs u, x_rows u, v, x_neededPacks u, x_places u, x_locked u, x_leftOut u, x_alternativesFree u, x_latestIsDemand u, x_picked u, x_toBlame u)
def xs_neededPacks (u : XS) (v : Int32) : XS := (x_rowRules u, x_demandRules u, x_order u, x_packs u, x_rows u, x_demands u, v, x_places u, x_locked u, x_leftOut u, x_alternativesFree u, x_latestIsDemand u, x_picked u, x_toBlame u)
def xs_places (u : XS) (v : Int64) : XS := (x_rowRules u, x_demandRules u, x_order u, x_packs u, x_rows u, x_demands u, x_neededPacks u, v, x_locked u, x_leftOut u, x_alternativesFree u, x_latestIsDemand u, x_picked u, x_toBlame u)
def xs_locked (u : XS) (v : Int64) : XS := (x_rowRules u, x_demandRules u, x_order u, x_packs u, x_rows u, x_demands u, x_neededPacks u, x_places u, v, x_leftOut u, x_alternativesFree u, x_latestIsDemand u, x_picked u, x_toBlame u)
def xs_leftOut (u : XS) (v : Int32) : XS := (x_rowRules u, x_demandRules u, x_order u, x_packs u, x_rows u, x_demands u, x_neededPacks u, x_places u, x_locked u, v, x_alternativesFree u, x_latestIsDemand u, x_picked u, x_toBlame u)
def xs_alternativesFree (u : XS) (v : Int32) : XS := (x_rowRules u, x_demandRules u, x_order u, x_packs u, x_rows u, x_demands u, x_neededPacks u, x_places u, x_locked u, x_leftOut u, v, x_latestIsDemand u, x_picked u, x_toBlame u)
def xs_latestIsDemand (u : XS) (v : Int32) : XS := (x_rowRules u, x_demandRules u, x_order u, x_packs u, x_rows u, x_demands u, x_neededPacks u, x_places u, x_locked u, x_leftOut u, x_alternativesFree u, v, x_picked u, x_toBlame u)
def xs_picked (u : XS) (v : Int64) : XS := (x_rowRules u, x_demandRules u, x_order u, x_packs u, x_rows u, x_demands u, x_neededPacks u, x_places u, x_locked u, x_leftOut u, x_alternativesFree u, x_latestIsDemand u, v, x_toBlame u)
def xs_toBlame (u : XS) (v : Int32) : XS := (x_rowRules u, x_demandRules u, x_order u, x_packs u, x_rows u, x_demands u, x_neededPacks u, x_places u, x_locked u, x_leftOut u, x_alternativesFree u, x_latestIsDemand u, x_picked u, v)
def cX (hs : Nat → Nat) (ka : Nat → ClassId) (u : XS) : va_W := [(hs 0, .inr (0, [.ref (hs 1), .ref (hs 2), .ref (hs 3), .int (x_packs u), .int (x_rows u), .int (x_demands u), .int (x_neededPacks u), .long (x_places u), .long (x_locked u), .int (x_leftOut u), .int (x_alternativesFree u), .int (x_latestIsDemand u), .long (x_picked u), .int (x_toBlame u)])), (hs 1, .inl (ka 1, 120, .inr (.inl (x_rowRules u)))), (hs 2, .inl (ka 2, 12, .inr (.inl (x_demandRules u)))), (hs 3, .inl (ka 3, 8, .inl (x_order u)))]
def tX (ka : Nat → ClassId) : List (ClassId × FieldType) := [(ka 1, .long), (ka 2, .long), (ka 3, .int)]
abbrev aX (dC : Nat → ClassId) (dI : Nat → Nat → Nat) (A : Nat → Prop) (hs : Nat → Nat) (ka : Nat → ClassId) (u : XS) (t : State) : Prop := va_P (dC, dI) vwCl (cX hs ka u) t.heap ∧ va_K (dC, dI) vwCl (tX ka) t ∧ va_D A (cX hs ka u)
abbrev MS : Type := (Int32) × (Nat → Int32) × (Nat → Int32) × (Nat → Int32) × (Nat → Int32) × (Nat → Int32) × (Nat → Int32) × (Nat → Int32) × (Int32) × (Int32) × (Int32) × (Int32) × (Nat → Int32) × (Nat → Int32) × (Nat → Int32) × (Nat → Int32) × (Nat → Int32) × (Nat → Int32) × (Nat → Int32) × (Nat → Int32) × (Int32) × (Nat → Int32) × (Int32)
def m_code (u : MS) : Int32 := u.1
def m_versions (u : MS) : Nat → Int32 := u.2.1
def m_locks (u : MS) : Nat → Int32 := u.2.2.1
def m_chosen (u : MS) : Nat → Int32 := u.2.2.2.1
def m_value (u : MS) : Nat → Int32 := u.2.2.2.2.1
def m_order (u : MS) : Nat → Int32 := u.2.2.2.2.2.1
def m_option (u : MS) : Nat → Int32 := u.2.2.2.2.2.2.1
def m_blames0 (u : MS) : Nat → Int32 := u.2.2.2.2.2.2.2.1
def m_packages (u : MS) : Int32 := u.2.2.2.2.2.2.2.2.1
def m_rows (u : MS) : Int32 := u.2.2.2.2.2.2.2.2.2.1
def m_demands (u : MS) : Int32 := u.2.2.2.2.2.2.2.2.2.2.1
def m_needed (u : MS) : Int32 := u.2.2.2.2.2.2.2.2.2.2.2.1
def m_pack (u : MS) : Nat → Int32 := u.2.2.2.2.2.2.2.2.2.2.2.2.1
def m_version (u : MS) : Nat → Int32 := u.2.2.2.2.2.2.2.2.2.2.2.2.2.1
def m_kind (u : MS) : Nat → Int32 := u.2.2.2.2.2.2.2.2.2.2.2.2.2.2.1
def m_many (u : MS) : Nat → Int32 := u.2.2.2.2.2.2.2.2.2.2.2.2.2.2.2.1
def m_other (u : MS) : Nat → Int32 := u.2.2.2.2.2.2.2.2.2.2.2.2.2.2.2.2.1
def m_set (u : MS) : Nat → Int32 := u.2.2.2.2.2.2.2.2.2.2.2.2.2.2.2.2.2.1
def m_out (u : MS) : Nat → Int32 := u.2.2.2.2.2.2.2.2.2.2.2.2.2.2.2.2.2.2.1
def m_away (u : MS) : Nat → Int32 := u.2.2.2.2.2.2.2.2.2.2.2.2.2.2.2.2.2.2.2.1
def m_latest (u : MS) : Int32 := u.2.2.2.2.2.2.2.2.2.2.2.2.2.2.2.2.2.2.2.2.1
def m_blamed (u : MS) : Nat → Int32 := u.2.2.2.2.2.2.2.2.2.2.2.2.2.2.2.2.2.2.2.2.2.1
def m_blames (u : MS) : Int32 := u.2.2.2.2.2.2.2.2.2.2.2.2.2.2.2.2.2.2.2.2.2.2
def ms_code (u : MS) (v : Int32) : MS := (v, m_versions u, m_locks u, m_chosen u, m_value u, m_order u, m_option u, m_blames0 u, m_packages u, m_rows u, m_demands u, m_needed u, m_pack u, m_version u, m_kind u, m_many u, m_other u, m_set u, m_out u, m_away u, m_latest u, m_blamed u, m_blames u)
def ms_versions (u : MS) (v : Nat → Int32) : MS := (m_code u, v, m_locks u, m_chosen u, m_value u, m_order u, m_option u, m_blames0 u, m_packages u, m_rows u, m_demands u, m_needed u, m_pack u, m_version u, m_kind u, m_many u, m_other u, m_set u, m_out u, m_away u, m_latest u, m_blamed u, m_blames u)
def ms_locks (u : MS) (v : Nat → Int32) : MS := (m_code u, m_versions u, v, m_chosen u, m_value u, m_order u, m_option u, m_blames0 u, m_packages u, m_rows u, m_demands u, m_needed u, m_pack u, m_version u, m_kind u, m_many u, m_other u, m_set u, m_out u, m_away u, m_latest u, m_blamed u, m_blames u)
def ms_chosen (u : MS) (v : Nat → Int32) : MS := (m_code u, m_versions u, m_locks u, v, m_value u, m_order u, m_option u, m_blames0 u, m_packages u, m_rows u, m_demands u, m_needed u, m_pack u, m_version u, m_kind u, m_many u, m_other u, m_set u, m_out u, m_away u, m_latest u, m_blamed u, m_blames u)
def ms_value (u : MS) (v : Nat → Int32) : MS := (m_code u, m_versions u, m_locks u, m_chosen u, v, m_order u, m_option u, m_blames0 u, m_packages u, m_rows u, m_demands u, m_needed u, m_pack u, m_version u, m_kind u, m_many u, m_other u, m_set u, m_out u, m_away u, m_latest u, m_blamed u, m_blames u)
def ms_order (u : MS) (v : Nat → Int32) : MS := (m_code u, m_versions u, m_locks u, m_chosen u, m_value u, v, m_option u, m_blames0 u, m_packages u, m_rows u, m_demands u, m_needed u, m_pack u, m_version u, m_kind u, m_many u, m_other u, m_set u, m_out u, m_away u, m_latest u, m_blamed u, m_blames u)
def ms_option (u : MS) (v : Nat → Int32) : MS := (m_code u, m_versions u, m_locks u, m_chosen u, m_value u, m_order u, v, m_blames0 u, m_packages u, m_rows u, m_demands u, m_needed u, m_pack u, m_version u, m_kind u, m_many u, m_other u, m_set u, m_out u, m_away u, m_latest u, m_blamed u, m_blames u)
def ms_blames0 (u : MS) (v : Nat → Int32) : MS := (m_code u, m_versions u, m_locks u, m_chosen u, m_value u, m_order u, m_option u, v, m_packages u, m_rows u, m_demands u, m_needed u, m_pack u, m_version u, m_kind u, m_many u, m_other u, m_set u, m_out u, m_away u, m_latest u, m_blamed u, m_blames u)
def ms_packages (u : MS) (v : Int32) : MS := (m_code u, m_versions u, m_locks u, m_chosen u, m_value u, m_order u, m_option u, m_blames0 u, v, m_rows u, m_demands u, m_needed u, m_pack u, m_version u, m_kind u, m_many u, m_other u, m_set u, m_out u, m_away u, m_latest u, m_blamed u, m_blames u)
def ms_rows (u : MS) (v : Int32) : MS := (m_code u, m_versions u, m_locks u, m_chosen u, m_value u, m_order u, m_option u, m_blames0 u, m_packages u, v, m_demands u, m_needed u, m_pack u, m_version u, m_kind u, m_many u, m_other u, m_set u, m_out u, m_away u, m_latest u, m_blamed u, m_blames u)
def ms_demands (u : MS) (v : Int32) : MS := (m_code u, m_versions u, m_locks u, m_chosen u, m_value u, m_order u, m_option u, m_blames0 u, m_packages u, m_rows u, v, m_needed u, m_pack u, m_version u, m_kind u, m_many u, m_other u, m_set u, m_out u, m_away u, m_latest u, m_blamed u, m_blames u)
def ms_needed (u : MS) (v : Int32) : MS := (m_code u, m_versions u, m_locks u, m_chosen u, m_value u, m_order u, m_option u, m_blames0 u, m_packages u, m_rows u, m_demands u, v, m_pack u, m_version u, m_kind u, m_many u, m_other u, m_set u, m_out u, m_away u, m_latest u, m_blamed u, m_blames u)
def ms_pack (u : MS) (v : Nat → Int32) : MS := (m_code u, m_versions u, m_locks u, m_chosen u, m_value u, m_order u, m_option u, m_blames0 u, m_packages u, m_rows u, m_demands u, m_needed u, v, m_version u, m_kind u, m_many u, m_other u, m_set u, m_out u, m_away u, m_latest u, m_blamed u, m_blames u)
def ms_version (u : MS) (v : Nat → Int32) : MS := (m_code u, m_versions u, m_locks u, m_chosen u, m_value u, m_order u, m_option u, m_blames0 u, m_packages u, m_rows u, m_demands u, m_needed u, m_pack u, v, m_kind u, m_many u, m_other u, m_set u, m_out u, m_away u, m_latest u, m_blamed u, m_blames u)
def ms_kind (u : MS) (v : Nat → Int32) : MS := (m_code u, m_versions u, m_locks u, m_chosen u, m_value u, m_order u, m_option u, m_blames0 u, m_packages u, m_rows u, m_demands u, m_needed u, m_pack u, m_version u, v, m_many u, m_other u, m_set u, m_out u, m_away u, m_latest u, m_blamed u, m_blames u)
def ms_many (u : MS) (v : Nat → Int32) : MS := (m_code u, m_versions u, m_locks u, m_chosen u, m_value u, m_order u, m_option u, m_blames0 u, m_packages u, m_rows u, m_demands u, m_needed u, m_pack u, m_version u, m_kind u, v, m_other u, m_set u, m_out u, m_away u, m_latest u, m_blamed u, m_blames u)
def ms_other (u : MS) (v : Nat → Int32) : MS := (m_code u, m_versions u, m_locks u, m_chosen u, m_value u, m_order u, m_option u, m_blames0 u, m_packages u, m_rows u, m_demands u, m_needed u, m_pack u, m_version u, m_kind u, m_many u, v, m_set u, m_out u, m_away u, m_latest u, m_blamed u, m_blames u)
def ms_set (u : MS) (v : Nat → Int32) : MS := (m_code u, m_versions u, m_locks u, m_chosen u, m_value u, m_order u, m_option u, m_blames0 u, m_packages u, m_rows u, m_demands u, m_needed u, m_pack u, m_version u, m_kind u, m_many u, m_other u, v, m_out u, m_away u, m_latest u, m_blamed u, m_blames u)
def ms_out (u : MS) (v : Nat → Int32) : MS := (m_code u, m_versions u, m_locks u, m_chosen u, m_value u, m_order u, m_option u, m_blames0 u, m_packages u, m_rows u, m_demands u, m_needed u, m_pack u, m_version u, m_kind u, m_many u, m_other u, m_set u, v, m_away u, m_latest u, m_blamed u, m_blames u)
def ms_away (u : MS) (v : Nat → Int32) : MS := (m_code u, m_versions u, m_locks u, m_chosen u, m_value u, m_order u, m_option u, m_blames0 u, m_packages u, m_rows u, m_demands u, m_needed u, m_pack u, m_version u, m_kind u, m_many u, m_other u, m_set u, m_out u, v, m_latest u, m_blamed u, m_blames u)
def ms_latest (u : MS) (v : Int32) : MS := (m_code u, m_versions u, m_locks u, m_chosen u, m_value u, m_order u, m_option u, m_blames0 u, m_packages u, m_rows u, m_demands u, m_needed u, m_pack u, m_version u, m_kind u, m_many u, m_other u, m_set u, m_out u, m_away u, v, m_blamed u, m_blames u)
def ms_blamed (u : MS) (v : Nat → Int32) : MS := (m_code u, m_versions u, m_locks u, m_chosen u, m_value u, m_order u, m_option u, m_blames0 u, m_packages u, m_rows u, m_demands u, m_needed u, m_pack u, m_version u, m_kind u, m_many u, m_other u, m_set u, m_out u, m_away u, m_latest u, v, m_blames u)
def ms_blames (u : MS) (v : Int32) : MS := (m_code u, m_versions u, m_locks u, m_chosen u, m_value u, m_order u, m_option u, m_blames0 u, m_packages u, m_rows u, m_demands u, m_needed u, m_pack u, m_version u, m_kind u, m_many u, m_other u, m_set u, m_out u, m_away u, m_latest u, m_blamed u, v)
def cM (hs : Nat → Nat) (ka : Nat → ClassId) (u : MS) : va_W := [(hs 0, .inr (1, [.int (m_code u), .ref (hs 1), .ref (hs 2), .ref (hs 3), .ref (hs 4), .ref (hs 5), .ref (hs 6), .ref (hs 7), .int (m_packages u), .int (m_rows u), .int (m_demands u), .int (m_needed u), .ref (hs 8), .ref (hs 9), .ref (hs 10), .ref (hs 11), .ref (hs 12), .ref (hs 13), .ref (hs 14), .ref (hs 15), .int (m_latest u), .ref (hs 16), .int (m_blames u)])), (hs 1, .inl (ka 1, 8, .inl (m_versions u))), (hs 2, .inl (ka 2, 8, .inl (m_locks u))), (hs 3, .inl (ka 3, 8, .inl (m_chosen u))), (hs 4, .inl (ka 4, 8, .inl (m_value u))), (hs 5, .inl (ka 5, 8, .inl (m_order u))), (hs 6, .inl (ka 6, 8, .inl (m_option u))), (hs 7, .inl (ka 7, 8, .inl (m_blames0 u))), (hs 8, .inl (ka 8, 132, .inl (m_pack u))), (hs 9, .inl (ka 9, 132, .inl (m_version u))), (hs 10, .inl (ka 10, 132, .inl (m_kind u))), (hs 11, .inl (ka 11, 132, .inl (m_many u))), (hs 12, .inl (ka 12, 396, .inl (m_other u))), (hs 13, .inl (ka 13, 396, .inl (m_set u))), (hs 14, .inl (ka 14, 12, .inl (m_out u))), (hs 15, .inl (ka 15, 12, .inl (m_away u))), (hs 16, .inl (ka 16, 12, .inl (m_blamed u)))]
def tM (ka : Nat → ClassId) : List (ClassId × FieldType) := [(ka 1, .int), (ka 2, .int), (ka 3, .int), (ka 4, .int), (ka 5, .int), (ka 6, .int), (ka 7, .int), (ka 8, .int), (ka 9, .int), (ka 10, .int), (ka 11, .int), (ka 12, .int), (ka 13, .int), (ka 14, .boolean), (ka 15, .boolean), (ka 16, .int)]
abbrev aM (dC : Nat → ClassId) (dI : Nat → Nat → Nat) (A : Nat → Prop) (hs : Nat → Nat) (ka : Nat → ClassId) (u : MS) (t : State) : Prop := va_P (dC, dI) vwCl (cM hs ka u) t.heap ∧ va_K (dC, dI) vwCl (tM ka) t ∧ va_D A (cM hs ka u)
abbrev aS (dC : Nat → ClassId) (dI : Nat → Nat → Nat) (A : Nat → Prop) (_ : Unit) (t : State) : Prop := va_P (dC, dI) vwCl ([] : va_W) t.heap ∧ va_K (dC, dI) vwCl ([] : List (ClassId × FieldType)) t ∧ va_D A ([] : va_W)
def RMfw (k : Nat) : Room := { frames := 4 + 2 * k, cells := 0, slots := 0, locals := 150 + 60 * k }
def RMfo (k : Nat) : Room := { frames := 5 + 2 * k, cells := 0, slots := 0, locals := 180 + 60 * k }
end
section
def xI0 : XS := (fun _ => 0, fun _ => 0, fun _ => 0, 0, 0, 0, 0, 0, 0, 0, 0, 0, 0, 0)
def pl_X0_init_37 (fu : Nat)  (K_37 : Int32 → XS → Option (XS)) : Nat → Int32 → XS → Option (XS)
  | 0, _, _ => none
  | n_37 + 1, x1_37, u_37 => (if (8 : Int32) ≤ x1_37 then (K_37 x1_37 u_37) else (og (inb x1_37 8) (pl_X0_init_37 fu K_37 n_37 (x1_37 + (1 : Int32)) (xs_order u_37 (upd (x_order u_37) x1_37.toNatClampNeg x1_37)))))
def pf_X0_init (fu : Nat) (u : XS) : Option (XS) := (pl_X0_init_37 fu (fun x1_37 u_37 => (some u_37)) fu (0 : Int32) (xs_places u (4629771061636907072 : Int64)))
abbrev aXe (dC : Nat → ClassId) (dI : Nat → Nat → Nat) (A : Nat → Prop) (h0 : Nat) (u : XS) (t : State) : Prop := ∃ (hs : Nat → Nat) (ka : Nat → ClassId), hs 0 = h0 ∧ va_P (dC, dI) vwCl (cX hs ka u) t.heap ∧ va_K (dC, dI) vwCl (tX ka) t ∧ va_D A (cX hs ka u)
def pf_X0_versionsOf (p0 : Int32) (p1 : Int32) : Int64 := ((p1.toInt64 &&& (63 : Int64)) <<< ((p0 * (8 : Int32)).toInt64 &&& 63))
def pf_X0_pack (fu : Nat) (p0 : Int32) (u : XS) : Option (Int32 × XS) := (if (8 : Int32) ≤ (x_packs u) then (some ((-1 : Int32), u)) else (if p0 < 0 then (some ((-1 : Int32), u)) else (if p0 ≤ (6 : Int32) then (some ((x_packs u), (xs_packs (xs_places u ((x_places u) ||| (pf_X0_versionsOf (x_packs u) (((1 : Int32) <<< (p0 &&& 31)) - (1 : Int32))))) ((x_packs u) + (1 : Int32))))) else (some ((-1 : Int32), u)))))
def pf_X0_hasPack (p0 : Int32) (u : XS) : Int32 := (if p0 < 0 then (0 : Int32) else (if (x_packs u) ≤ p0 then (0 : Int32) else (1 : Int32)))
def pf_X0_noneOf (p0 : Int32) : Int64 := ((64 : Int64) <<< ((p0 * (8 : Int32)).toInt64 &&& 63))
def pf_X0_placeOf (p0 : Int32) (p1 : Int32) : Int64 := (if p1 = (-1 : Int32) then (pf_X0_noneOf p0) else (pf_X0_versionsOf p0 ((1 : Int32) <<< (p1 &&& 31))))
def pf_X0_hasVersion (p0 : Int32) (p1 : Int32) (u : XS) : Int32 := (if (pf_X0_hasPack p0 u) = 0 then (0 : Int32) else (if p1 < 0 then (0 : Int32) else (if (6 : Int32) ≤ p1 then (0 : Int32) else (if ((x_places u) &&& (pf_X0_placeOf p0 p1)) = (0 : Int64) then (0 : Int32) else (1 : Int32)))))
def pf_X0_isKind (p0 : Int32) : Int32 := (if p0 = 0 then (1 : Int32) else (if p0 = (1 : Int32) then (1 : Int32) else (if p0 = (2 : Int32) then (1 : Int32) else (0 : Int32))))
def pf_X0_allOf (p0 : Int32) : Int64 := ((127 : Int64) <<< ((p0 * (8 : Int32)).toInt64 &&& 63))
def pf_X0_keeping (p0 : Int32) (p1 : Int32) (p2 : Int32) : Int64 := (if p0 = (1 : Int32) then ((pf_X0_allOf p1) &&& ((pf_X0_versionsOf p1 p2) ^^^ (-1 : Int64))) else (if p0 = (2 : Int32) then ((pf_X0_versionsOf p1 p2) ||| (pf_X0_noneOf p1)) else (pf_X0_versionsOf p1 p2)))
def pf_X0_startAlternatives (fu : Nat) (p0 : Int32) (p1 : Int32) (u : XS) : Option (XS) := (if p0 = 0 then (og (bz p1) (some (xs_latestIsDemand (xs_alternativesFree u (2 : Int32)) p1))) else (og (bz p1) (some (xs_latestIsDemand (xs_alternativesFree u (0 : Int32)) p1))))
def pf_X0_row (fu : Nat) (p0 : Int32) (p1 : Int32) (p2 : Int32) (p3 : Int32) (p4 : Int32) (u : XS) : Option (Int32 × XS) := (if (120 : Int32) ≤ (x_rows u) then (some ((0 : Int32), u)) else (if (pf_X0_hasVersion p0 p1 u) = 0 then (some ((0 : Int32), u)) else (if (pf_X0_isKind p2) = 0 then (some ((0 : Int32), u)) else (if (pf_X0_hasPack p3 u) = 0 then (some ((0 : Int32), u)) else (og (inb (x_rows u) 120) (ob (pf_X0_startAlternatives fu p2 (0 : Int32) (xs_rows (xs_rowRules u (vp_updL (x_rowRules u) (x_rows u).toNatClampNeg (((pf_X0_allOf p0) &&& ((pf_X0_placeOf p0 p1) ^^^ (-1 : Int64))) ||| (pf_X0_keeping p2 p3 p4)))) ((x_rows u) + (1 : Int32)))) (fun q_12 => (some ((1 : Int32), q_12)))))))))
def pl_X0_positionOf_2 (fu : Nat) (p0 : Int32) (u : XS) (K_2 : Int32 → Option (Int32)) : Nat → Int32 → Option (Int32)
  | 0, _ => none
  | n_2 + 1, x2_2 => (if (8 : Int32) ≤ x2_2 then (K_2 x2_2) else (og (inb x2_2 8) (if ((x_order u) x2_2.toNatClampNeg) = p0 then (some x2_2) else (pl_X0_positionOf_2 fu p0 u K_2 n_2 (x2_2 + (1 : Int32))))))
def pf_X0_positionOf (fu : Nat) (p0 : Int32) (u : XS) : Option (Int32) := (pl_X0_positionOf_2 fu p0 u (fun x2_2 => (some (8 : Int32))) fu (0 : Int32))
def pl_X0_moveToNeeded_23 (fu : Nat)  (K_23 : Int32 → XS → Option (XS)) : Nat → Int32 → XS → Option (XS)
  | 0, _, _ => none
  | n_23 + 1, x3_23, u_23 => (if x3_23 ≤ (x_neededPacks u_23) then (K_23 x3_23 u_23) else (og (inb (x3_23 - (1 : Int32)) 8) (og (inb x3_23 8) (pl_X0_moveToNeeded_23 fu K_23 n_23 (x3_23 + (-1 : Int32)) (xs_order u_23 (upd (x_order u_23) x3_23.toNatClampNeg ((x_order u_23) (x3_23 - (1 : Int32)).toNatClampNeg)))))))
def pf_X0_moveToNeeded (fu : Nat) (p0 : Int32) (u : XS) : Option (XS) := (ob (pf_X0_positionOf fu p0 u) (fun q_1 => (if q_1 < (x_neededPacks u) then (some u) else (if q_1 < (8 : Int32) then (pl_X0_moveToNeeded_23 fu (fun x3_23 u_23 => (og (inb (x_neededPacks u_23) 8) (some (xs_neededPacks (xs_order u_23 (upd (x_order u_23) (x_neededPacks u_23).toNatClampNeg p0)) ((x_neededPacks u_23) + (1 : Int32)))))) fu q_1 u) else (some u)))))
def pf_X0_demand (fu : Nat) (p0 : Int32) (p1 : Int32) (p2 : Int32) (u : XS) : Option (Int32 × XS) := (if (12 : Int32) ≤ (x_demands u) then (some ((-1 : Int32), u)) else (if (pf_X0_isKind p0) = 0 then (some ((-1 : Int32), u)) else (if (pf_X0_hasPack p1 u) = 0 then (some ((-1 : Int32), u)) else (og (inb (x_demands u) 12) (ob (pf_X0_startAlternatives fu p0 (1 : Int32) (xs_demands (xs_demandRules u (vp_updL (x_demandRules u) (x_demands u).toNatClampNeg (pf_X0_keeping p0 p1 p2))) ((x_demands u) + (1 : Int32)))) (fun q_8 => (if p0 = 0 then (ob (pf_X0_moveToNeeded fu p1 q_8) (fun q_10 => (some ((x_demands u), q_10)))) else (some ((x_demands u), q_8)))))))))
def pf_X0_addToLatestDemand (fu : Nat) (p0 : Int32) (p1 : Int32) (u : XS) : Option (XS) := (if (x_demands u) ≤ 0 then (some u) else (og (inb ((x_demands u) - (1 : Int32)) 12) (og (inb ((x_demands u) - (1 : Int32)) 12) (ob (pf_X0_moveToNeeded fu p0 (xs_demandRules u (vp_updL (x_demandRules u) ((x_demands u) - (1 : Int32)).toNatClampNeg (((x_demandRules u) ((x_demands u) - (1 : Int32)).toNatClampNeg) ||| (pf_X0_versionsOf p0 p1))))) (fun q_5 => (some q_5))))))
def pf_X0_addToLatestRow (fu : Nat) (p0 : Int32) (p1 : Int32) (u : XS) : Option (XS) := (if (x_rows u) ≤ 0 then (some u) else (og (inb ((x_rows u) - (1 : Int32)) 120) (og (inb ((x_rows u) - (1 : Int32)) 120) (some (xs_rowRules u (vp_updL (x_rowRules u) ((x_rows u) - (1 : Int32)).toNatClampNeg (((x_rowRules u) ((x_rows u) - (1 : Int32)).toNatClampNeg) ||| (pf_X0_versionsOf p0 p1))))))))
def pf_X0_or (fu : Nat) (p0 : Int32) (p1 : Int32) (u : XS) : Option (Int32 × XS) := (if (x_alternativesFree u) ≤ 0 then (some ((0 : Int32), u)) else (if (pf_X0_hasPack p0 u) = 0 then (some ((0 : Int32), u)) else (if (x_latestIsDemand u) = 0 then (ob (pf_X0_addToLatestRow fu p0 p1 (xs_alternativesFree u ((x_alternativesFree u) - (1 : Int32)))) (fun q_5 => (some ((1 : Int32), q_5)))) else (ob (pf_X0_addToLatestDemand fu p0 p1 (xs_alternativesFree u ((x_alternativesFree u) - (1 : Int32)))) (fun q_6 => (some ((1 : Int32), q_6)))))))
def pf_X0_leaveOut (fu : Nat) (p0 : Int32) (p1 : Int32) (u : XS) : Option (Int32 × XS) := (if p0 < 0 then (some ((0 : Int32), u)) else (if p0 < (x_demands u) then (if ((x_leftOut u) &&& ((1 : Int32) <<< (p0 &&& 31))) = 0 then (if (0 : Int32) = p1 then (some ((0 : Int32), u)) else (some ((1 : Int32), (xs_leftOut u ((x_leftOut u) ^^^ ((1 : Int32) <<< (p0 &&& 31))))))) else (if (1 : Int32) = p1 then (some ((0 : Int32), u)) else (some ((1 : Int32), (xs_leftOut u ((x_leftOut u) ^^^ ((1 : Int32) <<< (p0 &&& 31)))))))) else (some ((0 : Int32), u))))
def pf_X0_hasPlace (fu : Nat) (p0 : Int32) (p1 : Int32) (u : XS) : Option (Int32) := (if p1 = (-1 : Int32) then (og (bz (pf_X0_hasPack p0 u)) (some (pf_X0_hasPack p0 u))) else (og (bz (pf_X0_hasVersion p0 p1 u)) (some (pf_X0_hasVersion p0 p1 u))))
def pf_X0_lock (fu : Nat) (p0 : Int32) (p1 : Int32) (u : XS) : Option (Int32 × XS) := (ob (pf_X0_hasPlace fu p0 p1 u) (fun q_1 => (if q_1 = 0 then (some ((0 : Int32), u)) else (if p1 = (-1 : Int32) then (some ((1 : Int32), (xs_locked u ((x_locked u) &&& ((pf_X0_allOf p0) ^^^ (-1 : Int64)))))) else (some ((1 : Int32), (xs_locked (xs_locked u ((x_locked u) &&& ((pf_X0_allOf p0) ^^^ (-1 : Int64)))) (((x_locked u) &&& ((pf_X0_allOf p0) ^^^ (-1 : Int64))) ||| (pf_X0_placeOf p0 p1)))))))))
def pf_X0_demandsThatCount (u : XS) : Int32 := ((((1 : Int32) <<< ((x_demands u) &&& 31)) - (1 : Int32)) &&& ((x_leftOut u) ^^^ (-1 : Int32)))
def pf_J13_bitCount (p0 : Int64) : Int32 := (((((((((p0 - (((p0).toUInt64 >>> ((1 : Int32).toInt64.toUInt64 &&& Int64.toUInt64 63)).toInt64 &&& (6148914691236517205 : Int64))) &&& (3689348814741910323 : Int64)) + ((((p0 - (((p0).toUInt64 >>> ((1 : Int32).toInt64.toUInt64 &&& Int64.toUInt64 63)).toInt64 &&& (6148914691236517205 : Int64)))).toUInt64 >>> ((2 : Int32).toInt64.toUInt64 &&& Int64.toUInt64 63)).toInt64 &&& (3689348814741910323 : Int64))) + (((((p0 - (((p0).toUInt64 >>> ((1 : Int32).toInt64.toUInt64 &&& Int64.toUInt64 63)).toInt64 &&& (6148914691236517205 : Int64))) &&& (3689348814741910323 : Int64)) + ((((p0 - (((p0).toUInt64 >>> ((1 : Int32).toInt64.toUInt64 &&& Int64.toUInt64 63)).toInt64 &&& (6148914691236517205 : Int64)))).toUInt64 >>> ((2 : Int32).toInt64.toUInt64 &&& Int64.toUInt64 63)).toInt64 &&& (3689348814741910323 : Int64)))).toUInt64 >>> ((4 : Int32).toInt64.toUInt64 &&& Int64.toUInt64 63)).toInt64) &&& (1085102592571150095 : Int64)) + (((((((p0 - (((p0).toUInt64 >>> ((1 : Int32).toInt64.toUInt64 &&& Int64.toUInt64 63)).toInt64 &&& (6148914691236517205 : Int64))) &&& (3689348814741910323 : Int64)) + ((((p0 - (((p0).toUInt64 >>> ((1 : Int32).toInt64.toUInt64 &&& Int64.toUInt64 63)).toInt64 &&& (6148914691236517205 : Int64)))).toUInt64 >>> ((2 : Int32).toInt64.toUInt64 &&& Int64.toUInt64 63)).toInt64 &&& (3689348814741910323 : Int64))) + (((((p0 - (((p0).toUInt64 >>> ((1 : Int32).toInt64.toUInt64 &&& Int64.toUInt64 63)).toInt64 &&& (6148914691236517205 : Int64))) &&& (3689348814741910323 : Int64)) + ((((p0 - (((p0).toUInt64 >>> ((1 : Int32).toInt64.toUInt64 &&& Int64.toUInt64 63)).toInt64 &&& (6148914691236517205 : Int64)))).toUInt64 >>> ((2 : Int32).toInt64.toUInt64 &&& Int64.toUInt64 63)).toInt64 &&& (3689348814741910323 : Int64)))).toUInt64 >>> ((4 : Int32).toInt64.toUInt64 &&& Int64.toUInt64 63)).toInt64) &&& (1085102592571150095 : Int64))).toUInt64 >>> ((8 : Int32).toInt64.toUInt64 &&& Int64.toUInt64 63)).toInt64) + ((((((((p0 - (((p0).toUInt64 >>> ((1 : Int32).toInt64.toUInt64 &&& Int64.toUInt64 63)).toInt64 &&& (6148914691236517205 : Int64))) &&& (3689348814741910323 : Int64)) + ((((p0 - (((p0).toUInt64 >>> ((1 : Int32).toInt64.toUInt64 &&& Int64.toUInt64 63)).toInt64 &&& (6148914691236517205 : Int64)))).toUInt64 >>> ((2 : Int32).toInt64.toUInt64 &&& Int64.toUInt64 63)).toInt64 &&& (3689348814741910323 : Int64))) + (((((p0 - (((p0).toUInt64 >>> ((1 : Int32).toInt64.toUInt64 &&& Int64.toUInt64 63)).toInt64 &&& (6148914691236517205 : Int64))) &&& (3689348814741910323 : Int64)) + ((((p0 - (((p0).toUInt64 >>> ((1 : Int32).toInt64.toUInt64 &&& Int64.toUInt64 63)).toInt64 &&& (6148914691236517205 : Int64)))).toUInt64 >>> ((2 : Int32).toInt64.toUInt64 &&& Int64.toUInt64 63)).toInt64 &&& (3689348814741910323 : Int64)))).toUInt64 >>> ((4 : Int32).toInt64.toUInt64 &&& Int64.toUInt64 63)).toInt64) &&& (1085102592571150095 : Int64)) + (((((((p0 - (((p0).toUInt64 >>> ((1 : Int32).toInt64.toUInt64 &&& Int64.toUInt64 63)).toInt64 &&& (6148914691236517205 : Int64))) &&& (3689348814741910323 : Int64)) + ((((p0 - (((p0).toUInt64 >>> ((1 : Int32).toInt64.toUInt64 &&& Int64.toUInt64 63)).toInt64 &&& (6148914691236517205 : Int64)))).toUInt64 >>> ((2 : Int32).toInt64.toUInt64 &&& Int64.toUInt64 63)).toInt64 &&& (3689348814741910323 : Int64))) + (((((p0 - (((p0).toUInt64 >>> ((1 : Int32).toInt64.toUInt64 &&& Int64.toUInt64 63)).toInt64 &&& (6148914691236517205 : Int64))) &&& (3689348814741910323 : Int64)) + ((((p0 - (((p0).toUInt64 >>> ((1 : Int32).toInt64.toUInt64 &&& Int64.toUInt64 63)).toInt64 &&& (6148914691236517205 : Int64)))).toUInt64 >>> ((2 : Int32).toInt64.toUInt64 &&& Int64.toUInt64 63)).toInt64 &&& (3689348814741910323 : Int64)))).toUInt64 >>> ((4 : Int32).toInt64.toUInt64 &&& Int64.toUInt64 63)).toInt64) &&& (1085102592571150095 : Int64))).toUInt64 >>> ((8 : Int32).toInt64.toUInt64 &&& Int64.toUInt64 63)).toInt64)).toUInt64 >>> ((16 : Int32).toInt64.toUInt64 &&& Int64.toUInt64 63)).toInt64) + (((((((((p0 - (((p0).toUInt64 >>> ((1 : Int32).toInt64.toUInt64 &&& Int64.toUInt64 63)).toInt64 &&& (6148914691236517205 : Int64))) &&& (3689348814741910323 : Int64)) + ((((p0 - (((p0).toUInt64 >>> ((1 : Int32).toInt64.toUInt64 &&& Int64.toUInt64 63)).toInt64 &&& (6148914691236517205 : Int64)))).toUInt64 >>> ((2 : Int32).toInt64.toUInt64 &&& Int64.toUInt64 63)).toInt64 &&& (3689348814741910323 : Int64))) + (((((p0 - (((p0).toUInt64 >>> ((1 : Int32).toInt64.toUInt64 &&& Int64.toUInt64 63)).toInt64 &&& (6148914691236517205 : Int64))) &&& (3689348814741910323 : Int64)) + ((((p0 - (((p0).toUInt64 >>> ((1 : Int32).toInt64.toUInt64 &&& Int64.toUInt64 63)).toInt64 &&& (6148914691236517205 : Int64)))).toUInt64 >>> ((2 : Int32).toInt64.toUInt64 &&& Int64.toUInt64 63)).toInt64 &&& (3689348814741910323 : Int64)))).toUInt64 >>> ((4 : Int32).toInt64.toUInt64 &&& Int64.toUInt64 63)).toInt64) &&& (1085102592571150095 : Int64)) + (((((((p0 - (((p0).toUInt64 >>> ((1 : Int32).toInt64.toUInt64 &&& Int64.toUInt64 63)).toInt64 &&& (6148914691236517205 : Int64))) &&& (3689348814741910323 : Int64)) + ((((p0 - (((p0).toUInt64 >>> ((1 : Int32).toInt64.toUInt64 &&& Int64.toUInt64 63)).toInt64 &&& (6148914691236517205 : Int64)))).toUInt64 >>> ((2 : Int32).toInt64.toUInt64 &&& Int64.toUInt64 63)).toInt64 &&& (3689348814741910323 : Int64))) + (((((p0 - (((p0).toUInt64 >>> ((1 : Int32).toInt64.toUInt64 &&& Int64.toUInt64 63)).toInt64 &&& (6148914691236517205 : Int64))) &&& (3689348814741910323 : Int64)) + ((((p0 - (((p0).toUInt64 >>> ((1 : Int32).toInt64.toUInt64 &&& Int64.toUInt64 63)).toInt64 &&& (6148914691236517205 : Int64)))).toUInt64 >>> ((2 : Int32).toInt64.toUInt64 &&& Int64.toUInt64 63)).toInt64 &&& (3689348814741910323 : Int64)))).toUInt64 >>> ((4 : Int32).toInt64.toUInt64 &&& Int64.toUInt64 63)).toInt64) &&& (1085102592571150095 : Int64))).toUInt64 >>> ((8 : Int32).toInt64.toUInt64 &&& Int64.toUInt64 63)).toInt64) + ((((((((p0 - (((p0).toUInt64 >>> ((1 : Int32).toInt64.toUInt64 &&& Int64.toUInt64 63)).toInt64 &&& (6148914691236517205 : Int64))) &&& (3689348814741910323 : Int64)) + ((((p0 - (((p0).toUInt64 >>> ((1 : Int32).toInt64.toUInt64 &&& Int64.toUInt64 63)).toInt64 &&& (6148914691236517205 : Int64)))).toUInt64 >>> ((2 : Int32).toInt64.toUInt64 &&& Int64.toUInt64 63)).toInt64 &&& (3689348814741910323 : Int64))) + (((((p0 - (((p0).toUInt64 >>> ((1 : Int32).toInt64.toUInt64 &&& Int64.toUInt64 63)).toInt64 &&& (6148914691236517205 : Int64))) &&& (3689348814741910323 : Int64)) + ((((p0 - (((p0).toUInt64 >>> ((1 : Int32).toInt64.toUInt64 &&& Int64.toUInt64 63)).toInt64 &&& (6148914691236517205 : Int64)))).toUInt64 >>> ((2 : Int32).toInt64.toUInt64 &&& Int64.toUInt64 63)).toInt64 &&& (3689348814741910323 : Int64)))).toUInt64 >>> ((4 : Int32).toInt64.toUInt64 &&& Int64.toUInt64 63)).toInt64) &&& (1085102592571150095 : Int64)) + (((((((p0 - (((p0).toUInt64 >>> ((1 : Int32).toInt64.toUInt64 &&& Int64.toUInt64 63)).toInt64 &&& (6148914691236517205 : Int64))) &&& (3689348814741910323 : Int64)) + ((((p0 - (((p0).toUInt64 >>> ((1 : Int32).toInt64.toUInt64 &&& Int64.toUInt64 63)).toInt64 &&& (6148914691236517205 : Int64)))).toUInt64 >>> ((2 : Int32).toInt64.toUInt64 &&& Int64.toUInt64 63)).toInt64 &&& (3689348814741910323 : Int64))) + (((((p0 - (((p0).toUInt64 >>> ((1 : Int32).toInt64.toUInt64 &&& Int64.toUInt64 63)).toInt64 &&& (6148914691236517205 : Int64))) &&& (3689348814741910323 : Int64)) + ((((p0 - (((p0).toUInt64 >>> ((1 : Int32).toInt64.toUInt64 &&& Int64.toUInt64 63)).toInt64 &&& (6148914691236517205 : Int64)))).toUInt64 >>> ((2 : Int32).toInt64.toUInt64 &&& Int64.toUInt64 63)).toInt64 &&& (3689348814741910323 : Int64)))).toUInt64 >>> ((4 : Int32).toInt64.toUInt64 &&& Int64.toUInt64 63)).toInt64) &&& (1085102592571150095 : Int64))).toUInt64 >>> ((8 : Int32).toInt64.toUInt64 &&& Int64.toUInt64 63)).toInt64)).toUInt64 >>> ((16 : Int32).toInt64.toUInt64 &&& Int64.toUInt64 63)).toInt64)).toUInt64 >>> ((32 : Int32).toInt64.toUInt64 &&& Int64.toUInt64 63)).toInt64).toInt32 &&& (127 : Int32))
def pf_X0_narrowByRule (p0 : Int64) (p1 : Int64) : Int64 := (if (p0 &&& p1) = (0 : Int64) then (0 : Int64) else (if ((p0 &&& p1) &&& ((pf_X0_allOf ((pf_J13_bitCount (((p0 &&& p1) &&& (-(p0 &&& p1))) - (1 : Int64))) / (8 : Int32))) ^^^ (-1 : Int64))) = (0 : Int64) then (if (1 : Int32) = 0 then p0 else ((p0 &&& ((pf_X0_allOf ((pf_J13_bitCount (((p0 &&& p1) &&& (-(p0 &&& p1))) - (1 : Int64))) / (8 : Int32))) ^^^ (-1 : Int64))) ||| (p0 &&& p1))) else (if (0 : Int32) = 0 then p0 else ((p0 &&& ((pf_X0_allOf ((pf_J13_bitCount (((p0 &&& p1) &&& (-(p0 &&& p1))) - (1 : Int64))) / (8 : Int32))) ^^^ (-1 : Int64))) ||| (p0 &&& p1)))))
def pl_X0_narrow_20 (fu : Nat) (u : XS) (K_20 : Int32 → Int64 → Option (Int64)) : Nat → Int32 → Int64 → Option (Int64)
  | 0, _, _ => none
  | n_20 + 1, x9_20, x4_20 => (if (x_rows u) ≤ x9_20 then (K_20 x9_20 x4_20) else (if x4_20 = (0 : Int64) then (K_20 x9_20 x4_20) else (og (inb x9_20 120) (pl_X0_narrow_20 fu u K_20 n_20 (x9_20 + (1 : Int32)) (pf_X0_narrowByRule x4_20 ((x_rowRules u) x9_20.toNatClampNeg))))))
def pl_X0_narrow_59 (fu : Nat) (p1 : Int32) (u : XS) (K_59 : Int32 → Int64 → Option (Int64)) : Nat → Int32 → Int64 → Option (Int64)
  | 0, _, _ => none
  | n_59 + 1, x9_59, x4_59 => (if (x_demands u) ≤ x9_59 then (K_59 x9_59 x4_59) else (if x4_59 = (0 : Int64) then (K_59 x9_59 x4_59) else (if (p1 &&& ((1 : Int32) <<< (x9_59 &&& 31))) = 0 then (pl_X0_narrow_59 fu p1 u K_59 n_59 (x9_59 + (1 : Int32)) x4_59) else (og (inb x9_59 12) (pl_X0_narrow_59 fu p1 u K_59 n_59 (x9_59 + (1 : Int32)) (pf_X0_narrowByRule x4_59 ((x_demandRules u) x9_59.toNatClampNeg)))))))
def pl_X0_narrow_6 (fu : Nat) (p1 : Int32) (u : XS) (K_6 : Int32 → Int64 → Option (Int64)) : Nat → Int32 → Int64 → Option (Int64)
  | 0, _, _ => none
  | n_6 + 1, x6_6, x4_6 => (if (64 : Int32) ≤ x6_6 then (K_6 x6_6 x4_6) else (pl_X0_narrow_20 fu u (fun x9_20 x4_20 => (pl_X0_narrow_59 fu p1 u (fun x9_59 x4_59 => (if x4_59 = x4_6 then (some x4_59) else (pl_X0_narrow_6 fu p1 u K_6 n_6 (x6_6 + (1 : Int32)) x4_59))) fu (0 : Int32) x4_20)) fu (0 : Int32) x4_6))
def pf_X0_narrow (fu : Nat) (p0 : Int64) (p1 : Int32) (u : XS) : Option (Int64) := (pl_X0_narrow_6 fu p1 u (fun x6_6 x4_6 => (some x4_6)) fu (0 : Int32) p0)
def pf_X0_placeAt (p0 : Int32) (p1 : Int32) (p2 : Int32) (u : XS) : Int64 := (if p0 = 0 then ((x_locked u) &&& (pf_X0_allOf p1)) else (if p2 = 0 then (if p0 = (1 : Int32) then (pf_X0_noneOf p1) else (pf_X0_placeOf p1 ((7 : Int32) - p0))) else (pf_X0_placeOf p1 ((6 : Int32) - p0))))
def pl_X0_firstOf_45 (fu : Nat) (FW : Int64 → Int32 → Int32 → XS → Option (Int64)) (p1 : Int32) (p2 : Int32) (u : XS) (t_37 : Int32) (K_45 : Int32 → Int64 → Option (Int64)) : Nat → Int32 → Int64 → Option (Int64)
  | 0, _, _ => none
  | n_45 + 1, x9_45, x7_45 => (if (8 : Int32) ≤ x9_45 then (K_45 x9_45 x7_45) else (if (x7_45 &&& (pf_X0_placeAt x9_45 ((x_order u) p2.toNatClampNeg) t_37 u)) = (0 : Int64) then (pl_X0_firstOf_45 fu FW p1 p2 u t_37 K_45 n_45 (x9_45 + (1 : Int32)) x7_45) else (ob (FW ((x7_45 &&& ((pf_X0_allOf ((x_order u) p2.toNatClampNeg)) ^^^ (-1 : Int64))) ||| (x7_45 &&& (pf_X0_placeAt x9_45 ((x_order u) p2.toNatClampNeg) t_37 u))) p1 (p2 + (1 : Int32)) u) (fun q_8 => (if q_8 = (0 : Int64) then (pl_X0_firstOf_45 fu FW p1 p2 u t_37 K_45 n_45 (x9_45 + (1 : Int32)) (x7_45 &&& ((x7_45 &&& (pf_X0_placeAt x9_45 ((x_order u) p2.toNatClampNeg) t_37 u)) ^^^ (-1 : Int64)))) else (some q_8))))))
def pf_X0_firstOf (fu : Nat) (FW : Int64 → Int32 → Int32 → XS → Option (Int64)) (p0 : Int64) (p1 : Int32) (p2 : Int32) (u : XS) : Option (Int64) := (if p2 < 0 then (some p0) else (if p2 < (8 : Int32) then (og (inb p2 8) (jn (fun (t_37 : Int32) => (pl_X0_firstOf_45 fu FW p1 p2 u t_37 (fun x9_45 x7_45 => (some (0 : Int64))) fu (0 : Int32) p0)) (fun j_37 => (if (x_neededPacks u) ≤ p2 then (j_37 (0 : Int32)) else (j_37 (1 : Int32)))))) else (some p0)))
def pf_X0_fwk (fu : Nat) : Nat → Int64 → Int32 → Int32 → XS → Option (Int64)
  | 0, _, _, _, _ => none
  | k + 1, p0, p1, p2, u => (ob (pf_X0_narrow fu p0 p1 u) (fun q_1 => (if q_1 = (0 : Int64) then (some (0 : Int64)) else (ob (pf_X0_firstOf fu (pf_X0_fwk fu k) q_1 p1 p2 u) (fun q_3 => (some q_3))))))
def pf_X0_firstWithin (fu : Nat) (p0 : Int64) (p1 : Int32) (p2 : Int32) (u : XS) : Option (Int64) := pf_X0_fwk fu 9 p0 p1 p2 u
def pf_X0_solve (fu : Nat) (u : XS) : Option (Int32 × XS) := (ob (pf_X0_firstWithin fu (x_places u) (pf_X0_demandsThatCount u) (0 : Int32) u) (fun q_2 => (if q_2 = (0 : Int64) then (some ((0 : Int32), (xs_picked u q_2))) else (some ((1 : Int32), (xs_picked u q_2))))))
def pl_X0_chosen_12 (fu : Nat) (p0 : Int32) (u : XS) (K_12 : Int32 → Option (Int32)) : Nat → Int32 → Option (Int32)
  | 0, _ => none
  | n_12 + 1, x2_12 => (if (6 : Int32) ≤ x2_12 then (K_12 x2_12) else (if ((x_picked u) &&& (pf_X0_placeOf p0 x2_12)) = (0 : Int64) then (pl_X0_chosen_12 fu p0 u K_12 n_12 (x2_12 + (1 : Int32))) else (some x2_12)))
def pf_X0_chosen (fu : Nat) (p0 : Int32) (u : XS) : Option (Int32) := (if (pf_X0_hasPack p0 u) = 0 then (some (-1 : Int32)) else (pl_X0_chosen_12 fu p0 u (fun x2_12 => (some (-1 : Int32))) fu (0 : Int32)))
def pf_X0_someRightKeeps (fu : Nat) (p0 : Int32) (u : XS) : Option (Int32) := (ob (pf_X0_firstWithin fu (x_places u) p0 (0 : Int32) u) (fun q_1 => (if q_1 = (0 : Int64) then (some (0 : Int32)) else (some (1 : Int32)))))
def pf_J6_bitCount (p0 : Int32) : Int32 := ((((((((p0 - (((p0).toUInt32 >>> ((1 : Int32).toUInt32 &&& Int32.toUInt32 31)).toInt32 &&& (1431655765 : Int32))) &&& (858993459 : Int32)) + ((((p0 - (((p0).toUInt32 >>> ((1 : Int32).toUInt32 &&& Int32.toUInt32 31)).toInt32 &&& (1431655765 : Int32)))).toUInt32 >>> ((2 : Int32).toUInt32 &&& Int32.toUInt32 31)).toInt32 &&& (858993459 : Int32))) + (((((p0 - (((p0).toUInt32 >>> ((1 : Int32).toUInt32 &&& Int32.toUInt32 31)).toInt32 &&& (1431655765 : Int32))) &&& (858993459 : Int32)) + ((((p0 - (((p0).toUInt32 >>> ((1 : Int32).toUInt32 &&& Int32.toUInt32 31)).toInt32 &&& (1431655765 : Int32)))).toUInt32 >>> ((2 : Int32).toUInt32 &&& Int32.toUInt32 31)).toInt32 &&& (858993459 : Int32)))).toUInt32 >>> ((4 : Int32).toUInt32 &&& Int32.toUInt32 31)).toInt32) &&& (252645135 : Int32)) + (((((((p0 - (((p0).toUInt32 >>> ((1 : Int32).toUInt32 &&& Int32.toUInt32 31)).toInt32 &&& (1431655765 : Int32))) &&& (858993459 : Int32)) + ((((p0 - (((p0).toUInt32 >>> ((1 : Int32).toUInt32 &&& Int32.toUInt32 31)).toInt32 &&& (1431655765 : Int32)))).toUInt32 >>> ((2 : Int32).toUInt32 &&& Int32.toUInt32 31)).toInt32 &&& (858993459 : Int32))) + (((((p0 - (((p0).toUInt32 >>> ((1 : Int32).toUInt32 &&& Int32.toUInt32 31)).toInt32 &&& (1431655765 : Int32))) &&& (858993459 : Int32)) + ((((p0 - (((p0).toUInt32 >>> ((1 : Int32).toUInt32 &&& Int32.toUInt32 31)).toInt32 &&& (1431655765 : Int32)))).toUInt32 >>> ((2 : Int32).toUInt32 &&& Int32.toUInt32 31)).toInt32 &&& (858993459 : Int32)))).toUInt32 >>> ((4 : Int32).toUInt32 &&& Int32.toUInt32 31)).toInt32) &&& (252645135 : Int32))).toUInt32 >>> ((8 : Int32).toUInt32 &&& Int32.toUInt32 31)).toInt32) + ((((((((p0 - (((p0).toUInt32 >>> ((1 : Int32).toUInt32 &&& Int32.toUInt32 31)).toInt32 &&& (1431655765 : Int32))) &&& (858993459 : Int32)) + ((((p0 - (((p0).toUInt32 >>> ((1 : Int32).toUInt32 &&& Int32.toUInt32 31)).toInt32 &&& (1431655765 : Int32)))).toUInt32 >>> ((2 : Int32).toUInt32 &&& Int32.toUInt32 31)).toInt32 &&& (858993459 : Int32))) + (((((p0 - (((p0).toUInt32 >>> ((1 : Int32).toUInt32 &&& Int32.toUInt32 31)).toInt32 &&& (1431655765 : Int32))) &&& (858993459 : Int32)) + ((((p0 - (((p0).toUInt32 >>> ((1 : Int32).toUInt32 &&& Int32.toUInt32 31)).toInt32 &&& (1431655765 : Int32)))).toUInt32 >>> ((2 : Int32).toUInt32 &&& Int32.toUInt32 31)).toInt32 &&& (858993459 : Int32)))).toUInt32 >>> ((4 : Int32).toUInt32 &&& Int32.toUInt32 31)).toInt32) &&& (252645135 : Int32)) + (((((((p0 - (((p0).toUInt32 >>> ((1 : Int32).toUInt32 &&& Int32.toUInt32 31)).toInt32 &&& (1431655765 : Int32))) &&& (858993459 : Int32)) + ((((p0 - (((p0).toUInt32 >>> ((1 : Int32).toUInt32 &&& Int32.toUInt32 31)).toInt32 &&& (1431655765 : Int32)))).toUInt32 >>> ((2 : Int32).toUInt32 &&& Int32.toUInt32 31)).toInt32 &&& (858993459 : Int32))) + (((((p0 - (((p0).toUInt32 >>> ((1 : Int32).toUInt32 &&& Int32.toUInt32 31)).toInt32 &&& (1431655765 : Int32))) &&& (858993459 : Int32)) + ((((p0 - (((p0).toUInt32 >>> ((1 : Int32).toUInt32 &&& Int32.toUInt32 31)).toInt32 &&& (1431655765 : Int32)))).toUInt32 >>> ((2 : Int32).toUInt32 &&& Int32.toUInt32 31)).toInt32 &&& (858993459 : Int32)))).toUInt32 >>> ((4 : Int32).toUInt32 &&& Int32.toUInt32 31)).toInt32) &&& (252645135 : Int32))).toUInt32 >>> ((8 : Int32).toUInt32 &&& Int32.toUInt32 31)).toInt32)).toUInt32 >>> ((16 : Int32).toUInt32 &&& Int32.toUInt32 31)).toInt32) &&& (63 : Int32))
def pl_X0_blame_22 (fu : Nat) (u : XS) (K_22 : Int32 → Int32 → Option (Int32 × XS)) : Nat → Int32 → Int32 → Option (Int32 × XS)
  | 0, _, _ => none
  | n_22 + 1, x2_22, x1_22 => (if (x_demands u) ≤ x2_22 then (K_22 x2_22 x1_22) else (if (x1_22 &&& (((1 : Int32) <<< (x2_22 &&& 31)) ^^^ (-1 : Int32))) = x1_22 then (pl_X0_blame_22 fu u K_22 n_22 (x2_22 + (1 : Int32)) x1_22) else (ob (pf_X0_someRightKeeps fu (x1_22 &&& (((1 : Int32) <<< (x2_22 &&& 31)) ^^^ (-1 : Int32))) (xs_toBlame u (0 : Int32))) (fun q_6 => (if q_6 = 0 then (pl_X0_blame_22 fu u K_22 n_22 (x2_22 + (1 : Int32)) (x1_22 &&& (((1 : Int32) <<< (x2_22 &&& 31)) ^^^ (-1 : Int32)))) else (pl_X0_blame_22 fu u K_22 n_22 (x2_22 + (1 : Int32)) x1_22))))))
def pf_X0_blame (fu : Nat) (u : XS) : Option (Int32 × XS) := (ob (pf_X0_someRightKeeps fu (pf_X0_demandsThatCount u) (xs_toBlame u (0 : Int32))) (fun q_2 => (if q_2 = 0 then (pl_X0_blame_22 fu u (fun x2_22 x1_22 => (some ((pf_J6_bitCount x1_22), (xs_toBlame (xs_toBlame u (0 : Int32)) x1_22)))) fu (0 : Int32) (pf_X0_demandsThatCount u)) else (some ((0 : Int32), (xs_toBlame u (0 : Int32)))))))
def pl_X0_blamed_4 (fu : Nat) (p0 : Int32) (u : XS) (K_4 : Int32 → Int32 → Option (Int32)) : Nat → Int32 → Int32 → Option (Int32)
  | 0, _, _ => none
  | n_4 + 1, x3_4, x2_4 => (if (12 : Int32) ≤ x3_4 then (K_4 x3_4 x2_4) else (if ((x_toBlame u) &&& ((1 : Int32) <<< (x3_4 &&& 31))) = 0 then (pl_X0_blamed_4 fu p0 u K_4 n_4 (x3_4 + (1 : Int32)) x2_4) else (if x2_4 = p0 then (some x3_4) else (pl_X0_blamed_4 fu p0 u K_4 n_4 (x3_4 + (1 : Int32)) (x2_4 + (1 : Int32))))))
def pf_X0_blamed (fu : Nat) (p0 : Int32) (u : XS) : Option (Int32) := (pl_X0_blamed_4 fu p0 u (fun x3_4 x2_4 => (some (-1 : Int32))) fu (0 : Int32) (0 : Int32))
def pf_X0_someRightGives (fu : Nat) (p0 : Int32) (p1 : Int32) (u : XS) : Option (Int32) := (ob (pf_X0_firstWithin fu (((x_places u) &&& ((pf_X0_allOf p0) ^^^ (-1 : Int64))) ||| (pf_X0_placeOf p0 p1)) (pf_X0_demandsThatCount u) (0 : Int32) u) (fun q_4 => (if q_4 = (0 : Int64) then (some (0 : Int32)) else (some (1 : Int32)))))
def pf_X0_can (fu : Nat) (p0 : Int32) (p1 : Int32) (u : XS) : Option (Int32) := (ob (pf_X0_hasPlace fu p0 p1 u) (fun q_1 => (if q_1 = 0 then (some (0 : Int32)) else (ob (pf_X0_someRightGives fu p0 p1 u) (fun q_3 => (if q_3 = 0 then (some (0 : Int32)) else (some (1 : Int32))))))))
def pf_X0_must (fu : Nat) (p0 : Int32) (u : XS) : Option (Int32) := (if (pf_X0_hasPack p0 u) = 0 then (some (0 : Int32)) else (ob (pf_X0_someRightGives fu p0 (-1 : Int32) u) (fun q_3 => (if q_3 = 0 then (some (1 : Int32)) else (some (0 : Int32))))))
def mI0 : MS := (0, fun _ => 0, fun _ => 0, fun _ => 0, fun _ => 0, fun _ => 0, fun _ => 0, fun _ => 0, 0, 0, 0, 0, fun _ => 0, fun _ => 0, fun _ => 0, fun _ => 0, fun _ => 0, fun _ => 0, fun _ => 0, fun _ => 0, (-1 : Int32), fun _ => 0, 0)
def pl_X1_init_145 (fu : Nat)  (K_145 : Int32 → MS → Option (MS)) : Nat → Int32 → MS → Option (MS)
  | 0, _, _ => none
  | n_145 + 1, x1_145, u_145 => (if (8 : Int32) ≤ x1_145 then (K_145 x1_145 u_145) else (og (inb x1_145 8) (og (inb x1_145 8) (pl_X1_init_145 fu K_145 n_145 (x1_145 + (1 : Int32)) (ms_chosen (ms_locks u_145 (upd (m_locks u_145) x1_145.toNatClampNeg (-1 : Int32))) (upd (m_chosen u_145) x1_145.toNatClampNeg (-1 : Int32)))))))
def pf_X1_init (fu : Nat) (u : MS) : Option (MS) := (pl_X1_init_145 fu (fun x1_145 u_145 => (some u_145)) fu (0 : Int32) u)
abbrev aMe (dC : Nat → ClassId) (dI : Nat → Nat → Nat) (A : Nat → Prop) (h0 : Nat) (u : MS) (t : State) : Prop := ∃ (hs : Nat → Nat) (ka : Nat → ClassId), hs 0 = h0 ∧ va_P (dC, dI) vwCl (cM hs ka u) t.heap ∧ va_K (dC, dI) vwCl (tM ka) t ∧ va_D A (cM hs ka u)
def pf_X1_isPackage (p0 : Int32) (u : MS) : Int32 := (if p0 < 0 then (0 : Int32) else (if (m_packages u) ≤ p0 then (0 : Int32) else (1 : Int32)))
def pf_X1_isVersion (fu : Nat) (p0 : Int32) (p1 : Int32) (u : MS) : Option (Int32) := (if (pf_X1_isPackage p0 u) = 0 then (some (0 : Int32)) else (if p1 < 0 then (some (0 : Int32)) else (og (inb p0 8) (if ((m_versions u) p0.toNatClampNeg) ≤ p1 then (some (0 : Int32)) else (some (1 : Int32))))))
def pf_X1_pack (fu : Nat) (p0 : Int32) (u : MS) : Option (Int32 × MS) := (if (m_packages u) = (8 : Int32) then (some ((-1 : Int32), (ms_code u (0 : Int32)))) else (if p0 < 0 then (some ((-1 : Int32), (ms_code u (0 : Int32)))) else (if p0 ≤ (6 : Int32) then (og (inb (m_packages u) 8) (some ((((m_packages u) + (1 : Int32)) - (1 : Int32)), (ms_packages (ms_versions (ms_code u (0 : Int32)) (upd (m_versions u) (m_packages u).toNatClampNeg p0)) ((m_packages u) + (1 : Int32)))))) else (some ((-1 : Int32), (ms_code u (0 : Int32)))))))
def pf_X1_keep (fu : Nat) (p0 : Int32) (p1 : Int32) (p2 : Int32) (p3 : Int32) (u : MS) : Option (MS) := (og (inb p0 132) (og (inb p0 132) (og (inb ((3 : Int32) * p0) 396) (og (inb ((3 : Int32) * p0) 396) (some (ms_latest (ms_set (ms_other (ms_many (ms_kind u (upd (m_kind u) p0.toNatClampNeg p1)) (upd (m_many u) p0.toNatClampNeg (1 : Int32))) (upd (m_other u) ((3 : Int32) * p0).toNatClampNeg p2)) (upd (m_set u) ((3 : Int32) * p0).toNatClampNeg p3)) p0))))))
def pf_X1_row (fu : Nat) (p0 : Int32) (p1 : Int32) (p2 : Int32) (p3 : Int32) (p4 : Int32) (u : MS) : Option (Int32 × MS) := (ob (pf_X1_isVersion fu p0 p1 (ms_code u (0 : Int32))) (fun q_1 => (if q_1 = 0 then (some ((0 : Int32), (ms_code u (0 : Int32)))) else (if p2 < 0 then (some ((0 : Int32), (ms_code u (0 : Int32)))) else (if (2 : Int32) < p2 then (some ((0 : Int32), (ms_code u (0 : Int32)))) else (if (pf_X1_isPackage p3 (ms_code u (0 : Int32))) = 0 then (some ((0 : Int32), (ms_code u (0 : Int32)))) else (if (m_rows u) = (120 : Int32) then (some ((0 : Int32), (ms_code u (0 : Int32)))) else (og (inb (m_rows u) 132) (og (inb (m_rows u) 132) (ob (pf_X1_keep fu (m_rows u) p2 p3 p4 (ms_version (ms_pack (ms_code u (0 : Int32)) (upd (m_pack u) (m_rows u).toNatClampNeg p0)) (upd (m_version u) (m_rows u).toNatClampNeg p1))) (fun q_10 => (some ((1 : Int32), (ms_rows q_10 ((m_rows q_10) + (1 : Int32))))))))))))))))
def pf_X1_demand (fu : Nat) (p0 : Int32) (p1 : Int32) (p2 : Int32) (u : MS) : Option (Int32 × MS) := (if p0 < 0 then (some ((-1 : Int32), (ms_code u (0 : Int32)))) else (if (2 : Int32) < p0 then (some ((-1 : Int32), (ms_code u (0 : Int32)))) else (if (pf_X1_isPackage p1 (ms_code u (0 : Int32))) = 0 then (some ((-1 : Int32), (ms_code u (0 : Int32)))) else (if (m_demands u) = (12 : Int32) then (some ((-1 : Int32), (ms_code u (0 : Int32)))) else (ob (pf_X1_keep fu ((120 : Int32) + (m_demands u)) p0 p1 p2 (ms_code u (0 : Int32))) (fun q_6 => (some ((((m_demands q_6) + (1 : Int32)) - (1 : Int32)), (ms_demands q_6 ((m_demands q_6) + (1 : Int32)))))))))))
def pf_X1_or (fu : Nat) (p0 : Int32) (p1 : Int32) (u : MS) : Option (Int32 × MS) := (if (m_latest u) = (-1 : Int32) then (some ((0 : Int32), (ms_code u (0 : Int32)))) else (og (inb (m_latest u) 132) (if ((m_kind u) (m_latest u).toNatClampNeg) = 0 then (og (inb (m_latest u) 132) (if ((m_many u) (m_latest u).toNatClampNeg) = (3 : Int32) then (some ((0 : Int32), (ms_code u (0 : Int32)))) else (if (pf_X1_isPackage p0 (ms_code u (0 : Int32))) = 0 then (some ((0 : Int32), (ms_code u (0 : Int32)))) else (og (inb (m_latest u) 132) (og (inb (((3 : Int32) * (m_latest u)) + ((m_many u) (m_latest u).toNatClampNeg)) 396) (og (inb (m_latest u) 132) (og (inb (((3 : Int32) * (m_latest u)) + ((m_many u) (m_latest u).toNatClampNeg)) 396) (og (inb (m_latest u) 132) (og (inb (m_latest u) 132) (some ((1 : Int32), (ms_many (ms_set (ms_other (ms_code u (0 : Int32)) (upd (m_other u) (((3 : Int32) * (m_latest u)) + ((m_many u) (m_latest u).toNatClampNeg)).toNatClampNeg p0)) (upd (m_set u) (((3 : Int32) * (m_latest u)) + ((m_many u) (m_latest u).toNatClampNeg)).toNatClampNeg p1)) (upd (m_many u) (m_latest u).toNatClampNeg (((m_many u) (m_latest u).toNatClampNeg) + (1 : Int32))))))))))))))) else (some ((0 : Int32), (ms_code u (0 : Int32)))))))
def pf_X1_leaveOut (fu : Nat) (p0 : Int32) (p1 : Int32) (u : MS) : Option (Int32 × MS) := (if p0 < 0 then (some ((0 : Int32), (ms_code u (0 : Int32)))) else (if (m_demands u) ≤ p0 then (some ((0 : Int32), (ms_code u (0 : Int32)))) else (og (inb p0 12) (if ((m_out u) p0.toNatClampNeg) = p1 then (some ((0 : Int32), (ms_code u (0 : Int32)))) else (og (inb p0 12) (some ((1 : Int32), (ms_out (ms_code u (0 : Int32)) (upd (m_out u) p0.toNatClampNeg (vp_nar .boolean p1))))))))))
def pf_X1_lock (fu : Nat) (p0 : Int32) (p1 : Int32) (u : MS) : Option (Int32 × MS) := (if (pf_X1_isPackage p0 (ms_code u (0 : Int32))) = 0 then (some ((0 : Int32), (ms_code u (0 : Int32)))) else (if p1 = (-1 : Int32) then (og (inb p0 8) (some ((1 : Int32), (ms_locks (ms_code u (0 : Int32)) (upd (m_locks u) p0.toNatClampNeg p1))))) else (ob (pf_X1_isVersion fu p0 p1 (ms_code u (0 : Int32))) (fun q_5 => (if q_5 = 0 then (some ((0 : Int32), (ms_code u (0 : Int32)))) else (og (inb p0 8) (some ((1 : Int32), (ms_locks (ms_code u (0 : Int32)) (upd (m_locks u) p0.toNatClampNeg p1))))))))))
def pl_X1_isBroken_59 (fu : Nat) (p0 : Int32) (u : MS) (K_59 : Int32 → Int32 → Option (Int32)) : Nat → Int32 → Int32 → Option (Int32)
  | 0, _, _ => none
  | n_59 + 1, x3_59, x2_59 => (og (inb p0 132) (if ((m_many u) p0.toNatClampNeg) ≤ x3_59 then (K_59 x3_59 x2_59) else (og (inb (((3 : Int32) * p0) + x3_59) 396) (og (inb ((m_other u) (((3 : Int32) * p0) + x3_59).toNatClampNeg) 8) (jn (fun (t_115 : Int32) => (jn (fun (t_178 : Int32) => (pl_X1_isBroken_59 fu p0 u K_59 n_59 (x3_59 + (1 : Int32)) t_178)) (fun j_178 => (if x2_59 = 0 then (j_178 (0 : Int32)) else (if ((m_value u) ((m_other u) (((3 : Int32) * p0) + x3_59).toNatClampNeg).toNatClampNeg) = (-2 : Int32) then (j_178 (0 : Int32)) else (og (inb p0 132) (if ((m_kind u) p0.toNatClampNeg) = 0 then (if t_115 = 0 then (j_178 (1 : Int32)) else (j_178 (0 : Int32))) else (og (inb p0 132) (if ((m_kind u) p0.toNatClampNeg) = (1 : Int32) then (if t_115 = 0 then (j_178 (0 : Int32)) else (j_178 (1 : Int32))) else (if ((m_value u) ((m_other u) (((3 : Int32) * p0) + x3_59).toNatClampNeg).toNatClampNeg) < 0 then (j_178 (0 : Int32)) else (if t_115 = 0 then (j_178 (1 : Int32)) else (j_178 (0 : Int32))))))))))))) (fun j_115 => (if ((m_value u) ((m_other u) (((3 : Int32) * p0) + x3_59).toNatClampNeg).toNatClampNeg) < 0 then (j_115 (0 : Int32)) else (og (inb (((3 : Int32) * p0) + x3_59) 396) (if ((((m_set u) (((3 : Int32) * p0) + x3_59).toNatClampNeg) >>> (((m_value u) ((m_other u) (((3 : Int32) * p0) + x3_59).toNatClampNeg).toNatClampNeg) &&& 31)) &&& (1 : Int32)) = (1 : Int32) then (j_115 (1 : Int32)) else (j_115 (0 : Int32)))))))))))
def pf_X1_isBroken (fu : Nat) (p0 : Int32) (u : MS) : Option (Int32) := (if p0 < (120 : Int32) then (og (inb p0 132) (og (inb ((m_pack u) p0.toNatClampNeg) 8) (og (inb p0 132) (if ((m_value u) ((m_pack u) p0.toNatClampNeg).toNatClampNeg) = ((m_version u) p0.toNatClampNeg) then (pl_X1_isBroken_59 fu p0 u (fun x3_59 x2_59 => (og (bz x2_59) (some x2_59))) fu (0 : Int32) (1 : Int32)) else (some (0 : Int32)))))) else (og (inb (p0 - (120 : Int32)) 12) (if ((m_out u) (p0 - (120 : Int32)).toNatClampNeg) = 0 then (og (inb (p0 - (120 : Int32)) 12) (if ((m_away u) (p0 - (120 : Int32)).toNatClampNeg) = 0 then (pl_X1_isBroken_59 fu p0 u (fun x3_59 x2_59 => (og (bz x2_59) (some x2_59))) fu (0 : Int32) (1 : Int32)) else (some (0 : Int32)))) else (some (0 : Int32)))))
def pl_X1_others_4 (fu : Nat) (p0 : Int32) (u : MS) (K_4 : Int32 → Int32 → Option (Int32)) : Nat → Int32 → Int32 → Option (Int32)
  | 0, _, _ => none
  | n_4 + 1, x3_4, x2_4 => (og (inb p0 132) (if ((m_many u) p0.toNatClampNeg) ≤ x3_4 then (K_4 x3_4 x2_4) else (og (inb (((3 : Int32) * p0) + x3_4) 396) (pl_X1_others_4 fu p0 u K_4 n_4 (x3_4 + (1 : Int32)) (x2_4 ||| ((1 : Int32) <<< (((m_other u) (((3 : Int32) * p0) + x3_4).toNatClampNeg) &&& 31)))))))
def pf_X1_others (fu : Nat) (p0 : Int32) (u : MS) : Option (Int32) := (pl_X1_others_4 fu p0 u (fun x3_4 x2_4 => (some x2_4)) fu (0 : Int32) (0 : Int32))
def pl_X1_broken_2 (fu : Nat) (u : MS) (K_2 : Int32 → Option (Int32)) : Nat → Int32 → Option (Int32)
  | 0, _ => none
  | n_2 + 1, x1_2 => (if (m_rows u) ≤ x1_2 then (K_2 x1_2) else (ob (pf_X1_isBroken fu x1_2 u) (fun q_2 => (if q_2 = 0 then (pl_X1_broken_2 fu u K_2 n_2 (x1_2 + (1 : Int32))) else (K_2 x1_2)))))
def pl_X1_broken_49 (fu : Nat) (u : MS) (K_49 : Int32 → Option (Int32)) : Nat → Int32 → Option (Int32)
  | 0, _ => none
  | n_49 + 1, x2_49 => (if (m_demands u) ≤ x2_49 then (K_49 x2_49) else (ob (pf_X1_isBroken fu ((120 : Int32) + x2_49) u) (fun q_6 => (if q_6 = 0 then (pl_X1_broken_49 fu u K_49 n_49 (x2_49 + (1 : Int32))) else (K_49 x2_49)))))
def pf_X1_broken (fu : Nat) (u : MS) : Option (Int32) := (pl_X1_broken_2 fu u (fun x1_2 => (if (m_rows u) ≤ x1_2 then (pl_X1_broken_49 fu u (fun x2_49 => (if (m_demands u) ≤ x2_49 then (some (0 : Int32)) else (ob (pf_X1_others fu ((120 : Int32) + x2_49) u) (fun q_9 => (some ((256 : Int32) ||| q_9)))))) fu (0 : Int32)) else (og (inb x1_2 132) (ob (pf_X1_others fu x1_2 u) (fun q_11 => (some (((1 : Int32) <<< (((m_pack u) x1_2.toNatClampNeg) &&& 31)) ||| q_11))))))) fu (0 : Int32))
def pl_X1_place_4 (fu : Nat) (p0 : Int32) (u : MS) (K_4 : Int32 → Int32 → Option (MS)) : Nat → Int32 → Int32 → Option (MS)
  | 0, _, _ => none
  | n_4 + 1, x3_4, x2_4 => (if (m_needed u) ≤ x3_4 then (K_4 x3_4 x2_4) else (if x2_4 = 0 then (og (inb x3_4 8) (if ((m_order u) x3_4.toNatClampNeg) = p0 then (pl_X1_place_4 fu p0 u K_4 n_4 (x3_4 + (1 : Int32)) (1 : Int32)) else (pl_X1_place_4 fu p0 u K_4 n_4 (x3_4 + (1 : Int32)) (0 : Int32)))) else (pl_X1_place_4 fu p0 u K_4 n_4 (x3_4 + (1 : Int32)) (1 : Int32))))
def pf_X1_place (fu : Nat) (p0 : Int32) (u : MS) : Option (MS) := (pl_X1_place_4 fu p0 u (fun x3_4 x2_4 => (if x2_4 = 0 then (og (inb (m_needed u) 8) (some (ms_needed (ms_order u (upd (m_order u) (m_needed u).toNatClampNeg p0)) ((m_needed u) + (1 : Int32))))) else (some u))) fu (0 : Int32) (0 : Int32))
def pl_X1_arrange_21 (fu : Nat) (x1_8 : Int32) (K_21 : Int32 → MS → Option (MS)) : Nat → Int32 → MS → Option (MS)
  | 0, _, _ => none
  | n_21 + 1, x2_21, u_21 => (og (inb x1_8 132) (if ((m_many u_21) x1_8.toNatClampNeg) ≤ x2_21 then (K_21 x2_21 u_21) else (og (inb x1_8 132) (if ((m_kind u_21) x1_8.toNatClampNeg) = 0 then (og (inb (((3 : Int32) * x1_8) + x2_21) 396) (ob (pf_X1_place fu ((m_other u_21) (((3 : Int32) * x1_8) + x2_21).toNatClampNeg) u_21) (fun q_7 => (pl_X1_arrange_21 fu x1_8 K_21 n_21 (x2_21 + (1 : Int32)) q_7)))) else (K_21 x2_21 u_21)))))
def pl_X1_arrange_8 (fu : Nat)  (K_8 : Int32 → MS → Option (MS)) : Nat → Int32 → MS → Option (MS)
  | 0, _, _ => none
  | n_8 + 1, x1_8, u_8 => (if ((120 : Int32) + (m_demands u_8)) ≤ x1_8 then (K_8 x1_8 u_8) else (pl_X1_arrange_21 fu x1_8 (fun x2_21 u_21 => (pl_X1_arrange_8 fu K_8 n_8 (x1_8 + (1 : Int32)) u_21)) fu (0 : Int32) u_8))
def pl_X1_arrange_73 (fu : Nat)  (K_73 : Int32 → MS → Option (MS)) : Nat → Int32 → MS → Option (MS)
  | 0, _, _ => none
  | n_73 + 1, x2_73, u_73 => (if (m_packages u_73) ≤ x2_73 then (K_73 x2_73 u_73) else (ob (pf_X1_place fu x2_73 u_73) (fun q_9 => (pl_X1_arrange_73 fu K_73 n_73 (x2_73 + (1 : Int32)) q_9))))
def pf_X1_arrange (fu : Nat) (u : MS) : Option (MS) := (pl_X1_arrange_8 fu (fun x1_8 u_8 => (pl_X1_arrange_73 fu (fun x2_73 u_73 => (some (ms_needed u_73 (m_needed u_8)))) fu (0 : Int32) u_8)) fu (120 : Int32) (ms_needed u (0 : Int32)))
def pf_X1_rank (fu : Nat) (p0 : Int32) (p1 : Int32) (u : MS) : Option (Int32) := (og (inb p0 8) (og (inb ((m_order u) p0.toNatClampNeg) 8) (if p1 = ((m_locks u) ((m_order u) p0.toNatClampNeg).toNatClampNeg) then (if p1 = (-1 : Int32) then (jn (fun (t_48 : Int32) => (og (inb ((m_order u) p0.toNatClampNeg) 8) (if ((m_locks u) ((m_order u) p0.toNatClampNeg).toNatClampNeg) = (-1 : Int32) then (jn (fun (t_88 : Int32) => (if (m_needed u) ≤ p0 then (if p1 = (-1 : Int32) then (some t_88) else (some ((t_88 + (1 : Int32)) + t_48))) else (some (t_88 + t_48)))) (fun j_88 => (og (inb ((m_order u) p0.toNatClampNeg) 8) (if ((m_locks u) ((m_order u) p0.toNatClampNeg).toNatClampNeg) = (-1 : Int32) then (j_88 (0 : Int32)) else (j_88 (1 : Int32)))))) else (og (inb ((m_order u) p0.toNatClampNeg) 8) (if ((m_locks u) ((m_order u) p0.toNatClampNeg).toNatClampNeg) ≤ p1 then (jn (fun (t_88 : Int32) => (if (m_needed u) ≤ p0 then (if p1 = (-1 : Int32) then (some t_88) else (some ((t_88 + (1 : Int32)) + t_48))) else (some (t_88 + t_48)))) (fun j_88 => (og (inb ((m_order u) p0.toNatClampNeg) 8) (if ((m_locks u) ((m_order u) p0.toNatClampNeg).toNatClampNeg) = (-1 : Int32) then (j_88 (0 : Int32)) else (j_88 (1 : Int32)))))) else (jn (fun (t_88 : Int32) => (if (m_needed u) ≤ p0 then (if p1 = (-1 : Int32) then (some t_88) else (some ((t_88 + (1 : Int32)) + (t_48 + (-1 : Int32))))) else (some (t_88 + (t_48 + (-1 : Int32)))))) (fun j_88 => (og (inb ((m_order u) p0.toNatClampNeg) 8) (if ((m_locks u) ((m_order u) p0.toNatClampNeg).toNatClampNeg) = (-1 : Int32) then (j_88 (0 : Int32)) else (j_88 (1 : Int32))))))))))) (fun j_48 => (if p1 = (-1 : Int32) then (og (inb ((m_order u) p0.toNatClampNeg) 8) (j_48 ((m_versions u) ((m_order u) p0.toNatClampNeg).toNatClampNeg))) else (og (inb ((m_order u) p0.toNatClampNeg) 8) (j_48 ((((m_versions u) ((m_order u) p0.toNatClampNeg).toNatClampNeg) - (1 : Int32)) - p1)))))) else (some (0 : Int32))) else (jn (fun (t_48 : Int32) => (og (inb ((m_order u) p0.toNatClampNeg) 8) (if ((m_locks u) ((m_order u) p0.toNatClampNeg).toNatClampNeg) = (-1 : Int32) then (jn (fun (t_88 : Int32) => (if (m_needed u) ≤ p0 then (if p1 = (-1 : Int32) then (some t_88) else (some ((t_88 + (1 : Int32)) + t_48))) else (some (t_88 + t_48)))) (fun j_88 => (og (inb ((m_order u) p0.toNatClampNeg) 8) (if ((m_locks u) ((m_order u) p0.toNatClampNeg).toNatClampNeg) = (-1 : Int32) then (j_88 (0 : Int32)) else (j_88 (1 : Int32)))))) else (og (inb ((m_order u) p0.toNatClampNeg) 8) (if ((m_locks u) ((m_order u) p0.toNatClampNeg).toNatClampNeg) ≤ p1 then (jn (fun (t_88 : Int32) => (if (m_needed u) ≤ p0 then (if p1 = (-1 : Int32) then (some t_88) else (some ((t_88 + (1 : Int32)) + t_48))) else (some (t_88 + t_48)))) (fun j_88 => (og (inb ((m_order u) p0.toNatClampNeg) 8) (if ((m_locks u) ((m_order u) p0.toNatClampNeg).toNatClampNeg) = (-1 : Int32) then (j_88 (0 : Int32)) else (j_88 (1 : Int32)))))) else (jn (fun (t_88 : Int32) => (if (m_needed u) ≤ p0 then (if p1 = (-1 : Int32) then (some t_88) else (some ((t_88 + (1 : Int32)) + (t_48 + (-1 : Int32))))) else (some (t_88 + (t_48 + (-1 : Int32)))))) (fun j_88 => (og (inb ((m_order u) p0.toNatClampNeg) 8) (if ((m_locks u) ((m_order u) p0.toNatClampNeg).toNatClampNeg) = (-1 : Int32) then (j_88 (0 : Int32)) else (j_88 (1 : Int32))))))))))) (fun j_48 => (if p1 = (-1 : Int32) then (og (inb ((m_order u) p0.toNatClampNeg) 8) (j_48 ((m_versions u) ((m_order u) p0.toNatClampNeg).toNatClampNeg))) else (og (inb ((m_order u) p0.toNatClampNeg) 8) (j_48 ((((m_versions u) ((m_order u) p0.toNatClampNeg).toNatClampNeg) - (1 : Int32)) - p1)))))))))
def pl_X1_ranked_2 (fu : Nat) (p0 : Int32) (p1 : Int32) (u : MS) (K_2 : Int32 → Option (Int32)) : Nat → Int32 → Option (Int32)
  | 0, _ => none
  | n_2 + 1, x3_2 => (ob (pf_X1_rank fu p0 x3_2 u) (fun q_1 => (if q_1 = p1 then (K_2 x3_2) else (pl_X1_ranked_2 fu p0 p1 u K_2 n_2 (x3_2 + (1 : Int32))))))
def pf_X1_ranked (fu : Nat) (p0 : Int32) (p1 : Int32) (u : MS) : Option (Int32) := (pl_X1_ranked_2 fu p0 p1 u (fun x3_2 => (some x3_2)) fu (-1 : Int32))
def pl_X1_goes_17 (fu : Nat) (p0 : Int32) (p1 : Int32) (p2 : Int32) (u : MS) (K_17 : MS → Option (Int32 × MS)) : Nat → MS → Option (Int32 × MS)
  | 0, _ => none
  | n_17 + 1, u_17 => (og (inb p0 8) (og (inb ((m_order u) p0.toNatClampNeg) 8) (if ((m_versions u_17) ((m_order u) p0.toNatClampNeg).toNatClampNeg) < ((m_option u_17) p0.toNatClampNeg) then (K_17 u_17) else (og (inb p0 8) (ob (pf_X1_ranked fu p0 ((m_option u_17) p0.toNatClampNeg) u_17) (fun q_7 => (og (inb ((m_order u) p0.toNatClampNeg) 8) (og (inb p0 8) (og (inb p0 8) (if ((m_order u) p0.toNatClampNeg) = p1 then (og (inb ((m_order u) p0.toNatClampNeg) 8) (if ((upd (m_value u_17) ((m_order u) p0.toNatClampNeg).toNatClampNeg q_7) ((m_order u) p0.toNatClampNeg).toNatClampNeg) = p2 then (ob (pf_X1_broken fu (ms_option (ms_value u_17 (upd (m_value u_17) ((m_order u) p0.toNatClampNeg).toNatClampNeg q_7)) (upd (m_option u_17) p0.toNatClampNeg (((m_option u_17) p0.toNatClampNeg) + (1 : Int32))))) (fun q_18 => (if q_18 = 0 then (some ((1 : Int32), (ms_option (ms_value u_17 (upd (m_value u_17) ((m_order u) p0.toNatClampNeg).toNatClampNeg q_7)) (upd (m_option u_17) p0.toNatClampNeg (((m_option u_17) p0.toNatClampNeg) + (1 : Int32)))))) else (og (inb p0 8) (og (inb p0 8) (pl_X1_goes_17 fu p0 p1 p2 u K_17 n_17 (ms_blames0 (ms_option (ms_value u_17 (upd (m_value u_17) ((m_order u) p0.toNatClampNeg).toNatClampNeg q_7)) (upd (m_option u_17) p0.toNatClampNeg (((m_option u_17) p0.toNatClampNeg) + (1 : Int32)))) (upd (m_blames0 u_17) p0.toNatClampNeg (((m_blames0 u_17) p0.toNatClampNeg) ||| q_18))))))))) else (pl_X1_goes_17 fu p0 p1 p2 u K_17 n_17 (ms_option (ms_value u_17 (upd (m_value u_17) ((m_order u) p0.toNatClampNeg).toNatClampNeg q_7)) (upd (m_option u_17) p0.toNatClampNeg (((m_option u_17) p0.toNatClampNeg) + (1 : Int32))))))) else (ob (pf_X1_broken fu (ms_option (ms_value u_17 (upd (m_value u_17) ((m_order u) p0.toNatClampNeg).toNatClampNeg q_7)) (upd (m_option u_17) p0.toNatClampNeg (((m_option u_17) p0.toNatClampNeg) + (1 : Int32))))) (fun q_12 => (if q_12 = 0 then (some ((1 : Int32), (ms_option (ms_value u_17 (upd (m_value u_17) ((m_order u) p0.toNatClampNeg).toNatClampNeg q_7)) (upd (m_option u_17) p0.toNatClampNeg (((m_option u_17) p0.toNatClampNeg) + (1 : Int32)))))) else (og (inb p0 8) (og (inb p0 8) (pl_X1_goes_17 fu p0 p1 p2 u K_17 n_17 (ms_blames0 (ms_option (ms_value u_17 (upd (m_value u_17) ((m_order u) p0.toNatClampNeg).toNatClampNeg q_7)) (upd (m_option u_17) p0.toNatClampNeg (((m_option u_17) p0.toNatClampNeg) + (1 : Int32)))) (upd (m_blames0 u_17) p0.toNatClampNeg (((m_blames0 u_17) p0.toNatClampNeg) ||| q_12)))))))))))))))))))
def pf_X1_goes (fu : Nat) (p0 : Int32) (p1 : Int32) (p2 : Int32) (u : MS) : Option (Int32 × MS) := (og (inb p0 8) (og (inb ((m_order u) p0.toNatClampNeg) 8) (pl_X1_goes_17 fu p0 p1 p2 u (fun u_17 => (some ((0 : Int32), u_17))) fu (ms_value u (upd (m_value u) ((m_order u) p0.toNatClampNeg).toNatClampNeg (-2 : Int32))))))
def pl_X1_search_6 (fu : Nat)  (K_6 : Int32 → MS → Option (Int32 × MS)) : Nat → Int32 → MS → Option (Int32 × MS)
  | 0, _, _ => none
  | n_6 + 1, x3_6, u_6 => (if (8 : Int32) ≤ x3_6 then (K_6 x3_6 u_6) else (og (inb x3_6 8) (pl_X1_search_6 fu K_6 n_6 (x3_6 + (1 : Int32)) (ms_value u_6 (upd (m_value u_6) x3_6.toNatClampNeg (-2 : Int32))))))
def pl_X1_search_127 (fu : Nat) (x3_42 : Int32) (q_8 : Int32 × MS) (K_127 : Int32 → MS → Option (Int32 × MS)) : Nat → Int32 → MS → Option (Int32 × MS)
  | 0, _, _ => none
  | n_127 + 1, x3_127, u_127 => (if x3_127 < 0 then (K_127 x3_127 u_127) else (og (inb x3_127 8) (if (((((m_blames0 q_8.2) x3_42.toNatClampNeg) &&& (((1 : Int32) <<< (((m_order q_8.2) x3_42.toNatClampNeg) &&& 31)) ^^^ (-1 : Int32))) >>> (((m_order u_127) x3_127.toNatClampNeg) &&& 31)) &&& (1 : Int32)) = 0 then (og (inb x3_127 8) (og (inb ((m_order u_127) x3_127.toNatClampNeg) 8) (pl_X1_search_127 fu x3_42 q_8 K_127 n_127 (x3_127 + (-1 : Int32)) (ms_value u_127 (upd (m_value u_127) ((m_order u_127) x3_127.toNatClampNeg).toNatClampNeg (-2 : Int32)))))) else (K_127 x3_127 u_127))))
def pl_X1_search_42 (fu : Nat) (p0 : Int32) (p1 : Int32) (K_42 : Int32 → MS → Option (Int32 × MS)) : Nat → Int32 → MS → Option (Int32 × MS)
  | 0, _, _ => none
  | n_42 + 1, x3_42, u_42 => (if x3_42 < 0 then (K_42 x3_42 u_42) else (if (m_packages u_42) ≤ x3_42 then (K_42 x3_42 u_42) else (ob (pf_X1_goes fu x3_42 p0 p1 u_42) (fun q_8 => (if q_8.1 = 0 then (og (inb x3_42 8) (og (inb x3_42 8) (og (inb x3_42 8) (og (inb ((m_order q_8.2) x3_42.toNatClampNeg) 8) (pl_X1_search_127 fu x3_42 q_8 (fun x3_127 u_127 => (if x3_127 < 0 then (pl_X1_search_42 fu p0 p1 K_42 n_42 x3_127 u_127) else (og (inb x3_127 8) (og (inb x3_127 8) (pl_X1_search_42 fu p0 p1 K_42 n_42 x3_127 (ms_blames0 u_127 (upd (m_blames0 u_127) x3_127.toNatClampNeg (((m_blames0 u_127) x3_127.toNatClampNeg) ||| (((m_blames0 q_8.2) x3_42.toNatClampNeg) &&& (((1 : Int32) <<< (((m_order q_8.2) x3_42.toNatClampNeg) &&& 31)) ^^^ (-1 : Int32))))))))))) fu (x3_42 + (-1 : Int32)) (ms_value q_8.2 (upd (m_value q_8.2) ((m_order q_8.2) x3_42.toNatClampNeg).toNatClampNeg (-2 : Int32)))))))) else (if (m_packages q_8.2) ≤ (x3_42 + (1 : Int32)) then (pl_X1_search_42 fu p0 p1 K_42 n_42 (x3_42 + (1 : Int32)) q_8.2) else (og (inb (x3_42 + (1 : Int32)) 8) (og (inb (x3_42 + (1 : Int32)) 8) (pl_X1_search_42 fu p0 p1 K_42 n_42 (x3_42 + (1 : Int32)) (ms_blames0 (ms_option q_8.2 (upd (m_option q_8.2) (x3_42 + (1 : Int32)).toNatClampNeg (0 : Int32))) (upd (m_blames0 q_8.2) (x3_42 + (1 : Int32)).toNatClampNeg (0 : Int32))))))))))))
def pf_X1_search (fu : Nat) (p0 : Int32) (p1 : Int32) (u : MS) : Option (Int32 × MS) := (ob (pf_X1_arrange fu u) (fun q_1 => (pl_X1_search_6 fu (fun x3_6 u_6 => (og (inb (0 : Int32) 8) (og (inb (0 : Int32) 8) (pl_X1_search_42 fu p0 p1 (fun x3_42 u_42 => (if x3_42 < 0 then (some ((0 : Int32), u_42)) else (if 0 < (m_packages u_42) then (some ((1 : Int32), u_42)) else (ob (pf_X1_broken fu u_42) (fun q_27 => (if q_27 = 0 then (some ((1 : Int32), u_42)) else (some ((0 : Int32), u_42)))))))) fu (0 : Int32) (ms_blames0 (ms_option u_6 (upd (m_option u_6) (0 : Int32).toNatClampNeg (0 : Int32))) (upd (m_blames0 u_6) (0 : Int32).toNatClampNeg (0 : Int32))))))) fu (0 : Int32) q_1)))
def pl_X1_none_2 (fu : Nat)  (K_2 : Int32 → MS → Option (MS)) : Nat → Int32 → MS → Option (MS)
  | 0, _, _ => none
  | n_2 + 1, x1_2, u_2 => (if (12 : Int32) ≤ x1_2 then (K_2 x1_2 u_2) else (og (inb x1_2 12) (pl_X1_none_2 fu K_2 n_2 (x1_2 + (1 : Int32)) (ms_away u_2 (upd (m_away u_2) x1_2.toNatClampNeg (vp_nar .boolean (0 : Int32)))))))
def pf_X1_none (fu : Nat) (u : MS) : Option (MS) := (pl_X1_none_2 fu (fun x1_2 u_2 => (some u_2)) fu (0 : Int32) u)
def pl_X1_solve_18 (fu : Nat) (q_2 : Int32 × MS) (K_18 : Int32 → MS → Option (Int32 × MS)) : Nat → Int32 → MS → Option (Int32 × MS)
  | 0, _, _ => none
  | n_18 + 1, x2_18, u_18 => (if (8 : Int32) ≤ x2_18 then (K_18 x2_18 u_18) else (if q_2.1 = 0 then (og (inb x2_18 8) (pl_X1_solve_18 fu q_2 K_18 n_18 (x2_18 + (1 : Int32)) (ms_chosen u_18 (upd (m_chosen u_18) x2_18.toNatClampNeg (-1 : Int32))))) else (if (m_packages u_18) ≤ x2_18 then (og (inb x2_18 8) (pl_X1_solve_18 fu q_2 K_18 n_18 (x2_18 + (1 : Int32)) (ms_chosen u_18 (upd (m_chosen u_18) x2_18.toNatClampNeg (-1 : Int32))))) else (og (inb x2_18 8) (og (inb x2_18 8) (pl_X1_solve_18 fu q_2 K_18 n_18 (x2_18 + (1 : Int32)) (ms_chosen u_18 (upd (m_chosen u_18) x2_18.toNatClampNeg ((m_value u_18) x2_18.toNatClampNeg)))))))))
def pf_X1_solve (fu : Nat) (u : MS) : Option (Int32 × MS) := (ob (pf_X1_none fu (ms_code u (0 : Int32))) (fun q_1 => (ob (pf_X1_search fu (-1 : Int32) (-1 : Int32) q_1) (fun q_2 => (pl_X1_solve_18 fu q_2 (fun x2_18 u_18 => (if q_2.1 = 0 then (some ((0 : Int32), u_18)) else (some ((1 : Int32), u_18)))) fu (0 : Int32) q_2.2)))))
def pf_X1_chosen (fu : Nat) (p0 : Int32) (u : MS) : Option (Int32 × MS) := (if (pf_X1_isPackage p0 (ms_code u (0 : Int32))) = 0 then (some ((-1 : Int32), (ms_code u (0 : Int32)))) else (og (inb p0 8) (some (((m_chosen u) p0.toNatClampNeg), (ms_code u (0 : Int32))))))
def pl_X1_blame_27 (fu : Nat)  (K_27 : Int32 → MS → Option (Int32 × MS)) : Nat → Int32 → MS → Option (Int32 × MS)
  | 0, _, _ => none
  | n_27 + 1, x1_27, u_27 => (if (m_demands u_27) ≤ x1_27 then (K_27 x1_27 u_27) else (og (inb x1_27 12) (if ((m_out u_27) x1_27.toNatClampNeg) = 0 then (og (inb x1_27 12) (ob (pf_X1_search fu (-1 : Int32) (-1 : Int32) (ms_away u_27 (upd (m_away u_27) x1_27.toNatClampNeg (vp_nar .boolean (1 : Int32))))) (fun q_8 => (if q_8.1 = 0 then (pl_X1_blame_27 fu K_27 n_27 (x1_27 + (1 : Int32)) q_8.2) else (og (inb x1_27 12) (og (inb (m_blames q_8.2) 12) (pl_X1_blame_27 fu K_27 n_27 (x1_27 + (1 : Int32)) (ms_blames (ms_blamed (ms_away q_8.2 (upd (m_away q_8.2) x1_27.toNatClampNeg (vp_nar .boolean (0 : Int32)))) (upd (m_blamed q_8.2) (m_blames q_8.2).toNatClampNeg x1_27)) ((m_blames q_8.2) + (1 : Int32)))))))))) else (pl_X1_blame_27 fu K_27 n_27 (x1_27 + (1 : Int32)) u_27))))
def pf_X1_blame (fu : Nat) (u : MS) : Option (Int32 × MS) := (ob (pf_X1_none fu (ms_blames (ms_code u (0 : Int32)) (0 : Int32))) (fun q_1 => (ob (pf_X1_search fu (-1 : Int32) (-1 : Int32) q_1) (fun q_2 => (if q_2.1 = 0 then (pl_X1_blame_27 fu (fun x1_27 u_27 => (some ((m_blames u_27), u_27))) fu (0 : Int32) q_2.2) else (some ((0 : Int32), q_2.2)))))))
def pf_X1_blamed (fu : Nat) (p0 : Int32) (u : MS) : Option (Int32 × MS) := (if p0 < 0 then (some ((-1 : Int32), (ms_code u (0 : Int32)))) else (if p0 < (m_blames u) then (og (inb p0 12) (some (((m_blamed u) p0.toNatClampNeg), (ms_code u (0 : Int32))))) else (some ((-1 : Int32), (ms_code u (0 : Int32))))))
def pf_X1_can (fu : Nat) (p0 : Int32) (p1 : Int32) (u : MS) : Option (Int32 × MS) := (if (pf_X1_isPackage p0 (ms_code u (0 : Int32))) = 0 then (some ((0 : Int32), (ms_code u (0 : Int32)))) else (if p1 = (-1 : Int32) then (ob (pf_X1_none fu (ms_code u (0 : Int32))) (fun q_4 => (ob (pf_X1_search fu p0 p1 q_4) (fun q_5 => (og (bz q_5.1) (some (q_5.1, q_5.2))))))) else (ob (pf_X1_isVersion fu p0 p1 (ms_code u (0 : Int32))) (fun q_7 => (if q_7 = 0 then (some ((0 : Int32), (ms_code u (0 : Int32)))) else (ob (pf_X1_none fu (ms_code u (0 : Int32))) (fun q_9 => (ob (pf_X1_search fu p0 p1 q_9) (fun q_10 => (og (bz q_10.1) (some (q_10.1, q_10.2))))))))))))
def pf_X1_must (fu : Nat) (p0 : Int32) (u : MS) : Option (Int32 × MS) := (if (pf_X1_isPackage p0 (ms_code u (0 : Int32))) = 0 then (some ((0 : Int32), (ms_code u (0 : Int32)))) else (ob (pf_X1_none fu (ms_code u (0 : Int32))) (fun q_3 => (ob (pf_X1_search fu p0 (-1 : Int32) q_3) (fun q_4 => (if q_4.1 = 0 then (some ((1 : Int32), q_4.2)) else (some ((0 : Int32), q_4.2))))))))
end
section
section ROWSX
variable {p : Program} {l : Launch} {e : Env} {R : Room} {s : State} {m : MethodId} {args : Array Value} {below : List Frame} {meth : Method} {c : Code} {H : Heap} {locs : List Loc} {cells slots : Nat} {Q : State → Prop} {cc : ByteArray} {pc : Nat} {ls : Array Slot} {rest : List Value} {dC : Nat → ClassId} {dI : Nat → Nat → Nat} {A : Nat → Prop} {H0 : Heap} {Ts : List Cond} {own : String} {hs : Nat → Nat} {ka : Nat → ClassId} {u : XS}
theorem gt_X_rowRules (hx : p.tables.exec = Jvm.exec) (hb : c.code = cc) (hts : ∀ w ∈ Ts, w.before args s = true) (hin : ∀ w ∈ u_ws RX0 TX0 14, w ∈ Ts) (hown : s.vm.findClass own = some m.cls) (hK : va_K (dC, dI) vwCl (tX ka) s) (hP : va_P (dC, dI) vwCl (cX hs ka u) H) {index : Nat} (hlink : (Cond.fieldLink own index "ConflictSolve" "rowRules" "[J").before args s = true) (hdg : decode cc pc = .ok (.getfield index, 3)) (kk : W p l e R s m args below meth c H locs cells slots Q (F0 m (pc + 3) ls (.ref (hs 1) :: rest))) : W p l e R s m args below meth c H locs cells slots Q (F0 m pc ls (.ref (hs 0) :: rest)) := va_get (D := (dC, dI)) (ci := 0) (v := .ref (hs 1)) (C := RX0) (T := TX0) (N := 14) hx hb hts hin hown hK hP 0 rfl rfl 0 (by decide) hlink (fun _ h9 => h9) rfl hdg kk
theorem ld_X_rowRules (hx : p.tables.exec = Jvm.exec) (hb : c.code = cc) (hK : va_K (dC, dI) vwCl (tX ka) s) (hP : va_P (dC, dI) vwCl (cX hs ka u) H) {F : Nat → Int64} (hF : x_rowRules u = F) {i : Int32} (hi : vp_in i 120) (hdg : decode cc pc = .ok (.laload, 1)) (kk : W p l e R s m args below meth c H locs cells slots Q (F0 m (pc + 1) ls (.long (F i.toNatClampNeg) :: rest))) : W p l e R s m args below meth c H locs cells slots Q (F0 m pc ls (.int i :: .ref (hs 1) :: rest)) := by
  subst hF
  exact va_lald (f := x_rowRules u) hx hb hK hP 1 0 rfl rfl hi hdg kk
theorem sr_X_rowRules (hx : p.tables.exec = Jvm.exec) (hb : c.code = cc) (hK : va_K (dC, dI) vwCl (tX ka) s) (hP : va_P (dC, dI) vwCl (cX hs ka u) H) (hD : va_D A (cX hs ka u)) (hS : va_S A H0 H locs) {F : Nat → Int64} (hF : x_rowRules u = F) {i : Int32} {x : Int64} (hi : vp_in i 120) (hdg : decode cc pc = .ok (.lastore, 1)) (kk : ∀ (H1 : Heap) (locs1 : List Loc), va_P (dC, dI) vwCl (cX hs ka (xs_rowRules u (vp_updL F i.toNatClampNeg x))) H1 → va_D A (cX hs ka (xs_rowRules u (vp_updL F i.toNatClampNeg x))) → va_S A H0 H1 locs1 → W p l e R s m args below meth c H1 locs1 cells slots Q (F0 m (pc + 1) ls rest)) : W p l e R s m args below meth c H locs cells slots Q (F0 m pc ls (.long x :: .int i :: .ref (hs 1) :: rest)) := by
  subst hF
  exact va_last (f := x_rowRules u) hx hb hK hP hD hS 1 0 rfl rfl hi hdg (fun H1 locs1 hP hD hS => kk H1 locs1 hP hD hS)
theorem gt_X_demandRules (hx : p.tables.exec = Jvm.exec) (hb : c.code = cc) (hts : ∀ w ∈ Ts, w.before args s = true) (hin : ∀ w ∈ u_ws RX0 TX0 14, w ∈ Ts) (hown : s.vm.findClass own = some m.cls) (hK : va_K (dC, dI) vwCl (tX ka) s) (hP : va_P (dC, dI) vwCl (cX hs ka u) H) {index : Nat} (hlink : (Cond.fieldLink own index "ConflictSolve" "demandRules" "[J").before args s = true) (hdg : decode cc pc = .ok (.getfield index, 3)) (kk : W p l e R s m args below meth c H locs cells slots Q (F0 m (pc + 3) ls (.ref (hs 2) :: rest))) : W p l e R s m args below meth c H locs cells slots Q (F0 m pc ls (.ref (hs 0) :: rest)) := va_get (D := (dC, dI)) (ci := 0) (v := .ref (hs 2)) (C := RX0) (T := TX0) (N := 14) hx hb hts hin hown hK hP 0 rfl rfl 1 (by decide) hlink (fun _ h9 => h9) rfl hdg kk
theorem ld_X_demandRules (hx : p.tables.exec = Jvm.exec) (hb : c.code = cc) (hK : va_K (dC, dI) vwCl (tX ka) s) (hP : va_P (dC, dI) vwCl (cX hs ka u) H) {F : Nat → Int64} (hF : x_demandRules u = F) {i : Int32} (hi : vp_in i 12) (hdg : decode cc pc = .ok (.laload, 1)) (kk : W p l e R s m args below meth c H locs cells slots Q (F0 m (pc + 1) ls (.long (F i.toNatClampNeg) :: rest))) : W p l e R s m args below meth c H locs cells slots Q (F0 m pc ls (.int i :: .ref (hs 2) :: rest)) := by
  subst hF
  exact va_lald (f := x_demandRules u) hx hb hK hP 2 1 rfl rfl hi hdg kk
theorem sr_X_demandRules (hx : p.tables.exec = Jvm.exec) (hb : c.code = cc) (hK : va_K (dC, dI) vwCl (tX ka) s) (hP : va_P (dC, dI) vwCl (cX hs ka u) H) (hD : va_D A (cX hs ka u)) (hS : va_S A H0 H locs) {F : Nat → Int64} (hF : x_demandRules u = F) {i : Int32} {x : Int64} (hi : vp_in i 12) (hdg : decode cc pc = .ok (.lastore, 1)) (kk : ∀ (H1 : Heap) (locs1 : List Loc), va_P (dC, dI) vwCl (cX hs ka (xs_demandRules u (vp_updL F i.toNatClampNeg x))) H1 → va_D A (cX hs ka (xs_demandRules u (vp_updL F i.toNatClampNeg x))) → va_S A H0 H1 locs1 → W p l e R s m args below meth c H1 locs1 cells slots Q (F0 m (pc + 1) ls rest)) : W p l e R s m args below meth c H locs cells slots Q (F0 m pc ls (.long x :: .int i :: .ref (hs 2) :: rest)) := by
  subst hF
  exact va_last (f := x_demandRules u) hx hb hK hP hD hS 2 1 rfl rfl hi hdg (fun H1 locs1 hP hD hS => kk H1 locs1 hP hD hS)
theorem gt_X_order (hx : p.tables.exec = Jvm.exec) (hb : c.code = cc) (hts : ∀ w ∈ Ts, w.before args s = true) (hin : ∀ w ∈ u_ws RX0 TX0 14, w ∈ Ts) (hown : s.vm.findClass own = some m.cls) (hK : va_K (dC, dI) vwCl (tX ka) s) (hP : va_P (dC, dI) vwCl (cX hs ka u) H) {index : Nat} (hlink : (Cond.fieldLink own index "ConflictSolve" "order" "[I").before args s = true) (hdg : decode cc pc = .ok (.getfield index, 3)) (kk : W p l e R s m args below meth c H locs cells slots Q (F0 m (pc + 3) ls (.ref (hs 3) :: rest))) : W p l e R s m args below meth c H locs cells slots Q (F0 m pc ls (.ref (hs 0) :: rest)) := va_get (D := (dC, dI)) (ci := 0) (v := .ref (hs 3)) (C := RX0) (T := TX0) (N := 14) hx hb hts hin hown hK hP 0 rfl rfl 2 (by decide) hlink (fun _ h9 => h9) rfl hdg kk
theorem ld_X_order (hx : p.tables.exec = Jvm.exec) (hb : c.code = cc) (hK : va_K (dC, dI) vwCl (tX ka) s) (hP : va_P (dC, dI) vwCl (cX hs ka u) H) {F : Nat → Int32} (hF : x_order u = F) {i : Int32} (hi : vp_in i 8) (hdg : decode cc pc = .ok (.iaload, 1)) (kk : W p l e R s m args below meth c H locs cells slots Q (F0 m (pc + 1) ls (.int (F i.toNatClampNeg) :: rest))) : W p l e R s m args below meth c H locs cells slots Q (F0 m pc ls (.int i :: .ref (hs 3) :: rest)) := by
  subst hF
  exact va_iald (f := x_order u) hx hb hK hP 3 2 rfl rfl hi hdg kk
theorem sr_X_order (hx : p.tables.exec = Jvm.exec) (hb : c.code = cc) (hK : va_K (dC, dI) vwCl (tX ka) s) (hP : va_P (dC, dI) vwCl (cX hs ka u) H) (hD : va_D A (cX hs ka u)) (hS : va_S A H0 H locs) {F : Nat → Int32} (hF : x_order u = F) {i : Int32} {x : Int32} (hi : vp_in i 8) (hdg : decode cc pc = .ok (.iastore, 1)) (kk : ∀ (H1 : Heap) (locs1 : List Loc), va_P (dC, dI) vwCl (cX hs ka (xs_order u (upd F i.toNatClampNeg x))) H1 → va_D A (cX hs ka (xs_order u (upd F i.toNatClampNeg x))) → va_S A H0 H1 locs1 → W p l e R s m args below meth c H1 locs1 cells slots Q (F0 m (pc + 1) ls rest)) : W p l e R s m args below meth c H locs cells slots Q (F0 m pc ls (.int x :: .int i :: .ref (hs 3) :: rest)) := by
  subst hF
  exact va_iast (f := x_order u) hx hb hK hP hD hS 3 2 rfl rfl hi hdg (fun H1 locs1 hP hD hS => kk H1 locs1 hP hD hS)
theorem gt_X_packs (hx : p.tables.exec = Jvm.exec) (hb : c.code = cc) (hts : ∀ w ∈ Ts, w.before args s = true) (hin : ∀ w ∈ u_ws RX0 TX0 14, w ∈ Ts) (hown : s.vm.findClass own = some m.cls) (hK : va_K (dC, dI) vwCl (tX ka) s) (hP : va_P (dC, dI) vwCl (cX hs ka u) H) {index : Nat} (hlink : (Cond.fieldLink own index "ConflictSolve" "packs" "I").before args s = true) {V : Int32} (hV : x_packs u = V) (hdg : decode cc pc = .ok (.getfield index, 3)) (kk : W p l e R s m args below meth c H locs cells slots Q (F0 m (pc + 3) ls (.int V :: rest))) : W p l e R s m args below meth c H locs cells slots Q (F0 m pc ls (.ref (hs 0) :: rest)) := by
  subst hV
  exact va_get (D := (dC, dI)) (ci := 0) (v := .int (x_packs u)) (C := RX0) (T := TX0) (N := 14) hx hb hts hin hown hK hP 0 rfl rfl 3 (by decide) hlink (fun _ h9 => h9) rfl hdg kk
theorem pt_X_packs (hx : p.tables.exec = Jvm.exec) (hb : c.code = cc) (hts : ∀ w ∈ Ts, w.before args s = true) (hin : ∀ w ∈ u_ws RX0 TX0 14, w ∈ Ts) (hown : s.vm.findClass own = some m.cls) (hK : va_K (dC, dI) vwCl (tX ka) s) (hP : va_P (dC, dI) vwCl (cX hs ka u) H) (hD : va_D A (cX hs ka u)) (hS : va_S A H0 H locs) {index : Nat} (hlink : (Cond.fieldLink own index "ConflictSolve" "packs" "I").before args s = true) {x : Int32} (hdg : decode cc pc = .ok (.putfield index, 3)) (kk : ∀ (H1 : Heap) (locs1 : List Loc), va_P (dC, dI) vwCl (cX hs ka (xs_packs u x)) H1 → va_D A (cX hs ka (xs_packs u x)) → va_S A H0 H1 locs1 → W p l e R s m args below meth c H1 locs1 cells slots Q (F0 m (pc + 3) ls rest)) : W p l e R s m args below meth c H locs cells slots Q (F0 m pc ls (.int x :: .ref (hs 0) :: rest)) := va_put (D := (dC, dI)) (ci := 0) (v := .int x) (ty := .int) (C := RX0) (T := TX0) (N := 14) hx hb hts hin tyX0 tyX0_ok nmX0 hown hK hP hD hS 0 rfl rfl 3 (by decide) hlink (fun _ h9 => h9) rfl (by decide +kernel) rfl rfl (Nat.le_of_ble_eq_true rfl) hdg (fun H1 locs1 hP hD hS => kk H1 locs1 hP hD hS)
theorem gt_X_rows (hx : p.tables.exec = Jvm.exec) (hb : c.code = cc) (hts : ∀ w ∈ Ts, w.before args s = true) (hin : ∀ w ∈ u_ws RX0 TX0 14, w ∈ Ts) (hown : s.vm.findClass own = some m.cls) (hK : va_K (dC, dI) vwCl (tX ka) s) (hP : va_P (dC, dI) vwCl (cX hs ka u) H) {index : Nat} (hlink : (Cond.fieldLink own index "ConflictSolve" "rows" "I").before args s = true) {V : Int32} (hV : x_rows u = V) (hdg : decode cc pc = .ok (.getfield index, 3)) (kk : W p l e R s m args below meth c H locs cells slots Q (F0 m (pc + 3) ls (.int V :: rest))) : W p l e R s m args below meth c H locs cells slots Q (F0 m pc ls (.ref (hs 0) :: rest)) := by
  subst hV
  exact va_get (D := (dC, dI)) (ci := 0) (v := .int (x_rows u)) (C := RX0) (T := TX0) (N := 14) hx hb hts hin hown hK hP 0 rfl rfl 4 (by decide) hlink (fun _ h9 => h9) rfl hdg kk
theorem pt_X_rows (hx : p.tables.exec = Jvm.exec) (hb : c.code = cc) (hts : ∀ w ∈ Ts, w.before args s = true) (hin : ∀ w ∈ u_ws RX0 TX0 14, w ∈ Ts) (hown : s.vm.findClass own = some m.cls) (hK : va_K (dC, dI) vwCl (tX ka) s) (hP : va_P (dC, dI) vwCl (cX hs ka u) H) (hD : va_D A (cX hs ka u)) (hS : va_S A H0 H locs) {index : Nat} (hlink : (Cond.fieldLink own index "ConflictSolve" "rows" "I").before args s = true) {x : Int32} (hdg : decode cc pc = .ok (.putfield index, 3)) (kk : ∀ (H1 : Heap) (locs1 : List Loc), va_P (dC, dI) vwCl (cX hs ka (xs_rows u x)) H1 → va_D A (cX hs ka (xs_rows u x)) → va_S A H0 H1 locs1 → W p l e R s m args below meth c H1 locs1 cells slots Q (F0 m (pc + 3) ls rest)) : W p l e R s m args below meth c H locs cells slots Q (F0 m pc ls (.int x :: .ref (hs 0) :: rest)) := va_put (D := (dC, dI)) (ci := 0) (v := .int x) (ty := .int) (C := RX0) (T := TX0) (N := 14) hx hb hts hin tyX0 tyX0_ok nmX0 hown hK hP hD hS 0 rfl rfl 4 (by decide) hlink (fun _ h9 => h9) rfl (by decide +kernel) rfl rfl (Nat.le_of_ble_eq_true rfl) hdg (fun H1 locs1 hP hD hS => kk H1 locs1 hP hD hS)
theorem gt_X_demands (hx : p.tables.exec = Jvm.exec) (hb : c.code = cc) (hts : ∀ w ∈ Ts, w.before args s = true) (hin : ∀ w ∈ u_ws RX0 TX0 14, w ∈ Ts) (hown : s.vm.findClass own = some m.cls) (hK : va_K (dC, dI) vwCl (tX ka) s) (hP : va_P (dC, dI) vwCl (cX hs ka u) H) {index : Nat} (hlink : (Cond.fieldLink own index "ConflictSolve" "demands" "I").before args s = true) {V : Int32} (hV : x_demands u = V) (hdg : decode cc pc = .ok (.getfield index, 3)) (kk : W p l e R s m args below meth c H locs cells slots Q (F0 m (pc + 3) ls (.int V :: rest))) : W p l e R s m args below meth c H locs cells slots Q (F0 m pc ls (.ref (hs 0) :: rest)) := by
  subst hV
  exact va_get (D := (dC, dI)) (ci := 0) (v := .int (x_demands u)) (C := RX0) (T := TX0) (N := 14) hx hb hts hin hown hK hP 0 rfl rfl 5 (by decide) hlink (fun _ h9 => h9) rfl hdg kk
theorem pt_X_demands (hx : p.tables.exec = Jvm.exec) (hb : c.code = cc) (hts : ∀ w ∈ Ts, w.before args s = true) (hin : ∀ w ∈ u_ws RX0 TX0 14, w ∈ Ts) (hown : s.vm.findClass own = some m.cls) (hK : va_K (dC, dI) vwCl (tX ka) s) (hP : va_P (dC, dI) vwCl (cX hs ka u) H) (hD : va_D A (cX hs ka u)) (hS : va_S A H0 H locs) {index : Nat} (hlink : (Cond.fieldLink own index "ConflictSolve" "demands" "I").before args s = true) {x : Int32} (hdg : decode cc pc = .ok (.putfield index, 3)) (kk : ∀ (H1 : Heap) (locs1 : List Loc), va_P (dC, dI) vwCl (cX hs ka (xs_demands u x)) H1 → va_D A (cX hs ka (xs_demands u x)) → va_S A H0 H1 locs1 → W p l e R s m args below meth c H1 locs1 cells slots Q (F0 m (pc + 3) ls rest)) : W p l e R s m args below meth c H locs cells slots Q (F0 m pc ls (.int x :: .ref (hs 0) :: rest)) := va_put (D := (dC, dI)) (ci := 0) (v := .int x) (ty := .int) (C := RX0) (T := TX0) (N := 14) hx hb hts hin tyX0 tyX0_ok nmX0 hown hK hP hD hS 0 rfl rfl 5 (by decide) hlink (fun _ h9 => h9) rfl (by decide +kernel) rfl rfl (Nat.le_of_ble_eq_true rfl) hdg (fun H1 locs1 hP hD hS => kk H1 locs1 hP hD hS)
theorem gt_X_neededPacks (hx : p.tables.exec = Jvm.exec) (hb : c.code = cc) (hts : ∀ w ∈ Ts, w.before args s = true) (hin : ∀ w ∈ u_ws RX0 TX0 14, w ∈ Ts) (hown : s.vm.findClass own = some m.cls) (hK : va_K (dC, dI) vwCl (tX ka) s) (hP : va_P (dC, dI) vwCl (cX hs ka u) H) {index : Nat} (hlink : (Cond.fieldLink own index "ConflictSolve" "neededPacks" "I").before args s = true) {V : Int32} (hV : x_neededPacks u = V) (hdg : decode cc pc = .ok (.getfield index, 3)) (kk : W p l e R s m args below meth c H locs cells slots Q (F0 m (pc + 3) ls (.int V :: rest))) : W p l e R s m args below meth c H locs cells slots Q (F0 m pc ls (.ref (hs 0) :: rest)) := by
  subst hV
  exact va_get (D := (dC, dI)) (ci := 0) (v := .int (x_neededPacks u)) (C := RX0) (T := TX0) (N := 14) hx hb hts hin hown hK hP 0 rfl rfl 6 (by decide) hlink (fun _ h9 => h9) rfl hdg kk
theorem pt_X_neededPacks (hx : p.tables.exec = Jvm.exec) (hb : c.code = cc) (hts : ∀ w ∈ Ts, w.before args s = true) (hin : ∀ w ∈ u_ws RX0 TX0 14, w ∈ Ts) (hown : s.vm.findClass own = some m.cls) (hK : va_K (dC, dI) vwCl (tX ka) s) (hP : va_P (dC, dI) vwCl (cX hs ka u) H) (hD : va_D A (cX hs ka u)) (hS : va_S A H0 H locs) {index : Nat} (hlink : (Cond.fieldLink own index "ConflictSolve" "neededPacks" "I").before args s = true) {x : Int32} (hdg : decode cc pc = .ok (.putfield index, 3)) (kk : ∀ (H1 : Heap) (locs1 : List Loc), va_P (dC, dI) vwCl (cX hs ka (xs_neededPacks u x)) H1 → va_D A (cX hs ka (xs_neededPacks u x)) → va_S A H0 H1 locs1 → W p l e R s m args below meth c H1 locs1 cells slots Q (F0 m (pc + 3) ls rest)) : W p l e R s m args below meth c H locs cells slots Q (F0 m pc ls (.int x :: .ref (hs 0) :: rest)) := va_put (D := (dC, dI)) (ci := 0) (v := .int x) (ty := .int) (C := RX0) (T := TX0) (N := 14) hx hb hts hin tyX0 tyX0_ok nmX0 hown hK hP hD hS 0 rfl rfl 6 (by decide) hlink (fun _ h9 => h9) rfl (by decide +kernel) rfl rfl (Nat.le_of_ble_eq_true rfl) hdg (fun H1 locs1 hP hD hS => kk H1 locs1 hP hD hS)
theorem gt_X_places (hx : p.tables.exec = Jvm.exec) (hb : c.code = cc) (hts : ∀ w ∈ Ts, w.before args s = true) (hin : ∀ w ∈ u_ws RX0 TX0 14, w ∈ Ts) (hown : s.vm.findClass own = some m.cls) (hK : va_K (dC, dI) vwCl (tX ka) s) (hP : va_P (dC, dI) vwCl (cX hs ka u) H) {index : Nat} (hlink : (Cond.fieldLink own index "ConflictSolve" "places" "J").before args s = true) {V : Int64} (hV : x_places u = V) (hdg : decode cc pc = .ok (.getfield index, 3)) (kk : W p l e R s m args below meth c H locs cells slots Q (F0 m (pc + 3) ls (.long V :: rest))) : W p l e R s m args below meth c H locs cells slots Q (F0 m pc ls (.ref (hs 0) :: rest)) := by
  subst hV
  exact va_get (D := (dC, dI)) (ci := 0) (v := .long (x_places u)) (C := RX0) (T := TX0) (N := 14) hx hb hts hin hown hK hP 0 rfl rfl 7 (by decide) hlink (fun _ h9 => h9) rfl hdg kk
theorem pt_X_places (hx : p.tables.exec = Jvm.exec) (hb : c.code = cc) (hts : ∀ w ∈ Ts, w.before args s = true) (hin : ∀ w ∈ u_ws RX0 TX0 14, w ∈ Ts) (hown : s.vm.findClass own = some m.cls) (hK : va_K (dC, dI) vwCl (tX ka) s) (hP : va_P (dC, dI) vwCl (cX hs ka u) H) (hD : va_D A (cX hs ka u)) (hS : va_S A H0 H locs) {index : Nat} (hlink : (Cond.fieldLink own index "ConflictSolve" "places" "J").before args s = true) {x : Int64} (hdg : decode cc pc = .ok (.putfield index, 3)) (kk : ∀ (H1 : Heap) (locs1 : List Loc), va_P (dC, dI) vwCl (cX hs ka (xs_places u x)) H1 → va_D A (cX hs ka (xs_places u x)) → va_S A H0 H1 locs1 → W p l e R s m args below meth c H1 locs1 cells slots Q (F0 m (pc + 3) ls rest)) : W p l e R s m args below meth c H locs cells slots Q (F0 m pc ls (.long x :: .ref (hs 0) :: rest)) := va_put (D := (dC, dI)) (ci := 0) (v := .long x) (ty := .long) (C := RX0) (T := TX0) (N := 14) hx hb hts hin tyX0 tyX0_ok nmX0 hown hK hP hD hS 0 rfl rfl 7 (by decide) hlink (fun _ h9 => h9) rfl (by decide +kernel) rfl rfl (Nat.le_of_ble_eq_true rfl) hdg (fun H1 locs1 hP hD hS => kk H1 locs1 hP hD hS)
theorem gt_X_locked (hx : p.tables.exec = Jvm.exec) (hb : c.code = cc) (hts : ∀ w ∈ Ts, w.before args s = true) (hin : ∀ w ∈ u_ws RX0 TX0 14, w ∈ Ts) (hown : s.vm.findClass own = some m.cls) (hK : va_K (dC, dI) vwCl (tX ka) s) (hP : va_P (dC, dI) vwCl (cX hs ka u) H) {index : Nat} (hlink : (Cond.fieldLink own index "ConflictSolve" "locked" "J").before args s = true) {V : Int64} (hV : x_locked u = V) (hdg : decode cc pc = .ok (.getfield index, 3)) (kk : W p l e R s m args below meth c H locs cells slots Q (F0 m (pc + 3) ls (.long V :: rest))) : W p l e R s m args below meth c H locs cells slots Q (F0 m pc ls (.ref (hs 0) :: rest)) := by
  subst hV
  exact va_get (D := (dC, dI)) (ci := 0) (v := .long (x_locked u)) (C := RX0) (T := TX0) (N := 14) hx hb hts hin hown hK hP 0 rfl rfl 8 (by decide) hlink (fun _ h9 => h9) rfl hdg kk
theorem pt_X_locked (hx : p.tables.exec = Jvm.exec) (hb : c.code = cc) (hts : ∀ w ∈ Ts, w.before args s = true) (hin : ∀ w ∈ u_ws RX0 TX0 14, w ∈ Ts) (hown : s.vm.findClass own = some m.cls) (hK : va_K (dC, dI) vwCl (tX ka) s) (hP : va_P (dC, dI) vwCl (cX hs ka u) H) (hD : va_D A (cX hs ka u)) (hS : va_S A H0 H locs) {index : Nat} (hlink : (Cond.fieldLink own index "ConflictSolve" "locked" "J").before args s = true) {x : Int64} (hdg : decode cc pc = .ok (.putfield index, 3)) (kk : ∀ (H1 : Heap) (locs1 : List Loc), va_P (dC, dI) vwCl (cX hs ka (xs_locked u x)) H1 → va_D A (cX hs ka (xs_locked u x)) → va_S A H0 H1 locs1 → W p l e R s m args below meth c H1 locs1 cells slots Q (F0 m (pc + 3) ls rest)) : W p l e R s m args below meth c H locs cells slots Q (F0 m pc ls (.long x :: .ref (hs 0) :: rest)) := va_put (D := (dC, dI)) (ci := 0) (v := .long x) (ty := .long) (C := RX0) (T := TX0) (N := 14) hx hb hts hin tyX0 tyX0_ok nmX0 hown hK hP hD hS 0 rfl rfl 8 (by decide) hlink (fun _ h9 => h9) rfl (by decide +kernel) rfl rfl (Nat.le_of_ble_eq_true rfl) hdg (fun H1 locs1 hP hD hS => kk H1 locs1 hP hD hS)
theorem gt_X_leftOut (hx : p.tables.exec = Jvm.exec) (hb : c.code = cc) (hts : ∀ w ∈ Ts, w.before args s = true) (hin : ∀ w ∈ u_ws RX0 TX0 14, w ∈ Ts) (hown : s.vm.findClass own = some m.cls) (hK : va_K (dC, dI) vwCl (tX ka) s) (hP : va_P (dC, dI) vwCl (cX hs ka u) H) {index : Nat} (hlink : (Cond.fieldLink own index "ConflictSolve" "leftOut" "I").before args s = true) {V : Int32} (hV : x_leftOut u = V) (hdg : decode cc pc = .ok (.getfield index, 3)) (kk : W p l e R s m args below meth c H locs cells slots Q (F0 m (pc + 3) ls (.int V :: rest))) : W p l e R s m args below meth c H locs cells slots Q (F0 m pc ls (.ref (hs 0) :: rest)) := by
  subst hV
  exact va_get (D := (dC, dI)) (ci := 0) (v := .int (x_leftOut u)) (C := RX0) (T := TX0) (N := 14) hx hb hts hin hown hK hP 0 rfl rfl 9 (by decide) hlink (fun _ h9 => h9) rfl hdg kk
theorem pt_X_leftOut (hx : p.tables.exec = Jvm.exec) (hb : c.code = cc) (hts : ∀ w ∈ Ts, w.before args s = true) (hin : ∀ w ∈ u_ws RX0 TX0 14, w ∈ Ts) (hown : s.vm.findClass own = some m.cls) (hK : va_K (dC, dI) vwCl (tX ka) s) (hP : va_P (dC, dI) vwCl (cX hs ka u) H) (hD : va_D A (cX hs ka u)) (hS : va_S A H0 H locs) {index : Nat} (hlink : (Cond.fieldLink own index "ConflictSolve" "leftOut" "I").before args s = true) {x : Int32} (hdg : decode cc pc = .ok (.putfield index, 3)) (kk : ∀ (H1 : Heap) (locs1 : List Loc), va_P (dC, dI) vwCl (cX hs ka (xs_leftOut u x)) H1 → va_D A (cX hs ka (xs_leftOut u x)) → va_S A H0 H1 locs1 → W p l e R s m args below meth c H1 locs1 cells slots Q (F0 m (pc + 3) ls rest)) : W p l e R s m args below meth c H locs cells slots Q (F0 m pc ls (.int x :: .ref (hs 0) :: rest)) := va_put (D := (dC, dI)) (ci := 0) (v := .int x) (ty := .int) (C := RX0) (T := TX0) (N := 14) hx hb hts hin tyX0 tyX0_ok nmX0 hown hK hP hD hS 0 rfl rfl 9 (by decide) hlink (fun _ h9 => h9) rfl (by decide +kernel) rfl rfl (Nat.le_of_ble_eq_true rfl) hdg (fun H1 locs1 hP hD hS => kk H1 locs1 hP hD hS)
theorem gt_X_alternativesFree (hx : p.tables.exec = Jvm.exec) (hb : c.code = cc) (hts : ∀ w ∈ Ts, w.before args s = true) (hin : ∀ w ∈ u_ws RX0 TX0 14, w ∈ Ts) (hown : s.vm.findClass own = some m.cls) (hK : va_K (dC, dI) vwCl (tX ka) s) (hP : va_P (dC, dI) vwCl (cX hs ka u) H) {index : Nat} (hlink : (Cond.fieldLink own index "ConflictSolve" "alternativesFree" "I").before args s = true) {V : Int32} (hV : x_alternativesFree u = V) (hdg : decode cc pc = .ok (.getfield index, 3)) (kk : W p l e R s m args below meth c H locs cells slots Q (F0 m (pc + 3) ls (.int V :: rest))) : W p l e R s m args below meth c H locs cells slots Q (F0 m pc ls (.ref (hs 0) :: rest)) := by
  subst hV
  exact va_get (D := (dC, dI)) (ci := 0) (v := .int (x_alternativesFree u)) (C := RX0) (T := TX0) (N := 14) hx hb hts hin hown hK hP 0 rfl rfl 10 (by decide) hlink (fun _ h9 => h9) rfl hdg kk
theorem pt_X_alternativesFree (hx : p.tables.exec = Jvm.exec) (hb : c.code = cc) (hts : ∀ w ∈ Ts, w.before args s = true) (hin : ∀ w ∈ u_ws RX0 TX0 14, w ∈ Ts) (hown : s.vm.findClass own = some m.cls) (hK : va_K (dC, dI) vwCl (tX ka) s) (hP : va_P (dC, dI) vwCl (cX hs ka u) H) (hD : va_D A (cX hs ka u)) (hS : va_S A H0 H locs) {index : Nat} (hlink : (Cond.fieldLink own index "ConflictSolve" "alternativesFree" "I").before args s = true) {x : Int32} (hdg : decode cc pc = .ok (.putfield index, 3)) (kk : ∀ (H1 : Heap) (locs1 : List Loc), va_P (dC, dI) vwCl (cX hs ka (xs_alternativesFree u x)) H1 → va_D A (cX hs ka (xs_alternativesFree u x)) → va_S A H0 H1 locs1 → W p l e R s m args below meth c H1 locs1 cells slots Q (F0 m (pc + 3) ls rest)) : W p l e R s m args below meth c H locs cells slots Q (F0 m pc ls (.int x :: .ref (hs 0) :: rest)) := va_put (D := (dC, dI)) (ci := 0) (v := .int x) (ty := .int) (C := RX0) (T := TX0) (N := 14) hx hb hts hin tyX0 tyX0_ok nmX0 hown hK hP hD hS 0 rfl rfl 10 (by decide) hlink (fun _ h9 => h9) rfl (by decide +kernel) rfl rfl (Nat.le_of_ble_eq_true rfl) hdg (fun H1 locs1 hP hD hS => kk H1 locs1 hP hD hS)
theorem gt_X_latestIsDemand (hx : p.tables.exec = Jvm.exec) (hb : c.code = cc) (hts : ∀ w ∈ Ts, w.before args s = true) (hin : ∀ w ∈ u_ws RX0 TX0 14, w ∈ Ts) (hown : s.vm.findClass own = some m.cls) (hK : va_K (dC, dI) vwCl (tX ka) s) (hP : va_P (dC, dI) vwCl (cX hs ka u) H) {index : Nat} (hlink : (Cond.fieldLink own index "ConflictSolve" "latestIsDemand" "Z").before args s = true) {V : Int32} (hV : x_latestIsDemand u = V) (hdg : decode cc pc = .ok (.getfield index, 3)) (kk : W p l e R s m args below meth c H locs cells slots Q (F0 m (pc + 3) ls (.int V :: rest))) : W p l e R s m args below meth c H locs cells slots Q (F0 m pc ls (.ref (hs 0) :: rest)) := by
  subst hV
  exact va_get (D := (dC, dI)) (ci := 0) (v := .int (x_latestIsDemand u)) (C := RX0) (T := TX0) (N := 14) hx hb hts hin hown hK hP 0 rfl rfl 11 (by decide) hlink (fun _ h9 => h9) rfl hdg kk
theorem pt_X_latestIsDemand (hx : p.tables.exec = Jvm.exec) (hb : c.code = cc) (hts : ∀ w ∈ Ts, w.before args s = true) (hin : ∀ w ∈ u_ws RX0 TX0 14, w ∈ Ts) (hown : s.vm.findClass own = some m.cls) (hK : va_K (dC, dI) vwCl (tX ka) s) (hP : va_P (dC, dI) vwCl (cX hs ka u) H) (hD : va_D A (cX hs ka u)) (hS : va_S A H0 H locs) {index : Nat} (hlink : (Cond.fieldLink own index "ConflictSolve" "latestIsDemand" "Z").before args s = true) {x : Int32} (hn : narrow .boolean (.int x) = .int x) (hf : fits .boolean (.int x) = true) (hdg : decode cc pc = .ok (.putfield index, 3)) (kk : ∀ (H1 : Heap) (locs1 : List Loc), va_P (dC, dI) vwCl (cX hs ka (xs_latestIsDemand u x)) H1 → va_D A (cX hs ka (xs_latestIsDemand u x)) → va_S A H0 H1 locs1 → W p l e R s m args below meth c H1 locs1 cells slots Q (F0 m (pc + 3) ls rest)) : W p l e R s m args below meth c H locs cells slots Q (F0 m pc ls (.int x :: .ref (hs 0) :: rest)) := va_put (D := (dC, dI)) (ci := 0) (v := .int x) (ty := .boolean) (C := RX0) (T := TX0) (N := 14) hx hb hts hin tyX0 tyX0_ok nmX0 hown hK hP hD hS 0 rfl rfl 11 (by decide) hlink (fun _ h9 => h9) rfl (by decide +kernel) hn hf (Nat.le_of_ble_eq_true rfl) hdg (fun H1 locs1 hP hD hS => kk H1 locs1 hP hD hS)
theorem gt_X_picked (hx : p.tables.exec = Jvm.exec) (hb : c.code = cc) (hts : ∀ w ∈ Ts, w.before args s = true) (hin : ∀ w ∈ u_ws RX0 TX0 14, w ∈ Ts) (hown : s.vm.findClass own = some m.cls) (hK : va_K (dC, dI) vwCl (tX ka) s) (hP : va_P (dC, dI) vwCl (cX hs ka u) H) {index : Nat} (hlink : (Cond.fieldLink own index "ConflictSolve" "picked" "J").before args s = true) {V : Int64} (hV : x_picked u = V) (hdg : decode cc pc = .ok (.getfield index, 3)) (kk : W p l e R s m args below meth c H locs cells slots Q (F0 m (pc + 3) ls (.long V :: rest))) : W p l e R s m args below meth c H locs cells slots Q (F0 m pc ls (.ref (hs 0) :: rest)) := by
  subst hV
  exact va_get (D := (dC, dI)) (ci := 0) (v := .long (x_picked u)) (C := RX0) (T := TX0) (N := 14) hx hb hts hin hown hK hP 0 rfl rfl 12 (by decide) hlink (fun _ h9 => h9) rfl hdg kk
theorem pt_X_picked (hx : p.tables.exec = Jvm.exec) (hb : c.code = cc) (hts : ∀ w ∈ Ts, w.before args s = true) (hin : ∀ w ∈ u_ws RX0 TX0 14, w ∈ Ts) (hown : s.vm.findClass own = some m.cls) (hK : va_K (dC, dI) vwCl (tX ka) s) (hP : va_P (dC, dI) vwCl (cX hs ka u) H) (hD : va_D A (cX hs ka u)) (hS : va_S A H0 H locs) {index : Nat} (hlink : (Cond.fieldLink own index "ConflictSolve" "picked" "J").before args s = true) {x : Int64} (hdg : decode cc pc = .ok (.putfield index, 3)) (kk : ∀ (H1 : Heap) (locs1 : List Loc), va_P (dC, dI) vwCl (cX hs ka (xs_picked u x)) H1 → va_D A (cX hs ka (xs_picked u x)) → va_S A H0 H1 locs1 → W p l e R s m args below meth c H1 locs1 cells slots Q (F0 m (pc + 3) ls rest)) : W p l e R s m args below meth c H locs cells slots Q (F0 m pc ls (.long x :: .ref (hs 0) :: rest)) := va_put (D := (dC, dI)) (ci := 0) (v := .long x) (ty := .long) (C := RX0) (T := TX0) (N := 14) hx hb hts hin tyX0 tyX0_ok nmX0 hown hK hP hD hS 0 rfl rfl 12 (by decide) hlink (fun _ h9 => h9) rfl (by decide +kernel) rfl rfl (Nat.le_of_ble_eq_true rfl) hdg (fun H1 locs1 hP hD hS => kk H1 locs1 hP hD hS)
theorem gt_X_toBlame (hx : p.tables.exec = Jvm.exec) (hb : c.code = cc) (hts : ∀ w ∈ Ts, w.before args s = true) (hin : ∀ w ∈ u_ws RX0 TX0 14, w ∈ Ts) (hown : s.vm.findClass own = some m.cls) (hK : va_K (dC, dI) vwCl (tX ka) s) (hP : va_P (dC, dI) vwCl (cX hs ka u) H) {index : Nat} (hlink : (Cond.fieldLink own index "ConflictSolve" "toBlame" "I").before args s = true) {V : Int32} (hV : x_toBlame u = V) (hdg : decode cc pc = .ok (.getfield index, 3)) (kk : W p l e R s m args below meth c H locs cells slots Q (F0 m (pc + 3) ls (.int V :: rest))) : W p l e R s m args below meth c H locs cells slots Q (F0 m pc ls (.ref (hs 0) :: rest)) := by
  subst hV
  exact va_get (D := (dC, dI)) (ci := 0) (v := .int (x_toBlame u)) (C := RX0) (T := TX0) (N := 14) hx hb hts hin hown hK hP 0 rfl rfl 13 (by decide) hlink (fun _ h9 => h9) rfl hdg kk
theorem pt_X_toBlame (hx : p.tables.exec = Jvm.exec) (hb : c.code = cc) (hts : ∀ w ∈ Ts, w.before args s = true) (hin : ∀ w ∈ u_ws RX0 TX0 14, w ∈ Ts) (hown : s.vm.findClass own = some m.cls) (hK : va_K (dC, dI) vwCl (tX ka) s) (hP : va_P (dC, dI) vwCl (cX hs ka u) H) (hD : va_D A (cX hs ka u)) (hS : va_S A H0 H locs) {index : Nat} (hlink : (Cond.fieldLink own index "ConflictSolve" "toBlame" "I").before args s = true) {x : Int32} (hdg : decode cc pc = .ok (.putfield index, 3)) (kk : ∀ (H1 : Heap) (locs1 : List Loc), va_P (dC, dI) vwCl (cX hs ka (xs_toBlame u x)) H1 → va_D A (cX hs ka (xs_toBlame u x)) → va_S A H0 H1 locs1 → W p l e R s m args below meth c H1 locs1 cells slots Q (F0 m (pc + 3) ls rest)) : W p l e R s m args below meth c H locs cells slots Q (F0 m pc ls (.int x :: .ref (hs 0) :: rest)) := va_put (D := (dC, dI)) (ci := 0) (v := .int x) (ty := .int) (C := RX0) (T := TX0) (N := 14) hx hb hts hin tyX0 tyX0_ok nmX0 hown hK hP hD hS 0 rfl rfl 13 (by decide) hlink (fun _ h9 => h9) rfl (by decide +kernel) rfl rfl (Nat.le_of_ble_eq_true rfl) hdg (fun H1 locs1 hP hD hS => kk H1 locs1 hP hD hS)
theorem fr_X (hD : va_D A (cX hs ka u)) (hS : va_S A H0 H locs) (hA : ∀ q, H0.size ≤ q → A q) : ∀ q, va_A (cX hs ka u) H.size q → A q := va_free (wc := cX hs ka u) hD hS hA [0, 1, 2, 3] rfl
theorem fn_X (hD : va_D A (cX hs ka u)) (hS : va_S A H0 H locs) (hA : ∀ q, H0.size ≤ q → A q) : ∀ q, va_A ([] : va_W) H.size q → A q := va_free (wc := []) hD hS hA [] rfl
theorem jw_X {H1 : Heap} {u1 : XS} (hP : va_P (dC, dI) vwCl (cX hs ka u) H) (hD : va_D A (cX hs ka u)) (hk : ∀ q : Nat, q < H.size → ¬ va_A (cX hs ka u) H.size q → H1[q]? = H[q]?) (hF : ∀ q, va_A (cX hs ka u) H.size q → A q) (hP1 : va_P (dC, dI) vwCl (cX hs ka u1) H1) (hD1 : va_D (va_A (cX hs ka u) H.size) (cX hs ka u1)) : va_P (dC, dI) vwCl (cX hs ka u1) H1 ∧ va_D A (cX hs ka u1) := va_join (wc := cX hs ka u) (wr := []) (w1 := cX hs ka u1) hP hD [0, 1, 2, 3] [] rfl rfl (by decide) (by decide) hk hF hP1 hD1
theorem js_X {H1 : Heap} (hP : va_P (dC, dI) vwCl (cX hs ka u) H) (hD : va_D A (cX hs ka u)) (hk : ∀ q : Nat, q < H.size → ¬ va_A ([] : va_W) H.size q → H1[q]? = H[q]?) (hF : ∀ q, va_A ([] : va_W) H.size q → A q) (hP1 : va_P (dC, dI) vwCl ([] : va_W) H1) (hD1 : va_D (va_A ([] : va_W) H.size) ([] : va_W)) : va_P (dC, dI) vwCl (cX hs ka u) H1 ∧ va_D A (cX hs ka u) := va_join (wc := []) (wr := cX hs ka u) (w1 := []) hP hD [] [0, 1, 2, 3] rfl rfl (by decide) (by decide) hk hF hP1 hD1
theorem rc_X (hK : va_K (dC, dI) vwCl (tX ka) s) (hP : va_P (dC, dI) vwCl (cX hs ka u) H) : ∃ cell : Cell, H[hs 0]? = some cell ∧ cell.vm.isStatics = false ∧ s.vm.findClass RX0 = some cell.cls := va_recv hK hP (ci := 0) (q0 := 0) rfl rfl
end ROWSX
theorem rq_x_rowRules_rowRules (u : XS) (v : Nat → Int64) : x_rowRules (xs_rowRules u v) = v := rfl
theorem rq_x_rowRules_demandRules (u : XS) (v : Nat → Int64) : x_rowRules (xs_demandRules u v) = x_rowRules u := rfl
theorem rq_x_rowRules_order (u : XS) (v : Nat → Int32) : x_rowRules (xs_order u v) = x_rowRules u := rfl
theorem rq_x_rowRules_packs (u : XS) (v : Int32) : x_rowRules (xs_packs u v) = x_rowRules u := rfl
theorem rq_x_rowRules_rows (u : XS) (v : Int32) : x_rowRules (xs_rows u v) = x_rowRules u := rfl
theorem rq_x_rowRules_demands (u : XS) (v : Int32) : x_rowRules (xs_demands u v) = x_rowRules u := rfl
theorem rq_x_rowRules_neededPacks (u : XS) (v : Int32) : x_rowRules (xs_neededPacks u v) = x_rowRules u := rfl
theorem rq_x_rowRules_places (u : XS) (v : Int64) : x_rowRules (xs_places u v) = x_rowRules u := rfl
theorem rq_x_rowRules_locked (u : XS) (v : Int64) : x_rowRules (xs_locked u v) = x_rowRules u := rfl
theorem rq_x_rowRules_leftOut (u : XS) (v : Int32) : x_rowRules (xs_leftOut u v) = x_rowRules u := rfl
theorem rq_x_rowRules_alternativesFree (u : XS) (v : Int32) : x_rowRules (xs_alternativesFree u v) = x_rowRules u := rfl
theorem rq_x_rowRules_latestIsDemand (u : XS) (v : Int32) : x_rowRules (xs_latestIsDemand u v) = x_rowRules u := rfl
theorem rq_x_rowRules_picked (u : XS) (v : Int64) : x_rowRules (xs_picked u v) = x_rowRules u := rfl
theorem rq_x_rowRules_toBlame (u : XS) (v : Int32) : x_rowRules (xs_toBlame u v) = x_rowRules u := rfl
theorem rq_x_demandRules_rowRules (u : XS) (v : Nat → Int64) : x_demandRules (xs_rowRules u v) = x_demandRules u := rfl
theorem rq_x_demandRules_demandRules (u : XS) (v : Nat → Int64) : x_demandRules (xs_demandRules u v) = v := rfl
theorem rq_x_demandRules_order (u : XS) (v : Nat → Int32) : x_demandRules (xs_order u v) = x_demandRules u := rfl
theorem rq_x_demandRules_packs (u : XS) (v : Int32) : x_demandRules (xs_packs u v) = x_demandRules u := rfl
theorem rq_x_demandRules_rows (u : XS) (v : Int32) : x_demandRules (xs_rows u v) = x_demandRules u := rfl
theorem rq_x_demandRules_demands (u : XS) (v : Int32) : x_demandRules (xs_demands u v) = x_demandRules u := rfl
theorem rq_x_demandRules_neededPacks (u : XS) (v : Int32) : x_demandRules (xs_neededPacks u v) = x_demandRules u := rfl
theorem rq_x_demandRules_places (u : XS) (v : Int64) : x_demandRules (xs_places u v) = x_demandRules u := rfl
theorem rq_x_demandRules_locked (u : XS) (v : Int64) : x_demandRules (xs_locked u v) = x_demandRules u := rfl
theorem rq_x_demandRules_leftOut (u : XS) (v : Int32) : x_demandRules (xs_leftOut u v) = x_demandRules u := rfl
theorem rq_x_demandRules_alternativesFree (u : XS) (v : Int32) : x_demandRules (xs_alternativesFree u v) = x_demandRules u := rfl
theorem rq_x_demandRules_latestIsDemand (u : XS) (v : Int32) : x_demandRules (xs_latestIsDemand u v) = x_demandRules u := rfl
theorem rq_x_demandRules_picked (u : XS) (v : Int64) : x_demandRules (xs_picked u v) = x_demandRules u := rfl
theorem rq_x_demandRules_toBlame (u : XS) (v : Int32) : x_demandRules (xs_toBlame u v) = x_demandRules u := rfl
theorem rq_x_order_rowRules (u : XS) (v : Nat → Int64) : x_order (xs_rowRules u v) = x_order u := rfl
theorem rq_x_order_demandRules (u : XS) (v : Nat → Int64) : x_order (xs_demandRules u v) = x_order u := rfl
theorem rq_x_order_order (u : XS) (v : Nat → Int32) : x_order (xs_order u v) = v := rfl
theorem rq_x_order_packs (u : XS) (v : Int32) : x_order (xs_packs u v) = x_order u := rfl
theorem rq_x_order_rows (u : XS) (v : Int32) : x_order (xs_rows u v) = x_order u := rfl
theorem rq_x_order_demands (u : XS) (v : Int32) : x_order (xs_demands u v) = x_order u := rfl
theorem rq_x_order_neededPacks (u : XS) (v : Int32) : x_order (xs_neededPacks u v) = x_order u := rfl
theorem rq_x_order_places (u : XS) (v : Int64) : x_order (xs_places u v) = x_order u := rfl
theorem rq_x_order_locked (u : XS) (v : Int64) : x_order (xs_locked u v) = x_order u := rfl
theorem rq_x_order_leftOut (u : XS) (v : Int32) : x_order (xs_leftOut u v) = x_order u := rfl
theorem rq_x_order_alternativesFree (u : XS) (v : Int32) : x_order (xs_alternativesFree u v) = x_order u := rfl
theorem rq_x_order_latestIsDemand (u : XS) (v : Int32) : x_order (xs_latestIsDemand u v) = x_order u := rfl
theorem rq_x_order_picked (u : XS) (v : Int64) : x_order (xs_picked u v) = x_order u := rfl
theorem rq_x_order_toBlame (u : XS) (v : Int32) : x_order (xs_toBlame u v) = x_order u := rfl
theorem rq_x_packs_rowRules (u : XS) (v : Nat → Int64) : x_packs (xs_rowRules u v) = x_packs u := rfl
theorem rq_x_packs_demandRules (u : XS) (v : Nat → Int64) : x_packs (xs_demandRules u v) = x_packs u := rfl
theorem rq_x_packs_order (u : XS) (v : Nat → Int32) : x_packs (xs_order u v) = x_packs u := rfl
theorem rq_x_packs_packs (u : XS) (v : Int32) : x_packs (xs_packs u v) = v := rfl
theorem rq_x_packs_rows (u : XS) (v : Int32) : x_packs (xs_rows u v) = x_packs u := rfl
theorem rq_x_packs_demands (u : XS) (v : Int32) : x_packs (xs_demands u v) = x_packs u := rfl
theorem rq_x_packs_neededPacks (u : XS) (v : Int32) : x_packs (xs_neededPacks u v) = x_packs u := rfl
theorem rq_x_packs_places (u : XS) (v : Int64) : x_packs (xs_places u v) = x_packs u := rfl
theorem rq_x_packs_locked (u : XS) (v : Int64) : x_packs (xs_locked u v) = x_packs u := rfl
theorem rq_x_packs_leftOut (u : XS) (v : Int32) : x_packs (xs_leftOut u v) = x_packs u := rfl
theorem rq_x_packs_alternativesFree (u : XS) (v : Int32) : x_packs (xs_alternativesFree u v) = x_packs u := rfl
theorem rq_x_packs_latestIsDemand (u : XS) (v : Int32) : x_packs (xs_latestIsDemand u v) = x_packs u := rfl
theorem rq_x_packs_picked (u : XS) (v : Int64) : x_packs (xs_picked u v) = x_packs u := rfl
theorem rq_x_packs_toBlame (u : XS) (v : Int32) : x_packs (xs_toBlame u v) = x_packs u := rfl
theorem rq_x_rows_rowRules (u : XS) (v : Nat → Int64) : x_rows (xs_rowRules u v) = x_rows u := rfl
theorem rq_x_rows_demandRules (u : XS) (v : Nat → Int64) : x_rows (xs_demandRules u v) = x_rows u := rfl
theorem rq_x_rows_order (u : XS) (v : Nat → Int32) : x_rows (xs_order u v) = x_rows u := rfl
theorem rq_x_rows_packs (u : XS) (v : Int32) : x_rows (xs_packs u v) = x_rows u := rfl
theorem rq_x_rows_rows (u : XS) (v : Int32) : x_rows (xs_rows u v) = v := rfl
theorem rq_x_rows_demands (u : XS) (v : Int32) : x_rows (xs_demands u v) = x_rows u := rfl
theorem rq_x_rows_neededPacks (u : XS) (v : Int32) : x_rows (xs_neededPacks u v) = x_rows u := rfl
theorem rq_x_rows_places (u : XS) (v : Int64) : x_rows (xs_places u v) = x_rows u := rfl
theorem rq_x_rows_locked (u : XS) (v : Int64) : x_rows (xs_locked u v) = x_rows u := rfl
theorem rq_x_rows_leftOut (u : XS) (v : Int32) : x_rows (xs_leftOut u v) = x_rows u := rfl
theorem rq_x_rows_alternativesFree (u : XS) (v : Int32) : x_rows (xs_alternativesFree u v) = x_rows u := rfl
theorem rq_x_rows_latestIsDemand (u : XS) (v : Int32) : x_rows (xs_latestIsDemand u v) = x_rows u := rfl
theorem rq_x_rows_picked (u : XS) (v : Int64) : x_rows (xs_picked u v) = x_rows u := rfl
theorem rq_x_rows_toBlame (u : XS) (v : Int32) : x_rows (xs_toBlame u v) = x_rows u := rfl
theorem rq_x_demands_rowRules (u : XS) (v : Nat → Int64) : x_demands (xs_rowRules u v) = x_demands u := rfl
theorem rq_x_demands_demandRules (u : XS) (v : Nat → Int64) : x_demands (xs_demandRules u v) = x_demands u := rfl
theorem rq_x_demands_order (u : XS) (v : Nat → Int32) : x_demands (xs_order u v) = x_demands u := rfl
theorem rq_x_demands_packs (u : XS) (v : Int32) : x_demands (xs_packs u v) = x_demands u := rfl
theorem rq_x_demands_rows (u : XS) (v : Int32) : x_demands (xs_rows u v) = x_demands u := rfl
theorem rq_x_demands_demands (u : XS) (v : Int32) : x_demands (xs_demands u v) = v := rfl
theorem rq_x_demands_neededPacks (u : XS) (v : Int32) : x_demands (xs_neededPacks u v) = x_demands u := rfl
theorem rq_x_demands_places (u : XS) (v : Int64) : x_demands (xs_places u v) = x_demands u := rfl
theorem rq_x_demands_locked (u : XS) (v : Int64) : x_demands (xs_locked u v) = x_demands u := rfl
theorem rq_x_demands_leftOut (u : XS) (v : Int32) : x_demands (xs_leftOut u v) = x_demands u := rfl
theorem rq_x_demands_alternativesFree (u : XS) (v : Int32) : x_demands (xs_alternativesFree u v) = x_demands u := rfl
theorem rq_x_demands_latestIsDemand (u : XS) (v : Int32) : x_demands (xs_latestIsDemand u v) = x_demands u := rfl
theorem rq_x_demands_picked (u : XS) (v : Int64) : x_demands (xs_picked u v) = x_demands u := rfl
theorem rq_x_demands_toBlame (u : XS) (v : Int32) : x_demands (xs_toBlame u v) = x_demands u := rfl
theorem rq_x_neededPacks_rowRules (u : XS) (v : Nat → Int64) : x_neededPacks (xs_rowRules u v) = x_neededPacks u := rfl
theorem rq_x_neededPacks_demandRules (u : XS) (v : Nat → Int64) : x_neededPacks (xs_demandRules u v) = x_neededPacks u := rfl
theorem rq_x_neededPacks_order (u : XS) (v : Nat → Int32) : x_neededPacks (xs_order u v) = x_neededPacks u := rfl
theorem rq_x_neededPacks_packs (u : XS) (v : Int32) : x_neededPacks (xs_packs u v) = x_neededPacks u := rfl
theorem rq_x_neededPacks_rows (u : XS) (v : Int32) : x_neededPacks (xs_rows u v) = x_neededPacks u := rfl
theorem rq_x_neededPacks_demands (u : XS) (v : Int32) : x_neededPacks (xs_demands u v) = x_neededPacks u := rfl
theorem rq_x_neededPacks_neededPacks (u : XS) (v : Int32) : x_neededPacks (xs_neededPacks u v) = v := rfl
theorem rq_x_neededPacks_places (u : XS) (v : Int64) : x_neededPacks (xs_places u v) = x_neededPacks u := rfl
theorem rq_x_neededPacks_locked (u : XS) (v : Int64) : x_neededPacks (xs_locked u v) = x_neededPacks u := rfl
theorem rq_x_neededPacks_leftOut (u : XS) (v : Int32) : x_neededPacks (xs_leftOut u v) = x_neededPacks u := rfl
theorem rq_x_neededPacks_alternativesFree (u : XS) (v : Int32) : x_neededPacks (xs_alternativesFree u v) = x_neededPacks u := rfl
theorem rq_x_neededPacks_latestIsDemand (u : XS) (v : Int32) : x_neededPacks (xs_latestIsDemand u v) = x_neededPacks u := rfl
theorem rq_x_neededPacks_picked (u : XS) (v : Int64) : x_neededPacks (xs_picked u v) = x_neededPacks u := rfl
theorem rq_x_neededPacks_toBlame (u : XS) (v : Int32) : x_neededPacks (xs_toBlame u v) = x_neededPacks u := rfl
theorem rq_x_places_rowRules (u : XS) (v : Nat → Int64) : x_places (xs_rowRules u v) = x_places u := rfl
theorem rq_x_places_demandRules (u : XS) (v : Nat → Int64) : x_places (xs_demandRules u v) = x_places u := rfl
theorem rq_x_places_order (u : XS) (v : Nat → Int32) : x_places (xs_order u v) = x_places u := rfl
theorem rq_x_places_packs (u : XS) (v : Int32) : x_places (xs_packs u v) = x_places u := rfl
theorem rq_x_places_rows (u : XS) (v : Int32) : x_places (xs_rows u v) = x_places u := rfl
theorem rq_x_places_demands (u : XS) (v : Int32) : x_places (xs_demands u v) = x_places u := rfl
theorem rq_x_places_neededPacks (u : XS) (v : Int32) : x_places (xs_neededPacks u v) = x_places u := rfl
theorem rq_x_places_places (u : XS) (v : Int64) : x_places (xs_places u v) = v := rfl
theorem rq_x_places_locked (u : XS) (v : Int64) : x_places (xs_locked u v) = x_places u := rfl
theorem rq_x_places_leftOut (u : XS) (v : Int32) : x_places (xs_leftOut u v) = x_places u := rfl
theorem rq_x_places_alternativesFree (u : XS) (v : Int32) : x_places (xs_alternativesFree u v) = x_places u := rfl
theorem rq_x_places_latestIsDemand (u : XS) (v : Int32) : x_places (xs_latestIsDemand u v) = x_places u := rfl
theorem rq_x_places_picked (u : XS) (v : Int64) : x_places (xs_picked u v) = x_places u := rfl
theorem rq_x_places_toBlame (u : XS) (v : Int32) : x_places (xs_toBlame u v) = x_places u := rfl
theorem rq_x_locked_rowRules (u : XS) (v : Nat → Int64) : x_locked (xs_rowRules u v) = x_locked u := rfl
theorem rq_x_locked_demandRules (u : XS) (v : Nat → Int64) : x_locked (xs_demandRules u v) = x_locked u := rfl
theorem rq_x_locked_order (u : XS) (v : Nat → Int32) : x_locked (xs_order u v) = x_locked u := rfl
theorem rq_x_locked_packs (u : XS) (v : Int32) : x_locked (xs_packs u v) = x_locked u := rfl
theorem rq_x_locked_rows (u : XS) (v : Int32) : x_locked (xs_rows u v) = x_locked u := rfl
theorem rq_x_locked_demands (u : XS) (v : Int32) : x_locked (xs_demands u v) = x_locked u := rfl
theorem rq_x_locked_neededPacks (u : XS) (v : Int32) : x_locked (xs_neededPacks u v) = x_locked u := rfl
theorem rq_x_locked_places (u : XS) (v : Int64) : x_locked (xs_places u v) = x_locked u := rfl
theorem rq_x_locked_locked (u : XS) (v : Int64) : x_locked (xs_locked u v) = v := rfl
theorem rq_x_locked_leftOut (u : XS) (v : Int32) : x_locked (xs_leftOut u v) = x_locked u := rfl
theorem rq_x_locked_alternativesFree (u : XS) (v : Int32) : x_locked (xs_alternativesFree u v) = x_locked u := rfl
theorem rq_x_locked_latestIsDemand (u : XS) (v : Int32) : x_locked (xs_latestIsDemand u v) = x_locked u := rfl
theorem rq_x_locked_picked (u : XS) (v : Int64) : x_locked (xs_picked u v) = x_locked u := rfl
theorem rq_x_locked_toBlame (u : XS) (v : Int32) : x_locked (xs_toBlame u v) = x_locked u := rfl
theorem rq_x_leftOut_rowRules (u : XS) (v : Nat → Int64) : x_leftOut (xs_rowRules u v) = x_leftOut u := rfl
theorem rq_x_leftOut_demandRules (u : XS) (v : Nat → Int64) : x_leftOut (xs_demandRules u v) = x_leftOut u := rfl
theorem rq_x_leftOut_order (u : XS) (v : Nat → Int32) : x_leftOut (xs_order u v) = x_leftOut u := rfl
theorem rq_x_leftOut_packs (u : XS) (v : Int32) : x_leftOut (xs_packs u v) = x_leftOut u := rfl
theorem rq_x_leftOut_rows (u : XS) (v : Int32) : x_leftOut (xs_rows u v) = x_leftOut u := rfl
theorem rq_x_leftOut_demands (u : XS) (v : Int32) : x_leftOut (xs_demands u v) = x_leftOut u := rfl
theorem rq_x_leftOut_neededPacks (u : XS) (v : Int32) : x_leftOut (xs_neededPacks u v) = x_leftOut u := rfl
theorem rq_x_leftOut_places (u : XS) (v : Int64) : x_leftOut (xs_places u v) = x_leftOut u := rfl
theorem rq_x_leftOut_locked (u : XS) (v : Int64) : x_leftOut (xs_locked u v) = x_leftOut u := rfl
theorem rq_x_leftOut_leftOut (u : XS) (v : Int32) : x_leftOut (xs_leftOut u v) = v := rfl
theorem rq_x_leftOut_alternativesFree (u : XS) (v : Int32) : x_leftOut (xs_alternativesFree u v) = x_leftOut u := rfl
theorem rq_x_leftOut_latestIsDemand (u : XS) (v : Int32) : x_leftOut (xs_latestIsDemand u v) = x_leftOut u := rfl
theorem rq_x_leftOut_picked (u : XS) (v : Int64) : x_leftOut (xs_picked u v) = x_leftOut u := rfl
theorem rq_x_leftOut_toBlame (u : XS) (v : Int32) : x_leftOut (xs_toBlame u v) = x_leftOut u := rfl
theorem rq_x_alternativesFree_rowRules (u : XS) (v : Nat → Int64) : x_alternativesFree (xs_rowRules u v) = x_alternativesFree u := rfl
theorem rq_x_alternativesFree_demandRules (u : XS) (v : Nat → Int64) : x_alternativesFree (xs_demandRules u v) = x_alternativesFree u := rfl
theorem rq_x_alternativesFree_order (u : XS) (v : Nat → Int32) : x_alternativesFree (xs_order u v) = x_alternativesFree u := rfl
theorem rq_x_alternativesFree_packs (u : XS) (v : Int32) : x_alternativesFree (xs_packs u v) = x_alternativesFree u := rfl
theorem rq_x_alternativesFree_rows (u : XS) (v : Int32) : x_alternativesFree (xs_rows u v) = x_alternativesFree u := rfl
theorem rq_x_alternativesFree_demands (u : XS) (v : Int32) : x_alternativesFree (xs_demands u v) = x_alternativesFree u := rfl
theorem rq_x_alternativesFree_neededPacks (u : XS) (v : Int32) : x_alternativesFree (xs_neededPacks u v) = x_alternativesFree u := rfl
theorem rq_x_alternativesFree_places (u : XS) (v : Int64) : x_alternativesFree (xs_places u v) = x_alternativesFree u := rfl
theorem rq_x_alternativesFree_locked (u : XS) (v : Int64) : x_alternativesFree (xs_locked u v) = x_alternativesFree u := rfl
theorem rq_x_alternativesFree_leftOut (u : XS) (v : Int32) : x_alternativesFree (xs_leftOut u v) = x_alternativesFree u := rfl
theorem rq_x_alternativesFree_alternativesFree (u : XS) (v : Int32) : x_alternativesFree (xs_alternativesFree u v) = v := rfl
theorem rq_x_alternativesFree_latestIsDemand (u : XS) (v : Int32) : x_alternativesFree (xs_latestIsDemand u v) = x_alternativesFree u := rfl
theorem rq_x_alternativesFree_picked (u : XS) (v : Int64) : x_alternativesFree (xs_picked u v) = x_alternativesFree u := rfl
theorem rq_x_alternativesFree_toBlame (u : XS) (v : Int32) : x_alternativesFree (xs_toBlame u v) = x_alternativesFree u := rfl
theorem rq_x_latestIsDemand_rowRules (u : XS) (v : Nat → Int64) : x_latestIsDemand (xs_rowRules u v) = x_latestIsDemand u := rfl
theorem rq_x_latestIsDemand_demandRules (u : XS) (v : Nat → Int64) : x_latestIsDemand (xs_demandRules u v) = x_latestIsDemand u := rfl
theorem rq_x_latestIsDemand_order (u : XS) (v : Nat → Int32) : x_latestIsDemand (xs_order u v) = x_latestIsDemand u := rfl
theorem rq_x_latestIsDemand_packs (u : XS) (v : Int32) : x_latestIsDemand (xs_packs u v) = x_latestIsDemand u := rfl
theorem rq_x_latestIsDemand_rows (u : XS) (v : Int32) : x_latestIsDemand (xs_rows u v) = x_latestIsDemand u := rfl
theorem rq_x_latestIsDemand_demands (u : XS) (v : Int32) : x_latestIsDemand (xs_demands u v) = x_latestIsDemand u := rfl
theorem rq_x_latestIsDemand_neededPacks (u : XS) (v : Int32) : x_latestIsDemand (xs_neededPacks u v) = x_latestIsDemand u := rfl
theorem rq_x_latestIsDemand_places (u : XS) (v : Int64) : x_latestIsDemand (xs_places u v) = x_latestIsDemand u := rfl
theorem rq_x_latestIsDemand_locked (u : XS) (v : Int64) : x_latestIsDemand (xs_locked u v) = x_latestIsDemand u := rfl
theorem rq_x_latestIsDemand_leftOut (u : XS) (v : Int32) : x_latestIsDemand (xs_leftOut u v) = x_latestIsDemand u := rfl
theorem rq_x_latestIsDemand_alternativesFree (u : XS) (v : Int32) : x_latestIsDemand (xs_alternativesFree u v) = x_latestIsDemand u := rfl
theorem rq_x_latestIsDemand_latestIsDemand (u : XS) (v : Int32) : x_latestIsDemand (xs_latestIsDemand u v) = v := rfl
theorem rq_x_latestIsDemand_picked (u : XS) (v : Int64) : x_latestIsDemand (xs_picked u v) = x_latestIsDemand u := rfl
theorem rq_x_latestIsDemand_toBlame (u : XS) (v : Int32) : x_latestIsDemand (xs_toBlame u v) = x_latestIsDemand u := rfl
theorem rq_x_picked_rowRules (u : XS) (v : Nat → Int64) : x_picked (xs_rowRules u v) = x_picked u := rfl
theorem rq_x_picked_demandRules (u : XS) (v : Nat → Int64) : x_picked (xs_demandRules u v) = x_picked u := rfl
theorem rq_x_picked_order (u : XS) (v : Nat → Int32) : x_picked (xs_order u v) = x_picked u := rfl
theorem rq_x_picked_packs (u : XS) (v : Int32) : x_picked (xs_packs u v) = x_picked u := rfl
theorem rq_x_picked_rows (u : XS) (v : Int32) : x_picked (xs_rows u v) = x_picked u := rfl
theorem rq_x_picked_demands (u : XS) (v : Int32) : x_picked (xs_demands u v) = x_picked u := rfl
theorem rq_x_picked_neededPacks (u : XS) (v : Int32) : x_picked (xs_neededPacks u v) = x_picked u := rfl
theorem rq_x_picked_places (u : XS) (v : Int64) : x_picked (xs_places u v) = x_picked u := rfl
theorem rq_x_picked_locked (u : XS) (v : Int64) : x_picked (xs_locked u v) = x_picked u := rfl
theorem rq_x_picked_leftOut (u : XS) (v : Int32) : x_picked (xs_leftOut u v) = x_picked u := rfl
theorem rq_x_picked_alternativesFree (u : XS) (v : Int32) : x_picked (xs_alternativesFree u v) = x_picked u := rfl
theorem rq_x_picked_latestIsDemand (u : XS) (v : Int32) : x_picked (xs_latestIsDemand u v) = x_picked u := rfl
theorem rq_x_picked_picked (u : XS) (v : Int64) : x_picked (xs_picked u v) = v := rfl
theorem rq_x_picked_toBlame (u : XS) (v : Int32) : x_picked (xs_toBlame u v) = x_picked u := rfl
theorem rq_x_toBlame_rowRules (u : XS) (v : Nat → Int64) : x_toBlame (xs_rowRules u v) = x_toBlame u := rfl
theorem rq_x_toBlame_demandRules (u : XS) (v : Nat → Int64) : x_toBlame (xs_demandRules u v) = x_toBlame u := rfl
theorem rq_x_toBlame_order (u : XS) (v : Nat → Int32) : x_toBlame (xs_order u v) = x_toBlame u := rfl
theorem rq_x_toBlame_packs (u : XS) (v : Int32) : x_toBlame (xs_packs u v) = x_toBlame u := rfl
theorem rq_x_toBlame_rows (u : XS) (v : Int32) : x_toBlame (xs_rows u v) = x_toBlame u := rfl
theorem rq_x_toBlame_demands (u : XS) (v : Int32) : x_toBlame (xs_demands u v) = x_toBlame u := rfl
theorem rq_x_toBlame_neededPacks (u : XS) (v : Int32) : x_toBlame (xs_neededPacks u v) = x_toBlame u := rfl
theorem rq_x_toBlame_places (u : XS) (v : Int64) : x_toBlame (xs_places u v) = x_toBlame u := rfl
theorem rq_x_toBlame_locked (u : XS) (v : Int64) : x_toBlame (xs_locked u v) = x_toBlame u := rfl
theorem rq_x_toBlame_leftOut (u : XS) (v : Int32) : x_toBlame (xs_leftOut u v) = x_toBlame u := rfl
theorem rq_x_toBlame_alternativesFree (u : XS) (v : Int32) : x_toBlame (xs_alternativesFree u v) = x_toBlame u := rfl
theorem rq_x_toBlame_latestIsDemand (u : XS) (v : Int32) : x_toBlame (xs_latestIsDemand u v) = x_toBlame u := rfl
theorem rq_x_toBlame_picked (u : XS) (v : Int64) : x_toBlame (xs_picked u v) = x_toBlame u := rfl
theorem rq_x_toBlame_toBlame (u : XS) (v : Int32) : x_toBlame (xs_toBlame u v) = v := rfl
section ROWSM
variable {p : Program} {l : Launch} {e : Env} {R : Room} {s : State} {m : MethodId} {args : Array Value} {below : List Frame} {meth : Method} {c : Code} {H : Heap} {locs : List Loc} {cells slots : Nat} {Q : State → Prop} {cc : ByteArray} {pc : Nat} {ls : Array Slot} {rest : List Value} {dC : Nat → ClassId} {dI : Nat → Nat → Nat} {A : Nat → Prop} {H0 : Heap} {Ts : List Cond} {own : String} {hs : Nat → Nat} {ka : Nat → ClassId} {u : MS}
theorem gt_M_code (hx : p.tables.exec = Jvm.exec) (hb : c.code = cc) (hts : ∀ w ∈ Ts, w.before args s = true) (hin : ∀ w ∈ u_ws RX1 TX1 23, w ∈ Ts) (hown : s.vm.findClass own = some m.cls) (hK : va_K (dC, dI) vwCl (tM ka) s) (hP : va_P (dC, dI) vwCl (cM hs ka u) H) {index : Nat} (hlink : (Cond.fieldLink own index "ConflictSolveModel" "code" "I").before args s = true) {V : Int32} (hV : m_code u = V) (hdg : decode cc pc = .ok (.getfield index, 3)) (kk : W p l e R s m args below meth c H locs cells slots Q (F0 m (pc + 3) ls (.int V :: rest))) : W p l e R s m args below meth c H locs cells slots Q (F0 m pc ls (.ref (hs 0) :: rest)) := by
  subst hV
  exact va_get (D := (dC, dI)) (ci := 1) (v := .int (m_code u)) (C := RX1) (T := TX1) (N := 23) hx hb hts hin hown hK hP 0 rfl rfl 0 (by decide) hlink (fun _ h9 => h9) rfl hdg kk
theorem pt_M_code (hx : p.tables.exec = Jvm.exec) (hb : c.code = cc) (hts : ∀ w ∈ Ts, w.before args s = true) (hin : ∀ w ∈ u_ws RX1 TX1 23, w ∈ Ts) (hown : s.vm.findClass own = some m.cls) (hK : va_K (dC, dI) vwCl (tM ka) s) (hP : va_P (dC, dI) vwCl (cM hs ka u) H) (hD : va_D A (cM hs ka u)) (hS : va_S A H0 H locs) {index : Nat} (hlink : (Cond.fieldLink own index "ConflictSolveModel" "code" "I").before args s = true) {x : Int32} (hdg : decode cc pc = .ok (.putfield index, 3)) (kk : ∀ (H1 : Heap) (locs1 : List Loc), va_P (dC, dI) vwCl (cM hs ka (ms_code u x)) H1 → va_D A (cM hs ka (ms_code u x)) → va_S A H0 H1 locs1 → W p l e R s m args below meth c H1 locs1 cells slots Q (F0 m (pc + 3) ls rest)) : W p l e R s m args below meth c H locs cells slots Q (F0 m pc ls (.int x :: .ref (hs 0) :: rest)) := va_put (D := (dC, dI)) (ci := 1) (v := .int x) (ty := .int) (C := RX1) (T := TX1) (N := 23) hx hb hts hin tyX1 tyX1_ok nmX1 hown hK hP hD hS 0 rfl rfl 0 (by decide) hlink (fun _ h9 => h9) rfl (by decide +kernel) rfl rfl (Nat.le_of_ble_eq_true rfl) hdg (fun H1 locs1 hP hD hS => kk H1 locs1 hP hD hS)
theorem gt_M_versions (hx : p.tables.exec = Jvm.exec) (hb : c.code = cc) (hts : ∀ w ∈ Ts, w.before args s = true) (hin : ∀ w ∈ u_ws RX1 TX1 23, w ∈ Ts) (hown : s.vm.findClass own = some m.cls) (hK : va_K (dC, dI) vwCl (tM ka) s) (hP : va_P (dC, dI) vwCl (cM hs ka u) H) {index : Nat} (hlink : (Cond.fieldLink own index "ConflictSolveModel" "versions" "[I").before args s = true) (hdg : decode cc pc = .ok (.getfield index, 3)) (kk : W p l e R s m args below meth c H locs cells slots Q (F0 m (pc + 3) ls (.ref (hs 1) :: rest))) : W p l e R s m args below meth c H locs cells slots Q (F0 m pc ls (.ref (hs 0) :: rest)) := va_get (D := (dC, dI)) (ci := 1) (v := .ref (hs 1)) (C := RX1) (T := TX1) (N := 23) hx hb hts hin hown hK hP 0 rfl rfl 1 (by decide) hlink (fun _ h9 => h9) rfl hdg kk
theorem ld_M_versions (hx : p.tables.exec = Jvm.exec) (hb : c.code = cc) (hK : va_K (dC, dI) vwCl (tM ka) s) (hP : va_P (dC, dI) vwCl (cM hs ka u) H) {F : Nat → Int32} (hF : m_versions u = F) {i : Int32} (hi : vp_in i 8) (hdg : decode cc pc = .ok (.iaload, 1)) (kk : W p l e R s m args below meth c H locs cells slots Q (F0 m (pc + 1) ls (.int (F i.toNatClampNeg) :: rest))) : W p l e R s m args below meth c H locs cells slots Q (F0 m pc ls (.int i :: .ref (hs 1) :: rest)) := by
  subst hF
  exact va_iald (f := m_versions u) hx hb hK hP 1 0 rfl rfl hi hdg kk
theorem sr_M_versions (hx : p.tables.exec = Jvm.exec) (hb : c.code = cc) (hK : va_K (dC, dI) vwCl (tM ka) s) (hP : va_P (dC, dI) vwCl (cM hs ka u) H) (hD : va_D A (cM hs ka u)) (hS : va_S A H0 H locs) {F : Nat → Int32} (hF : m_versions u = F) {i : Int32} {x : Int32} (hi : vp_in i 8) (hdg : decode cc pc = .ok (.iastore, 1)) (kk : ∀ (H1 : Heap) (locs1 : List Loc), va_P (dC, dI) vwCl (cM hs ka (ms_versions u (upd F i.toNatClampNeg x))) H1 → va_D A (cM hs ka (ms_versions u (upd F i.toNatClampNeg x))) → va_S A H0 H1 locs1 → W p l e R s m args below meth c H1 locs1 cells slots Q (F0 m (pc + 1) ls rest)) : W p l e R s m args below meth c H locs cells slots Q (F0 m pc ls (.int x :: .int i :: .ref (hs 1) :: rest)) := by
  subst hF
  exact va_iast (f := m_versions u) hx hb hK hP hD hS 1 0 rfl rfl hi hdg (fun H1 locs1 hP hD hS => kk H1 locs1 hP hD hS)
theorem gt_M_locks (hx : p.tables.exec = Jvm.exec) (hb : c.code = cc) (hts : ∀ w ∈ Ts, w.before args s = true) (hin : ∀ w ∈ u_ws RX1 TX1 23, w ∈ Ts) (hown : s.vm.findClass own = some m.cls) (hK : va_K (dC, dI) vwCl (tM ka) s) (hP : va_P (dC, dI) vwCl (cM hs ka u) H) {index : Nat} (hlink : (Cond.fieldLink own index "ConflictSolveModel" "locks" "[I").before args s = true) (hdg : decode cc pc = .ok (.getfield index, 3)) (kk : W p l e R s m args below meth c H locs cells slots Q (F0 m (pc + 3) ls (.ref (hs 2) :: rest))) : W p l e R s m args below meth c H locs cells slots Q (F0 m pc ls (.ref (hs 0) :: rest)) := va_get (D := (dC, dI)) (ci := 1) (v := .ref (hs 2)) (C := RX1) (T := TX1) (N := 23) hx hb hts hin hown hK hP 0 rfl rfl 2 (by decide) hlink (fun _ h9 => h9) rfl hdg kk
theorem ld_M_locks (hx : p.tables.exec = Jvm.exec) (hb : c.code = cc) (hK : va_K (dC, dI) vwCl (tM ka) s) (hP : va_P (dC, dI) vwCl (cM hs ka u) H) {F : Nat → Int32} (hF : m_locks u = F) {i : Int32} (hi : vp_in i 8) (hdg : decode cc pc = .ok (.iaload, 1)) (kk : W p l e R s m args below meth c H locs cells slots Q (F0 m (pc + 1) ls (.int (F i.toNatClampNeg) :: rest))) : W p l e R s m args below meth c H locs cells slots Q (F0 m pc ls (.int i :: .ref (hs 2) :: rest)) := by
  subst hF
  exact va_iald (f := m_locks u) hx hb hK hP 2 1 rfl rfl hi hdg kk
theorem sr_M_locks (hx : p.tables.exec = Jvm.exec) (hb : c.code = cc) (hK : va_K (dC, dI) vwCl (tM ka) s) (hP : va_P (dC, dI) vwCl (cM hs ka u) H) (hD : va_D A (cM hs ka u)) (hS : va_S A H0 H locs) {F : Nat → Int32} (hF : m_locks u = F) {i : Int32} {x : Int32} (hi : vp_in i 8) (hdg : decode cc pc = .ok (.iastore, 1)) (kk : ∀ (H1 : Heap) (locs1 : List Loc), va_P (dC, dI) vwCl (cM hs ka (ms_locks u (upd F i.toNatClampNeg x))) H1 → va_D A (cM hs ka (ms_locks u (upd F i.toNatClampNeg x))) → va_S A H0 H1 locs1 → W p l e R s m args below meth c H1 locs1 cells slots Q (F0 m (pc + 1) ls rest)) : W p l e R s m args below meth c H locs cells slots Q (F0 m pc ls (.int x :: .int i :: .ref (hs 2) :: rest)) := by
  subst hF
  exact va_iast (f := m_locks u) hx hb hK hP hD hS 2 1 rfl rfl hi hdg (fun H1 locs1 hP hD hS => kk H1 locs1 hP hD hS)
theorem gt_M_chosen (hx : p.tables.exec = Jvm.exec) (hb : c.code = cc) (hts : ∀ w ∈ Ts, w.before args s = true) (hin : ∀ w ∈ u_ws RX1 TX1 23, w ∈ Ts) (hown : s.vm.findClass own = some m.cls) (hK : va_K (dC, dI) vwCl (tM ka) s) (hP : va_P (dC, dI) vwCl (cM hs ka u) H) {index : Nat} (hlink : (Cond.fieldLink own index "ConflictSolveModel" "chosen" "[I").before args s = true) (hdg : decode cc pc = .ok (.getfield index, 3)) (kk : W p l e R s m args below meth c H locs cells slots Q (F0 m (pc + 3) ls (.ref (hs 3) :: rest))) : W p l e R s m args below meth c H locs cells slots Q (F0 m pc ls (.ref (hs 0) :: rest)) := va_get (D := (dC, dI)) (ci := 1) (v := .ref (hs 3)) (C := RX1) (T := TX1) (N := 23) hx hb hts hin hown hK hP 0 rfl rfl 3 (by decide) hlink (fun _ h9 => h9) rfl hdg kk
theorem ld_M_chosen (hx : p.tables.exec = Jvm.exec) (hb : c.code = cc) (hK : va_K (dC, dI) vwCl (tM ka) s) (hP : va_P (dC, dI) vwCl (cM hs ka u) H) {F : Nat → Int32} (hF : m_chosen u = F) {i : Int32} (hi : vp_in i 8) (hdg : decode cc pc = .ok (.iaload, 1)) (kk : W p l e R s m args below meth c H locs cells slots Q (F0 m (pc + 1) ls (.int (F i.toNatClampNeg) :: rest))) : W p l e R s m args below meth c H locs cells slots Q (F0 m pc ls (.int i :: .ref (hs 3) :: rest)) := by
  subst hF
  exact va_iald (f := m_chosen u) hx hb hK hP 3 2 rfl rfl hi hdg kk
theorem sr_M_chosen (hx : p.tables.exec = Jvm.exec) (hb : c.code = cc) (hK : va_K (dC, dI) vwCl (tM ka) s) (hP : va_P (dC, dI) vwCl (cM hs ka u) H) (hD : va_D A (cM hs ka u)) (hS : va_S A H0 H locs) {F : Nat → Int32} (hF : m_chosen u = F) {i : Int32} {x : Int32} (hi : vp_in i 8) (hdg : decode cc pc = .ok (.iastore, 1)) (kk : ∀ (H1 : Heap) (locs1 : List Loc), va_P (dC, dI) vwCl (cM hs ka (ms_chosen u (upd F i.toNatClampNeg x))) H1 → va_D A (cM hs ka (ms_chosen u (upd F i.toNatClampNeg x))) → va_S A H0 H1 locs1 → W p l e R s m args below meth c H1 locs1 cells slots Q (F0 m (pc + 1) ls rest)) : W p l e R s m args below meth c H locs cells slots Q (F0 m pc ls (.int x :: .int i :: .ref (hs 3) :: rest)) := by
  subst hF
  exact va_iast (f := m_chosen u) hx hb hK hP hD hS 3 2 rfl rfl hi hdg (fun H1 locs1 hP hD hS => kk H1 locs1 hP hD hS)
theorem gt_M_value (hx : p.tables.exec = Jvm.exec) (hb : c.code = cc) (hts : ∀ w ∈ Ts, w.before args s = true) (hin : ∀ w ∈ u_ws RX1 TX1 23, w ∈ Ts) (hown : s.vm.findClass own = some m.cls) (hK : va_K (dC, dI) vwCl (tM ka) s) (hP : va_P (dC, dI) vwCl (cM hs ka u) H) {index : Nat} (hlink : (Cond.fieldLink own index "ConflictSolveModel" "value" "[I").before args s = true) (hdg : decode cc pc = .ok (.getfield index, 3)) (kk : W p l e R s m args below meth c H locs cells slots Q (F0 m (pc + 3) ls (.ref (hs 4) :: rest))) : W p l e R s m args below meth c H locs cells slots Q (F0 m pc ls (.ref (hs 0) :: rest)) := va_get (D := (dC, dI)) (ci := 1) (v := .ref (hs 4)) (C := RX1) (T := TX1) (N := 23) hx hb hts hin hown hK hP 0 rfl rfl 4 (by decide) hlink (fun _ h9 => h9) rfl hdg kk
theorem ld_M_value (hx : p.tables.exec = Jvm.exec) (hb : c.code = cc) (hK : va_K (dC, dI) vwCl (tM ka) s) (hP : va_P (dC, dI) vwCl (cM hs ka u) H) {F : Nat → Int32} (hF : m_value u = F) {i : Int32} (hi : vp_in i 8) (hdg : decode cc pc = .ok (.iaload, 1)) (kk : W p l e R s m args below meth c H locs cells slots Q (F0 m (pc + 1) ls (.int (F i.toNatClampNeg) :: rest))) : W p l e R s m args below meth c H locs cells slots Q (F0 m pc ls (.int i :: .ref (hs 4) :: rest)) := by
  subst hF
  exact va_iald (f := m_value u) hx hb hK hP 4 3 rfl rfl hi hdg kk
theorem sr_M_value (hx : p.tables.exec = Jvm.exec) (hb : c.code = cc) (hK : va_K (dC, dI) vwCl (tM ka) s) (hP : va_P (dC, dI) vwCl (cM hs ka u) H) (hD : va_D A (cM hs ka u)) (hS : va_S A H0 H locs) {F : Nat → Int32} (hF : m_value u = F) {i : Int32} {x : Int32} (hi : vp_in i 8) (hdg : decode cc pc = .ok (.iastore, 1)) (kk : ∀ (H1 : Heap) (locs1 : List Loc), va_P (dC, dI) vwCl (cM hs ka (ms_value u (upd F i.toNatClampNeg x))) H1 → va_D A (cM hs ka (ms_value u (upd F i.toNatClampNeg x))) → va_S A H0 H1 locs1 → W p l e R s m args below meth c H1 locs1 cells slots Q (F0 m (pc + 1) ls rest)) : W p l e R s m args below meth c H locs cells slots Q (F0 m pc ls (.int x :: .int i :: .ref (hs 4) :: rest)) := by
  subst hF
  exact va_iast (f := m_value u) hx hb hK hP hD hS 4 3 rfl rfl hi hdg (fun H1 locs1 hP hD hS => kk H1 locs1 hP hD hS)
theorem gt_M_order (hx : p.tables.exec = Jvm.exec) (hb : c.code = cc) (hts : ∀ w ∈ Ts, w.before args s = true) (hin : ∀ w ∈ u_ws RX1 TX1 23, w ∈ Ts) (hown : s.vm.findClass own = some m.cls) (hK : va_K (dC, dI) vwCl (tM ka) s) (hP : va_P (dC, dI) vwCl (cM hs ka u) H) {index : Nat} (hlink : (Cond.fieldLink own index "ConflictSolveModel" "order" "[I").before args s = true) (hdg : decode cc pc = .ok (.getfield index, 3)) (kk : W p l e R s m args below meth c H locs cells slots Q (F0 m (pc + 3) ls (.ref (hs 5) :: rest))) : W p l e R s m args below meth c H locs cells slots Q (F0 m pc ls (.ref (hs 0) :: rest)) := va_get (D := (dC, dI)) (ci := 1) (v := .ref (hs 5)) (C := RX1) (T := TX1) (N := 23) hx hb hts hin hown hK hP 0 rfl rfl 5 (by decide) hlink (fun _ h9 => h9) rfl hdg kk
theorem ld_M_order (hx : p.tables.exec = Jvm.exec) (hb : c.code = cc) (hK : va_K (dC, dI) vwCl (tM ka) s) (hP : va_P (dC, dI) vwCl (cM hs ka u) H) {F : Nat → Int32} (hF : m_order u = F) {i : Int32} (hi : vp_in i 8) (hdg : decode cc pc = .ok (.iaload, 1)) (kk : W p l e R s m args below meth c H locs cells slots Q (F0 m (pc + 1) ls (.int (F i.toNatClampNeg) :: rest))) : W p l e R s m args below meth c H locs cells slots Q (F0 m pc ls (.int i :: .ref (hs 5) :: rest)) := by
  subst hF
  exact va_iald (f := m_order u) hx hb hK hP 5 4 rfl rfl hi hdg kk
theorem sr_M_order (hx : p.tables.exec = Jvm.exec) (hb : c.code = cc) (hK : va_K (dC, dI) vwCl (tM ka) s) (hP : va_P (dC, dI) vwCl (cM hs ka u) H) (hD : va_D A (cM hs ka u)) (hS : va_S A H0 H locs) {F : Nat → Int32} (hF : m_order u = F) {i : Int32} {x : Int32} (hi : vp_in i 8) (hdg : decode cc pc = .ok (.iastore, 1)) (kk : ∀ (H1 : Heap) (locs1 : List Loc), va_P (dC, dI) vwCl (cM hs ka (ms_order u (upd F i.toNatClampNeg x))) H1 → va_D A (cM hs ka (ms_order u (upd F i.toNatClampNeg x))) → va_S A H0 H1 locs1 → W p l e R s m args below meth c H1 locs1 cells slots Q (F0 m (pc + 1) ls rest)) : W p l e R s m args below meth c H locs cells slots Q (F0 m pc ls (.int x :: .int i :: .ref (hs 5) :: rest)) := by
  subst hF
  exact va_iast (f := m_order u) hx hb hK hP hD hS 5 4 rfl rfl hi hdg (fun H1 locs1 hP hD hS => kk H1 locs1 hP hD hS)
theorem gt_M_option (hx : p.tables.exec = Jvm.exec) (hb : c.code = cc) (hts : ∀ w ∈ Ts, w.before args s = true) (hin : ∀ w ∈ u_ws RX1 TX1 23, w ∈ Ts) (hown : s.vm.findClass own = some m.cls) (hK : va_K (dC, dI) vwCl (tM ka) s) (hP : va_P (dC, dI) vwCl (cM hs ka u) H) {index : Nat} (hlink : (Cond.fieldLink own index "ConflictSolveModel" "option" "[I").before args s = true) (hdg : decode cc pc = .ok (.getfield index, 3)) (kk : W p l e R s m args below meth c H locs cells slots Q (F0 m (pc + 3) ls (.ref (hs 6) :: rest))) : W p l e R s m args below meth c H locs cells slots Q (F0 m pc ls (.ref (hs 0) :: rest)) := va_get (D := (dC, dI)) (ci := 1) (v := .ref (hs 6)) (C := RX1) (T := TX1) (N := 23) hx hb hts hin hown hK hP 0 rfl rfl 6 (by decide) hlink (fun _ h9 => h9) rfl hdg kk
theorem ld_M_option (hx : p.tables.exec = Jvm.exec) (hb : c.code = cc) (hK : va_K (dC, dI) vwCl (tM ka) s) (hP : va_P (dC, dI) vwCl (cM hs ka u) H) {F : Nat → Int32} (hF : m_option u = F) {i : Int32} (hi : vp_in i 8) (hdg : decode cc pc = .ok (.iaload, 1)) (kk : W p l e R s m args below meth c H locs cells slots Q (F0 m (pc + 1) ls (.int (F i.toNatClampNeg) :: rest))) : W p l e R s m args below meth c H locs cells slots Q (F0 m pc ls (.int i :: .ref (hs 6) :: rest)) := by
  subst hF
  exact va_iald (f := m_option u) hx hb hK hP 6 5 rfl rfl hi hdg kk
theorem sr_M_option (hx : p.tables.exec = Jvm.exec) (hb : c.code = cc) (hK : va_K (dC, dI) vwCl (tM ka) s) (hP : va_P (dC, dI) vwCl (cM hs ka u) H) (hD : va_D A (cM hs ka u)) (hS : va_S A H0 H locs) {F : Nat → Int32} (hF : m_option u = F) {i : Int32} {x : Int32} (hi : vp_in i 8) (hdg : decode cc pc = .ok (.iastore, 1)) (kk : ∀ (H1 : Heap) (locs1 : List Loc), va_P (dC, dI) vwCl (cM hs ka (ms_option u (upd F i.toNatClampNeg x))) H1 → va_D A (cM hs ka (ms_option u (upd F i.toNatClampNeg x))) → va_S A H0 H1 locs1 → W p l e R s m args below meth c H1 locs1 cells slots Q (F0 m (pc + 1) ls rest)) : W p l e R s m args below meth c H locs cells slots Q (F0 m pc ls (.int x :: .int i :: .ref (hs 6) :: rest)) := by
  subst hF
  exact va_iast (f := m_option u) hx hb hK hP hD hS 6 5 rfl rfl hi hdg (fun H1 locs1 hP hD hS => kk H1 locs1 hP hD hS)
theorem gt_M_blames0 (hx : p.tables.exec = Jvm.exec) (hb : c.code = cc) (hts : ∀ w ∈ Ts, w.before args s = true) (hin : ∀ w ∈ u_ws RX1 TX1 23, w ∈ Ts) (hown : s.vm.findClass own = some m.cls) (hK : va_K (dC, dI) vwCl (tM ka) s) (hP : va_P (dC, dI) vwCl (cM hs ka u) H) {index : Nat} (hlink : (Cond.fieldLink own index "ConflictSolveModel" "blames0" "[I").before args s = true) (hdg : decode cc pc = .ok (.getfield index, 3)) (kk : W p l e R s m args below meth c H locs cells slots Q (F0 m (pc + 3) ls (.ref (hs 7) :: rest))) : W p l e R s m args below meth c H locs cells slots Q (F0 m pc ls (.ref (hs 0) :: rest)) := va_get (D := (dC, dI)) (ci := 1) (v := .ref (hs 7)) (C := RX1) (T := TX1) (N := 23) hx hb hts hin hown hK hP 0 rfl rfl 7 (by decide) hlink (fun _ h9 => h9) rfl hdg kk
theorem ld_M_blames0 (hx : p.tables.exec = Jvm.exec) (hb : c.code = cc) (hK : va_K (dC, dI) vwCl (tM ka) s) (hP : va_P (dC, dI) vwCl (cM hs ka u) H) {F : Nat → Int32} (hF : m_blames0 u = F) {i : Int32} (hi : vp_in i 8) (hdg : decode cc pc = .ok (.iaload, 1)) (kk : W p l e R s m args below meth c H locs cells slots Q (F0 m (pc + 1) ls (.int (F i.toNatClampNeg) :: rest))) : W p l e R s m args below meth c H locs cells slots Q (F0 m pc ls (.int i :: .ref (hs 7) :: rest)) := by
  subst hF
  exact va_iald (f := m_blames0 u) hx hb hK hP 7 6 rfl rfl hi hdg kk
theorem sr_M_blames0 (hx : p.tables.exec = Jvm.exec) (hb : c.code = cc) (hK : va_K (dC, dI) vwCl (tM ka) s) (hP : va_P (dC, dI) vwCl (cM hs ka u) H) (hD : va_D A (cM hs ka u)) (hS : va_S A H0 H locs) {F : Nat → Int32} (hF : m_blames0 u = F) {i : Int32} {x : Int32} (hi : vp_in i 8) (hdg : decode cc pc = .ok (.iastore, 1)) (kk : ∀ (H1 : Heap) (locs1 : List Loc), va_P (dC, dI) vwCl (cM hs ka (ms_blames0 u (upd F i.toNatClampNeg x))) H1 → va_D A (cM hs ka (ms_blames0 u (upd F i.toNatClampNeg x))) → va_S A H0 H1 locs1 → W p l e R s m args below meth c H1 locs1 cells slots Q (F0 m (pc + 1) ls rest)) : W p l e R s m args below meth c H locs cells slots Q (F0 m pc ls (.int x :: .int i :: .ref (hs 7) :: rest)) := by
  subst hF
  exact va_iast (f := m_blames0 u) hx hb hK hP hD hS 7 6 rfl rfl hi hdg (fun H1 locs1 hP hD hS => kk H1 locs1 hP hD hS)
theorem gt_M_packages (hx : p.tables.exec = Jvm.exec) (hb : c.code = cc) (hts : ∀ w ∈ Ts, w.before args s = true) (hin : ∀ w ∈ u_ws RX1 TX1 23, w ∈ Ts) (hown : s.vm.findClass own = some m.cls) (hK : va_K (dC, dI) vwCl (tM ka) s) (hP : va_P (dC, dI) vwCl (cM hs ka u) H) {index : Nat} (hlink : (Cond.fieldLink own index "ConflictSolveModel" "packages" "I").before args s = true) {V : Int32} (hV : m_packages u = V) (hdg : decode cc pc = .ok (.getfield index, 3)) (kk : W p l e R s m args below meth c H locs cells slots Q (F0 m (pc + 3) ls (.int V :: rest))) : W p l e R s m args below meth c H locs cells slots Q (F0 m pc ls (.ref (hs 0) :: rest)) := by
  subst hV
  exact va_get (D := (dC, dI)) (ci := 1) (v := .int (m_packages u)) (C := RX1) (T := TX1) (N := 23) hx hb hts hin hown hK hP 0 rfl rfl 8 (by decide) hlink (fun _ h9 => h9) rfl hdg kk
theorem pt_M_packages (hx : p.tables.exec = Jvm.exec) (hb : c.code = cc) (hts : ∀ w ∈ Ts, w.before args s = true) (hin : ∀ w ∈ u_ws RX1 TX1 23, w ∈ Ts) (hown : s.vm.findClass own = some m.cls) (hK : va_K (dC, dI) vwCl (tM ka) s) (hP : va_P (dC, dI) vwCl (cM hs ka u) H) (hD : va_D A (cM hs ka u)) (hS : va_S A H0 H locs) {index : Nat} (hlink : (Cond.fieldLink own index "ConflictSolveModel" "packages" "I").before args s = true) {x : Int32} (hdg : decode cc pc = .ok (.putfield index, 3)) (kk : ∀ (H1 : Heap) (locs1 : List Loc), va_P (dC, dI) vwCl (cM hs ka (ms_packages u x)) H1 → va_D A (cM hs ka (ms_packages u x)) → va_S A H0 H1 locs1 → W p l e R s m args below meth c H1 locs1 cells slots Q (F0 m (pc + 3) ls rest)) : W p l e R s m args below meth c H locs cells slots Q (F0 m pc ls (.int x :: .ref (hs 0) :: rest)) := va_put (D := (dC, dI)) (ci := 1) (v := .int x) (ty := .int) (C := RX1) (T := TX1) (N := 23) hx hb hts hin tyX1 tyX1_ok nmX1 hown hK hP hD hS 0 rfl rfl 8 (by decide) hlink (fun _ h9 => h9) rfl (by decide +kernel) rfl rfl (Nat.le_of_ble_eq_true rfl) hdg (fun H1 locs1 hP hD hS => kk H1 locs1 hP hD hS)
theorem gt_M_rows (hx : p.tables.exec = Jvm.exec) (hb : c.code = cc) (hts : ∀ w ∈ Ts, w.before args s = true) (hin : ∀ w ∈ u_ws RX1 TX1 23, w ∈ Ts) (hown : s.vm.findClass own = some m.cls) (hK : va_K (dC, dI) vwCl (tM ka) s) (hP : va_P (dC, dI) vwCl (cM hs ka u) H) {index : Nat} (hlink : (Cond.fieldLink own index "ConflictSolveModel" "rows" "I").before args s = true) {V : Int32} (hV : m_rows u = V) (hdg : decode cc pc = .ok (.getfield index, 3)) (kk : W p l e R s m args below meth c H locs cells slots Q (F0 m (pc + 3) ls (.int V :: rest))) : W p l e R s m args below meth c H locs cells slots Q (F0 m pc ls (.ref (hs 0) :: rest)) := by
  subst hV
  exact va_get (D := (dC, dI)) (ci := 1) (v := .int (m_rows u)) (C := RX1) (T := TX1) (N := 23) hx hb hts hin hown hK hP 0 rfl rfl 9 (by decide) hlink (fun _ h9 => h9) rfl hdg kk
theorem pt_M_rows (hx : p.tables.exec = Jvm.exec) (hb : c.code = cc) (hts : ∀ w ∈ Ts, w.before args s = true) (hin : ∀ w ∈ u_ws RX1 TX1 23, w ∈ Ts) (hown : s.vm.findClass own = some m.cls) (hK : va_K (dC, dI) vwCl (tM ka) s) (hP : va_P (dC, dI) vwCl (cM hs ka u) H) (hD : va_D A (cM hs ka u)) (hS : va_S A H0 H locs) {index : Nat} (hlink : (Cond.fieldLink own index "ConflictSolveModel" "rows" "I").before args s = true) {x : Int32} (hdg : decode cc pc = .ok (.putfield index, 3)) (kk : ∀ (H1 : Heap) (locs1 : List Loc), va_P (dC, dI) vwCl (cM hs ka (ms_rows u x)) H1 → va_D A (cM hs ka (ms_rows u x)) → va_S A H0 H1 locs1 → W p l e R s m args below meth c H1 locs1 cells slots Q (F0 m (pc + 3) ls rest)) : W p l e R s m args below meth c H locs cells slots Q (F0 m pc ls (.int x :: .ref (hs 0) :: rest)) := va_put (D := (dC, dI)) (ci := 1) (v := .int x) (ty := .int) (C := RX1) (T := TX1) (N := 23) hx hb hts hin tyX1 tyX1_ok nmX1 hown hK hP hD hS 0 rfl rfl 9 (by decide) hlink (fun _ h9 => h9) rfl (by decide +kernel) rfl rfl (Nat.le_of_ble_eq_true rfl) hdg (fun H1 locs1 hP hD hS => kk H1 locs1 hP hD hS)
theorem gt_M_demands (hx : p.tables.exec = Jvm.exec) (hb : c.code = cc) (hts : ∀ w ∈ Ts, w.before args s = true) (hin : ∀ w ∈ u_ws RX1 TX1 23, w ∈ Ts) (hown : s.vm.findClass own = some m.cls) (hK : va_K (dC, dI) vwCl (tM ka) s) (hP : va_P (dC, dI) vwCl (cM hs ka u) H) {index : Nat} (hlink : (Cond.fieldLink own index "ConflictSolveModel" "demands" "I").before args s = true) {V : Int32} (hV : m_demands u = V) (hdg : decode cc pc = .ok (.getfield index, 3)) (kk : W p l e R s m args below meth c H locs cells slots Q (F0 m (pc + 3) ls (.int V :: rest))) : W p l e R s m args below meth c H locs cells slots Q (F0 m pc ls (.ref (hs 0) :: rest)) := by
  subst hV
  exact va_get (D := (dC, dI)) (ci := 1) (v := .int (m_demands u)) (C := RX1) (T := TX1) (N := 23) hx hb hts hin hown hK hP 0 rfl rfl 10 (by decide) hlink (fun _ h9 => h9) rfl hdg kk
theorem pt_M_demands (hx : p.tables.exec = Jvm.exec) (hb : c.code = cc) (hts : ∀ w ∈ Ts, w.before args s = true) (hin : ∀ w ∈ u_ws RX1 TX1 23, w ∈ Ts) (hown : s.vm.findClass own = some m.cls) (hK : va_K (dC, dI) vwCl (tM ka) s) (hP : va_P (dC, dI) vwCl (cM hs ka u) H) (hD : va_D A (cM hs ka u)) (hS : va_S A H0 H locs) {index : Nat} (hlink : (Cond.fieldLink own index "ConflictSolveModel" "demands" "I").before args s = true) {x : Int32} (hdg : decode cc pc = .ok (.putfield index, 3)) (kk : ∀ (H1 : Heap) (locs1 : List Loc), va_P (dC, dI) vwCl (cM hs ka (ms_demands u x)) H1 → va_D A (cM hs ka (ms_demands u x)) → va_S A H0 H1 locs1 → W p l e R s m args below meth c H1 locs1 cells slots Q (F0 m (pc + 3) ls rest)) : W p l e R s m args below meth c H locs cells slots Q (F0 m pc ls (.int x :: .ref (hs 0) :: rest)) := va_put (D := (dC, dI)) (ci := 1) (v := .int x) (ty := .int) (C := RX1) (T := TX1) (N := 23) hx hb hts hin tyX1 tyX1_ok nmX1 hown hK hP hD hS 0 rfl rfl 10 (by decide) hlink (fun _ h9 => h9) rfl (by decide +kernel) rfl rfl (Nat.le_of_ble_eq_true rfl) hdg (fun H1 locs1 hP hD hS => kk H1 locs1 hP hD hS)
theorem gt_M_needed (hx : p.tables.exec = Jvm.exec) (hb : c.code = cc) (hts : ∀ w ∈ Ts, w.before args s = true) (hin : ∀ w ∈ u_ws RX1 TX1 23, w ∈ Ts) (hown : s.vm.findClass own = some m.cls) (hK : va_K (dC, dI) vwCl (tM ka) s) (hP : va_P (dC, dI) vwCl (cM hs ka u) H) {index : Nat} (hlink : (Cond.fieldLink own index "ConflictSolveModel" "needed" "I").before args s = true) {V : Int32} (hV : m_needed u = V) (hdg : decode cc pc = .ok (.getfield index, 3)) (kk : W p l e R s m args below meth c H locs cells slots Q (F0 m (pc + 3) ls (.int V :: rest))) : W p l e R s m args below meth c H locs cells slots Q (F0 m pc ls (.ref (hs 0) :: rest)) := by
  subst hV
  exact va_get (D := (dC, dI)) (ci := 1) (v := .int (m_needed u)) (C := RX1) (T := TX1) (N := 23) hx hb hts hin hown hK hP 0 rfl rfl 11 (by decide) hlink (fun _ h9 => h9) rfl hdg kk
theorem pt_M_needed (hx : p.tables.exec = Jvm.exec) (hb : c.code = cc) (hts : ∀ w ∈ Ts, w.before args s = true) (hin : ∀ w ∈ u_ws RX1 TX1 23, w ∈ Ts) (hown : s.vm.findClass own = some m.cls) (hK : va_K (dC, dI) vwCl (tM ka) s) (hP : va_P (dC, dI) vwCl (cM hs ka u) H) (hD : va_D A (cM hs ka u)) (hS : va_S A H0 H locs) {index : Nat} (hlink : (Cond.fieldLink own index "ConflictSolveModel" "needed" "I").before args s = true) {x : Int32} (hdg : decode cc pc = .ok (.putfield index, 3)) (kk : ∀ (H1 : Heap) (locs1 : List Loc), va_P (dC, dI) vwCl (cM hs ka (ms_needed u x)) H1 → va_D A (cM hs ka (ms_needed u x)) → va_S A H0 H1 locs1 → W p l e R s m args below meth c H1 locs1 cells slots Q (F0 m (pc + 3) ls rest)) : W p l e R s m args below meth c H locs cells slots Q (F0 m pc ls (.int x :: .ref (hs 0) :: rest)) := va_put (D := (dC, dI)) (ci := 1) (v := .int x) (ty := .int) (C := RX1) (T := TX1) (N := 23) hx hb hts hin tyX1 tyX1_ok nmX1 hown hK hP hD hS 0 rfl rfl 11 (by decide) hlink (fun _ h9 => h9) rfl (by decide +kernel) rfl rfl (Nat.le_of_ble_eq_true rfl) hdg (fun H1 locs1 hP hD hS => kk H1 locs1 hP hD hS)
theorem gt_M_pack (hx : p.tables.exec = Jvm.exec) (hb : c.code = cc) (hts : ∀ w ∈ Ts, w.before args s = true) (hin : ∀ w ∈ u_ws RX1 TX1 23, w ∈ Ts) (hown : s.vm.findClass own = some m.cls) (hK : va_K (dC, dI) vwCl (tM ka) s) (hP : va_P (dC, dI) vwCl (cM hs ka u) H) {index : Nat} (hlink : (Cond.fieldLink own index "ConflictSolveModel" "pack" "[I").before args s = true) (hdg : decode cc pc = .ok (.getfield index, 3)) (kk : W p l e R s m args below meth c H locs cells slots Q (F0 m (pc + 3) ls (.ref (hs 8) :: rest))) : W p l e R s m args below meth c H locs cells slots Q (F0 m pc ls (.ref (hs 0) :: rest)) := va_get (D := (dC, dI)) (ci := 1) (v := .ref (hs 8)) (C := RX1) (T := TX1) (N := 23) hx hb hts hin hown hK hP 0 rfl rfl 12 (by decide) hlink (fun _ h9 => h9) rfl hdg kk
theorem ld_M_pack (hx : p.tables.exec = Jvm.exec) (hb : c.code = cc) (hK : va_K (dC, dI) vwCl (tM ka) s) (hP : va_P (dC, dI) vwCl (cM hs ka u) H) {F : Nat → Int32} (hF : m_pack u = F) {i : Int32} (hi : vp_in i 132) (hdg : decode cc pc = .ok (.iaload, 1)) (kk : W p l e R s m args below meth c H locs cells slots Q (F0 m (pc + 1) ls (.int (F i.toNatClampNeg) :: rest))) : W p l e R s m args below meth c H locs cells slots Q (F0 m pc ls (.int i :: .ref (hs 8) :: rest)) := by
  subst hF
  exact va_iald (f := m_pack u) hx hb hK hP 8 7 rfl rfl hi hdg kk
theorem sr_M_pack (hx : p.tables.exec = Jvm.exec) (hb : c.code = cc) (hK : va_K (dC, dI) vwCl (tM ka) s) (hP : va_P (dC, dI) vwCl (cM hs ka u) H) (hD : va_D A (cM hs ka u)) (hS : va_S A H0 H locs) {F : Nat → Int32} (hF : m_pack u = F) {i : Int32} {x : Int32} (hi : vp_in i 132) (hdg : decode cc pc = .ok (.iastore, 1)) (kk : ∀ (H1 : Heap) (locs1 : List Loc), va_P (dC, dI) vwCl (cM hs ka (ms_pack u (upd F i.toNatClampNeg x))) H1 → va_D A (cM hs ka (ms_pack u (upd F i.toNatClampNeg x))) → va_S A H0 H1 locs1 → W p l e R s m args below meth c H1 locs1 cells slots Q (F0 m (pc + 1) ls rest)) : W p l e R s m args below meth c H locs cells slots Q (F0 m pc ls (.int x :: .int i :: .ref (hs 8) :: rest)) := by
  subst hF
  exact va_iast (f := m_pack u) hx hb hK hP hD hS 8 7 rfl rfl hi hdg (fun H1 locs1 hP hD hS => kk H1 locs1 hP hD hS)
theorem gt_M_version (hx : p.tables.exec = Jvm.exec) (hb : c.code = cc) (hts : ∀ w ∈ Ts, w.before args s = true) (hin : ∀ w ∈ u_ws RX1 TX1 23, w ∈ Ts) (hown : s.vm.findClass own = some m.cls) (hK : va_K (dC, dI) vwCl (tM ka) s) (hP : va_P (dC, dI) vwCl (cM hs ka u) H) {index : Nat} (hlink : (Cond.fieldLink own index "ConflictSolveModel" "version" "[I").before args s = true) (hdg : decode cc pc = .ok (.getfield index, 3)) (kk : W p l e R s m args below meth c H locs cells slots Q (F0 m (pc + 3) ls (.ref (hs 9) :: rest))) : W p l e R s m args below meth c H locs cells slots Q (F0 m pc ls (.ref (hs 0) :: rest)) := va_get (D := (dC, dI)) (ci := 1) (v := .ref (hs 9)) (C := RX1) (T := TX1) (N := 23) hx hb hts hin hown hK hP 0 rfl rfl 13 (by decide) hlink (fun _ h9 => h9) rfl hdg kk
theorem ld_M_version (hx : p.tables.exec = Jvm.exec) (hb : c.code = cc) (hK : va_K (dC, dI) vwCl (tM ka) s) (hP : va_P (dC, dI) vwCl (cM hs ka u) H) {F : Nat → Int32} (hF : m_version u = F) {i : Int32} (hi : vp_in i 132) (hdg : decode cc pc = .ok (.iaload, 1)) (kk : W p l e R s m args below meth c H locs cells slots Q (F0 m (pc + 1) ls (.int (F i.toNatClampNeg) :: rest))) : W p l e R s m args below meth c H locs cells slots Q (F0 m pc ls (.int i :: .ref (hs 9) :: rest)) := by
  subst hF
  exact va_iald (f := m_version u) hx hb hK hP 9 8 rfl rfl hi hdg kk
theorem sr_M_version (hx : p.tables.exec = Jvm.exec) (hb : c.code = cc) (hK : va_K (dC, dI) vwCl (tM ka) s) (hP : va_P (dC, dI) vwCl (cM hs ka u) H) (hD : va_D A (cM hs ka u)) (hS : va_S A H0 H locs) {F : Nat → Int32} (hF : m_version u = F) {i : Int32} {x : Int32} (hi : vp_in i 132) (hdg : decode cc pc = .ok (.iastore, 1)) (kk : ∀ (H1 : Heap) (locs1 : List Loc), va_P (dC, dI) vwCl (cM hs ka (ms_version u (upd F i.toNatClampNeg x))) H1 → va_D A (cM hs ka (ms_version u (upd F i.toNatClampNeg x))) → va_S A H0 H1 locs1 → W p l e R s m args below meth c H1 locs1 cells slots Q (F0 m (pc + 1) ls rest)) : W p l e R s m args below meth c H locs cells slots Q (F0 m pc ls (.int x :: .int i :: .ref (hs 9) :: rest)) := by
  subst hF
  exact va_iast (f := m_version u) hx hb hK hP hD hS 9 8 rfl rfl hi hdg (fun H1 locs1 hP hD hS => kk H1 locs1 hP hD hS)
theorem gt_M_kind (hx : p.tables.exec = Jvm.exec) (hb : c.code = cc) (hts : ∀ w ∈ Ts, w.before args s = true) (hin : ∀ w ∈ u_ws RX1 TX1 23, w ∈ Ts) (hown : s.vm.findClass own = some m.cls) (hK : va_K (dC, dI) vwCl (tM ka) s) (hP : va_P (dC, dI) vwCl (cM hs ka u) H) {index : Nat} (hlink : (Cond.fieldLink own index "ConflictSolveModel" "kind" "[I").before args s = true) (hdg : decode cc pc = .ok (.getfield index, 3)) (kk : W p l e R s m args below meth c H locs cells slots Q (F0 m (pc + 3) ls (.ref (hs 10) :: rest))) : W p l e R s m args below meth c H locs cells slots Q (F0 m pc ls (.ref (hs 0) :: rest)) := va_get (D := (dC, dI)) (ci := 1) (v := .ref (hs 10)) (C := RX1) (T := TX1) (N := 23) hx hb hts hin hown hK hP 0 rfl rfl 14 (by decide) hlink (fun _ h9 => h9) rfl hdg kk
theorem ld_M_kind (hx : p.tables.exec = Jvm.exec) (hb : c.code = cc) (hK : va_K (dC, dI) vwCl (tM ka) s) (hP : va_P (dC, dI) vwCl (cM hs ka u) H) {F : Nat → Int32} (hF : m_kind u = F) {i : Int32} (hi : vp_in i 132) (hdg : decode cc pc = .ok (.iaload, 1)) (kk : W p l e R s m args below meth c H locs cells slots Q (F0 m (pc + 1) ls (.int (F i.toNatClampNeg) :: rest))) : W p l e R s m args below meth c H locs cells slots Q (F0 m pc ls (.int i :: .ref (hs 10) :: rest)) := by
  subst hF
  exact va_iald (f := m_kind u) hx hb hK hP 10 9 rfl rfl hi hdg kk
theorem sr_M_kind (hx : p.tables.exec = Jvm.exec) (hb : c.code = cc) (hK : va_K (dC, dI) vwCl (tM ka) s) (hP : va_P (dC, dI) vwCl (cM hs ka u) H) (hD : va_D A (cM hs ka u)) (hS : va_S A H0 H locs) {F : Nat → Int32} (hF : m_kind u = F) {i : Int32} {x : Int32} (hi : vp_in i 132) (hdg : decode cc pc = .ok (.iastore, 1)) (kk : ∀ (H1 : Heap) (locs1 : List Loc), va_P (dC, dI) vwCl (cM hs ka (ms_kind u (upd F i.toNatClampNeg x))) H1 → va_D A (cM hs ka (ms_kind u (upd F i.toNatClampNeg x))) → va_S A H0 H1 locs1 → W p l e R s m args below meth c H1 locs1 cells slots Q (F0 m (pc + 1) ls rest)) : W p l e R s m args below meth c H locs cells slots Q (F0 m pc ls (.int x :: .int i :: .ref (hs 10) :: rest)) := by
  subst hF
  exact va_iast (f := m_kind u) hx hb hK hP hD hS 10 9 rfl rfl hi hdg (fun H1 locs1 hP hD hS => kk H1 locs1 hP hD hS)
theorem gt_M_many (hx : p.tables.exec = Jvm.exec) (hb : c.code = cc) (hts : ∀ w ∈ Ts, w.before args s = true) (hin : ∀ w ∈ u_ws RX1 TX1 23, w ∈ Ts) (hown : s.vm.findClass own = some m.cls) (hK : va_K (dC, dI) vwCl (tM ka) s) (hP : va_P (dC, dI) vwCl (cM hs ka u) H) {index : Nat} (hlink : (Cond.fieldLink own index "ConflictSolveModel" "many" "[I").before args s = true) (hdg : decode cc pc = .ok (.getfield index, 3)) (kk : W p l e R s m args below meth c H locs cells slots Q (F0 m (pc + 3) ls (.ref (hs 11) :: rest))) : W p l e R s m args below meth c H locs cells slots Q (F0 m pc ls (.ref (hs 0) :: rest)) := va_get (D := (dC, dI)) (ci := 1) (v := .ref (hs 11)) (C := RX1) (T := TX1) (N := 23) hx hb hts hin hown hK hP 0 rfl rfl 15 (by decide) hlink (fun _ h9 => h9) rfl hdg kk
theorem ld_M_many (hx : p.tables.exec = Jvm.exec) (hb : c.code = cc) (hK : va_K (dC, dI) vwCl (tM ka) s) (hP : va_P (dC, dI) vwCl (cM hs ka u) H) {F : Nat → Int32} (hF : m_many u = F) {i : Int32} (hi : vp_in i 132) (hdg : decode cc pc = .ok (.iaload, 1)) (kk : W p l e R s m args below meth c H locs cells slots Q (F0 m (pc + 1) ls (.int (F i.toNatClampNeg) :: rest))) : W p l e R s m args below meth c H locs cells slots Q (F0 m pc ls (.int i :: .ref (hs 11) :: rest)) := by
  subst hF
  exact va_iald (f := m_many u) hx hb hK hP 11 10 rfl rfl hi hdg kk
theorem sr_M_many (hx : p.tables.exec = Jvm.exec) (hb : c.code = cc) (hK : va_K (dC, dI) vwCl (tM ka) s) (hP : va_P (dC, dI) vwCl (cM hs ka u) H) (hD : va_D A (cM hs ka u)) (hS : va_S A H0 H locs) {F : Nat → Int32} (hF : m_many u = F) {i : Int32} {x : Int32} (hi : vp_in i 132) (hdg : decode cc pc = .ok (.iastore, 1)) (kk : ∀ (H1 : Heap) (locs1 : List Loc), va_P (dC, dI) vwCl (cM hs ka (ms_many u (upd F i.toNatClampNeg x))) H1 → va_D A (cM hs ka (ms_many u (upd F i.toNatClampNeg x))) → va_S A H0 H1 locs1 → W p l e R s m args below meth c H1 locs1 cells slots Q (F0 m (pc + 1) ls rest)) : W p l e R s m args below meth c H locs cells slots Q (F0 m pc ls (.int x :: .int i :: .ref (hs 11) :: rest)) := by
  subst hF
  exact va_iast (f := m_many u) hx hb hK hP hD hS 11 10 rfl rfl hi hdg (fun H1 locs1 hP hD hS => kk H1 locs1 hP hD hS)
theorem gt_M_other (hx : p.tables.exec = Jvm.exec) (hb : c.code = cc) (hts : ∀ w ∈ Ts, w.before args s = true) (hin : ∀ w ∈ u_ws RX1 TX1 23, w ∈ Ts) (hown : s.vm.findClass own = some m.cls) (hK : va_K (dC, dI) vwCl (tM ka) s) (hP : va_P (dC, dI) vwCl (cM hs ka u) H) {index : Nat} (hlink : (Cond.fieldLink own index "ConflictSolveModel" "other" "[I").before args s = true) (hdg : decode cc pc = .ok (.getfield index, 3)) (kk : W p l e R s m args below meth c H locs cells slots Q (F0 m (pc + 3) ls (.ref (hs 12) :: rest))) : W p l e R s m args below meth c H locs cells slots Q (F0 m pc ls (.ref (hs 0) :: rest)) := va_get (D := (dC, dI)) (ci := 1) (v := .ref (hs 12)) (C := RX1) (T := TX1) (N := 23) hx hb hts hin hown hK hP 0 rfl rfl 16 (by decide) hlink (fun _ h9 => h9) rfl hdg kk
theorem ld_M_other (hx : p.tables.exec = Jvm.exec) (hb : c.code = cc) (hK : va_K (dC, dI) vwCl (tM ka) s) (hP : va_P (dC, dI) vwCl (cM hs ka u) H) {F : Nat → Int32} (hF : m_other u = F) {i : Int32} (hi : vp_in i 396) (hdg : decode cc pc = .ok (.iaload, 1)) (kk : W p l e R s m args below meth c H locs cells slots Q (F0 m (pc + 1) ls (.int (F i.toNatClampNeg) :: rest))) : W p l e R s m args below meth c H locs cells slots Q (F0 m pc ls (.int i :: .ref (hs 12) :: rest)) := by
  subst hF
  exact va_iald (f := m_other u) hx hb hK hP 12 11 rfl rfl hi hdg kk
theorem sr_M_other (hx : p.tables.exec = Jvm.exec) (hb : c.code = cc) (hK : va_K (dC, dI) vwCl (tM ka) s) (hP : va_P (dC, dI) vwCl (cM hs ka u) H) (hD : va_D A (cM hs ka u)) (hS : va_S A H0 H locs) {F : Nat → Int32} (hF : m_other u = F) {i : Int32} {x : Int32} (hi : vp_in i 396) (hdg : decode cc pc = .ok (.iastore, 1)) (kk : ∀ (H1 : Heap) (locs1 : List Loc), va_P (dC, dI) vwCl (cM hs ka (ms_other u (upd F i.toNatClampNeg x))) H1 → va_D A (cM hs ka (ms_other u (upd F i.toNatClampNeg x))) → va_S A H0 H1 locs1 → W p l e R s m args below meth c H1 locs1 cells slots Q (F0 m (pc + 1) ls rest)) : W p l e R s m args below meth c H locs cells slots Q (F0 m pc ls (.int x :: .int i :: .ref (hs 12) :: rest)) := by
  subst hF
  exact va_iast (f := m_other u) hx hb hK hP hD hS 12 11 rfl rfl hi hdg (fun H1 locs1 hP hD hS => kk H1 locs1 hP hD hS)
theorem gt_M_set (hx : p.tables.exec = Jvm.exec) (hb : c.code = cc) (hts : ∀ w ∈ Ts, w.before args s = true) (hin : ∀ w ∈ u_ws RX1 TX1 23, w ∈ Ts) (hown : s.vm.findClass own = some m.cls) (hK : va_K (dC, dI) vwCl (tM ka) s) (hP : va_P (dC, dI) vwCl (cM hs ka u) H) {index : Nat} (hlink : (Cond.fieldLink own index "ConflictSolveModel" "set" "[I").before args s = true) (hdg : decode cc pc = .ok (.getfield index, 3)) (kk : W p l e R s m args below meth c H locs cells slots Q (F0 m (pc + 3) ls (.ref (hs 13) :: rest))) : W p l e R s m args below meth c H locs cells slots Q (F0 m pc ls (.ref (hs 0) :: rest)) := va_get (D := (dC, dI)) (ci := 1) (v := .ref (hs 13)) (C := RX1) (T := TX1) (N := 23) hx hb hts hin hown hK hP 0 rfl rfl 17 (by decide) hlink (fun _ h9 => h9) rfl hdg kk
theorem ld_M_set (hx : p.tables.exec = Jvm.exec) (hb : c.code = cc) (hK : va_K (dC, dI) vwCl (tM ka) s) (hP : va_P (dC, dI) vwCl (cM hs ka u) H) {F : Nat → Int32} (hF : m_set u = F) {i : Int32} (hi : vp_in i 396) (hdg : decode cc pc = .ok (.iaload, 1)) (kk : W p l e R s m args below meth c H locs cells slots Q (F0 m (pc + 1) ls (.int (F i.toNatClampNeg) :: rest))) : W p l e R s m args below meth c H locs cells slots Q (F0 m pc ls (.int i :: .ref (hs 13) :: rest)) := by
  subst hF
  exact va_iald (f := m_set u) hx hb hK hP 13 12 rfl rfl hi hdg kk
theorem sr_M_set (hx : p.tables.exec = Jvm.exec) (hb : c.code = cc) (hK : va_K (dC, dI) vwCl (tM ka) s) (hP : va_P (dC, dI) vwCl (cM hs ka u) H) (hD : va_D A (cM hs ka u)) (hS : va_S A H0 H locs) {F : Nat → Int32} (hF : m_set u = F) {i : Int32} {x : Int32} (hi : vp_in i 396) (hdg : decode cc pc = .ok (.iastore, 1)) (kk : ∀ (H1 : Heap) (locs1 : List Loc), va_P (dC, dI) vwCl (cM hs ka (ms_set u (upd F i.toNatClampNeg x))) H1 → va_D A (cM hs ka (ms_set u (upd F i.toNatClampNeg x))) → va_S A H0 H1 locs1 → W p l e R s m args below meth c H1 locs1 cells slots Q (F0 m (pc + 1) ls rest)) : W p l e R s m args below meth c H locs cells slots Q (F0 m pc ls (.int x :: .int i :: .ref (hs 13) :: rest)) := by
  subst hF
  exact va_iast (f := m_set u) hx hb hK hP hD hS 13 12 rfl rfl hi hdg (fun H1 locs1 hP hD hS => kk H1 locs1 hP hD hS)
theorem gt_M_out (hx : p.tables.exec = Jvm.exec) (hb : c.code = cc) (hts : ∀ w ∈ Ts, w.before args s = true) (hin : ∀ w ∈ u_ws RX1 TX1 23, w ∈ Ts) (hown : s.vm.findClass own = some m.cls) (hK : va_K (dC, dI) vwCl (tM ka) s) (hP : va_P (dC, dI) vwCl (cM hs ka u) H) {index : Nat} (hlink : (Cond.fieldLink own index "ConflictSolveModel" "out" "[Z").before args s = true) (hdg : decode cc pc = .ok (.getfield index, 3)) (kk : W p l e R s m args below meth c H locs cells slots Q (F0 m (pc + 3) ls (.ref (hs 14) :: rest))) : W p l e R s m args below meth c H locs cells slots Q (F0 m pc ls (.ref (hs 0) :: rest)) := va_get (D := (dC, dI)) (ci := 1) (v := .ref (hs 14)) (C := RX1) (T := TX1) (N := 23) hx hb hts hin hown hK hP 0 rfl rfl 18 (by decide) hlink (fun _ h9 => h9) rfl hdg kk
theorem ld_M_out (hx : p.tables.exec = Jvm.exec) (hb : c.code = cc) (hK : va_K (dC, dI) vwCl (tM ka) s) (hP : va_P (dC, dI) vwCl (cM hs ka u) H) {F : Nat → Int32} (hF : m_out u = F) {i : Int32} (hi : vp_in i 12) (hdg : decode cc pc = .ok (.baload, 1)) (kk : W p l e R s m args below meth c H locs cells slots Q (F0 m (pc + 1) ls (.int (F i.toNatClampNeg) :: rest))) : W p l e R s m args below meth c H locs cells slots Q (F0 m pc ls (.int i :: .ref (hs 14) :: rest)) := by
  subst hF
  exact va_zald (f := m_out u) hx hb hK hP 14 13 rfl rfl hi hdg kk
theorem sr_M_out (hx : p.tables.exec = Jvm.exec) (hb : c.code = cc) (hK : va_K (dC, dI) vwCl (tM ka) s) (hP : va_P (dC, dI) vwCl (cM hs ka u) H) (hD : va_D A (cM hs ka u)) (hS : va_S A H0 H locs) {F : Nat → Int32} (hF : m_out u = F) {i : Int32} {x : Int32} (hi : vp_in i 12) (hdg : decode cc pc = .ok (.bastore, 1)) (kk : ∀ (H1 : Heap) (locs1 : List Loc), va_P (dC, dI) vwCl (cM hs ka (ms_out u (upd F i.toNatClampNeg (vp_nar .boolean x)))) H1 → va_D A (cM hs ka (ms_out u (upd F i.toNatClampNeg (vp_nar .boolean x)))) → va_S A H0 H1 locs1 → W p l e R s m args below meth c H1 locs1 cells slots Q (F0 m (pc + 1) ls rest)) : W p l e R s m args below meth c H locs cells slots Q (F0 m pc ls (.int x :: .int i :: .ref (hs 14) :: rest)) := by
  subst hF
  exact va_zast (f := m_out u) hx hb hK hP hD hS 14 13 rfl rfl hi hdg (fun H1 locs1 hP hD hS => kk H1 locs1 hP hD hS)
theorem gt_M_away (hx : p.tables.exec = Jvm.exec) (hb : c.code = cc) (hts : ∀ w ∈ Ts, w.before args s = true) (hin : ∀ w ∈ u_ws RX1 TX1 23, w ∈ Ts) (hown : s.vm.findClass own = some m.cls) (hK : va_K (dC, dI) vwCl (tM ka) s) (hP : va_P (dC, dI) vwCl (cM hs ka u) H) {index : Nat} (hlink : (Cond.fieldLink own index "ConflictSolveModel" "away" "[Z").before args s = true) (hdg : decode cc pc = .ok (.getfield index, 3)) (kk : W p l e R s m args below meth c H locs cells slots Q (F0 m (pc + 3) ls (.ref (hs 15) :: rest))) : W p l e R s m args below meth c H locs cells slots Q (F0 m pc ls (.ref (hs 0) :: rest)) := va_get (D := (dC, dI)) (ci := 1) (v := .ref (hs 15)) (C := RX1) (T := TX1) (N := 23) hx hb hts hin hown hK hP 0 rfl rfl 19 (by decide) hlink (fun _ h9 => h9) rfl hdg kk
theorem ld_M_away (hx : p.tables.exec = Jvm.exec) (hb : c.code = cc) (hK : va_K (dC, dI) vwCl (tM ka) s) (hP : va_P (dC, dI) vwCl (cM hs ka u) H) {F : Nat → Int32} (hF : m_away u = F) {i : Int32} (hi : vp_in i 12) (hdg : decode cc pc = .ok (.baload, 1)) (kk : W p l e R s m args below meth c H locs cells slots Q (F0 m (pc + 1) ls (.int (F i.toNatClampNeg) :: rest))) : W p l e R s m args below meth c H locs cells slots Q (F0 m pc ls (.int i :: .ref (hs 15) :: rest)) := by
  subst hF
  exact va_zald (f := m_away u) hx hb hK hP 15 14 rfl rfl hi hdg kk
theorem sr_M_away (hx : p.tables.exec = Jvm.exec) (hb : c.code = cc) (hK : va_K (dC, dI) vwCl (tM ka) s) (hP : va_P (dC, dI) vwCl (cM hs ka u) H) (hD : va_D A (cM hs ka u)) (hS : va_S A H0 H locs) {F : Nat → Int32} (hF : m_away u = F) {i : Int32} {x : Int32} (hi : vp_in i 12) (hdg : decode cc pc = .ok (.bastore, 1)) (kk : ∀ (H1 : Heap) (locs1 : List Loc), va_P (dC, dI) vwCl (cM hs ka (ms_away u (upd F i.toNatClampNeg (vp_nar .boolean x)))) H1 → va_D A (cM hs ka (ms_away u (upd F i.toNatClampNeg (vp_nar .boolean x)))) → va_S A H0 H1 locs1 → W p l e R s m args below meth c H1 locs1 cells slots Q (F0 m (pc + 1) ls rest)) : W p l e R s m args below meth c H locs cells slots Q (F0 m pc ls (.int x :: .int i :: .ref (hs 15) :: rest)) := by
  subst hF
  exact va_zast (f := m_away u) hx hb hK hP hD hS 15 14 rfl rfl hi hdg (fun H1 locs1 hP hD hS => kk H1 locs1 hP hD hS)
theorem gt_M_latest (hx : p.tables.exec = Jvm.exec) (hb : c.code = cc) (hts : ∀ w ∈ Ts, w.before args s = true) (hin : ∀ w ∈ u_ws RX1 TX1 23, w ∈ Ts) (hown : s.vm.findClass own = some m.cls) (hK : va_K (dC, dI) vwCl (tM ka) s) (hP : va_P (dC, dI) vwCl (cM hs ka u) H) {index : Nat} (hlink : (Cond.fieldLink own index "ConflictSolveModel" "latest" "I").before args s = true) {V : Int32} (hV : m_latest u = V) (hdg : decode cc pc = .ok (.getfield index, 3)) (kk : W p l e R s m args below meth c H locs cells slots Q (F0 m (pc + 3) ls (.int V :: rest))) : W p l e R s m args below meth c H locs cells slots Q (F0 m pc ls (.ref (hs 0) :: rest)) := by
  subst hV
  exact va_get (D := (dC, dI)) (ci := 1) (v := .int (m_latest u)) (C := RX1) (T := TX1) (N := 23) hx hb hts hin hown hK hP 0 rfl rfl 20 (by decide) hlink (fun _ h9 => h9) rfl hdg kk
theorem pt_M_latest (hx : p.tables.exec = Jvm.exec) (hb : c.code = cc) (hts : ∀ w ∈ Ts, w.before args s = true) (hin : ∀ w ∈ u_ws RX1 TX1 23, w ∈ Ts) (hown : s.vm.findClass own = some m.cls) (hK : va_K (dC, dI) vwCl (tM ka) s) (hP : va_P (dC, dI) vwCl (cM hs ka u) H) (hD : va_D A (cM hs ka u)) (hS : va_S A H0 H locs) {index : Nat} (hlink : (Cond.fieldLink own index "ConflictSolveModel" "latest" "I").before args s = true) {x : Int32} (hdg : decode cc pc = .ok (.putfield index, 3)) (kk : ∀ (H1 : Heap) (locs1 : List Loc), va_P (dC, dI) vwCl (cM hs ka (ms_latest u x)) H1 → va_D A (cM hs ka (ms_latest u x)) → va_S A H0 H1 locs1 → W p l e R s m args below meth c H1 locs1 cells slots Q (F0 m (pc + 3) ls rest)) : W p l e R s m args below meth c H locs cells slots Q (F0 m pc ls (.int x :: .ref (hs 0) :: rest)) := va_put (D := (dC, dI)) (ci := 1) (v := .int x) (ty := .int) (C := RX1) (T := TX1) (N := 23) hx hb hts hin tyX1 tyX1_ok nmX1 hown hK hP hD hS 0 rfl rfl 20 (by decide) hlink (fun _ h9 => h9) rfl (by decide +kernel) rfl rfl (Nat.le_of_ble_eq_true rfl) hdg (fun H1 locs1 hP hD hS => kk H1 locs1 hP hD hS)
theorem gt_M_blamed (hx : p.tables.exec = Jvm.exec) (hb : c.code = cc) (hts : ∀ w ∈ Ts, w.before args s = true) (hin : ∀ w ∈ u_ws RX1 TX1 23, w ∈ Ts) (hown : s.vm.findClass own = some m.cls) (hK : va_K (dC, dI) vwCl (tM ka) s) (hP : va_P (dC, dI) vwCl (cM hs ka u) H) {index : Nat} (hlink : (Cond.fieldLink own index "ConflictSolveModel" "blamed" "[I").before args s = true) (hdg : decode cc pc = .ok (.getfield index, 3)) (kk : W p l e R s m args below meth c H locs cells slots Q (F0 m (pc + 3) ls (.ref (hs 16) :: rest))) : W p l e R s m args below meth c H locs cells slots Q (F0 m pc ls (.ref (hs 0) :: rest)) := va_get (D := (dC, dI)) (ci := 1) (v := .ref (hs 16)) (C := RX1) (T := TX1) (N := 23) hx hb hts hin hown hK hP 0 rfl rfl 21 (by decide) hlink (fun _ h9 => h9) rfl hdg kk
theorem ld_M_blamed (hx : p.tables.exec = Jvm.exec) (hb : c.code = cc) (hK : va_K (dC, dI) vwCl (tM ka) s) (hP : va_P (dC, dI) vwCl (cM hs ka u) H) {F : Nat → Int32} (hF : m_blamed u = F) {i : Int32} (hi : vp_in i 12) (hdg : decode cc pc = .ok (.iaload, 1)) (kk : W p l e R s m args below meth c H locs cells slots Q (F0 m (pc + 1) ls (.int (F i.toNatClampNeg) :: rest))) : W p l e R s m args below meth c H locs cells slots Q (F0 m pc ls (.int i :: .ref (hs 16) :: rest)) := by
  subst hF
  exact va_iald (f := m_blamed u) hx hb hK hP 16 15 rfl rfl hi hdg kk
theorem sr_M_blamed (hx : p.tables.exec = Jvm.exec) (hb : c.code = cc) (hK : va_K (dC, dI) vwCl (tM ka) s) (hP : va_P (dC, dI) vwCl (cM hs ka u) H) (hD : va_D A (cM hs ka u)) (hS : va_S A H0 H locs) {F : Nat → Int32} (hF : m_blamed u = F) {i : Int32} {x : Int32} (hi : vp_in i 12) (hdg : decode cc pc = .ok (.iastore, 1)) (kk : ∀ (H1 : Heap) (locs1 : List Loc), va_P (dC, dI) vwCl (cM hs ka (ms_blamed u (upd F i.toNatClampNeg x))) H1 → va_D A (cM hs ka (ms_blamed u (upd F i.toNatClampNeg x))) → va_S A H0 H1 locs1 → W p l e R s m args below meth c H1 locs1 cells slots Q (F0 m (pc + 1) ls rest)) : W p l e R s m args below meth c H locs cells slots Q (F0 m pc ls (.int x :: .int i :: .ref (hs 16) :: rest)) := by
  subst hF
  exact va_iast (f := m_blamed u) hx hb hK hP hD hS 16 15 rfl rfl hi hdg (fun H1 locs1 hP hD hS => kk H1 locs1 hP hD hS)
theorem gt_M_blames (hx : p.tables.exec = Jvm.exec) (hb : c.code = cc) (hts : ∀ w ∈ Ts, w.before args s = true) (hin : ∀ w ∈ u_ws RX1 TX1 23, w ∈ Ts) (hown : s.vm.findClass own = some m.cls) (hK : va_K (dC, dI) vwCl (tM ka) s) (hP : va_P (dC, dI) vwCl (cM hs ka u) H) {index : Nat} (hlink : (Cond.fieldLink own index "ConflictSolveModel" "blames" "I").before args s = true) {V : Int32} (hV : m_blames u = V) (hdg : decode cc pc = .ok (.getfield index, 3)) (kk : W p l e R s m args below meth c H locs cells slots Q (F0 m (pc + 3) ls (.int V :: rest))) : W p l e R s m args below meth c H locs cells slots Q (F0 m pc ls (.ref (hs 0) :: rest)) := by
  subst hV
  exact va_get (D := (dC, dI)) (ci := 1) (v := .int (m_blames u)) (C := RX1) (T := TX1) (N := 23) hx hb hts hin hown hK hP 0 rfl rfl 22 (by decide) hlink (fun _ h9 => h9) rfl hdg kk
theorem pt_M_blames (hx : p.tables.exec = Jvm.exec) (hb : c.code = cc) (hts : ∀ w ∈ Ts, w.before args s = true) (hin : ∀ w ∈ u_ws RX1 TX1 23, w ∈ Ts) (hown : s.vm.findClass own = some m.cls) (hK : va_K (dC, dI) vwCl (tM ka) s) (hP : va_P (dC, dI) vwCl (cM hs ka u) H) (hD : va_D A (cM hs ka u)) (hS : va_S A H0 H locs) {index : Nat} (hlink : (Cond.fieldLink own index "ConflictSolveModel" "blames" "I").before args s = true) {x : Int32} (hdg : decode cc pc = .ok (.putfield index, 3)) (kk : ∀ (H1 : Heap) (locs1 : List Loc), va_P (dC, dI) vwCl (cM hs ka (ms_blames u x)) H1 → va_D A (cM hs ka (ms_blames u x)) → va_S A H0 H1 locs1 → W p l e R s m args below meth c H1 locs1 cells slots Q (F0 m (pc + 3) ls rest)) : W p l e R s m args below meth c H locs cells slots Q (F0 m pc ls (.int x :: .ref (hs 0) :: rest)) := va_put (D := (dC, dI)) (ci := 1) (v := .int x) (ty := .int) (C := RX1) (T := TX1) (N := 23) hx hb hts hin tyX1 tyX1_ok nmX1 hown hK hP hD hS 0 rfl rfl 22 (by decide) hlink (fun _ h9 => h9) rfl (by decide +kernel) rfl rfl (Nat.le_of_ble_eq_true rfl) hdg (fun H1 locs1 hP hD hS => kk H1 locs1 hP hD hS)
theorem fr_M (hD : va_D A (cM hs ka u)) (hS : va_S A H0 H locs) (hA : ∀ q, H0.size ≤ q → A q) : ∀ q, va_A (cM hs ka u) H.size q → A q := va_free (wc := cM hs ka u) hD hS hA [0, 1, 2, 3, 4, 5, 6, 7, 8, 9, 10, 11, 12, 13, 14, 15, 16] rfl
theorem fn_M (hD : va_D A (cM hs ka u)) (hS : va_S A H0 H locs) (hA : ∀ q, H0.size ≤ q → A q) : ∀ q, va_A ([] : va_W) H.size q → A q := va_free (wc := []) hD hS hA [] rfl
theorem jw_M {H1 : Heap} {u1 : MS} (hP : va_P (dC, dI) vwCl (cM hs ka u) H) (hD : va_D A (cM hs ka u)) (hk : ∀ q : Nat, q < H.size → ¬ va_A (cM hs ka u) H.size q → H1[q]? = H[q]?) (hF : ∀ q, va_A (cM hs ka u) H.size q → A q) (hP1 : va_P (dC, dI) vwCl (cM hs ka u1) H1) (hD1 : va_D (va_A (cM hs ka u) H.size) (cM hs ka u1)) : va_P (dC, dI) vwCl (cM hs ka u1) H1 ∧ va_D A (cM hs ka u1) := va_join (wc := cM hs ka u) (wr := []) (w1 := cM hs ka u1) hP hD [0, 1, 2, 3, 4, 5, 6, 7, 8, 9, 10, 11, 12, 13, 14, 15, 16] [] rfl rfl (by decide) (by decide) hk hF hP1 hD1
theorem js_M {H1 : Heap} (hP : va_P (dC, dI) vwCl (cM hs ka u) H) (hD : va_D A (cM hs ka u)) (hk : ∀ q : Nat, q < H.size → ¬ va_A ([] : va_W) H.size q → H1[q]? = H[q]?) (hF : ∀ q, va_A ([] : va_W) H.size q → A q) (hP1 : va_P (dC, dI) vwCl ([] : va_W) H1) (hD1 : va_D (va_A ([] : va_W) H.size) ([] : va_W)) : va_P (dC, dI) vwCl (cM hs ka u) H1 ∧ va_D A (cM hs ka u) := va_join (wc := []) (wr := cM hs ka u) (w1 := []) hP hD [] [0, 1, 2, 3, 4, 5, 6, 7, 8, 9, 10, 11, 12, 13, 14, 15, 16] rfl rfl (by decide) (by decide) hk hF hP1 hD1
theorem rc_M (hK : va_K (dC, dI) vwCl (tM ka) s) (hP : va_P (dC, dI) vwCl (cM hs ka u) H) : ∃ cell : Cell, H[hs 0]? = some cell ∧ cell.vm.isStatics = false ∧ s.vm.findClass RX1 = some cell.cls := va_recv hK hP (ci := 1) (q0 := 0) rfl rfl
end ROWSM
theorem rq_m_code_code (u : MS) (v : Int32) : m_code (ms_code u v) = v := rfl
theorem rq_m_code_versions (u : MS) (v : Nat → Int32) : m_code (ms_versions u v) = m_code u := rfl
theorem rq_m_code_locks (u : MS) (v : Nat → Int32) : m_code (ms_locks u v) = m_code u := rfl
theorem rq_m_code_chosen (u : MS) (v : Nat → Int32) : m_code (ms_chosen u v) = m_code u := rfl
theorem rq_m_code_value (u : MS) (v : Nat → Int32) : m_code (ms_value u v) = m_code u := rfl
theorem rq_m_code_order (u : MS) (v : Nat → Int32) : m_code (ms_order u v) = m_code u := rfl
theorem rq_m_code_option (u : MS) (v : Nat → Int32) : m_code (ms_option u v) = m_code u := rfl
theorem rq_m_code_blames0 (u : MS) (v : Nat → Int32) : m_code (ms_blames0 u v) = m_code u := rfl
theorem rq_m_code_packages (u : MS) (v : Int32) : m_code (ms_packages u v) = m_code u := rfl
theorem rq_m_code_rows (u : MS) (v : Int32) : m_code (ms_rows u v) = m_code u := rfl
theorem rq_m_code_demands (u : MS) (v : Int32) : m_code (ms_demands u v) = m_code u := rfl
theorem rq_m_code_needed (u : MS) (v : Int32) : m_code (ms_needed u v) = m_code u := rfl
theorem rq_m_code_pack (u : MS) (v : Nat → Int32) : m_code (ms_pack u v) = m_code u := rfl
theorem rq_m_code_version (u : MS) (v : Nat → Int32) : m_code (ms_version u v) = m_code u := rfl
theorem rq_m_code_kind (u : MS) (v : Nat → Int32) : m_code (ms_kind u v) = m_code u := rfl
theorem rq_m_code_many (u : MS) (v : Nat → Int32) : m_code (ms_many u v) = m_code u := rfl
theorem rq_m_code_other (u : MS) (v : Nat → Int32) : m_code (ms_other u v) = m_code u := rfl
theorem rq_m_code_set (u : MS) (v : Nat → Int32) : m_code (ms_set u v) = m_code u := rfl
theorem rq_m_code_out (u : MS) (v : Nat → Int32) : m_code (ms_out u v) = m_code u := rfl
theorem rq_m_code_away (u : MS) (v : Nat → Int32) : m_code (ms_away u v) = m_code u := rfl
theorem rq_m_code_latest (u : MS) (v : Int32) : m_code (ms_latest u v) = m_code u := rfl
theorem rq_m_code_blamed (u : MS) (v : Nat → Int32) : m_code (ms_blamed u v) = m_code u := rfl
theorem rq_m_code_blames (u : MS) (v : Int32) : m_code (ms_blames u v) = m_code u := rfl
theorem rq_m_versions_code (u : MS) (v : Int32) : m_versions (ms_code u v) = m_versions u := rfl
theorem rq_m_versions_versions (u : MS) (v : Nat → Int32) : m_versions (ms_versions u v) = v := rfl
theorem rq_m_versions_locks (u : MS) (v : Nat → Int32) : m_versions (ms_locks u v) = m_versions u := rfl
theorem rq_m_versions_chosen (u : MS) (v : Nat → Int32) : m_versions (ms_chosen u v) = m_versions u := rfl
theorem rq_m_versions_value (u : MS) (v : Nat → Int32) : m_versions (ms_value u v) = m_versions u := rfl
theorem rq_m_versions_order (u : MS) (v : Nat → Int32) : m_versions (ms_order u v) = m_versions u := rfl
theorem rq_m_versions_option (u : MS) (v : Nat → Int32) : m_versions (ms_option u v) = m_versions u := rfl
theorem rq_m_versions_blames0 (u : MS) (v : Nat → Int32) : m_versions (ms_blames0 u v) = m_versions u := rfl
theorem rq_m_versions_packages (u : MS) (v : Int32) : m_versions (ms_packages u v) = m_versions u := rfl
theorem rq_m_versions_rows (u : MS) (v : Int32) : m_versions (ms_rows u v) = m_versions u := rfl
theorem rq_m_versions_demands (u : MS) (v : Int32) : m_versions (ms_demands u v) = m_versions u := rfl
theorem rq_m_versions_needed (u : MS) (v : Int32) : m_versions (ms_needed u v) = m_versions u := rfl
theorem rq_m_versions_pack (u : MS) (v : Nat → Int32) : m_versions (ms_pack u v) = m_versions u := rfl
theorem rq_m_versions_version (u : MS) (v : Nat → Int32) : m_versions (ms_version u v) = m_versions u := rfl
theorem rq_m_versions_kind (u : MS) (v : Nat → Int32) : m_versions (ms_kind u v) = m_versions u := rfl
theorem rq_m_versions_many (u : MS) (v : Nat → Int32) : m_versions (ms_many u v) = m_versions u := rfl
theorem rq_m_versions_other (u : MS) (v : Nat → Int32) : m_versions (ms_other u v) = m_versions u := rfl
theorem rq_m_versions_set (u : MS) (v : Nat → Int32) : m_versions (ms_set u v) = m_versions u := rfl
theorem rq_m_versions_out (u : MS) (v : Nat → Int32) : m_versions (ms_out u v) = m_versions u := rfl
theorem rq_m_versions_away (u : MS) (v : Nat → Int32) : m_versions (ms_away u v) = m_versions u := rfl
theorem rq_m_versions_latest (u : MS) (v : Int32) : m_versions (ms_latest u v) = m_versions u := rfl
theorem rq_m_versions_blamed (u : MS) (v : Nat → Int32) : m_versions (ms_blamed u v) = m_versions u := rfl
theorem rq_m_versions_blames (u : MS) (v : Int32) : m_versions (ms_blames u v) = m_versions u := rfl
theorem rq_m_locks_code (u : MS) (v : Int32) : m_locks (ms_code u v) = m_locks u := rfl
theorem rq_m_locks_versions (u : MS) (v : Nat → Int32) : m_locks (ms_versions u v) = m_locks u := rfl
theorem rq_m_locks_locks (u : MS) (v : Nat → Int32) : m_locks (ms_locks u v) = v := rfl
theorem rq_m_locks_chosen (u : MS) (v : Nat → Int32) : m_locks (ms_chosen u v) = m_locks u := rfl
theorem rq_m_locks_value (u : MS) (v : Nat → Int32) : m_locks (ms_value u v) = m_locks u := rfl
theorem rq_m_locks_order (u : MS) (v : Nat → Int32) : m_locks (ms_order u v) = m_locks u := rfl
theorem rq_m_locks_option (u : MS) (v : Nat → Int32) : m_locks (ms_option u v) = m_locks u := rfl
theorem rq_m_locks_blames0 (u : MS) (v : Nat → Int32) : m_locks (ms_blames0 u v) = m_locks u := rfl
theorem rq_m_locks_packages (u : MS) (v : Int32) : m_locks (ms_packages u v) = m_locks u := rfl
theorem rq_m_locks_rows (u : MS) (v : Int32) : m_locks (ms_rows u v) = m_locks u := rfl
theorem rq_m_locks_demands (u : MS) (v : Int32) : m_locks (ms_demands u v) = m_locks u := rfl
theorem rq_m_locks_needed (u : MS) (v : Int32) : m_locks (ms_needed u v) = m_locks u := rfl
theorem rq_m_locks_pack (u : MS) (v : Nat → Int32) : m_locks (ms_pack u v) = m_locks u := rfl
theorem rq_m_locks_version (u : MS) (v : Nat → Int32) : m_locks (ms_version u v) = m_locks u := rfl
theorem rq_m_locks_kind (u : MS) (v : Nat → Int32) : m_locks (ms_kind u v) = m_locks u := rfl
theorem rq_m_locks_many (u : MS) (v : Nat → Int32) : m_locks (ms_many u v) = m_locks u := rfl
theorem rq_m_locks_other (u : MS) (v : Nat → Int32) : m_locks (ms_other u v) = m_locks u := rfl
theorem rq_m_locks_set (u : MS) (v : Nat → Int32) : m_locks (ms_set u v) = m_locks u := rfl
theorem rq_m_locks_out (u : MS) (v : Nat → Int32) : m_locks (ms_out u v) = m_locks u := rfl
theorem rq_m_locks_away (u : MS) (v : Nat → Int32) : m_locks (ms_away u v) = m_locks u := rfl
theorem rq_m_locks_latest (u : MS) (v : Int32) : m_locks (ms_latest u v) = m_locks u := rfl
theorem rq_m_locks_blamed (u : MS) (v : Nat → Int32) : m_locks (ms_blamed u v) = m_locks u := rfl
theorem rq_m_locks_blames (u : MS) (v : Int32) : m_locks (ms_blames u v) = m_locks u := rfl
theorem rq_m_chosen_code (u : MS) (v : Int32) : m_chosen (ms_code u v) = m_chosen u := rfl
theorem rq_m_chosen_versions (u : MS) (v : Nat → Int32) : m_chosen (ms_versions u v) = m_chosen u := rfl
theorem rq_m_chosen_locks (u : MS) (v : Nat → Int32) : m_chosen (ms_locks u v) = m_chosen u := rfl
theorem rq_m_chosen_chosen (u : MS) (v : Nat → Int32) : m_chosen (ms_chosen u v) = v := rfl
theorem rq_m_chosen_value (u : MS) (v : Nat → Int32) : m_chosen (ms_value u v) = m_chosen u := rfl
theorem rq_m_chosen_order (u : MS) (v : Nat → Int32) : m_chosen (ms_order u v) = m_chosen u := rfl
theorem rq_m_chosen_option (u : MS) (v : Nat → Int32) : m_chosen (ms_option u v) = m_chosen u := rfl
theorem rq_m_chosen_blames0 (u : MS) (v : Nat → Int32) : m_chosen (ms_blames0 u v) = m_chosen u := rfl
theorem rq_m_chosen_packages (u : MS) (v : Int32) : m_chosen (ms_packages u v) = m_chosen u := rfl
theorem rq_m_chosen_rows (u : MS) (v : Int32) : m_chosen (ms_rows u v) = m_chosen u := rfl
theorem rq_m_chosen_demands (u : MS) (v : Int32) : m_chosen (ms_demands u v) = m_chosen u := rfl
theorem rq_m_chosen_needed (u : MS) (v : Int32) : m_chosen (ms_needed u v) = m_chosen u := rfl
theorem rq_m_chosen_pack (u : MS) (v : Nat → Int32) : m_chosen (ms_pack u v) = m_chosen u := rfl
theorem rq_m_chosen_version (u : MS) (v : Nat → Int32) : m_chosen (ms_version u v) = m_chosen u := rfl
theorem rq_m_chosen_kind (u : MS) (v : Nat → Int32) : m_chosen (ms_kind u v) = m_chosen u := rfl
theorem rq_m_chosen_many (u : MS) (v : Nat → Int32) : m_chosen (ms_many u v) = m_chosen u := rfl
theorem rq_m_chosen_other (u : MS) (v : Nat → Int32) : m_chosen (ms_other u v) = m_chosen u := rfl
theorem rq_m_chosen_set (u : MS) (v : Nat → Int32) : m_chosen (ms_set u v) = m_chosen u := rfl
theorem rq_m_chosen_out (u : MS) (v : Nat → Int32) : m_chosen (ms_out u v) = m_chosen u := rfl
theorem rq_m_chosen_away (u : MS) (v : Nat → Int32) : m_chosen (ms_away u v) = m_chosen u := rfl
theorem rq_m_chosen_latest (u : MS) (v : Int32) : m_chosen (ms_latest u v) = m_chosen u := rfl
theorem rq_m_chosen_blamed (u : MS) (v : Nat → Int32) : m_chosen (ms_blamed u v) = m_chosen u := rfl
theorem rq_m_chosen_blames (u : MS) (v : Int32) : m_chosen (ms_blames u v) = m_chosen u := rfl
theorem rq_m_value_code (u : MS) (v : Int32) : m_value (ms_code u v) = m_value u := rfl
theorem rq_m_value_versions (u : MS) (v : Nat → Int32) : m_value (ms_versions u v) = m_value u := rfl
theorem rq_m_value_locks (u : MS) (v : Nat → Int32) : m_value (ms_locks u v) = m_value u := rfl
theorem rq_m_value_chosen (u : MS) (v : Nat → Int32) : m_value (ms_chosen u v) = m_value u := rfl
theorem rq_m_value_value (u : MS) (v : Nat → Int32) : m_value (ms_value u v) = v := rfl
theorem rq_m_value_order (u : MS) (v : Nat → Int32) : m_value (ms_order u v) = m_value u := rfl
theorem rq_m_value_option (u : MS) (v : Nat → Int32) : m_value (ms_option u v) = m_value u := rfl
theorem rq_m_value_blames0 (u : MS) (v : Nat → Int32) : m_value (ms_blames0 u v) = m_value u := rfl
theorem rq_m_value_packages (u : MS) (v : Int32) : m_value (ms_packages u v) = m_value u := rfl
theorem rq_m_value_rows (u : MS) (v : Int32) : m_value (ms_rows u v) = m_value u := rfl
theorem rq_m_value_demands (u : MS) (v : Int32) : m_value (ms_demands u v) = m_value u := rfl
theorem rq_m_value_needed (u : MS) (v : Int32) : m_value (ms_needed u v) = m_value u := rfl
theorem rq_m_value_pack (u : MS) (v : Nat → Int32) : m_value (ms_pack u v) = m_value u := rfl
theorem rq_m_value_version (u : MS) (v : Nat → Int32) : m_value (ms_version u v) = m_value u := rfl
theorem rq_m_value_kind (u : MS) (v : Nat → Int32) : m_value (ms_kind u v) = m_value u := rfl
theorem rq_m_value_many (u : MS) (v : Nat → Int32) : m_value (ms_many u v) = m_value u := rfl
theorem rq_m_value_other (u : MS) (v : Nat → Int32) : m_value (ms_other u v) = m_value u := rfl
theorem rq_m_value_set (u : MS) (v : Nat → Int32) : m_value (ms_set u v) = m_value u := rfl
theorem rq_m_value_out (u : MS) (v : Nat → Int32) : m_value (ms_out u v) = m_value u := rfl
theorem rq_m_value_away (u : MS) (v : Nat → Int32) : m_value (ms_away u v) = m_value u := rfl
theorem rq_m_value_latest (u : MS) (v : Int32) : m_value (ms_latest u v) = m_value u := rfl
theorem rq_m_value_blamed (u : MS) (v : Nat → Int32) : m_value (ms_blamed u v) = m_value u := rfl
theorem rq_m_value_blames (u : MS) (v : Int32) : m_value (ms_blames u v) = m_value u := rfl
theorem rq_m_order_code (u : MS) (v : Int32) : m_order (ms_code u v) = m_order u := rfl
theorem rq_m_order_versions (u : MS) (v : Nat → Int32) : m_order (ms_versions u v) = m_order u := rfl
theorem rq_m_order_locks (u : MS) (v : Nat → Int32) : m_order (ms_locks u v) = m_order u := rfl
theorem rq_m_order_chosen (u : MS) (v : Nat → Int32) : m_order (ms_chosen u v) = m_order u := rfl
theorem rq_m_order_value (u : MS) (v : Nat → Int32) : m_order (ms_value u v) = m_order u := rfl
theorem rq_m_order_order (u : MS) (v : Nat → Int32) : m_order (ms_order u v) = v := rfl
theorem rq_m_order_option (u : MS) (v : Nat → Int32) : m_order (ms_option u v) = m_order u := rfl
theorem rq_m_order_blames0 (u : MS) (v : Nat → Int32) : m_order (ms_blames0 u v) = m_order u := rfl
theorem rq_m_order_packages (u : MS) (v : Int32) : m_order (ms_packages u v) = m_order u := rfl
theorem rq_m_order_rows (u : MS) (v : Int32) : m_order (ms_rows u v) = m_order u := rfl
theorem rq_m_order_demands (u : MS) (v : Int32) : m_order (ms_demands u v) = m_order u := rfl
theorem rq_m_order_needed (u : MS) (v : Int32) : m_order (ms_needed u v) = m_order u := rfl
theorem rq_m_order_pack (u : MS) (v : Nat → Int32) : m_order (ms_pack u v) = m_order u := rfl
theorem rq_m_order_version (u : MS) (v : Nat → Int32) : m_order (ms_version u v) = m_order u := rfl
theorem rq_m_order_kind (u : MS) (v : Nat → Int32) : m_order (ms_kind u v) = m_order u := rfl
theorem rq_m_order_many (u : MS) (v : Nat → Int32) : m_order (ms_many u v) = m_order u := rfl
theorem rq_m_order_other (u : MS) (v : Nat → Int32) : m_order (ms_other u v) = m_order u := rfl
theorem rq_m_order_set (u : MS) (v : Nat → Int32) : m_order (ms_set u v) = m_order u := rfl
theorem rq_m_order_out (u : MS) (v : Nat → Int32) : m_order (ms_out u v) = m_order u := rfl
theorem rq_m_order_away (u : MS) (v : Nat → Int32) : m_order (ms_away u v) = m_order u := rfl
theorem rq_m_order_latest (u : MS) (v : Int32) : m_order (ms_latest u v) = m_order u := rfl
theorem rq_m_order_blamed (u : MS) (v : Nat → Int32) : m_order (ms_blamed u v) = m_order u := rfl
theorem rq_m_order_blames (u : MS) (v : Int32) : m_order (ms_blames u v) = m_order u := rfl
theorem rq_m_option_code (u : MS) (v : Int32) : m_option (ms_code u v) = m_option u := rfl
theorem rq_m_option_versions (u : MS) (v : Nat → Int32) : m_option (ms_versions u v) = m_option u := rfl
theorem rq_m_option_locks (u : MS) (v : Nat → Int32) : m_option (ms_locks u v) = m_option u := rfl
theorem rq_m_option_chosen (u : MS) (v : Nat → Int32) : m_option (ms_chosen u v) = m_option u := rfl
theorem rq_m_option_value (u : MS) (v : Nat → Int32) : m_option (ms_value u v) = m_option u := rfl
theorem rq_m_option_order (u : MS) (v : Nat → Int32) : m_option (ms_order u v) = m_option u := rfl
theorem rq_m_option_option (u : MS) (v : Nat → Int32) : m_option (ms_option u v) = v := rfl
theorem rq_m_option_blames0 (u : MS) (v : Nat → Int32) : m_option (ms_blames0 u v) = m_option u := rfl
theorem rq_m_option_packages (u : MS) (v : Int32) : m_option (ms_packages u v) = m_option u := rfl
theorem rq_m_option_rows (u : MS) (v : Int32) : m_option (ms_rows u v) = m_option u := rfl
theorem rq_m_option_demands (u : MS) (v : Int32) : m_option (ms_demands u v) = m_option u := rfl
theorem rq_m_option_needed (u : MS) (v : Int32) : m_option (ms_needed u v) = m_option u := rfl
theorem rq_m_option_pack (u : MS) (v : Nat → Int32) : m_option (ms_pack u v) = m_option u := rfl
theorem rq_m_option_version (u : MS) (v : Nat → Int32) : m_option (ms_version u v) = m_option u := rfl
theorem rq_m_option_kind (u : MS) (v : Nat → Int32) : m_option (ms_kind u v) = m_option u := rfl
theorem rq_m_option_many (u : MS) (v : Nat → Int32) : m_option (ms_many u v) = m_option u := rfl
theorem rq_m_option_other (u : MS) (v : Nat → Int32) : m_option (ms_other u v) = m_option u := rfl
theorem rq_m_option_set (u : MS) (v : Nat → Int32) : m_option (ms_set u v) = m_option u := rfl
theorem rq_m_option_out (u : MS) (v : Nat → Int32) : m_option (ms_out u v) = m_option u := rfl
theorem rq_m_option_away (u : MS) (v : Nat → Int32) : m_option (ms_away u v) = m_option u := rfl
theorem rq_m_option_latest (u : MS) (v : Int32) : m_option (ms_latest u v) = m_option u := rfl
theorem rq_m_option_blamed (u : MS) (v : Nat → Int32) : m_option (ms_blamed u v) = m_option u := rfl
theorem rq_m_option_blames (u : MS) (v : Int32) : m_option (ms_blames u v) = m_option u := rfl
theorem rq_m_blames0_code (u : MS) (v : Int32) : m_blames0 (ms_code u v) = m_blames0 u := rfl
theorem rq_m_blames0_versions (u : MS) (v : Nat → Int32) : m_blames0 (ms_versions u v) = m_blames0 u := rfl
theorem rq_m_blames0_locks (u : MS) (v : Nat → Int32) : m_blames0 (ms_locks u v) = m_blames0 u := rfl
theorem rq_m_blames0_chosen (u : MS) (v : Nat → Int32) : m_blames0 (ms_chosen u v) = m_blames0 u := rfl
theorem rq_m_blames0_value (u : MS) (v : Nat → Int32) : m_blames0 (ms_value u v) = m_blames0 u := rfl
theorem rq_m_blames0_order (u : MS) (v : Nat → Int32) : m_blames0 (ms_order u v) = m_blames0 u := rfl
theorem rq_m_blames0_option (u : MS) (v : Nat → Int32) : m_blames0 (ms_option u v) = m_blames0 u := rfl
theorem rq_m_blames0_blames0 (u : MS) (v : Nat → Int32) : m_blames0 (ms_blames0 u v) = v := rfl
theorem rq_m_blames0_packages (u : MS) (v : Int32) : m_blames0 (ms_packages u v) = m_blames0 u := rfl
theorem rq_m_blames0_rows (u : MS) (v : Int32) : m_blames0 (ms_rows u v) = m_blames0 u := rfl
theorem rq_m_blames0_demands (u : MS) (v : Int32) : m_blames0 (ms_demands u v) = m_blames0 u := rfl
theorem rq_m_blames0_needed (u : MS) (v : Int32) : m_blames0 (ms_needed u v) = m_blames0 u := rfl
theorem rq_m_blames0_pack (u : MS) (v : Nat → Int32) : m_blames0 (ms_pack u v) = m_blames0 u := rfl
theorem rq_m_blames0_version (u : MS) (v : Nat → Int32) : m_blames0 (ms_version u v) = m_blames0 u := rfl
theorem rq_m_blames0_kind (u : MS) (v : Nat → Int32) : m_blames0 (ms_kind u v) = m_blames0 u := rfl
theorem rq_m_blames0_many (u : MS) (v : Nat → Int32) : m_blames0 (ms_many u v) = m_blames0 u := rfl
theorem rq_m_blames0_other (u : MS) (v : Nat → Int32) : m_blames0 (ms_other u v) = m_blames0 u := rfl
theorem rq_m_blames0_set (u : MS) (v : Nat → Int32) : m_blames0 (ms_set u v) = m_blames0 u := rfl
theorem rq_m_blames0_out (u : MS) (v : Nat → Int32) : m_blames0 (ms_out u v) = m_blames0 u := rfl
theorem rq_m_blames0_away (u : MS) (v : Nat → Int32) : m_blames0 (ms_away u v) = m_blames0 u := rfl
theorem rq_m_blames0_latest (u : MS) (v : Int32) : m_blames0 (ms_latest u v) = m_blames0 u := rfl
theorem rq_m_blames0_blamed (u : MS) (v : Nat → Int32) : m_blames0 (ms_blamed u v) = m_blames0 u := rfl
theorem rq_m_blames0_blames (u : MS) (v : Int32) : m_blames0 (ms_blames u v) = m_blames0 u := rfl
theorem rq_m_packages_code (u : MS) (v : Int32) : m_packages (ms_code u v) = m_packages u := rfl
theorem rq_m_packages_versions (u : MS) (v : Nat → Int32) : m_packages (ms_versions u v) = m_packages u := rfl
theorem rq_m_packages_locks (u : MS) (v : Nat → Int32) : m_packages (ms_locks u v) = m_packages u := rfl
theorem rq_m_packages_chosen (u : MS) (v : Nat → Int32) : m_packages (ms_chosen u v) = m_packages u := rfl
theorem rq_m_packages_value (u : MS) (v : Nat → Int32) : m_packages (ms_value u v) = m_packages u := rfl
theorem rq_m_packages_order (u : MS) (v : Nat → Int32) : m_packages (ms_order u v) = m_packages u := rfl
theorem rq_m_packages_option (u : MS) (v : Nat → Int32) : m_packages (ms_option u v) = m_packages u := rfl
theorem rq_m_packages_blames0 (u : MS) (v : Nat → Int32) : m_packages (ms_blames0 u v) = m_packages u := rfl
theorem rq_m_packages_packages (u : MS) (v : Int32) : m_packages (ms_packages u v) = v := rfl
theorem rq_m_packages_rows (u : MS) (v : Int32) : m_packages (ms_rows u v) = m_packages u := rfl
theorem rq_m_packages_demands (u : MS) (v : Int32) : m_packages (ms_demands u v) = m_packages u := rfl
theorem rq_m_packages_needed (u : MS) (v : Int32) : m_packages (ms_needed u v) = m_packages u := rfl
theorem rq_m_packages_pack (u : MS) (v : Nat → Int32) : m_packages (ms_pack u v) = m_packages u := rfl
theorem rq_m_packages_version (u : MS) (v : Nat → Int32) : m_packages (ms_version u v) = m_packages u := rfl
theorem rq_m_packages_kind (u : MS) (v : Nat → Int32) : m_packages (ms_kind u v) = m_packages u := rfl
theorem rq_m_packages_many (u : MS) (v : Nat → Int32) : m_packages (ms_many u v) = m_packages u := rfl
theorem rq_m_packages_other (u : MS) (v : Nat → Int32) : m_packages (ms_other u v) = m_packages u := rfl
theorem rq_m_packages_set (u : MS) (v : Nat → Int32) : m_packages (ms_set u v) = m_packages u := rfl
theorem rq_m_packages_out (u : MS) (v : Nat → Int32) : m_packages (ms_out u v) = m_packages u := rfl
theorem rq_m_packages_away (u : MS) (v : Nat → Int32) : m_packages (ms_away u v) = m_packages u := rfl
theorem rq_m_packages_latest (u : MS) (v : Int32) : m_packages (ms_latest u v) = m_packages u := rfl
theorem rq_m_packages_blamed (u : MS) (v : Nat → Int32) : m_packages (ms_blamed u v) = m_packages u := rfl
theorem rq_m_packages_blames (u : MS) (v : Int32) : m_packages (ms_blames u v) = m_packages u := rfl
theorem rq_m_rows_code (u : MS) (v : Int32) : m_rows (ms_code u v) = m_rows u := rfl
theorem rq_m_rows_versions (u : MS) (v : Nat → Int32) : m_rows (ms_versions u v) = m_rows u := rfl
theorem rq_m_rows_locks (u : MS) (v : Nat → Int32) : m_rows (ms_locks u v) = m_rows u := rfl
theorem rq_m_rows_chosen (u : MS) (v : Nat → Int32) : m_rows (ms_chosen u v) = m_rows u := rfl
theorem rq_m_rows_value (u : MS) (v : Nat → Int32) : m_rows (ms_value u v) = m_rows u := rfl
theorem rq_m_rows_order (u : MS) (v : Nat → Int32) : m_rows (ms_order u v) = m_rows u := rfl
theorem rq_m_rows_option (u : MS) (v : Nat → Int32) : m_rows (ms_option u v) = m_rows u := rfl
theorem rq_m_rows_blames0 (u : MS) (v : Nat → Int32) : m_rows (ms_blames0 u v) = m_rows u := rfl
theorem rq_m_rows_packages (u : MS) (v : Int32) : m_rows (ms_packages u v) = m_rows u := rfl
theorem rq_m_rows_rows (u : MS) (v : Int32) : m_rows (ms_rows u v) = v := rfl
theorem rq_m_rows_demands (u : MS) (v : Int32) : m_rows (ms_demands u v) = m_rows u := rfl
theorem rq_m_rows_needed (u : MS) (v : Int32) : m_rows (ms_needed u v) = m_rows u := rfl
theorem rq_m_rows_pack (u : MS) (v : Nat → Int32) : m_rows (ms_pack u v) = m_rows u := rfl
theorem rq_m_rows_version (u : MS) (v : Nat → Int32) : m_rows (ms_version u v) = m_rows u := rfl
theorem rq_m_rows_kind (u : MS) (v : Nat → Int32) : m_rows (ms_kind u v) = m_rows u := rfl
theorem rq_m_rows_many (u : MS) (v : Nat → Int32) : m_rows (ms_many u v) = m_rows u := rfl
theorem rq_m_rows_other (u : MS) (v : Nat → Int32) : m_rows (ms_other u v) = m_rows u := rfl
theorem rq_m_rows_set (u : MS) (v : Nat → Int32) : m_rows (ms_set u v) = m_rows u := rfl
theorem rq_m_rows_out (u : MS) (v : Nat → Int32) : m_rows (ms_out u v) = m_rows u := rfl
theorem rq_m_rows_away (u : MS) (v : Nat → Int32) : m_rows (ms_away u v) = m_rows u := rfl
theorem rq_m_rows_latest (u : MS) (v : Int32) : m_rows (ms_latest u v) = m_rows u := rfl
theorem rq_m_rows_blamed (u : MS) (v : Nat → Int32) : m_rows (ms_blamed u v) = m_rows u := rfl
theorem rq_m_rows_blames (u : MS) (v : Int32) : m_rows (ms_blames u v) = m_rows u := rfl
theorem rq_m_demands_code (u : MS) (v : Int32) : m_demands (ms_code u v) = m_demands u := rfl
theorem rq_m_demands_versions (u : MS) (v : Nat → Int32) : m_demands (ms_versions u v) = m_demands u := rfl
theorem rq_m_demands_locks (u : MS) (v : Nat → Int32) : m_demands (ms_locks u v) = m_demands u := rfl
theorem rq_m_demands_chosen (u : MS) (v : Nat → Int32) : m_demands (ms_chosen u v) = m_demands u := rfl
theorem rq_m_demands_value (u : MS) (v : Nat → Int32) : m_demands (ms_value u v) = m_demands u := rfl
theorem rq_m_demands_order (u : MS) (v : Nat → Int32) : m_demands (ms_order u v) = m_demands u := rfl
theorem rq_m_demands_option (u : MS) (v : Nat → Int32) : m_demands (ms_option u v) = m_demands u := rfl
theorem rq_m_demands_blames0 (u : MS) (v : Nat → Int32) : m_demands (ms_blames0 u v) = m_demands u := rfl
theorem rq_m_demands_packages (u : MS) (v : Int32) : m_demands (ms_packages u v) = m_demands u := rfl
theorem rq_m_demands_rows (u : MS) (v : Int32) : m_demands (ms_rows u v) = m_demands u := rfl
theorem rq_m_demands_demands (u : MS) (v : Int32) : m_demands (ms_demands u v) = v := rfl
theorem rq_m_demands_needed (u : MS) (v : Int32) : m_demands (ms_needed u v) = m_demands u := rfl
theorem rq_m_demands_pack (u : MS) (v : Nat → Int32) : m_demands (ms_pack u v) = m_demands u := rfl
theorem rq_m_demands_version (u : MS) (v : Nat → Int32) : m_demands (ms_version u v) = m_demands u := rfl
theorem rq_m_demands_kind (u : MS) (v : Nat → Int32) : m_demands (ms_kind u v) = m_demands u := rfl
theorem rq_m_demands_many (u : MS) (v : Nat → Int32) : m_demands (ms_many u v) = m_demands u := rfl
theorem rq_m_demands_other (u : MS) (v : Nat → Int32) : m_demands (ms_other u v) = m_demands u := rfl
theorem rq_m_demands_set (u : MS) (v : Nat → Int32) : m_demands (ms_set u v) = m_demands u := rfl
theorem rq_m_demands_out (u : MS) (v : Nat → Int32) : m_demands (ms_out u v) = m_demands u := rfl
theorem rq_m_demands_away (u : MS) (v : Nat → Int32) : m_demands (ms_away u v) = m_demands u := rfl
theorem rq_m_demands_latest (u : MS) (v : Int32) : m_demands (ms_latest u v) = m_demands u := rfl
theorem rq_m_demands_blamed (u : MS) (v : Nat → Int32) : m_demands (ms_blamed u v) = m_demands u := rfl
theorem rq_m_demands_blames (u : MS) (v : Int32) : m_demands (ms_blames u v) = m_demands u := rfl
theorem rq_m_needed_code (u : MS) (v : Int32) : m_needed (ms_code u v) = m_needed u := rfl
theorem rq_m_needed_versions (u : MS) (v : Nat → Int32) : m_needed (ms_versions u v) = m_needed u := rfl
theorem rq_m_needed_locks (u : MS) (v : Nat → Int32) : m_needed (ms_locks u v) = m_needed u := rfl
theorem rq_m_needed_chosen (u : MS) (v : Nat → Int32) : m_needed (ms_chosen u v) = m_needed u := rfl
theorem rq_m_needed_value (u : MS) (v : Nat → Int32) : m_needed (ms_value u v) = m_needed u := rfl
theorem rq_m_needed_order (u : MS) (v : Nat → Int32) : m_needed (ms_order u v) = m_needed u := rfl
theorem rq_m_needed_option (u : MS) (v : Nat → Int32) : m_needed (ms_option u v) = m_needed u := rfl
theorem rq_m_needed_blames0 (u : MS) (v : Nat → Int32) : m_needed (ms_blames0 u v) = m_needed u := rfl
theorem rq_m_needed_packages (u : MS) (v : Int32) : m_needed (ms_packages u v) = m_needed u := rfl
theorem rq_m_needed_rows (u : MS) (v : Int32) : m_needed (ms_rows u v) = m_needed u := rfl
theorem rq_m_needed_demands (u : MS) (v : Int32) : m_needed (ms_demands u v) = m_needed u := rfl
theorem rq_m_needed_needed (u : MS) (v : Int32) : m_needed (ms_needed u v) = v := rfl
theorem rq_m_needed_pack (u : MS) (v : Nat → Int32) : m_needed (ms_pack u v) = m_needed u := rfl
theorem rq_m_needed_version (u : MS) (v : Nat → Int32) : m_needed (ms_version u v) = m_needed u := rfl
theorem rq_m_needed_kind (u : MS) (v : Nat → Int32) : m_needed (ms_kind u v) = m_needed u := rfl
theorem rq_m_needed_many (u : MS) (v : Nat → Int32) : m_needed (ms_many u v) = m_needed u := rfl
theorem rq_m_needed_other (u : MS) (v : Nat → Int32) : m_needed (ms_other u v) = m_needed u := rfl
theorem rq_m_needed_set (u : MS) (v : Nat → Int32) : m_needed (ms_set u v) = m_needed u := rfl
theorem rq_m_needed_out (u : MS) (v : Nat → Int32) : m_needed (ms_out u v) = m_needed u := rfl
theorem rq_m_needed_away (u : MS) (v : Nat → Int32) : m_needed (ms_away u v) = m_needed u := rfl
theorem rq_m_needed_latest (u : MS) (v : Int32) : m_needed (ms_latest u v) = m_needed u := rfl
theorem rq_m_needed_blamed (u : MS) (v : Nat → Int32) : m_needed (ms_blamed u v) = m_needed u := rfl
theorem rq_m_needed_blames (u : MS) (v : Int32) : m_needed (ms_blames u v) = m_needed u := rfl
theorem rq_m_pack_code (u : MS) (v : Int32) : m_pack (ms_code u v) = m_pack u := rfl
theorem rq_m_pack_versions (u : MS) (v : Nat → Int32) : m_pack (ms_versions u v) = m_pack u := rfl
theorem rq_m_pack_locks (u : MS) (v : Nat → Int32) : m_pack (ms_locks u v) = m_pack u := rfl
theorem rq_m_pack_chosen (u : MS) (v : Nat → Int32) : m_pack (ms_chosen u v) = m_pack u := rfl
theorem rq_m_pack_value (u : MS) (v : Nat → Int32) : m_pack (ms_value u v) = m_pack u := rfl
theorem rq_m_pack_order (u : MS) (v : Nat → Int32) : m_pack (ms_order u v) = m_pack u := rfl
theorem rq_m_pack_option (u : MS) (v : Nat → Int32) : m_pack (ms_option u v) = m_pack u := rfl
theorem rq_m_pack_blames0 (u : MS) (v : Nat → Int32) : m_pack (ms_blames0 u v) = m_pack u := rfl
theorem rq_m_pack_packages (u : MS) (v : Int32) : m_pack (ms_packages u v) = m_pack u := rfl
theorem rq_m_pack_rows (u : MS) (v : Int32) : m_pack (ms_rows u v) = m_pack u := rfl
theorem rq_m_pack_demands (u : MS) (v : Int32) : m_pack (ms_demands u v) = m_pack u := rfl
theorem rq_m_pack_needed (u : MS) (v : Int32) : m_pack (ms_needed u v) = m_pack u := rfl
theorem rq_m_pack_pack (u : MS) (v : Nat → Int32) : m_pack (ms_pack u v) = v := rfl
theorem rq_m_pack_version (u : MS) (v : Nat → Int32) : m_pack (ms_version u v) = m_pack u := rfl
theorem rq_m_pack_kind (u : MS) (v : Nat → Int32) : m_pack (ms_kind u v) = m_pack u := rfl
theorem rq_m_pack_many (u : MS) (v : Nat → Int32) : m_pack (ms_many u v) = m_pack u := rfl
theorem rq_m_pack_other (u : MS) (v : Nat → Int32) : m_pack (ms_other u v) = m_pack u := rfl
theorem rq_m_pack_set (u : MS) (v : Nat → Int32) : m_pack (ms_set u v) = m_pack u := rfl
theorem rq_m_pack_out (u : MS) (v : Nat → Int32) : m_pack (ms_out u v) = m_pack u := rfl
theorem rq_m_pack_away (u : MS) (v : Nat → Int32) : m_pack (ms_away u v) = m_pack u := rfl
theorem rq_m_pack_latest (u : MS) (v : Int32) : m_pack (ms_latest u v) = m_pack u := rfl
theorem rq_m_pack_blamed (u : MS) (v : Nat → Int32) : m_pack (ms_blamed u v) = m_pack u := rfl
theorem rq_m_pack_blames (u : MS) (v : Int32) : m_pack (ms_blames u v) = m_pack u := rfl
theorem rq_m_version_code (u : MS) (v : Int32) : m_version (ms_code u v) = m_version u := rfl
theorem rq_m_version_versions (u : MS) (v : Nat → Int32) : m_version (ms_versions u v) = m_version u := rfl
theorem rq_m_version_locks (u : MS) (v : Nat → Int32) : m_version (ms_locks u v) = m_version u := rfl
theorem rq_m_version_chosen (u : MS) (v : Nat → Int32) : m_version (ms_chosen u v) = m_version u := rfl
theorem rq_m_version_value (u : MS) (v : Nat → Int32) : m_version (ms_value u v) = m_version u := rfl
theorem rq_m_version_order (u : MS) (v : Nat → Int32) : m_version (ms_order u v) = m_version u := rfl
theorem rq_m_version_option (u : MS) (v : Nat → Int32) : m_version (ms_option u v) = m_version u := rfl
theorem rq_m_version_blames0 (u : MS) (v : Nat → Int32) : m_version (ms_blames0 u v) = m_version u := rfl
theorem rq_m_version_packages (u : MS) (v : Int32) : m_version (ms_packages u v) = m_version u := rfl
theorem rq_m_version_rows (u : MS) (v : Int32) : m_version (ms_rows u v) = m_version u := rfl
theorem rq_m_version_demands (u : MS) (v : Int32) : m_version (ms_demands u v) = m_version u := rfl
theorem rq_m_version_needed (u : MS) (v : Int32) : m_version (ms_needed u v) = m_version u := rfl
theorem rq_m_version_pack (u : MS) (v : Nat → Int32) : m_version (ms_pack u v) = m_version u := rfl
theorem rq_m_version_version (u : MS) (v : Nat → Int32) : m_version (ms_version u v) = v := rfl
theorem rq_m_version_kind (u : MS) (v : Nat → Int32) : m_version (ms_kind u v) = m_version u := rfl
theorem rq_m_version_many (u : MS) (v : Nat → Int32) : m_version (ms_many u v) = m_version u := rfl
theorem rq_m_version_other (u : MS) (v : Nat → Int32) : m_version (ms_other u v) = m_version u := rfl
theorem rq_m_version_set (u : MS) (v : Nat → Int32) : m_version (ms_set u v) = m_version u := rfl
theorem rq_m_version_out (u : MS) (v : Nat → Int32) : m_version (ms_out u v) = m_version u := rfl
theorem rq_m_version_away (u : MS) (v : Nat → Int32) : m_version (ms_away u v) = m_version u := rfl
theorem rq_m_version_latest (u : MS) (v : Int32) : m_version (ms_latest u v) = m_version u := rfl
theorem rq_m_version_blamed (u : MS) (v : Nat → Int32) : m_version (ms_blamed u v) = m_version u := rfl
theorem rq_m_version_blames (u : MS) (v : Int32) : m_version (ms_blames u v) = m_version u := rfl
theorem rq_m_kind_code (u : MS) (v : Int32) : m_kind (ms_code u v) = m_kind u := rfl
theorem rq_m_kind_versions (u : MS) (v : Nat → Int32) : m_kind (ms_versions u v) = m_kind u := rfl
theorem rq_m_kind_locks (u : MS) (v : Nat → Int32) : m_kind (ms_locks u v) = m_kind u := rfl
theorem rq_m_kind_chosen (u : MS) (v : Nat → Int32) : m_kind (ms_chosen u v) = m_kind u := rfl
theorem rq_m_kind_value (u : MS) (v : Nat → Int32) : m_kind (ms_value u v) = m_kind u := rfl
theorem rq_m_kind_order (u : MS) (v : Nat → Int32) : m_kind (ms_order u v) = m_kind u := rfl
theorem rq_m_kind_option (u : MS) (v : Nat → Int32) : m_kind (ms_option u v) = m_kind u := rfl
theorem rq_m_kind_blames0 (u : MS) (v : Nat → Int32) : m_kind (ms_blames0 u v) = m_kind u := rfl
theorem rq_m_kind_packages (u : MS) (v : Int32) : m_kind (ms_packages u v) = m_kind u := rfl
theorem rq_m_kind_rows (u : MS) (v : Int32) : m_kind (ms_rows u v) = m_kind u := rfl
theorem rq_m_kind_demands (u : MS) (v : Int32) : m_kind (ms_demands u v) = m_kind u := rfl
theorem rq_m_kind_needed (u : MS) (v : Int32) : m_kind (ms_needed u v) = m_kind u := rfl
theorem rq_m_kind_pack (u : MS) (v : Nat → Int32) : m_kind (ms_pack u v) = m_kind u := rfl
theorem rq_m_kind_version (u : MS) (v : Nat → Int32) : m_kind (ms_version u v) = m_kind u := rfl
theorem rq_m_kind_kind (u : MS) (v : Nat → Int32) : m_kind (ms_kind u v) = v := rfl
theorem rq_m_kind_many (u : MS) (v : Nat → Int32) : m_kind (ms_many u v) = m_kind u := rfl
theorem rq_m_kind_other (u : MS) (v : Nat → Int32) : m_kind (ms_other u v) = m_kind u := rfl
theorem rq_m_kind_set (u : MS) (v : Nat → Int32) : m_kind (ms_set u v) = m_kind u := rfl
theorem rq_m_kind_out (u : MS) (v : Nat → Int32) : m_kind (ms_out u v) = m_kind u := rfl
theorem rq_m_kind_away (u : MS) (v : Nat → Int32) : m_kind (ms_away u v) = m_kind u := rfl
theorem rq_m_kind_latest (u : MS) (v : Int32) : m_kind (ms_latest u v) = m_kind u := rfl
theorem rq_m_kind_blamed (u : MS) (v : Nat → Int32) : m_kind (ms_blamed u v) = m_kind u := rfl
theorem rq_m_kind_blames (u : MS) (v : Int32) : m_kind (ms_blames u v) = m_kind u := rfl
theorem rq_m_many_code (u : MS) (v : Int32) : m_many (ms_code u v) = m_many u := rfl
theorem rq_m_many_versions (u : MS) (v : Nat → Int32) : m_many (ms_versions u v) = m_many u := rfl
theorem rq_m_many_locks (u : MS) (v : Nat → Int32) : m_many (ms_locks u v) = m_many u := rfl
theorem rq_m_many_chosen (u : MS) (v : Nat → Int32) : m_many (ms_chosen u v) = m_many u := rfl
theorem rq_m_many_value (u : MS) (v : Nat → Int32) : m_many (ms_value u v) = m_many u := rfl
theorem rq_m_many_order (u : MS) (v : Nat → Int32) : m_many (ms_order u v) = m_many u := rfl
theorem rq_m_many_option (u : MS) (v : Nat → Int32) : m_many (ms_option u v) = m_many u := rfl
theorem rq_m_many_blames0 (u : MS) (v : Nat → Int32) : m_many (ms_blames0 u v) = m_many u := rfl
theorem rq_m_many_packages (u : MS) (v : Int32) : m_many (ms_packages u v) = m_many u := rfl
theorem rq_m_many_rows (u : MS) (v : Int32) : m_many (ms_rows u v) = m_many u := rfl
theorem rq_m_many_demands (u : MS) (v : Int32) : m_many (ms_demands u v) = m_many u := rfl
theorem rq_m_many_needed (u : MS) (v : Int32) : m_many (ms_needed u v) = m_many u := rfl
theorem rq_m_many_pack (u : MS) (v : Nat → Int32) : m_many (ms_pack u v) = m_many u := rfl
theorem rq_m_many_version (u : MS) (v : Nat → Int32) : m_many (ms_version u v) = m_many u := rfl
theorem rq_m_many_kind (u : MS) (v : Nat → Int32) : m_many (ms_kind u v) = m_many u := rfl
theorem rq_m_many_many (u : MS) (v : Nat → Int32) : m_many (ms_many u v) = v := rfl
theorem rq_m_many_other (u : MS) (v : Nat → Int32) : m_many (ms_other u v) = m_many u := rfl
theorem rq_m_many_set (u : MS) (v : Nat → Int32) : m_many (ms_set u v) = m_many u := rfl
theorem rq_m_many_out (u : MS) (v : Nat → Int32) : m_many (ms_out u v) = m_many u := rfl
theorem rq_m_many_away (u : MS) (v : Nat → Int32) : m_many (ms_away u v) = m_many u := rfl
theorem rq_m_many_latest (u : MS) (v : Int32) : m_many (ms_latest u v) = m_many u := rfl
theorem rq_m_many_blamed (u : MS) (v : Nat → Int32) : m_many (ms_blamed u v) = m_many u := rfl
theorem rq_m_many_blames (u : MS) (v : Int32) : m_many (ms_blames u v) = m_many u := rfl
theorem rq_m_other_code (u : MS) (v : Int32) : m_other (ms_code u v) = m_other u := rfl
theorem rq_m_other_versions (u : MS) (v : Nat → Int32) : m_other (ms_versions u v) = m_other u := rfl
theorem rq_m_other_locks (u : MS) (v : Nat → Int32) : m_other (ms_locks u v) = m_other u := rfl
theorem rq_m_other_chosen (u : MS) (v : Nat → Int32) : m_other (ms_chosen u v) = m_other u := rfl
theorem rq_m_other_value (u : MS) (v : Nat → Int32) : m_other (ms_value u v) = m_other u := rfl
theorem rq_m_other_order (u : MS) (v : Nat → Int32) : m_other (ms_order u v) = m_other u := rfl
theorem rq_m_other_option (u : MS) (v : Nat → Int32) : m_other (ms_option u v) = m_other u := rfl
theorem rq_m_other_blames0 (u : MS) (v : Nat → Int32) : m_other (ms_blames0 u v) = m_other u := rfl
theorem rq_m_other_packages (u : MS) (v : Int32) : m_other (ms_packages u v) = m_other u := rfl
theorem rq_m_other_rows (u : MS) (v : Int32) : m_other (ms_rows u v) = m_other u := rfl
theorem rq_m_other_demands (u : MS) (v : Int32) : m_other (ms_demands u v) = m_other u := rfl
theorem rq_m_other_needed (u : MS) (v : Int32) : m_other (ms_needed u v) = m_other u := rfl
theorem rq_m_other_pack (u : MS) (v : Nat → Int32) : m_other (ms_pack u v) = m_other u := rfl
theorem rq_m_other_version (u : MS) (v : Nat → Int32) : m_other (ms_version u v) = m_other u := rfl
theorem rq_m_other_kind (u : MS) (v : Nat → Int32) : m_other (ms_kind u v) = m_other u := rfl
theorem rq_m_other_many (u : MS) (v : Nat → Int32) : m_other (ms_many u v) = m_other u := rfl
theorem rq_m_other_other (u : MS) (v : Nat → Int32) : m_other (ms_other u v) = v := rfl
theorem rq_m_other_set (u : MS) (v : Nat → Int32) : m_other (ms_set u v) = m_other u := rfl
theorem rq_m_other_out (u : MS) (v : Nat → Int32) : m_other (ms_out u v) = m_other u := rfl
theorem rq_m_other_away (u : MS) (v : Nat → Int32) : m_other (ms_away u v) = m_other u := rfl
theorem rq_m_other_latest (u : MS) (v : Int32) : m_other (ms_latest u v) = m_other u := rfl
theorem rq_m_other_blamed (u : MS) (v : Nat → Int32) : m_other (ms_blamed u v) = m_other u := rfl
theorem rq_m_other_blames (u : MS) (v : Int32) : m_other (ms_blames u v) = m_other u := rfl
theorem rq_m_set_code (u : MS) (v : Int32) : m_set (ms_code u v) = m_set u := rfl
theorem rq_m_set_versions (u : MS) (v : Nat → Int32) : m_set (ms_versions u v) = m_set u := rfl
theorem rq_m_set_locks (u : MS) (v : Nat → Int32) : m_set (ms_locks u v) = m_set u := rfl
theorem rq_m_set_chosen (u : MS) (v : Nat → Int32) : m_set (ms_chosen u v) = m_set u := rfl
theorem rq_m_set_value (u : MS) (v : Nat → Int32) : m_set (ms_value u v) = m_set u := rfl
theorem rq_m_set_order (u : MS) (v : Nat → Int32) : m_set (ms_order u v) = m_set u := rfl
theorem rq_m_set_option (u : MS) (v : Nat → Int32) : m_set (ms_option u v) = m_set u := rfl
theorem rq_m_set_blames0 (u : MS) (v : Nat → Int32) : m_set (ms_blames0 u v) = m_set u := rfl
theorem rq_m_set_packages (u : MS) (v : Int32) : m_set (ms_packages u v) = m_set u := rfl
theorem rq_m_set_rows (u : MS) (v : Int32) : m_set (ms_rows u v) = m_set u := rfl
theorem rq_m_set_demands (u : MS) (v : Int32) : m_set (ms_demands u v) = m_set u := rfl
theorem rq_m_set_needed (u : MS) (v : Int32) : m_set (ms_needed u v) = m_set u := rfl
theorem rq_m_set_pack (u : MS) (v : Nat → Int32) : m_set (ms_pack u v) = m_set u := rfl
theorem rq_m_set_version (u : MS) (v : Nat → Int32) : m_set (ms_version u v) = m_set u := rfl
theorem rq_m_set_kind (u : MS) (v : Nat → Int32) : m_set (ms_kind u v) = m_set u := rfl
theorem rq_m_set_many (u : MS) (v : Nat → Int32) : m_set (ms_many u v) = m_set u := rfl
theorem rq_m_set_other (u : MS) (v : Nat → Int32) : m_set (ms_other u v) = m_set u := rfl
theorem rq_m_set_set (u : MS) (v : Nat → Int32) : m_set (ms_set u v) = v := rfl
theorem rq_m_set_out (u : MS) (v : Nat → Int32) : m_set (ms_out u v) = m_set u := rfl
theorem rq_m_set_away (u : MS) (v : Nat → Int32) : m_set (ms_away u v) = m_set u := rfl
theorem rq_m_set_latest (u : MS) (v : Int32) : m_set (ms_latest u v) = m_set u := rfl
theorem rq_m_set_blamed (u : MS) (v : Nat → Int32) : m_set (ms_blamed u v) = m_set u := rfl
theorem rq_m_set_blames (u : MS) (v : Int32) : m_set (ms_blames u v) = m_set u := rfl
theorem rq_m_out_code (u : MS) (v : Int32) : m_out (ms_code u v) = m_out u := rfl
theorem rq_m_out_versions (u : MS) (v : Nat → Int32) : m_out (ms_versions u v) = m_out u := rfl
theorem rq_m_out_locks (u : MS) (v : Nat → Int32) : m_out (ms_locks u v) = m_out u := rfl
theorem rq_m_out_chosen (u : MS) (v : Nat → Int32) : m_out (ms_chosen u v) = m_out u := rfl
theorem rq_m_out_value (u : MS) (v : Nat → Int32) : m_out (ms_value u v) = m_out u := rfl
theorem rq_m_out_order (u : MS) (v : Nat → Int32) : m_out (ms_order u v) = m_out u := rfl
theorem rq_m_out_option (u : MS) (v : Nat → Int32) : m_out (ms_option u v) = m_out u := rfl
theorem rq_m_out_blames0 (u : MS) (v : Nat → Int32) : m_out (ms_blames0 u v) = m_out u := rfl
theorem rq_m_out_packages (u : MS) (v : Int32) : m_out (ms_packages u v) = m_out u := rfl
theorem rq_m_out_rows (u : MS) (v : Int32) : m_out (ms_rows u v) = m_out u := rfl
theorem rq_m_out_demands (u : MS) (v : Int32) : m_out (ms_demands u v) = m_out u := rfl
theorem rq_m_out_needed (u : MS) (v : Int32) : m_out (ms_needed u v) = m_out u := rfl
theorem rq_m_out_pack (u : MS) (v : Nat → Int32) : m_out (ms_pack u v) = m_out u := rfl
theorem rq_m_out_version (u : MS) (v : Nat → Int32) : m_out (ms_version u v) = m_out u := rfl
theorem rq_m_out_kind (u : MS) (v : Nat → Int32) : m_out (ms_kind u v) = m_out u := rfl
theorem rq_m_out_many (u : MS) (v : Nat → Int32) : m_out (ms_many u v) = m_out u := rfl
theorem rq_m_out_other (u : MS) (v : Nat → Int32) : m_out (ms_other u v) = m_out u := rfl
theorem rq_m_out_set (u : MS) (v : Nat → Int32) : m_out (ms_set u v) = m_out u := rfl
theorem rq_m_out_out (u : MS) (v : Nat → Int32) : m_out (ms_out u v) = v := rfl
theorem rq_m_out_away (u : MS) (v : Nat → Int32) : m_out (ms_away u v) = m_out u := rfl
theorem rq_m_out_latest (u : MS) (v : Int32) : m_out (ms_latest u v) = m_out u := rfl
theorem rq_m_out_blamed (u : MS) (v : Nat → Int32) : m_out (ms_blamed u v) = m_out u := rfl
theorem rq_m_out_blames (u : MS) (v : Int32) : m_out (ms_blames u v) = m_out u := rfl
theorem rq_m_away_code (u : MS) (v : Int32) : m_away (ms_code u v) = m_away u := rfl
theorem rq_m_away_versions (u : MS) (v : Nat → Int32) : m_away (ms_versions u v) = m_away u := rfl
theorem rq_m_away_locks (u : MS) (v : Nat → Int32) : m_away (ms_locks u v) = m_away u := rfl
theorem rq_m_away_chosen (u : MS) (v : Nat → Int32) : m_away (ms_chosen u v) = m_away u := rfl
theorem rq_m_away_value (u : MS) (v : Nat → Int32) : m_away (ms_value u v) = m_away u := rfl
theorem rq_m_away_order (u : MS) (v : Nat → Int32) : m_away (ms_order u v) = m_away u := rfl
theorem rq_m_away_option (u : MS) (v : Nat → Int32) : m_away (ms_option u v) = m_away u := rfl
theorem rq_m_away_blames0 (u : MS) (v : Nat → Int32) : m_away (ms_blames0 u v) = m_away u := rfl
theorem rq_m_away_packages (u : MS) (v : Int32) : m_away (ms_packages u v) = m_away u := rfl
theorem rq_m_away_rows (u : MS) (v : Int32) : m_away (ms_rows u v) = m_away u := rfl
theorem rq_m_away_demands (u : MS) (v : Int32) : m_away (ms_demands u v) = m_away u := rfl
theorem rq_m_away_needed (u : MS) (v : Int32) : m_away (ms_needed u v) = m_away u := rfl
theorem rq_m_away_pack (u : MS) (v : Nat → Int32) : m_away (ms_pack u v) = m_away u := rfl
theorem rq_m_away_version (u : MS) (v : Nat → Int32) : m_away (ms_version u v) = m_away u := rfl
theorem rq_m_away_kind (u : MS) (v : Nat → Int32) : m_away (ms_kind u v) = m_away u := rfl
theorem rq_m_away_many (u : MS) (v : Nat → Int32) : m_away (ms_many u v) = m_away u := rfl
theorem rq_m_away_other (u : MS) (v : Nat → Int32) : m_away (ms_other u v) = m_away u := rfl
theorem rq_m_away_set (u : MS) (v : Nat → Int32) : m_away (ms_set u v) = m_away u := rfl
theorem rq_m_away_out (u : MS) (v : Nat → Int32) : m_away (ms_out u v) = m_away u := rfl
theorem rq_m_away_away (u : MS) (v : Nat → Int32) : m_away (ms_away u v) = v := rfl
theorem rq_m_away_latest (u : MS) (v : Int32) : m_away (ms_latest u v) = m_away u := rfl
theorem rq_m_away_blamed (u : MS) (v : Nat → Int32) : m_away (ms_blamed u v) = m_away u := rfl
theorem rq_m_away_blames (u : MS) (v : Int32) : m_away (ms_blames u v) = m_away u := rfl
theorem rq_m_latest_code (u : MS) (v : Int32) : m_latest (ms_code u v) = m_latest u := rfl
theorem rq_m_latest_versions (u : MS) (v : Nat → Int32) : m_latest (ms_versions u v) = m_latest u := rfl
theorem rq_m_latest_locks (u : MS) (v : Nat → Int32) : m_latest (ms_locks u v) = m_latest u := rfl
theorem rq_m_latest_chosen (u : MS) (v : Nat → Int32) : m_latest (ms_chosen u v) = m_latest u := rfl
theorem rq_m_latest_value (u : MS) (v : Nat → Int32) : m_latest (ms_value u v) = m_latest u := rfl
theorem rq_m_latest_order (u : MS) (v : Nat → Int32) : m_latest (ms_order u v) = m_latest u := rfl
theorem rq_m_latest_option (u : MS) (v : Nat → Int32) : m_latest (ms_option u v) = m_latest u := rfl
theorem rq_m_latest_blames0 (u : MS) (v : Nat → Int32) : m_latest (ms_blames0 u v) = m_latest u := rfl
theorem rq_m_latest_packages (u : MS) (v : Int32) : m_latest (ms_packages u v) = m_latest u := rfl
theorem rq_m_latest_rows (u : MS) (v : Int32) : m_latest (ms_rows u v) = m_latest u := rfl
theorem rq_m_latest_demands (u : MS) (v : Int32) : m_latest (ms_demands u v) = m_latest u := rfl
theorem rq_m_latest_needed (u : MS) (v : Int32) : m_latest (ms_needed u v) = m_latest u := rfl
theorem rq_m_latest_pack (u : MS) (v : Nat → Int32) : m_latest (ms_pack u v) = m_latest u := rfl
theorem rq_m_latest_version (u : MS) (v : Nat → Int32) : m_latest (ms_version u v) = m_latest u := rfl
theorem rq_m_latest_kind (u : MS) (v : Nat → Int32) : m_latest (ms_kind u v) = m_latest u := rfl
theorem rq_m_latest_many (u : MS) (v : Nat → Int32) : m_latest (ms_many u v) = m_latest u := rfl
theorem rq_m_latest_other (u : MS) (v : Nat → Int32) : m_latest (ms_other u v) = m_latest u := rfl
theorem rq_m_latest_set (u : MS) (v : Nat → Int32) : m_latest (ms_set u v) = m_latest u := rfl
theorem rq_m_latest_out (u : MS) (v : Nat → Int32) : m_latest (ms_out u v) = m_latest u := rfl
theorem rq_m_latest_away (u : MS) (v : Nat → Int32) : m_latest (ms_away u v) = m_latest u := rfl
theorem rq_m_latest_latest (u : MS) (v : Int32) : m_latest (ms_latest u v) = v := rfl
theorem rq_m_latest_blamed (u : MS) (v : Nat → Int32) : m_latest (ms_blamed u v) = m_latest u := rfl
theorem rq_m_latest_blames (u : MS) (v : Int32) : m_latest (ms_blames u v) = m_latest u := rfl
theorem rq_m_blamed_code (u : MS) (v : Int32) : m_blamed (ms_code u v) = m_blamed u := rfl
theorem rq_m_blamed_versions (u : MS) (v : Nat → Int32) : m_blamed (ms_versions u v) = m_blamed u := rfl
theorem rq_m_blamed_locks (u : MS) (v : Nat → Int32) : m_blamed (ms_locks u v) = m_blamed u := rfl
theorem rq_m_blamed_chosen (u : MS) (v : Nat → Int32) : m_blamed (ms_chosen u v) = m_blamed u := rfl
theorem rq_m_blamed_value (u : MS) (v : Nat → Int32) : m_blamed (ms_value u v) = m_blamed u := rfl
theorem rq_m_blamed_order (u : MS) (v : Nat → Int32) : m_blamed (ms_order u v) = m_blamed u := rfl
theorem rq_m_blamed_option (u : MS) (v : Nat → Int32) : m_blamed (ms_option u v) = m_blamed u := rfl
theorem rq_m_blamed_blames0 (u : MS) (v : Nat → Int32) : m_blamed (ms_blames0 u v) = m_blamed u := rfl
theorem rq_m_blamed_packages (u : MS) (v : Int32) : m_blamed (ms_packages u v) = m_blamed u := rfl
theorem rq_m_blamed_rows (u : MS) (v : Int32) : m_blamed (ms_rows u v) = m_blamed u := rfl
theorem rq_m_blamed_demands (u : MS) (v : Int32) : m_blamed (ms_demands u v) = m_blamed u := rfl
theorem rq_m_blamed_needed (u : MS) (v : Int32) : m_blamed (ms_needed u v) = m_blamed u := rfl
theorem rq_m_blamed_pack (u : MS) (v : Nat → Int32) : m_blamed (ms_pack u v) = m_blamed u := rfl
theorem rq_m_blamed_version (u : MS) (v : Nat → Int32) : m_blamed (ms_version u v) = m_blamed u := rfl
theorem rq_m_blamed_kind (u : MS) (v : Nat → Int32) : m_blamed (ms_kind u v) = m_blamed u := rfl
theorem rq_m_blamed_many (u : MS) (v : Nat → Int32) : m_blamed (ms_many u v) = m_blamed u := rfl
theorem rq_m_blamed_other (u : MS) (v : Nat → Int32) : m_blamed (ms_other u v) = m_blamed u := rfl
theorem rq_m_blamed_set (u : MS) (v : Nat → Int32) : m_blamed (ms_set u v) = m_blamed u := rfl
theorem rq_m_blamed_out (u : MS) (v : Nat → Int32) : m_blamed (ms_out u v) = m_blamed u := rfl
theorem rq_m_blamed_away (u : MS) (v : Nat → Int32) : m_blamed (ms_away u v) = m_blamed u := rfl
theorem rq_m_blamed_latest (u : MS) (v : Int32) : m_blamed (ms_latest u v) = m_blamed u := rfl
theorem rq_m_blamed_blamed (u : MS) (v : Nat → Int32) : m_blamed (ms_blamed u v) = v := rfl
theorem rq_m_blamed_blames (u : MS) (v : Int32) : m_blamed (ms_blames u v) = m_blamed u := rfl
theorem rq_m_blames_code (u : MS) (v : Int32) : m_blames (ms_code u v) = m_blames u := rfl
theorem rq_m_blames_versions (u : MS) (v : Nat → Int32) : m_blames (ms_versions u v) = m_blames u := rfl
theorem rq_m_blames_locks (u : MS) (v : Nat → Int32) : m_blames (ms_locks u v) = m_blames u := rfl
theorem rq_m_blames_chosen (u : MS) (v : Nat → Int32) : m_blames (ms_chosen u v) = m_blames u := rfl
theorem rq_m_blames_value (u : MS) (v : Nat → Int32) : m_blames (ms_value u v) = m_blames u := rfl
theorem rq_m_blames_order (u : MS) (v : Nat → Int32) : m_blames (ms_order u v) = m_blames u := rfl
theorem rq_m_blames_option (u : MS) (v : Nat → Int32) : m_blames (ms_option u v) = m_blames u := rfl
theorem rq_m_blames_blames0 (u : MS) (v : Nat → Int32) : m_blames (ms_blames0 u v) = m_blames u := rfl
theorem rq_m_blames_packages (u : MS) (v : Int32) : m_blames (ms_packages u v) = m_blames u := rfl
theorem rq_m_blames_rows (u : MS) (v : Int32) : m_blames (ms_rows u v) = m_blames u := rfl
theorem rq_m_blames_demands (u : MS) (v : Int32) : m_blames (ms_demands u v) = m_blames u := rfl
theorem rq_m_blames_needed (u : MS) (v : Int32) : m_blames (ms_needed u v) = m_blames u := rfl
theorem rq_m_blames_pack (u : MS) (v : Nat → Int32) : m_blames (ms_pack u v) = m_blames u := rfl
theorem rq_m_blames_version (u : MS) (v : Nat → Int32) : m_blames (ms_version u v) = m_blames u := rfl
theorem rq_m_blames_kind (u : MS) (v : Nat → Int32) : m_blames (ms_kind u v) = m_blames u := rfl
theorem rq_m_blames_many (u : MS) (v : Nat → Int32) : m_blames (ms_many u v) = m_blames u := rfl
theorem rq_m_blames_other (u : MS) (v : Nat → Int32) : m_blames (ms_other u v) = m_blames u := rfl
theorem rq_m_blames_set (u : MS) (v : Nat → Int32) : m_blames (ms_set u v) = m_blames u := rfl
theorem rq_m_blames_out (u : MS) (v : Nat → Int32) : m_blames (ms_out u v) = m_blames u := rfl
theorem rq_m_blames_away (u : MS) (v : Nat → Int32) : m_blames (ms_away u v) = m_blames u := rfl
theorem rq_m_blames_latest (u : MS) (v : Int32) : m_blames (ms_latest u v) = m_blames u := rfl
theorem rq_m_blames_blamed (u : MS) (v : Nat → Int32) : m_blames (ms_blamed u v) = m_blames u := rfl
theorem rq_m_blames_blames (u : MS) (v : Int32) : m_blames (ms_blames u v) = v := rfl
end
section
set_option maxHeartbeats 4000000 in
set_option maxRecDepth 100000 in
theorem c_X0_versionsOf (l : Launch) (dC : Nat → ClassId) (dI : Nat → Nat → Nat) (sz : Nat) (p0 : Int32) (p1 : Int32) (r : Int64) (h : pf_X0_versionsOf p0 p1 = r) : Met l yX0_versionsOf wzX0_versionsOf ({ frames := 0, cells := 0, slots := 0, locals := 0 }) (va_Pc [.int p0, .int p1] (fun U => U.heap.size = sz ∧ va_P (dC, dI) vwCl ([] : va_W) U.heap ∧ va_K (dC, dI) vwCl ([] : List (ClassId × FieldType)) U ∧ va_D (fun _ => True) ([] : va_W))) (va_Ql (fun (r1 : Int64) (u1 : Unit) => r1 = r) (aS dC dI (va_A ([] : va_W) sz)) (va_A ([] : va_W) sz)) 0 0 (va_A ([] : va_W) sz) := by
  refine Met.ofW (cc := cX0_versionsOf) (maxL := 2) (ret := (some .long)) (by decide) rfl ?_
  intro p e s m args below meth c s₁ B hml hv
  obtain ⟨rfl, hsz, hP, hK, hD0⟩ := hv
  have hx := B.exec
  have hb := B.bytes
  have hr := B.returns
  have hts := atoms_spec (ws := wzX0_versionsOf) B.pre
  have hown : s.vm.findClass RX0 = some m.cls := findClass_of_methodNamed B.named
  have hlocks := B.notSynchronized
  subst hsz
  have hD := hD0.self (sz := s.heap.size)
  generalize hAe : va_A ([] : va_W) s.heap.size = A at hD ⊢
  have hA : ∀ q : Nat, s.heap.size ≤ q → A q := fun q h => by rw [← hAe]; exact Or.inr h
  have hS : va_S A s.heap s.heap [] := va_S.rf
  have hP : va_P (dC, dI) vwCl ([] : va_W) s.heap := hP
  clear hD0 hAe
  have hl := lv_entry ([.int p0, .int p1]) (n := 2) (Nat.le_of_ble_eq_true rfl)
  rw [lg_entry_eq]
  generalize (lg_sl ([.int p0, .int p1]) ++ List.replicate (2 - (lg_sl ([.int p0, .int p1])).length) Slot.unset).toArray = ls at hl ⊢
  have hl : lv_has ls 2 [(0, .int p0), (1, .int p1)] := hl
  rw [pf_X0_versionsOf] at h
  refine lv_iload_n hx hb dX0_versionsOf_0 rfl (lv_at hl 1 rfl) ?_
  refine lv_i2l (v := p1.toInt64) hx hb dX0_versionsOf_1 rfl ?_
  refine lv_ldc2 (v := (63 : Int64)) hx hb hown (hts (.constantLong RX0 125 (63)) (List.mem_cons_of_mem _ tz_94)) dX0_versionsOf_2 ?_
  refine lv_land hx hb dX0_versionsOf_5 ?_
  refine lv_iload_n hx hb dX0_versionsOf_6 rfl (lv_at hl 0 rfl) ?_
  refine lv_bipush (v := (8 : Int32)) hx hb dX0_versionsOf_7 (by decide) ?_
  refine lv_imul hx hb dX0_versionsOf_9 ?_
  refine lv_lshl (v := ((p1.toInt64 &&& (63 : Int64)) <<< ((p0 * (8 : Int32)).toInt64 &&& 63))) hx hb dX0_versionsOf_10 rfl ?_
  have e9 := h
  exact W.lret (v := ((p1.toInt64 &&& (63 : Int64)) <<< ((p0 * (8 : Int32)).toInt64 &&& 63))) hx hb hr (fun t ht hW => ⟨⟨((p1.toInt64 &&& (63 : Int64)) <<< ((p0 * (8 : Int32)).toInt64 &&& 63)), (), rfl, e9, by rw [ht]; exact hP, va_K.moved hW.alike hK, hD⟩, hS.F ht⟩) hS.2.2 dX0_versionsOf_11
set_option maxHeartbeats 4000000 in
set_option maxRecDepth 100000 in
theorem c_X0_pack (l : Launch) (dC : Nat → ClassId) (dI : Nat → Nat → Nat) (hs : Nat → Nat) (ka : Nat → ClassId) (sz : Nat) (fu : Nat) (u : XS) (p0 : Int32) (r : Int32) (u' : XS) (h : pf_X0_pack fu p0 u = some (r, u')) : Met l yX0_pack wzX0_pack ({ frames := 1, cells := 0, slots := 0, locals := 21 }) (va_Pc [.ref (hs 0), .int p0] (fun U => U.heap.size = sz ∧ va_P (dC, dI) vwCl (cX hs ka u) U.heap ∧ va_K (dC, dI) vwCl (tX ka) U ∧ va_D (fun _ => True) (cX hs ka u))) (va_Qi (fun (r1 : Int32) (u1 : XS) => r1 = r ∧ u1 = u') (aX dC dI (va_A (cX hs ka u) sz) hs ka) (va_A (cX hs ka u) sz)) 0 0 (va_A (cX hs ka u) sz) := by
  refine Met.ofW (cc := cX0_pack) (maxL := 3) (ret := (some .int)) (by decide) rfl ?_
  intro p e s m args below meth c s₁ B hml hv
  obtain ⟨rfl, hsz, hP, hK, hD0⟩ := hv
  have hx := B.exec
  have hb := B.bytes
  have hr := B.returns
  have hts := atoms_spec (ws := wzX0_pack) B.pre
  have hown : s.vm.findClass RX0 = some m.cls := findClass_of_methodNamed B.named
  have hlocks := B.notSynchronized
  subst hsz
  have hD := hD0.self (sz := s.heap.size)
  generalize hAe : va_A (cX hs ka u) s.heap.size = A at hD ⊢
  have hA : ∀ q : Nat, s.heap.size ≤ q → A q := fun q h => by rw [← hAe]; exact Or.inr h
  have hS : va_S A s.heap s.heap [] := va_S.rf
  have hP : va_P (dC, dI) vwCl (cX hs ka u) s.heap := hP
  clear hD0 hAe
  have hin0 : ∀ w ∈ u_ws RX0 TX0 14, w ∈ wzX0_pack := fun w h => List.mem_cons_of_mem _ (inTX0 w h)
  have hf_22 := hts (.fieldLink RX0 22 "ConflictSolve" "places" "J") (List.mem_cons_of_mem _ tz_49)
  have hf_26 := hts (.fieldLink RX0 26 "ConflictSolve" "packs" "I") (List.mem_cons_of_mem _ tz_45)
  have hl := lv_entry ([.ref (hs 0), .int p0]) (n := 3) (Nat.le_of_ble_eq_true rfl)
  rw [lg_entry_eq]
  generalize (lg_sl ([.ref (hs 0), .int p0]) ++ List.replicate (3 - (lg_sl ([.ref (hs 0), .int p0])).length) Slot.unset).toArray = ls at hl ⊢
  have hl : lv_has ls 3 [(0, .ref (hs 0)), (1, .int p0)] := hl
  rw [pf_X0_pack] at h
  refine lv_aload_n hx hb dX0_pack_0 rfl (lv_at hl 0 rfl) ?_
  refine gt_X_packs (V := (x_packs u)) hx hb hts hin0 hown hK hP hf_26 rfl dX0_pack_1 ?_
  refine lv_bipush (v := (8 : Int32)) hx hb dX0_pack_4 (by decide) ?_
  refine lv_icmp_ge (tgt := 19) hx hb dX0_pack_6 (by decide) (fun c_1 => ?_) (fun c_1 => ?_)
  · rw [if_pos c_1] at h
    refine lv_iconst (v := (-1 : Int32)) hx hb dX0_pack_19 (by decide) ?_
    have e9 := Option.some.inj h
    exact W.iret (v := (-1 : Int32)) hx hb hr (fun t ht hW => ⟨⟨(-1 : Int32), u, rfl, ⟨congrArg Prod.fst e9, congrArg Prod.snd e9⟩, by rw [ht]; exact hP, va_K.moved hW.alike hK, hD⟩, hS.F ht⟩) hS.2.2 dX0_pack_20
  · rw [if_neg c_1] at h
    refine lv_iload_n hx hb dX0_pack_9 rfl (lv_at hl 1 rfl) ?_
    refine lv_if_lt (tgt := 19) hx hb dX0_pack_10 (by decide) (fun c_2 => ?_) (fun c_2 => ?_)
    · rw [if_pos c_2] at h
      refine lv_iconst (v := (-1 : Int32)) hx hb dX0_pack_19 (by decide) ?_
      have e9 := Option.some.inj h
      exact W.iret (v := (-1 : Int32)) hx hb hr (fun t ht hW => ⟨⟨(-1 : Int32), u, rfl, ⟨congrArg Prod.fst e9, congrArg Prod.snd e9⟩, by rw [ht]; exact hP, va_K.moved hW.alike hK, hD⟩, hS.F ht⟩) hS.2.2 dX0_pack_20
    · rw [if_neg c_2] at h
      refine lv_iload_n hx hb dX0_pack_13 rfl (lv_at hl 1 rfl) ?_
      refine lv_bipush (v := (6 : Int32)) hx hb dX0_pack_14 (by decide) ?_
      refine lv_icmp_le (tgt := 21) hx hb dX0_pack_16 (by decide) (fun c_3 => ?_) (fun c_3 => ?_)
      · rw [if_pos c_3] at h
        refine lv_aload_n hx hb dX0_pack_21 rfl (lv_at hl 0 rfl) ?_
        refine gt_X_packs (V := (x_packs u)) hx hb hts hin0 hown hK hP hf_26 rfl dX0_pack_22 ?_
        refine lv_istore_n (lv' := [(2, .int (x_packs u)), (0, .ref (hs 0)), (1, .int p0)]) hx hb dX0_pack_25 rfl hl (by decide) rfl (fun ls hl => ?_)
        refine lv_aload_n hx hb dX0_pack_26 rfl (lv_at hl 1 rfl) ?_
        refine lv_dup hx hb dX0_pack_27 rfl ?_
        refine gt_X_places (V := (x_places u)) hx hb hts hin0 hown hK hP hf_22 rfl dX0_pack_28 ?_
        refine lv_iload_n hx hb dX0_pack_31 rfl (lv_at hl 0 rfl) ?_
        refine lv_iconst (v := (1 : Int32)) hx hb dX0_pack_32 (by decide) ?_
        refine lv_iload_n hx hb dX0_pack_33 rfl (lv_at hl 2 rfl) ?_
        refine lv_ishl hx hb dX0_pack_34 ?_
        refine lv_iconst (v := (1 : Int32)) hx hb dX0_pack_35 (by decide) ?_
        refine lv_isub hx hb dX0_pack_36 ?_
        have hPc : va_P (dC, dI) vwCl ([] : va_W) s.heap := hP.sub [] rfl
        have hDc : va_D A ([] : va_W) := hD.sub [] (by decide) rfl
        have hKc := hK.sub (tys' := []) [] rfl
        have hFc := fn_X hD hS hA
        refine va_calll (va_runS (As := [.int (x_packs u), .int (((1 : Int32) <<< (p0 &&& 31)) - (1 : Int32))]) (rest := [.long (x_places u), .ref (hs 0)]) ⟨hx, hb, hml, hown, hts⟩ (c_X0_versionsOf l dC dI s.heap.size (x_packs u) (((1 : Int32) <<< (p0 &&& 31)) - (1 : Int32)) _ rfl) (va_cwS 2 hts gX0_pack_X0_versionsOf rfl rfl rfl (by decide +kernel) ⟨Nat.le_of_ble_eq_true rfl, Nat.le_of_ble_eq_true rfl⟩) ⟨fun a U g mk q => by obtain ⟨q0, q1, qP, qK, qD⟩ := q; exact ⟨q0, q1, qP, va_K.moved (u := U) (U := U.calling g mk a) (Vm.Alike.refl U.vm) qK, qD⟩, fun U hU hW => ⟨rfl, by rw [hU], by rw [hU]; exact hPc, va_K.moved hW.alike hKc, hDc.weaken (fun _ _ _ _ => trivial)⟩⟩ rfl rfl hl.1 rfl (lv_room (Nat.le_of_ble_eq_true rfl)) dX0_pack_37 ⟨Nat.zero_le _, Nat.zero_le _⟩) hS (fun q _ h => hFc q h) hFc (fun r_4 u_c4 t H1 locs ht hvm hw hB hz1 hk1 hS => ?_)
        subst r_4
        obtain ⟨hP1, hK1, hD1⟩ := hB
        rw [ht] at hP1
        obtain ⟨hP, hD⟩ := js_X hP hD hk1 hFc hP1 hD1
        clear hPc hDc hKc hFc hz1 hk1 hP1 hK1 hD1
        generalize H1 = H at hP hS ⊢
        refine lv_lor hx hb dX0_pack_40 ?_
        refine pt_X_places hx hb hts hin0 hown hK hP hD hS hf_22 dX0_pack_41 (fun H locs hP hD hS => ?_)
        refine lv_aload_n hx hb dX0_pack_44 rfl (lv_at hl 1 rfl) ?_
        refine lv_dup hx hb dX0_pack_45 rfl ?_
        refine gt_X_packs (V := (x_packs u)) hx hb hts hin0 hown hK hP hf_26 (rq_x_packs_places u ((x_places u) ||| (pf_X0_versionsOf (x_packs u) (((1 : Int32) <<< (p0 &&& 31)) - (1 : Int32))))) dX0_pack_46 ?_
        refine lv_iconst (v := (1 : Int32)) hx hb dX0_pack_49 (by decide) ?_
        refine lv_iadd hx hb dX0_pack_50 ?_
        refine pt_X_packs hx hb hts hin0 hown hK hP hD hS hf_26 dX0_pack_51 (fun H locs hP hD hS => ?_)
        refine lv_iload_n hx hb dX0_pack_54 rfl (lv_at hl 0 rfl) ?_
        have e9 := Option.some.inj h
        exact W.iret (v := (x_packs u)) hx hb hr (fun t ht hW => ⟨⟨(x_packs u), (xs_packs (xs_places u ((x_places u) ||| (pf_X0_versionsOf (x_packs u) (((1 : Int32) <<< (p0 &&& 31)) - (1 : Int32))))) ((x_packs u) + (1 : Int32))), rfl, ⟨congrArg Prod.fst e9, congrArg Prod.snd e9⟩, by rw [ht]; exact hP, va_K.moved hW.alike hK, hD⟩, hS.F ht⟩) hS.2.2 dX0_pack_55
      · rw [if_neg c_3] at h
        refine lv_iconst (v := (-1 : Int32)) hx hb dX0_pack_19 (by decide) ?_
        have e9 := Option.some.inj h
        exact W.iret (v := (-1 : Int32)) hx hb hr (fun t ht hW => ⟨⟨(-1 : Int32), u, rfl, ⟨congrArg Prod.fst e9, congrArg Prod.snd e9⟩, by rw [ht]; exact hP, va_K.moved hW.alike hK, hD⟩, hS.F ht⟩) hS.2.2 dX0_pack_20
set_option maxHeartbeats 4000000 in
set_option maxRecDepth 100000 in
theorem c_X0_hasPack (l : Launch) (dC : Nat → ClassId) (dI : Nat → Nat → Nat) (hs : Nat → Nat) (ka : Nat → ClassId) (sz : Nat) (u : XS) (p0 : Int32) (r : Int32) (h : pf_X0_hasPack p0 u = r) : Met l yX0_hasPack wzX0_hasPack ({ frames := 0, cells := 0, slots := 0, locals := 0 }) (va_Pc [.ref (hs 0), .int p0] (fun U => U.heap.size = sz ∧ va_P (dC, dI) vwCl (cX hs ka u) U.heap ∧ va_K (dC, dI) vwCl (tX ka) U ∧ va_D (fun _ => True) (cX hs ka u))) (va_Qi (fun (r1 : Int32) (u1 : XS) => r1 = r ∧ u1 = u) (aX dC dI (va_A (cX hs ka u) sz) hs ka) (va_A (cX hs ka u) sz)) 0 0 (va_A (cX hs ka u) sz) := by
  refine Met.ofW (cc := cX0_hasPack) (maxL := 2) (ret := (some .boolean)) (by decide) rfl ?_
  intro p e s m args below meth c s₁ B hml hv
  obtain ⟨rfl, hsz, hP, hK, hD0⟩ := hv
  have hx := B.exec
  have hb := B.bytes
  have hr := B.returns
  have hts := atoms_spec (ws := wzX0_hasPack) B.pre
  have hown : s.vm.findClass RX0 = some m.cls := findClass_of_methodNamed B.named
  have hlocks := B.notSynchronized
  subst hsz
  have hD := hD0.self (sz := s.heap.size)
  generalize hAe : va_A (cX hs ka u) s.heap.size = A at hD ⊢
  have hA : ∀ q : Nat, s.heap.size ≤ q → A q := fun q h => by rw [← hAe]; exact Or.inr h
  have hS : va_S A s.heap s.heap [] := va_S.rf
  have hP : va_P (dC, dI) vwCl (cX hs ka u) s.heap := hP
  clear hD0 hAe
  have hin0 : ∀ w ∈ u_ws RX0 TX0 14, w ∈ wzX0_hasPack := fun w h => List.mem_cons_of_mem _ (inTX0 w h)
  have hf_26 := hts (.fieldLink RX0 26 "ConflictSolve" "packs" "I") (List.mem_cons_of_mem _ tz_45)
  have hl := lv_entry ([.ref (hs 0), .int p0]) (n := 2) (Nat.le_of_ble_eq_true rfl)
  rw [lg_entry_eq]
  generalize (lg_sl ([.ref (hs 0), .int p0]) ++ List.replicate (2 - (lg_sl ([.ref (hs 0), .int p0])).length) Slot.unset).toArray = ls at hl ⊢
  have hl : lv_has ls 2 [(0, .ref (hs 0)), (1, .int p0)] := hl
  rw [pf_X0_hasPack] at h
  refine lv_iload_n hx hb dX0_hasPack_0 rfl (lv_at hl 1 rfl) ?_
  refine lv_if_lt (tgt := 16) hx hb dX0_hasPack_1 (by decide) (fun c_1 => ?_) (fun c_1 => ?_)
  · rw [if_pos c_1] at h
    refine lv_iconst (v := (0 : Int32)) hx hb dX0_hasPack_16 (by decide) ?_
    have e9 := h
    exact W.zret (v := (0 : Int32)) hx hb hr rfl (fun t ht hW => ⟨⟨(0 : Int32), u, rfl, ⟨e9, rfl⟩, by rw [ht]; exact hP, va_K.moved hW.alike hK, hD⟩, hS.F ht⟩) hS.2.2 dX0_hasPack_17
  · rw [if_neg c_1] at h
    refine lv_iload_n hx hb dX0_hasPack_4 rfl (lv_at hl 1 rfl) ?_
    refine lv_aload_n hx hb dX0_hasPack_5 rfl (lv_at hl 0 rfl) ?_
    refine gt_X_packs (V := (x_packs u)) hx hb hts hin0 hown hK hP hf_26 rfl dX0_hasPack_6 ?_
    refine lv_icmp_ge (tgt := 16) hx hb dX0_hasPack_9 (by decide) (fun c_2 => ?_) (fun c_2 => ?_)
    · rw [if_pos c_2] at h
      refine lv_iconst (v := (0 : Int32)) hx hb dX0_hasPack_16 (by decide) ?_
      have e9 := h
      exact W.zret (v := (0 : Int32)) hx hb hr rfl (fun t ht hW => ⟨⟨(0 : Int32), u, rfl, ⟨e9, rfl⟩, by rw [ht]; exact hP, va_K.moved hW.alike hK, hD⟩, hS.F ht⟩) hS.2.2 dX0_hasPack_17
    · rw [if_neg c_2] at h
      refine lv_iconst (v := (1 : Int32)) hx hb dX0_hasPack_12 (by decide) ?_
      refine lv_goto (tgt := 17) hx hb dX0_hasPack_13 (by decide) ?_
      have e9 := h
      exact W.zret (v := (1 : Int32)) hx hb hr rfl (fun t ht hW => ⟨⟨(1 : Int32), u, rfl, ⟨e9, rfl⟩, by rw [ht]; exact hP, va_K.moved hW.alike hK, hD⟩, hS.F ht⟩) hS.2.2 dX0_hasPack_17
set_option maxHeartbeats 4000000 in
set_option maxRecDepth 100000 in
theorem c_X0_noneOf (l : Launch) (dC : Nat → ClassId) (dI : Nat → Nat → Nat) (sz : Nat) (p0 : Int32) (r : Int64) (h : pf_X0_noneOf p0 = r) : Met l yX0_noneOf wzX0_noneOf ({ frames := 0, cells := 0, slots := 0, locals := 0 }) (va_Pc [.int p0] (fun U => U.heap.size = sz ∧ va_P (dC, dI) vwCl ([] : va_W) U.heap ∧ va_K (dC, dI) vwCl ([] : List (ClassId × FieldType)) U ∧ va_D (fun _ => True) ([] : va_W))) (va_Ql (fun (r1 : Int64) (u1 : Unit) => r1 = r) (aS dC dI (va_A ([] : va_W) sz)) (va_A ([] : va_W) sz)) 0 0 (va_A ([] : va_W) sz) := by
  refine Met.ofW (cc := cX0_noneOf) (maxL := 1) (ret := (some .long)) (by decide) rfl ?_
  intro p e s m args below meth c s₁ B hml hv
  obtain ⟨rfl, hsz, hP, hK, hD0⟩ := hv
  have hx := B.exec
  have hb := B.bytes
  have hr := B.returns
  have hts := atoms_spec (ws := wzX0_noneOf) B.pre
  have hown : s.vm.findClass RX0 = some m.cls := findClass_of_methodNamed B.named
  have hlocks := B.notSynchronized
  subst hsz
  have hD := hD0.self (sz := s.heap.size)
  generalize hAe : va_A ([] : va_W) s.heap.size = A at hD ⊢
  have hA : ∀ q : Nat, s.heap.size ≤ q → A q := fun q h => by rw [← hAe]; exact Or.inr h
  have hS : va_S A s.heap s.heap [] := va_S.rf
  have hP : va_P (dC, dI) vwCl ([] : va_W) s.heap := hP
  clear hD0 hAe
  have hl := lv_entry ([.int p0]) (n := 1) (Nat.le_of_ble_eq_true rfl)
  rw [lg_entry_eq]
  generalize (lg_sl ([.int p0]) ++ List.replicate (1 - (lg_sl ([.int p0])).length) Slot.unset).toArray = ls at hl ⊢
  have hl : lv_has ls 1 [(0, .int p0)] := hl
  rw [pf_X0_noneOf] at h
  refine lv_ldc2 (v := (64 : Int64)) hx hb hown (hts (.constantLong RX0 123 (64)) (List.mem_cons_of_mem _ tz_113)) dX0_noneOf_0 ?_
  refine lv_iload_n hx hb dX0_noneOf_3 rfl (lv_at hl 0 rfl) ?_
  refine lv_bipush (v := (8 : Int32)) hx hb dX0_noneOf_4 (by decide) ?_
  refine lv_imul hx hb dX0_noneOf_6 ?_
  refine lv_lshl (v := ((64 : Int64) <<< ((p0 * (8 : Int32)).toInt64 &&& 63))) hx hb dX0_noneOf_7 rfl ?_
  have e9 := h
  exact W.lret (v := ((64 : Int64) <<< ((p0 * (8 : Int32)).toInt64 &&& 63))) hx hb hr (fun t ht hW => ⟨⟨((64 : Int64) <<< ((p0 * (8 : Int32)).toInt64 &&& 63)), (), rfl, e9, by rw [ht]; exact hP, va_K.moved hW.alike hK, hD⟩, hS.F ht⟩) hS.2.2 dX0_noneOf_8
set_option maxHeartbeats 4000000 in
set_option maxRecDepth 100000 in
theorem c_X0_placeOf (l : Launch) (dC : Nat → ClassId) (dI : Nat → Nat → Nat) (sz : Nat) (p0 : Int32) (p1 : Int32) (r : Int64) (h : pf_X0_placeOf p0 p1 = r) : Met l yX0_placeOf wzX0_placeOf ({ frames := 1, cells := 0, slots := 0, locals := 21 }) (va_Pc [.int p0, .int p1] (fun U => U.heap.size = sz ∧ va_P (dC, dI) vwCl ([] : va_W) U.heap ∧ va_K (dC, dI) vwCl ([] : List (ClassId × FieldType)) U ∧ va_D (fun _ => True) ([] : va_W))) (va_Ql (fun (r1 : Int64) (u1 : Unit) => r1 = r) (aS dC dI (va_A ([] : va_W) sz)) (va_A ([] : va_W) sz)) 0 0 (va_A ([] : va_W) sz) := by
  refine Met.ofW (cc := cX0_placeOf) (maxL := 2) (ret := (some .long)) (by decide) rfl ?_
  intro p e s m args below meth c s₁ B hml hv
  obtain ⟨rfl, hsz, hP, hK, hD0⟩ := hv
  have hx := B.exec
  have hb := B.bytes
  have hr := B.returns
  have hts := atoms_spec (ws := wzX0_placeOf) B.pre
  have hown : s.vm.findClass RX0 = some m.cls := findClass_of_methodNamed B.named
  have hlocks := B.notSynchronized
  subst hsz
  have hD := hD0.self (sz := s.heap.size)
  generalize hAe : va_A ([] : va_W) s.heap.size = A at hD ⊢
  have hA : ∀ q : Nat, s.heap.size ≤ q → A q := fun q h => by rw [← hAe]; exact Or.inr h
  have hS : va_S A s.heap s.heap [] := va_S.rf
  have hP : va_P (dC, dI) vwCl ([] : va_W) s.heap := hP
  clear hD0 hAe
  have hl := lv_entry ([.int p0, .int p1]) (n := 2) (Nat.le_of_ble_eq_true rfl)
  rw [lg_entry_eq]
  generalize (lg_sl ([.int p0, .int p1]) ++ List.replicate (2 - (lg_sl ([.int p0, .int p1])).length) Slot.unset).toArray = ls at hl ⊢
  have hl : lv_has ls 2 [(0, .int p0), (1, .int p1)] := hl
  rw [pf_X0_placeOf] at h
  refine lv_iload_n hx hb dX0_placeOf_0 rfl (lv_at hl 1 rfl) ?_
  refine lv_iconst (v := (-1 : Int32)) hx hb dX0_placeOf_1 (by decide) ?_
  refine lv_icmp_ne (tgt := 12) hx hb dX0_placeOf_2 (by decide) (fun c_1 => ?_) (fun c_1 => ?_)
  · rw [if_neg c_1] at h
    refine lv_iload_n hx hb dX0_placeOf_12 rfl (lv_at hl 0 rfl) ?_
    refine lv_iconst (v := (1 : Int32)) hx hb dX0_placeOf_13 (by decide) ?_
    refine lv_iload_n hx hb dX0_placeOf_14 rfl (lv_at hl 1 rfl) ?_
    refine lv_ishl hx hb dX0_placeOf_15 ?_
    have hPc : va_P (dC, dI) vwCl ([] : va_W) s.heap := hP.sub [] rfl
    have hDc : va_D A ([] : va_W) := hD.sub [] (by decide) rfl
    have hKc := hK.sub (tys' := []) [] rfl
    have hFc := va_free (wc := ([] : va_W)) hD hS hA [] rfl
    refine va_calll (va_runS (As := [.int p0, .int ((1 : Int32) <<< (p1 &&& 31))]) (rest := []) ⟨hx, hb, hml, hown, hts⟩ (c_X0_versionsOf l dC dI s.heap.size p0 ((1 : Int32) <<< (p1 &&& 31)) _ rfl) (va_cwS 2 hts gX0_placeOf_X0_versionsOf rfl rfl rfl (by decide +kernel) ⟨Nat.le_of_ble_eq_true rfl, Nat.le_of_ble_eq_true rfl⟩) ⟨fun a U g mk q => by obtain ⟨q0, q1, qP, qK, qD⟩ := q; exact ⟨q0, q1, qP, va_K.moved (u := U) (U := U.calling g mk a) (Vm.Alike.refl U.vm) qK, qD⟩, fun U hU hW => ⟨rfl, by rw [hU], by rw [hU]; exact hPc, va_K.moved hW.alike hKc, hDc.weaken (fun _ _ _ _ => trivial)⟩⟩ rfl rfl hl.1 rfl (lv_room (Nat.le_of_ble_eq_true rfl)) dX0_placeOf_16 ⟨Nat.zero_le _, Nat.zero_le _⟩) hS (fun q _ h => hFc q h) hFc (fun r_2 u_c2 t H1 locs ht hvm hw hB hz1 hk1 hS => ?_)
    subst r_2
    obtain ⟨hP1, hK1, hD1⟩ := hB
    rw [ht] at hP1
    obtain ⟨hP, hD⟩ := va_join (wc := ([] : va_W)) (wr := ([] : va_W)) (w1 := ([] : va_W)) hP hD [] [] rfl rfl (by decide) (by decide) hk1 hFc hP1 hD1
    clear hPc hDc hKc hFc hz1 hk1 hP1 hK1 hD1
    generalize H1 = H at hP hS ⊢
    have e9 := h
    exact W.lret (v := (pf_X0_versionsOf p0 ((1 : Int32) <<< (p1 &&& 31)))) hx hb hr (fun t ht hW => ⟨⟨(pf_X0_versionsOf p0 ((1 : Int32) <<< (p1 &&& 31))), (), rfl, e9, by rw [ht]; exact hP, va_K.moved hW.alike hK, hD⟩, hS.F ht⟩) hS.2.2 dX0_placeOf_19
  · rw [if_pos c_1] at h
    refine lv_iload_n hx hb dX0_placeOf_5 rfl (lv_at hl 0 rfl) ?_
    have hPc : va_P (dC, dI) vwCl ([] : va_W) s.heap := hP.sub [] rfl
    have hDc : va_D A ([] : va_W) := hD.sub [] (by decide) rfl
    have hKc := hK.sub (tys' := []) [] rfl
    have hFc := va_free (wc := ([] : va_W)) hD hS hA [] rfl
    refine va_calll (va_runS (As := [.int p0]) (rest := []) ⟨hx, hb, hml, hown, hts⟩ (c_X0_noneOf l dC dI s.heap.size p0 _ rfl) (va_cwS 1 hts gX0_placeOf_X0_noneOf rfl rfl rfl (by decide +kernel) ⟨Nat.le_of_ble_eq_true rfl, Nat.le_of_ble_eq_true rfl⟩) ⟨fun a U g mk q => by obtain ⟨q0, q1, qP, qK, qD⟩ := q; exact ⟨q0, q1, qP, va_K.moved (u := U) (U := U.calling g mk a) (Vm.Alike.refl U.vm) qK, qD⟩, fun U hU hW => ⟨rfl, by rw [hU], by rw [hU]; exact hPc, va_K.moved hW.alike hKc, hDc.weaken (fun _ _ _ _ => trivial)⟩⟩ rfl rfl hl.1 rfl (lv_room (Nat.le_of_ble_eq_true rfl)) dX0_placeOf_6 ⟨Nat.zero_le _, Nat.zero_le _⟩) hS (fun q _ h => hFc q h) hFc (fun r_3 u_c3 t H1 locs ht hvm hw hB hz1 hk1 hS => ?_)
    subst r_3
    obtain ⟨hP1, hK1, hD1⟩ := hB
    rw [ht] at hP1
    obtain ⟨hP, hD⟩ := va_join (wc := ([] : va_W)) (wr := ([] : va_W)) (w1 := ([] : va_W)) hP hD [] [] rfl rfl (by decide) (by decide) hk1 hFc hP1 hD1
    clear hPc hDc hKc hFc hz1 hk1 hP1 hK1 hD1
    generalize H1 = H at hP hS ⊢
    refine lv_goto (tgt := 19) hx hb dX0_placeOf_9 (by decide) ?_
    have e9 := h
    exact W.lret (v := (pf_X0_noneOf p0)) hx hb hr (fun t ht hW => ⟨⟨(pf_X0_noneOf p0), (), rfl, e9, by rw [ht]; exact hP, va_K.moved hW.alike hK, hD⟩, hS.F ht⟩) hS.2.2 dX0_placeOf_19
set_option maxHeartbeats 4000000 in
set_option maxRecDepth 100000 in
theorem c_X0_hasVersion (l : Launch) (dC : Nat → ClassId) (dI : Nat → Nat → Nat) (hs : Nat → Nat) (ka : Nat → ClassId) (sz : Nat) (u : XS) (p0 : Int32) (p1 : Int32) (r : Int32) (h : pf_X0_hasVersion p0 p1 u = r) : Met l yX0_hasVersion wzX0_hasVersion ({ frames := 2, cells := 0, slots := 0, locals := 42 }) (va_Pc [.ref (hs 0), .int p0, .int p1] (fun U => U.heap.size = sz ∧ va_P (dC, dI) vwCl (cX hs ka u) U.heap ∧ va_K (dC, dI) vwCl (tX ka) U ∧ va_D (fun _ => True) (cX hs ka u))) (va_Qi (fun (r1 : Int32) (u1 : XS) => r1 = r ∧ u1 = u) (aX dC dI (va_A (cX hs ka u) sz) hs ka) (va_A (cX hs ka u) sz)) 0 0 (va_A (cX hs ka u) sz) := by
  refine Met.ofW (cc := cX0_hasVersion) (maxL := 3) (ret := (some .boolean)) (by decide) rfl ?_
  intro p e s m args below meth c s₁ B hml hv
  obtain ⟨rfl, hsz, hP, hK, hD0⟩ := hv
  have hx := B.exec
  have hb := B.bytes
  have hr := B.returns
  have hts := atoms_spec (ws := wzX0_hasVersion) B.pre
  have hown : s.vm.findClass RX0 = some m.cls := findClass_of_methodNamed B.named
  have hlocks := B.notSynchronized
  subst hsz
  have hD := hD0.self (sz := s.heap.size)
  generalize hAe : va_A (cX hs ka u) s.heap.size = A at hD ⊢
  have hA : ∀ q : Nat, s.heap.size ≤ q → A q := fun q h => by rw [← hAe]; exact Or.inr h
  have hS : va_S A s.heap s.heap [] := va_S.rf
  have hP : va_P (dC, dI) vwCl (cX hs ka u) s.heap := hP
  clear hD0 hAe
  have hin0 : ∀ w ∈ u_ws RX0 TX0 14, w ∈ wzX0_hasVersion := fun w h => List.mem_cons_of_mem _ (inTX0 w h)
  have hf_22 := hts (.fieldLink RX0 22 "ConflictSolve" "places" "J") (List.mem_cons_of_mem _ tz_49)
  have hl := lv_entry ([.ref (hs 0), .int p0, .int p1]) (n := 3) (Nat.le_of_ble_eq_true rfl)
  rw [lg_entry_eq]
  generalize (lg_sl ([.ref (hs 0), .int p0, .int p1]) ++ List.replicate (3 - (lg_sl ([.ref (hs 0), .int p0, .int p1])).length) Slot.unset).toArray = ls at hl ⊢
  have hl : lv_has ls 3 [(0, .ref (hs 0)), (1, .int p0), (2, .int p1)] := hl
  rw [pf_X0_hasVersion] at h
  refine lv_aload_n hx hb dX0_hasVersion_0 rfl (lv_at hl 0 rfl) ?_
  refine lv_iload_n hx hb dX0_hasVersion_1 rfl (lv_at hl 1 rfl) ?_
  have hPc := hP
  have hDc := hD
  have hKc := hK
  have hFc := fr_X hD hS hA
  refine va_calli (va_runV (As := [.int p0]) (rest := []) ⟨hx, hb, hml, hown, hts⟩ (c_X0_hasPack l dC dI hs ka s.heap.size u p0 _ rfl) (cwV 1 hts gX0_hasVersion_X0_hasPack rfl rfl rfl (by decide +kernel) ⟨Nat.le_of_ble_eq_true rfl, Nat.le_of_ble_eq_true rfl⟩) ⟨fun a U g mk q => by obtain ⟨q0, q1, qP, qK, qD⟩ := q; exact ⟨q0, q1, qP, va_K.moved (u := U) (U := U.calling g mk a) (Vm.Alike.refl U.vm) qK, qD⟩, rc_X hKc hPc, fun U hU hW => ⟨rfl, by rw [hU], by rw [hU]; exact hPc, va_K.moved hW.alike hKc, hDc.weaken (fun _ _ _ _ => trivial)⟩⟩ rfl rfl hl.1 rfl (lv_room (Nat.le_of_ble_eq_true rfl)) dX0_hasVersion_2 ⟨Nat.zero_le _, Nat.zero_le _⟩) hS (fun q _ h => hFc q h) hFc (fun r_1 u_c1 t H1 locs ht hvm hw hB hz1 hk1 hS => ?_)
  obtain ⟨hw1, hw2⟩ := hw
  subst r_1
  subst u_c1
  obtain ⟨hP1, hK1, hD1⟩ := hB
  rw [ht] at hP1
  obtain ⟨hP, hD⟩ := jw_X hP hD hk1 hFc hP1 hD1
  clear hPc hDc hKc hFc hz1 hk1 hP1 hK1 hD1
  generalize H1 = H at hP hS ⊢
  refine lv_if_eq (tgt := 37) hx hb dX0_hasVersion_5 (by decide) (fun c_2 => ?_) (fun c_2 => ?_)
  · rw [if_pos c_2] at h
    refine lv_iconst (v := (0 : Int32)) hx hb dX0_hasVersion_37 (by decide) ?_
    have e9 := h
    exact W.zret (v := (0 : Int32)) hx hb hr rfl (fun t ht hW => ⟨⟨(0 : Int32), u, rfl, ⟨e9, rfl⟩, by rw [ht]; exact hP, va_K.moved hW.alike hK, hD⟩, hS.F ht⟩) hS.2.2 dX0_hasVersion_38
  · rw [if_neg c_2] at h
    refine lv_iload_n hx hb dX0_hasVersion_8 rfl (lv_at hl 2 rfl) ?_
    refine lv_if_lt (tgt := 37) hx hb dX0_hasVersion_9 (by decide) (fun c_3 => ?_) (fun c_3 => ?_)
    · rw [if_pos c_3] at h
      refine lv_iconst (v := (0 : Int32)) hx hb dX0_hasVersion_37 (by decide) ?_
      have e9 := h
      exact W.zret (v := (0 : Int32)) hx hb hr rfl (fun t ht hW => ⟨⟨(0 : Int32), u, rfl, ⟨e9, rfl⟩, by rw [ht]; exact hP, va_K.moved hW.alike hK, hD⟩, hS.F ht⟩) hS.2.2 dX0_hasVersion_38
    · rw [if_neg c_3] at h
      refine lv_iload_n hx hb dX0_hasVersion_12 rfl (lv_at hl 2 rfl) ?_
      refine lv_bipush (v := (6 : Int32)) hx hb dX0_hasVersion_13 (by decide) ?_
      refine lv_icmp_ge (tgt := 37) hx hb dX0_hasVersion_15 (by decide) (fun c_4 => ?_) (fun c_4 => ?_)
      · rw [if_pos c_4] at h
        refine lv_iconst (v := (0 : Int32)) hx hb dX0_hasVersion_37 (by decide) ?_
        have e9 := h
        exact W.zret (v := (0 : Int32)) hx hb hr rfl (fun t ht hW => ⟨⟨(0 : Int32), u, rfl, ⟨e9, rfl⟩, by rw [ht]; exact hP, va_K.moved hW.alike hK, hD⟩, hS.F ht⟩) hS.2.2 dX0_hasVersion_38
      · rw [if_neg c_4] at h
        refine lv_aload_n hx hb dX0_hasVersion_18 rfl (lv_at hl 0 rfl) ?_
        refine gt_X_places (V := (x_places u)) hx hb hts hin0 hown hK hP hf_22 rfl dX0_hasVersion_19 ?_
        refine lv_iload_n hx hb dX0_hasVersion_22 rfl (lv_at hl 1 rfl) ?_
        refine lv_iload_n hx hb dX0_hasVersion_23 rfl (lv_at hl 2 rfl) ?_
        have hPc : va_P (dC, dI) vwCl ([] : va_W) H := hP.sub [] rfl
        have hDc : va_D A ([] : va_W) := hD.sub [] (by decide) rfl
        have hKc := hK.sub (tys' := []) [] rfl
        have hFc := fn_X hD hS hA
        refine va_calll (va_runS (As := [.int p0, .int p1]) (rest := [.long (x_places u)]) ⟨hx, hb, hml, hown, hts⟩ (c_X0_placeOf l dC dI H.size p0 p1 _ rfl) (va_cwS 2 hts gX0_hasVersion_X0_placeOf rfl rfl rfl (by decide +kernel) ⟨Nat.le_of_ble_eq_true rfl, Nat.le_of_ble_eq_true rfl⟩) ⟨fun a U g mk q => by obtain ⟨q0, q1, qP, qK, qD⟩ := q; exact ⟨q0, q1, qP, va_K.moved (u := U) (U := U.calling g mk a) (Vm.Alike.refl U.vm) qK, qD⟩, fun U hU hW => ⟨rfl, by rw [hU], by rw [hU]; exact hPc, va_K.moved hW.alike hKc, hDc.weaken (fun _ _ _ _ => trivial)⟩⟩ rfl rfl hl.1 rfl (lv_room (Nat.le_of_ble_eq_true rfl)) dX0_hasVersion_24 ⟨Nat.zero_le _, Nat.zero_le _⟩) hS (fun q _ h => hFc q h) hFc (fun r_5 u_c5 t H1 locs ht hvm hw hB hz1 hk1 hS => ?_)
        subst r_5
        obtain ⟨hP1, hK1, hD1⟩ := hB
        rw [ht] at hP1
        obtain ⟨hP, hD⟩ := js_X hP hD hk1 hFc hP1 hD1
        clear hPc hDc hKc hFc hz1 hk1 hP1 hK1 hD1
        generalize H1 = H at hP hS ⊢
        refine lv_land hx hb dX0_hasVersion_27 ?_
        refine lv_lconst (v := (0 : Int64)) hx hb dX0_hasVersion_28 (by decide) ?_
        refine W.lcmp hx hb dX0_hasVersion_29 ?_
        refine lv_if_eq (tgt := 37) hx hb dX0_hasVersion_30 (by decide) (fun c_6 => ?_) (fun c_6 => ?_)
        · have c_6 := (lg_cmp_eq _ _).mp c_6
          rw [if_pos c_6] at h
          refine lv_iconst (v := (0 : Int32)) hx hb dX0_hasVersion_37 (by decide) ?_
          have e9 := h
          exact W.zret (v := (0 : Int32)) hx hb hr rfl (fun t ht hW => ⟨⟨(0 : Int32), u, rfl, ⟨e9, rfl⟩, by rw [ht]; exact hP, va_K.moved hW.alike hK, hD⟩, hS.F ht⟩) hS.2.2 dX0_hasVersion_38
        · have c_6 := (fun q => c_6 ((lg_cmp_eq _ _).mpr q))
          rw [if_neg c_6] at h
          refine lv_iconst (v := (1 : Int32)) hx hb dX0_hasVersion_33 (by decide) ?_
          refine lv_goto (tgt := 38) hx hb dX0_hasVersion_34 (by decide) ?_
          have e9 := h
          exact W.zret (v := (1 : Int32)) hx hb hr rfl (fun t ht hW => ⟨⟨(1 : Int32), u, rfl, ⟨e9, rfl⟩, by rw [ht]; exact hP, va_K.moved hW.alike hK, hD⟩, hS.F ht⟩) hS.2.2 dX0_hasVersion_38
set_option maxHeartbeats 4000000 in
set_option maxRecDepth 100000 in
theorem c_X0_isKind (l : Launch) (dC : Nat → ClassId) (dI : Nat → Nat → Nat) (sz : Nat) (p0 : Int32) (r : Int32) (h : pf_X0_isKind p0 = r) : Met l yX0_isKind wzX0_isKind ({ frames := 0, cells := 0, slots := 0, locals := 0 }) (va_Pc [.int p0] (fun U => U.heap.size = sz ∧ va_P (dC, dI) vwCl ([] : va_W) U.heap ∧ va_K (dC, dI) vwCl ([] : List (ClassId × FieldType)) U ∧ va_D (fun _ => True) ([] : va_W))) (va_Qi (fun (r1 : Int32) (u1 : Unit) => r1 = r) (aS dC dI (va_A ([] : va_W) sz)) (va_A ([] : va_W) sz)) 0 0 (va_A ([] : va_W) sz) := by
  refine Met.ofW (cc := cX0_isKind) (maxL := 1) (ret := (some .boolean)) (by decide) rfl ?_
  intro p e s m args below meth c s₁ B hml hv
  obtain ⟨rfl, hsz, hP, hK, hD0⟩ := hv
  have hx := B.exec
  have hb := B.bytes
  have hr := B.returns
  have hts := atoms_spec (ws := wzX0_isKind) B.pre
  have hown : s.vm.findClass RX0 = some m.cls := findClass_of_methodNamed B.named
  have hlocks := B.notSynchronized
  subst hsz
  have hD := hD0.self (sz := s.heap.size)
  generalize hAe : va_A ([] : va_W) s.heap.size = A at hD ⊢
  have hA : ∀ q : Nat, s.heap.size ≤ q → A q := fun q h => by rw [← hAe]; exact Or.inr h
  have hS : va_S A s.heap s.heap [] := va_S.rf
  have hP : va_P (dC, dI) vwCl ([] : va_W) s.heap := hP
  clear hD0 hAe
  have hl := lv_entry ([.int p0]) (n := 1) (Nat.le_of_ble_eq_true rfl)
  rw [lg_entry_eq]
  generalize (lg_sl ([.int p0]) ++ List.replicate (1 - (lg_sl ([.int p0])).length) Slot.unset).toArray = ls at hl ⊢
  have hl : lv_has ls 1 [(0, .int p0)] := hl
  rw [pf_X0_isKind] at h
  refine lv_iload_n hx hb dX0_isKind_0 rfl (lv_at hl 0 rfl) ?_
  refine lv_if_eq (tgt := 14) hx hb dX0_isKind_1 (by decide) (fun c_1 => ?_) (fun c_1 => ?_)
  · rw [if_pos c_1] at h
    refine lv_iconst (v := (1 : Int32)) hx hb dX0_isKind_14 (by decide) ?_
    refine lv_goto (tgt := 19) hx hb dX0_isKind_15 (by decide) ?_
    have e9 := h
    exact W.zret (v := (1 : Int32)) hx hb hr rfl (fun t ht hW => ⟨⟨(1 : Int32), (), rfl, e9, by rw [ht]; exact hP, va_K.moved hW.alike hK, hD⟩, hS.F ht⟩) hS.2.2 dX0_isKind_19
  · rw [if_neg c_1] at h
    refine lv_iload_n hx hb dX0_isKind_4 rfl (lv_at hl 0 rfl) ?_
    refine lv_iconst (v := (1 : Int32)) hx hb dX0_isKind_5 (by decide) ?_
    refine lv_icmp_eq (tgt := 14) hx hb dX0_isKind_6 (by decide) (fun c_2 => ?_) (fun c_2 => ?_)
    · rw [if_pos c_2] at h
      refine lv_iconst (v := (1 : Int32)) hx hb dX0_isKind_14 (by decide) ?_
      refine lv_goto (tgt := 19) hx hb dX0_isKind_15 (by decide) ?_
      have e9 := h
      exact W.zret (v := (1 : Int32)) hx hb hr rfl (fun t ht hW => ⟨⟨(1 : Int32), (), rfl, e9, by rw [ht]; exact hP, va_K.moved hW.alike hK, hD⟩, hS.F ht⟩) hS.2.2 dX0_isKind_19
    · rw [if_neg c_2] at h
      refine lv_iload_n hx hb dX0_isKind_9 rfl (lv_at hl 0 rfl) ?_
      refine lv_iconst (v := (2 : Int32)) hx hb dX0_isKind_10 (by decide) ?_
      refine lv_icmp_ne (tgt := 18) hx hb dX0_isKind_11 (by decide) (fun c_3 => ?_) (fun c_3 => ?_)
      · rw [if_neg c_3] at h
        refine lv_iconst (v := (0 : Int32)) hx hb dX0_isKind_18 (by decide) ?_
        have e9 := h
        exact W.zret (v := (0 : Int32)) hx hb hr rfl (fun t ht hW => ⟨⟨(0 : Int32), (), rfl, e9, by rw [ht]; exact hP, va_K.moved hW.alike hK, hD⟩, hS.F ht⟩) hS.2.2 dX0_isKind_19
      · rw [if_pos c_3] at h
        refine lv_iconst (v := (1 : Int32)) hx hb dX0_isKind_14 (by decide) ?_
        refine lv_goto (tgt := 19) hx hb dX0_isKind_15 (by decide) ?_
        have e9 := h
        exact W.zret (v := (1 : Int32)) hx hb hr rfl (fun t ht hW => ⟨⟨(1 : Int32), (), rfl, e9, by rw [ht]; exact hP, va_K.moved hW.alike hK, hD⟩, hS.F ht⟩) hS.2.2 dX0_isKind_19
set_option maxHeartbeats 4000000 in
set_option maxRecDepth 100000 in
theorem c_X0_allOf (l : Launch) (dC : Nat → ClassId) (dI : Nat → Nat → Nat) (sz : Nat) (p0 : Int32) (r : Int64) (h : pf_X0_allOf p0 = r) : Met l yX0_allOf wzX0_allOf ({ frames := 0, cells := 0, slots := 0, locals := 0 }) (va_Pc [.int p0] (fun U => U.heap.size = sz ∧ va_P (dC, dI) vwCl ([] : va_W) U.heap ∧ va_K (dC, dI) vwCl ([] : List (ClassId × FieldType)) U ∧ va_D (fun _ => True) ([] : va_W))) (va_Ql (fun (r1 : Int64) (u1 : Unit) => r1 = r) (aS dC dI (va_A ([] : va_W) sz)) (va_A ([] : va_W) sz)) 0 0 (va_A ([] : va_W) sz) := by
  refine Met.ofW (cc := cX0_allOf) (maxL := 1) (ret := (some .long)) (by decide) rfl ?_
  intro p e s m args below meth c s₁ B hml hv
  obtain ⟨rfl, hsz, hP, hK, hD0⟩ := hv
  have hx := B.exec
  have hb := B.bytes
  have hr := B.returns
  have hts := atoms_spec (ws := wzX0_allOf) B.pre
  have hown : s.vm.findClass RX0 = some m.cls := findClass_of_methodNamed B.named
  have hlocks := B.notSynchronized
  subst hsz
  have hD := hD0.self (sz := s.heap.size)
  generalize hAe : va_A ([] : va_W) s.heap.size = A at hD ⊢
  have hA : ∀ q : Nat, s.heap.size ≤ q → A q := fun q h => by rw [← hAe]; exact Or.inr h
  have hS : va_S A s.heap s.heap [] := va_S.rf
  have hP : va_P (dC, dI) vwCl ([] : va_W) s.heap := hP
  clear hD0 hAe
  have hl := lv_entry ([.int p0]) (n := 1) (Nat.le_of_ble_eq_true rfl)
  rw [lg_entry_eq]
  generalize (lg_sl ([.int p0]) ++ List.replicate (1 - (lg_sl ([.int p0])).length) Slot.unset).toArray = ls at hl ⊢
  have hl : lv_has ls 1 [(0, .int p0)] := hl
  rw [pf_X0_allOf] at h
  refine lv_ldc2 (v := (127 : Int64)) hx hb hown (hts (.constantLong RX0 121 (127)) (List.mem_cons_of_mem _ tz_120)) dX0_allOf_0 ?_
  refine lv_iload_n hx hb dX0_allOf_3 rfl (lv_at hl 0 rfl) ?_
  refine lv_bipush (v := (8 : Int32)) hx hb dX0_allOf_4 (by decide) ?_
  refine lv_imul hx hb dX0_allOf_6 ?_
  refine lv_lshl (v := ((127 : Int64) <<< ((p0 * (8 : Int32)).toInt64 &&& 63))) hx hb dX0_allOf_7 rfl ?_
  have e9 := h
  exact W.lret (v := ((127 : Int64) <<< ((p0 * (8 : Int32)).toInt64 &&& 63))) hx hb hr (fun t ht hW => ⟨⟨((127 : Int64) <<< ((p0 * (8 : Int32)).toInt64 &&& 63)), (), rfl, e9, by rw [ht]; exact hP, va_K.moved hW.alike hK, hD⟩, hS.F ht⟩) hS.2.2 dX0_allOf_8
set_option maxHeartbeats 4000000 in
set_option maxRecDepth 100000 in
theorem c_X0_keeping (l : Launch) (dC : Nat → ClassId) (dI : Nat → Nat → Nat) (sz : Nat) (p0 : Int32) (p1 : Int32) (p2 : Int32) (r : Int64) (h : pf_X0_keeping p0 p1 p2 = r) : Met l yX0_keeping wzX0_keeping ({ frames := 1, cells := 0, slots := 0, locals := 21 }) (va_Pc [.int p0, .int p1, .int p2] (fun U => U.heap.size = sz ∧ va_P (dC, dI) vwCl ([] : va_W) U.heap ∧ va_K (dC, dI) vwCl ([] : List (ClassId × FieldType)) U ∧ va_D (fun _ => True) ([] : va_W))) (va_Ql (fun (r1 : Int64) (u1 : Unit) => r1 = r) (aS dC dI (va_A ([] : va_W) sz)) (va_A ([] : va_W) sz)) 0 0 (va_A ([] : va_W) sz) := by
  refine Met.ofW (cc := cX0_keeping) (maxL := 5) (ret := (some .long)) (by decide) rfl ?_
  intro p e s m args below meth c s₁ B hml hv
  obtain ⟨rfl, hsz, hP, hK, hD0⟩ := hv
  have hx := B.exec
  have hb := B.bytes
  have hr := B.returns
  have hts := atoms_spec (ws := wzX0_keeping) B.pre
  have hown : s.vm.findClass RX0 = some m.cls := findClass_of_methodNamed B.named
  have hlocks := B.notSynchronized
  subst hsz
  have hD := hD0.self (sz := s.heap.size)
  generalize hAe : va_A ([] : va_W) s.heap.size = A at hD ⊢
  have hA : ∀ q : Nat, s.heap.size ≤ q → A q := fun q h => by rw [← hAe]; exact Or.inr h
  have hS : va_S A s.heap s.heap [] := va_S.rf
  have hP : va_P (dC, dI) vwCl ([] : va_W) s.heap := hP
  clear hD0 hAe
  have hl := lv_entry ([.int p0, .int p1, .int p2]) (n := 5) (Nat.le_of_ble_eq_true rfl)
  rw [lg_entry_eq]
  generalize (lg_sl ([.int p0, .int p1, .int p2]) ++ List.replicate (5 - (lg_sl ([.int p0, .int p1, .int p2])).length) Slot.unset).toArray = ls at hl ⊢
  have hl : lv_has ls 5 [(0, .int p0), (1, .int p1), (2, .int p2)] := hl
  rw [pf_X0_keeping] at h
  refine lv_iload_n hx hb dX0_keeping_0 rfl (lv_at hl 1 rfl) ?_
  refine lv_iload_n hx hb dX0_keeping_1 rfl (lv_at hl 2 rfl) ?_
  have hPc : va_P (dC, dI) vwCl ([] : va_W) s.heap := hP.sub [] rfl
  have hDc : va_D A ([] : va_W) := hD.sub [] (by decide) rfl
  have hKc := hK.sub (tys' := []) [] rfl
  have hFc := va_free (wc := ([] : va_W)) hD hS hA [] rfl
  refine va_calll (va_runS (As := [.int p1, .int p2]) (rest := []) ⟨hx, hb, hml, hown, hts⟩ (c_X0_versionsOf l dC dI s.heap.size p1 p2 _ rfl) (va_cwS 2 hts gX0_keeping_X0_versionsOf rfl rfl rfl (by decide +kernel) ⟨Nat.le_of_ble_eq_true rfl, Nat.le_of_ble_eq_true rfl⟩) ⟨fun a U g mk q => by obtain ⟨q0, q1, qP, qK, qD⟩ := q; exact ⟨q0, q1, qP, va_K.moved (u := U) (U := U.calling g mk a) (Vm.Alike.refl U.vm) qK, qD⟩, fun U hU hW => ⟨rfl, by rw [hU], by rw [hU]; exact hPc, va_K.moved hW.alike hKc, hDc.weaken (fun _ _ _ _ => trivial)⟩⟩ rfl rfl hl.1 rfl (lv_room (Nat.le_of_ble_eq_true rfl)) dX0_keeping_2 ⟨Nat.zero_le _, Nat.zero_le _⟩) hS (fun q _ h => hFc q h) hFc (fun r_1 u_c1 t H1 locs ht hvm hw hB hz1 hk1 hS => ?_)
  subst r_1
  obtain ⟨hP1, hK1, hD1⟩ := hB
  rw [ht] at hP1
  obtain ⟨hP, hD⟩ := va_join (wc := ([] : va_W)) (wr := ([] : va_W)) (w1 := ([] : va_W)) hP hD [] [] rfl rfl (by decide) (by decide) hk1 hFc hP1 hD1
  clear hPc hDc hKc hFc hz1 hk1 hP1 hK1 hD1
  generalize H1 = H at hP hS ⊢
  refine lv_lstore_n (lv' := [(3, .long (pf_X0_versionsOf p1 p2)), (0, .int p0), (1, .int p1), (2, .int p2)]) hx hb dX0_keeping_5 rfl hl (by decide) rfl (fun ls hl => ?_)
  refine lv_iload_n hx hb dX0_keeping_6 rfl (lv_at hl 1 rfl) ?_
  refine lv_iconst (v := (1 : Int32)) hx hb dX0_keeping_7 (by decide) ?_
  refine lv_icmp_ne (tgt := 22) hx hb dX0_keeping_8 (by decide) (fun c_2 => ?_) (fun c_2 => ?_)
  · rw [if_neg c_2] at h
    refine lv_iload_n hx hb dX0_keeping_22 rfl (lv_at hl 1 rfl) ?_
    refine lv_iconst (v := (2 : Int32)) hx hb dX0_keeping_23 (by decide) ?_
    refine lv_icmp_ne (tgt := 36) hx hb dX0_keeping_24 (by decide) (fun c_3 => ?_) (fun c_3 => ?_)
    · rw [if_neg c_3] at h
      refine lv_lload_n hx hb dX0_keeping_36 rfl (lv_at hl 0 rfl) ?_
      have e9 := h
      exact W.lret (v := (pf_X0_versionsOf p1 p2)) hx hb hr (fun t ht hW => ⟨⟨(pf_X0_versionsOf p1 p2), (), rfl, e9, by rw [ht]; exact hP, va_K.moved hW.alike hK, hD⟩, hS.F ht⟩) hS.2.2 dX0_keeping_37
    · rw [if_pos c_3] at h
      refine lv_lload_n hx hb dX0_keeping_27 rfl (lv_at hl 0 rfl) ?_
      refine lv_iload_n hx hb dX0_keeping_28 rfl (lv_at hl 2 rfl) ?_
      have hPc : va_P (dC, dI) vwCl ([] : va_W) H := hP.sub [] rfl
      have hDc : va_D A ([] : va_W) := hD.sub [] (by decide) rfl
      have hKc := hK.sub (tys' := []) [] rfl
      have hFc := va_free (wc := ([] : va_W)) hD hS hA [] rfl
      refine va_calll (va_runS (As := [.int p1]) (rest := [.long (pf_X0_versionsOf p1 p2)]) ⟨hx, hb, hml, hown, hts⟩ (c_X0_noneOf l dC dI H.size p1 _ rfl) (va_cwS 1 hts gX0_keeping_X0_noneOf rfl rfl rfl (by decide +kernel) ⟨Nat.le_of_ble_eq_true rfl, Nat.le_of_ble_eq_true rfl⟩) ⟨fun a U g mk q => by obtain ⟨q0, q1, qP, qK, qD⟩ := q; exact ⟨q0, q1, qP, va_K.moved (u := U) (U := U.calling g mk a) (Vm.Alike.refl U.vm) qK, qD⟩, fun U hU hW => ⟨rfl, by rw [hU], by rw [hU]; exact hPc, va_K.moved hW.alike hKc, hDc.weaken (fun _ _ _ _ => trivial)⟩⟩ rfl rfl hl.1 rfl (lv_room (Nat.le_of_ble_eq_true rfl)) dX0_keeping_29 ⟨Nat.zero_le _, Nat.zero_le _⟩) hS (fun q _ h => hFc q h) hFc (fun r_4 u_c4 t H1 locs ht hvm hw hB hz1 hk1 hS => ?_)
      subst r_4
      obtain ⟨hP1, hK1, hD1⟩ := hB
      rw [ht] at hP1
      obtain ⟨hP, hD⟩ := va_join (wc := ([] : va_W)) (wr := ([] : va_W)) (w1 := ([] : va_W)) hP hD [] [] rfl rfl (by decide) (by decide) hk1 hFc hP1 hD1
      clear hPc hDc hKc hFc hz1 hk1 hP1 hK1 hD1
      generalize H1 = H at hP hS ⊢
      refine lv_lor hx hb dX0_keeping_32 ?_
      refine lv_goto (tgt := 37) hx hb dX0_keeping_33 (by decide) ?_
      have e9 := h
      exact W.lret (v := ((pf_X0_versionsOf p1 p2) ||| (pf_X0_noneOf p1))) hx hb hr (fun t ht hW => ⟨⟨((pf_X0_versionsOf p1 p2) ||| (pf_X0_noneOf p1)), (), rfl, e9, by rw [ht]; exact hP, va_K.moved hW.alike hK, hD⟩, hS.F ht⟩) hS.2.2 dX0_keeping_37
  · rw [if_pos c_2] at h
    refine lv_iload_n hx hb dX0_keeping_11 rfl (lv_at hl 2 rfl) ?_
    have hPc : va_P (dC, dI) vwCl ([] : va_W) H := hP.sub [] rfl
    have hDc : va_D A ([] : va_W) := hD.sub [] (by decide) rfl
    have hKc := hK.sub (tys' := []) [] rfl
    have hFc := va_free (wc := ([] : va_W)) hD hS hA [] rfl
    refine va_calll (va_runS (As := [.int p1]) (rest := []) ⟨hx, hb, hml, hown, hts⟩ (c_X0_allOf l dC dI H.size p1 _ rfl) (va_cwS 1 hts gX0_keeping_X0_allOf rfl rfl rfl (by decide +kernel) ⟨Nat.le_of_ble_eq_true rfl, Nat.le_of_ble_eq_true rfl⟩) ⟨fun a U g mk q => by obtain ⟨q0, q1, qP, qK, qD⟩ := q; exact ⟨q0, q1, qP, va_K.moved (u := U) (U := U.calling g mk a) (Vm.Alike.refl U.vm) qK, qD⟩, fun U hU hW => ⟨rfl, by rw [hU], by rw [hU]; exact hPc, va_K.moved hW.alike hKc, hDc.weaken (fun _ _ _ _ => trivial)⟩⟩ rfl rfl hl.1 rfl (lv_room (Nat.le_of_ble_eq_true rfl)) dX0_keeping_12 ⟨Nat.zero_le _, Nat.zero_le _⟩) hS (fun q _ h => hFc q h) hFc (fun r_5 u_c5 t H1 locs ht hvm hw hB hz1 hk1 hS => ?_)
    subst r_5
    obtain ⟨hP1, hK1, hD1⟩ := hB
    rw [ht] at hP1
    obtain ⟨hP, hD⟩ := va_join (wc := ([] : va_W)) (wr := ([] : va_W)) (w1 := ([] : va_W)) hP hD [] [] rfl rfl (by decide) (by decide) hk1 hFc hP1 hD1
    clear hPc hDc hKc hFc hz1 hk1 hP1 hK1 hD1
    generalize H1 = H at hP hS ⊢
    refine lv_lload_n hx hb dX0_keeping_15 rfl (lv_at hl 0 rfl) ?_
    refine lv_ldc2 (v := (-1 : Int64)) hx hb hown (hts (.constantLong RX0 55 (-1)) (List.mem_cons_of_mem _ tz_121)) dX0_keeping_16 ?_
    refine lv_lxor hx hb dX0_keeping_19 ?_
    refine lv_land hx hb dX0_keeping_20 ?_
    have e9 := h
    exact W.lret (v := ((pf_X0_allOf p1) &&& ((pf_X0_versionsOf p1 p2) ^^^ (-1 : Int64)))) hx hb hr (fun t ht hW => ⟨⟨((pf_X0_allOf p1) &&& ((pf_X0_versionsOf p1 p2) ^^^ (-1 : Int64))), (), rfl, e9, by rw [ht]; exact hP, va_K.moved hW.alike hK, hD⟩, hS.F ht⟩) hS.2.2 dX0_keeping_21
set_option maxHeartbeats 4000000 in
set_option maxRecDepth 100000 in
theorem c_X0_startAlternatives (l : Launch) (dC : Nat → ClassId) (dI : Nat → Nat → Nat) (hs : Nat → Nat) (ka : Nat → ClassId) (sz : Nat) (fu : Nat) (u : XS) (p0 : Int32) (p1 : Int32) (u' : XS) (h : pf_X0_startAlternatives fu p0 p1 u = some u') : Met l yX0_startAlternatives wzX0_startAlternatives ({ frames := 0, cells := 0, slots := 0, locals := 0 }) (va_Pc [.ref (hs 0), .int p0, .int p1] (fun U => U.heap.size = sz ∧ va_P (dC, dI) vwCl (cX hs ka u) U.heap ∧ va_K (dC, dI) vwCl (tX ka) U ∧ va_D (fun _ => True) (cX hs ka u))) (va_Qv (fun (u1 : XS) => u1 = u') (aX dC dI (va_A (cX hs ka u) sz) hs ka) (va_A (cX hs ka u) sz)) 0 0 (va_A (cX hs ka u) sz) := by
  refine Met.ofW (cc := cX0_startAlternatives) (maxL := 3) (ret := none) (by decide) rfl ?_
  intro p e s m args below meth c s₁ B hml hv
  obtain ⟨rfl, hsz, hP, hK, hD0⟩ := hv
  have hx := B.exec
  have hb := B.bytes
  have hr := B.returns
  have hts := atoms_spec (ws := wzX0_startAlternatives) B.pre
  have hown : s.vm.findClass RX0 = some m.cls := findClass_of_methodNamed B.named
  have hlocks := B.notSynchronized
  subst hsz
  have hD := hD0.self (sz := s.heap.size)
  generalize hAe : va_A (cX hs ka u) s.heap.size = A at hD ⊢
  have hA : ∀ q : Nat, s.heap.size ≤ q → A q := fun q h => by rw [← hAe]; exact Or.inr h
  have hS : va_S A s.heap s.heap [] := va_S.rf
  have hP : va_P (dC, dI) vwCl (cX hs ka u) s.heap := hP
  clear hD0 hAe
  have hin0 : ∀ w ∈ u_ws RX0 TX0 14, w ∈ wzX0_startAlternatives := fun w h => List.mem_cons_of_mem _ (inTX0 w h)
  have hf_72 := hts (.fieldLink RX0 72 "ConflictSolve" "alternativesFree" "I") (List.mem_cons_of_mem _ tz_52)
  have hf_75 := hts (.fieldLink RX0 75 "ConflictSolve" "latestIsDemand" "Z") (List.mem_cons_of_mem _ tz_53)
  have hl := lv_entry ([.ref (hs 0), .int p0, .int p1]) (n := 3) (Nat.le_of_ble_eq_true rfl)
  rw [lg_entry_eq]
  generalize (lg_sl ([.ref (hs 0), .int p0, .int p1]) ++ List.replicate (3 - (lg_sl ([.ref (hs 0), .int p0, .int p1])).length) Slot.unset).toArray = ls at hl ⊢
  have hl : lv_has ls 3 [(0, .ref (hs 0)), (1, .int p0), (2, .int p1)] := hl
  rw [pf_X0_startAlternatives] at h
  refine lv_aload_n hx hb dX0_startAlternatives_0 rfl (lv_at hl 0 rfl) ?_
  refine lv_iload_n hx hb dX0_startAlternatives_1 rfl (lv_at hl 1 rfl) ?_
  refine lv_if_ne (tgt := 9) hx hb dX0_startAlternatives_2 (by decide) (fun c_1 => ?_) (fun c_1 => ?_)
  · rw [if_neg c_1] at h
    refine lv_iconst (v := (0 : Int32)) hx hb dX0_startAlternatives_9 (by decide) ?_
    refine pt_X_alternativesFree hx hb hts hin0 hown hK hP hD hS hf_72 dX0_startAlternatives_10 (fun H locs hP hD hS => ?_)
    refine lv_aload_n hx hb dX0_startAlternatives_13 rfl (lv_at hl 0 rfl) ?_
    refine lv_iload_n hx hb dX0_startAlternatives_14 rfl (lv_at hl 2 rfl) ?_
    obtain ⟨g_2, h⟩ := og_some h
    refine pt_X_latestIsDemand hx hb hts hin0 hown hK hP hD hS hf_75 (bz_n g_2) (bz_f g_2) dX0_startAlternatives_15 (fun H locs hP hD hS => ?_)
    have e9 := Option.some.inj h
    exact W.vret hx hb hr (fun t ht hW => ⟨⟨(xs_latestIsDemand (xs_alternativesFree u (0 : Int32)) p1), rfl, e9, by rw [ht]; exact hP, va_K.moved hW.alike hK, hD⟩, hS.F ht⟩) hS.2.2 dX0_startAlternatives_18
  · rw [if_pos c_1] at h
    refine lv_iconst (v := (2 : Int32)) hx hb dX0_startAlternatives_5 (by decide) ?_
    refine lv_goto (tgt := 10) hx hb dX0_startAlternatives_6 (by decide) ?_
    refine pt_X_alternativesFree hx hb hts hin0 hown hK hP hD hS hf_72 dX0_startAlternatives_10 (fun H locs hP hD hS => ?_)
    refine lv_aload_n hx hb dX0_startAlternatives_13 rfl (lv_at hl 0 rfl) ?_
    refine lv_iload_n hx hb dX0_startAlternatives_14 rfl (lv_at hl 2 rfl) ?_
    obtain ⟨g_3, h⟩ := og_some h
    refine pt_X_latestIsDemand hx hb hts hin0 hown hK hP hD hS hf_75 (bz_n g_3) (bz_f g_3) dX0_startAlternatives_15 (fun H locs hP hD hS => ?_)
    have e9 := Option.some.inj h
    exact W.vret hx hb hr (fun t ht hW => ⟨⟨(xs_latestIsDemand (xs_alternativesFree u (2 : Int32)) p1), rfl, e9, by rw [ht]; exact hP, va_K.moved hW.alike hK, hD⟩, hS.F ht⟩) hS.2.2 dX0_startAlternatives_18
end
section
set_option maxHeartbeats 4000000 in
set_option maxRecDepth 100000 in
theorem c_X0_row (l : Launch) (dC : Nat → ClassId) (dI : Nat → Nat → Nat) (hs : Nat → Nat) (ka : Nat → ClassId) (sz : Nat) (fu : Nat) (u : XS) (p0 : Int32) (p1 : Int32) (p2 : Int32) (p3 : Int32) (p4 : Int32) (r : Int32) (u' : XS) (h : pf_X0_row fu p0 p1 p2 p3 p4 u = some (r, u')) : Met l yX0_row wzX0_row ({ frames := 3, cells := 0, slots := 0, locals := 64 }) (va_Pc [.ref (hs 0), .int p0, .int p1, .int p2, .int p3, .int p4] (fun U => U.heap.size = sz ∧ va_P (dC, dI) vwCl (cX hs ka u) U.heap ∧ va_K (dC, dI) vwCl (tX ka) U ∧ va_D (fun _ => True) (cX hs ka u))) (va_Qi (fun (r1 : Int32) (u1 : XS) => r1 = r ∧ u1 = u') (aX dC dI (va_A (cX hs ka u) sz) hs ka) (va_A (cX hs ka u) sz)) 0 0 (va_A (cX hs ka u) sz) := by
  refine Met.ofW (cc := cX0_row) (maxL := 8) (ret := (some .boolean)) (by decide) rfl ?_
  intro p e s m args below meth c s₁ B hml hv
  obtain ⟨rfl, hsz, hP, hK, hD0⟩ := hv
  have hx := B.exec
  have hb := B.bytes
  have hr := B.returns
  have hts := atoms_spec (ws := wzX0_row) B.pre
  have hown : s.vm.findClass RX0 = some m.cls := findClass_of_methodNamed B.named
  have hlocks := B.notSynchronized
  subst hsz
  have hD := hD0.self (sz := s.heap.size)
  generalize hAe : va_A (cX hs ka u) s.heap.size = A at hD ⊢
  have hA : ∀ q : Nat, s.heap.size ≤ q → A q := fun q h => by rw [← hAe]; exact Or.inr h
  have hS : va_S A s.heap s.heap [] := va_S.rf
  have hP : va_P (dC, dI) vwCl (cX hs ka u) s.heap := hP
  clear hD0 hAe
  have hin0 : ∀ w ∈ u_ws RX0 TX0 14, w ∈ wzX0_row := fun w h => List.mem_cons_of_mem _ (inTX0 w h)
  have hf_34 := hts (.fieldLink RX0 34 "ConflictSolve" "rows" "I") (List.mem_cons_of_mem _ tz_46)
  have hf_9 := hts (.fieldLink RX0 9 "ConflictSolve" "rowRules" "[J") (List.mem_cons_of_mem _ tz_42)
  have hl := lv_entry ([.ref (hs 0), .int p0, .int p1, .int p2, .int p3, .int p4]) (n := 8) (Nat.le_of_ble_eq_true rfl)
  rw [lg_entry_eq]
  generalize (lg_sl ([.ref (hs 0), .int p0, .int p1, .int p2, .int p3, .int p4]) ++ List.replicate (8 - (lg_sl ([.ref (hs 0), .int p0, .int p1, .int p2, .int p3, .int p4])).length) Slot.unset).toArray = ls at hl ⊢
  have hl : lv_has ls 8 [(0, .ref (hs 0)), (1, .int p0), (2, .int p1), (3, .int p2), (4, .int p3), (5, .int p4)] := hl
  rw [pf_X0_row] at h
  refine lv_aload_n hx hb dX0_row_0 rfl (lv_at hl 0 rfl) ?_
  refine gt_X_rows (V := (x_rows u)) hx hb hts hin0 hown hK hP hf_34 rfl dX0_row_1 ?_
  refine lv_bipush (v := (120 : Int32)) hx hb dX0_row_4 (by decide) ?_
  refine lv_icmp_ge (tgt := 34) hx hb dX0_row_6 (by decide) (fun c_1 => ?_) (fun c_1 => ?_)
  · rw [if_pos c_1] at h
    refine lv_iconst (v := (0 : Int32)) hx hb dX0_row_34 (by decide) ?_
    have e9 := Option.some.inj h
    exact W.zret (v := (0 : Int32)) hx hb hr rfl (fun t ht hW => ⟨⟨(0 : Int32), u, rfl, ⟨congrArg Prod.fst e9, congrArg Prod.snd e9⟩, by rw [ht]; exact hP, va_K.moved hW.alike hK, hD⟩, hS.F ht⟩) hS.2.2 dX0_row_35
  · rw [if_neg c_1] at h
    refine lv_aload_n hx hb dX0_row_9 rfl (lv_at hl 0 rfl) ?_
    refine lv_iload_n hx hb dX0_row_10 rfl (lv_at hl 1 rfl) ?_
    refine lv_iload_n hx hb dX0_row_11 rfl (lv_at hl 2 rfl) ?_
    have hPc := hP
    have hDc := hD
    have hKc := hK
    have hFc := fr_X hD hS hA
    refine va_calli (va_runV (As := [.int p0, .int p1]) (rest := []) ⟨hx, hb, hml, hown, hts⟩ (c_X0_hasVersion l dC dI hs ka s.heap.size u p0 p1 _ rfl) (cwV 2 hts gX0_row_X0_hasVersion rfl rfl rfl (by decide +kernel) ⟨Nat.le_of_ble_eq_true rfl, Nat.le_of_ble_eq_true rfl⟩) ⟨fun a U g mk q => by obtain ⟨q0, q1, qP, qK, qD⟩ := q; exact ⟨q0, q1, qP, va_K.moved (u := U) (U := U.calling g mk a) (Vm.Alike.refl U.vm) qK, qD⟩, rc_X hKc hPc, fun U hU hW => ⟨rfl, by rw [hU], by rw [hU]; exact hPc, va_K.moved hW.alike hKc, hDc.weaken (fun _ _ _ _ => trivial)⟩⟩ rfl rfl hl.1 rfl (lv_room (Nat.le_of_ble_eq_true rfl)) dX0_row_12 ⟨Nat.zero_le _, Nat.zero_le _⟩) hS (fun q _ h => hFc q h) hFc (fun r_2 u_c2 t H1 locs ht hvm hw hB hz1 hk1 hS => ?_)
    obtain ⟨hw1, hw2⟩ := hw
    subst r_2
    subst u_c2
    obtain ⟨hP1, hK1, hD1⟩ := hB
    rw [ht] at hP1
    obtain ⟨hP, hD⟩ := jw_X hP hD hk1 hFc hP1 hD1
    clear hPc hDc hKc hFc hz1 hk1 hP1 hK1 hD1
    generalize H1 = H at hP hS ⊢
    refine lv_if_eq (tgt := 34) hx hb dX0_row_15 (by decide) (fun c_3 => ?_) (fun c_3 => ?_)
    · rw [if_pos c_3] at h
      refine lv_iconst (v := (0 : Int32)) hx hb dX0_row_34 (by decide) ?_
      have e9 := Option.some.inj h
      exact W.zret (v := (0 : Int32)) hx hb hr rfl (fun t ht hW => ⟨⟨(0 : Int32), u, rfl, ⟨congrArg Prod.fst e9, congrArg Prod.snd e9⟩, by rw [ht]; exact hP, va_K.moved hW.alike hK, hD⟩, hS.F ht⟩) hS.2.2 dX0_row_35
    · rw [if_neg c_3] at h
      refine lv_iload_n hx hb dX0_row_18 rfl (lv_at hl 3 rfl) ?_
      have hPc : va_P (dC, dI) vwCl ([] : va_W) H := hP.sub [] rfl
      have hDc : va_D A ([] : va_W) := hD.sub [] (by decide) rfl
      have hKc := hK.sub (tys' := []) [] rfl
      have hFc := fn_X hD hS hA
      refine va_calli (va_runS (As := [.int p2]) (rest := []) ⟨hx, hb, hml, hown, hts⟩ (c_X0_isKind l dC dI H.size p2 _ rfl) (va_cwS 1 hts gX0_row_X0_isKind rfl rfl rfl (by decide +kernel) ⟨Nat.le_of_ble_eq_true rfl, Nat.le_of_ble_eq_true rfl⟩) ⟨fun a U g mk q => by obtain ⟨q0, q1, qP, qK, qD⟩ := q; exact ⟨q0, q1, qP, va_K.moved (u := U) (U := U.calling g mk a) (Vm.Alike.refl U.vm) qK, qD⟩, fun U hU hW => ⟨rfl, by rw [hU], by rw [hU]; exact hPc, va_K.moved hW.alike hKc, hDc.weaken (fun _ _ _ _ => trivial)⟩⟩ rfl rfl hl.1 rfl (lv_room (Nat.le_of_ble_eq_true rfl)) dX0_row_19 ⟨Nat.zero_le _, Nat.zero_le _⟩) hS (fun q _ h => hFc q h) hFc (fun r_4 u_c4 t H1 locs ht hvm hw hB hz1 hk1 hS => ?_)
      subst r_4
      obtain ⟨hP1, hK1, hD1⟩ := hB
      rw [ht] at hP1
      obtain ⟨hP, hD⟩ := js_X hP hD hk1 hFc hP1 hD1
      clear hPc hDc hKc hFc hz1 hk1 hP1 hK1 hD1
      generalize H1 = H at hP hS ⊢
      refine lv_if_eq (tgt := 34) hx hb dX0_row_22 (by decide) (fun c_5 => ?_) (fun c_5 => ?_)
      · rw [if_pos c_5] at h
        refine lv_iconst (v := (0 : Int32)) hx hb dX0_row_34 (by decide) ?_
        have e9 := Option.some.inj h
        exact W.zret (v := (0 : Int32)) hx hb hr rfl (fun t ht hW => ⟨⟨(0 : Int32), u, rfl, ⟨congrArg Prod.fst e9, congrArg Prod.snd e9⟩, by rw [ht]; exact hP, va_K.moved hW.alike hK, hD⟩, hS.F ht⟩) hS.2.2 dX0_row_35
      · rw [if_neg c_5] at h
        refine lv_aload_n hx hb dX0_row_25 rfl (lv_at hl 0 rfl) ?_
        refine lv_iload hx hb dX0_row_26 (lv_at hl 4 rfl) ?_
        have hPc := hP
        have hDc := hD
        have hKc := hK
        have hFc := fr_X hD hS hA
        refine va_calli (va_runV (As := [.int p3]) (rest := []) ⟨hx, hb, hml, hown, hts⟩ (c_X0_hasPack l dC dI hs ka H.size u p3 _ rfl) (cwV 1 hts gX0_row_X0_hasPack rfl rfl rfl (by decide +kernel) ⟨Nat.le_of_ble_eq_true rfl, Nat.le_of_ble_eq_true rfl⟩) ⟨fun a U g mk q => by obtain ⟨q0, q1, qP, qK, qD⟩ := q; exact ⟨q0, q1, qP, va_K.moved (u := U) (U := U.calling g mk a) (Vm.Alike.refl U.vm) qK, qD⟩, rc_X hKc hPc, fun U hU hW => ⟨rfl, by rw [hU], by rw [hU]; exact hPc, va_K.moved hW.alike hKc, hDc.weaken (fun _ _ _ _ => trivial)⟩⟩ rfl rfl hl.1 rfl (lv_room (Nat.le_of_ble_eq_true rfl)) dX0_row_28 ⟨Nat.zero_le _, Nat.zero_le _⟩) hS (fun q _ h => hFc q h) hFc (fun r_6 u_c6 t H1 locs ht hvm hw hB hz1 hk1 hS => ?_)
        obtain ⟨hw1, hw2⟩ := hw
        subst r_6
        subst u_c6
        obtain ⟨hP1, hK1, hD1⟩ := hB
        rw [ht] at hP1
        obtain ⟨hP, hD⟩ := jw_X hP hD hk1 hFc hP1 hD1
        clear hPc hDc hKc hFc hz1 hk1 hP1 hK1 hD1
        generalize H1 = H at hP hS ⊢
        refine lv_if_ne (tgt := 36) hx hb dX0_row_31 (by decide) (fun c_7 => ?_) (fun c_7 => ?_)
        · rw [if_neg c_7] at h
          refine lv_iload_n hx hb dX0_row_36 rfl (lv_at hl 1 rfl) ?_
          have hPc : va_P (dC, dI) vwCl ([] : va_W) H := hP.sub [] rfl
          have hDc : va_D A ([] : va_W) := hD.sub [] (by decide) rfl
          have hKc := hK.sub (tys' := []) [] rfl
          have hFc := fn_X hD hS hA
          refine va_calll (va_runS (As := [.int p0]) (rest := []) ⟨hx, hb, hml, hown, hts⟩ (c_X0_allOf l dC dI H.size p0 _ rfl) (va_cwS 1 hts gX0_row_X0_allOf rfl rfl rfl (by decide +kernel) ⟨Nat.le_of_ble_eq_true rfl, Nat.le_of_ble_eq_true rfl⟩) ⟨fun a U g mk q => by obtain ⟨q0, q1, qP, qK, qD⟩ := q; exact ⟨q0, q1, qP, va_K.moved (u := U) (U := U.calling g mk a) (Vm.Alike.refl U.vm) qK, qD⟩, fun U hU hW => ⟨rfl, by rw [hU], by rw [hU]; exact hPc, va_K.moved hW.alike hKc, hDc.weaken (fun _ _ _ _ => trivial)⟩⟩ rfl rfl hl.1 rfl (lv_room (Nat.le_of_ble_eq_true rfl)) dX0_row_37 ⟨Nat.zero_le _, Nat.zero_le _⟩) hS (fun q _ h => hFc q h) hFc (fun r_8 u_c8 t H1 locs ht hvm hw hB hz1 hk1 hS => ?_)
          subst r_8
          obtain ⟨hP1, hK1, hD1⟩ := hB
          rw [ht] at hP1
          obtain ⟨hP, hD⟩ := js_X hP hD hk1 hFc hP1 hD1
          clear hPc hDc hKc hFc hz1 hk1 hP1 hK1 hD1
          generalize H1 = H at hP hS ⊢
          refine lv_iload_n hx hb dX0_row_40 rfl (lv_at hl 1 rfl) ?_
          refine lv_iload_n hx hb dX0_row_41 rfl (lv_at hl 2 rfl) ?_
          have hPc : va_P (dC, dI) vwCl ([] : va_W) H := hP.sub [] rfl
          have hDc : va_D A ([] : va_W) := hD.sub [] (by decide) rfl
          have hKc := hK.sub (tys' := []) [] rfl
          have hFc := fn_X hD hS hA
          refine va_calll (va_runS (As := [.int p0, .int p1]) (rest := [.long (pf_X0_allOf p0)]) ⟨hx, hb, hml, hown, hts⟩ (c_X0_placeOf l dC dI H.size p0 p1 _ rfl) (va_cwS 2 hts gX0_row_X0_placeOf rfl rfl rfl (by decide +kernel) ⟨Nat.le_of_ble_eq_true rfl, Nat.le_of_ble_eq_true rfl⟩) ⟨fun a U g mk q => by obtain ⟨q0, q1, qP, qK, qD⟩ := q; exact ⟨q0, q1, qP, va_K.moved (u := U) (U := U.calling g mk a) (Vm.Alike.refl U.vm) qK, qD⟩, fun U hU hW => ⟨rfl, by rw [hU], by rw [hU]; exact hPc, va_K.moved hW.alike hKc, hDc.weaken (fun _ _ _ _ => trivial)⟩⟩ rfl rfl hl.1 rfl (lv_room (Nat.le_of_ble_eq_true rfl)) dX0_row_42 ⟨Nat.zero_le _, Nat.zero_le _⟩) hS (fun q _ h => hFc q h) hFc (fun r_9 u_c9 t H1 locs ht hvm hw hB hz1 hk1 hS => ?_)
          subst r_9
          obtain ⟨hP1, hK1, hD1⟩ := hB
          rw [ht] at hP1
          obtain ⟨hP, hD⟩ := js_X hP hD hk1 hFc hP1 hD1
          clear hPc hDc hKc hFc hz1 hk1 hP1 hK1 hD1
          generalize H1 = H at hP hS ⊢
          refine lv_ldc2 (v := (-1 : Int64)) hx hb hown (hts (.constantLong RX0 55 (-1)) (List.mem_cons_of_mem _ tz_121)) dX0_row_45 ?_
          refine lv_lxor hx hb dX0_row_48 ?_
          refine lv_land hx hb dX0_row_49 ?_
          refine lv_lstore (lv' := [(6, .long ((pf_X0_allOf p0) &&& ((pf_X0_placeOf p0 p1) ^^^ (-1 : Int64)))), (0, .ref (hs 0)), (1, .int p0), (2, .int p1), (3, .int p2), (4, .int p3), (5, .int p4)]) hx hb dX0_row_50 hl (by decide) rfl (fun ls hl => ?_)
          refine lv_aload_n hx hb dX0_row_52 rfl (lv_at hl 1 rfl) ?_
          refine gt_X_rowRules hx hb hts hin0 hown hK hP hf_9 dX0_row_53 ?_
          refine lv_aload_n hx hb dX0_row_56 rfl (lv_at hl 1 rfl) ?_
          refine gt_X_rows (V := (x_rows u)) hx hb hts hin0 hown hK hP hf_34 rfl dX0_row_57 ?_
          refine lv_lload hx hb dX0_row_60 (lv_at hl 0 rfl) ?_
          refine lv_iload_n hx hb dX0_row_62 rfl (lv_at hl 4 rfl) ?_
          refine lv_iload hx hb dX0_row_63 (lv_at hl 5 rfl) ?_
          refine lv_iload hx hb dX0_row_65 (lv_at hl 6 rfl) ?_
          have hPc : va_P (dC, dI) vwCl ([] : va_W) H := hP.sub [] rfl
          have hDc : va_D A ([] : va_W) := hD.sub [] (by decide) rfl
          have hKc := hK.sub (tys' := []) [] rfl
          have hFc := fn_X hD hS hA
          refine va_calll (va_runS (As := [.int p2, .int p3, .int p4]) (rest := [.long ((pf_X0_allOf p0) &&& ((pf_X0_placeOf p0 p1) ^^^ (-1 : Int64))), .int (x_rows u), .ref (hs 1)]) ⟨hx, hb, hml, hown, hts⟩ (c_X0_keeping l dC dI H.size p2 p3 p4 _ rfl) (va_cwS 3 hts gX0_row_X0_keeping rfl rfl rfl (by decide +kernel) ⟨Nat.le_of_ble_eq_true rfl, Nat.le_of_ble_eq_true rfl⟩) ⟨fun a U g mk q => by obtain ⟨q0, q1, qP, qK, qD⟩ := q; exact ⟨q0, q1, qP, va_K.moved (u := U) (U := U.calling g mk a) (Vm.Alike.refl U.vm) qK, qD⟩, fun U hU hW => ⟨rfl, by rw [hU], by rw [hU]; exact hPc, va_K.moved hW.alike hKc, hDc.weaken (fun _ _ _ _ => trivial)⟩⟩ rfl rfl hl.1 rfl (lv_room (Nat.le_of_ble_eq_true rfl)) dX0_row_67 ⟨Nat.zero_le _, Nat.zero_le _⟩) hS (fun q _ h => hFc q h) hFc (fun r_10 u_c10 t H1 locs ht hvm hw hB hz1 hk1 hS => ?_)
          subst r_10
          obtain ⟨hP1, hK1, hD1⟩ := hB
          rw [ht] at hP1
          obtain ⟨hP, hD⟩ := js_X hP hD hk1 hFc hP1 hD1
          clear hPc hDc hKc hFc hz1 hk1 hP1 hK1 hD1
          generalize H1 = H at hP hS ⊢
          refine lv_lor hx hb dX0_row_70 ?_
          obtain ⟨g_11, h⟩ := og_some h
          refine sr_X_rowRules (F := (x_rowRules u)) hx hb hK hP hD hS rfl (inb_in g_11) dX0_row_71 (fun H locs hP hD hS => ?_)
          refine lv_aload_n hx hb dX0_row_72 rfl (lv_at hl 1 rfl) ?_
          refine lv_dup hx hb dX0_row_73 rfl ?_
          refine gt_X_rows (V := (x_rows u)) hx hb hts hin0 hown hK hP hf_34 (rq_x_rows_rowRules u (vp_updL (x_rowRules u) (x_rows u).toNatClampNeg (((pf_X0_allOf p0) &&& ((pf_X0_placeOf p0 p1) ^^^ (-1 : Int64))) ||| (pf_X0_keeping p2 p3 p4)))) dX0_row_74 ?_
          refine lv_iconst (v := (1 : Int32)) hx hb dX0_row_77 (by decide) ?_
          refine lv_iadd hx hb dX0_row_78 ?_
          refine pt_X_rows hx hb hts hin0 hown hK hP hD hS hf_34 dX0_row_79 (fun H locs hP hD hS => ?_)
          refine lv_aload_n hx hb dX0_row_82 rfl (lv_at hl 1 rfl) ?_
          refine lv_iload_n hx hb dX0_row_83 rfl (lv_at hl 4 rfl) ?_
          refine lv_iconst (v := (0 : Int32)) hx hb dX0_row_84 (by decide) ?_
          obtain ⟨q_12, hc_12, h⟩ := ob_some h
          have hPc := hP
          have hDc := hD
          have hKc := hK
          have hFc := fr_X hD hS hA
          refine va_callv (va_runV (As := [.int p2, .int (0 : Int32)]) (rest := []) ⟨hx, hb, hml, hown, hts⟩ (c_X0_startAlternatives l dC dI hs ka H.size fu (xs_rows (xs_rowRules u (vp_updL (x_rowRules u) (x_rows u).toNatClampNeg (((pf_X0_allOf p0) &&& ((pf_X0_placeOf p0 p1) ^^^ (-1 : Int64))) ||| (pf_X0_keeping p2 p3 p4)))) ((x_rows u) + (1 : Int32))) p2 (0 : Int32) q_12 hc_12) (cwV 2 hts gX0_row_X0_startAlternatives rfl rfl rfl (by decide +kernel) ⟨Nat.le_of_ble_eq_true rfl, Nat.le_of_ble_eq_true rfl⟩) ⟨fun a U g mk q => by obtain ⟨q0, q1, qP, qK, qD⟩ := q; exact ⟨q0, q1, qP, va_K.moved (u := U) (U := U.calling g mk a) (Vm.Alike.refl U.vm) qK, qD⟩, rc_X hKc hPc, fun U hU hW => ⟨rfl, by rw [hU], by rw [hU]; exact hPc, va_K.moved hW.alike hKc, hDc.weaken (fun _ _ _ _ => trivial)⟩⟩ rfl rfl hl.1 rfl (lv_room (Nat.le_of_ble_eq_true rfl)) dX0_row_85 ⟨Nat.zero_le _, Nat.zero_le _⟩) hS (fun q _ h => hFc q h) hFc (fun u_c12 t H1 locs ht hvm hw hB hz1 hk1 hS => ?_)
          subst u_c12
          obtain ⟨hP1, hK1, hD1⟩ := hB
          rw [ht] at hP1
          obtain ⟨hP, hD⟩ := jw_X hP hD hk1 hFc hP1 hD1
          clear hPc hDc hKc hFc hz1 hk1 hP1 hK1 hD1
          generalize H1 = H at hP hS ⊢
          refine lv_iconst (v := (1 : Int32)) hx hb dX0_row_88 (by decide) ?_
          have e9 := Option.some.inj h
          exact W.zret (v := (1 : Int32)) hx hb hr rfl (fun t ht hW => ⟨⟨(1 : Int32), q_12, rfl, ⟨congrArg Prod.fst e9, congrArg Prod.snd e9⟩, by rw [ht]; exact hP, va_K.moved hW.alike hK, hD⟩, hS.F ht⟩) hS.2.2 dX0_row_89
        · rw [if_pos c_7] at h
          refine lv_iconst (v := (0 : Int32)) hx hb dX0_row_34 (by decide) ?_
          have e9 := Option.some.inj h
          exact W.zret (v := (0 : Int32)) hx hb hr rfl (fun t ht hW => ⟨⟨(0 : Int32), u, rfl, ⟨congrArg Prod.fst e9, congrArg Prod.snd e9⟩, by rw [ht]; exact hP, va_K.moved hW.alike hK, hD⟩, hS.F ht⟩) hS.2.2 dX0_row_35
set_option maxHeartbeats 4000000 in
set_option maxRecDepth 100000 in
theorem c_X0_positionOf (l : Launch) (dC : Nat → ClassId) (dI : Nat → Nat → Nat) (hs : Nat → Nat) (ka : Nat → ClassId) (sz : Nat) (fu : Nat) (u : XS) (p0 : Int32) (r : Int32) (h : pf_X0_positionOf fu p0 u = some r) : Met l yX0_positionOf wzX0_positionOf ({ frames := 0, cells := 0, slots := 0, locals := 0 }) (va_Pc [.ref (hs 0), .int p0] (fun U => U.heap.size = sz ∧ va_P (dC, dI) vwCl (cX hs ka u) U.heap ∧ va_K (dC, dI) vwCl (tX ka) U ∧ va_D (fun _ => True) (cX hs ka u))) (va_Qi (fun (r1 : Int32) (u1 : XS) => r1 = r ∧ u1 = u) (aX dC dI (va_A (cX hs ka u) sz) hs ka) (va_A (cX hs ka u) sz)) 0 0 (va_A (cX hs ka u) sz) := by
  refine Met.ofW (cc := cX0_positionOf) (maxL := 3) (ret := (some .int)) (by decide) rfl ?_
  intro p e s m args below meth c s₁ B hml hv
  obtain ⟨rfl, hsz, hP, hK, hD0⟩ := hv
  have hx := B.exec
  have hb := B.bytes
  have hr := B.returns
  have hts := atoms_spec (ws := wzX0_positionOf) B.pre
  have hown : s.vm.findClass RX0 = some m.cls := findClass_of_methodNamed B.named
  have hlocks := B.notSynchronized
  subst hsz
  have hD := hD0.self (sz := s.heap.size)
  generalize hAe : va_A (cX hs ka u) s.heap.size = A at hD ⊢
  have hA : ∀ q : Nat, s.heap.size ≤ q → A q := fun q h => by rw [← hAe]; exact Or.inr h
  have hS : va_S A s.heap s.heap [] := va_S.rf
  have hP : va_P (dC, dI) vwCl (cX hs ka u) s.heap := hP
  clear hD0 hAe
  have hin0 : ∀ w ∈ u_ws RX0 TX0 14, w ∈ wzX0_positionOf := fun w h => List.mem_cons_of_mem _ (inTX0 w h)
  have hf_16 := hts (.fieldLink RX0 16 "ConflictSolve" "order" "[I") (List.mem_cons_of_mem _ tz_44)
  have hl := lv_entry ([.ref (hs 0), .int p0]) (n := 3) (Nat.le_of_ble_eq_true rfl)
  rw [lg_entry_eq]
  generalize (lg_sl ([.ref (hs 0), .int p0]) ++ List.replicate (3 - (lg_sl ([.ref (hs 0), .int p0])).length) Slot.unset).toArray = ls at hl ⊢
  have hl : lv_has ls 3 [(0, .ref (hs 0)), (1, .int p0)] := hl
  rw [pf_X0_positionOf] at h
  refine lv_iconst (v := (0 : Int32)) hx hb dX0_positionOf_0 (by decide) ?_
  refine lv_istore_n (lv' := [(2, .int (0 : Int32)), (0, .ref (hs 0)), (1, .int p0)]) hx hb dX0_positionOf_1 rfl hl (by decide) rfl (fun ls hl => ?_)
  have lp_2 : ∀ K_2 : Int32 → Option (Int32), (∀ (x2_2 : Int32) (H : Heap) (locs : List Loc) (ls : Array Slot), K_2 x2_2 = some r → va_P (dC, dI) vwCl (cX hs ka u) H → va_D A (cX hs ka u) → va_S A s.heap H locs → lv_has ls 3 [(2, .int x2_2), (0, .ref (hs 0)), (1, .int p0)] → W p l e (headSpec wzX0_positionOf ({ frames := 0, cells := 0, slots := 0, locals := 0 })).room s m ([.ref (hs 0), .int p0] : List Value).toArray below meth c H locs 0 0 (MQ below (va_Qi (fun (r1 : Int32) (u1 : XS) => r1 = r ∧ u1 = u) (aX dC dI A hs ka) A) ([.ref (hs 0), .int p0] : List Value).toArray s 0 0 A) (F0 m 26 ls [])) → ∀ n_2 : Nat, ∀ (x2_2 : Int32) (H : Heap) (locs : List Loc) (ls : Array Slot), pl_X0_positionOf_2 fu p0 u K_2 n_2 x2_2 = some r → va_P (dC, dI) vwCl (cX hs ka u) H → va_D A (cX hs ka u) → va_S A s.heap H locs → lv_has ls 3 [(2, .int x2_2), (0, .ref (hs 0)), (1, .int p0)] → W p l e (headSpec wzX0_positionOf ({ frames := 0, cells := 0, slots := 0, locals := 0 })).room s m ([.ref (hs 0), .int p0] : List Value).toArray below meth c H locs 0 0 (MQ below (va_Qi (fun (r1 : Int32) (u1 : XS) => r1 = r ∧ u1 = u) (aX dC dI A hs ka) A) ([.ref (hs 0), .int p0] : List Value).toArray s 0 0 A) (F0 m 2 ls []) := by
    intro K_2 hk_2 n_2
    induction n_2 with
    | zero =>
      intro x2_2 H locs ls h
      exact absurd (show (none : Option (Int32)) = some r from h) (fun q => by cases q)
    | succ n_2 ih_2 =>
      intro x2_2 H locs ls h hP hD hS hl
      rw [pl_X0_positionOf_2] at h
      refine lv_iload_n hx hb dX0_positionOf_2 rfl (lv_at hl 0 rfl) ?_
      refine lv_bipush (v := (8 : Int32)) hx hb dX0_positionOf_3 (by decide) ?_
      refine lv_icmp_ge (tgt := 26) hx hb dX0_positionOf_5 (by decide) (fun c_1 => ?_) (fun c_1 => ?_)
      · rw [if_pos c_1] at h
        exact hk_2 x2_2 _ _ _ h hP hD hS (lv_sub hl [0, 1, 2] rfl)
      · rw [if_neg c_1] at h
        refine lv_aload_n hx hb dX0_positionOf_8 rfl (lv_at hl 1 rfl) ?_
        refine gt_X_order hx hb hts hin0 hown hK hP hf_16 dX0_positionOf_9 ?_
        refine lv_iload_n hx hb dX0_positionOf_12 rfl (lv_at hl 0 rfl) ?_
        obtain ⟨g_2, h⟩ := og_some h
        refine ld_X_order (F := (x_order u)) hx hb hK hP rfl (inb_in g_2) dX0_positionOf_13 ?_
        refine lv_iload_n hx hb dX0_positionOf_14 rfl (lv_at hl 2 rfl) ?_
        refine lv_icmp_ne (tgt := 20) hx hb dX0_positionOf_15 (by decide) (fun c_3 => ?_) (fun c_3 => ?_)
        · rw [if_neg c_3] at h
          refine lv_iinc (v := (x2_2 + (1 : Int32))) (lv' := [(2, .int (x2_2 + (1 : Int32))), (0, .ref (hs 0)), (1, .int p0)]) hx hb dX0_positionOf_20 hl (k := 0) rfl (congrArg (fun z : Int32 => x2_2 + z) (by decide : Int32.ofInt (1) = (1 : Int32))) (by decide) rfl (fun ls hl => ?_)
          refine lv_goto (tgt := 2) hx hb dX0_positionOf_23 (by decide) ?_
          exact ih_2 (x2_2 + (1 : Int32)) _ _ _ h hP hD hS (lv_sub hl [0, 1, 2] rfl)
        · rw [if_pos c_3] at h
          refine lv_iload_n hx hb dX0_positionOf_18 rfl (lv_at hl 0 rfl) ?_
          have e9 := Option.some.inj h
          exact W.iret (v := x2_2) hx hb hr (fun t ht hW => ⟨⟨x2_2, u, rfl, ⟨e9, rfl⟩, by rw [ht]; exact hP, va_K.moved hW.alike hK, hD⟩, hS.F ht⟩) hS.2.2 dX0_positionOf_19
  refine lp_2 _ (fun x2_2 H locs ls h hP hD hS hl => ?_) fu (0 : Int32) _ _ _ h hP hD hS hl
  refine lv_bipush (v := (8 : Int32)) hx hb dX0_positionOf_26 (by decide) ?_
  have e9 := Option.some.inj h
  exact W.iret (v := (8 : Int32)) hx hb hr (fun t ht hW => ⟨⟨(8 : Int32), u, rfl, ⟨e9, rfl⟩, by rw [ht]; exact hP, va_K.moved hW.alike hK, hD⟩, hS.F ht⟩) hS.2.2 dX0_positionOf_28
set_option maxHeartbeats 4000000 in
set_option maxRecDepth 100000 in
theorem c_X0_moveToNeeded (l : Launch) (dC : Nat → ClassId) (dI : Nat → Nat → Nat) (hs : Nat → Nat) (ka : Nat → ClassId) (sz : Nat) (fu : Nat) (u : XS) (p0 : Int32) (u' : XS) (h : pf_X0_moveToNeeded fu p0 u = some u') : Met l yX0_moveToNeeded wzX0_moveToNeeded ({ frames := 1, cells := 0, slots := 0, locals := 22 }) (va_Pc [.ref (hs 0), .int p0] (fun U => U.heap.size = sz ∧ va_P (dC, dI) vwCl (cX hs ka u) U.heap ∧ va_K (dC, dI) vwCl (tX ka) U ∧ va_D (fun _ => True) (cX hs ka u))) (va_Qv (fun (u1 : XS) => u1 = u') (aX dC dI (va_A (cX hs ka u) sz) hs ka) (va_A (cX hs ka u) sz)) 0 0 (va_A (cX hs ka u) sz) := by
  refine Met.ofW (cc := cX0_moveToNeeded) (maxL := 4) (ret := none) (by decide) rfl ?_
  intro p e s m args below meth c s₁ B hml hv
  obtain ⟨rfl, hsz, hP, hK, hD0⟩ := hv
  have hx := B.exec
  have hb := B.bytes
  have hr := B.returns
  have hts := atoms_spec (ws := wzX0_moveToNeeded) B.pre
  have hown : s.vm.findClass RX0 = some m.cls := findClass_of_methodNamed B.named
  have hlocks := B.notSynchronized
  subst hsz
  have hD := hD0.self (sz := s.heap.size)
  generalize hAe : va_A (cX hs ka u) s.heap.size = A at hD ⊢
  have hA : ∀ q : Nat, s.heap.size ≤ q → A q := fun q h => by rw [← hAe]; exact Or.inr h
  have hS : va_S A s.heap s.heap [] := va_S.rf
  have hP : va_P (dC, dI) vwCl (cX hs ka u) s.heap := hP
  clear hD0 hAe
  have hin0 : ∀ w ∈ u_ws RX0 TX0 14, w ∈ wzX0_moveToNeeded := fun w h => List.mem_cons_of_mem _ (inTX0 w h)
  have hf_133 := hts (.fieldLink RX0 133 "ConflictSolve" "neededPacks" "I") (List.mem_cons_of_mem _ tz_48)
  have hf_16 := hts (.fieldLink RX0 16 "ConflictSolve" "order" "[I") (List.mem_cons_of_mem _ tz_44)
  have hl := lv_entry ([.ref (hs 0), .int p0]) (n := 4) (Nat.le_of_ble_eq_true rfl)
  rw [lg_entry_eq]
  generalize (lg_sl ([.ref (hs 0), .int p0]) ++ List.replicate (4 - (lg_sl ([.ref (hs 0), .int p0])).length) Slot.unset).toArray = ls at hl ⊢
  have hl : lv_has ls 4 [(0, .ref (hs 0)), (1, .int p0)] := hl
  rw [pf_X0_moveToNeeded] at h
  refine lv_aload_n hx hb dX0_moveToNeeded_0 rfl (lv_at hl 0 rfl) ?_
  refine lv_iload_n hx hb dX0_moveToNeeded_1 rfl (lv_at hl 1 rfl) ?_
  obtain ⟨q_1, hc_1, h⟩ := ob_some h
  have hPc := hP
  have hDc := hD
  have hKc := hK
  have hFc := fr_X hD hS hA
  refine va_calli (va_runV (As := [.int p0]) (rest := []) ⟨hx, hb, hml, hown, hts⟩ (c_X0_positionOf l dC dI hs ka s.heap.size fu u p0 q_1 hc_1) (cwV 1 hts gX0_moveToNeeded_X0_positionOf rfl rfl rfl (by decide +kernel) ⟨Nat.le_of_ble_eq_true rfl, Nat.le_of_ble_eq_true rfl⟩) ⟨fun a U g mk q => by obtain ⟨q0, q1, qP, qK, qD⟩ := q; exact ⟨q0, q1, qP, va_K.moved (u := U) (U := U.calling g mk a) (Vm.Alike.refl U.vm) qK, qD⟩, rc_X hKc hPc, fun U hU hW => ⟨rfl, by rw [hU], by rw [hU]; exact hPc, va_K.moved hW.alike hKc, hDc.weaken (fun _ _ _ _ => trivial)⟩⟩ rfl rfl hl.1 rfl (lv_room (Nat.le_of_ble_eq_true rfl)) dX0_moveToNeeded_2 ⟨Nat.zero_le _, Nat.zero_le _⟩) hS (fun q _ h => hFc q h) hFc (fun r_1 u_c1 t H1 locs ht hvm hw hB hz1 hk1 hS => ?_)
  obtain ⟨hw1, hw2⟩ := hw
  subst r_1
  subst u_c1
  obtain ⟨hP1, hK1, hD1⟩ := hB
  rw [ht] at hP1
  obtain ⟨hP, hD⟩ := jw_X hP hD hk1 hFc hP1 hD1
  clear hPc hDc hKc hFc hz1 hk1 hP1 hK1 hD1
  generalize H1 = H at hP hS ⊢
  refine lv_istore_n (lv' := [(2, .int q_1), (0, .ref (hs 0)), (1, .int p0)]) hx hb dX0_moveToNeeded_5 rfl hl (by decide) rfl (fun ls hl => ?_)
  refine lv_iload_n hx hb dX0_moveToNeeded_6 rfl (lv_at hl 0 rfl) ?_
  refine lv_aload_n hx hb dX0_moveToNeeded_7 rfl (lv_at hl 1 rfl) ?_
  refine gt_X_neededPacks (V := (x_neededPacks u)) hx hb hts hin0 hown hK hP hf_133 rfl dX0_moveToNeeded_8 ?_
  refine lv_icmp_lt (tgt := 20) hx hb dX0_moveToNeeded_11 (by decide) (fun c_2 => ?_) (fun c_2 => ?_)
  · rw [if_pos c_2] at h
    have e9 := Option.some.inj h
    exact W.vret hx hb hr (fun t ht hW => ⟨⟨u, rfl, e9, by rw [ht]; exact hP, va_K.moved hW.alike hK, hD⟩, hS.F ht⟩) hS.2.2 dX0_moveToNeeded_20
  · rw [if_neg c_2] at h
    refine lv_iload_n hx hb dX0_moveToNeeded_14 rfl (lv_at hl 0 rfl) ?_
    refine lv_bipush (v := (8 : Int32)) hx hb dX0_moveToNeeded_15 (by decide) ?_
    refine lv_icmp_lt (tgt := 21) hx hb dX0_moveToNeeded_17 (by decide) (fun c_3 => ?_) (fun c_3 => ?_)
    · rw [if_pos c_3] at h
      refine lv_iload_n hx hb dX0_moveToNeeded_21 rfl (lv_at hl 0 rfl) ?_
      refine lv_istore_n (lv' := [(3, .int q_1), (2, .int q_1), (0, .ref (hs 0)), (1, .int p0)]) hx hb dX0_moveToNeeded_22 rfl hl (by decide) rfl (fun ls hl => ?_)
      have lp_23 : ∀ K_23 : Int32 → XS → Option (XS), (∀ (x3_23 : Int32) (u_23 : XS) (H : Heap) (locs : List Loc) (ls : Array Slot), K_23 x3_23 u_23 = some u' → va_P (dC, dI) vwCl (cX hs ka u_23) H → va_D A (cX hs ka u_23) → va_S A s.heap H locs → lv_has ls 4 [(3, .int x3_23), (2, .int q_1), (0, .ref (hs 0)), (1, .int p0)] → W p l e (headSpec wzX0_moveToNeeded ({ frames := 1, cells := 0, slots := 0, locals := 22 })).room s m ([.ref (hs 0), .int p0] : List Value).toArray below meth c H locs 0 0 (MQ below (va_Qv (fun (u1 : XS) => u1 = u') (aX dC dI A hs ka) A) ([.ref (hs 0), .int p0] : List Value).toArray s 0 0 A) (F0 m 51 ls [])) → ∀ n_23 : Nat, ∀ (x3_23 : Int32) (u_23 : XS) (H : Heap) (locs : List Loc) (ls : Array Slot), pl_X0_moveToNeeded_23 fu K_23 n_23 x3_23 u_23 = some u' → va_P (dC, dI) vwCl (cX hs ka u_23) H → va_D A (cX hs ka u_23) → va_S A s.heap H locs → lv_has ls 4 [(3, .int x3_23), (2, .int q_1), (0, .ref (hs 0)), (1, .int p0)] → W p l e (headSpec wzX0_moveToNeeded ({ frames := 1, cells := 0, slots := 0, locals := 22 })).room s m ([.ref (hs 0), .int p0] : List Value).toArray below meth c H locs 0 0 (MQ below (va_Qv (fun (u1 : XS) => u1 = u') (aX dC dI A hs ka) A) ([.ref (hs 0), .int p0] : List Value).toArray s 0 0 A) (F0 m 23 ls []) := by
        intro K_23 hk_23 n_23
        induction n_23 with
        | zero =>
          intro x3_23 u_23 H locs ls h
          exact absurd (show (none : Option (XS)) = some u' from h) (fun q => by cases q)
        | succ n_23 ih_23 =>
          intro x3_23 u_23 H locs ls h hP hD hS hl
          rw [pl_X0_moveToNeeded_23] at h
          refine lv_iload_n hx hb dX0_moveToNeeded_23 rfl (lv_at hl 0 rfl) ?_
          refine lv_aload_n hx hb dX0_moveToNeeded_24 rfl (lv_at hl 2 rfl) ?_
          refine gt_X_neededPacks (V := (x_neededPacks u_23)) hx hb hts hin0 hown hK hP hf_133 rfl dX0_moveToNeeded_25 ?_
          refine lv_icmp_le (tgt := 51) hx hb dX0_moveToNeeded_28 (by decide) (fun c_4 => ?_) (fun c_4 => ?_)
          · rw [if_pos c_4] at h
            exact hk_23 x3_23 u_23 _ _ _ h hP hD hS (lv_sub hl [0, 1, 2, 3] rfl)
          · rw [if_neg c_4] at h
            refine lv_aload_n hx hb dX0_moveToNeeded_31 rfl (lv_at hl 2 rfl) ?_
            refine gt_X_order hx hb hts hin0 hown hK hP hf_16 dX0_moveToNeeded_32 ?_
            refine lv_iload_n hx hb dX0_moveToNeeded_35 rfl (lv_at hl 0 rfl) ?_
            refine lv_aload_n hx hb dX0_moveToNeeded_36 rfl (lv_at hl 2 rfl) ?_
            refine gt_X_order hx hb hts hin0 hown hK hP hf_16 dX0_moveToNeeded_37 ?_
            refine lv_iload_n hx hb dX0_moveToNeeded_40 rfl (lv_at hl 0 rfl) ?_
            refine lv_iconst (v := (1 : Int32)) hx hb dX0_moveToNeeded_41 (by decide) ?_
            refine lv_isub hx hb dX0_moveToNeeded_42 ?_
            obtain ⟨g_5, h⟩ := og_some h
            refine ld_X_order (F := (x_order u_23)) hx hb hK hP rfl (inb_in g_5) dX0_moveToNeeded_43 ?_
            obtain ⟨g_6, h⟩ := og_some h
            refine sr_X_order (F := (x_order u_23)) hx hb hK hP hD hS rfl (inb_in g_6) dX0_moveToNeeded_44 (fun H locs hP hD hS => ?_)
            refine lv_iinc (v := (x3_23 + (-1 : Int32))) (lv' := [(3, .int (x3_23 + (-1 : Int32))), (2, .int q_1), (0, .ref (hs 0)), (1, .int p0)]) hx hb dX0_moveToNeeded_45 hl (k := 0) rfl (congrArg (fun z : Int32 => x3_23 + z) (by decide : Int32.ofInt (-1) = (-1 : Int32))) (by decide) rfl (fun ls hl => ?_)
            refine lv_goto (tgt := 23) hx hb dX0_moveToNeeded_48 (by decide) ?_
            exact ih_23 (x3_23 + (-1 : Int32)) (xs_order u_23 (upd (x_order u_23) x3_23.toNatClampNeg ((x_order u_23) (x3_23 - (1 : Int32)).toNatClampNeg))) _ _ _ h hP hD hS (lv_sub hl [0, 1, 2, 3] rfl)
      refine lp_23 _ (fun x3_23 u_23 H locs ls h hP hD hS hl => ?_) fu q_1 u _ _ _ h hP hD hS hl
      refine lv_aload_n hx hb dX0_moveToNeeded_51 rfl (lv_at hl 2 rfl) ?_
      refine gt_X_order hx hb hts hin0 hown hK hP hf_16 dX0_moveToNeeded_52 ?_
      refine lv_aload_n hx hb dX0_moveToNeeded_55 rfl (lv_at hl 2 rfl) ?_
      refine gt_X_neededPacks (V := (x_neededPacks u_23)) hx hb hts hin0 hown hK hP hf_133 rfl dX0_moveToNeeded_56 ?_
      refine lv_iload_n hx hb dX0_moveToNeeded_59 rfl (lv_at hl 3 rfl) ?_
      obtain ⟨g_7, h⟩ := og_some h
      refine sr_X_order (F := (x_order u_23)) hx hb hK hP hD hS rfl (inb_in g_7) dX0_moveToNeeded_60 (fun H locs hP hD hS => ?_)
      refine lv_aload_n hx hb dX0_moveToNeeded_61 rfl (lv_at hl 2 rfl) ?_
      refine lv_dup hx hb dX0_moveToNeeded_62 rfl ?_
      refine gt_X_neededPacks (V := (x_neededPacks u_23)) hx hb hts hin0 hown hK hP hf_133 (rq_x_neededPacks_order u_23 (upd (x_order u_23) (x_neededPacks u_23).toNatClampNeg p0)) dX0_moveToNeeded_63 ?_
      refine lv_iconst (v := (1 : Int32)) hx hb dX0_moveToNeeded_66 (by decide) ?_
      refine lv_iadd hx hb dX0_moveToNeeded_67 ?_
      refine pt_X_neededPacks hx hb hts hin0 hown hK hP hD hS hf_133 dX0_moveToNeeded_68 (fun H locs hP hD hS => ?_)
      have e9 := Option.some.inj h
      exact W.vret hx hb hr (fun t ht hW => ⟨⟨(xs_neededPacks (xs_order u_23 (upd (x_order u_23) (x_neededPacks u_23).toNatClampNeg p0)) ((x_neededPacks u_23) + (1 : Int32))), rfl, e9, by rw [ht]; exact hP, va_K.moved hW.alike hK, hD⟩, hS.F ht⟩) hS.2.2 dX0_moveToNeeded_71
    · rw [if_neg c_3] at h
      have e9 := Option.some.inj h
      exact W.vret hx hb hr (fun t ht hW => ⟨⟨u, rfl, e9, by rw [ht]; exact hP, va_K.moved hW.alike hK, hD⟩, hS.F ht⟩) hS.2.2 dX0_moveToNeeded_20
set_option maxHeartbeats 4000000 in
set_option maxRecDepth 100000 in
theorem c_X0_demand (l : Launch) (dC : Nat → ClassId) (dI : Nat → Nat → Nat) (hs : Nat → Nat) (ka : Nat → ClassId) (sz : Nat) (fu : Nat) (u : XS) (p0 : Int32) (p1 : Int32) (p2 : Int32) (r : Int32) (u' : XS) (h : pf_X0_demand fu p0 p1 p2 u = some (r, u')) : Met l yX0_demand wzX0_demand ({ frames := 2, cells := 0, slots := 0, locals := 45 }) (va_Pc [.ref (hs 0), .int p0, .int p1, .int p2] (fun U => U.heap.size = sz ∧ va_P (dC, dI) vwCl (cX hs ka u) U.heap ∧ va_K (dC, dI) vwCl (tX ka) U ∧ va_D (fun _ => True) (cX hs ka u))) (va_Qi (fun (r1 : Int32) (u1 : XS) => r1 = r ∧ u1 = u') (aX dC dI (va_A (cX hs ka u) sz) hs ka) (va_A (cX hs ka u) sz)) 0 0 (va_A (cX hs ka u) sz) := by
  refine Met.ofW (cc := cX0_demand) (maxL := 5) (ret := (some .int)) (by decide) rfl ?_
  intro p e s m args below meth c s₁ B hml hv
  obtain ⟨rfl, hsz, hP, hK, hD0⟩ := hv
  have hx := B.exec
  have hb := B.bytes
  have hr := B.returns
  have hts := atoms_spec (ws := wzX0_demand) B.pre
  have hown : s.vm.findClass RX0 = some m.cls := findClass_of_methodNamed B.named
  have hlocks := B.notSynchronized
  subst hsz
  have hD := hD0.self (sz := s.heap.size)
  generalize hAe : va_A (cX hs ka u) s.heap.size = A at hD ⊢
  have hA : ∀ q : Nat, s.heap.size ≤ q → A q := fun q h => by rw [← hAe]; exact Or.inr h
  have hS : va_S A s.heap s.heap [] := va_S.rf
  have hP : va_P (dC, dI) vwCl (cX hs ka u) s.heap := hP
  clear hD0 hAe
  have hin0 : ∀ w ∈ u_ws RX0 TX0 14, w ∈ wzX0_demand := fun w h => List.mem_cons_of_mem _ (inTX0 w h)
  have hf_13 := hts (.fieldLink RX0 13 "ConflictSolve" "demandRules" "[J") (List.mem_cons_of_mem _ tz_43)
  have hf_65 := hts (.fieldLink RX0 65 "ConflictSolve" "demands" "I") (List.mem_cons_of_mem _ tz_47)
  have hl := lv_entry ([.ref (hs 0), .int p0, .int p1, .int p2]) (n := 5) (Nat.le_of_ble_eq_true rfl)
  rw [lg_entry_eq]
  generalize (lg_sl ([.ref (hs 0), .int p0, .int p1, .int p2]) ++ List.replicate (5 - (lg_sl ([.ref (hs 0), .int p0, .int p1, .int p2])).length) Slot.unset).toArray = ls at hl ⊢
  have hl : lv_has ls 5 [(0, .ref (hs 0)), (1, .int p0), (2, .int p1), (3, .int p2)] := hl
  rw [pf_X0_demand] at h
  refine lv_aload_n hx hb dX0_demand_0 rfl (lv_at hl 0 rfl) ?_
  refine gt_X_demands (V := (x_demands u)) hx hb hts hin0 hown hK hP hf_65 rfl dX0_demand_1 ?_
  refine lv_bipush (v := (12 : Int32)) hx hb dX0_demand_4 (by decide) ?_
  refine lv_icmp_ge (tgt := 24) hx hb dX0_demand_6 (by decide) (fun c_1 => ?_) (fun c_1 => ?_)
  · rw [if_pos c_1] at h
    refine lv_iconst (v := (-1 : Int32)) hx hb dX0_demand_24 (by decide) ?_
    have e9 := Option.some.inj h
    exact W.iret (v := (-1 : Int32)) hx hb hr (fun t ht hW => ⟨⟨(-1 : Int32), u, rfl, ⟨congrArg Prod.fst e9, congrArg Prod.snd e9⟩, by rw [ht]; exact hP, va_K.moved hW.alike hK, hD⟩, hS.F ht⟩) hS.2.2 dX0_demand_25
  · rw [if_neg c_1] at h
    refine lv_iload_n hx hb dX0_demand_9 rfl (lv_at hl 1 rfl) ?_
    have hPc : va_P (dC, dI) vwCl ([] : va_W) s.heap := hP.sub [] rfl
    have hDc : va_D A ([] : va_W) := hD.sub [] (by decide) rfl
    have hKc := hK.sub (tys' := []) [] rfl
    have hFc := fn_X hD hS hA
    refine va_calli (va_runS (As := [.int p0]) (rest := []) ⟨hx, hb, hml, hown, hts⟩ (c_X0_isKind l dC dI s.heap.size p0 _ rfl) (va_cwS 1 hts gX0_demand_X0_isKind rfl rfl rfl (by decide +kernel) ⟨Nat.le_of_ble_eq_true rfl, Nat.le_of_ble_eq_true rfl⟩) ⟨fun a U g mk q => by obtain ⟨q0, q1, qP, qK, qD⟩ := q; exact ⟨q0, q1, qP, va_K.moved (u := U) (U := U.calling g mk a) (Vm.Alike.refl U.vm) qK, qD⟩, fun U hU hW => ⟨rfl, by rw [hU], by rw [hU]; exact hPc, va_K.moved hW.alike hKc, hDc.weaken (fun _ _ _ _ => trivial)⟩⟩ rfl rfl hl.1 rfl (lv_room (Nat.le_of_ble_eq_true rfl)) dX0_demand_10 ⟨Nat.zero_le _, Nat.zero_le _⟩) hS (fun q _ h => hFc q h) hFc (fun r_2 u_c2 t H1 locs ht hvm hw hB hz1 hk1 hS => ?_)
    subst r_2
    obtain ⟨hP1, hK1, hD1⟩ := hB
    rw [ht] at hP1
    obtain ⟨hP, hD⟩ := js_X hP hD hk1 hFc hP1 hD1
    clear hPc hDc hKc hFc hz1 hk1 hP1 hK1 hD1
    generalize H1 = H at hP hS ⊢
    refine lv_if_eq (tgt := 24) hx hb dX0_demand_13 (by decide) (fun c_3 => ?_) (fun c_3 => ?_)
    · rw [if_pos c_3] at h
      refine lv_iconst (v := (-1 : Int32)) hx hb dX0_demand_24 (by decide) ?_
      have e9 := Option.some.inj h
      exact W.iret (v := (-1 : Int32)) hx hb hr (fun t ht hW => ⟨⟨(-1 : Int32), u, rfl, ⟨congrArg Prod.fst e9, congrArg Prod.snd e9⟩, by rw [ht]; exact hP, va_K.moved hW.alike hK, hD⟩, hS.F ht⟩) hS.2.2 dX0_demand_25
    · rw [if_neg c_3] at h
      refine lv_aload_n hx hb dX0_demand_16 rfl (lv_at hl 0 rfl) ?_
      refine lv_iload_n hx hb dX0_demand_17 rfl (lv_at hl 2 rfl) ?_
      have hPc := hP
      have hDc := hD
      have hKc := hK
      have hFc := fr_X hD hS hA
      refine va_calli (va_runV (As := [.int p1]) (rest := []) ⟨hx, hb, hml, hown, hts⟩ (c_X0_hasPack l dC dI hs ka H.size u p1 _ rfl) (cwV 1 hts gX0_demand_X0_hasPack rfl rfl rfl (by decide +kernel) ⟨Nat.le_of_ble_eq_true rfl, Nat.le_of_ble_eq_true rfl⟩) ⟨fun a U g mk q => by obtain ⟨q0, q1, qP, qK, qD⟩ := q; exact ⟨q0, q1, qP, va_K.moved (u := U) (U := U.calling g mk a) (Vm.Alike.refl U.vm) qK, qD⟩, rc_X hKc hPc, fun U hU hW => ⟨rfl, by rw [hU], by rw [hU]; exact hPc, va_K.moved hW.alike hKc, hDc.weaken (fun _ _ _ _ => trivial)⟩⟩ rfl rfl hl.1 rfl (lv_room (Nat.le_of_ble_eq_true rfl)) dX0_demand_18 ⟨Nat.zero_le _, Nat.zero_le _⟩) hS (fun q _ h => hFc q h) hFc (fun r_4 u_c4 t H1 locs ht hvm hw hB hz1 hk1 hS => ?_)
      obtain ⟨hw1, hw2⟩ := hw
      subst r_4
      subst u_c4
      obtain ⟨hP1, hK1, hD1⟩ := hB
      rw [ht] at hP1
      obtain ⟨hP, hD⟩ := jw_X hP hD hk1 hFc hP1 hD1
      clear hPc hDc hKc hFc hz1 hk1 hP1 hK1 hD1
      generalize H1 = H at hP hS ⊢
      refine lv_if_ne (tgt := 26) hx hb dX0_demand_21 (by decide) (fun c_5 => ?_) (fun c_5 => ?_)
      · rw [if_neg c_5] at h
        refine lv_aload_n hx hb dX0_demand_26 rfl (lv_at hl 0 rfl) ?_
        refine gt_X_demands (V := (x_demands u)) hx hb hts hin0 hown hK hP hf_65 rfl dX0_demand_27 ?_
        refine lv_istore (lv' := [(4, .int (x_demands u)), (0, .ref (hs 0)), (1, .int p0), (2, .int p1), (3, .int p2)]) hx hb dX0_demand_30 hl (by decide) rfl (fun ls hl => ?_)
        refine lv_aload_n hx hb dX0_demand_32 rfl (lv_at hl 1 rfl) ?_
        refine gt_X_demandRules hx hb hts hin0 hown hK hP hf_13 dX0_demand_33 ?_
        refine lv_iload hx hb dX0_demand_36 (lv_at hl 0 rfl) ?_
        refine lv_iload_n hx hb dX0_demand_38 rfl (lv_at hl 2 rfl) ?_
        refine lv_iload_n hx hb dX0_demand_39 rfl (lv_at hl 3 rfl) ?_
        refine lv_iload_n hx hb dX0_demand_40 rfl (lv_at hl 4 rfl) ?_
        have hPc : va_P (dC, dI) vwCl ([] : va_W) H := hP.sub [] rfl
        have hDc : va_D A ([] : va_W) := hD.sub [] (by decide) rfl
        have hKc := hK.sub (tys' := []) [] rfl
        have hFc := fn_X hD hS hA
        refine va_calll (va_runS (As := [.int p0, .int p1, .int p2]) (rest := [.int (x_demands u), .ref (hs 2)]) ⟨hx, hb, hml, hown, hts⟩ (c_X0_keeping l dC dI H.size p0 p1 p2 _ rfl) (va_cwS 3 hts gX0_demand_X0_keeping rfl rfl rfl (by decide +kernel) ⟨Nat.le_of_ble_eq_true rfl, Nat.le_of_ble_eq_true rfl⟩) ⟨fun a U g mk q => by obtain ⟨q0, q1, qP, qK, qD⟩ := q; exact ⟨q0, q1, qP, va_K.moved (u := U) (U := U.calling g mk a) (Vm.Alike.refl U.vm) qK, qD⟩, fun U hU hW => ⟨rfl, by rw [hU], by rw [hU]; exact hPc, va_K.moved hW.alike hKc, hDc.weaken (fun _ _ _ _ => trivial)⟩⟩ rfl rfl hl.1 rfl (lv_room (Nat.le_of_ble_eq_true rfl)) dX0_demand_41 ⟨Nat.zero_le _, Nat.zero_le _⟩) hS (fun q _ h => hFc q h) hFc (fun r_6 u_c6 t H1 locs ht hvm hw hB hz1 hk1 hS => ?_)
        subst r_6
        obtain ⟨hP1, hK1, hD1⟩ := hB
        rw [ht] at hP1
        obtain ⟨hP, hD⟩ := js_X hP hD hk1 hFc hP1 hD1
        clear hPc hDc hKc hFc hz1 hk1 hP1 hK1 hD1
        generalize H1 = H at hP hS ⊢
        obtain ⟨g_7, h⟩ := og_some h
        refine sr_X_demandRules (F := (x_demandRules u)) hx hb hK hP hD hS rfl (inb_in g_7) dX0_demand_44 (fun H locs hP hD hS => ?_)
        refine lv_aload_n hx hb dX0_demand_45 rfl (lv_at hl 1 rfl) ?_
        refine lv_dup hx hb dX0_demand_46 rfl ?_
        refine gt_X_demands (V := (x_demands u)) hx hb hts hin0 hown hK hP hf_65 (rq_x_demands_demandRules u (vp_updL (x_demandRules u) (x_demands u).toNatClampNeg (pf_X0_keeping p0 p1 p2))) dX0_demand_47 ?_
        refine lv_iconst (v := (1 : Int32)) hx hb dX0_demand_50 (by decide) ?_
        refine lv_iadd hx hb dX0_demand_51 ?_
        refine pt_X_demands hx hb hts hin0 hown hK hP hD hS hf_65 dX0_demand_52 (fun H locs hP hD hS => ?_)
        refine lv_aload_n hx hb dX0_demand_55 rfl (lv_at hl 1 rfl) ?_
        refine lv_iload_n hx hb dX0_demand_56 rfl (lv_at hl 2 rfl) ?_
        refine lv_iconst (v := (1 : Int32)) hx hb dX0_demand_57 (by decide) ?_
        obtain ⟨q_8, hc_8, h⟩ := ob_some h
        have hPc := hP
        have hDc := hD
        have hKc := hK
        have hFc := fr_X hD hS hA
        refine va_callv (va_runV (As := [.int p0, .int (1 : Int32)]) (rest := []) ⟨hx, hb, hml, hown, hts⟩ (c_X0_startAlternatives l dC dI hs ka H.size fu (xs_demands (xs_demandRules u (vp_updL (x_demandRules u) (x_demands u).toNatClampNeg (pf_X0_keeping p0 p1 p2))) ((x_demands u) + (1 : Int32))) p0 (1 : Int32) q_8 hc_8) (cwV 2 hts gX0_demand_X0_startAlternatives rfl rfl rfl (by decide +kernel) ⟨Nat.le_of_ble_eq_true rfl, Nat.le_of_ble_eq_true rfl⟩) ⟨fun a U g mk q => by obtain ⟨q0, q1, qP, qK, qD⟩ := q; exact ⟨q0, q1, qP, va_K.moved (u := U) (U := U.calling g mk a) (Vm.Alike.refl U.vm) qK, qD⟩, rc_X hKc hPc, fun U hU hW => ⟨rfl, by rw [hU], by rw [hU]; exact hPc, va_K.moved hW.alike hKc, hDc.weaken (fun _ _ _ _ => trivial)⟩⟩ rfl rfl hl.1 rfl (lv_room (Nat.le_of_ble_eq_true rfl)) dX0_demand_58 ⟨Nat.zero_le _, Nat.zero_le _⟩) hS (fun q _ h => hFc q h) hFc (fun u_c8 t H1 locs ht hvm hw hB hz1 hk1 hS => ?_)
        subst u_c8
        obtain ⟨hP1, hK1, hD1⟩ := hB
        rw [ht] at hP1
        obtain ⟨hP, hD⟩ := jw_X hP hD hk1 hFc hP1 hD1
        clear hPc hDc hKc hFc hz1 hk1 hP1 hK1 hD1
        generalize H1 = H at hP hS ⊢
        refine lv_iload_n hx hb dX0_demand_61 rfl (lv_at hl 2 rfl) ?_
        refine lv_if_ne (tgt := 70) hx hb dX0_demand_62 (by decide) (fun c_9 => ?_) (fun c_9 => ?_)
        · rw [if_neg c_9] at h
          refine lv_iload hx hb dX0_demand_70 (lv_at hl 0 rfl) ?_
          have e9 := Option.some.inj h
          exact W.iret (v := (x_demands u)) hx hb hr (fun t ht hW => ⟨⟨(x_demands u), q_8, rfl, ⟨congrArg Prod.fst e9, congrArg Prod.snd e9⟩, by rw [ht]; exact hP, va_K.moved hW.alike hK, hD⟩, hS.F ht⟩) hS.2.2 dX0_demand_72
        · rw [if_pos c_9] at h
          refine lv_aload_n hx hb dX0_demand_65 rfl (lv_at hl 1 rfl) ?_
          refine lv_iload_n hx hb dX0_demand_66 rfl (lv_at hl 3 rfl) ?_
          obtain ⟨q_10, hc_10, h⟩ := ob_some h
          have hPc := hP
          have hDc := hD
          have hKc := hK
          have hFc := fr_X hD hS hA
          refine va_callv (va_runV (As := [.int p1]) (rest := []) ⟨hx, hb, hml, hown, hts⟩ (c_X0_moveToNeeded l dC dI hs ka H.size fu q_8 p1 q_10 hc_10) (cwV 1 hts gX0_demand_X0_moveToNeeded rfl rfl rfl (by decide +kernel) ⟨Nat.le_of_ble_eq_true rfl, Nat.le_of_ble_eq_true rfl⟩) ⟨fun a U g mk q => by obtain ⟨q0, q1, qP, qK, qD⟩ := q; exact ⟨q0, q1, qP, va_K.moved (u := U) (U := U.calling g mk a) (Vm.Alike.refl U.vm) qK, qD⟩, rc_X hKc hPc, fun U hU hW => ⟨rfl, by rw [hU], by rw [hU]; exact hPc, va_K.moved hW.alike hKc, hDc.weaken (fun _ _ _ _ => trivial)⟩⟩ rfl rfl hl.1 rfl (lv_room (Nat.le_of_ble_eq_true rfl)) dX0_demand_67 ⟨Nat.zero_le _, Nat.zero_le _⟩) hS (fun q _ h => hFc q h) hFc (fun u_c10 t H1 locs ht hvm hw hB hz1 hk1 hS => ?_)
          subst u_c10
          obtain ⟨hP1, hK1, hD1⟩ := hB
          rw [ht] at hP1
          obtain ⟨hP, hD⟩ := jw_X hP hD hk1 hFc hP1 hD1
          clear hPc hDc hKc hFc hz1 hk1 hP1 hK1 hD1
          generalize H1 = H at hP hS ⊢
          refine lv_iload hx hb dX0_demand_70 (lv_at hl 0 rfl) ?_
          have e9 := Option.some.inj h
          exact W.iret (v := (x_demands u)) hx hb hr (fun t ht hW => ⟨⟨(x_demands u), q_10, rfl, ⟨congrArg Prod.fst e9, congrArg Prod.snd e9⟩, by rw [ht]; exact hP, va_K.moved hW.alike hK, hD⟩, hS.F ht⟩) hS.2.2 dX0_demand_72
      · rw [if_pos c_5] at h
        refine lv_iconst (v := (-1 : Int32)) hx hb dX0_demand_24 (by decide) ?_
        have e9 := Option.some.inj h
        exact W.iret (v := (-1 : Int32)) hx hb hr (fun t ht hW => ⟨⟨(-1 : Int32), u, rfl, ⟨congrArg Prod.fst e9, congrArg Prod.snd e9⟩, by rw [ht]; exact hP, va_K.moved hW.alike hK, hD⟩, hS.F ht⟩) hS.2.2 dX0_demand_25
set_option maxHeartbeats 4000000 in
set_option maxRecDepth 100000 in
theorem c_X0_addToLatestDemand (l : Launch) (dC : Nat → ClassId) (dI : Nat → Nat → Nat) (hs : Nat → Nat) (ka : Nat → ClassId) (sz : Nat) (fu : Nat) (u : XS) (p0 : Int32) (p1 : Int32) (u' : XS) (h : pf_X0_addToLatestDemand fu p0 p1 u = some u') : Met l yX0_addToLatestDemand wzX0_addToLatestDemand ({ frames := 2, cells := 0, slots := 0, locals := 45 }) (va_Pc [.ref (hs 0), .int p0, .int p1] (fun U => U.heap.size = sz ∧ va_P (dC, dI) vwCl (cX hs ka u) U.heap ∧ va_K (dC, dI) vwCl (tX ka) U ∧ va_D (fun _ => True) (cX hs ka u))) (va_Qv (fun (u1 : XS) => u1 = u') (aX dC dI (va_A (cX hs ka u) sz) hs ka) (va_A (cX hs ka u) sz)) 0 0 (va_A (cX hs ka u) sz) := by
  refine Met.ofW (cc := cX0_addToLatestDemand) (maxL := 3) (ret := none) (by decide) rfl ?_
  intro p e s m args below meth c s₁ B hml hv
  obtain ⟨rfl, hsz, hP, hK, hD0⟩ := hv
  have hx := B.exec
  have hb := B.bytes
  have hr := B.returns
  have hts := atoms_spec (ws := wzX0_addToLatestDemand) B.pre
  have hown : s.vm.findClass RX0 = some m.cls := findClass_of_methodNamed B.named
  have hlocks := B.notSynchronized
  subst hsz
  have hD := hD0.self (sz := s.heap.size)
  generalize hAe : va_A (cX hs ka u) s.heap.size = A at hD ⊢
  have hA : ∀ q : Nat, s.heap.size ≤ q → A q := fun q h => by rw [← hAe]; exact Or.inr h
  have hS : va_S A s.heap s.heap [] := va_S.rf
  have hP : va_P (dC, dI) vwCl (cX hs ka u) s.heap := hP
  clear hD0 hAe
  have hin0 : ∀ w ∈ u_ws RX0 TX0 14, w ∈ wzX0_addToLatestDemand := fun w h => List.mem_cons_of_mem _ (inTX0 w h)
  have hf_13 := hts (.fieldLink RX0 13 "ConflictSolve" "demandRules" "[J") (List.mem_cons_of_mem _ tz_43)
  have hf_65 := hts (.fieldLink RX0 65 "ConflictSolve" "demands" "I") (List.mem_cons_of_mem _ tz_47)
  have hl := lv_entry ([.ref (hs 0), .int p0, .int p1]) (n := 3) (Nat.le_of_ble_eq_true rfl)
  rw [lg_entry_eq]
  generalize (lg_sl ([.ref (hs 0), .int p0, .int p1]) ++ List.replicate (3 - (lg_sl ([.ref (hs 0), .int p0, .int p1])).length) Slot.unset).toArray = ls at hl ⊢
  have hl : lv_has ls 3 [(0, .ref (hs 0)), (1, .int p0), (2, .int p1)] := hl
  rw [pf_X0_addToLatestDemand] at h
  refine lv_aload_n hx hb dX0_addToLatestDemand_0 rfl (lv_at hl 0 rfl) ?_
  refine gt_X_demands (V := (x_demands u)) hx hb hts hin0 hown hK hP hf_65 rfl dX0_addToLatestDemand_1 ?_
  refine lv_if_le (tgt := 31) hx hb dX0_addToLatestDemand_4 (by decide) (fun c_1 => ?_) (fun c_1 => ?_)
  · rw [if_pos c_1] at h
    have e9 := Option.some.inj h
    exact W.vret hx hb hr (fun t ht hW => ⟨⟨u, rfl, e9, by rw [ht]; exact hP, va_K.moved hW.alike hK, hD⟩, hS.F ht⟩) hS.2.2 dX0_addToLatestDemand_31
  · rw [if_neg c_1] at h
    refine lv_aload_n hx hb dX0_addToLatestDemand_7 rfl (lv_at hl 0 rfl) ?_
    refine gt_X_demandRules hx hb hts hin0 hown hK hP hf_13 dX0_addToLatestDemand_8 ?_
    refine lv_aload_n hx hb dX0_addToLatestDemand_11 rfl (lv_at hl 0 rfl) ?_
    refine gt_X_demands (V := (x_demands u)) hx hb hts hin0 hown hK hP hf_65 rfl dX0_addToLatestDemand_12 ?_
    refine lv_iconst (v := (1 : Int32)) hx hb dX0_addToLatestDemand_15 (by decide) ?_
    refine lv_isub hx hb dX0_addToLatestDemand_16 ?_
    refine lv_dup2_11 hx hb dX0_addToLatestDemand_17 rfl rfl ?_
    obtain ⟨g_2, h⟩ := og_some h
    refine ld_X_demandRules (F := (x_demandRules u)) hx hb hK hP rfl (inb_in g_2) dX0_addToLatestDemand_18 ?_
    refine lv_iload_n hx hb dX0_addToLatestDemand_19 rfl (lv_at hl 1 rfl) ?_
    refine lv_iload_n hx hb dX0_addToLatestDemand_20 rfl (lv_at hl 2 rfl) ?_
    have hPc : va_P (dC, dI) vwCl ([] : va_W) s.heap := hP.sub [] rfl
    have hDc : va_D A ([] : va_W) := hD.sub [] (by decide) rfl
    have hKc := hK.sub (tys' := []) [] rfl
    have hFc := fn_X hD hS hA
    refine va_calll (va_runS (As := [.int p0, .int p1]) (rest := [.long ((x_demandRules u) ((x_demands u) - (1 : Int32)).toNatClampNeg), .int ((x_demands u) - (1 : Int32)), .ref (hs 2)]) ⟨hx, hb, hml, hown, hts⟩ (c_X0_versionsOf l dC dI s.heap.size p0 p1 _ rfl) (va_cwS 2 hts gX0_addToLatestDemand_X0_versionsOf rfl rfl rfl (by decide +kernel) ⟨Nat.le_of_ble_eq_true rfl, Nat.le_of_ble_eq_true rfl⟩) ⟨fun a U g mk q => by obtain ⟨q0, q1, qP, qK, qD⟩ := q; exact ⟨q0, q1, qP, va_K.moved (u := U) (U := U.calling g mk a) (Vm.Alike.refl U.vm) qK, qD⟩, fun U hU hW => ⟨rfl, by rw [hU], by rw [hU]; exact hPc, va_K.moved hW.alike hKc, hDc.weaken (fun _ _ _ _ => trivial)⟩⟩ rfl rfl hl.1 rfl (lv_room (Nat.le_of_ble_eq_true rfl)) dX0_addToLatestDemand_21 ⟨Nat.zero_le _, Nat.zero_le _⟩) hS (fun q _ h => hFc q h) hFc (fun r_3 u_c3 t H1 locs ht hvm hw hB hz1 hk1 hS => ?_)
    subst r_3
    obtain ⟨hP1, hK1, hD1⟩ := hB
    rw [ht] at hP1
    obtain ⟨hP, hD⟩ := js_X hP hD hk1 hFc hP1 hD1
    clear hPc hDc hKc hFc hz1 hk1 hP1 hK1 hD1
    generalize H1 = H at hP hS ⊢
    refine lv_lor hx hb dX0_addToLatestDemand_24 ?_
    obtain ⟨g_4, h⟩ := og_some h
    refine sr_X_demandRules (F := (x_demandRules u)) hx hb hK hP hD hS rfl (inb_in g_4) dX0_addToLatestDemand_25 (fun H locs hP hD hS => ?_)
    refine lv_aload_n hx hb dX0_addToLatestDemand_26 rfl (lv_at hl 0 rfl) ?_
    refine lv_iload_n hx hb dX0_addToLatestDemand_27 rfl (lv_at hl 1 rfl) ?_
    obtain ⟨q_5, hc_5, h⟩ := ob_some h
    have hPc := hP
    have hDc := hD
    have hKc := hK
    have hFc := fr_X hD hS hA
    refine va_callv (va_runV (As := [.int p0]) (rest := []) ⟨hx, hb, hml, hown, hts⟩ (c_X0_moveToNeeded l dC dI hs ka H.size fu (xs_demandRules u (vp_updL (x_demandRules u) ((x_demands u) - (1 : Int32)).toNatClampNeg (((x_demandRules u) ((x_demands u) - (1 : Int32)).toNatClampNeg) ||| (pf_X0_versionsOf p0 p1)))) p0 q_5 hc_5) (cwV 1 hts gX0_addToLatestDemand_X0_moveToNeeded rfl rfl rfl (by decide +kernel) ⟨Nat.le_of_ble_eq_true rfl, Nat.le_of_ble_eq_true rfl⟩) ⟨fun a U g mk q => by obtain ⟨q0, q1, qP, qK, qD⟩ := q; exact ⟨q0, q1, qP, va_K.moved (u := U) (U := U.calling g mk a) (Vm.Alike.refl U.vm) qK, qD⟩, rc_X hKc hPc, fun U hU hW => ⟨rfl, by rw [hU], by rw [hU]; exact hPc, va_K.moved hW.alike hKc, hDc.weaken (fun _ _ _ _ => trivial)⟩⟩ rfl rfl hl.1 rfl (lv_room (Nat.le_of_ble_eq_true rfl)) dX0_addToLatestDemand_28 ⟨Nat.zero_le _, Nat.zero_le _⟩) hS (fun q _ h => hFc q h) hFc (fun u_c5 t H1 locs ht hvm hw hB hz1 hk1 hS => ?_)
    subst u_c5
    obtain ⟨hP1, hK1, hD1⟩ := hB
    rw [ht] at hP1
    obtain ⟨hP, hD⟩ := jw_X hP hD hk1 hFc hP1 hD1
    clear hPc hDc hKc hFc hz1 hk1 hP1 hK1 hD1
    generalize H1 = H at hP hS ⊢
    have e9 := Option.some.inj h
    exact W.vret hx hb hr (fun t ht hW => ⟨⟨q_5, rfl, e9, by rw [ht]; exact hP, va_K.moved hW.alike hK, hD⟩, hS.F ht⟩) hS.2.2 dX0_addToLatestDemand_31
set_option maxHeartbeats 4000000 in
set_option maxRecDepth 100000 in
theorem c_X0_addToLatestRow (l : Launch) (dC : Nat → ClassId) (dI : Nat → Nat → Nat) (hs : Nat → Nat) (ka : Nat → ClassId) (sz : Nat) (fu : Nat) (u : XS) (p0 : Int32) (p1 : Int32) (u' : XS) (h : pf_X0_addToLatestRow fu p0 p1 u = some u') : Met l yX0_addToLatestRow wzX0_addToLatestRow ({ frames := 1, cells := 0, slots := 0, locals := 21 }) (va_Pc [.ref (hs 0), .int p0, .int p1] (fun U => U.heap.size = sz ∧ va_P (dC, dI) vwCl (cX hs ka u) U.heap ∧ va_K (dC, dI) vwCl (tX ka) U ∧ va_D (fun _ => True) (cX hs ka u))) (va_Qv (fun (u1 : XS) => u1 = u') (aX dC dI (va_A (cX hs ka u) sz) hs ka) (va_A (cX hs ka u) sz)) 0 0 (va_A (cX hs ka u) sz) := by
  refine Met.ofW (cc := cX0_addToLatestRow) (maxL := 3) (ret := none) (by decide) rfl ?_
  intro p e s m args below meth c s₁ B hml hv
  obtain ⟨rfl, hsz, hP, hK, hD0⟩ := hv
  have hx := B.exec
  have hb := B.bytes
  have hr := B.returns
  have hts := atoms_spec (ws := wzX0_addToLatestRow) B.pre
  have hown : s.vm.findClass RX0 = some m.cls := findClass_of_methodNamed B.named
  have hlocks := B.notSynchronized
  subst hsz
  have hD := hD0.self (sz := s.heap.size)
  generalize hAe : va_A (cX hs ka u) s.heap.size = A at hD ⊢
  have hA : ∀ q : Nat, s.heap.size ≤ q → A q := fun q h => by rw [← hAe]; exact Or.inr h
  have hS : va_S A s.heap s.heap [] := va_S.rf
  have hP : va_P (dC, dI) vwCl (cX hs ka u) s.heap := hP
  clear hD0 hAe
  have hin0 : ∀ w ∈ u_ws RX0 TX0 14, w ∈ wzX0_addToLatestRow := fun w h => List.mem_cons_of_mem _ (inTX0 w h)
  have hf_34 := hts (.fieldLink RX0 34 "ConflictSolve" "rows" "I") (List.mem_cons_of_mem _ tz_46)
  have hf_9 := hts (.fieldLink RX0 9 "ConflictSolve" "rowRules" "[J") (List.mem_cons_of_mem _ tz_42)
  have hl := lv_entry ([.ref (hs 0), .int p0, .int p1]) (n := 3) (Nat.le_of_ble_eq_true rfl)
  rw [lg_entry_eq]
  generalize (lg_sl ([.ref (hs 0), .int p0, .int p1]) ++ List.replicate (3 - (lg_sl ([.ref (hs 0), .int p0, .int p1])).length) Slot.unset).toArray = ls at hl ⊢
  have hl : lv_has ls 3 [(0, .ref (hs 0)), (1, .int p0), (2, .int p1)] := hl
  rw [pf_X0_addToLatestRow] at h
  refine lv_aload_n hx hb dX0_addToLatestRow_0 rfl (lv_at hl 0 rfl) ?_
  refine gt_X_rows (V := (x_rows u)) hx hb hts hin0 hown hK hP hf_34 rfl dX0_addToLatestRow_1 ?_
  refine lv_if_le (tgt := 26) hx hb dX0_addToLatestRow_4 (by decide) (fun c_1 => ?_) (fun c_1 => ?_)
  · rw [if_pos c_1] at h
    have e9 := Option.some.inj h
    exact W.vret hx hb hr (fun t ht hW => ⟨⟨u, rfl, e9, by rw [ht]; exact hP, va_K.moved hW.alike hK, hD⟩, hS.F ht⟩) hS.2.2 dX0_addToLatestRow_26
  · rw [if_neg c_1] at h
    refine lv_aload_n hx hb dX0_addToLatestRow_7 rfl (lv_at hl 0 rfl) ?_
    refine gt_X_rowRules hx hb hts hin0 hown hK hP hf_9 dX0_addToLatestRow_8 ?_
    refine lv_aload_n hx hb dX0_addToLatestRow_11 rfl (lv_at hl 0 rfl) ?_
    refine gt_X_rows (V := (x_rows u)) hx hb hts hin0 hown hK hP hf_34 rfl dX0_addToLatestRow_12 ?_
    refine lv_iconst (v := (1 : Int32)) hx hb dX0_addToLatestRow_15 (by decide) ?_
    refine lv_isub hx hb dX0_addToLatestRow_16 ?_
    refine lv_dup2_11 hx hb dX0_addToLatestRow_17 rfl rfl ?_
    obtain ⟨g_2, h⟩ := og_some h
    refine ld_X_rowRules (F := (x_rowRules u)) hx hb hK hP rfl (inb_in g_2) dX0_addToLatestRow_18 ?_
    refine lv_iload_n hx hb dX0_addToLatestRow_19 rfl (lv_at hl 1 rfl) ?_
    refine lv_iload_n hx hb dX0_addToLatestRow_20 rfl (lv_at hl 2 rfl) ?_
    have hPc : va_P (dC, dI) vwCl ([] : va_W) s.heap := hP.sub [] rfl
    have hDc : va_D A ([] : va_W) := hD.sub [] (by decide) rfl
    have hKc := hK.sub (tys' := []) [] rfl
    have hFc := fn_X hD hS hA
    refine va_calll (va_runS (As := [.int p0, .int p1]) (rest := [.long ((x_rowRules u) ((x_rows u) - (1 : Int32)).toNatClampNeg), .int ((x_rows u) - (1 : Int32)), .ref (hs 1)]) ⟨hx, hb, hml, hown, hts⟩ (c_X0_versionsOf l dC dI s.heap.size p0 p1 _ rfl) (va_cwS 2 hts gX0_addToLatestRow_X0_versionsOf rfl rfl rfl (by decide +kernel) ⟨Nat.le_of_ble_eq_true rfl, Nat.le_of_ble_eq_true rfl⟩) ⟨fun a U g mk q => by obtain ⟨q0, q1, qP, qK, qD⟩ := q; exact ⟨q0, q1, qP, va_K.moved (u := U) (U := U.calling g mk a) (Vm.Alike.refl U.vm) qK, qD⟩, fun U hU hW => ⟨rfl, by rw [hU], by rw [hU]; exact hPc, va_K.moved hW.alike hKc, hDc.weaken (fun _ _ _ _ => trivial)⟩⟩ rfl rfl hl.1 rfl (lv_room (Nat.le_of_ble_eq_true rfl)) dX0_addToLatestRow_21 ⟨Nat.zero_le _, Nat.zero_le _⟩) hS (fun q _ h => hFc q h) hFc (fun r_3 u_c3 t H1 locs ht hvm hw hB hz1 hk1 hS => ?_)
    subst r_3
    obtain ⟨hP1, hK1, hD1⟩ := hB
    rw [ht] at hP1
    obtain ⟨hP, hD⟩ := js_X hP hD hk1 hFc hP1 hD1
    clear hPc hDc hKc hFc hz1 hk1 hP1 hK1 hD1
    generalize H1 = H at hP hS ⊢
    refine lv_lor hx hb dX0_addToLatestRow_24 ?_
    obtain ⟨g_4, h⟩ := og_some h
    refine sr_X_rowRules (F := (x_rowRules u)) hx hb hK hP hD hS rfl (inb_in g_4) dX0_addToLatestRow_25 (fun H locs hP hD hS => ?_)
    have e9 := Option.some.inj h
    exact W.vret hx hb hr (fun t ht hW => ⟨⟨(xs_rowRules u (vp_updL (x_rowRules u) ((x_rows u) - (1 : Int32)).toNatClampNeg (((x_rowRules u) ((x_rows u) - (1 : Int32)).toNatClampNeg) ||| (pf_X0_versionsOf p0 p1)))), rfl, e9, by rw [ht]; exact hP, va_K.moved hW.alike hK, hD⟩, hS.F ht⟩) hS.2.2 dX0_addToLatestRow_26
end
section
set_option maxHeartbeats 4000000 in
set_option maxRecDepth 100000 in
theorem c_X0_or (l : Launch) (dC : Nat → ClassId) (dI : Nat → Nat → Nat) (hs : Nat → Nat) (ka : Nat → ClassId) (sz : Nat) (fu : Nat) (u : XS) (p0 : Int32) (p1 : Int32) (r : Int32) (u' : XS) (h : pf_X0_or fu p0 p1 u = some (r, u')) : Met l yX0_or wzX0_or ({ frames := 3, cells := 0, slots := 0, locals := 67 }) (va_Pc [.ref (hs 0), .int p0, .int p1] (fun U => U.heap.size = sz ∧ va_P (dC, dI) vwCl (cX hs ka u) U.heap ∧ va_K (dC, dI) vwCl (tX ka) U ∧ va_D (fun _ => True) (cX hs ka u))) (va_Qi (fun (r1 : Int32) (u1 : XS) => r1 = r ∧ u1 = u') (aX dC dI (va_A (cX hs ka u) sz) hs ka) (va_A (cX hs ka u) sz)) 0 0 (va_A (cX hs ka u) sz) := by
  refine Met.ofW (cc := cX0_or) (maxL := 3) (ret := (some .boolean)) (by decide) rfl ?_
  intro p e s m args below meth c s₁ B hml hv
  obtain ⟨rfl, hsz, hP, hK, hD0⟩ := hv
  have hx := B.exec
  have hb := B.bytes
  have hr := B.returns
  have hts := atoms_spec (ws := wzX0_or) B.pre
  have hown : s.vm.findClass RX0 = some m.cls := findClass_of_methodNamed B.named
  have hlocks := B.notSynchronized
  subst hsz
  have hD := hD0.self (sz := s.heap.size)
  generalize hAe : va_A (cX hs ka u) s.heap.size = A at hD ⊢
  have hA : ∀ q : Nat, s.heap.size ≤ q → A q := fun q h => by rw [← hAe]; exact Or.inr h
  have hS : va_S A s.heap s.heap [] := va_S.rf
  have hP : va_P (dC, dI) vwCl (cX hs ka u) s.heap := hP
  clear hD0 hAe
  have hin0 : ∀ w ∈ u_ws RX0 TX0 14, w ∈ wzX0_or := fun w h => List.mem_cons_of_mem _ (inTX0 w h)
  have hf_72 := hts (.fieldLink RX0 72 "ConflictSolve" "alternativesFree" "I") (List.mem_cons_of_mem _ tz_52)
  have hf_75 := hts (.fieldLink RX0 75 "ConflictSolve" "latestIsDemand" "Z") (List.mem_cons_of_mem _ tz_53)
  have hl := lv_entry ([.ref (hs 0), .int p0, .int p1]) (n := 3) (Nat.le_of_ble_eq_true rfl)
  rw [lg_entry_eq]
  generalize (lg_sl ([.ref (hs 0), .int p0, .int p1]) ++ List.replicate (3 - (lg_sl ([.ref (hs 0), .int p0, .int p1])).length) Slot.unset).toArray = ls at hl ⊢
  have hl : lv_has ls 3 [(0, .ref (hs 0)), (1, .int p0), (2, .int p1)] := hl
  rw [pf_X0_or] at h
  refine lv_aload_n hx hb dX0_or_0 rfl (lv_at hl 0 rfl) ?_
  refine gt_X_alternativesFree (V := (x_alternativesFree u)) hx hb hts hin0 hown hK hP hf_72 rfl dX0_or_1 ?_
  refine lv_if_le (tgt := 15) hx hb dX0_or_4 (by decide) (fun c_1 => ?_) (fun c_1 => ?_)
  · rw [if_pos c_1] at h
    refine lv_iconst (v := (0 : Int32)) hx hb dX0_or_15 (by decide) ?_
    have e9 := Option.some.inj h
    exact W.zret (v := (0 : Int32)) hx hb hr rfl (fun t ht hW => ⟨⟨(0 : Int32), u, rfl, ⟨congrArg Prod.fst e9, congrArg Prod.snd e9⟩, by rw [ht]; exact hP, va_K.moved hW.alike hK, hD⟩, hS.F ht⟩) hS.2.2 dX0_or_16
  · rw [if_neg c_1] at h
    refine lv_aload_n hx hb dX0_or_7 rfl (lv_at hl 0 rfl) ?_
    refine lv_iload_n hx hb dX0_or_8 rfl (lv_at hl 1 rfl) ?_
    have hPc := hP
    have hDc := hD
    have hKc := hK
    have hFc := fr_X hD hS hA
    refine va_calli (va_runV (As := [.int p0]) (rest := []) ⟨hx, hb, hml, hown, hts⟩ (c_X0_hasPack l dC dI hs ka s.heap.size u p0 _ rfl) (cwV 1 hts gX0_or_X0_hasPack rfl rfl rfl (by decide +kernel) ⟨Nat.le_of_ble_eq_true rfl, Nat.le_of_ble_eq_true rfl⟩) ⟨fun a U g mk q => by obtain ⟨q0, q1, qP, qK, qD⟩ := q; exact ⟨q0, q1, qP, va_K.moved (u := U) (U := U.calling g mk a) (Vm.Alike.refl U.vm) qK, qD⟩, rc_X hKc hPc, fun U hU hW => ⟨rfl, by rw [hU], by rw [hU]; exact hPc, va_K.moved hW.alike hKc, hDc.weaken (fun _ _ _ _ => trivial)⟩⟩ rfl rfl hl.1 rfl (lv_room (Nat.le_of_ble_eq_true rfl)) dX0_or_9 ⟨Nat.zero_le _, Nat.zero_le _⟩) hS (fun q _ h => hFc q h) hFc (fun r_2 u_c2 t H1 locs ht hvm hw hB hz1 hk1 hS => ?_)
    obtain ⟨hw1, hw2⟩ := hw
    subst r_2
    subst u_c2
    obtain ⟨hP1, hK1, hD1⟩ := hB
    rw [ht] at hP1
    obtain ⟨hP, hD⟩ := jw_X hP hD hk1 hFc hP1 hD1
    clear hPc hDc hKc hFc hz1 hk1 hP1 hK1 hD1
    generalize H1 = H at hP hS ⊢
    refine lv_if_ne (tgt := 17) hx hb dX0_or_12 (by decide) (fun c_3 => ?_) (fun c_3 => ?_)
    · rw [if_neg c_3] at h
      refine lv_aload_n hx hb dX0_or_17 rfl (lv_at hl 0 rfl) ?_
      refine lv_dup hx hb dX0_or_18 rfl ?_
      refine gt_X_alternativesFree (V := (x_alternativesFree u)) hx hb hts hin0 hown hK hP hf_72 rfl dX0_or_19 ?_
      refine lv_iconst (v := (1 : Int32)) hx hb dX0_or_22 (by decide) ?_
      refine lv_isub hx hb dX0_or_23 ?_
      refine pt_X_alternativesFree hx hb hts hin0 hown hK hP hD hS hf_72 dX0_or_24 (fun H locs hP hD hS => ?_)
      refine lv_aload_n hx hb dX0_or_27 rfl (lv_at hl 0 rfl) ?_
      refine gt_X_latestIsDemand (V := (x_latestIsDemand u)) hx hb hts hin0 hown hK hP hf_75 (rq_x_latestIsDemand_alternativesFree u ((x_alternativesFree u) - (1 : Int32))) dX0_or_28 ?_
      refine lv_if_eq (tgt := 43) hx hb dX0_or_31 (by decide) (fun c_4 => ?_) (fun c_4 => ?_)
      · rw [if_pos c_4] at h
        refine lv_aload_n hx hb dX0_or_43 rfl (lv_at hl 0 rfl) ?_
        refine lv_iload_n hx hb dX0_or_44 rfl (lv_at hl 1 rfl) ?_
        refine lv_iload_n hx hb dX0_or_45 rfl (lv_at hl 2 rfl) ?_
        obtain ⟨q_5, hc_5, h⟩ := ob_some h
        have hPc := hP
        have hDc := hD
        have hKc := hK
        have hFc := fr_X hD hS hA
        refine va_callv (va_runV (As := [.int p0, .int p1]) (rest := []) ⟨hx, hb, hml, hown, hts⟩ (c_X0_addToLatestRow l dC dI hs ka H.size fu (xs_alternativesFree u ((x_alternativesFree u) - (1 : Int32))) p0 p1 q_5 hc_5) (cwV 2 hts gX0_or_X0_addToLatestRow rfl rfl rfl (by decide +kernel) ⟨Nat.le_of_ble_eq_true rfl, Nat.le_of_ble_eq_true rfl⟩) ⟨fun a U g mk q => by obtain ⟨q0, q1, qP, qK, qD⟩ := q; exact ⟨q0, q1, qP, va_K.moved (u := U) (U := U.calling g mk a) (Vm.Alike.refl U.vm) qK, qD⟩, rc_X hKc hPc, fun U hU hW => ⟨rfl, by rw [hU], by rw [hU]; exact hPc, va_K.moved hW.alike hKc, hDc.weaken (fun _ _ _ _ => trivial)⟩⟩ rfl rfl hl.1 rfl (lv_room (Nat.le_of_ble_eq_true rfl)) dX0_or_46 ⟨Nat.zero_le _, Nat.zero_le _⟩) hS (fun q _ h => hFc q h) hFc (fun u_c5 t H1 locs ht hvm hw hB hz1 hk1 hS => ?_)
        subst u_c5
        obtain ⟨hP1, hK1, hD1⟩ := hB
        rw [ht] at hP1
        obtain ⟨hP, hD⟩ := jw_X hP hD hk1 hFc hP1 hD1
        clear hPc hDc hKc hFc hz1 hk1 hP1 hK1 hD1
        generalize H1 = H at hP hS ⊢
        refine lv_iconst (v := (1 : Int32)) hx hb dX0_or_49 (by decide) ?_
        have e9 := Option.some.inj h
        exact W.zret (v := (1 : Int32)) hx hb hr rfl (fun t ht hW => ⟨⟨(1 : Int32), q_5, rfl, ⟨congrArg Prod.fst e9, congrArg Prod.snd e9⟩, by rw [ht]; exact hP, va_K.moved hW.alike hK, hD⟩, hS.F ht⟩) hS.2.2 dX0_or_50
      · rw [if_neg c_4] at h
        refine lv_aload_n hx hb dX0_or_34 rfl (lv_at hl 0 rfl) ?_
        refine lv_iload_n hx hb dX0_or_35 rfl (lv_at hl 1 rfl) ?_
        refine lv_iload_n hx hb dX0_or_36 rfl (lv_at hl 2 rfl) ?_
        obtain ⟨q_6, hc_6, h⟩ := ob_some h
        have hPc := hP
        have hDc := hD
        have hKc := hK
        have hFc := fr_X hD hS hA
        refine va_callv (va_runV (As := [.int p0, .int p1]) (rest := []) ⟨hx, hb, hml, hown, hts⟩ (c_X0_addToLatestDemand l dC dI hs ka H.size fu (xs_alternativesFree u ((x_alternativesFree u) - (1 : Int32))) p0 p1 q_6 hc_6) (cwV 2 hts gX0_or_X0_addToLatestDemand rfl rfl rfl (by decide +kernel) ⟨Nat.le_of_ble_eq_true rfl, Nat.le_of_ble_eq_true rfl⟩) ⟨fun a U g mk q => by obtain ⟨q0, q1, qP, qK, qD⟩ := q; exact ⟨q0, q1, qP, va_K.moved (u := U) (U := U.calling g mk a) (Vm.Alike.refl U.vm) qK, qD⟩, rc_X hKc hPc, fun U hU hW => ⟨rfl, by rw [hU], by rw [hU]; exact hPc, va_K.moved hW.alike hKc, hDc.weaken (fun _ _ _ _ => trivial)⟩⟩ rfl rfl hl.1 rfl (lv_room (Nat.le_of_ble_eq_true rfl)) dX0_or_37 ⟨Nat.zero_le _, Nat.zero_le _⟩) hS (fun q _ h => hFc q h) hFc (fun u_c6 t H1 locs ht hvm hw hB hz1 hk1 hS => ?_)
        subst u_c6
        obtain ⟨hP1, hK1, hD1⟩ := hB
        rw [ht] at hP1
        obtain ⟨hP, hD⟩ := jw_X hP hD hk1 hFc hP1 hD1
        clear hPc hDc hKc hFc hz1 hk1 hP1 hK1 hD1
        generalize H1 = H at hP hS ⊢
        refine lv_goto (tgt := 49) hx hb dX0_or_40 (by decide) ?_
        refine lv_iconst (v := (1 : Int32)) hx hb dX0_or_49 (by decide) ?_
        have e9 := Option.some.inj h
        exact W.zret (v := (1 : Int32)) hx hb hr rfl (fun t ht hW => ⟨⟨(1 : Int32), q_6, rfl, ⟨congrArg Prod.fst e9, congrArg Prod.snd e9⟩, by rw [ht]; exact hP, va_K.moved hW.alike hK, hD⟩, hS.F ht⟩) hS.2.2 dX0_or_50
    · rw [if_pos c_3] at h
      refine lv_iconst (v := (0 : Int32)) hx hb dX0_or_15 (by decide) ?_
      have e9 := Option.some.inj h
      exact W.zret (v := (0 : Int32)) hx hb hr rfl (fun t ht hW => ⟨⟨(0 : Int32), u, rfl, ⟨congrArg Prod.fst e9, congrArg Prod.snd e9⟩, by rw [ht]; exact hP, va_K.moved hW.alike hK, hD⟩, hS.F ht⟩) hS.2.2 dX0_or_16
set_option maxHeartbeats 4000000 in
set_option maxRecDepth 100000 in
theorem c_X0_leaveOut (l : Launch) (dC : Nat → ClassId) (dI : Nat → Nat → Nat) (hs : Nat → Nat) (ka : Nat → ClassId) (sz : Nat) (fu : Nat) (u : XS) (p0 : Int32) (p1 : Int32) (r : Int32) (u' : XS) (h : pf_X0_leaveOut fu p0 p1 u = some (r, u')) : Met l yX0_leaveOut wzX0_leaveOut ({ frames := 0, cells := 0, slots := 0, locals := 0 }) (va_Pc [.ref (hs 0), .int p0, .int p1] (fun U => U.heap.size = sz ∧ va_P (dC, dI) vwCl (cX hs ka u) U.heap ∧ va_K (dC, dI) vwCl (tX ka) U ∧ va_D (fun _ => True) (cX hs ka u))) (va_Qi (fun (r1 : Int32) (u1 : XS) => r1 = r ∧ u1 = u') (aX dC dI (va_A (cX hs ka u) sz) hs ka) (va_A (cX hs ka u) sz)) 0 0 (va_A (cX hs ka u) sz) := by
  refine Met.ofW (cc := cX0_leaveOut) (maxL := 5) (ret := (some .boolean)) (by decide) rfl ?_
  intro p e s m args below meth c s₁ B hml hv
  obtain ⟨rfl, hsz, hP, hK, hD0⟩ := hv
  have hx := B.exec
  have hb := B.bytes
  have hr := B.returns
  have hts := atoms_spec (ws := wzX0_leaveOut) B.pre
  have hown : s.vm.findClass RX0 = some m.cls := findClass_of_methodNamed B.named
  have hlocks := B.notSynchronized
  subst hsz
  have hD := hD0.self (sz := s.heap.size)
  generalize hAe : va_A (cX hs ka u) s.heap.size = A at hD ⊢
  have hA : ∀ q : Nat, s.heap.size ≤ q → A q := fun q h => by rw [← hAe]; exact Or.inr h
  have hS : va_S A s.heap s.heap [] := va_S.rf
  have hP : va_P (dC, dI) vwCl (cX hs ka u) s.heap := hP
  clear hD0 hAe
  have hin0 : ∀ w ∈ u_ws RX0 TX0 14, w ∈ wzX0_leaveOut := fun w h => List.mem_cons_of_mem _ (inTX0 w h)
  have hf_65 := hts (.fieldLink RX0 65 "ConflictSolve" "demands" "I") (List.mem_cons_of_mem _ tz_47)
  have hf_86 := hts (.fieldLink RX0 86 "ConflictSolve" "leftOut" "I") (List.mem_cons_of_mem _ tz_51)
  have hl := lv_entry ([.ref (hs 0), .int p0, .int p1]) (n := 5) (Nat.le_of_ble_eq_true rfl)
  rw [lg_entry_eq]
  generalize (lg_sl ([.ref (hs 0), .int p0, .int p1]) ++ List.replicate (5 - (lg_sl ([.ref (hs 0), .int p0, .int p1])).length) Slot.unset).toArray = ls at hl ⊢
  have hl : lv_has ls 5 [(0, .ref (hs 0)), (1, .int p0), (2, .int p1)] := hl
  rw [pf_X0_leaveOut] at h
  refine lv_iload_n hx hb dX0_leaveOut_0 rfl (lv_at hl 1 rfl) ?_
  refine lv_if_lt (tgt := 12) hx hb dX0_leaveOut_1 (by decide) (fun c_1 => ?_) (fun c_1 => ?_)
  · rw [if_pos c_1] at h
    refine lv_iconst (v := (0 : Int32)) hx hb dX0_leaveOut_12 (by decide) ?_
    have e9 := Option.some.inj h
    exact W.zret (v := (0 : Int32)) hx hb hr rfl (fun t ht hW => ⟨⟨(0 : Int32), u, rfl, ⟨congrArg Prod.fst e9, congrArg Prod.snd e9⟩, by rw [ht]; exact hP, va_K.moved hW.alike hK, hD⟩, hS.F ht⟩) hS.2.2 dX0_leaveOut_13
  · rw [if_neg c_1] at h
    refine lv_iload_n hx hb dX0_leaveOut_4 rfl (lv_at hl 1 rfl) ?_
    refine lv_aload_n hx hb dX0_leaveOut_5 rfl (lv_at hl 0 rfl) ?_
    refine gt_X_demands (V := (x_demands u)) hx hb hts hin0 hown hK hP hf_65 rfl dX0_leaveOut_6 ?_
    refine lv_icmp_lt (tgt := 14) hx hb dX0_leaveOut_9 (by decide) (fun c_2 => ?_) (fun c_2 => ?_)
    · rw [if_pos c_2] at h
      refine lv_iconst (v := (1 : Int32)) hx hb dX0_leaveOut_14 (by decide) ?_
      refine lv_iload_n hx hb dX0_leaveOut_15 rfl (lv_at hl 1 rfl) ?_
      refine lv_ishl hx hb dX0_leaveOut_16 ?_
      refine lv_istore_n (lv' := [(3, .int ((1 : Int32) <<< (p0 &&& 31))), (0, .ref (hs 0)), (1, .int p0), (2, .int p1)]) hx hb dX0_leaveOut_17 rfl hl (by decide) rfl (fun ls hl => ?_)
      refine lv_aload_n hx hb dX0_leaveOut_18 rfl (lv_at hl 1 rfl) ?_
      refine gt_X_leftOut (V := (x_leftOut u)) hx hb hts hin0 hown hK hP hf_86 rfl dX0_leaveOut_19 ?_
      refine lv_iload_n hx hb dX0_leaveOut_22 rfl (lv_at hl 0 rfl) ?_
      refine lv_iand hx hb dX0_leaveOut_23 ?_
      refine lv_if_eq (tgt := 31) hx hb dX0_leaveOut_24 (by decide) (fun c_3 => ?_) (fun c_3 => ?_)
      · rw [if_pos c_3] at h
        refine lv_iconst (v := (0 : Int32)) hx hb dX0_leaveOut_31 (by decide) ?_
        refine lv_istore (lv' := [(4, .int (0 : Int32)), (3, .int ((1 : Int32) <<< (p0 &&& 31))), (0, .ref (hs 0)), (1, .int p0), (2, .int p1)]) hx hb dX0_leaveOut_32 hl (by decide) rfl (fun ls hl => ?_)
        refine lv_iload hx hb dX0_leaveOut_34 (lv_at hl 0 rfl) ?_
        refine lv_iload_n hx hb dX0_leaveOut_36 rfl (lv_at hl 4 rfl) ?_
        refine lv_icmp_ne (tgt := 42) hx hb dX0_leaveOut_37 (by decide) (fun c_4 => ?_) (fun c_4 => ?_)
        · rw [if_neg c_4] at h
          refine lv_aload_n hx hb dX0_leaveOut_42 rfl (lv_at hl 2 rfl) ?_
          refine lv_dup hx hb dX0_leaveOut_43 rfl ?_
          refine gt_X_leftOut (V := (x_leftOut u)) hx hb hts hin0 hown hK hP hf_86 rfl dX0_leaveOut_44 ?_
          refine lv_iload_n hx hb dX0_leaveOut_47 rfl (lv_at hl 1 rfl) ?_
          refine lv_ixor hx hb dX0_leaveOut_48 ?_
          refine pt_X_leftOut hx hb hts hin0 hown hK hP hD hS hf_86 dX0_leaveOut_49 (fun H locs hP hD hS => ?_)
          refine lv_iconst (v := (1 : Int32)) hx hb dX0_leaveOut_52 (by decide) ?_
          have e9 := Option.some.inj h
          exact W.zret (v := (1 : Int32)) hx hb hr rfl (fun t ht hW => ⟨⟨(1 : Int32), (xs_leftOut u ((x_leftOut u) ^^^ ((1 : Int32) <<< (p0 &&& 31)))), rfl, ⟨congrArg Prod.fst e9, congrArg Prod.snd e9⟩, by rw [ht]; exact hP, va_K.moved hW.alike hK, hD⟩, hS.F ht⟩) hS.2.2 dX0_leaveOut_53
        · rw [if_pos c_4] at h
          refine lv_iconst (v := (0 : Int32)) hx hb dX0_leaveOut_40 (by decide) ?_
          have e9 := Option.some.inj h
          exact W.zret (v := (0 : Int32)) hx hb hr rfl (fun t ht hW => ⟨⟨(0 : Int32), u, rfl, ⟨congrArg Prod.fst e9, congrArg Prod.snd e9⟩, by rw [ht]; exact hP, va_K.moved hW.alike hK, hD⟩, hS.F ht⟩) hS.2.2 dX0_leaveOut_41
      · rw [if_neg c_3] at h
        refine lv_iconst (v := (1 : Int32)) hx hb dX0_leaveOut_27 (by decide) ?_
        refine lv_goto (tgt := 32) hx hb dX0_leaveOut_28 (by decide) ?_
        refine lv_istore (lv' := [(4, .int (1 : Int32)), (3, .int ((1 : Int32) <<< (p0 &&& 31))), (0, .ref (hs 0)), (1, .int p0), (2, .int p1)]) hx hb dX0_leaveOut_32 hl (by decide) rfl (fun ls hl => ?_)
        refine lv_iload hx hb dX0_leaveOut_34 (lv_at hl 0 rfl) ?_
        refine lv_iload_n hx hb dX0_leaveOut_36 rfl (lv_at hl 4 rfl) ?_
        refine lv_icmp_ne (tgt := 42) hx hb dX0_leaveOut_37 (by decide) (fun c_5 => ?_) (fun c_5 => ?_)
        · rw [if_neg c_5] at h
          refine lv_aload_n hx hb dX0_leaveOut_42 rfl (lv_at hl 2 rfl) ?_
          refine lv_dup hx hb dX0_leaveOut_43 rfl ?_
          refine gt_X_leftOut (V := (x_leftOut u)) hx hb hts hin0 hown hK hP hf_86 rfl dX0_leaveOut_44 ?_
          refine lv_iload_n hx hb dX0_leaveOut_47 rfl (lv_at hl 1 rfl) ?_
          refine lv_ixor hx hb dX0_leaveOut_48 ?_
          refine pt_X_leftOut hx hb hts hin0 hown hK hP hD hS hf_86 dX0_leaveOut_49 (fun H locs hP hD hS => ?_)
          refine lv_iconst (v := (1 : Int32)) hx hb dX0_leaveOut_52 (by decide) ?_
          have e9 := Option.some.inj h
          exact W.zret (v := (1 : Int32)) hx hb hr rfl (fun t ht hW => ⟨⟨(1 : Int32), (xs_leftOut u ((x_leftOut u) ^^^ ((1 : Int32) <<< (p0 &&& 31)))), rfl, ⟨congrArg Prod.fst e9, congrArg Prod.snd e9⟩, by rw [ht]; exact hP, va_K.moved hW.alike hK, hD⟩, hS.F ht⟩) hS.2.2 dX0_leaveOut_53
        · rw [if_pos c_5] at h
          refine lv_iconst (v := (0 : Int32)) hx hb dX0_leaveOut_40 (by decide) ?_
          have e9 := Option.some.inj h
          exact W.zret (v := (0 : Int32)) hx hb hr rfl (fun t ht hW => ⟨⟨(0 : Int32), u, rfl, ⟨congrArg Prod.fst e9, congrArg Prod.snd e9⟩, by rw [ht]; exact hP, va_K.moved hW.alike hK, hD⟩, hS.F ht⟩) hS.2.2 dX0_leaveOut_41
    · rw [if_neg c_2] at h
      refine lv_iconst (v := (0 : Int32)) hx hb dX0_leaveOut_12 (by decide) ?_
      have e9 := Option.some.inj h
      exact W.zret (v := (0 : Int32)) hx hb hr rfl (fun t ht hW => ⟨⟨(0 : Int32), u, rfl, ⟨congrArg Prod.fst e9, congrArg Prod.snd e9⟩, by rw [ht]; exact hP, va_K.moved hW.alike hK, hD⟩, hS.F ht⟩) hS.2.2 dX0_leaveOut_13
set_option maxHeartbeats 4000000 in
set_option maxRecDepth 100000 in
theorem c_X0_hasPlace (l : Launch) (dC : Nat → ClassId) (dI : Nat → Nat → Nat) (hs : Nat → Nat) (ka : Nat → ClassId) (sz : Nat) (fu : Nat) (u : XS) (p0 : Int32) (p1 : Int32) (r : Int32) (h : pf_X0_hasPlace fu p0 p1 u = some r) : Met l yX0_hasPlace wzX0_hasPlace ({ frames := 3, cells := 0, slots := 0, locals := 64 }) (va_Pc [.ref (hs 0), .int p0, .int p1] (fun U => U.heap.size = sz ∧ va_P (dC, dI) vwCl (cX hs ka u) U.heap ∧ va_K (dC, dI) vwCl (tX ka) U ∧ va_D (fun _ => True) (cX hs ka u))) (va_Qi (fun (r1 : Int32) (u1 : XS) => r1 = r ∧ u1 = u) (aX dC dI (va_A (cX hs ka u) sz) hs ka) (va_A (cX hs ka u) sz)) 0 0 (va_A (cX hs ka u) sz) := by
  refine Met.ofW (cc := cX0_hasPlace) (maxL := 3) (ret := (some .boolean)) (by decide) rfl ?_
  intro p e s m args below meth c s₁ B hml hv
  obtain ⟨rfl, hsz, hP, hK, hD0⟩ := hv
  have hx := B.exec
  have hb := B.bytes
  have hr := B.returns
  have hts := atoms_spec (ws := wzX0_hasPlace) B.pre
  have hown : s.vm.findClass RX0 = some m.cls := findClass_of_methodNamed B.named
  have hlocks := B.notSynchronized
  subst hsz
  have hD := hD0.self (sz := s.heap.size)
  generalize hAe : va_A (cX hs ka u) s.heap.size = A at hD ⊢
  have hA : ∀ q : Nat, s.heap.size ≤ q → A q := fun q h => by rw [← hAe]; exact Or.inr h
  have hS : va_S A s.heap s.heap [] := va_S.rf
  have hP : va_P (dC, dI) vwCl (cX hs ka u) s.heap := hP
  clear hD0 hAe
  have hl := lv_entry ([.ref (hs 0), .int p0, .int p1]) (n := 3) (Nat.le_of_ble_eq_true rfl)
  rw [lg_entry_eq]
  generalize (lg_sl ([.ref (hs 0), .int p0, .int p1]) ++ List.replicate (3 - (lg_sl ([.ref (hs 0), .int p0, .int p1])).length) Slot.unset).toArray = ls at hl ⊢
  have hl : lv_has ls 3 [(0, .ref (hs 0)), (1, .int p0), (2, .int p1)] := hl
  rw [pf_X0_hasPlace] at h
  refine lv_iload_n hx hb dX0_hasPlace_0 rfl (lv_at hl 2 rfl) ?_
  refine lv_iconst (v := (-1 : Int32)) hx hb dX0_hasPlace_1 (by decide) ?_
  refine lv_icmp_ne (tgt := 13) hx hb dX0_hasPlace_2 (by decide) (fun c_1 => ?_) (fun c_1 => ?_)
  · rw [if_neg c_1] at h
    refine lv_aload_n hx hb dX0_hasPlace_13 rfl (lv_at hl 0 rfl) ?_
    refine lv_iload_n hx hb dX0_hasPlace_14 rfl (lv_at hl 1 rfl) ?_
    refine lv_iload_n hx hb dX0_hasPlace_15 rfl (lv_at hl 2 rfl) ?_
    have hPc := hP
    have hDc := hD
    have hKc := hK
    have hFc := fr_X hD hS hA
    refine va_calli (va_runV (As := [.int p0, .int p1]) (rest := []) ⟨hx, hb, hml, hown, hts⟩ (c_X0_hasVersion l dC dI hs ka s.heap.size u p0 p1 _ rfl) (cwV 2 hts gX0_hasPlace_X0_hasVersion rfl rfl rfl (by decide +kernel) ⟨Nat.le_of_ble_eq_true rfl, Nat.le_of_ble_eq_true rfl⟩) ⟨fun a U g mk q => by obtain ⟨q0, q1, qP, qK, qD⟩ := q; exact ⟨q0, q1, qP, va_K.moved (u := U) (U := U.calling g mk a) (Vm.Alike.refl U.vm) qK, qD⟩, rc_X hKc hPc, fun U hU hW => ⟨rfl, by rw [hU], by rw [hU]; exact hPc, va_K.moved hW.alike hKc, hDc.weaken (fun _ _ _ _ => trivial)⟩⟩ rfl rfl hl.1 rfl (lv_room (Nat.le_of_ble_eq_true rfl)) dX0_hasPlace_16 ⟨Nat.zero_le _, Nat.zero_le _⟩) hS (fun q _ h => hFc q h) hFc (fun r_2 u_c2 t H1 locs ht hvm hw hB hz1 hk1 hS => ?_)
    obtain ⟨hw1, hw2⟩ := hw
    subst r_2
    subst u_c2
    obtain ⟨hP1, hK1, hD1⟩ := hB
    rw [ht] at hP1
    obtain ⟨hP, hD⟩ := jw_X hP hD hk1 hFc hP1 hD1
    clear hPc hDc hKc hFc hz1 hk1 hP1 hK1 hD1
    generalize H1 = H at hP hS ⊢
    obtain ⟨g_3, h⟩ := og_some h
    have e9 := Option.some.inj h
    exact W.zret (v := (pf_X0_hasVersion p0 p1 u)) hx hb hr (bz_n g_3) (fun t ht hW => ⟨⟨(pf_X0_hasVersion p0 p1 u), u, rfl, ⟨e9, rfl⟩, by rw [ht]; exact hP, va_K.moved hW.alike hK, hD⟩, hS.F ht⟩) hS.2.2 dX0_hasPlace_19
  · rw [if_pos c_1] at h
    refine lv_aload_n hx hb dX0_hasPlace_5 rfl (lv_at hl 0 rfl) ?_
    refine lv_iload_n hx hb dX0_hasPlace_6 rfl (lv_at hl 1 rfl) ?_
    have hPc := hP
    have hDc := hD
    have hKc := hK
    have hFc := fr_X hD hS hA
    refine va_calli (va_runV (As := [.int p0]) (rest := []) ⟨hx, hb, hml, hown, hts⟩ (c_X0_hasPack l dC dI hs ka s.heap.size u p0 _ rfl) (cwV 1 hts gX0_hasPlace_X0_hasPack rfl rfl rfl (by decide +kernel) ⟨Nat.le_of_ble_eq_true rfl, Nat.le_of_ble_eq_true rfl⟩) ⟨fun a U g mk q => by obtain ⟨q0, q1, qP, qK, qD⟩ := q; exact ⟨q0, q1, qP, va_K.moved (u := U) (U := U.calling g mk a) (Vm.Alike.refl U.vm) qK, qD⟩, rc_X hKc hPc, fun U hU hW => ⟨rfl, by rw [hU], by rw [hU]; exact hPc, va_K.moved hW.alike hKc, hDc.weaken (fun _ _ _ _ => trivial)⟩⟩ rfl rfl hl.1 rfl (lv_room (Nat.le_of_ble_eq_true rfl)) dX0_hasPlace_7 ⟨Nat.zero_le _, Nat.zero_le _⟩) hS (fun q _ h => hFc q h) hFc (fun r_4 u_c4 t H1 locs ht hvm hw hB hz1 hk1 hS => ?_)
    obtain ⟨hw1, hw2⟩ := hw
    subst r_4
    subst u_c4
    obtain ⟨hP1, hK1, hD1⟩ := hB
    rw [ht] at hP1
    obtain ⟨hP, hD⟩ := jw_X hP hD hk1 hFc hP1 hD1
    clear hPc hDc hKc hFc hz1 hk1 hP1 hK1 hD1
    generalize H1 = H at hP hS ⊢
    refine lv_goto (tgt := 19) hx hb dX0_hasPlace_10 (by decide) ?_
    obtain ⟨g_5, h⟩ := og_some h
    have e9 := Option.some.inj h
    exact W.zret (v := (pf_X0_hasPack p0 u)) hx hb hr (bz_n g_5) (fun t ht hW => ⟨⟨(pf_X0_hasPack p0 u), u, rfl, ⟨e9, rfl⟩, by rw [ht]; exact hP, va_K.moved hW.alike hK, hD⟩, hS.F ht⟩) hS.2.2 dX0_hasPlace_19
set_option maxHeartbeats 4000000 in
set_option maxRecDepth 100000 in
theorem c_X0_lock (l : Launch) (dC : Nat → ClassId) (dI : Nat → Nat → Nat) (hs : Nat → Nat) (ka : Nat → ClassId) (sz : Nat) (fu : Nat) (u : XS) (p0 : Int32) (p1 : Int32) (r : Int32) (u' : XS) (h : pf_X0_lock fu p0 p1 u = some (r, u')) : Met l yX0_lock wzX0_lock ({ frames := 4, cells := 0, slots := 0, locals := 86 }) (va_Pc [.ref (hs 0), .int p0, .int p1] (fun U => U.heap.size = sz ∧ va_P (dC, dI) vwCl (cX hs ka u) U.heap ∧ va_K (dC, dI) vwCl (tX ka) U ∧ va_D (fun _ => True) (cX hs ka u))) (va_Qi (fun (r1 : Int32) (u1 : XS) => r1 = r ∧ u1 = u') (aX dC dI (va_A (cX hs ka u) sz) hs ka) (va_A (cX hs ka u) sz)) 0 0 (va_A (cX hs ka u) sz) := by
  refine Met.ofW (cc := cX0_lock) (maxL := 3) (ret := (some .boolean)) (by decide) rfl ?_
  intro p e s m args below meth c s₁ B hml hv
  obtain ⟨rfl, hsz, hP, hK, hD0⟩ := hv
  have hx := B.exec
  have hb := B.bytes
  have hr := B.returns
  have hts := atoms_spec (ws := wzX0_lock) B.pre
  have hown : s.vm.findClass RX0 = some m.cls := findClass_of_methodNamed B.named
  have hlocks := B.notSynchronized
  subst hsz
  have hD := hD0.self (sz := s.heap.size)
  generalize hAe : va_A (cX hs ka u) s.heap.size = A at hD ⊢
  have hA : ∀ q : Nat, s.heap.size ≤ q → A q := fun q h => by rw [← hAe]; exact Or.inr h
  have hS : va_S A s.heap s.heap [] := va_S.rf
  have hP : va_P (dC, dI) vwCl (cX hs ka u) s.heap := hP
  clear hD0 hAe
  have hin0 : ∀ w ∈ u_ws RX0 TX0 14, w ∈ wzX0_lock := fun w h => List.mem_cons_of_mem _ (inTX0 w h)
  have hf_92 := hts (.fieldLink RX0 92 "ConflictSolve" "locked" "J") (List.mem_cons_of_mem _ tz_50)
  have hl := lv_entry ([.ref (hs 0), .int p0, .int p1]) (n := 3) (Nat.le_of_ble_eq_true rfl)
  rw [lg_entry_eq]
  generalize (lg_sl ([.ref (hs 0), .int p0, .int p1]) ++ List.replicate (3 - (lg_sl ([.ref (hs 0), .int p0, .int p1])).length) Slot.unset).toArray = ls at hl ⊢
  have hl : lv_has ls 3 [(0, .ref (hs 0)), (1, .int p0), (2, .int p1)] := hl
  rw [pf_X0_lock] at h
  refine lv_aload_n hx hb dX0_lock_0 rfl (lv_at hl 0 rfl) ?_
  refine lv_iload_n hx hb dX0_lock_1 rfl (lv_at hl 1 rfl) ?_
  refine lv_iload_n hx hb dX0_lock_2 rfl (lv_at hl 2 rfl) ?_
  obtain ⟨q_1, hc_1, h⟩ := ob_some h
  have hPc := hP
  have hDc := hD
  have hKc := hK
  have hFc := fr_X hD hS hA
  refine va_calli (va_runV (As := [.int p0, .int p1]) (rest := []) ⟨hx, hb, hml, hown, hts⟩ (c_X0_hasPlace l dC dI hs ka s.heap.size fu u p0 p1 q_1 hc_1) (cwV 2 hts gX0_lock_X0_hasPlace rfl rfl rfl (by decide +kernel) ⟨Nat.le_of_ble_eq_true rfl, Nat.le_of_ble_eq_true rfl⟩) ⟨fun a U g mk q => by obtain ⟨q0, q1, qP, qK, qD⟩ := q; exact ⟨q0, q1, qP, va_K.moved (u := U) (U := U.calling g mk a) (Vm.Alike.refl U.vm) qK, qD⟩, rc_X hKc hPc, fun U hU hW => ⟨rfl, by rw [hU], by rw [hU]; exact hPc, va_K.moved hW.alike hKc, hDc.weaken (fun _ _ _ _ => trivial)⟩⟩ rfl rfl hl.1 rfl (lv_room (Nat.le_of_ble_eq_true rfl)) dX0_lock_3 ⟨Nat.zero_le _, Nat.zero_le _⟩) hS (fun q _ h => hFc q h) hFc (fun r_1 u_c1 t H1 locs ht hvm hw hB hz1 hk1 hS => ?_)
  obtain ⟨hw1, hw2⟩ := hw
  subst r_1
  subst u_c1
  obtain ⟨hP1, hK1, hD1⟩ := hB
  rw [ht] at hP1
  obtain ⟨hP, hD⟩ := jw_X hP hD hk1 hFc hP1 hD1
  clear hPc hDc hKc hFc hz1 hk1 hP1 hK1 hD1
  generalize H1 = H at hP hS ⊢
  refine lv_if_ne (tgt := 11) hx hb dX0_lock_6 (by decide) (fun c_2 => ?_) (fun c_2 => ?_)
  · rw [if_neg c_2] at h
    refine lv_aload_n hx hb dX0_lock_11 rfl (lv_at hl 0 rfl) ?_
    refine lv_dup hx hb dX0_lock_12 rfl ?_
    refine gt_X_locked (V := (x_locked u)) hx hb hts hin0 hown hK hP hf_92 rfl dX0_lock_13 ?_
    refine lv_iload_n hx hb dX0_lock_16 rfl (lv_at hl 1 rfl) ?_
    have hPc : va_P (dC, dI) vwCl ([] : va_W) H := hP.sub [] rfl
    have hDc : va_D A ([] : va_W) := hD.sub [] (by decide) rfl
    have hKc := hK.sub (tys' := []) [] rfl
    have hFc := fn_X hD hS hA
    refine va_calll (va_runS (As := [.int p0]) (rest := [.long (x_locked u), .ref (hs 0)]) ⟨hx, hb, hml, hown, hts⟩ (c_X0_allOf l dC dI H.size p0 _ rfl) (va_cwS 1 hts gX0_lock_X0_allOf rfl rfl rfl (by decide +kernel) ⟨Nat.le_of_ble_eq_true rfl, Nat.le_of_ble_eq_true rfl⟩) ⟨fun a U g mk q => by obtain ⟨q0, q1, qP, qK, qD⟩ := q; exact ⟨q0, q1, qP, va_K.moved (u := U) (U := U.calling g mk a) (Vm.Alike.refl U.vm) qK, qD⟩, fun U hU hW => ⟨rfl, by rw [hU], by rw [hU]; exact hPc, va_K.moved hW.alike hKc, hDc.weaken (fun _ _ _ _ => trivial)⟩⟩ rfl rfl hl.1 rfl (lv_room (Nat.le_of_ble_eq_true rfl)) dX0_lock_17 ⟨Nat.zero_le _, Nat.zero_le _⟩) hS (fun q _ h => hFc q h) hFc (fun r_3 u_c3 t H1 locs ht hvm hw hB hz1 hk1 hS => ?_)
    subst r_3
    obtain ⟨hP1, hK1, hD1⟩ := hB
    rw [ht] at hP1
    obtain ⟨hP, hD⟩ := js_X hP hD hk1 hFc hP1 hD1
    clear hPc hDc hKc hFc hz1 hk1 hP1 hK1 hD1
    generalize H1 = H at hP hS ⊢
    refine lv_ldc2 (v := (-1 : Int64)) hx hb hown (hts (.constantLong RX0 55 (-1)) (List.mem_cons_of_mem _ tz_121)) dX0_lock_20 ?_
    refine lv_lxor hx hb dX0_lock_23 ?_
    refine lv_land hx hb dX0_lock_24 ?_
    refine pt_X_locked hx hb hts hin0 hown hK hP hD hS hf_92 dX0_lock_25 (fun H locs hP hD hS => ?_)
    refine lv_iload_n hx hb dX0_lock_28 rfl (lv_at hl 2 rfl) ?_
    refine lv_iconst (v := (-1 : Int32)) hx hb dX0_lock_29 (by decide) ?_
    refine lv_icmp_eq (tgt := 47) hx hb dX0_lock_30 (by decide) (fun c_4 => ?_) (fun c_4 => ?_)
    · rw [if_pos c_4] at h
      refine lv_iconst (v := (1 : Int32)) hx hb dX0_lock_47 (by decide) ?_
      have e9 := Option.some.inj h
      exact W.zret (v := (1 : Int32)) hx hb hr rfl (fun t ht hW => ⟨⟨(1 : Int32), (xs_locked u ((x_locked u) &&& ((pf_X0_allOf p0) ^^^ (-1 : Int64)))), rfl, ⟨congrArg Prod.fst e9, congrArg Prod.snd e9⟩, by rw [ht]; exact hP, va_K.moved hW.alike hK, hD⟩, hS.F ht⟩) hS.2.2 dX0_lock_48
    · rw [if_neg c_4] at h
      refine lv_aload_n hx hb dX0_lock_33 rfl (lv_at hl 0 rfl) ?_
      refine lv_dup hx hb dX0_lock_34 rfl ?_
      refine gt_X_locked (V := ((x_locked u) &&& ((pf_X0_allOf p0) ^^^ (-1 : Int64)))) hx hb hts hin0 hown hK hP hf_92 (rq_x_locked_locked u ((x_locked u) &&& ((pf_X0_allOf p0) ^^^ (-1 : Int64)))) dX0_lock_35 ?_
      refine lv_iload_n hx hb dX0_lock_38 rfl (lv_at hl 1 rfl) ?_
      refine lv_iload_n hx hb dX0_lock_39 rfl (lv_at hl 2 rfl) ?_
      have hPc : va_P (dC, dI) vwCl ([] : va_W) H := hP.sub [] rfl
      have hDc : va_D A ([] : va_W) := hD.sub [] (by decide) rfl
      have hKc := hK.sub (tys' := []) [] rfl
      have hFc := fn_X hD hS hA
      refine va_calll (va_runS (As := [.int p0, .int p1]) (rest := [.long ((x_locked u) &&& ((pf_X0_allOf p0) ^^^ (-1 : Int64))), .ref (hs 0)]) ⟨hx, hb, hml, hown, hts⟩ (c_X0_placeOf l dC dI H.size p0 p1 _ rfl) (va_cwS 2 hts gX0_lock_X0_placeOf rfl rfl rfl (by decide +kernel) ⟨Nat.le_of_ble_eq_true rfl, Nat.le_of_ble_eq_true rfl⟩) ⟨fun a U g mk q => by obtain ⟨q0, q1, qP, qK, qD⟩ := q; exact ⟨q0, q1, qP, va_K.moved (u := U) (U := U.calling g mk a) (Vm.Alike.refl U.vm) qK, qD⟩, fun U hU hW => ⟨rfl, by rw [hU], by rw [hU]; exact hPc, va_K.moved hW.alike hKc, hDc.weaken (fun _ _ _ _ => trivial)⟩⟩ rfl rfl hl.1 rfl (lv_room (Nat.le_of_ble_eq_true rfl)) dX0_lock_40 ⟨Nat.zero_le _, Nat.zero_le _⟩) hS (fun q _ h => hFc q h) hFc (fun r_5 u_c5 t H1 locs ht hvm hw hB hz1 hk1 hS => ?_)
      subst r_5
      obtain ⟨hP1, hK1, hD1⟩ := hB
      rw [ht] at hP1
      obtain ⟨hP, hD⟩ := js_X hP hD hk1 hFc hP1 hD1
      clear hPc hDc hKc hFc hz1 hk1 hP1 hK1 hD1
      generalize H1 = H at hP hS ⊢
      refine lv_lor hx hb dX0_lock_43 ?_
      refine pt_X_locked hx hb hts hin0 hown hK hP hD hS hf_92 dX0_lock_44 (fun H locs hP hD hS => ?_)
      refine lv_iconst (v := (1 : Int32)) hx hb dX0_lock_47 (by decide) ?_
      have e9 := Option.some.inj h
      exact W.zret (v := (1 : Int32)) hx hb hr rfl (fun t ht hW => ⟨⟨(1 : Int32), (xs_locked (xs_locked u ((x_locked u) &&& ((pf_X0_allOf p0) ^^^ (-1 : Int64)))) (((x_locked u) &&& ((pf_X0_allOf p0) ^^^ (-1 : Int64))) ||| (pf_X0_placeOf p0 p1))), rfl, ⟨congrArg Prod.fst e9, congrArg Prod.snd e9⟩, by rw [ht]; exact hP, va_K.moved hW.alike hK, hD⟩, hS.F ht⟩) hS.2.2 dX0_lock_48
  · rw [if_pos c_2] at h
    refine lv_iconst (v := (0 : Int32)) hx hb dX0_lock_9 (by decide) ?_
    have e9 := Option.some.inj h
    exact W.zret (v := (0 : Int32)) hx hb hr rfl (fun t ht hW => ⟨⟨(0 : Int32), u, rfl, ⟨congrArg Prod.fst e9, congrArg Prod.snd e9⟩, by rw [ht]; exact hP, va_K.moved hW.alike hK, hD⟩, hS.F ht⟩) hS.2.2 dX0_lock_10
set_option maxHeartbeats 4000000 in
set_option maxRecDepth 100000 in
theorem c_X0_demandsThatCount (l : Launch) (dC : Nat → ClassId) (dI : Nat → Nat → Nat) (hs : Nat → Nat) (ka : Nat → ClassId) (sz : Nat) (u : XS) (r : Int32) (h : pf_X0_demandsThatCount u = r) : Met l yX0_demandsThatCount wzX0_demandsThatCount ({ frames := 0, cells := 0, slots := 0, locals := 0 }) (va_Pc [.ref (hs 0)] (fun U => U.heap.size = sz ∧ va_P (dC, dI) vwCl (cX hs ka u) U.heap ∧ va_K (dC, dI) vwCl (tX ka) U ∧ va_D (fun _ => True) (cX hs ka u))) (va_Qi (fun (r1 : Int32) (u1 : XS) => r1 = r ∧ u1 = u) (aX dC dI (va_A (cX hs ka u) sz) hs ka) (va_A (cX hs ka u) sz)) 0 0 (va_A (cX hs ka u) sz) := by
  refine Met.ofW (cc := cX0_demandsThatCount) (maxL := 1) (ret := (some .int)) (by decide) rfl ?_
  intro p e s m args below meth c s₁ B hml hv
  obtain ⟨rfl, hsz, hP, hK, hD0⟩ := hv
  have hx := B.exec
  have hb := B.bytes
  have hr := B.returns
  have hts := atoms_spec (ws := wzX0_demandsThatCount) B.pre
  have hown : s.vm.findClass RX0 = some m.cls := findClass_of_methodNamed B.named
  have hlocks := B.notSynchronized
  subst hsz
  have hD := hD0.self (sz := s.heap.size)
  generalize hAe : va_A (cX hs ka u) s.heap.size = A at hD ⊢
  have hA : ∀ q : Nat, s.heap.size ≤ q → A q := fun q h => by rw [← hAe]; exact Or.inr h
  have hS : va_S A s.heap s.heap [] := va_S.rf
  have hP : va_P (dC, dI) vwCl (cX hs ka u) s.heap := hP
  clear hD0 hAe
  have hin0 : ∀ w ∈ u_ws RX0 TX0 14, w ∈ wzX0_demandsThatCount := fun w h => List.mem_cons_of_mem _ (inTX0 w h)
  have hf_65 := hts (.fieldLink RX0 65 "ConflictSolve" "demands" "I") (List.mem_cons_of_mem _ tz_47)
  have hf_86 := hts (.fieldLink RX0 86 "ConflictSolve" "leftOut" "I") (List.mem_cons_of_mem _ tz_51)
  have hl := lv_entry ([.ref (hs 0)]) (n := 1) (Nat.le_of_ble_eq_true rfl)
  rw [lg_entry_eq]
  generalize (lg_sl ([.ref (hs 0)]) ++ List.replicate (1 - (lg_sl ([.ref (hs 0)])).length) Slot.unset).toArray = ls at hl ⊢
  have hl : lv_has ls 1 [(0, .ref (hs 0))] := hl
  rw [pf_X0_demandsThatCount] at h
  refine lv_iconst (v := (1 : Int32)) hx hb dX0_demandsThatCount_0 (by decide) ?_
  refine lv_aload_n hx hb dX0_demandsThatCount_1 rfl (lv_at hl 0 rfl) ?_
  refine gt_X_demands (V := (x_demands u)) hx hb hts hin0 hown hK hP hf_65 rfl dX0_demandsThatCount_2 ?_
  refine lv_ishl hx hb dX0_demandsThatCount_5 ?_
  refine lv_iconst (v := (1 : Int32)) hx hb dX0_demandsThatCount_6 (by decide) ?_
  refine lv_isub hx hb dX0_demandsThatCount_7 ?_
  refine lv_aload_n hx hb dX0_demandsThatCount_8 rfl (lv_at hl 0 rfl) ?_
  refine gt_X_leftOut (V := (x_leftOut u)) hx hb hts hin0 hown hK hP hf_86 rfl dX0_demandsThatCount_9 ?_
  refine lv_iconst (v := (-1 : Int32)) hx hb dX0_demandsThatCount_12 (by decide) ?_
  refine lv_ixor hx hb dX0_demandsThatCount_13 ?_
  refine lv_iand hx hb dX0_demandsThatCount_14 ?_
  have e9 := h
  exact W.iret (v := ((((1 : Int32) <<< ((x_demands u) &&& 31)) - (1 : Int32)) &&& ((x_leftOut u) ^^^ (-1 : Int32)))) hx hb hr (fun t ht hW => ⟨⟨((((1 : Int32) <<< ((x_demands u) &&& 31)) - (1 : Int32)) &&& ((x_leftOut u) ^^^ (-1 : Int32))), u, rfl, ⟨e9, rfl⟩, by rw [ht]; exact hP, va_K.moved hW.alike hK, hD⟩, hS.F ht⟩) hS.2.2 dX0_demandsThatCount_15
end
