section
-- ===== PART A: goes FIRST, ahead of the names: the tables' words, and 'selects' of the private methods out of them =====
/-- a private method of a class that the tables say can be made, by its rows of tables_1 -/
def lw_okq (q : MethodName × Nat) : Prop := (q.1.cls ≠ "java/lang/invoke/MethodHandle" ∧ q.1.cls ≠ "java/lang/invoke/VarHandle") ∧ Cond.instantiable q.1.cls q.2 ∈ tables_1 ∧ Cond.privateMethod q.1 ∈ tables_1 ∧ Cond.instanceMethod q.1 ∈ tables_1
theorem lw_p0 : lw_okq (⟨"BalePress", "keepBale", "(LBalePress$Bale;)I"⟩, 16) := ⟨⟨by decide +kernel, by decide +kernel⟩, List.mem_of_getElem? (i := 18) (by decide +kernel), List.mem_of_getElem? (i := 177) (by decide +kernel), List.mem_of_getElem? (i := 178) (by decide +kernel)⟩
theorem lw_p1 : lw_okq (⟨"BalePress", "findBale", "(I)LBalePress$Bale;"⟩, 16) := ⟨⟨by decide +kernel, by decide +kernel⟩, List.mem_of_getElem? (i := 18) (by decide +kernel), List.mem_of_getElem? (i := 185) (by decide +kernel), List.mem_of_getElem? (i := 186) (by decide +kernel)⟩
theorem lw_p2 : lw_okq (⟨"BalePress", "gainAt", "(D)D"⟩, 16) := ⟨⟨by decide +kernel, by decide +kernel⟩, List.mem_of_getElem? (i := 18) (by decide +kernel), List.mem_of_getElem? (i := 237) (by decide +kernel), List.mem_of_getElem? (i := 238) (by decide +kernel)⟩
theorem lw_p3 : lw_okq (⟨"BalePress", "isAlarming", "(I)Z"⟩, 16) := ⟨⟨by decide +kernel, by decide +kernel⟩, List.mem_of_getElem? (i := 18) (by decide +kernel), List.mem_of_getElem? (i := 263) (by decide +kernel), List.mem_of_getElem? (i := 264) (by decide +kernel)⟩
theorem lw_p4 : lw_okq (⟨"BalePress", "findStack", "(I)LBalePress$Stack;"⟩, 16) := ⟨⟨by decide +kernel, by decide +kernel⟩, List.mem_of_getElem? (i := 18) (by decide +kernel), List.mem_of_getElem? (i := 290) (by decide +kernel), List.mem_of_getElem? (i := 291) (by decide +kernel)⟩
theorem lw_p5 : lw_okq (⟨"BalePress", "balesOn", "(I)I"⟩, 16) := ⟨⟨by decide +kernel, by decide +kernel⟩, List.mem_of_getElem? (i := 18) (by decide +kernel), List.mem_of_getElem? (i := 294) (by decide +kernel), List.mem_of_getElem? (i := 295) (by decide +kernel)⟩
theorem lw_p6 : lw_okq (⟨"BalePress", "bearsOtherMainKind", "(II)Z"⟩, 16) := ⟨⟨by decide +kernel, by decide +kernel⟩, List.mem_of_getElem? (i := 18) (by decide +kernel), List.mem_of_getElem? (i := 307) (by decide +kernel), List.mem_of_getElem? (i := 308) (by decide +kernel)⟩
theorem lw_p7 : lw_okq (⟨"BalePress", "gramsCloseTo", "(I)J"⟩, 16) := ⟨⟨by decide +kernel, by decide +kernel⟩, List.mem_of_getElem? (i := 18) (by decide +kernel), List.mem_of_getElem? (i := 311) (by decide +kernel), List.mem_of_getElem? (i := 312) (by decide +kernel)⟩
theorem lw_p8 : lw_okq (⟨"BalePress", "areClose", "(II)Z"⟩, 16) := ⟨⟨by decide +kernel, by decide +kernel⟩, List.mem_of_getElem? (i := 18) (by decide +kernel), List.mem_of_getElem? (i := 315) (by decide +kernel), List.mem_of_getElem? (i := 316) (by decide +kernel)⟩
theorem lw_p9 : lw_okq (⟨"BalePress", "findLorry", "(I)LBalePress$Lorry;"⟩, 16) := ⟨⟨by decide +kernel, by decide +kernel⟩, List.mem_of_getElem? (i := 18) (by decide +kernel), List.mem_of_getElem? (i := 359) (by decide +kernel), List.mem_of_getElem? (i := 360) (by decide +kernel)⟩
theorem lw_p10 : lw_okq (⟨"BalePress$Lorry", "momentOfNext", "(J)J"⟩, 5) := ⟨⟨by decide +kernel, by decide +kernel⟩, List.mem_of_getElem? (i := 331) (by decide +kernel), List.mem_of_getElem? (i := 367) (by decide +kernel), List.mem_of_getElem? (i := 368) (by decide +kernel)⟩
theorem lw_p11 : lw_okq (⟨"BalePress", "writeLabel", "(ILBalePress$Bale;)V"⟩, 16) := ⟨⟨by decide +kernel, by decide +kernel⟩, List.mem_of_getElem? (i := 18) (by decide +kernel), List.mem_of_getElem? (i := 397) (by decide +kernel), List.mem_of_getElem? (i := 398) (by decide +kernel)⟩
theorem lw_p12 : lw_okq (⟨"BalePressModel", "make", "()I"⟩, 28) := ⟨⟨by decide +kernel, by decide +kernel⟩, List.mem_of_getElem? (i := 569) (by decide +kernel), List.mem_of_getElem? (i := 676) (by decide +kernel), List.mem_of_getElem? (i := 677) (by decide +kernel)⟩
theorem lw_p13 : lw_okq (⟨"BalePressModel", "isBale", "(I)Z"⟩, 28) := ⟨⟨by decide +kernel, by decide +kernel⟩, List.mem_of_getElem? (i := 569) (by decide +kernel), List.mem_of_getElem? (i := 685) (by decide +kernel), List.mem_of_getElem? (i := 686) (by decide +kernel)⟩
theorem lw_p14 : lw_okq (⟨"BalePressModel", "gramsOf", "(II)J"⟩, 28) := ⟨⟨by decide +kernel, by decide +kernel⟩, List.mem_of_getElem? (i := 569) (by decide +kernel), List.mem_of_getElem? (i := 689) (by decide +kernel), List.mem_of_getElem? (i := 690) (by decide +kernel)⟩
theorem lw_p15 : lw_okq (⟨"BalePressModel", "has", "(II)Z"⟩, 28) := ⟨⟨by decide +kernel, by decide +kernel⟩, List.mem_of_getElem? (i := 569) (by decide +kernel), List.mem_of_getElem? (i := 693) (by decide +kernel), List.mem_of_getElem? (i := 694) (by decide +kernel)⟩
def lw_privs_1 : List (MethodName × Nat) := [(⟨"BalePress", "keepBale", "(LBalePress$Bale;)I"⟩, 16), (⟨"BalePress", "findBale", "(I)LBalePress$Bale;"⟩, 16), (⟨"BalePress", "gainAt", "(D)D"⟩, 16), (⟨"BalePress", "isAlarming", "(I)Z"⟩, 16), (⟨"BalePress", "findStack", "(I)LBalePress$Stack;"⟩, 16), (⟨"BalePress", "balesOn", "(I)I"⟩, 16), (⟨"BalePress", "bearsOtherMainKind", "(II)Z"⟩, 16), (⟨"BalePress", "gramsCloseTo", "(I)J"⟩, 16), (⟨"BalePress", "areClose", "(II)Z"⟩, 16), (⟨"BalePress", "findLorry", "(I)LBalePress$Lorry;"⟩, 16), (⟨"BalePress$Lorry", "momentOfNext", "(J)J"⟩, 5), (⟨"BalePress", "writeLabel", "(ILBalePress$Bale;)V"⟩, 16), (⟨"BalePressModel", "make", "()I"⟩, 28), (⟨"BalePressModel", "isBale", "(I)Z"⟩, 28), (⟨"BalePressModel", "gramsOf", "(II)J"⟩, 28), (⟨"BalePressModel", "has", "(II)Z"⟩, 28)]
theorem lw_r1 : ∀ q ∈ lw_privs_1, lw_okq q := List.forall_mem_cons.mpr ⟨lw_p0, List.forall_mem_cons.mpr ⟨lw_p1, List.forall_mem_cons.mpr ⟨lw_p2, List.forall_mem_cons.mpr ⟨lw_p3, List.forall_mem_cons.mpr ⟨lw_p4, List.forall_mem_cons.mpr ⟨lw_p5, List.forall_mem_cons.mpr ⟨lw_p6, List.forall_mem_cons.mpr ⟨lw_p7, List.forall_mem_cons.mpr ⟨lw_p8, List.forall_mem_cons.mpr ⟨lw_p9, List.forall_mem_cons.mpr ⟨lw_p10, List.forall_mem_cons.mpr ⟨lw_p11, List.forall_mem_cons.mpr ⟨lw_p12, List.forall_mem_cons.mpr ⟨lw_p13, List.forall_mem_cons.mpr ⟨lw_p14, List.forall_mem_cons.mpr ⟨lw_p15, fun _ h => absurd h List.not_mem_nil⟩⟩⟩⟩⟩⟩⟩⟩⟩⟩⟩⟩⟩⟩⟩⟩
theorem lw_p16 : lw_okq (⟨"BalePressModel", "weight", "(I)J"⟩, 28) := ⟨⟨by decide +kernel, by decide +kernel⟩, List.mem_of_getElem? (i := 569) (by decide +kernel), List.mem_of_getElem? (i := 706) (by decide +kernel), List.mem_of_getElem? (i := 707) (by decide +kernel)⟩
theorem lw_p17 : lw_okq (⟨"BalePressModel", "mainOf", "(I)I"⟩, 28) := ⟨⟨by decide +kernel, by decide +kernel⟩, List.mem_of_getElem? (i := 569) (by decide +kernel), List.mem_of_getElem? (i := 760) (by decide +kernel), List.mem_of_getElem? (i := 761) (by decide +kernel)⟩
theorem lw_p18 : lw_okq (⟨"BalePressModel", "isClose", "(II)Z"⟩, 28) := ⟨⟨by decide +kernel, by decide +kernel⟩, List.mem_of_getElem? (i := 569) (by decide +kernel), List.mem_of_getElem? (i := 764) (by decide +kernel), List.mem_of_getElem? (i := 765) (by decide +kernel)⟩
theorem lw_p19 : lw_okq (⟨"BalePressModel", "loadOf", "(IZ)J"⟩, 28) := ⟨⟨by decide +kernel, by decide +kernel⟩, List.mem_of_getElem? (i := 569) (by decide +kernel), List.mem_of_getElem? (i := 781) (by decide +kernel), List.mem_of_getElem? (i := 782) (by decide +kernel)⟩
theorem lw_p20 : lw_okq (⟨"BalePressModel", "say", "(I)V"⟩, 28) := ⟨⟨by decide +kernel, by decide +kernel⟩, List.mem_of_getElem? (i := 569) (by decide +kernel), List.mem_of_getElem? (i := 801) (by decide +kernel), List.mem_of_getElem? (i := 802) (by decide +kernel)⟩
theorem lw_p21 : lw_okq (⟨"BalePressModel", "sayNumber", "(J)V"⟩, 28) := ⟨⟨by decide +kernel, by decide +kernel⟩, List.mem_of_getElem? (i := 569) (by decide +kernel), List.mem_of_getElem? (i := 805) (by decide +kernel), List.mem_of_getElem? (i := 806) (by decide +kernel)⟩
def lw_privs_2 : List (MethodName × Nat) := [(⟨"BalePressModel", "weight", "(I)J"⟩, 28), (⟨"BalePressModel", "mainOf", "(I)I"⟩, 28), (⟨"BalePressModel", "isClose", "(II)Z"⟩, 28), (⟨"BalePressModel", "loadOf", "(IZ)J"⟩, 28), (⟨"BalePressModel", "say", "(I)V"⟩, 28), (⟨"BalePressModel", "sayNumber", "(J)V"⟩, 28)]
theorem lw_r2 : ∀ q ∈ lw_privs_2, lw_okq q := List.forall_mem_cons.mpr ⟨lw_p16, List.forall_mem_cons.mpr ⟨lw_p17, List.forall_mem_cons.mpr ⟨lw_p18, List.forall_mem_cons.mpr ⟨lw_p19, List.forall_mem_cons.mpr ⟨lw_p20, List.forall_mem_cons.mpr ⟨lw_p21, fun _ h => absurd h List.not_mem_nil⟩⟩⟩⟩⟩⟩
def lw_privs : List (MethodName × Nat) := lw_privs_1 ++ (lw_privs_2)
theorem lw_privs_ok : ∀ q ∈ lw_privs, lw_okq q := by
  show ∀ q ∈ lw_privs_1 ++ (lw_privs_2), lw_okq q
  exact List.forall_mem_append.mpr ⟨lw_r1, lw_r2⟩
def lw_tbl : List Cond := k2_sels lw_privs ++ tables_1
theorem lw_privs_ok2 : ∀ q ∈ lw_privs, lw_okq q := lw_privs_ok
/-- the streams that the claim lets the run draw from -/
abbrev lw_cs : List Choice := [Jvm.Choice.named "NaN.bits"]
theorem lw_bits : nanBits ∈ lw_cs := by first | decide | exact List.mem_cons_self | simp [lw_cs, nanBits]
def RX0 : String := "BalePress$Bale"
def TX0 : u_T := fun k => match k with
  | 0 => ("BalePress$Bale", "grams", "[J", true)
  | 1 => ("BalePress$Bale", "warmth", "D", false)
  | 2 => ("BalePress$Bale", "hotHoursOfLate", "I", false)
  | 3 => ("BalePress$Bale", "spell", "I", false)
  | 4 => ("BalePress$Bale", "condition", "I", false)
  | 5 => ("BalePress$Bale", "stackNumber", "I", false)
  | 6 => ("BalePress$Bale", "isLoaded", "Z", false)
  | 7 => ("BalePress$Bale", "firstPart", "LBalePress$Bale;", false)
  | _ => ("BalePress$Bale", "secondPart", "LBalePress$Bale;", false)
def tyX0 : Nat → FieldType := fun k => match k with
  | 0 => .array .long
  | 1 => .double
  | 2 => .int
  | 3 => .int
  | 4 => .int
  | 5 => .int
  | 6 => .boolean
  | 7 => .object "BalePress$Bale"
  | _ => .object "BalePress$Bale"
abbrev wsX00 : List Cond := u_ws RX0 TX0 9
theorem nmX0 : ∀ a, a < 9 → ∀ b, b < 9 → a ≠ b → (TX0 a).2.1 ≠ (TX0 b).2.1 := by decide +kernel
theorem tyX0_ok : ∀ k, k < 9 → parseFieldDescriptor (TX0 k).2.2.1 = some (tyX0 k) := by decide +kernel
abbrev cX0_init : ByteArray := prog_2_method_1_code
def yX0_init : MethodName := ⟨RX0, "<init>", "()V"⟩
abbrev cX0_addGrams : ByteArray := prog_2_method_2_code
def yX0_addGrams : MethodName := ⟨RX0, "addGrams", "(IJ)V"⟩
abbrev cX0_makeOf : ByteArray := prog_2_method_3_code
def yX0_makeOf : MethodName := ⟨RX0, "makeOf", "(LBalePress$Bale;LBalePress$Bale;)V"⟩
abbrev cX0_gramsOf : ByteArray := prog_2_method_4_code
def yX0_gramsOf : MethodName := ⟨RX0, "gramsOf", "(I)J"⟩
abbrev cX0_totalGrams : ByteArray := prog_2_method_5_code
def yX0_totalGrams : MethodName := ⟨RX0, "totalGrams", "()J"⟩
abbrev cX0_mainKind : ByteArray := prog_2_method_6_code
def yX0_mainKind : MethodName := ⟨RX0, "mainKind", "()I"⟩
abbrev cX0_isHot : ByteArray := prog_2_method_7_code
def yX0_isHot : MethodName := ⟨RX0, "isHot", "()Z"⟩
abbrev cX0_isGoneOrSold : ByteArray := prog_2_method_8_code
def yX0_isGoneOrSold : MethodName := ⟨RX0, "isGoneOrSold", "()Z"⟩
abbrev cX0_standsOn : ByteArray := prog_2_method_9_code
def yX0_standsOn : MethodName := ⟨RX0, "standsOn", "(I)Z"⟩
abbrev cX0_passHour : ByteArray := prog_2_method_10_code
def yX0_passHour : MethodName := ⟨RX0, "passHour", "(DD)V"⟩
def RX1 : String := "BalePress$Lorry"
def TX1 : u_T := fun k => match k with
  | 0 => ("BalePress$Lorry", "mostGrams", "J", true)
  | 1 => ("BalePress$Lorry", "mostMoment", "J", true)
  | 2 => ("BalePress$Lorry", "gramsOn", "J", false)
  | 3 => ("BalePress$Lorry", "momentOn", "J", false)
  | _ => ("BalePress$Lorry", "placesTaken", "I", false)
def tyX1 : Nat → FieldType := fun k => match k with
  | 0 => .long
  | 1 => .long
  | 2 => .long
  | 3 => .long
  | _ => .int
abbrev wsX10 : List Cond := u_ws RX1 TX1 5
theorem nmX1 : ∀ a, a < 5 → ∀ b, b < 5 → a ≠ b → (TX1 a).2.1 ≠ (TX1 b).2.1 := by decide +kernel
theorem tyX1_ok : ∀ k, k < 5 → parseFieldDescriptor (TX1 k).2.2.1 = some (tyX1 k) := by decide +kernel
abbrev cX1_init : ByteArray := prog_3_method_1_code
def yX1_init : MethodName := ⟨RX1, "<init>", "(JJ)V"⟩
abbrev cX1_hasRoomFor : ByteArray := prog_3_method_2_code
def yX1_hasRoomFor : MethodName := ⟨RX1, "hasRoomFor", "(J)Z"⟩
abbrev cX1_takeOn : ByteArray := prog_3_method_3_code
def yX1_takeOn : MethodName := ⟨RX1, "takeOn", "(J)I"⟩
abbrev cX1_momentOfNext : ByteArray := prog_3_method_4_code
def yX1_momentOfNext : MethodName := ⟨RX1, "momentOfNext", "(J)J"⟩
def RX2 : String := "BalePress$Stack"
def TX2 : u_T := fun k => match k with
  | 0 => ("BalePress$Stack", "gap", "I", true)
  | _ => ("BalePress$Stack", "height", "I", true)
def tyX2 : Nat → FieldType := fun k => match k with
  | 0 => .int
  | _ => .int
abbrev wsX20 : List Cond := u_ws RX2 TX2 2
theorem nmX2 : ∀ a, a < 2 → ∀ b, b < 2 → a ≠ b → (TX2 a).2.1 ≠ (TX2 b).2.1 := by decide +kernel
theorem tyX2_ok : ∀ k, k < 2 → parseFieldDescriptor (TX2 k).2.2.1 = some (tyX2 k) := by decide +kernel
abbrev cX2_init : ByteArray := prog_4_method_1_code
def yX2_init : MethodName := ⟨RX2, "<init>", "(II)V"⟩
def RX3 : String := "BalePress"
def TX3 : u_T := fun k => match k with
  | 0 => ("BalePress", "feedSeconds", "[J", true)
  | 1 => ("BalePress", "feedKinds", "[I", true)
  | 2 => ("BalePress", "feedGrams", "[J", true)
  | 3 => ("BalePress", "feedCount", "I", false)
  | 4 => ("BalePress", "feedsBaled", "I", false)
  | 5 => ("BalePress", "bales", "[LBalePress$Bale;", true)
  | 6 => ("BalePress", "baleCount", "I", false)
  | 7 => ("BalePress", "rowDegrees", "[D", true)
  | 8 => ("BalePress", "rowHeats", "[D", true)
  | 9 => ("BalePress", "rowCount", "I", false)
  | 10 => ("BalePress", "holdHours", "I", false)
  | 11 => ("BalePress", "stacks", "[LBalePress$Stack;", true)
  | 12 => ("BalePress", "stackCount", "I", false)
  | 13 => ("BalePress", "lorries", "[LBalePress$Lorry;", true)
  | 14 => ("BalePress", "lorryCount", "I", false)
  | _ => ("BalePress", "labelText", "Ljava/lang/StringBuilder;", true)
def tyX3 : Nat → FieldType := fun k => match k with
  | 0 => .array .long
  | 1 => .array .int
  | 2 => .array .long
  | 3 => .int
  | 4 => .int
  | 5 => .array (.object "BalePress$Bale")
  | 6 => .int
  | 7 => .array .double
  | 8 => .array .double
  | 9 => .int
  | 10 => .int
  | 11 => .array (.object "BalePress$Stack")
  | 12 => .int
  | 13 => .array (.object "BalePress$Lorry")
  | 14 => .int
  | _ => .object "java/lang/StringBuilder"
abbrev wsX30 : List Cond := u_ws RX3 TX3 16
theorem nmX3 : ∀ a, a < 16 → ∀ b, b < 16 → a ≠ b → (TX3 a).2.1 ≠ (TX3 b).2.1 := by decide +kernel
theorem tyX3_ok : ∀ k, k < 16 → parseFieldDescriptor (TX3 k).2.2.1 = some (tyX3 k) := by decide +kernel
abbrev cX3_init : ByteArray := prog_1_method_1_code
def yX3_init : MethodName := ⟨RX3, "<init>", "()V"⟩
abbrev cX3_feed : ByteArray := prog_1_method_2_code
def yX3_feed : MethodName := ⟨RX3, "feed", "(JIJ)Z"⟩
abbrev cX3_bale : ByteArray := prog_1_method_3_code
def yX3_bale : MethodName := ⟨RX3, "bale", "(J)I"⟩
abbrev cX3_in : ByteArray := prog_1_method_4_code
def yX3_in : MethodName := ⟨RX3, "in", "(II)J"⟩
abbrev cX3_count : ByteArray := prog_1_method_5_code
def yX3_count : MethodName := ⟨RX3, "count", "(I)J"⟩
abbrev cX3_wires : ByteArray := prog_1_method_6_code
def yX3_wires : MethodName := ⟨RX3, "wires", "(I)I"⟩
abbrev cX3_size : ByteArray := prog_1_method_7_code
def yX3_size : MethodName := ⟨RX3, "size", "(ID)D"⟩
abbrev cX3_row : ByteArray := prog_1_method_8_code
def yX3_row : MethodName := ⟨RX3, "row", "(DD)Z"⟩
abbrev cX3_warm : ByteArray := prog_1_method_9_code
def yX3_warm : MethodName := ⟨RX3, "warm", "(IID)D"⟩
abbrev cX3_hold : ByteArray := prog_1_method_10_code
def yX3_hold : MethodName := ⟨RX3, "hold", "(I)Z"⟩
abbrev cX3_alarm : ByteArray := prog_1_method_11_code
def yX3_alarm : MethodName := ⟨RX3, "alarm", "(I)I"⟩
abbrev cX3_stack : ByteArray := prog_1_method_12_code
def yX3_stack : MethodName := ⟨RX3, "stack", "(II)I"⟩
abbrev cX3_put : ByteArray := prog_1_method_13_code
def yX3_put : MethodName := ⟨RX3, "put", "(II)I"⟩
abbrev cX3_first : ByteArray := prog_1_method_14_code
def yX3_first : MethodName := ⟨RX3, "first", "(I)I"⟩
abbrev cX3_lorry : ByteArray := prog_1_method_15_code
def yX3_lorry : MethodName := ⟨RX3, "lorry", "(JJ)I"⟩
abbrev cX3_load : ByteArray := prog_1_method_16_code
def yX3_load : MethodName := ⟨RX3, "load", "(II)I"⟩
abbrev cX3_moment : ByteArray := prog_1_method_17_code
def yX3_moment : MethodName := ⟨RX3, "moment", "(II)J"⟩
abbrev cX3_rebale : ByteArray := prog_1_method_18_code
def yX3_rebale : MethodName := ⟨RX3, "rebale", "(II)I"⟩
abbrev cX3_brought : ByteArray := prog_1_method_19_code
def yX3_brought : MethodName := ⟨RX3, "brought", "(III)J"⟩
abbrev cX3_label : ByteArray := prog_1_method_20_code
def yX3_label : MethodName := ⟨RX3, "label", "(II)I"⟩
abbrev cX3_state : ByteArray := prog_1_method_21_code
def yX3_state : MethodName := ⟨RX3, "state", "(I)I"⟩
abbrev cX3_isKind : ByteArray := prog_1_method_22_code
def yX3_isKind : MethodName := ⟨RX3, "isKind", "(I)Z"⟩
abbrev cX3_isWithin : ByteArray := prog_1_method_23_code
def yX3_isWithin : MethodName := ⟨RX3, "isWithin", "(JJJ)Z"⟩
abbrev cX3_isBetween : ByteArray := prog_1_method_24_code
def yX3_isBetween : MethodName := ⟨RX3, "isBetween", "(DDD)Z"⟩
abbrev cX3_keepBale : ByteArray := prog_1_method_25_code
def yX3_keepBale : MethodName := ⟨RX3, "keepBale", "(LBalePress$Bale;)I"⟩
abbrev cX3_findBale : ByteArray := prog_1_method_26_code
def yX3_findBale : MethodName := ⟨RX3, "findBale", "(I)LBalePress$Bale;"⟩
abbrev cX3_findStack : ByteArray := prog_1_method_27_code
def yX3_findStack : MethodName := ⟨RX3, "findStack", "(I)LBalePress$Stack;"⟩
abbrev cX3_findLorry : ByteArray := prog_1_method_28_code
def yX3_findLorry : MethodName := ⟨RX3, "findLorry", "(I)LBalePress$Lorry;"⟩
abbrev cX3_gainAt : ByteArray := prog_1_method_29_code
def yX3_gainAt : MethodName := ⟨RX3, "gainAt", "(D)D"⟩
abbrev cX3_isAlarming : ByteArray := prog_1_method_30_code
def yX3_isAlarming : MethodName := ⟨RX3, "isAlarming", "(I)Z"⟩
abbrev cX3_balesOn : ByteArray := prog_1_method_31_code
def yX3_balesOn : MethodName := ⟨RX3, "balesOn", "(I)I"⟩
abbrev cX3_bearsOtherMainKind : ByteArray := prog_1_method_32_code
def yX3_bearsOtherMainKind : MethodName := ⟨RX3, "bearsOtherMainKind", "(II)Z"⟩
abbrev cX3_gramsCloseTo : ByteArray := prog_1_method_33_code
def yX3_gramsCloseTo : MethodName := ⟨RX3, "gramsCloseTo", "(I)J"⟩
abbrev cX3_areClose : ByteArray := prog_1_method_34_code
def yX3_areClose : MethodName := ⟨RX3, "areClose", "(II)Z"⟩
abbrev cX3_writeLabel : ByteArray := prog_1_method_35_code
def yX3_writeLabel : MethodName := ⟨RX3, "writeLabel", "(ILBalePress$Bale;)V"⟩
def RX4 : String := "BalePressModel"
def TX4 : u_T := fun k => match k with
  | 0 => ("BalePressModel", "feeds", "I", false)
  | 1 => ("BalePressModel", "seconds", "[J", true)
  | 2 => ("BalePressModel", "kinds", "[I", true)
  | 3 => ("BalePressModel", "grams", "[J", true)
  | 4 => ("BalePressModel", "into", "[I", true)
  | 5 => ("BalePressModel", "bales", "I", false)
  | 6 => ("BalePressModel", "states", "[I", true)
  | 7 => ("BalePressModel", "warmths", "[D", true)
  | 8 => ("BalePressModel", "spells", "[I", true)
  | 9 => ("BalePressModel", "streaks", "[I", true)
  | 10 => ("BalePressModel", "stackOf", "[I", true)
  | 11 => ("BalePressModel", "lorryOf", "[I", true)
  | 12 => ("BalePressModel", "firstOf", "[I", true)
  | 13 => ("BalePressModel", "secondOf", "[I", true)
  | 14 => ("BalePressModel", "rows", "I", false)
  | 15 => ("BalePressModel", "degrees", "[D", true)
  | 16 => ("BalePressModel", "heats", "[D", true)
  | 17 => ("BalePressModel", "hold", "I", false)
  | 18 => ("BalePressModel", "stacks", "I", false)
  | 19 => ("BalePressModel", "gaps", "[I", true)
  | 20 => ("BalePressModel", "heights", "[I", true)
  | 21 => ("BalePressModel", "lorries", "I", false)
  | 22 => ("BalePressModel", "mosts", "[J", true)
  | 23 => ("BalePressModel", "moments", "[J", true)
  | 24 => ("BalePressModel", "loads", "[I", true)
  | 25 => ("BalePressModel", "loadCounts", "[I", true)
  | 26 => ("BalePressModel", "left", "I", false)
  | _ => ("BalePressModel", "looked", "I", false)
def tyX4 : Nat → FieldType := fun k => match k with
  | 0 => .int
  | 1 => .array .long
  | 2 => .array .int
  | 3 => .array .long
  | 4 => .array .int
  | 5 => .int
  | 6 => .array .int
  | 7 => .array .double
  | 8 => .array .int
  | 9 => .array .int
  | 10 => .array .int
  | 11 => .array .int
  | 12 => .array .int
  | 13 => .array .int
  | 14 => .int
  | 15 => .array .double
  | 16 => .array .double
  | 17 => .int
  | 18 => .int
  | 19 => .array .int
  | 20 => .array .int
  | 21 => .int
  | 22 => .array .long
  | 23 => .array .long
  | 24 => .array .int
  | 25 => .array .int
  | 26 => .int
  | _ => .int
abbrev wsX40 : List Cond := u_ws RX4 TX4 28
theorem nmX4 : ∀ a, a < 28 → ∀ b, b < 28 → a ≠ b → (TX4 a).2.1 ≠ (TX4 b).2.1 := by decide +kernel
theorem tyX4_ok : ∀ k, k < 28 → parseFieldDescriptor (TX4 k).2.2.1 = some (tyX4 k) := by decide +kernel
abbrev cX4_init : ByteArray := prog_6_method_1_code
def yX4_init : MethodName := ⟨RX4, "<init>", "()V"⟩
abbrev cX4_isIn : ByteArray := prog_6_method_3_code
def yX4_isIn : MethodName := ⟨RX4, "isIn", "(JJJ)Z"⟩
abbrev cX4_isWithin : ByteArray := prog_6_method_4_code
def yX4_isWithin : MethodName := ⟨RX4, "isWithin", "(DDD)Z"⟩
abbrev cX4_isBale : ByteArray := prog_6_method_5_code
def yX4_isBale : MethodName := ⟨RX4, "isBale", "(I)Z"⟩
abbrev cX4_isKind : ByteArray := prog_6_method_6_code
def yX4_isKind : MethodName := ⟨RX4, "isKind", "(I)Z"⟩
abbrev cX4_feed : ByteArray := prog_6_method_7_code
def yX4_feed : MethodName := ⟨RX4, "feed", "(JIJ)Z"⟩
abbrev cX4_make : ByteArray := prog_6_method_8_code
def yX4_make : MethodName := ⟨RX4, "make", "()I"⟩
abbrev cX4_bale : ByteArray := prog_6_method_9_code
def yX4_bale : MethodName := ⟨RX4, "bale", "(J)I"⟩
abbrev cX4_has : ByteArray := prog_6_method_10_code
def yX4_has : MethodName := ⟨RX4, "has", "(II)Z"⟩
abbrev cX4_gramsOf : ByteArray := prog_6_method_11_code
def yX4_gramsOf : MethodName := ⟨RX4, "gramsOf", "(II)J"⟩
abbrev cX4_weight : ByteArray := prog_6_method_12_code
def yX4_weight : MethodName := ⟨RX4, "weight", "(I)J"⟩
abbrev cX4_mainOf : ByteArray := prog_6_method_13_code
def yX4_mainOf : MethodName := ⟨RX4, "mainOf", "(I)I"⟩
abbrev cX4_in : ByteArray := prog_6_method_14_code
def yX4_in : MethodName := ⟨RX4, "in", "(II)J"⟩
abbrev cX4_count : ByteArray := prog_6_method_15_code
def yX4_count : MethodName := ⟨RX4, "count", "(I)J"⟩
abbrev cX4_wires : ByteArray := prog_6_method_16_code
def yX4_wires : MethodName := ⟨RX4, "wires", "(I)I"⟩
abbrev cX4_size : ByteArray := prog_6_method_17_code
def yX4_size : MethodName := ⟨RX4, "size", "(ID)D"⟩
abbrev cX4_state : ByteArray := prog_6_method_18_code
def yX4_state : MethodName := ⟨RX4, "state", "(I)I"⟩
abbrev cX4_row : ByteArray := prog_6_method_19_code
def yX4_row : MethodName := ⟨RX4, "row", "(DD)Z"⟩
abbrev cX4_warm : ByteArray := prog_6_method_20_code
def yX4_warm : MethodName := ⟨RX4, "warm", "(IID)D"⟩
abbrev cX4_hold : ByteArray := prog_6_method_21_code
def yX4_hold : MethodName := ⟨RX4, "hold", "(I)Z"⟩
abbrev cX4_alarm : ByteArray := prog_6_method_22_code
def yX4_alarm : MethodName := ⟨RX4, "alarm", "(I)I"⟩
abbrev cX4_stack : ByteArray := prog_6_method_23_code
def yX4_stack : MethodName := ⟨RX4, "stack", "(II)I"⟩
abbrev cX4_isClose : ByteArray := prog_6_method_24_code
def yX4_isClose : MethodName := ⟨RX4, "isClose", "(II)Z"⟩
abbrev cX4_put : ByteArray := prog_6_method_25_code
def yX4_put : MethodName := ⟨RX4, "put", "(II)I"⟩
abbrev cX4_first : ByteArray := prog_6_method_26_code
def yX4_first : MethodName := ⟨RX4, "first", "(I)I"⟩
abbrev cX4_lorry : ByteArray := prog_6_method_27_code
def yX4_lorry : MethodName := ⟨RX4, "lorry", "(JJ)I"⟩
abbrev cX4_loadOf : ByteArray := prog_6_method_28_code
def yX4_loadOf : MethodName := ⟨RX4, "loadOf", "(IZ)J"⟩
abbrev cX4_load : ByteArray := prog_6_method_29_code
def yX4_load : MethodName := ⟨RX4, "load", "(II)I"⟩
abbrev cX4_moment : ByteArray := prog_6_method_30_code
def yX4_moment : MethodName := ⟨RX4, "moment", "(II)J"⟩
abbrev cX4_rebale : ByteArray := prog_6_method_31_code
def yX4_rebale : MethodName := ⟨RX4, "rebale", "(II)I"⟩
abbrev cX4_brought : ByteArray := prog_6_method_32_code
def yX4_brought : MethodName := ⟨RX4, "brought", "(III)J"⟩
abbrev cX4_say : ByteArray := prog_6_method_33_code
def yX4_say : MethodName := ⟨RX4, "say", "(I)V"⟩
abbrev cX4_sayNumber : ByteArray := prog_6_method_34_code
def yX4_sayNumber : MethodName := ⟨RX4, "sayNumber", "(J)V"⟩
abbrev cX4_label : ByteArray := prog_6_method_35_code
def yX4_label : MethodName := ⟨RX4, "label", "(II)I"⟩
def RJ5 : String := "java/lang/AbstractStringBuilder"
abbrev cJ5_init_d00df : ByteArray := prog_7_method_2_code
def yJ5_init_d00df : MethodName := ⟨RJ5, "<init>", "(I)V"⟩
abbrev cJ5_length_8abf5 : ByteArray := prog_7_method_6_code
def yJ5_length_8abf5 : MethodName := ⟨RJ5, "length", "()I"⟩
abbrev cJ5_ensureCapacityInternal_d00df : ByteArray := prog_7_method_9_code
def yJ5_ensureCapacityInternal_d00df : MethodName := ⟨RJ5, "ensureCapacityInternal", "(I)V"⟩
abbrev cJ5_newCapacity_0f7a4 : ByteArray := prog_7_method_10_code
def yJ5_newCapacity_0f7a4 : MethodName := ⟨RJ5, "newCapacity", "(I)I"⟩
abbrev cJ5_inflate_da8c8 : ByteArray := prog_7_method_11_code
def yJ5_inflate_da8c8 : MethodName := ⟨RJ5, "inflate", "()V"⟩
abbrev cJ5_setLength_d00df : ByteArray := prog_7_method_13_code
def yJ5_setLength_d00df : MethodName := ⟨RJ5, "setLength", "(I)V"⟩
abbrev cJ5_charAt_5068e : ByteArray := prog_7_method_14_code
def yJ5_charAt_5068e : MethodName := ⟨RJ5, "charAt", "(I)C"⟩
abbrev cJ5_append_3fe6f : ByteArray := prog_7_method_31_code
def yJ5_append_3fe6f : MethodName := ⟨RJ5, "append", "(C)Ljava/lang/AbstractStringBuilder;"⟩
abbrev cJ5_append_c97b9 : ByteArray := prog_7_method_32_code
def yJ5_append_c97b9 : MethodName := ⟨RJ5, "append", "(I)Ljava/lang/AbstractStringBuilder;"⟩
abbrev cJ5_isLatin1_aae02 : ByteArray := prog_7_method_68_code
def yJ5_isLatin1_aae02 : MethodName := ⟨RJ5, "isLatin1", "()Z"⟩
def RJx8e188 : String := "java/lang/Cloneable"
def RJ6 : String := "java/lang/Integer"
abbrev cJ6_getChars_ba4f3 : ByteArray := prog_9_method_12_code
def yJ6_getChars_ba4f3 : MethodName := ⟨RJ6, "getChars", "(II[B)I"⟩
abbrev cJ6_stringSize_0f7a4 : ByteArray := prog_9_method_13_code
def yJ6_stringSize_0f7a4 : MethodName := ⟨RJ6, "stringSize", "(I)I"⟩
def RJ9 : String := "java/lang/Math"
abbrev cJ9_max_7cf53 : ByteArray := prog_10_method_65_code
def yJ9_max_7cf53 : MethodName := ⟨RJ9, "max", "(II)I"⟩
abbrev cJ9_min_7cf53 : ByteArray := prog_10_method_69_code
def yJ9_min_7cf53 : MethodName := ⟨RJ9, "min", "(II)I"⟩
def RJ0 : String := "java/lang/String"
abbrev cJ0_checkIndex_df160 : ByteArray := prog_11_method_155_code
def yJ0_checkIndex_df160 : MethodName := ⟨RJ0, "checkIndex", "(II)V"⟩
abbrev cJ0_checkBoundsOffCount_cabcc : ByteArray := prog_11_method_157_code
def yJ0_checkBoundsOffCount_cabcc : MethodName := ⟨RJ0, "checkBoundsOffCount", "(III)I"⟩
abbrev cJ0_checkBoundsBeginEnd_23922 : ByteArray := prog_11_method_158_code
def yJ0_checkBoundsBeginEnd_23922 : MethodName := ⟨RJ0, "checkBoundsBeginEnd", "(III)V"⟩
def RJ4 : String := "java/lang/StringBuilder"
def TJ4 : u_T := fun k => match k with
  | 0 => ("java/lang/AbstractStringBuilder", "value", "[B", false)
  | 1 => ("java/lang/AbstractStringBuilder", "coder", "B", false)
  | 2 => ("java/lang/AbstractStringBuilder", "maybeLatin1", "Z", false)
  | _ => ("java/lang/AbstractStringBuilder", "count", "I", false)
def tyJ4 : Nat → FieldType := fun k => match k with
  | 0 => .array .byte
  | 1 => .byte
  | 2 => .boolean
  | _ => .int
abbrev wsJ40 : List Cond := u_ws RJ4 TJ4 4
theorem nmJ4 : ∀ a, a < 4 → ∀ b, b < 4 → a ≠ b → (TJ4 a).2.1 ≠ (TJ4 b).2.1 := by decide +kernel
theorem tyJ4_ok : ∀ k, k < 4 → parseFieldDescriptor (TJ4 k).2.2.1 = some (tyJ4 k) := by decide +kernel
abbrev cJ4_init_da8c8 : ByteArray := prog_12_method_1_code
def yJ4_init_da8c8 : MethodName := ⟨RJ4, "<init>", "()V"⟩
abbrev cJ4_append_cf468 : ByteArray := prog_12_method_14_code
def yJ4_append_cf468 : MethodName := ⟨RJ4, "append", "(C)Ljava/lang/StringBuilder;"⟩
abbrev cJ4_append_bf812 : ByteArray := prog_12_method_15_code
def yJ4_append_bf812 : MethodName := ⟨RJ4, "append", "(I)Ljava/lang/StringBuilder;"⟩
abbrev cJ4_charAt_5068e : ByteArray := prog_12_method_88_code
def yJ4_charAt_5068e : MethodName := ⟨RJ4, "charAt", "(I)C"⟩
abbrev cJ4_setLength_d00df : ByteArray := prog_12_method_89_code
def yJ4_setLength_d00df : MethodName := ⟨RJ4, "setLength", "(I)V"⟩
abbrev cJ4_length_8abf5 : ByteArray := prog_12_method_93_code
def yJ4_length_8abf5 : MethodName := ⟨RJ4, "length", "()I"⟩
def RJ1 : String := "java/lang/StringLatin1"
abbrev cJ1_canEncode_fc78d : ByteArray := prog_13_method_3_code
def yJ1_canEncode_fc78d : MethodName := ⟨RJ1, "canEncode", "(C)Z"⟩
abbrev cJ1_fillNull_b72d1 : ByteArray := prog_13_method_48_code
def yJ1_fillNull_b72d1 : MethodName := ⟨RJ1, "fillNull", "([BII)V"⟩
abbrev cJ1_inflate_0e8fd : ByteArray := prog_13_method_50_code
def yJ1_inflate_0e8fd : MethodName := ⟨RJ1, "inflate", "([BI[BII)V"⟩
def RJ2 : String := "java/lang/StringUTF16"
abbrev cJ2_newBytesFor_77867 : ByteArray := prog_14_method_2_code
def yJ2_newBytesFor_77867 : MethodName := ⟨RJ2, "newBytesFor", "(I)[B"⟩
abbrev cJ2_newBytesLength_0f7a4 : ByteArray := prog_14_method_3_code
def yJ2_newBytesLength_0f7a4 : MethodName := ⟨RJ2, "newBytesLength", "(I)I"⟩
abbrev cJ2_putChar_b72d1 : ByteArray := prog_14_method_4_code
def yJ2_putChar_b72d1 : MethodName := ⟨RJ2, "putChar", "([BII)V"⟩
abbrev cJ2_getChar_3b067 : ByteArray := prog_14_method_5_code
def yJ2_getChar_3b067 : MethodName := ⟨RJ2, "getChar", "([BI)C"⟩
abbrev cJ2_length_9d52b : ByteArray := prog_14_method_6_code
def yJ2_length_9d52b : MethodName := ⟨RJ2, "length", "([B)I"⟩
abbrev cJ2_fillNull_b72d1 : ByteArray := prog_14_method_70_code
def yJ2_fillNull_b72d1 : MethodName := ⟨RJ2, "fillNull", "([BII)V"⟩
abbrev cJ2_putCharSB_b72d1 : ByteArray := prog_14_method_71_code
def yJ2_putCharSB_b72d1 : MethodName := ⟨RJ2, "putCharSB", "([BII)V"⟩
abbrev cJ2_getChars_46870 : ByteArray := prog_14_method_77_code
def yJ2_getChars_46870 : MethodName := ⟨RJ2, "getChars", "(III[B)I"⟩
abbrev cJ2_inflate_0e8fd : ByteArray := prog_14_method_86_code
def yJ2_inflate_0e8fd : MethodName := ⟨RJ2, "inflate", "([BI[BII)V"⟩
abbrev cJ2_getChars_ba4f3 : ByteArray := prog_14_method_89_code
def yJ2_getChars_ba4f3 : MethodName := ⟨RJ2, "getChars", "(II[B)I"⟩
abbrev cJ2_checkIndex_2214a : ByteArray := prog_14_method_91_code
def yJ2_checkIndex_2214a : MethodName := ⟨RJ2, "checkIndex", "(I[B)V"⟩
abbrev cJ2_checkBoundsBeginEnd_d044e : ByteArray := prog_14_method_93_code
def yJ2_checkBoundsBeginEnd_d044e : MethodName := ⟨RJ2, "checkBoundsBeginEnd", "(II[B)V"⟩
abbrev cJ2_checkBoundsOffCount_d044e : ByteArray := prog_14_method_94_code
def yJ2_checkBoundsOffCount_d044e : MethodName := ⟨RJ2, "checkBoundsOffCount", "(II[B)V"⟩
def RJ10 : String := "java/lang/System"
def RJ7 : String := "java/util/Arrays"
abbrev cJ7_rangeCheck_23922 : ByteArray := prog_16_method_30_code
def yJ7_rangeCheck_23922 : MethodName := ⟨RJ7, "rangeCheck", "(III)V"⟩
abbrev cJ7_fill_eb02e : ByteArray := prog_16_method_110_code
def yJ7_fill_eb02e : MethodName := ⟨RJ7, "fill", "([BIIB)V"⟩
abbrev cJ7_copyOf_9075b : ByteArray := prog_16_method_121_code
def yJ7_copyOf_9075b : MethodName := ⟨RJ7, "copyOf", "([BI)[B"⟩
def RJ8 : String := "jdk/internal/util/ArraysSupport"
abbrev cJ8_newLength_cabcc : ByteArray := prog_17_method_27_code
def yJ8_newLength_cabcc : MethodName := ⟨RJ8, "newLength", "(III)I"⟩
abbrev cJ8_hugeLength_7cf53 : ByteArray := prog_17_method_28_code
def yJ8_hugeLength_7cf53 : MethodName := ⟨RJ8, "hugeLength", "(II)I"⟩
def RJ3 : String := "jdk/internal/util/Preconditions"
abbrev cJ3_checkIndex_8e157 : ByteArray := prog_18_method_11_code
def yJ3_checkIndex_8e157 : MethodName := ⟨RJ3, "checkIndex", "(IILjava/util/function/BiFunction;)I"⟩
abbrev cJ3_checkFromToIndex_8c36e : ByteArray := prog_18_method_12_code
def yJ3_checkFromToIndex_8c36e : MethodName := ⟨RJ3, "checkFromToIndex", "(IIILjava/util/function/BiFunction;)I"⟩
abbrev cJ3_checkFromIndexSize_8c36e : ByteArray := prog_18_method_13_code
def yJ3_checkFromIndexSize_8c36e : MethodName := ⟨RJ3, "checkFromIndexSize", "(IIILjava/util/function/BiFunction;)I"⟩
def RL : String := "BalePressLaw"
abbrev cL_law : ByteArray := code
def yL_law : MethodName := ⟨RL, "law", "([I)Z"⟩
abbrev vwCl : List vw_C := [(RJ4, TJ4, 4), (RX0, TX0, 9), (RX1, TX1, 5), (RX2, TX2, 2), (RX3, TX3, 16), (RX4, TX4, 28)]
/-- the words that every contract asks: all of the tables that keep -/
def lw_all : List Cond := (Cond.selects "java/lang/StringBuilder" ⟨"java/lang/AbstractStringBuilder", "ensureCapacityInternal", "(I)V"⟩ ⟨"java/lang/AbstractStringBuilder", "ensureCapacityInternal", "(I)V"⟩ :: lw_tbl).filter goodWord
end
section
theorem lw_in0 {w : Cond} (i : Nat) (h : (k2_sels lw_privs)[i]? = some w) (g : goodWord w = true) : w ∈ lw_all := List.mem_filter.mpr ⟨List.mem_cons_of_mem _ (List.mem_append_left _ (List.mem_of_getElem? h)), g⟩
theorem lw_in1 {w : Cond} (i : Nat) (h : tables_1_1[i]? = some w) (g : goodWord w = true) : w ∈ lw_all := List.mem_filter.mpr ⟨List.mem_cons_of_mem _ (List.mem_append_right _ (List.mem_append_left _ (List.mem_of_getElem? h))), g⟩
theorem lw_in2 {w : Cond} (i : Nat) (h : tables_1_2[i]? = some w) (g : goodWord w = true) : w ∈ lw_all := List.mem_filter.mpr ⟨List.mem_cons_of_mem _ (List.mem_append_right _ (List.mem_append_right _ (List.mem_append_left _ (List.mem_of_getElem? h)))), g⟩
theorem lw_in3 {w : Cond} (i : Nat) (h : tables_1_3[i]? = some w) (g : goodWord w = true) : w ∈ lw_all := List.mem_filter.mpr ⟨List.mem_cons_of_mem _ (List.mem_append_right _ (List.mem_append_right _ (List.mem_append_right _ (List.mem_append_left _ (List.mem_of_getElem? h))))), g⟩
theorem lw_in4 {w : Cond} (i : Nat) (h : tables_1_4[i]? = some w) (g : goodWord w = true) : w ∈ lw_all := List.mem_filter.mpr ⟨List.mem_cons_of_mem _ (List.mem_append_right _ (List.mem_append_right _ (List.mem_append_right _ (List.mem_append_right _ (List.mem_of_getElem? h))))), g⟩
theorem q_0 : Cond.selects RJ4 yJ5_ensureCapacityInternal_d00df yJ5_ensureCapacityInternal_d00df ∈ lw_all := List.mem_filter.mpr ⟨List.mem_cons_self, rfl⟩
theorem q_1 : Cond.selects RX3 yX3_keepBale yX3_keepBale ∈ lw_all := lw_in0 0 rfl rfl
theorem q_2 : Cond.selects RX3 yX3_findBale yX3_findBale ∈ lw_all := lw_in0 1 rfl rfl
theorem q_3 : Cond.selects RX3 yX3_gainAt yX3_gainAt ∈ lw_all := lw_in0 2 rfl rfl
theorem q_4 : Cond.selects RX3 yX3_isAlarming yX3_isAlarming ∈ lw_all := lw_in0 3 rfl rfl
theorem q_5 : Cond.selects RX3 yX3_findStack yX3_findStack ∈ lw_all := lw_in0 4 rfl rfl
theorem q_6 : Cond.selects RX3 yX3_balesOn yX3_balesOn ∈ lw_all := lw_in0 5 rfl rfl
theorem q_7 : Cond.selects RX3 yX3_bearsOtherMainKind yX3_bearsOtherMainKind ∈ lw_all := lw_in0 6 rfl rfl
theorem q_8 : Cond.selects RX3 yX3_gramsCloseTo yX3_gramsCloseTo ∈ lw_all := lw_in0 7 rfl rfl
theorem q_9 : Cond.selects RX3 yX3_areClose yX3_areClose ∈ lw_all := lw_in0 8 rfl rfl
theorem q_10 : Cond.selects RX3 yX3_findLorry yX3_findLorry ∈ lw_all := lw_in0 9 rfl rfl
theorem q_11 : Cond.selects RX1 yX1_momentOfNext yX1_momentOfNext ∈ lw_all := lw_in0 10 rfl rfl
theorem q_12 : Cond.selects RX3 yX3_writeLabel yX3_writeLabel ∈ lw_all := lw_in0 11 rfl rfl
theorem q_13 : Cond.selects RX4 yX4_make yX4_make ∈ lw_all := lw_in0 12 rfl rfl
theorem q_14 : Cond.selects RX4 yX4_isBale yX4_isBale ∈ lw_all := lw_in0 13 rfl rfl
theorem q_15 : Cond.selects RX4 yX4_gramsOf yX4_gramsOf ∈ lw_all := lw_in0 14 rfl rfl
theorem q_16 : Cond.selects RX4 yX4_has yX4_has ∈ lw_all := lw_in0 15 rfl rfl
theorem q_17 : Cond.selects RX4 yX4_weight yX4_weight ∈ lw_all := lw_in0 16 rfl rfl
theorem q_18 : Cond.selects RX4 yX4_mainOf yX4_mainOf ∈ lw_all := lw_in0 17 rfl rfl
theorem q_19 : Cond.selects RX4 yX4_isClose yX4_isClose ∈ lw_all := lw_in0 18 rfl rfl
theorem q_20 : Cond.selects RX4 yX4_loadOf yX4_loadOf ∈ lw_all := lw_in0 19 rfl rfl
theorem q_21 : Cond.selects RX4 yX4_say yX4_say ∈ lw_all := lw_in0 20 rfl rfl
theorem q_22 : Cond.selects RX4 yX4_sayNumber yX4_sayNumber ∈ lw_all := lw_in0 21 rfl rfl
theorem q_23 : Cond.initialized RL ∈ lw_all := lw_in1 0 rfl rfl
theorem q_24 : Cond.initialized RX3 ∈ lw_all := lw_in1 1 rfl rfl
theorem q_25 : Cond.initialized RJ5 ∈ lw_all := lw_in1 2 rfl rfl
theorem q_26 : Cond.initialized RJ4 ∈ lw_all := lw_in1 3 rfl rfl
theorem q_27 : Cond.initialized RJ0 ∈ lw_all := lw_in1 4 rfl rfl
theorem q_28 : Cond.initialized RJ2 ∈ lw_all := lw_in1 5 rfl rfl
theorem q_29 : Cond.initialized RX4 ∈ lw_all := lw_in1 6 rfl rfl
theorem q_30 : Cond.initialized RX0 ∈ lw_all := lw_in1 7 rfl rfl
theorem q_31 : Cond.initialized RJ9 ∈ lw_all := lw_in1 8 rfl rfl
theorem q_32 : Cond.initialized RX2 ∈ lw_all := lw_in1 9 rfl rfl
theorem q_33 : Cond.initialized RX1 ∈ lw_all := lw_in1 10 rfl rfl
theorem q_34 : Cond.initialized RJ8 ∈ lw_all := lw_in1 11 rfl rfl
theorem q_35 : Cond.initialized RJ7 ∈ lw_all := lw_in1 12 rfl rfl
theorem q_36 : Cond.initialized RJ10 ∈ lw_all := lw_in1 13 rfl rfl
theorem q_37 : Cond.initialized RJ1 ∈ lw_all := lw_in1 14 rfl rfl
theorem q_38 : Cond.initialized RJ3 ∈ lw_all := lw_in1 15 rfl rfl
theorem q_39 : Cond.initialized RJ6 ∈ lw_all := lw_in1 16 rfl rfl
theorem q_40 : Cond.classLink RL 7 RX3 ∈ lw_all := lw_in1 17 rfl rfl
theorem q_41 : Cond.instantiable RX3 16 ∈ lw_all := lw_in1 18 rfl rfl
theorem q_42 : Cond.methodLink RL 9 yX3_init ∈ lw_all := lw_in1 19 rfl rfl
theorem q_43 : Cond.instanceMethod yX3_init ∈ lw_all := lw_in1 20 rfl rfl
theorem q_44 : Cond.code yX3_init cX3_init 1 none ∈ lw_all := lw_in1 21 rfl rfl
theorem q_45 : Cond.methodLink RX3 1 objectInit ∈ lw_all := lw_in1 22 rfl rfl
theorem q_46 : Cond.instanceMethod objectInit ∈ lw_all := lw_in1 23 rfl rfl
theorem q_47 : Cond.code objectInit ⟨#[0xb1]⟩ 1 none ∈ lw_all := lw_in1 24 rfl rfl
theorem q_48 : Cond.classLink RX3 20 RX0 ∈ lw_all := lw_in1 25 rfl rfl
theorem q_49 : Cond.classLink RX3 33 RX2 ∈ lw_all := lw_in1 27 rfl rfl
theorem q_50 : Cond.classLink RX3 39 RX1 ∈ lw_all := lw_in1 29 rfl rfl
theorem q_51 : Cond.classLink RX3 45 RJ4 ∈ lw_all := lw_in1 31 rfl rfl
theorem q_52 : Cond.instantiable RJ4 4 ∈ lw_all := lw_in1 32 rfl rfl
theorem q_53 : Cond.methodLink RX3 47 yJ4_init_da8c8 ∈ lw_all := lw_in1 33 rfl rfl
theorem q_54 : Cond.instanceMethod yJ4_init_da8c8 ∈ lw_all := lw_in1 34 rfl rfl
theorem q_55 : Cond.code yJ4_init_da8c8 cJ4_init_da8c8 1 none ∈ lw_all := lw_in1 35 rfl rfl
theorem q_56 : Cond.methodLink RJ4 1 yJ5_init_d00df ∈ lw_all := lw_in1 36 rfl rfl
theorem q_57 : Cond.instanceMethod yJ5_init_d00df ∈ lw_all := lw_in1 37 rfl rfl
theorem q_58 : Cond.code yJ5_init_d00df cJ5_init_d00df 2 none ∈ lw_all := lw_in1 38 rfl rfl
theorem q_59 : Cond.methodLink RJ5 3 objectInit ∈ lw_all := lw_in1 39 rfl rfl
theorem q_60 : Cond.fieldLink RJ5 18 RJ0 "COMPACT_STRINGS" "Z" ∈ lw_all := lw_in1 40 rfl rfl
theorem q_61 : Cond.methodLink RJ5 26 yJ2_newBytesFor_77867 ∈ lw_all := lw_in1 42 rfl rfl
theorem q_62 : Cond.static yJ2_newBytesFor_77867 ∈ lw_all := lw_in1 43 rfl rfl
theorem q_63 : Cond.code yJ2_newBytesFor_77867 cJ2_newBytesFor_77867 1 (some (.array .byte)) ∈ lw_all := lw_in1 44 rfl rfl
theorem q_64 : Cond.methodLink RJ2 11 yJ2_newBytesLength_0f7a4 ∈ lw_all := lw_in1 45 rfl rfl
theorem q_65 : Cond.static yJ2_newBytesLength_0f7a4 ∈ lw_all := lw_in1 46 rfl rfl
theorem q_66 : Cond.code yJ2_newBytesLength_0f7a4 cJ2_newBytesLength_0f7a4 1 (some .int) ∈ lw_all := lw_in1 47 rfl rfl
theorem q_67 : Cond.constant RJ2 20 1073741823 ∈ lw_all := lw_in1 48 rfl rfl
theorem q_68 : Cond.fieldLink RJ5 15 RJ5 "value" "[B" ∈ lw_all := lw_in1 49 rfl rfl
theorem q_69 : Cond.fieldLink RJ5 22 RJ5 "coder" "B" ∈ lw_all := lw_in1 50 rfl rfl
theorem q_70 : Cond.fieldLink RJ5 73 RJ5 "maybeLatin1" "Z" ∈ lw_all := lw_in1 51 rfl rfl
theorem q_71 : Cond.fieldLink RJ5 79 RJ5 "count" "I" ∈ lw_all := lw_in1 52 rfl rfl
theorem q_72 : Cond.lays RJ4 RJ5 "value" "[B" ∈ lw_all := lw_in1 53 rfl rfl
theorem q_73 : Cond.soleField RJ5 "value" ∈ lw_all := lw_in1 54 rfl rfl
theorem q_74 : Cond.lays RJ4 RJ5 "coder" "B" ∈ lw_all := lw_in1 55 rfl rfl
theorem q_75 : Cond.soleField RJ5 "coder" ∈ lw_all := lw_in1 56 rfl rfl
theorem q_76 : Cond.lays RJ4 RJ5 "maybeLatin1" "Z" ∈ lw_all := lw_in1 57 rfl rfl
theorem q_77 : Cond.soleField RJ5 "maybeLatin1" ∈ lw_all := lw_in1 58 rfl rfl
theorem q_78 : Cond.lays RJ4 RJ5 "count" "I" ∈ lw_all := lw_in1 59 rfl rfl
theorem q_79 : Cond.soleField RJ5 "count" ∈ lw_all := lw_in1 60 rfl rfl
theorem q_80 : Cond.superclass RJ4 RJ5 ∈ lw_all := lw_in1 61 rfl rfl
theorem q_81 : Cond.arrayClass .long ∈ lw_all := lw_in1 62 rfl rfl
theorem q_82 : Cond.arrayClass .int ∈ lw_all := lw_in1 63 rfl rfl
theorem q_83 : Cond.arrayClass .double ∈ lw_all := lw_in1 64 rfl rfl
theorem q_84 : Cond.arrayClass .byte ∈ lw_all := lw_in1 65 rfl rfl
theorem q_85 : Cond.fieldLink RX3 9 RX3 "feedSeconds" "[J" ∈ lw_all := lw_in1 66 rfl rfl
theorem q_86 : Cond.fieldLink RX3 13 RX3 "feedKinds" "[I" ∈ lw_all := lw_in1 67 rfl rfl
theorem q_87 : Cond.fieldLink RX3 17 RX3 "feedGrams" "[J" ∈ lw_all := lw_in1 68 rfl rfl
theorem q_88 : Cond.fieldLink RX3 56 RX3 "feedCount" "I" ∈ lw_all := lw_in1 69 rfl rfl
theorem q_89 : Cond.fieldLink RX3 71 RX3 "feedsBaled" "I" ∈ lw_all := lw_in1 70 rfl rfl
theorem q_90 : Cond.fieldLink RX3 22 RX3 "bales" "[LBalePress$Bale;" ∈ lw_all := lw_in1 71 rfl rfl
theorem q_91 : Cond.fieldLink RX3 74 RX3 "baleCount" "I" ∈ lw_all := lw_in1 72 rfl rfl
theorem q_92 : Cond.fieldLink RX3 26 RX3 "rowDegrees" "[D" ∈ lw_all := lw_in1 73 rfl rfl
theorem q_93 : Cond.fieldLink RX3 30 RX3 "rowHeats" "[D" ∈ lw_all := lw_in1 74 rfl rfl
theorem q_94 : Cond.fieldLink RX3 116 RX3 "rowCount" "I" ∈ lw_all := lw_in1 75 rfl rfl
theorem q_95 : Cond.fieldLink RX3 52 RX3 "holdHours" "I" ∈ lw_all := lw_in1 76 rfl rfl
theorem q_96 : Cond.fieldLink RX3 35 RX3 "stacks" "[LBalePress$Stack;" ∈ lw_all := lw_in1 77 rfl rfl
theorem q_97 : Cond.fieldLink RX3 152 RX3 "stackCount" "I" ∈ lw_all := lw_in1 78 rfl rfl
theorem q_98 : Cond.fieldLink RX3 41 RX3 "lorries" "[LBalePress$Lorry;" ∈ lw_all := lw_in1 79 rfl rfl
theorem q_99 : Cond.fieldLink RX3 191 RX3 "lorryCount" "I" ∈ lw_all := lw_in1 80 rfl rfl
theorem q_100 : Cond.fieldLink RX3 48 RX3 "labelText" "Ljava/lang/StringBuilder;" ∈ lw_all := lw_in1 81 rfl rfl
theorem q_101 : Cond.laysFinal RX3 RX3 "feedSeconds" "[J" ∈ lw_all := lw_in1 82 rfl rfl
theorem q_102 : Cond.soleField RX3 "feedSeconds" ∈ lw_all := lw_in1 83 rfl rfl
theorem q_103 : Cond.laysFinal RX3 RX3 "feedKinds" "[I" ∈ lw_all := lw_in1 84 rfl rfl
theorem q_104 : Cond.soleField RX3 "feedKinds" ∈ lw_all := lw_in1 85 rfl rfl
theorem q_105 : Cond.laysFinal RX3 RX3 "feedGrams" "[J" ∈ lw_all := lw_in1 86 rfl rfl
theorem q_106 : Cond.soleField RX3 "feedGrams" ∈ lw_all := lw_in1 87 rfl rfl
theorem q_107 : Cond.lays RX3 RX3 "feedCount" "I" ∈ lw_all := lw_in1 88 rfl rfl
theorem q_108 : Cond.soleField RX3 "feedCount" ∈ lw_all := lw_in1 89 rfl rfl
theorem q_109 : Cond.lays RX3 RX3 "feedsBaled" "I" ∈ lw_all := lw_in1 90 rfl rfl
theorem q_110 : Cond.soleField RX3 "feedsBaled" ∈ lw_all := lw_in1 91 rfl rfl
theorem q_111 : Cond.laysFinal RX3 RX3 "bales" "[LBalePress$Bale;" ∈ lw_all := lw_in1 92 rfl rfl
theorem q_112 : Cond.soleField RX3 "bales" ∈ lw_all := lw_in1 93 rfl rfl
theorem q_113 : Cond.lays RX3 RX3 "baleCount" "I" ∈ lw_all := lw_in1 94 rfl rfl
theorem q_114 : Cond.soleField RX3 "baleCount" ∈ lw_all := lw_in1 95 rfl rfl
theorem q_115 : Cond.laysFinal RX3 RX3 "rowDegrees" "[D" ∈ lw_all := lw_in1 96 rfl rfl
theorem q_116 : Cond.soleField RX3 "rowDegrees" ∈ lw_all := lw_in1 97 rfl rfl
theorem q_117 : Cond.laysFinal RX3 RX3 "rowHeats" "[D" ∈ lw_all := lw_in1 98 rfl rfl
theorem q_118 : Cond.soleField RX3 "rowHeats" ∈ lw_all := lw_in1 99 rfl rfl
theorem q_119 : Cond.lays RX3 RX3 "rowCount" "I" ∈ lw_all := lw_in1 100 rfl rfl
theorem q_120 : Cond.soleField RX3 "rowCount" ∈ lw_all := lw_in1 101 rfl rfl
theorem q_121 : Cond.lays RX3 RX3 "holdHours" "I" ∈ lw_all := lw_in1 102 rfl rfl
theorem q_122 : Cond.soleField RX3 "holdHours" ∈ lw_all := lw_in1 103 rfl rfl
theorem q_123 : Cond.laysFinal RX3 RX3 "stacks" "[LBalePress$Stack;" ∈ lw_all := lw_in1 104 rfl rfl
theorem q_124 : Cond.soleField RX3 "stacks" ∈ lw_all := lw_in1 105 rfl rfl
theorem q_125 : Cond.lays RX3 RX3 "stackCount" "I" ∈ lw_all := lw_in1 106 rfl rfl
theorem q_126 : Cond.soleField RX3 "stackCount" ∈ lw_all := lw_in1 107 rfl rfl
theorem q_127 : Cond.laysFinal RX3 RX3 "lorries" "[LBalePress$Lorry;" ∈ lw_all := lw_in1 108 rfl rfl
theorem q_128 : Cond.soleField RX3 "lorries" ∈ lw_all := lw_in1 109 rfl rfl
theorem q_129 : Cond.lays RX3 RX3 "lorryCount" "I" ∈ lw_all := lw_in1 110 rfl rfl
theorem q_130 : Cond.soleField RX3 "lorryCount" ∈ lw_all := lw_in1 111 rfl rfl
theorem q_131 : Cond.laysFinal RX3 RX3 "labelText" "Ljava/lang/StringBuilder;" ∈ lw_all := lw_in1 112 rfl rfl
theorem q_132 : Cond.soleField RX3 "labelText" ∈ lw_all := lw_in1 113 rfl rfl
theorem q_133 : Cond.superclass RX3 "java/lang/Object" ∈ lw_all := lw_in1 114 rfl rfl
theorem q_134 : Cond.methodLink RL 15 yX3_feed ∈ lw_all := lw_in1 115 rfl rfl
theorem q_135 : Cond.instanceMethod yX3_feed ∈ lw_all := lw_in1 116 rfl rfl
theorem q_136 : Cond.selects RX3 yX3_feed yX3_feed ∈ lw_all := lw_in1 117 rfl rfl
theorem q_137 : Cond.code yX3_feed cX3_feed 6 (some .boolean) ∈ lw_all := lw_in1 118 rfl rfl
theorem q_138 : Cond.methodLink RX3 59 yX3_isKind ∈ lw_all := lw_in1 119 rfl rfl
theorem q_139 : Cond.static yX3_isKind ∈ lw_all := lw_in1 120 rfl rfl
theorem q_140 : Cond.code yX3_isKind cX3_isKind 1 (some .boolean) ∈ lw_all := lw_in1 121 rfl rfl
theorem q_141 : Cond.constantLong RX3 63 8000000000 ∈ lw_all := lw_in1 122 rfl rfl
theorem q_142 : Cond.methodLink RX3 65 yX3_isWithin ∈ lw_all := lw_in1 123 rfl rfl
theorem q_143 : Cond.static yX3_isWithin ∈ lw_all := lw_in1 124 rfl rfl
theorem q_144 : Cond.code yX3_isWithin cX3_isWithin 6 (some .boolean) ∈ lw_all := lw_in1 125 rfl rfl
theorem q_145 : Cond.constantLong RX3 69 1000000 ∈ lw_all := lw_in1 126 rfl rfl
theorem q_146 : Cond.methodLink RL 20 yX3_bale ∈ lw_all := lw_in1 127 rfl rfl
theorem q_147 : Cond.instanceMethod yX3_bale ∈ lw_all := lw_in1 128 rfl rfl
theorem q_148 : Cond.selects RX3 yX3_bale yX3_bale ∈ lw_all := lw_in1 129 rfl rfl
theorem q_149 : Cond.code yX3_bale cX3_bale 6 (some .int) ∈ lw_all := lw_in1 130 rfl rfl
theorem q_150 : Cond.instantiable RX0 9 ∈ lw_all := lw_in1 131 rfl rfl
theorem q_151 : Cond.methodLink RX3 77 yX0_init ∈ lw_all := lw_in1 132 rfl rfl
theorem q_152 : Cond.instanceMethod yX0_init ∈ lw_all := lw_in1 133 rfl rfl
theorem q_153 : Cond.code yX0_init cX0_init 1 none ∈ lw_all := lw_in1 134 rfl rfl
theorem q_154 : Cond.methodLink RX0 3 objectInit ∈ lw_all := lw_in1 135 rfl rfl
theorem q_155 : Cond.constantDouble RX0 15 4626322717216342016 ∈ lw_all := lw_in1 136 rfl rfl
theorem q_156 : Cond.fieldLink RX0 9 RX0 "grams" "[J" ∈ lw_all := lw_in1 137 rfl rfl
theorem q_157 : Cond.fieldLink RX0 17 RX0 "warmth" "D" ∈ lw_all := lw_in1 138 rfl rfl
theorem q_158 : Cond.fieldLink RX0 55 RX0 "hotHoursOfLate" "I" ∈ lw_all := lw_in1 140 rfl rfl
theorem q_159 : Cond.fieldLink RX0 58 RX0 "spell" "I" ∈ lw_all := lw_in1 141 rfl rfl
theorem q_160 : Cond.fieldLink RX0 21 RX0 "condition" "I" ∈ lw_all := lw_in1 143 rfl rfl
theorem q_161 : Cond.fieldLink RX0 25 RX0 "stackNumber" "I" ∈ lw_all := lw_in1 145 rfl rfl
theorem q_162 : Cond.fieldLink RX0 40 RX0 "firstPart" "LBalePress$Bale;" ∈ lw_all := lw_in1 148 rfl rfl
theorem q_163 : Cond.fieldLink RX0 44 RX0 "secondPart" "LBalePress$Bale;" ∈ lw_all := lw_in1 150 rfl rfl
theorem q_164 : Cond.laysFinal RX0 RX0 "grams" "[J" ∈ lw_all := lw_in1 152 rfl rfl
theorem q_165 : Cond.soleField RX0 "grams" ∈ lw_all := lw_in1 153 rfl rfl
theorem q_166 : Cond.lays RX0 RX0 "warmth" "D" ∈ lw_all := lw_in1 154 rfl rfl
theorem q_167 : Cond.soleField RX0 "warmth" ∈ lw_all := lw_in1 155 rfl rfl
theorem q_168 : Cond.lays RX0 RX0 "hotHoursOfLate" "I" ∈ lw_all := lw_in1 156 rfl rfl
theorem q_169 : Cond.soleField RX0 "hotHoursOfLate" ∈ lw_all := lw_in1 157 rfl rfl
theorem q_170 : Cond.lays RX0 RX0 "spell" "I" ∈ lw_all := lw_in1 158 rfl rfl
theorem q_171 : Cond.soleField RX0 "spell" ∈ lw_all := lw_in1 159 rfl rfl
theorem q_172 : Cond.lays RX0 RX0 "condition" "I" ∈ lw_all := lw_in1 160 rfl rfl
theorem q_173 : Cond.soleField RX0 "condition" ∈ lw_all := lw_in1 161 rfl rfl
theorem q_174 : Cond.lays RX0 RX0 "stackNumber" "I" ∈ lw_all := lw_in1 162 rfl rfl
theorem q_175 : Cond.soleField RX0 "stackNumber" ∈ lw_all := lw_in1 163 rfl rfl
theorem q_176 : Cond.lays RX0 RX0 "isLoaded" "Z" ∈ lw_all := lw_in1 164 rfl rfl
theorem q_177 : Cond.soleField RX0 "isLoaded" ∈ lw_all := lw_in1 165 rfl rfl
theorem q_178 : Cond.lays RX0 RX0 "firstPart" "LBalePress$Bale;" ∈ lw_all := lw_in1 166 rfl rfl
theorem q_179 : Cond.soleField RX0 "firstPart" ∈ lw_all := lw_in1 167 rfl rfl
theorem q_180 : Cond.lays RX0 RX0 "secondPart" "LBalePress$Bale;" ∈ lw_all := lw_in1 168 rfl rfl
theorem q_181 : Cond.soleField RX0 "secondPart" ∈ lw_all := lw_in1 169 rfl rfl
theorem q_182 : Cond.superclass RX0 "java/lang/Object" ∈ lw_all := lw_in1 170 rfl rfl
theorem q_183 : Cond.methodLink RX3 78 yX0_addGrams ∈ lw_all := lw_in1 171 rfl rfl
theorem q_184 : Cond.instanceMethod yX0_addGrams ∈ lw_all := lw_in1 172 rfl rfl
theorem q_185 : Cond.selects RX0 yX0_addGrams yX0_addGrams ∈ lw_all := lw_in1 173 rfl rfl
theorem q_186 : Cond.code yX0_addGrams cX0_addGrams 4 none ∈ lw_all := lw_in1 174 rfl rfl
theorem q_187 : Cond.methodLink RX3 82 yX3_keepBale ∈ lw_all := lw_in1 176 rfl rfl
theorem q_188 : Cond.instanceMethod yX3_keepBale ∈ lw_all := lw_in1 178 rfl rfl
theorem q_189 : Cond.code yX3_keepBale cX3_keepBale 2 (some .int) ∈ lw_all := lw_in1 179 rfl rfl
theorem q_190 : Cond.methodLink RL 25 yX3_in ∈ lw_all := lw_in1 180 rfl rfl
theorem q_191 : Cond.instanceMethod yX3_in ∈ lw_all := lw_in1 181 rfl rfl
theorem q_192 : Cond.selects RX3 yX3_in yX3_in ∈ lw_all := lw_in1 182 rfl rfl
theorem q_193 : Cond.code yX3_in cX3_in 4 (some .long) ∈ lw_all := lw_in1 183 rfl rfl
theorem q_194 : Cond.methodLink RX3 86 yX3_findBale ∈ lw_all := lw_in1 184 rfl rfl
theorem q_195 : Cond.instanceMethod yX3_findBale ∈ lw_all := lw_in1 186 rfl rfl
theorem q_196 : Cond.code yX3_findBale cX3_findBale 2 (some (.object "BalePress$Bale")) ∈ lw_all := lw_in1 187 rfl rfl
theorem q_197 : Cond.constantLong RX3 90 (-1) ∈ lw_all := lw_in1 188 rfl rfl
theorem q_198 : Cond.methodLink RX3 92 yX0_gramsOf ∈ lw_all := lw_in1 189 rfl rfl
theorem q_199 : Cond.instanceMethod yX0_gramsOf ∈ lw_all := lw_in1 190 rfl rfl
theorem q_200 : Cond.selects RX0 yX0_gramsOf yX0_gramsOf ∈ lw_all := lw_in1 191 rfl rfl
theorem q_201 : Cond.code yX0_gramsOf cX0_gramsOf 2 (some .long) ∈ lw_all := lw_in1 192 rfl rfl
theorem q_202 : Cond.methodLink RL 30 yX3_count ∈ lw_all := lw_in1 193 rfl rfl
theorem q_203 : Cond.instanceMethod yX3_count ∈ lw_all := lw_in1 194 rfl rfl
theorem q_204 : Cond.selects RX3 yX3_count yX3_count ∈ lw_all := lw_in1 195 rfl rfl
theorem q_205 : Cond.code yX3_count cX3_count 5 (some .long) ∈ lw_all := lw_in1 196 rfl rfl
theorem q_206 : Cond.methodLink RL 35 yX3_wires ∈ lw_all := lw_in1 197 rfl rfl
theorem q_207 : Cond.instanceMethod yX3_wires ∈ lw_all := lw_in1 198 rfl rfl
theorem q_208 : Cond.selects RX3 yX3_wires yX3_wires ∈ lw_all := lw_in1 199 rfl rfl
theorem q_209 : Cond.code yX3_wires cX3_wires 5 (some .int) ∈ lw_all := lw_in1 200 rfl rfl
theorem q_210 : Cond.methodLink RX3 96 yX0_totalGrams ∈ lw_all := lw_in1 201 rfl rfl
theorem q_211 : Cond.instanceMethod yX0_totalGrams ∈ lw_all := lw_in1 202 rfl rfl
theorem q_212 : Cond.selects RX0 yX0_totalGrams yX0_totalGrams ∈ lw_all := lw_in1 203 rfl rfl
theorem q_213 : Cond.code yX0_totalGrams cX0_totalGrams 4 (some .long) ∈ lw_all := lw_in1 204 rfl rfl
theorem q_214 : Cond.constantLong RX3 100 100000 ∈ lw_all := lw_in1 205 rfl rfl
theorem q_215 : Cond.constantLong RX3 102 3 ∈ lw_all := lw_in1 206 rfl rfl
theorem q_216 : Cond.methodLink RL 42 yX3_size ∈ lw_all := lw_in1 207 rfl rfl
theorem q_217 : Cond.instanceMethod yX3_size ∈ lw_all := lw_in1 208 rfl rfl
theorem q_218 : Cond.selects RX3 yX3_size yX3_size ∈ lw_all := lw_in1 209 rfl rfl
theorem q_219 : Cond.code yX3_size cX3_size 7 (some .double) ∈ lw_all := lw_in1 210 rfl rfl
theorem q_220 : Cond.constantDouble RX3 104 4634204016564240384 ∈ lw_all := lw_in1 211 rfl rfl
theorem q_221 : Cond.methodLink RX3 106 yX3_isBetween ∈ lw_all := lw_in1 212 rfl rfl
theorem q_222 : Cond.static yX3_isBetween ∈ lw_all := lw_in1 213 rfl rfl
theorem q_223 : Cond.code yX3_isBetween cX3_isBetween 6 (some .boolean) ∈ lw_all := lw_in1 214 rfl rfl
theorem q_224 : Cond.constantDouble RX3 110 13830554455654793216 ∈ lw_all := lw_in1 215 rfl rfl
theorem q_225 : Cond.constantDouble RX3 112 4562254508917369340 ∈ lw_all := lw_in1 216 rfl rfl
theorem q_226 : Cond.constantDouble RX3 114 4593671619917905920 ∈ lw_all := lw_in1 217 rfl rfl
theorem q_227 : Cond.methodLink RL 47 yX3_row ∈ lw_all := lw_in1 218 rfl rfl
theorem q_228 : Cond.instanceMethod yX3_row ∈ lw_all := lw_in1 219 rfl rfl
theorem q_229 : Cond.selects RX3 yX3_row yX3_row ∈ lw_all := lw_in1 220 rfl rfl
theorem q_230 : Cond.code yX3_row cX3_row 5 (some .boolean) ∈ lw_all := lw_in1 221 rfl rfl
theorem q_231 : Cond.constantDouble RX3 119 13855605728582041600 ∈ lw_all := lw_in1 222 rfl rfl
theorem q_232 : Cond.constantDouble RX3 121 4641240890982006784 ∈ lw_all := lw_in1 223 rfl rfl
theorem q_233 : Cond.constantDouble RX3 123 4621819117588971520 ∈ lw_all := lw_in1 224 rfl rfl
theorem q_234 : Cond.methodLink RL 52 yX3_warm ∈ lw_all := lw_in1 225 rfl rfl
theorem q_235 : Cond.instanceMethod yX3_warm ∈ lw_all := lw_in1 226 rfl rfl
theorem q_236 : Cond.selects RX3 yX3_warm yX3_warm ∈ lw_all := lw_in1 227 rfl rfl
theorem q_237 : Cond.code yX3_warm cX3_warm 7 (some .double) ∈ lw_all := lw_in1 228 rfl rfl
theorem q_238 : Cond.methodLink RX3 125 yX0_isGoneOrSold ∈ lw_all := lw_in1 229 rfl rfl
theorem q_239 : Cond.instanceMethod yX0_isGoneOrSold ∈ lw_all := lw_in1 230 rfl rfl
theorem q_240 : Cond.selects RX0 yX0_isGoneOrSold yX0_isGoneOrSold ∈ lw_all := lw_in1 231 rfl rfl
theorem q_241 : Cond.code yX0_isGoneOrSold cX0_isGoneOrSold 1 (some .boolean) ∈ lw_all := lw_in1 232 rfl rfl
theorem q_242 : Cond.constantDouble RX3 129 13875379345695965184 ∈ lw_all := lw_in1 233 rfl rfl
theorem q_243 : Cond.constantLong RX3 131 100 ∈ lw_all := lw_in1 234 rfl rfl
theorem q_244 : Cond.constantDouble RX3 133 4633641066610819072 ∈ lw_all := lw_in1 235 rfl rfl
theorem q_245 : Cond.methodLink RX3 139 yX3_gainAt ∈ lw_all := lw_in1 236 rfl rfl
theorem q_246 : Cond.instanceMethod yX3_gainAt ∈ lw_all := lw_in1 238 rfl rfl
theorem q_247 : Cond.code yX3_gainAt cX3_gainAt 6 (some .double) ∈ lw_all := lw_in1 239 rfl rfl
theorem q_248 : Cond.methodLink RX3 143 yX0_passHour ∈ lw_all := lw_in2 0 rfl rfl
theorem q_249 : Cond.instanceMethod yX0_passHour ∈ lw_all := lw_in2 1 rfl rfl
theorem q_250 : Cond.selects RX0 yX0_passHour yX0_passHour ∈ lw_all := lw_in2 2 rfl rfl
theorem q_251 : Cond.code yX0_passHour cX0_passHour 5 none ∈ lw_all := lw_in2 3 rfl rfl
theorem q_252 : Cond.constantDouble RX0 49 4593671619917905920 ∈ lw_all := lw_in2 4 rfl rfl
theorem q_253 : Cond.methodLink RX0 51 yX0_isHot ∈ lw_all := lw_in2 5 rfl rfl
theorem q_254 : Cond.instanceMethod yX0_isHot ∈ lw_all := lw_in2 6 rfl rfl
theorem q_255 : Cond.selects RX0 yX0_isHot yX0_isHot ∈ lw_all := lw_in2 7 rfl rfl
theorem q_256 : Cond.code yX0_isHot cX0_isHot 1 (some .boolean) ∈ lw_all := lw_in2 8 rfl rfl
theorem q_257 : Cond.constantDouble RX0 47 4633641066610819072 ∈ lw_all := lw_in2 9 rfl rfl
theorem q_258 : Cond.methodLink RX0 61 Lib.Math.max.name ∈ lw_all := lw_in2 10 rfl rfl
theorem q_259 : Cond.static Lib.Math.max.name ∈ lw_all := lw_in2 11 rfl rfl
theorem q_260 : Cond.code Lib.Math.max.name cJ9_max_7cf53 2 (some .int) ∈ lw_all := lw_in2 12 rfl rfl
theorem q_261 : Cond.methodLink RL 57 yX3_hold ∈ lw_all := lw_in2 13 rfl rfl
theorem q_262 : Cond.instanceMethod yX3_hold ∈ lw_all := lw_in2 14 rfl rfl
theorem q_263 : Cond.selects RX3 yX3_hold yX3_hold ∈ lw_all := lw_in2 15 rfl rfl
theorem q_264 : Cond.code yX3_hold cX3_hold 2 (some .boolean) ∈ lw_all := lw_in2 16 rfl rfl
theorem q_265 : Cond.constantLong RX3 147 1000 ∈ lw_all := lw_in2 17 rfl rfl
theorem q_266 : Cond.methodLink RL 62 yX3_alarm ∈ lw_all := lw_in2 18 rfl rfl
theorem q_267 : Cond.instanceMethod yX3_alarm ∈ lw_all := lw_in2 19 rfl rfl
theorem q_268 : Cond.selects RX3 yX3_alarm yX3_alarm ∈ lw_all := lw_in2 20 rfl rfl
theorem q_269 : Cond.code yX3_alarm cX3_alarm 4 (some .int) ∈ lw_all := lw_in2 21 rfl rfl
theorem q_270 : Cond.methodLink RX3 149 yX3_isAlarming ∈ lw_all := lw_in2 22 rfl rfl
theorem q_271 : Cond.instanceMethod yX3_isAlarming ∈ lw_all := lw_in2 24 rfl rfl
theorem q_272 : Cond.code yX3_isAlarming cX3_isAlarming 3 (some .boolean) ∈ lw_all := lw_in2 25 rfl rfl
theorem q_273 : Cond.methodLink RL 66 yX3_stack ∈ lw_all := lw_in2 26 rfl rfl
theorem q_274 : Cond.instanceMethod yX3_stack ∈ lw_all := lw_in2 27 rfl rfl
theorem q_275 : Cond.selects RX3 yX3_stack yX3_stack ∈ lw_all := lw_in2 28 rfl rfl
theorem q_276 : Cond.code yX3_stack cX3_stack 3 (some .int) ∈ lw_all := lw_in2 29 rfl rfl
theorem q_277 : Cond.constantLong RX3 155 6 ∈ lw_all := lw_in2 30 rfl rfl
theorem q_278 : Cond.instantiable RX2 2 ∈ lw_all := lw_in2 31 rfl rfl
theorem q_279 : Cond.methodLink RX3 157 yX2_init ∈ lw_all := lw_in2 32 rfl rfl
theorem q_280 : Cond.instanceMethod yX2_init ∈ lw_all := lw_in2 33 rfl rfl
theorem q_281 : Cond.code yX2_init cX2_init 3 none ∈ lw_all := lw_in2 34 rfl rfl
theorem q_282 : Cond.methodLink RX2 1 objectInit ∈ lw_all := lw_in2 35 rfl rfl
theorem q_283 : Cond.fieldLink RX2 7 RX2 "gap" "I" ∈ lw_all := lw_in2 36 rfl rfl
theorem q_284 : Cond.fieldLink RX2 13 RX2 "height" "I" ∈ lw_all := lw_in2 38 rfl rfl
theorem q_285 : Cond.laysFinal RX2 RX2 "gap" "I" ∈ lw_all := lw_in2 40 rfl rfl
theorem q_286 : Cond.soleField RX2 "gap" ∈ lw_all := lw_in2 41 rfl rfl
theorem q_287 : Cond.laysFinal RX2 RX2 "height" "I" ∈ lw_all := lw_in2 42 rfl rfl
theorem q_288 : Cond.soleField RX2 "height" ∈ lw_all := lw_in2 43 rfl rfl
theorem q_289 : Cond.superclass RX2 "java/lang/Object" ∈ lw_all := lw_in2 44 rfl rfl
theorem q_290 : Cond.methodLink RL 71 yX3_put ∈ lw_all := lw_in2 45 rfl rfl
theorem q_291 : Cond.instanceMethod yX3_put ∈ lw_all := lw_in2 46 rfl rfl
theorem q_292 : Cond.selects RX3 yX3_put yX3_put ∈ lw_all := lw_in2 47 rfl rfl
theorem q_293 : Cond.code yX3_put cX3_put 5 (some .int) ∈ lw_all := lw_in2 48 rfl rfl
theorem q_294 : Cond.methodLink RX3 160 yX3_findStack ∈ lw_all := lw_in2 49 rfl rfl
theorem q_295 : Cond.instanceMethod yX3_findStack ∈ lw_all := lw_in2 51 rfl rfl
theorem q_296 : Cond.code yX3_findStack cX3_findStack 2 (some (.object "BalePress$Stack")) ∈ lw_all := lw_in2 52 rfl rfl
theorem q_297 : Cond.methodLink RX3 167 yX3_balesOn ∈ lw_all := lw_in2 53 rfl rfl
theorem q_298 : Cond.instanceMethod yX3_balesOn ∈ lw_all := lw_in2 55 rfl rfl
theorem q_299 : Cond.code yX3_balesOn cX3_balesOn 5 (some .int) ∈ lw_all := lw_in2 56 rfl rfl
theorem q_300 : Cond.methodLink RX3 247 yX0_standsOn ∈ lw_all := lw_in2 57 rfl rfl
theorem q_301 : Cond.instanceMethod yX0_standsOn ∈ lw_all := lw_in2 58 rfl rfl
theorem q_302 : Cond.selects RX0 yX0_standsOn yX0_standsOn ∈ lw_all := lw_in2 59 rfl rfl
theorem q_303 : Cond.code yX0_standsOn cX0_standsOn 2 (some .boolean) ∈ lw_all := lw_in2 60 rfl rfl
theorem q_304 : Cond.methodLink RX3 174 yX0_isHot ∈ lw_all := lw_in2 61 rfl rfl
theorem q_305 : Cond.methodLink RX3 177 yX0_mainKind ∈ lw_all := lw_in2 62 rfl rfl
theorem q_306 : Cond.instanceMethod yX0_mainKind ∈ lw_all := lw_in2 63 rfl rfl
theorem q_307 : Cond.selects RX0 yX0_mainKind yX0_mainKind ∈ lw_all := lw_in2 64 rfl rfl
theorem q_308 : Cond.code yX0_mainKind cX0_mainKind 3 (some .int) ∈ lw_all := lw_in2 65 rfl rfl
theorem q_309 : Cond.methodLink RX3 181 yX3_bearsOtherMainKind ∈ lw_all := lw_in2 66 rfl rfl
theorem q_310 : Cond.instanceMethod yX3_bearsOtherMainKind ∈ lw_all := lw_in2 68 rfl rfl
theorem q_311 : Cond.code yX3_bearsOtherMainKind cX3_bearsOtherMainKind 5 (some .boolean) ∈ lw_all := lw_in2 69 rfl rfl
theorem q_312 : Cond.methodLink RX3 185 yX3_gramsCloseTo ∈ lw_all := lw_in2 70 rfl rfl
theorem q_313 : Cond.instanceMethod yX3_gramsCloseTo ∈ lw_all := lw_in2 72 rfl rfl
theorem q_314 : Cond.code yX3_gramsCloseTo cX3_gramsCloseTo 6 (some .long) ∈ lw_all := lw_in2 73 rfl rfl
theorem q_315 : Cond.methodLink RX3 250 yX3_areClose ∈ lw_all := lw_in2 74 rfl rfl
theorem q_316 : Cond.instanceMethod yX3_areClose ∈ lw_all := lw_in2 76 rfl rfl
theorem q_317 : Cond.code yX3_areClose cX3_areClose 6 (some .boolean) ∈ lw_all := lw_in2 77 rfl rfl
theorem q_318 : Cond.methodLink RX3 253 Lib.Math.min.name ∈ lw_all := lw_in2 78 rfl rfl
theorem q_319 : Cond.static Lib.Math.min.name ∈ lw_all := lw_in2 79 rfl rfl
theorem q_320 : Cond.code Lib.Math.min.name cJ9_min_7cf53 2 (some .int) ∈ lw_all := lw_in2 80 rfl rfl
theorem q_321 : Cond.methodLink RX3 259 Lib.Math.max.name ∈ lw_all := lw_in2 81 rfl rfl
theorem q_322 : Cond.methodLink RL 75 yX3_first ∈ lw_all := lw_in2 82 rfl rfl
theorem q_323 : Cond.instanceMethod yX3_first ∈ lw_all := lw_in2 83 rfl rfl
theorem q_324 : Cond.selects RX3 yX3_first yX3_first ∈ lw_all := lw_in2 84 rfl rfl
theorem q_325 : Cond.code yX3_first cX3_first 4 (some .int) ∈ lw_all := lw_in2 85 rfl rfl
theorem q_326 : Cond.methodLink RL 79 yX3_lorry ∈ lw_all := lw_in2 86 rfl rfl
theorem q_327 : Cond.instanceMethod yX3_lorry ∈ lw_all := lw_in2 87 rfl rfl
theorem q_328 : Cond.selects RX3 yX3_lorry yX3_lorry ∈ lw_all := lw_in2 88 rfl rfl
theorem q_329 : Cond.code yX3_lorry cX3_lorry 5 (some .int) ∈ lw_all := lw_in2 89 rfl rfl
theorem q_330 : Cond.constantLong RX3 194 100000000 ∈ lw_all := lw_in2 90 rfl rfl
theorem q_331 : Cond.instantiable RX1 5 ∈ lw_all := lw_in2 91 rfl rfl
theorem q_332 : Cond.methodLink RX3 196 yX1_init ∈ lw_all := lw_in2 92 rfl rfl
theorem q_333 : Cond.instanceMethod yX1_init ∈ lw_all := lw_in2 93 rfl rfl
theorem q_334 : Cond.code yX1_init cX1_init 5 none ∈ lw_all := lw_in2 94 rfl rfl
theorem q_335 : Cond.methodLink RX1 3 objectInit ∈ lw_all := lw_in2 95 rfl rfl
theorem q_336 : Cond.fieldLink RX1 9 RX1 "mostGrams" "J" ∈ lw_all := lw_in2 96 rfl rfl
theorem q_337 : Cond.fieldLink RX1 15 RX1 "mostMoment" "J" ∈ lw_all := lw_in2 97 rfl rfl
theorem q_338 : Cond.fieldLink RX1 22 RX1 "gramsOn" "J" ∈ lw_all := lw_in2 98 rfl rfl
theorem q_339 : Cond.fieldLink RX1 25 RX1 "momentOn" "J" ∈ lw_all := lw_in2 100 rfl rfl
theorem q_340 : Cond.fieldLink RX1 18 RX1 "placesTaken" "I" ∈ lw_all := lw_in2 102 rfl rfl
theorem q_341 : Cond.laysFinal RX1 RX1 "mostGrams" "J" ∈ lw_all := lw_in2 103 rfl rfl
theorem q_342 : Cond.soleField RX1 "mostGrams" ∈ lw_all := lw_in2 104 rfl rfl
theorem q_343 : Cond.laysFinal RX1 RX1 "mostMoment" "J" ∈ lw_all := lw_in2 105 rfl rfl
theorem q_344 : Cond.soleField RX1 "mostMoment" ∈ lw_all := lw_in2 106 rfl rfl
theorem q_345 : Cond.lays RX1 RX1 "gramsOn" "J" ∈ lw_all := lw_in2 107 rfl rfl
theorem q_346 : Cond.soleField RX1 "gramsOn" ∈ lw_all := lw_in2 108 rfl rfl
theorem q_347 : Cond.lays RX1 RX1 "momentOn" "J" ∈ lw_all := lw_in2 109 rfl rfl
theorem q_348 : Cond.soleField RX1 "momentOn" ∈ lw_all := lw_in2 110 rfl rfl
theorem q_349 : Cond.lays RX1 RX1 "placesTaken" "I" ∈ lw_all := lw_in2 111 rfl rfl
theorem q_350 : Cond.soleField RX1 "placesTaken" ∈ lw_all := lw_in2 112 rfl rfl
theorem q_351 : Cond.superclass RX1 "java/lang/Object" ∈ lw_all := lw_in2 113 rfl rfl
theorem q_352 : Cond.methodLink RL 84 yX3_load ∈ lw_all := lw_in2 114 rfl rfl
theorem q_353 : Cond.instanceMethod yX3_load ∈ lw_all := lw_in2 115 rfl rfl
theorem q_354 : Cond.selects RX3 yX3_load yX3_load ∈ lw_all := lw_in2 116 rfl rfl
theorem q_355 : Cond.code yX3_load cX3_load 5 (some .int) ∈ lw_all := lw_in2 117 rfl rfl
theorem q_356 : Cond.methodLink RX3 199 yX3_findLorry ∈ lw_all := lw_in2 118 rfl rfl
theorem q_357 : Cond.instanceMethod yX3_findLorry ∈ lw_all := lw_in2 120 rfl rfl
theorem q_358 : Cond.code yX3_findLorry cX3_findLorry 2 (some (.object "BalePress$Lorry")) ∈ lw_all := lw_in2 121 rfl rfl
theorem q_359 : Cond.methodLink RX3 207 yX1_hasRoomFor ∈ lw_all := lw_in2 122 rfl rfl
theorem q_360 : Cond.instanceMethod yX1_hasRoomFor ∈ lw_all := lw_in2 123 rfl rfl
theorem q_361 : Cond.selects RX1 yX1_hasRoomFor yX1_hasRoomFor ∈ lw_all := lw_in2 124 rfl rfl
theorem q_362 : Cond.code yX1_hasRoomFor cX1_hasRoomFor 3 (some .boolean) ∈ lw_all := lw_in2 125 rfl rfl
theorem q_363 : Cond.methodLink RX1 28 yX1_momentOfNext ∈ lw_all := lw_in2 126 rfl rfl
theorem q_364 : Cond.instanceMethod yX1_momentOfNext ∈ lw_all := lw_in2 128 rfl rfl
theorem q_365 : Cond.code yX1_momentOfNext cX1_momentOfNext 3 (some .long) ∈ lw_all := lw_in2 129 rfl rfl
theorem q_366 : Cond.methodLink RX3 211 yX1_takeOn ∈ lw_all := lw_in2 130 rfl rfl
theorem q_367 : Cond.instanceMethod yX1_takeOn ∈ lw_all := lw_in2 131 rfl rfl
theorem q_368 : Cond.selects RX1 yX1_takeOn yX1_takeOn ∈ lw_all := lw_in2 132 rfl rfl
theorem q_369 : Cond.code yX1_takeOn cX1_takeOn 4 (some .int) ∈ lw_all := lw_in2 133 rfl rfl
theorem q_370 : Cond.methodLink RL 88 yX3_moment ∈ lw_all := lw_in2 134 rfl rfl
theorem q_371 : Cond.instanceMethod yX3_moment ∈ lw_all := lw_in2 135 rfl rfl
theorem q_372 : Cond.selects RX3 yX3_moment yX3_moment ∈ lw_all := lw_in2 136 rfl rfl
theorem q_373 : Cond.code yX3_moment cX3_moment 4 (some .long) ∈ lw_all := lw_in2 137 rfl rfl
theorem q_374 : Cond.methodLink RL 92 yX3_rebale ∈ lw_all := lw_in2 138 rfl rfl
theorem q_375 : Cond.instanceMethod yX3_rebale ∈ lw_all := lw_in2 139 rfl rfl
theorem q_376 : Cond.selects RX3 yX3_rebale yX3_rebale ∈ lw_all := lw_in2 140 rfl rfl
theorem q_377 : Cond.code yX3_rebale cX3_rebale 6 (some .int) ∈ lw_all := lw_in2 141 rfl rfl
theorem q_378 : Cond.methodLink RX3 222 yX0_makeOf ∈ lw_all := lw_in2 142 rfl rfl
theorem q_379 : Cond.instanceMethod yX0_makeOf ∈ lw_all := lw_in2 143 rfl rfl
theorem q_380 : Cond.selects RX0 yX0_makeOf yX0_makeOf ∈ lw_all := lw_in2 144 rfl rfl
theorem q_381 : Cond.code yX0_makeOf cX0_makeOf 4 none ∈ lw_all := lw_in2 145 rfl rfl
theorem q_382 : Cond.methodLink RX0 32 yX0_gramsOf ∈ lw_all := lw_in2 146 rfl rfl
theorem q_383 : Cond.methodLink RX0 36 yX0_addGrams ∈ lw_all := lw_in2 147 rfl rfl
theorem q_384 : Cond.methodLink RL 96 yX3_brought ∈ lw_all := lw_in2 148 rfl rfl
theorem q_385 : Cond.instanceMethod yX3_brought ∈ lw_all := lw_in2 149 rfl rfl
theorem q_386 : Cond.selects RX3 yX3_brought yX3_brought ∈ lw_all := lw_in2 150 rfl rfl
theorem q_387 : Cond.code yX3_brought cX3_brought 6 (some .long) ∈ lw_all := lw_in2 151 rfl rfl
theorem q_388 : Cond.methodLink RL 101 yX3_label ∈ lw_all := lw_in2 152 rfl rfl
theorem q_389 : Cond.instanceMethod yX3_label ∈ lw_all := lw_in2 153 rfl rfl
theorem q_390 : Cond.selects RX3 yX3_label yX3_label ∈ lw_all := lw_in2 154 rfl rfl
theorem q_391 : Cond.code yX3_label cX3_label 4 (some .int) ∈ lw_all := lw_in2 155 rfl rfl
theorem q_392 : Cond.methodLink RX3 233 yX3_writeLabel ∈ lw_all := lw_in2 156 rfl rfl
theorem q_393 : Cond.instanceMethod yX3_writeLabel ∈ lw_all := lw_in2 158 rfl rfl
theorem q_394 : Cond.code yX3_writeLabel cX3_writeLabel 3 none ∈ lw_all := lw_in2 159 rfl rfl
theorem q_395 : Cond.methodLink RX3 265 yJ4_setLength_d00df ∈ lw_all := lw_in2 160 rfl rfl
theorem q_396 : Cond.instanceMethod yJ4_setLength_d00df ∈ lw_all := lw_in2 161 rfl rfl
theorem q_397 : Cond.selects RJ4 yJ4_setLength_d00df yJ4_setLength_d00df ∈ lw_all := lw_in2 162 rfl rfl
theorem q_398 : Cond.code yJ4_setLength_d00df cJ4_setLength_d00df 2 none ∈ lw_all := lw_in2 163 rfl rfl
theorem q_399 : Cond.methodLink RJ4 333 yJ5_setLength_d00df ∈ lw_all := lw_in2 164 rfl rfl
theorem q_400 : Cond.instanceMethod yJ5_setLength_d00df ∈ lw_all := lw_in2 165 rfl rfl
theorem q_401 : Cond.code yJ5_setLength_d00df cJ5_setLength_d00df 2 none ∈ lw_all := lw_in2 166 rfl rfl
theorem q_402 : Cond.methodLink RJ5 100 yJ5_ensureCapacityInternal_d00df ∈ lw_all := lw_in2 167 rfl rfl
theorem q_403 : Cond.instanceMethod yJ5_ensureCapacityInternal_d00df ∈ lw_all := lw_in2 169 rfl rfl
theorem q_404 : Cond.code yJ5_ensureCapacityInternal_d00df cJ5_ensureCapacityInternal_d00df 3 none ∈ lw_all := lw_in2 170 rfl rfl
theorem q_405 : Cond.methodLink RJ5 104 yJ5_newCapacity_0f7a4 ∈ lw_all := lw_in2 171 rfl rfl
theorem q_406 : Cond.instanceMethod yJ5_newCapacity_0f7a4 ∈ lw_all := lw_in2 173 rfl rfl
theorem q_407 : Cond.code yJ5_newCapacity_0f7a4 cJ5_newCapacity_0f7a4 6 (some .int) ∈ lw_all := lw_in2 174 rfl rfl
theorem q_408 : Cond.methodLink RJ5 114 yJ8_newLength_cabcc ∈ lw_all := lw_in2 175 rfl rfl
theorem q_409 : Cond.static yJ8_newLength_cabcc ∈ lw_all := lw_in2 176 rfl rfl
theorem q_410 : Cond.code yJ8_newLength_cabcc cJ8_newLength_cabcc 4 (some .int) ∈ lw_all := lw_in2 177 rfl rfl
theorem q_411 : Cond.methodLink RJ8 194 Lib.Math.max.name ∈ lw_all := lw_in2 178 rfl rfl
theorem q_412 : Cond.constant RJ8 200 2147483639 ∈ lw_all := lw_in2 179 rfl rfl
theorem q_413 : Cond.methodLink RJ8 201 yJ8_hugeLength_7cf53 ∈ lw_all := lw_in2 180 rfl rfl
theorem q_414 : Cond.static yJ8_hugeLength_7cf53 ∈ lw_all := lw_in2 181 rfl rfl
theorem q_415 : Cond.code yJ8_hugeLength_7cf53 cJ8_hugeLength_7cf53 3 (some .int) ∈ lw_all := lw_in2 182 rfl rfl
theorem q_416 : Cond.constant RJ5 39 2147483647 ∈ lw_all := lw_in2 183 rfl rfl
theorem q_417 : Cond.methodLink RJ5 108 yJ7_copyOf_9075b ∈ lw_all := lw_in2 184 rfl rfl
theorem q_418 : Cond.static yJ7_copyOf_9075b ∈ lw_all := lw_in2 185 rfl rfl
theorem q_419 : Cond.code yJ7_copyOf_9075b cJ7_copyOf_9075b 3 (some (.array .byte)) ∈ lw_all := lw_in2 186 rfl rfl
theorem q_420 : Cond.methodLink RJ7 310 ⟨"[B", "clone", "()Ljava/lang/Object;"⟩ ∈ lw_all := lw_in2 187 rfl rfl
theorem q_421 : Cond.sameMethod "[B" "java/lang/Object" "clone" "()Ljava/lang/Object;" ∈ lw_all := lw_in2 188 rfl rfl
theorem q_422 : Cond.native ⟨"java/lang/Object", "clone", "()Ljava/lang/Object;"⟩ ∈ lw_all := lw_in2 189 rfl rfl
theorem q_423 : Cond.instanceMethod ⟨"java/lang/Object", "clone", "()Ljava/lang/Object;"⟩ ∈ lw_all := lw_in2 190 rfl rfl
theorem q_424 : Cond.selects "[B" ⟨"[B", "clone", "()Ljava/lang/Object;"⟩ ⟨"java/lang/Object", "clone", "()Ljava/lang/Object;"⟩ ∈ lw_all := lw_in2 191 rfl rfl
theorem q_425 : Cond.classLink RJ7 311 "[B" ∈ lw_all := lw_in2 193 rfl rfl
theorem q_426 : Cond.methodLink RJ7 304 Lib.Math.min.name ∈ lw_all := lw_in2 194 rfl rfl
theorem q_427 : Cond.methodLink RJ7 150 ⟨"java/lang/System", "arraycopy", "(Ljava/lang/Object;ILjava/lang/Object;II)V"⟩ ∈ lw_all := lw_in2 195 rfl rfl
theorem q_428 : Cond.static ⟨"java/lang/System", "arraycopy", "(Ljava/lang/Object;ILjava/lang/Object;II)V"⟩ ∈ lw_all := lw_in2 196 rfl rfl
theorem q_429 : Cond.native ⟨"java/lang/System", "arraycopy", "(Ljava/lang/Object;ILjava/lang/Object;II)V"⟩ ∈ lw_all := lw_in2 197 rfl rfl
theorem q_430 : Cond.methodLink RJ5 83 yJ5_isLatin1_aae02 ∈ lw_all := lw_in2 198 rfl rfl
theorem q_431 : Cond.instanceMethod yJ5_isLatin1_aae02 ∈ lw_all := lw_in2 199 rfl rfl
theorem q_432 : Cond.sameMethod RJ5 RJ5 "isLatin1" "()Z" ∈ lw_all := lw_in2 200 rfl rfl
theorem q_433 : Cond.selects RJ4 yJ5_isLatin1_aae02 yJ5_isLatin1_aae02 ∈ lw_all := lw_in2 201 rfl rfl
theorem q_434 : Cond.code yJ5_isLatin1_aae02 cJ5_isLatin1_aae02 1 (some .boolean) ∈ lw_all := lw_in2 202 rfl rfl
theorem q_435 : Cond.methodLink RJ5 133 yJ1_fillNull_b72d1 ∈ lw_all := lw_in2 203 rfl rfl
theorem q_436 : Cond.static yJ1_fillNull_b72d1 ∈ lw_all := lw_in2 204 rfl rfl
theorem q_437 : Cond.code yJ1_fillNull_b72d1 cJ1_fillNull_b72d1 3 none ∈ lw_all := lw_in2 205 rfl rfl
theorem q_438 : Cond.methodLink RJ1 236 yJ7_fill_eb02e ∈ lw_all := lw_in2 206 rfl rfl
theorem q_439 : Cond.static yJ7_fill_eb02e ∈ lw_all := lw_in2 207 rfl rfl
theorem q_440 : Cond.code yJ7_fill_eb02e cJ7_fill_eb02e 5 none ∈ lw_all := lw_in2 208 rfl rfl
theorem q_441 : Cond.methodLink RJ7 13 yJ7_rangeCheck_23922 ∈ lw_all := lw_in2 209 rfl rfl
theorem q_442 : Cond.static yJ7_rangeCheck_23922 ∈ lw_all := lw_in2 210 rfl rfl
theorem q_443 : Cond.code yJ7_rangeCheck_23922 cJ7_rangeCheck_23922 3 none ∈ lw_all := lw_in2 211 rfl rfl
theorem q_444 : Cond.methodLink RJ5 137 yJ2_fillNull_b72d1 ∈ lw_all := lw_in2 212 rfl rfl
theorem q_445 : Cond.static yJ2_fillNull_b72d1 ∈ lw_all := lw_in2 213 rfl rfl
theorem q_446 : Cond.code yJ2_fillNull_b72d1 cJ2_fillNull_b72d1 3 none ∈ lw_all := lw_in2 214 rfl rfl
theorem q_447 : Cond.methodLink RJ2 380 yJ7_fill_eb02e ∈ lw_all := lw_in2 215 rfl rfl
theorem q_448 : Cond.methodLink RX3 269 yJ4_append_cf468 ∈ lw_all := lw_in2 216 rfl rfl
theorem q_449 : Cond.instanceMethod yJ4_append_cf468 ∈ lw_all := lw_in2 217 rfl rfl
theorem q_450 : Cond.selects RJ4 yJ4_append_cf468 yJ4_append_cf468 ∈ lw_all := lw_in2 218 rfl rfl
theorem q_451 : Cond.code yJ4_append_cf468 cJ4_append_cf468 2 (some (.object "java/lang/StringBuilder")) ∈ lw_all := lw_in2 219 rfl rfl
theorem q_452 : Cond.methodLink RJ4 50 yJ5_append_3fe6f ∈ lw_all := lw_in2 220 rfl rfl
theorem q_453 : Cond.instanceMethod yJ5_append_3fe6f ∈ lw_all := lw_in2 221 rfl rfl
theorem q_454 : Cond.code yJ5_append_3fe6f cJ5_append_3fe6f 2 (some (.object "java/lang/AbstractStringBuilder")) ∈ lw_all := lw_in2 222 rfl rfl
theorem q_455 : Cond.methodLink RJ5 191 yJ1_canEncode_fc78d ∈ lw_all := lw_in2 223 rfl rfl
theorem q_456 : Cond.static yJ1_canEncode_fc78d ∈ lw_all := lw_in2 224 rfl rfl
theorem q_457 : Cond.code yJ1_canEncode_fc78d cJ1_canEncode_fc78d 1 (some .boolean) ∈ lw_all := lw_in2 225 rfl rfl
theorem q_458 : Cond.methodLink RJ5 195 yJ5_inflate_da8c8 ∈ lw_all := lw_in2 226 rfl rfl
theorem q_459 : Cond.instanceMethod yJ5_inflate_da8c8 ∈ lw_all := lw_in2 228 rfl rfl
theorem q_460 : Cond.code yJ5_inflate_da8c8 cJ5_inflate_da8c8 2 none ∈ lw_all := lw_in2 229 rfl rfl
theorem q_461 : Cond.methodLink RJ5 125 yJ1_inflate_0e8fd ∈ lw_all := lw_in2 230 rfl rfl
theorem q_462 : Cond.static yJ1_inflate_0e8fd ∈ lw_all := lw_in2 231 rfl rfl
theorem q_463 : Cond.code yJ1_inflate_0e8fd cJ1_inflate_0e8fd 5 none ∈ lw_all := lw_in2 232 rfl rfl
theorem q_464 : Cond.methodLink RJ1 240 yJ2_inflate_0e8fd ∈ lw_all := lw_in2 233 rfl rfl
theorem q_465 : Cond.static yJ2_inflate_0e8fd ∈ lw_all := lw_in2 234 rfl rfl
theorem q_466 : Cond.code yJ2_inflate_0e8fd cJ2_inflate_0e8fd 6 none ∈ lw_all := lw_in2 235 rfl rfl
theorem q_467 : Cond.methodLink RJ2 173 yJ2_checkBoundsOffCount_d044e ∈ lw_all := lw_in2 236 rfl rfl
theorem q_468 : Cond.static yJ2_checkBoundsOffCount_d044e ∈ lw_all := lw_in2 237 rfl rfl
theorem q_469 : Cond.code yJ2_checkBoundsOffCount_d044e cJ2_checkBoundsOffCount_d044e 3 none ∈ lw_all := lw_in2 238 rfl rfl
theorem q_470 : Cond.methodLink RJ2 48 yJ2_length_9d52b ∈ lw_all := lw_in2 239 rfl rfl
theorem q_471 : Cond.static yJ2_length_9d52b ∈ lw_all := lw_in3 0 rfl rfl
theorem q_472 : Cond.code yJ2_length_9d52b cJ2_length_9d52b 1 (some .int) ∈ lw_all := lw_in3 1 rfl rfl
theorem q_473 : Cond.methodLink RJ2 419 yJ0_checkBoundsOffCount_cabcc ∈ lw_all := lw_in3 2 rfl rfl
theorem q_474 : Cond.static yJ0_checkBoundsOffCount_cabcc ∈ lw_all := lw_in3 3 rfl rfl
theorem q_475 : Cond.code yJ0_checkBoundsOffCount_cabcc cJ0_checkBoundsOffCount_cabcc 3 (some .int) ∈ lw_all := lw_in3 4 rfl rfl
theorem q_476 : Cond.fieldLink RJ0 1053 RJ3 "SIOOBE_FORMATTER" "Ljava/util/function/BiFunction;" ∈ lw_all := lw_in3 5 rfl rfl
theorem q_477 : Cond.methodLink RJ0 1065 yJ3_checkFromIndexSize_8c36e ∈ lw_all := lw_in3 7 rfl rfl
theorem q_478 : Cond.static yJ3_checkFromIndexSize_8c36e ∈ lw_all := lw_in3 8 rfl rfl
theorem q_479 : Cond.code yJ3_checkFromIndexSize_8c36e cJ3_checkFromIndexSize_8c36e 4 (some .int) ∈ lw_all := lw_in3 9 rfl rfl
theorem q_480 : Cond.methodLink RJ2 111 yJ2_putChar_b72d1 ∈ lw_all := lw_in3 10 rfl rfl
theorem q_481 : Cond.static yJ2_putChar_b72d1 ∈ lw_all := lw_in3 11 rfl rfl
theorem q_482 : Cond.code yJ2_putChar_b72d1 cJ2_putChar_b72d1 3 none ∈ lw_all := lw_in3 12 rfl rfl
theorem q_483 : Cond.fieldLink RJ2 44 RJ2 "$assertionsDisabled" "Z" ∈ lw_all := lw_in3 13 rfl rfl
theorem q_484 : Cond.fieldLink RJ2 59 RJ2 "HI_BYTE_SHIFT" "I" ∈ lw_all := lw_in3 15 rfl rfl
theorem q_485 : Cond.fieldLink RJ2 63 RJ2 "LO_BYTE_SHIFT" "I" ∈ lw_all := lw_in3 17 rfl rfl
theorem q_486 : Cond.methodLink RJ5 197 yJ2_putCharSB_b72d1 ∈ lw_all := lw_in3 19 rfl rfl
theorem q_487 : Cond.static yJ2_putCharSB_b72d1 ∈ lw_all := lw_in3 20 rfl rfl
theorem q_488 : Cond.code yJ2_putCharSB_b72d1 cJ2_putCharSB_b72d1 3 none ∈ lw_all := lw_in3 21 rfl rfl
theorem q_489 : Cond.methodLink RJ2 67 yJ2_checkIndex_2214a ∈ lw_all := lw_in3 22 rfl rfl
theorem q_490 : Cond.static yJ2_checkIndex_2214a ∈ lw_all := lw_in3 23 rfl rfl
theorem q_491 : Cond.code yJ2_checkIndex_2214a cJ2_checkIndex_2214a 2 none ∈ lw_all := lw_in3 24 rfl rfl
theorem q_492 : Cond.methodLink RJ2 414 yJ0_checkIndex_df160 ∈ lw_all := lw_in3 25 rfl rfl
theorem q_493 : Cond.static yJ0_checkIndex_df160 ∈ lw_all := lw_in3 26 rfl rfl
theorem q_494 : Cond.code yJ0_checkIndex_df160 cJ0_checkIndex_df160 2 none ∈ lw_all := lw_in3 27 rfl rfl
theorem q_495 : Cond.methodLink RJ0 1059 yJ3_checkIndex_8e157 ∈ lw_all := lw_in3 28 rfl rfl
theorem q_496 : Cond.static yJ3_checkIndex_8e157 ∈ lw_all := lw_in3 29 rfl rfl
theorem q_497 : Cond.code yJ3_checkIndex_8e157 cJ3_checkIndex_8e157 3 (some .int) ∈ lw_all := lw_in3 30 rfl rfl
theorem q_498 : Cond.methodLink RX3 273 yJ4_append_bf812 ∈ lw_all := lw_in3 31 rfl rfl
theorem q_499 : Cond.instanceMethod yJ4_append_bf812 ∈ lw_all := lw_in3 32 rfl rfl
theorem q_500 : Cond.selects RJ4 yJ4_append_bf812 yJ4_append_bf812 ∈ lw_all := lw_in3 33 rfl rfl
theorem q_501 : Cond.code yJ4_append_bf812 cJ4_append_bf812 2 (some (.object "java/lang/StringBuilder")) ∈ lw_all := lw_in3 34 rfl rfl
theorem q_502 : Cond.methodLink RJ4 53 yJ5_append_c97b9 ∈ lw_all := lw_in3 35 rfl rfl
theorem q_503 : Cond.instanceMethod yJ5_append_c97b9 ∈ lw_all := lw_in3 36 rfl rfl
theorem q_504 : Cond.code yJ5_append_c97b9 cJ5_append_c97b9 4 (some (.object "java/lang/AbstractStringBuilder")) ∈ lw_all := lw_in3 37 rfl rfl
theorem q_505 : Cond.methodLink RJ5 245 yJ6_stringSize_0f7a4 ∈ lw_all := lw_in3 38 rfl rfl
theorem q_506 : Cond.static yJ6_stringSize_0f7a4 ∈ lw_all := lw_in3 39 rfl rfl
theorem q_507 : Cond.code yJ6_stringSize_0f7a4 cJ6_stringSize_0f7a4 4 (some .int) ∈ lw_all := lw_in3 40 rfl rfl
theorem q_508 : Cond.methodLink RJ5 248 yJ6_getChars_ba4f3 ∈ lw_all := lw_in3 41 rfl rfl
theorem q_509 : Cond.static yJ6_getChars_ba4f3 ∈ lw_all := lw_in3 42 rfl rfl
theorem q_510 : Cond.code yJ6_getChars_ba4f3 cJ6_getChars_ba4f3 7 (some .int) ∈ lw_all := lw_in3 43 rfl rfl
theorem q_511 : Cond.fieldLink RJ6 83 RJ6 "DigitOnes" "[B" ∈ lw_all := lw_in3 44 rfl rfl
theorem q_512 : Cond.fieldLink RJ6 87 RJ6 "DigitTens" "[B" ∈ lw_all := lw_in3 46 rfl rfl
theorem q_513 : Cond.methodLink RJ5 251 yJ2_getChars_46870 ∈ lw_all := lw_in3 48 rfl rfl
theorem q_514 : Cond.static yJ2_getChars_46870 ∈ lw_all := lw_in3 49 rfl rfl
theorem q_515 : Cond.code yJ2_getChars_46870 cJ2_getChars_46870 5 (some .int) ∈ lw_all := lw_in3 50 rfl rfl
theorem q_516 : Cond.methodLink RJ2 96 yJ2_checkBoundsBeginEnd_d044e ∈ lw_all := lw_in3 51 rfl rfl
theorem q_517 : Cond.static yJ2_checkBoundsBeginEnd_d044e ∈ lw_all := lw_in3 52 rfl rfl
theorem q_518 : Cond.code yJ2_checkBoundsBeginEnd_d044e cJ2_checkBoundsBeginEnd_d044e 3 none ∈ lw_all := lw_in3 53 rfl rfl
theorem q_519 : Cond.methodLink RJ2 241 yJ0_checkBoundsBeginEnd_23922 ∈ lw_all := lw_in3 54 rfl rfl
theorem q_520 : Cond.static yJ0_checkBoundsBeginEnd_23922 ∈ lw_all := lw_in3 55 rfl rfl
theorem q_521 : Cond.code yJ0_checkBoundsBeginEnd_23922 cJ0_checkBoundsBeginEnd_23922 3 none ∈ lw_all := lw_in3 56 rfl rfl
theorem q_522 : Cond.methodLink RJ0 1062 yJ3_checkFromToIndex_8c36e ∈ lw_all := lw_in3 57 rfl rfl
theorem q_523 : Cond.static yJ3_checkFromToIndex_8c36e ∈ lw_all := lw_in3 58 rfl rfl
theorem q_524 : Cond.code yJ3_checkFromToIndex_8c36e cJ3_checkFromToIndex_8c36e 4 (some .int) ∈ lw_all := lw_in3 59 rfl rfl
theorem q_525 : Cond.methodLink RJ2 393 yJ2_getChars_ba4f3 ∈ lw_all := lw_in3 60 rfl rfl
theorem q_526 : Cond.static yJ2_getChars_ba4f3 ∈ lw_all := lw_in3 61 rfl rfl
theorem q_527 : Cond.code yJ2_getChars_ba4f3 cJ2_getChars_ba4f3 7 (some .int) ∈ lw_all := lw_in3 62 rfl rfl
theorem q_528 : Cond.fieldLink RJ2 403 RJ6 "DigitOnes" "[B" ∈ lw_all := lw_in3 63 rfl rfl
theorem q_529 : Cond.fieldLink RJ2 407 RJ6 "DigitTens" "[B" ∈ lw_all := lw_in3 64 rfl rfl
theorem q_530 : Cond.methodLink RX3 237 yJ4_length_8abf5 ∈ lw_all := lw_in3 65 rfl rfl
theorem q_531 : Cond.instanceMethod yJ4_length_8abf5 ∈ lw_all := lw_in3 66 rfl rfl
theorem q_532 : Cond.selects RJ4 yJ4_length_8abf5 yJ4_length_8abf5 ∈ lw_all := lw_in3 67 rfl rfl
theorem q_533 : Cond.code yJ4_length_8abf5 cJ4_length_8abf5 1 (some .int) ∈ lw_all := lw_in3 68 rfl rfl
theorem q_534 : Cond.methodLink RJ4 343 yJ5_length_8abf5 ∈ lw_all := lw_in3 69 rfl rfl
theorem q_535 : Cond.instanceMethod yJ5_length_8abf5 ∈ lw_all := lw_in3 70 rfl rfl
theorem q_536 : Cond.code yJ5_length_8abf5 cJ5_length_8abf5 1 (some .int) ∈ lw_all := lw_in3 71 rfl rfl
theorem q_537 : Cond.methodLink RX3 240 yJ4_charAt_5068e ∈ lw_all := lw_in3 72 rfl rfl
theorem q_538 : Cond.instanceMethod yJ4_charAt_5068e ∈ lw_all := lw_in3 73 rfl rfl
theorem q_539 : Cond.selects RJ4 yJ4_charAt_5068e yJ4_charAt_5068e ∈ lw_all := lw_in3 74 rfl rfl
theorem q_540 : Cond.code yJ4_charAt_5068e cJ4_charAt_5068e 2 (some .char) ∈ lw_all := lw_in3 75 rfl rfl
theorem q_541 : Cond.methodLink RJ4 329 yJ5_charAt_5068e ∈ lw_all := lw_in3 76 rfl rfl
theorem q_542 : Cond.instanceMethod yJ5_charAt_5068e ∈ lw_all := lw_in3 77 rfl rfl
theorem q_543 : Cond.code yJ5_charAt_5068e cJ5_charAt_5068e 5 (some .char) ∈ lw_all := lw_in3 78 rfl rfl
theorem q_544 : Cond.methodLink RJ5 138 Lib.Math.min.name ∈ lw_all := lw_in3 79 rfl rfl
theorem q_545 : Cond.methodLink RJ5 144 yJ0_checkIndex_df160 ∈ lw_all := lw_in3 80 rfl rfl
theorem q_546 : Cond.methodLink RJ5 148 yJ2_getChar_3b067 ∈ lw_all := lw_in3 81 rfl rfl
theorem q_547 : Cond.static yJ2_getChar_3b067 ∈ lw_all := lw_in3 82 rfl rfl
theorem q_548 : Cond.code yJ2_getChar_3b067 cJ2_getChar_3b067 2 (some .char) ∈ lw_all := lw_in3 83 rfl rfl
theorem q_549 : Cond.methodLink RL 105 yX3_state ∈ lw_all := lw_in3 84 rfl rfl
theorem q_550 : Cond.instanceMethod yX3_state ∈ lw_all := lw_in3 85 rfl rfl
theorem q_551 : Cond.selects RX3 yX3_state yX3_state ∈ lw_all := lw_in3 86 rfl rfl
theorem q_552 : Cond.code yX3_state cX3_state 3 (some .int) ∈ lw_all := lw_in3 87 rfl rfl
theorem q_553 : Cond.classLink RL 10 RX4 ∈ lw_all := lw_in3 88 rfl rfl
theorem q_554 : Cond.instantiable RX4 28 ∈ lw_all := lw_in3 89 rfl rfl
theorem q_555 : Cond.methodLink RL 12 yX4_init ∈ lw_all := lw_in3 90 rfl rfl
theorem q_556 : Cond.instanceMethod yX4_init ∈ lw_all := lw_in3 91 rfl rfl
theorem q_557 : Cond.code yX4_init cX4_init 1 none ∈ lw_all := lw_in3 92 rfl rfl
theorem q_558 : Cond.methodLink RX4 1 objectInit ∈ lw_all := lw_in3 93 rfl rfl
theorem q_559 : Cond.fieldLink RX4 79 RX4 "feeds" "I" ∈ lw_all := lw_in3 94 rfl rfl
theorem q_560 : Cond.fieldLink RX4 7 RX4 "seconds" "[J" ∈ lw_all := lw_in3 95 rfl rfl
theorem q_561 : Cond.fieldLink RX4 13 RX4 "kinds" "[I" ∈ lw_all := lw_in3 96 rfl rfl
theorem q_562 : Cond.fieldLink RX4 17 RX4 "grams" "[J" ∈ lw_all := lw_in3 97 rfl rfl
theorem q_563 : Cond.fieldLink RX4 20 RX4 "into" "[I" ∈ lw_all := lw_in3 98 rfl rfl
theorem q_564 : Cond.fieldLink RX4 76 RX4 "bales" "I" ∈ lw_all := lw_in3 99 rfl rfl
theorem q_565 : Cond.fieldLink RX4 23 RX4 "states" "[I" ∈ lw_all := lw_in3 100 rfl rfl
theorem q_566 : Cond.fieldLink RX4 26 RX4 "warmths" "[D" ∈ lw_all := lw_in3 101 rfl rfl
theorem q_567 : Cond.fieldLink RX4 30 RX4 "spells" "[I" ∈ lw_all := lw_in3 102 rfl rfl
theorem q_568 : Cond.fieldLink RX4 33 RX4 "streaks" "[I" ∈ lw_all := lw_in3 103 rfl rfl
theorem q_569 : Cond.fieldLink RX4 36 RX4 "stackOf" "[I" ∈ lw_all := lw_in3 104 rfl rfl
theorem q_570 : Cond.fieldLink RX4 39 RX4 "lorryOf" "[I" ∈ lw_all := lw_in3 105 rfl rfl
theorem q_571 : Cond.fieldLink RX4 42 RX4 "firstOf" "[I" ∈ lw_all := lw_in3 106 rfl rfl
theorem q_572 : Cond.fieldLink RX4 45 RX4 "secondOf" "[I" ∈ lw_all := lw_in3 107 rfl rfl
theorem q_573 : Cond.fieldLink RX4 135 RX4 "rows" "I" ∈ lw_all := lw_in3 108 rfl rfl
theorem q_574 : Cond.fieldLink RX4 48 RX4 "degrees" "[D" ∈ lw_all := lw_in3 109 rfl rfl
theorem q_575 : Cond.fieldLink RX4 51 RX4 "heats" "[D" ∈ lw_all := lw_in3 110 rfl rfl
theorem q_576 : Cond.fieldLink RX4 54 RX4 "hold" "I" ∈ lw_all := lw_in3 111 rfl rfl
theorem q_577 : Cond.fieldLink RX4 152 RX4 "stacks" "I" ∈ lw_all := lw_in3 112 rfl rfl
theorem q_578 : Cond.fieldLink RX4 58 RX4 "gaps" "[I" ∈ lw_all := lw_in3 113 rfl rfl
theorem q_579 : Cond.fieldLink RX4 61 RX4 "heights" "[I" ∈ lw_all := lw_in3 114 rfl rfl
theorem q_580 : Cond.fieldLink RX4 164 RX4 "lorries" "I" ∈ lw_all := lw_in3 115 rfl rfl
theorem q_581 : Cond.fieldLink RX4 64 RX4 "mosts" "[J" ∈ lw_all := lw_in3 116 rfl rfl
theorem q_582 : Cond.fieldLink RX4 67 RX4 "moments" "[J" ∈ lw_all := lw_in3 117 rfl rfl
theorem q_583 : Cond.fieldLink RX4 70 RX4 "loads" "[I" ∈ lw_all := lw_in3 118 rfl rfl
theorem q_584 : Cond.fieldLink RX4 73 RX4 "loadCounts" "[I" ∈ lw_all := lw_in3 119 rfl rfl
theorem q_585 : Cond.fieldLink RX4 173 RX4 "left" "I" ∈ lw_all := lw_in3 120 rfl rfl
theorem q_586 : Cond.fieldLink RX4 176 RX4 "looked" "I" ∈ lw_all := lw_in3 121 rfl rfl
theorem q_587 : Cond.lays RX4 RX4 "feeds" "I" ∈ lw_all := lw_in3 122 rfl rfl
theorem q_588 : Cond.soleField RX4 "feeds" ∈ lw_all := lw_in3 123 rfl rfl
theorem q_589 : Cond.laysFinal RX4 RX4 "seconds" "[J" ∈ lw_all := lw_in3 124 rfl rfl
theorem q_590 : Cond.soleField RX4 "seconds" ∈ lw_all := lw_in3 125 rfl rfl
theorem q_591 : Cond.laysFinal RX4 RX4 "kinds" "[I" ∈ lw_all := lw_in3 126 rfl rfl
theorem q_592 : Cond.soleField RX4 "kinds" ∈ lw_all := lw_in3 127 rfl rfl
theorem q_593 : Cond.laysFinal RX4 RX4 "grams" "[J" ∈ lw_all := lw_in3 128 rfl rfl
theorem q_594 : Cond.soleField RX4 "grams" ∈ lw_all := lw_in3 129 rfl rfl
theorem q_595 : Cond.laysFinal RX4 RX4 "into" "[I" ∈ lw_all := lw_in3 130 rfl rfl
theorem q_596 : Cond.soleField RX4 "into" ∈ lw_all := lw_in3 131 rfl rfl
theorem q_597 : Cond.lays RX4 RX4 "bales" "I" ∈ lw_all := lw_in3 132 rfl rfl
theorem q_598 : Cond.soleField RX4 "bales" ∈ lw_all := lw_in3 133 rfl rfl
theorem q_599 : Cond.laysFinal RX4 RX4 "states" "[I" ∈ lw_all := lw_in3 134 rfl rfl
theorem q_600 : Cond.soleField RX4 "states" ∈ lw_all := lw_in3 135 rfl rfl
theorem q_601 : Cond.laysFinal RX4 RX4 "warmths" "[D" ∈ lw_all := lw_in3 136 rfl rfl
theorem q_602 : Cond.soleField RX4 "warmths" ∈ lw_all := lw_in3 137 rfl rfl
theorem q_603 : Cond.laysFinal RX4 RX4 "spells" "[I" ∈ lw_all := lw_in3 138 rfl rfl
theorem q_604 : Cond.soleField RX4 "spells" ∈ lw_all := lw_in3 139 rfl rfl
theorem q_605 : Cond.laysFinal RX4 RX4 "streaks" "[I" ∈ lw_all := lw_in3 140 rfl rfl
theorem q_606 : Cond.soleField RX4 "streaks" ∈ lw_all := lw_in3 141 rfl rfl
theorem q_607 : Cond.laysFinal RX4 RX4 "stackOf" "[I" ∈ lw_all := lw_in3 142 rfl rfl
theorem q_608 : Cond.soleField RX4 "stackOf" ∈ lw_all := lw_in3 143 rfl rfl
theorem q_609 : Cond.laysFinal RX4 RX4 "lorryOf" "[I" ∈ lw_all := lw_in3 144 rfl rfl
theorem q_610 : Cond.soleField RX4 "lorryOf" ∈ lw_all := lw_in3 145 rfl rfl
theorem q_611 : Cond.laysFinal RX4 RX4 "firstOf" "[I" ∈ lw_all := lw_in3 146 rfl rfl
theorem q_612 : Cond.soleField RX4 "firstOf" ∈ lw_all := lw_in3 147 rfl rfl
theorem q_613 : Cond.laysFinal RX4 RX4 "secondOf" "[I" ∈ lw_all := lw_in3 148 rfl rfl
theorem q_614 : Cond.soleField RX4 "secondOf" ∈ lw_all := lw_in3 149 rfl rfl
theorem q_615 : Cond.lays RX4 RX4 "rows" "I" ∈ lw_all := lw_in3 150 rfl rfl
theorem q_616 : Cond.soleField RX4 "rows" ∈ lw_all := lw_in3 151 rfl rfl
theorem q_617 : Cond.laysFinal RX4 RX4 "degrees" "[D" ∈ lw_all := lw_in3 152 rfl rfl
theorem q_618 : Cond.soleField RX4 "degrees" ∈ lw_all := lw_in3 153 rfl rfl
theorem q_619 : Cond.laysFinal RX4 RX4 "heats" "[D" ∈ lw_all := lw_in3 154 rfl rfl
theorem q_620 : Cond.soleField RX4 "heats" ∈ lw_all := lw_in3 155 rfl rfl
theorem q_621 : Cond.lays RX4 RX4 "hold" "I" ∈ lw_all := lw_in3 156 rfl rfl
theorem q_622 : Cond.soleField RX4 "hold" ∈ lw_all := lw_in3 157 rfl rfl
theorem q_623 : Cond.lays RX4 RX4 "stacks" "I" ∈ lw_all := lw_in3 158 rfl rfl
theorem q_624 : Cond.soleField RX4 "stacks" ∈ lw_all := lw_in3 159 rfl rfl
theorem q_625 : Cond.laysFinal RX4 RX4 "gaps" "[I" ∈ lw_all := lw_in3 160 rfl rfl
theorem q_626 : Cond.soleField RX4 "gaps" ∈ lw_all := lw_in3 161 rfl rfl
theorem q_627 : Cond.laysFinal RX4 RX4 "heights" "[I" ∈ lw_all := lw_in3 162 rfl rfl
theorem q_628 : Cond.soleField RX4 "heights" ∈ lw_all := lw_in3 163 rfl rfl
theorem q_629 : Cond.lays RX4 RX4 "lorries" "I" ∈ lw_all := lw_in3 164 rfl rfl
theorem q_630 : Cond.soleField RX4 "lorries" ∈ lw_all := lw_in3 165 rfl rfl
theorem q_631 : Cond.laysFinal RX4 RX4 "mosts" "[J" ∈ lw_all := lw_in3 166 rfl rfl
theorem q_632 : Cond.soleField RX4 "mosts" ∈ lw_all := lw_in3 167 rfl rfl
theorem q_633 : Cond.laysFinal RX4 RX4 "moments" "[J" ∈ lw_all := lw_in3 168 rfl rfl
theorem q_634 : Cond.soleField RX4 "moments" ∈ lw_all := lw_in3 169 rfl rfl
theorem q_635 : Cond.laysFinal RX4 RX4 "loads" "[I" ∈ lw_all := lw_in3 170 rfl rfl
theorem q_636 : Cond.soleField RX4 "loads" ∈ lw_all := lw_in3 171 rfl rfl
theorem q_637 : Cond.laysFinal RX4 RX4 "loadCounts" "[I" ∈ lw_all := lw_in3 172 rfl rfl
theorem q_638 : Cond.soleField RX4 "loadCounts" ∈ lw_all := lw_in3 173 rfl rfl
theorem q_639 : Cond.lays RX4 RX4 "left" "I" ∈ lw_all := lw_in3 174 rfl rfl
theorem q_640 : Cond.soleField RX4 "left" ∈ lw_all := lw_in3 175 rfl rfl
theorem q_641 : Cond.lays RX4 RX4 "looked" "I" ∈ lw_all := lw_in3 176 rfl rfl
theorem q_642 : Cond.soleField RX4 "looked" ∈ lw_all := lw_in3 177 rfl rfl
theorem q_643 : Cond.superclass RX4 "java/lang/Object" ∈ lw_all := lw_in3 178 rfl rfl
theorem q_644 : Cond.methodLink RL 19 yX4_feed ∈ lw_all := lw_in3 179 rfl rfl
theorem q_645 : Cond.instanceMethod yX4_feed ∈ lw_all := lw_in3 180 rfl rfl
theorem q_646 : Cond.selects RX4 yX4_feed yX4_feed ∈ lw_all := lw_in3 181 rfl rfl
theorem q_647 : Cond.code yX4_feed cX4_feed 6 (some .boolean) ∈ lw_all := lw_in3 182 rfl rfl
theorem q_648 : Cond.methodLink RX4 82 yX4_isKind ∈ lw_all := lw_in3 183 rfl rfl
theorem q_649 : Cond.static yX4_isKind ∈ lw_all := lw_in3 184 rfl rfl
theorem q_650 : Cond.code yX4_isKind cX4_isKind 1 (some .boolean) ∈ lw_all := lw_in3 185 rfl rfl
theorem q_651 : Cond.constantLong RX4 86 8000000000 ∈ lw_all := lw_in3 186 rfl rfl
theorem q_652 : Cond.methodLink RX4 88 yX4_isIn ∈ lw_all := lw_in3 187 rfl rfl
theorem q_653 : Cond.static yX4_isIn ∈ lw_all := lw_in3 188 rfl rfl
theorem q_654 : Cond.code yX4_isIn cX4_isIn 6 (some .boolean) ∈ lw_all := lw_in3 189 rfl rfl
theorem q_655 : Cond.constantLong RX4 92 1000000 ∈ lw_all := lw_in3 190 rfl rfl
theorem q_656 : Cond.methodLink RL 24 yX4_bale ∈ lw_all := lw_in3 191 rfl rfl
theorem q_657 : Cond.instanceMethod yX4_bale ∈ lw_all := lw_in3 192 rfl rfl
theorem q_658 : Cond.selects RX4 yX4_bale yX4_bale ∈ lw_all := lw_in3 193 rfl rfl
theorem q_659 : Cond.code yX4_bale cX4_bale 5 (some .int) ∈ lw_all := lw_in3 194 rfl rfl
theorem q_660 : Cond.methodLink RX4 96 yX4_make ∈ lw_all := lw_in3 195 rfl rfl
theorem q_661 : Cond.instanceMethod yX4_make ∈ lw_all := lw_in3 197 rfl rfl
theorem q_662 : Cond.code yX4_make cX4_make 1 (some .int) ∈ lw_all := lw_in3 198 rfl rfl
theorem q_663 : Cond.constantDouble RX4 94 4626322717216342016 ∈ lw_all := lw_in3 199 rfl rfl
theorem q_664 : Cond.methodLink RL 29 yX4_in ∈ lw_all := lw_in3 200 rfl rfl
theorem q_665 : Cond.instanceMethod yX4_in ∈ lw_all := lw_in3 201 rfl rfl
theorem q_666 : Cond.selects RX4 yX4_in yX4_in ∈ lw_all := lw_in3 202 rfl rfl
theorem q_667 : Cond.code yX4_in cX4_in 3 (some .long) ∈ lw_all := lw_in3 203 rfl rfl
theorem q_668 : Cond.methodLink RX4 108 yX4_isBale ∈ lw_all := lw_in3 204 rfl rfl
theorem q_669 : Cond.instanceMethod yX4_isBale ∈ lw_all := lw_in3 206 rfl rfl
theorem q_670 : Cond.code yX4_isBale cX4_isBale 2 (some .boolean) ∈ lw_all := lw_in3 207 rfl rfl
theorem q_671 : Cond.methodLink RX4 104 yX4_gramsOf ∈ lw_all := lw_in3 208 rfl rfl
theorem q_672 : Cond.instanceMethod yX4_gramsOf ∈ lw_all := lw_in3 210 rfl rfl
theorem q_673 : Cond.code yX4_gramsOf cX4_gramsOf 6 (some .long) ∈ lw_all := lw_in3 211 rfl rfl
theorem q_674 : Cond.methodLink RX4 100 yX4_has ∈ lw_all := lw_in3 212 rfl rfl
theorem q_675 : Cond.instanceMethod yX4_has ∈ lw_all := lw_in3 214 rfl rfl
theorem q_676 : Cond.code yX4_has cX4_has 5 (some .boolean) ∈ lw_all := lw_in3 215 rfl rfl
theorem q_677 : Cond.constantLong RX4 111 (-1) ∈ lw_all := lw_in3 216 rfl rfl
theorem q_678 : Cond.methodLink RL 34 yX4_count ∈ lw_all := lw_in3 217 rfl rfl
theorem q_679 : Cond.instanceMethod yX4_count ∈ lw_all := lw_in3 218 rfl rfl
theorem q_680 : Cond.selects RX4 yX4_count yX4_count ∈ lw_all := lw_in3 219 rfl rfl
theorem q_681 : Cond.code yX4_count cX4_count 5 (some .long) ∈ lw_all := lw_in3 220 rfl rfl
theorem q_682 : Cond.methodLink RL 39 yX4_wires ∈ lw_all := lw_in3 221 rfl rfl
theorem q_683 : Cond.instanceMethod yX4_wires ∈ lw_all := lw_in3 222 rfl rfl
theorem q_684 : Cond.selects RX4 yX4_wires yX4_wires ∈ lw_all := lw_in3 223 rfl rfl
theorem q_685 : Cond.code yX4_wires cX4_wires 4 (some .int) ∈ lw_all := lw_in3 224 rfl rfl
theorem q_686 : Cond.methodLink RX4 113 yX4_weight ∈ lw_all := lw_in3 225 rfl rfl
theorem q_687 : Cond.instanceMethod yX4_weight ∈ lw_all := lw_in3 227 rfl rfl
theorem q_688 : Cond.code yX4_weight cX4_weight 5 (some .long) ∈ lw_all := lw_in3 228 rfl rfl
theorem q_689 : Cond.constantLong RX4 117 99999 ∈ lw_all := lw_in3 229 rfl rfl
theorem q_690 : Cond.constantLong RX4 119 100000 ∈ lw_all := lw_in3 230 rfl rfl
theorem q_691 : Cond.constantLong RX4 121 3 ∈ lw_all := lw_in3 231 rfl rfl
theorem q_692 : Cond.methodLink RL 46 yX4_size ∈ lw_all := lw_in3 232 rfl rfl
theorem q_693 : Cond.instanceMethod yX4_size ∈ lw_all := lw_in3 233 rfl rfl
theorem q_694 : Cond.selects RX4 yX4_size yX4_size ∈ lw_all := lw_in3 234 rfl rfl
theorem q_695 : Cond.code yX4_size cX4_size 6 (some .double) ∈ lw_all := lw_in3 235 rfl rfl
theorem q_696 : Cond.constantDouble RX4 123 4634204016564240384 ∈ lw_all := lw_in3 236 rfl rfl
theorem q_697 : Cond.methodLink RX4 125 yX4_isWithin ∈ lw_all := lw_in3 237 rfl rfl
theorem q_698 : Cond.static yX4_isWithin ∈ lw_all := lw_in3 238 rfl rfl
theorem q_699 : Cond.code yX4_isWithin cX4_isWithin 6 (some .boolean) ∈ lw_all := lw_in3 239 rfl rfl
theorem q_700 : Cond.constantDouble RX4 129 13830554455654793216 ∈ lw_all := lw_in4 0 rfl rfl
theorem q_701 : Cond.constantDouble RX4 131 4562254508917369340 ∈ lw_all := lw_in4 1 rfl rfl
theorem q_702 : Cond.constantDouble RX4 133 4593671619917905920 ∈ lw_all := lw_in4 2 rfl rfl
theorem q_703 : Cond.methodLink RL 108 yX4_state ∈ lw_all := lw_in4 3 rfl rfl
theorem q_704 : Cond.instanceMethod yX4_state ∈ lw_all := lw_in4 4 rfl rfl
theorem q_705 : Cond.selects RX4 yX4_state yX4_state ∈ lw_all := lw_in4 5 rfl rfl
theorem q_706 : Cond.code yX4_state cX4_state 2 (some .int) ∈ lw_all := lw_in4 6 rfl rfl
theorem q_707 : Cond.methodLink RL 51 yX4_row ∈ lw_all := lw_in4 7 rfl rfl
theorem q_708 : Cond.instanceMethod yX4_row ∈ lw_all := lw_in4 8 rfl rfl
theorem q_709 : Cond.selects RX4 yX4_row yX4_row ∈ lw_all := lw_in4 9 rfl rfl
theorem q_710 : Cond.code yX4_row cX4_row 5 (some .boolean) ∈ lw_all := lw_in4 10 rfl rfl
theorem q_711 : Cond.constantDouble RX4 138 13855605728582041600 ∈ lw_all := lw_in4 11 rfl rfl
theorem q_712 : Cond.constantDouble RX4 140 4641240890982006784 ∈ lw_all := lw_in4 12 rfl rfl
theorem q_713 : Cond.constantDouble RX4 142 4621819117588971520 ∈ lw_all := lw_in4 13 rfl rfl
theorem q_714 : Cond.methodLink RL 56 yX4_warm ∈ lw_all := lw_in4 14 rfl rfl
theorem q_715 : Cond.instanceMethod yX4_warm ∈ lw_all := lw_in4 15 rfl rfl
theorem q_716 : Cond.selects RX4 yX4_warm yX4_warm ∈ lw_all := lw_in4 16 rfl rfl
theorem q_717 : Cond.code yX4_warm cX4_warm 11 (some .double) ∈ lw_all := lw_in4 17 rfl rfl
theorem q_718 : Cond.constantLong RX4 144 100 ∈ lw_all := lw_in4 18 rfl rfl
theorem q_719 : Cond.constantDouble RX4 146 4633641066610819072 ∈ lw_all := lw_in4 19 rfl rfl
theorem q_720 : Cond.constantDouble RX4 148 13875379345695965184 ∈ lw_all := lw_in4 20 rfl rfl
theorem q_721 : Cond.methodLink RL 61 yX4_hold ∈ lw_all := lw_in4 21 rfl rfl
theorem q_722 : Cond.instanceMethod yX4_hold ∈ lw_all := lw_in4 22 rfl rfl
theorem q_723 : Cond.selects RX4 yX4_hold yX4_hold ∈ lw_all := lw_in4 23 rfl rfl
theorem q_724 : Cond.code yX4_hold cX4_hold 2 (some .boolean) ∈ lw_all := lw_in4 24 rfl rfl
theorem q_725 : Cond.constantLong RX4 150 1000 ∈ lw_all := lw_in4 25 rfl rfl
theorem q_726 : Cond.methodLink RL 65 yX4_alarm ∈ lw_all := lw_in4 26 rfl rfl
theorem q_727 : Cond.instanceMethod yX4_alarm ∈ lw_all := lw_in4 27 rfl rfl
theorem q_728 : Cond.selects RX4 yX4_alarm yX4_alarm ∈ lw_all := lw_in4 28 rfl rfl
theorem q_729 : Cond.code yX4_alarm cX4_alarm 4 (some .int) ∈ lw_all := lw_in4 29 rfl rfl
theorem q_730 : Cond.methodLink RL 70 yX4_stack ∈ lw_all := lw_in4 30 rfl rfl
theorem q_731 : Cond.instanceMethod yX4_stack ∈ lw_all := lw_in4 31 rfl rfl
theorem q_732 : Cond.selects RX4 yX4_stack yX4_stack ∈ lw_all := lw_in4 32 rfl rfl
theorem q_733 : Cond.code yX4_stack cX4_stack 3 (some .int) ∈ lw_all := lw_in4 33 rfl rfl
theorem q_734 : Cond.constantLong RX4 155 6 ∈ lw_all := lw_in4 34 rfl rfl
theorem q_735 : Cond.methodLink RL 74 yX4_put ∈ lw_all := lw_in4 35 rfl rfl
theorem q_736 : Cond.instanceMethod yX4_put ∈ lw_all := lw_in4 36 rfl rfl
theorem q_737 : Cond.selects RX4 yX4_put yX4_put ∈ lw_all := lw_in4 37 rfl rfl
theorem q_738 : Cond.code yX4_put cX4_put 8 (some .int) ∈ lw_all := lw_in4 38 rfl rfl
theorem q_739 : Cond.methodLink RX4 157 yX4_mainOf ∈ lw_all := lw_in4 39 rfl rfl
theorem q_740 : Cond.instanceMethod yX4_mainOf ∈ lw_all := lw_in4 41 rfl rfl
theorem q_741 : Cond.code yX4_mainOf cX4_mainOf 4 (some .int) ∈ lw_all := lw_in4 42 rfl rfl
theorem q_742 : Cond.methodLink RX4 161 yX4_isClose ∈ lw_all := lw_in4 43 rfl rfl
theorem q_743 : Cond.instanceMethod yX4_isClose ∈ lw_all := lw_in4 45 rfl rfl
theorem q_744 : Cond.code yX4_isClose cX4_isClose 5 (some .boolean) ∈ lw_all := lw_in4 46 rfl rfl
theorem q_745 : Cond.methodLink RL 78 yX4_first ∈ lw_all := lw_in4 47 rfl rfl
theorem q_746 : Cond.instanceMethod yX4_first ∈ lw_all := lw_in4 48 rfl rfl
theorem q_747 : Cond.selects RX4 yX4_first yX4_first ∈ lw_all := lw_in4 49 rfl rfl
theorem q_748 : Cond.code yX4_first cX4_first 3 (some .int) ∈ lw_all := lw_in4 50 rfl rfl
theorem q_749 : Cond.methodLink RL 83 yX4_lorry ∈ lw_all := lw_in4 51 rfl rfl
theorem q_750 : Cond.instanceMethod yX4_lorry ∈ lw_all := lw_in4 52 rfl rfl
theorem q_751 : Cond.selects RX4 yX4_lorry yX4_lorry ∈ lw_all := lw_in4 53 rfl rfl
theorem q_752 : Cond.code yX4_lorry cX4_lorry 5 (some .int) ∈ lw_all := lw_in4 54 rfl rfl
theorem q_753 : Cond.constantLong RX4 167 100000000 ∈ lw_all := lw_in4 55 rfl rfl
theorem q_754 : Cond.methodLink RL 87 yX4_load ∈ lw_all := lw_in4 56 rfl rfl
theorem q_755 : Cond.instanceMethod yX4_load ∈ lw_all := lw_in4 57 rfl rfl
theorem q_756 : Cond.selects RX4 yX4_load yX4_load ∈ lw_all := lw_in4 58 rfl rfl
theorem q_757 : Cond.code yX4_load cX4_load 6 (some .int) ∈ lw_all := lw_in4 59 rfl rfl
theorem q_758 : Cond.methodLink RX4 169 yX4_loadOf ∈ lw_all := lw_in4 60 rfl rfl
theorem q_759 : Cond.instanceMethod yX4_loadOf ∈ lw_all := lw_in4 62 rfl rfl
theorem q_760 : Cond.code yX4_loadOf cX4_loadOf 6 (some .long) ∈ lw_all := lw_in4 63 rfl rfl
theorem q_761 : Cond.methodLink RL 91 yX4_moment ∈ lw_all := lw_in4 64 rfl rfl
theorem q_762 : Cond.instanceMethod yX4_moment ∈ lw_all := lw_in4 65 rfl rfl
theorem q_763 : Cond.selects RX4 yX4_moment yX4_moment ∈ lw_all := lw_in4 66 rfl rfl
theorem q_764 : Cond.code yX4_moment cX4_moment 3 (some .long) ∈ lw_all := lw_in4 67 rfl rfl
theorem q_765 : Cond.methodLink RL 95 yX4_rebale ∈ lw_all := lw_in4 68 rfl rfl
theorem q_766 : Cond.instanceMethod yX4_rebale ∈ lw_all := lw_in4 69 rfl rfl
theorem q_767 : Cond.selects RX4 yX4_rebale yX4_rebale ∈ lw_all := lw_in4 70 rfl rfl
theorem q_768 : Cond.code yX4_rebale cX4_rebale 4 (some .int) ∈ lw_all := lw_in4 71 rfl rfl
theorem q_769 : Cond.methodLink RL 100 yX4_brought ∈ lw_all := lw_in4 72 rfl rfl
theorem q_770 : Cond.instanceMethod yX4_brought ∈ lw_all := lw_in4 73 rfl rfl
theorem q_771 : Cond.selects RX4 yX4_brought yX4_brought ∈ lw_all := lw_in4 74 rfl rfl
theorem q_772 : Cond.code yX4_brought cX4_brought 4 (some .long) ∈ lw_all := lw_in4 75 rfl rfl
theorem q_773 : Cond.methodLink RL 104 yX4_label ∈ lw_all := lw_in4 76 rfl rfl
theorem q_774 : Cond.instanceMethod yX4_label ∈ lw_all := lw_in4 77 rfl rfl
theorem q_775 : Cond.selects RX4 yX4_label yX4_label ∈ lw_all := lw_in4 78 rfl rfl
theorem q_776 : Cond.code yX4_label cX4_label 3 (some .int) ∈ lw_all := lw_in4 79 rfl rfl
theorem q_777 : Cond.methodLink RX4 185 yX4_say ∈ lw_all := lw_in4 80 rfl rfl
theorem q_778 : Cond.instanceMethod yX4_say ∈ lw_all := lw_in4 82 rfl rfl
theorem q_779 : Cond.code yX4_say cX4_say 2 none ∈ lw_all := lw_in4 83 rfl rfl
theorem q_780 : Cond.methodLink RX4 189 yX4_sayNumber ∈ lw_all := lw_in4 84 rfl rfl
theorem q_781 : Cond.instanceMethod yX4_sayNumber ∈ lw_all := lw_in4 86 rfl rfl
theorem q_782 : Cond.code yX4_sayNumber cX4_sayNumber 5 none ∈ lw_all := lw_in4 87 rfl rfl
theorem q_783 : Cond.constantLong RX4 179 9 ∈ lw_all := lw_in4 88 rfl rfl
theorem q_784 : Cond.constantLong RX4 181 10 ∈ lw_all := lw_in4 89 rfl rfl
theorem q_785 : Cond.constantLong RX4 183 48 ∈ lw_all := lw_in4 90 rfl rfl
theorem q_786 : Cond.constantLong RL 13 4294967295 ∈ lw_all := lw_in4 91 rfl rfl
theorem q_787 : Cond.constantDouble RL 40 4593671619917905920 ∈ lw_all := lw_in4 92 rfl rfl
theorem q_788 : Cond.sameMethod RJ5 RJ5 "setLength" "(I)V" ∈ lw_all := lw_in4 93 rfl rfl
theorem q_789 : Cond.sameMethod RJ5 RJ5 "ensureCapacityInternal" "(I)V" ∈ lw_all := lw_in4 94 rfl rfl
theorem q_790 : Cond.sameMethod RJ5 RJ5 "newCapacity" "(I)I" ∈ lw_all := lw_in4 95 rfl rfl
theorem q_791 : Cond.sameMethod RJ5 RJ5 "append" "(C)Ljava/lang/AbstractStringBuilder;" ∈ lw_all := lw_in4 96 rfl rfl
theorem q_792 : Cond.sameMethod RJ5 RJ5 "inflate" "()V" ∈ lw_all := lw_in4 97 rfl rfl
theorem q_793 : Cond.sameMethod RJ5 RJ5 "append" "(I)Ljava/lang/AbstractStringBuilder;" ∈ lw_all := lw_in4 98 rfl rfl
theorem q_794 : Cond.sameMethod RJ5 RJ5 "length" "()I" ∈ lw_all := lw_in4 99 rfl rfl
theorem q_795 : Cond.sameMethod RJ5 RJ5 "charAt" "(I)C" ∈ lw_all := lw_in4 100 rfl rfl
end
section
theorem dX0_init_0 : decode cX0_init 0 = .ok (.aload_n 0, 1) := by decide +kernel
theorem dX0_init_1 : decode cX0_init 1 = .ok (.invokespecial 3, 3) := by decide +kernel
theorem dX0_init_4 : decode cX0_init 4 = .ok (.aload_n 0, 1) := by decide +kernel
theorem dX0_init_5 : decode cX0_init 5 = .ok (.iconst 4, 1) := by decide +kernel
theorem dX0_init_6 : decode cX0_init 6 = .ok (.newarray .long, 2) := by decide +kernel
theorem dX0_init_8 : decode cX0_init 8 = .ok (.putfield 9, 3) := by decide +kernel
theorem dX0_init_11 : decode cX0_init 11 = .ok (.aload_n 0, 1) := by decide +kernel
theorem dX0_init_12 : decode cX0_init 12 = .ok (.ldc2_w 15, 3) := by decide +kernel
theorem dX0_init_15 : decode cX0_init 15 = .ok (.putfield 17, 3) := by decide +kernel
theorem dX0_init_18 : decode cX0_init 18 = .ok (.aload_n 0, 1) := by decide +kernel
theorem dX0_init_19 : decode cX0_init 19 = .ok (.iconst 0, 1) := by decide +kernel
theorem dX0_init_20 : decode cX0_init 20 = .ok (.putfield 21, 3) := by decide +kernel
theorem dX0_init_23 : decode cX0_init 23 = .ok (.aload_n 0, 1) := by decide +kernel
theorem dX0_init_24 : decode cX0_init 24 = .ok (.iconst (-1), 1) := by decide +kernel
theorem dX0_init_25 : decode cX0_init 25 = .ok (.putfield 25, 3) := by decide +kernel
theorem dX0_init_28 : decode cX0_init 28 = .ok (.return_, 1) := by decide +kernel
theorem dX0_addGrams_0 : decode cX0_addGrams 0 = .ok (.iload_n 1, 1) := by decide +kernel
theorem dX0_addGrams_1 : decode cX0_addGrams 1 = .ok (.invokestatic 28, 3) := by decide +kernel
theorem dX0_addGrams_4 : decode cX0_addGrams 4 = .ok (.ifCond .eq 13, 3) := by decide +kernel
theorem dX0_addGrams_7 : decode cX0_addGrams 7 = .ok (.aload_n 0, 1) := by decide +kernel
theorem dX0_addGrams_8 : decode cX0_addGrams 8 = .ok (.getfield 9, 3) := by decide +kernel
theorem dX0_addGrams_11 : decode cX0_addGrams 11 = .ok (.iload_n 1, 1) := by decide +kernel
theorem dX0_addGrams_12 : decode cX0_addGrams 12 = .ok (.dup2, 1) := by decide +kernel
theorem dX0_addGrams_13 : decode cX0_addGrams 13 = .ok (.laload, 1) := by decide +kernel
theorem dX0_addGrams_14 : decode cX0_addGrams 14 = .ok (.lload_n 2, 1) := by decide +kernel
theorem dX0_addGrams_15 : decode cX0_addGrams 15 = .ok (.ladd, 1) := by decide +kernel
theorem dX0_addGrams_16 : decode cX0_addGrams 16 = .ok (.lastore, 1) := by decide +kernel
theorem dX0_addGrams_17 : decode cX0_addGrams 17 = .ok (.return_, 1) := by decide +kernel
theorem dX0_makeOf_0 : decode cX0_makeOf 0 = .ok (.aload_n 1, 1) := by decide +kernel
theorem dX0_makeOf_1 : decode cX0_makeOf 1 = .ok (.ifnull 7, 3) := by decide +kernel
theorem dX0_makeOf_4 : decode cX0_makeOf 4 = .ok (.aload_n 2, 1) := by decide +kernel
theorem dX0_makeOf_5 : decode cX0_makeOf 5 = .ok (.ifnonnull 4, 3) := by decide +kernel
theorem dX0_makeOf_8 : decode cX0_makeOf 8 = .ok (.return_, 1) := by decide +kernel
theorem dX0_makeOf_9 : decode cX0_makeOf 9 = .ok (.iconst 0, 1) := by decide +kernel
theorem dX0_makeOf_10 : decode cX0_makeOf 10 = .ok (.istore_n 3, 1) := by decide +kernel
theorem dX0_makeOf_11 : decode cX0_makeOf 11 = .ok (.iload_n 3, 1) := by decide +kernel
theorem dX0_makeOf_12 : decode cX0_makeOf 12 = .ok (.iconst 4, 1) := by decide +kernel
theorem dX0_makeOf_13 : decode cX0_makeOf 13 = .ok (.if_icmp .ge 25, 3) := by decide +kernel
theorem dX0_makeOf_16 : decode cX0_makeOf 16 = .ok (.aload_n 0, 1) := by decide +kernel
theorem dX0_makeOf_17 : decode cX0_makeOf 17 = .ok (.iload_n 3, 1) := by decide +kernel
theorem dX0_makeOf_18 : decode cX0_makeOf 18 = .ok (.aload_n 1, 1) := by decide +kernel
theorem dX0_makeOf_19 : decode cX0_makeOf 19 = .ok (.iload_n 3, 1) := by decide +kernel
theorem dX0_makeOf_20 : decode cX0_makeOf 20 = .ok (.invokevirtual 32, 3) := by decide +kernel
theorem dX0_makeOf_23 : decode cX0_makeOf 23 = .ok (.aload_n 2, 1) := by decide +kernel
theorem dX0_makeOf_24 : decode cX0_makeOf 24 = .ok (.iload_n 3, 1) := by decide +kernel
theorem dX0_makeOf_25 : decode cX0_makeOf 25 = .ok (.invokevirtual 32, 3) := by decide +kernel
theorem dX0_makeOf_28 : decode cX0_makeOf 28 = .ok (.ladd, 1) := by decide +kernel
theorem dX0_makeOf_29 : decode cX0_makeOf 29 = .ok (.invokevirtual 36, 3) := by decide +kernel
theorem dX0_makeOf_32 : decode cX0_makeOf 32 = .ok (.iinc 3 1, 3) := by decide +kernel
theorem dX0_makeOf_35 : decode cX0_makeOf 35 = .ok (.goto (-24), 3) := by decide +kernel
theorem dX0_makeOf_38 : decode cX0_makeOf 38 = .ok (.aload_n 0, 1) := by decide +kernel
theorem dX0_makeOf_39 : decode cX0_makeOf 39 = .ok (.aload_n 1, 1) := by decide +kernel
theorem dX0_makeOf_40 : decode cX0_makeOf 40 = .ok (.getfield 17, 3) := by decide +kernel
theorem dX0_makeOf_43 : decode cX0_makeOf 43 = .ok (.aload_n 2, 1) := by decide +kernel
theorem dX0_makeOf_44 : decode cX0_makeOf 44 = .ok (.getfield 17, 3) := by decide +kernel
theorem dX0_makeOf_47 : decode cX0_makeOf 47 = .ok (.dcmp .l, 1) := by decide +kernel
theorem dX0_makeOf_48 : decode cX0_makeOf 48 = .ok (.ifCond .lt 10, 3) := by decide +kernel
theorem dX0_makeOf_51 : decode cX0_makeOf 51 = .ok (.aload_n 1, 1) := by decide +kernel
theorem dX0_makeOf_52 : decode cX0_makeOf 52 = .ok (.getfield 17, 3) := by decide +kernel
theorem dX0_makeOf_55 : decode cX0_makeOf 55 = .ok (.goto 7, 3) := by decide +kernel
theorem dX0_makeOf_58 : decode cX0_makeOf 58 = .ok (.aload_n 2, 1) := by decide +kernel
theorem dX0_makeOf_59 : decode cX0_makeOf 59 = .ok (.getfield 17, 3) := by decide +kernel
theorem dX0_makeOf_62 : decode cX0_makeOf 62 = .ok (.putfield 17, 3) := by decide +kernel
theorem dX0_makeOf_65 : decode cX0_makeOf 65 = .ok (.aload_n 0, 1) := by decide +kernel
theorem dX0_makeOf_66 : decode cX0_makeOf 66 = .ok (.aload_n 1, 1) := by decide +kernel
theorem dX0_makeOf_67 : decode cX0_makeOf 67 = .ok (.putfield 40, 3) := by decide +kernel
theorem dX0_makeOf_70 : decode cX0_makeOf 70 = .ok (.aload_n 0, 1) := by decide +kernel
theorem dX0_makeOf_71 : decode cX0_makeOf 71 = .ok (.aload_n 2, 1) := by decide +kernel
theorem dX0_makeOf_72 : decode cX0_makeOf 72 = .ok (.putfield 44, 3) := by decide +kernel
theorem dX0_makeOf_75 : decode cX0_makeOf 75 = .ok (.return_, 1) := by decide +kernel
theorem dX0_gramsOf_0 : decode cX0_gramsOf 0 = .ok (.iload_n 1, 1) := by decide +kernel
theorem dX0_gramsOf_1 : decode cX0_gramsOf 1 = .ok (.invokestatic 28, 3) := by decide +kernel
theorem dX0_gramsOf_4 : decode cX0_gramsOf 4 = .ok (.ifCond .eq 12, 3) := by decide +kernel
theorem dX0_gramsOf_7 : decode cX0_gramsOf 7 = .ok (.aload_n 0, 1) := by decide +kernel
theorem dX0_gramsOf_8 : decode cX0_gramsOf 8 = .ok (.getfield 9, 3) := by decide +kernel
theorem dX0_gramsOf_11 : decode cX0_gramsOf 11 = .ok (.iload_n 1, 1) := by decide +kernel
theorem dX0_gramsOf_12 : decode cX0_gramsOf 12 = .ok (.laload, 1) := by decide +kernel
theorem dX0_gramsOf_13 : decode cX0_gramsOf 13 = .ok (.goto 4, 3) := by decide +kernel
theorem dX0_gramsOf_16 : decode cX0_gramsOf 16 = .ok (.lconst 0, 1) := by decide +kernel
theorem dX0_gramsOf_17 : decode cX0_gramsOf 17 = .ok (.lreturn, 1) := by decide +kernel
theorem dX0_totalGrams_0 : decode cX0_totalGrams 0 = .ok (.lconst 0, 1) := by decide +kernel
theorem dX0_totalGrams_1 : decode cX0_totalGrams 1 = .ok (.lstore_n 1, 1) := by decide +kernel
theorem dX0_totalGrams_2 : decode cX0_totalGrams 2 = .ok (.iconst 0, 1) := by decide +kernel
theorem dX0_totalGrams_3 : decode cX0_totalGrams 3 = .ok (.istore_n 3, 1) := by decide +kernel
theorem dX0_totalGrams_4 : decode cX0_totalGrams 4 = .ok (.iload_n 3, 1) := by decide +kernel
theorem dX0_totalGrams_5 : decode cX0_totalGrams 5 = .ok (.iconst 4, 1) := by decide +kernel
theorem dX0_totalGrams_6 : decode cX0_totalGrams 6 = .ok (.if_icmp .ge 18, 3) := by decide +kernel
theorem dX0_totalGrams_9 : decode cX0_totalGrams 9 = .ok (.lload_n 1, 1) := by decide +kernel
theorem dX0_totalGrams_10 : decode cX0_totalGrams 10 = .ok (.aload_n 0, 1) := by decide +kernel
theorem dX0_totalGrams_11 : decode cX0_totalGrams 11 = .ok (.getfield 9, 3) := by decide +kernel
theorem dX0_totalGrams_14 : decode cX0_totalGrams 14 = .ok (.iload_n 3, 1) := by decide +kernel
theorem dX0_totalGrams_15 : decode cX0_totalGrams 15 = .ok (.laload, 1) := by decide +kernel
theorem dX0_totalGrams_16 : decode cX0_totalGrams 16 = .ok (.ladd, 1) := by decide +kernel
theorem dX0_totalGrams_17 : decode cX0_totalGrams 17 = .ok (.lstore_n 1, 1) := by decide +kernel
theorem dX0_totalGrams_18 : decode cX0_totalGrams 18 = .ok (.iinc 3 1, 3) := by decide +kernel
theorem dX0_totalGrams_21 : decode cX0_totalGrams 21 = .ok (.goto (-17), 3) := by decide +kernel
theorem dX0_totalGrams_24 : decode cX0_totalGrams 24 = .ok (.lload_n 1, 1) := by decide +kernel
theorem dX0_totalGrams_25 : decode cX0_totalGrams 25 = .ok (.lreturn, 1) := by decide +kernel
theorem dX0_mainKind_0 : decode cX0_mainKind 0 = .ok (.iconst 0, 1) := by decide +kernel
theorem dX0_mainKind_1 : decode cX0_mainKind 1 = .ok (.istore_n 1, 1) := by decide +kernel
theorem dX0_mainKind_2 : decode cX0_mainKind 2 = .ok (.iconst 1, 1) := by decide +kernel
theorem dX0_mainKind_3 : decode cX0_mainKind 3 = .ok (.istore_n 2, 1) := by decide +kernel
theorem dX0_mainKind_4 : decode cX0_mainKind 4 = .ok (.iload_n 2, 1) := by decide +kernel
theorem dX0_mainKind_5 : decode cX0_mainKind 5 = .ok (.iconst 4, 1) := by decide +kernel
theorem dX0_mainKind_6 : decode cX0_mainKind 6 = .ok (.if_icmp .ge 27, 3) := by decide +kernel
theorem dX0_mainKind_9 : decode cX0_mainKind 9 = .ok (.aload_n 0, 1) := by decide +kernel
theorem dX0_mainKind_10 : decode cX0_mainKind 10 = .ok (.getfield 9, 3) := by decide +kernel
theorem dX0_mainKind_13 : decode cX0_mainKind 13 = .ok (.iload_n 2, 1) := by decide +kernel
theorem dX0_mainKind_14 : decode cX0_mainKind 14 = .ok (.laload, 1) := by decide +kernel
theorem dX0_mainKind_15 : decode cX0_mainKind 15 = .ok (.aload_n 0, 1) := by decide +kernel
theorem dX0_mainKind_16 : decode cX0_mainKind 16 = .ok (.getfield 9, 3) := by decide +kernel
theorem dX0_mainKind_19 : decode cX0_mainKind 19 = .ok (.iload_n 1, 1) := by decide +kernel
theorem dX0_mainKind_20 : decode cX0_mainKind 20 = .ok (.laload, 1) := by decide +kernel
theorem dX0_mainKind_21 : decode cX0_mainKind 21 = .ok (.lcmp, 1) := by decide +kernel
theorem dX0_mainKind_22 : decode cX0_mainKind 22 = .ok (.ifCond .le 5, 3) := by decide +kernel
theorem dX0_mainKind_25 : decode cX0_mainKind 25 = .ok (.iload_n 2, 1) := by decide +kernel
theorem dX0_mainKind_26 : decode cX0_mainKind 26 = .ok (.istore_n 1, 1) := by decide +kernel
theorem dX0_mainKind_27 : decode cX0_mainKind 27 = .ok (.iinc 2 1, 3) := by decide +kernel
theorem dX0_mainKind_30 : decode cX0_mainKind 30 = .ok (.goto (-26), 3) := by decide +kernel
theorem dX0_mainKind_33 : decode cX0_mainKind 33 = .ok (.iload_n 1, 1) := by decide +kernel
theorem dX0_mainKind_34 : decode cX0_mainKind 34 = .ok (.ireturn, 1) := by decide +kernel
theorem dX0_isHot_0 : decode cX0_isHot 0 = .ok (.aload_n 0, 1) := by decide +kernel
theorem dX0_isHot_1 : decode cX0_isHot 1 = .ok (.getfield 17, 3) := by decide +kernel
theorem dX0_isHot_4 : decode cX0_isHot 4 = .ok (.ldc2_w 47, 3) := by decide +kernel
theorem dX0_isHot_7 : decode cX0_isHot 7 = .ok (.dcmp .l, 1) := by decide +kernel
theorem dX0_isHot_8 : decode cX0_isHot 8 = .ok (.ifCond .lt 7, 3) := by decide +kernel
theorem dX0_isHot_11 : decode cX0_isHot 11 = .ok (.iconst 1, 1) := by decide +kernel
theorem dX0_isHot_12 : decode cX0_isHot 12 = .ok (.goto 4, 3) := by decide +kernel
theorem dX0_isHot_15 : decode cX0_isHot 15 = .ok (.iconst 0, 1) := by decide +kernel
theorem dX0_isHot_16 : decode cX0_isHot 16 = .ok (.ireturn, 1) := by decide +kernel
theorem dX0_isGoneOrSold_0 : decode cX0_isGoneOrSold 0 = .ok (.aload_n 0, 1) := by decide +kernel
theorem dX0_isGoneOrSold_1 : decode cX0_isGoneOrSold 1 = .ok (.getfield 21, 3) := by decide +kernel
theorem dX0_isGoneOrSold_4 : decode cX0_isGoneOrSold 4 = .ok (.iconst 3, 1) := by decide +kernel
theorem dX0_isGoneOrSold_5 : decode cX0_isGoneOrSold 5 = .ok (.if_icmp .eq 11, 3) := by decide +kernel
theorem dX0_isGoneOrSold_8 : decode cX0_isGoneOrSold 8 = .ok (.aload_n 0, 1) := by decide +kernel
theorem dX0_isGoneOrSold_9 : decode cX0_isGoneOrSold 9 = .ok (.getfield 21, 3) := by decide +kernel
theorem dX0_isGoneOrSold_12 : decode cX0_isGoneOrSold 12 = .ok (.iconst 2, 1) := by decide +kernel
theorem dX0_isGoneOrSold_13 : decode cX0_isGoneOrSold 13 = .ok (.if_icmp .ne 7, 3) := by decide +kernel
theorem dX0_isGoneOrSold_16 : decode cX0_isGoneOrSold 16 = .ok (.iconst 1, 1) := by decide +kernel
theorem dX0_isGoneOrSold_17 : decode cX0_isGoneOrSold 17 = .ok (.goto 4, 3) := by decide +kernel
theorem dX0_isGoneOrSold_20 : decode cX0_isGoneOrSold 20 = .ok (.iconst 0, 1) := by decide +kernel
theorem dX0_isGoneOrSold_21 : decode cX0_isGoneOrSold 21 = .ok (.ireturn, 1) := by decide +kernel
theorem dX0_standsOn_0 : decode cX0_standsOn 0 = .ok (.aload_n 0, 1) := by decide +kernel
theorem dX0_standsOn_1 : decode cX0_standsOn 1 = .ok (.getfield 21, 3) := by decide +kernel
theorem dX0_standsOn_4 : decode cX0_standsOn 4 = .ok (.iconst 1, 1) := by decide +kernel
theorem dX0_standsOn_5 : decode cX0_standsOn 5 = .ok (.if_icmp .ne 15, 3) := by decide +kernel
theorem dX0_standsOn_8 : decode cX0_standsOn 8 = .ok (.aload_n 0, 1) := by decide +kernel
theorem dX0_standsOn_9 : decode cX0_standsOn 9 = .ok (.getfield 25, 3) := by decide +kernel
theorem dX0_standsOn_12 : decode cX0_standsOn 12 = .ok (.iload_n 1, 1) := by decide +kernel
theorem dX0_standsOn_13 : decode cX0_standsOn 13 = .ok (.if_icmp .ne 7, 3) := by decide +kernel
theorem dX0_standsOn_16 : decode cX0_standsOn 16 = .ok (.iconst 1, 1) := by decide +kernel
theorem dX0_standsOn_17 : decode cX0_standsOn 17 = .ok (.goto 4, 3) := by decide +kernel
theorem dX0_standsOn_20 : decode cX0_standsOn 20 = .ok (.iconst 0, 1) := by decide +kernel
theorem dX0_standsOn_21 : decode cX0_standsOn 21 = .ok (.ireturn, 1) := by decide +kernel
theorem dX0_passHour_0 : decode cX0_passHour 0 = .ok (.aload_n 0, 1) := by decide +kernel
theorem dX0_passHour_1 : decode cX0_passHour 1 = .ok (.aload_n 0, 1) := by decide +kernel
theorem dX0_passHour_2 : decode cX0_passHour 2 = .ok (.getfield 17, 3) := by decide +kernel
theorem dX0_passHour_5 : decode cX0_passHour 5 = .ok (.dload_n 1, 1) := by decide +kernel
theorem dX0_passHour_6 : decode cX0_passHour 6 = .ok (.dadd, 1) := by decide +kernel
theorem dX0_passHour_7 : decode cX0_passHour 7 = .ok (.aload_n 0, 1) := by decide +kernel
theorem dX0_passHour_8 : decode cX0_passHour 8 = .ok (.getfield 17, 3) := by decide +kernel
theorem dX0_passHour_11 : decode cX0_passHour 11 = .ok (.dload_n 3, 1) := by decide +kernel
theorem dX0_passHour_12 : decode cX0_passHour 12 = .ok (.dsub, 1) := by decide +kernel
theorem dX0_passHour_13 : decode cX0_passHour 13 = .ok (.ldc2_w 49, 3) := by decide +kernel
theorem dX0_passHour_16 : decode cX0_passHour 16 = .ok (.dmul, 1) := by decide +kernel
theorem dX0_passHour_17 : decode cX0_passHour 17 = .ok (.dsub, 1) := by decide +kernel
theorem dX0_passHour_18 : decode cX0_passHour 18 = .ok (.putfield 17, 3) := by decide +kernel
theorem dX0_passHour_21 : decode cX0_passHour 21 = .ok (.aload_n 0, 1) := by decide +kernel
theorem dX0_passHour_22 : decode cX0_passHour 22 = .ok (.aload_n 0, 1) := by decide +kernel
theorem dX0_passHour_23 : decode cX0_passHour 23 = .ok (.invokevirtual 51, 3) := by decide +kernel
theorem dX0_passHour_26 : decode cX0_passHour 26 = .ok (.ifCond .eq 12, 3) := by decide +kernel
theorem dX0_passHour_29 : decode cX0_passHour 29 = .ok (.aload_n 0, 1) := by decide +kernel
theorem dX0_passHour_30 : decode cX0_passHour 30 = .ok (.getfield 55, 3) := by decide +kernel
theorem dX0_passHour_33 : decode cX0_passHour 33 = .ok (.iconst 1, 1) := by decide +kernel
theorem dX0_passHour_34 : decode cX0_passHour 34 = .ok (.iadd, 1) := by decide +kernel
theorem dX0_passHour_35 : decode cX0_passHour 35 = .ok (.goto 4, 3) := by decide +kernel
theorem dX0_passHour_38 : decode cX0_passHour 38 = .ok (.iconst 0, 1) := by decide +kernel
theorem dX0_passHour_39 : decode cX0_passHour 39 = .ok (.putfield 55, 3) := by decide +kernel
theorem dX0_passHour_42 : decode cX0_passHour 42 = .ok (.aload_n 0, 1) := by decide +kernel
theorem dX0_passHour_43 : decode cX0_passHour 43 = .ok (.aload_n 0, 1) := by decide +kernel
theorem dX0_passHour_44 : decode cX0_passHour 44 = .ok (.getfield 58, 3) := by decide +kernel
theorem dX0_passHour_47 : decode cX0_passHour 47 = .ok (.aload_n 0, 1) := by decide +kernel
theorem dX0_passHour_48 : decode cX0_passHour 48 = .ok (.getfield 55, 3) := by decide +kernel
theorem dX0_passHour_51 : decode cX0_passHour 51 = .ok (.invokestatic 61, 3) := by decide +kernel
theorem dX0_passHour_54 : decode cX0_passHour 54 = .ok (.putfield 58, 3) := by decide +kernel
theorem dX0_passHour_57 : decode cX0_passHour 57 = .ok (.return_, 1) := by decide +kernel
theorem dX1_init_0 : decode cX1_init 0 = .ok (.aload_n 0, 1) := by decide +kernel
theorem dX1_init_1 : decode cX1_init 1 = .ok (.invokespecial 3, 3) := by decide +kernel
theorem dX1_init_4 : decode cX1_init 4 = .ok (.aload_n 0, 1) := by decide +kernel
theorem dX1_init_5 : decode cX1_init 5 = .ok (.lload_n 1, 1) := by decide +kernel
theorem dX1_init_6 : decode cX1_init 6 = .ok (.putfield 9, 3) := by decide +kernel
theorem dX1_init_9 : decode cX1_init 9 = .ok (.aload_n 0, 1) := by decide +kernel
theorem dX1_init_10 : decode cX1_init 10 = .ok (.lload_n 3, 1) := by decide +kernel
theorem dX1_init_11 : decode cX1_init 11 = .ok (.putfield 15, 3) := by decide +kernel
theorem dX1_init_14 : decode cX1_init 14 = .ok (.return_, 1) := by decide +kernel
theorem dX1_hasRoomFor_0 : decode cX1_hasRoomFor 0 = .ok (.aload_n 0, 1) := by decide +kernel
theorem dX1_hasRoomFor_1 : decode cX1_hasRoomFor 1 = .ok (.getfield 18, 3) := by decide +kernel
theorem dX1_hasRoomFor_4 : decode cX1_hasRoomFor 4 = .ok (.bipush 8, 2) := by decide +kernel
theorem dX1_hasRoomFor_6 : decode cX1_hasRoomFor 6 = .ok (.if_icmp .ge 39, 3) := by decide +kernel
theorem dX1_hasRoomFor_9 : decode cX1_hasRoomFor 9 = .ok (.aload_n 0, 1) := by decide +kernel
theorem dX1_hasRoomFor_10 : decode cX1_hasRoomFor 10 = .ok (.getfield 22, 3) := by decide +kernel
theorem dX1_hasRoomFor_13 : decode cX1_hasRoomFor 13 = .ok (.lload_n 1, 1) := by decide +kernel
theorem dX1_hasRoomFor_14 : decode cX1_hasRoomFor 14 = .ok (.ladd, 1) := by decide +kernel
theorem dX1_hasRoomFor_15 : decode cX1_hasRoomFor 15 = .ok (.aload_n 0, 1) := by decide +kernel
theorem dX1_hasRoomFor_16 : decode cX1_hasRoomFor 16 = .ok (.getfield 9, 3) := by decide +kernel
theorem dX1_hasRoomFor_19 : decode cX1_hasRoomFor 19 = .ok (.lcmp, 1) := by decide +kernel
theorem dX1_hasRoomFor_20 : decode cX1_hasRoomFor 20 = .ok (.ifCond .gt 25, 3) := by decide +kernel
theorem dX1_hasRoomFor_23 : decode cX1_hasRoomFor 23 = .ok (.aload_n 0, 1) := by decide +kernel
theorem dX1_hasRoomFor_24 : decode cX1_hasRoomFor 24 = .ok (.getfield 25, 3) := by decide +kernel
theorem dX1_hasRoomFor_27 : decode cX1_hasRoomFor 27 = .ok (.aload_n 0, 1) := by decide +kernel
theorem dX1_hasRoomFor_28 : decode cX1_hasRoomFor 28 = .ok (.lload_n 1, 1) := by decide +kernel
theorem dX1_hasRoomFor_29 : decode cX1_hasRoomFor 29 = .ok (.invokevirtual 28, 3) := by decide +kernel
theorem dX1_hasRoomFor_32 : decode cX1_hasRoomFor 32 = .ok (.ladd, 1) := by decide +kernel
theorem dX1_hasRoomFor_33 : decode cX1_hasRoomFor 33 = .ok (.aload_n 0, 1) := by decide +kernel
theorem dX1_hasRoomFor_34 : decode cX1_hasRoomFor 34 = .ok (.getfield 15, 3) := by decide +kernel
theorem dX1_hasRoomFor_37 : decode cX1_hasRoomFor 37 = .ok (.lcmp, 1) := by decide +kernel
theorem dX1_hasRoomFor_38 : decode cX1_hasRoomFor 38 = .ok (.ifCond .gt 7, 3) := by decide +kernel
theorem dX1_hasRoomFor_41 : decode cX1_hasRoomFor 41 = .ok (.iconst 1, 1) := by decide +kernel
theorem dX1_hasRoomFor_42 : decode cX1_hasRoomFor 42 = .ok (.goto 4, 3) := by decide +kernel
theorem dX1_hasRoomFor_45 : decode cX1_hasRoomFor 45 = .ok (.iconst 0, 1) := by decide +kernel
theorem dX1_hasRoomFor_46 : decode cX1_hasRoomFor 46 = .ok (.ireturn, 1) := by decide +kernel
theorem dX1_takeOn_0 : decode cX1_takeOn 0 = .ok (.aload_n 0, 1) := by decide +kernel
theorem dX1_takeOn_1 : decode cX1_takeOn 1 = .ok (.getfield 18, 3) := by decide +kernel
theorem dX1_takeOn_4 : decode cX1_takeOn 4 = .ok (.istore_n 3, 1) := by decide +kernel
theorem dX1_takeOn_5 : decode cX1_takeOn 5 = .ok (.aload_n 0, 1) := by decide +kernel
theorem dX1_takeOn_6 : decode cX1_takeOn 6 = .ok (.dup, 1) := by decide +kernel
theorem dX1_takeOn_7 : decode cX1_takeOn 7 = .ok (.getfield 22, 3) := by decide +kernel
theorem dX1_takeOn_10 : decode cX1_takeOn 10 = .ok (.lload_n 1, 1) := by decide +kernel
theorem dX1_takeOn_11 : decode cX1_takeOn 11 = .ok (.ladd, 1) := by decide +kernel
theorem dX1_takeOn_12 : decode cX1_takeOn 12 = .ok (.putfield 22, 3) := by decide +kernel
theorem dX1_takeOn_15 : decode cX1_takeOn 15 = .ok (.aload_n 0, 1) := by decide +kernel
theorem dX1_takeOn_16 : decode cX1_takeOn 16 = .ok (.dup, 1) := by decide +kernel
theorem dX1_takeOn_17 : decode cX1_takeOn 17 = .ok (.getfield 25, 3) := by decide +kernel
theorem dX1_takeOn_20 : decode cX1_takeOn 20 = .ok (.aload_n 0, 1) := by decide +kernel
theorem dX1_takeOn_21 : decode cX1_takeOn 21 = .ok (.lload_n 1, 1) := by decide +kernel
theorem dX1_takeOn_22 : decode cX1_takeOn 22 = .ok (.invokevirtual 28, 3) := by decide +kernel
theorem dX1_takeOn_25 : decode cX1_takeOn 25 = .ok (.ladd, 1) := by decide +kernel
theorem dX1_takeOn_26 : decode cX1_takeOn 26 = .ok (.putfield 25, 3) := by decide +kernel
theorem dX1_takeOn_29 : decode cX1_takeOn 29 = .ok (.aload_n 0, 1) := by decide +kernel
theorem dX1_takeOn_30 : decode cX1_takeOn 30 = .ok (.dup, 1) := by decide +kernel
theorem dX1_takeOn_31 : decode cX1_takeOn 31 = .ok (.getfield 18, 3) := by decide +kernel
theorem dX1_takeOn_34 : decode cX1_takeOn 34 = .ok (.iconst 1, 1) := by decide +kernel
theorem dX1_takeOn_35 : decode cX1_takeOn 35 = .ok (.iadd, 1) := by decide +kernel
theorem dX1_takeOn_36 : decode cX1_takeOn 36 = .ok (.putfield 18, 3) := by decide +kernel
theorem dX1_takeOn_39 : decode cX1_takeOn 39 = .ok (.iload_n 3, 1) := by decide +kernel
theorem dX1_takeOn_40 : decode cX1_takeOn 40 = .ok (.ireturn, 1) := by decide +kernel
theorem dX1_momentOfNext_0 : decode cX1_momentOfNext 0 = .ok (.lload_n 1, 1) := by decide +kernel
theorem dX1_momentOfNext_1 : decode cX1_momentOfNext 1 = .ok (.aload_n 0, 1) := by decide +kernel
theorem dX1_momentOfNext_2 : decode cX1_momentOfNext 2 = .ok (.getfield 18, 3) := by decide +kernel
theorem dX1_momentOfNext_5 : decode cX1_momentOfNext 5 = .ok (.iconst 1, 1) := by decide +kernel
theorem dX1_momentOfNext_6 : decode cX1_momentOfNext 6 = .ok (.iadd, 1) := by decide +kernel
theorem dX1_momentOfNext_7 : decode cX1_momentOfNext 7 = .ok (.i2l, 1) := by decide +kernel
theorem dX1_momentOfNext_8 : decode cX1_momentOfNext 8 = .ok (.lmul, 1) := by decide +kernel
theorem dX1_momentOfNext_9 : decode cX1_momentOfNext 9 = .ok (.lreturn, 1) := by decide +kernel
theorem dX2_init_0 : decode cX2_init 0 = .ok (.aload_n 0, 1) := by decide +kernel
theorem dX2_init_1 : decode cX2_init 1 = .ok (.invokespecial 1, 3) := by decide +kernel
theorem dX2_init_4 : decode cX2_init 4 = .ok (.aload_n 0, 1) := by decide +kernel
theorem dX2_init_5 : decode cX2_init 5 = .ok (.iload_n 1, 1) := by decide +kernel
theorem dX2_init_6 : decode cX2_init 6 = .ok (.putfield 7, 3) := by decide +kernel
theorem dX2_init_9 : decode cX2_init 9 = .ok (.aload_n 0, 1) := by decide +kernel
theorem dX2_init_10 : decode cX2_init 10 = .ok (.iload_n 2, 1) := by decide +kernel
theorem dX2_init_11 : decode cX2_init 11 = .ok (.putfield 13, 3) := by decide +kernel
theorem dX2_init_14 : decode cX2_init 14 = .ok (.return_, 1) := by decide +kernel
theorem dX3_init_0 : decode cX3_init 0 = .ok (.aload_n 0, 1) := by decide +kernel
theorem dX3_init_1 : decode cX3_init 1 = .ok (.invokespecial 1, 3) := by decide +kernel
theorem dX3_init_4 : decode cX3_init 4 = .ok (.aload_n 0, 1) := by decide +kernel
theorem dX3_init_5 : decode cX3_init 5 = .ok (.sipush 200, 3) := by decide +kernel
theorem dX3_init_8 : decode cX3_init 8 = .ok (.newarray .long, 2) := by decide +kernel
theorem dX3_init_10 : decode cX3_init 10 = .ok (.putfield 9, 3) := by decide +kernel
theorem dX3_init_13 : decode cX3_init 13 = .ok (.aload_n 0, 1) := by decide +kernel
theorem dX3_init_14 : decode cX3_init 14 = .ok (.sipush 200, 3) := by decide +kernel
theorem dX3_init_17 : decode cX3_init 17 = .ok (.newarray .int, 2) := by decide +kernel
theorem dX3_init_19 : decode cX3_init 19 = .ok (.putfield 13, 3) := by decide +kernel
theorem dX3_init_22 : decode cX3_init 22 = .ok (.aload_n 0, 1) := by decide +kernel
theorem dX3_init_23 : decode cX3_init 23 = .ok (.sipush 200, 3) := by decide +kernel
theorem dX3_init_26 : decode cX3_init 26 = .ok (.newarray .long, 2) := by decide +kernel
theorem dX3_init_28 : decode cX3_init 28 = .ok (.putfield 17, 3) := by decide +kernel
theorem dX3_init_31 : decode cX3_init 31 = .ok (.aload_n 0, 1) := by decide +kernel
theorem dX3_init_32 : decode cX3_init 32 = .ok (.bipush 12, 2) := by decide +kernel
theorem dX3_init_34 : decode cX3_init 34 = .ok (.anewarray 20, 3) := by decide +kernel
theorem dX3_init_37 : decode cX3_init 37 = .ok (.putfield 22, 3) := by decide +kernel
theorem dX3_init_40 : decode cX3_init 40 = .ok (.aload_n 0, 1) := by decide +kernel
theorem dX3_init_41 : decode cX3_init 41 = .ok (.bipush 6, 2) := by decide +kernel
theorem dX3_init_43 : decode cX3_init 43 = .ok (.newarray .double, 2) := by decide +kernel
theorem dX3_init_45 : decode cX3_init 45 = .ok (.putfield 26, 3) := by decide +kernel
theorem dX3_init_48 : decode cX3_init 48 = .ok (.aload_n 0, 1) := by decide +kernel
theorem dX3_init_49 : decode cX3_init 49 = .ok (.bipush 6, 2) := by decide +kernel
theorem dX3_init_51 : decode cX3_init 51 = .ok (.newarray .double, 2) := by decide +kernel
theorem dX3_init_53 : decode cX3_init 53 = .ok (.putfield 30, 3) := by decide +kernel
theorem dX3_init_56 : decode cX3_init 56 = .ok (.aload_n 0, 1) := by decide +kernel
theorem dX3_init_57 : decode cX3_init 57 = .ok (.iconst 4, 1) := by decide +kernel
theorem dX3_init_58 : decode cX3_init 58 = .ok (.anewarray 33, 3) := by decide +kernel
theorem dX3_init_61 : decode cX3_init 61 = .ok (.putfield 35, 3) := by decide +kernel
theorem dX3_init_64 : decode cX3_init 64 = .ok (.aload_n 0, 1) := by decide +kernel
theorem dX3_init_65 : decode cX3_init 65 = .ok (.iconst 3, 1) := by decide +kernel
theorem dX3_init_66 : decode cX3_init 66 = .ok (.anewarray 39, 3) := by decide +kernel
theorem dX3_init_69 : decode cX3_init 69 = .ok (.putfield 41, 3) := by decide +kernel
theorem dX3_init_72 : decode cX3_init 72 = .ok (.aload_n 0, 1) := by decide +kernel
theorem dX3_init_73 : decode cX3_init 73 = .ok (.new 45, 3) := by decide +kernel
theorem dX3_init_76 : decode cX3_init 76 = .ok (.dup, 1) := by decide +kernel
theorem dX3_init_77 : decode cX3_init 77 = .ok (.invokespecial 47, 3) := by decide +kernel
theorem dX3_init_80 : decode cX3_init 80 = .ok (.putfield 48, 3) := by decide +kernel
theorem dX3_init_83 : decode cX3_init 83 = .ok (.aload_n 0, 1) := by decide +kernel
theorem dX3_init_84 : decode cX3_init 84 = .ok (.iconst 1, 1) := by decide +kernel
theorem dX3_init_85 : decode cX3_init 85 = .ok (.putfield 52, 3) := by decide +kernel
theorem dX3_init_88 : decode cX3_init 88 = .ok (.return_, 1) := by decide +kernel
theorem dX3_feed_0 : decode cX3_feed 0 = .ok (.aload_n 0, 1) := by decide +kernel
theorem dX3_feed_1 : decode cX3_feed 1 = .ok (.getfield 56, 3) := by decide +kernel
theorem dX3_feed_4 : decode cX3_feed 4 = .ok (.sipush 200, 3) := by decide +kernel
theorem dX3_feed_7 : decode cX3_feed 7 = .ok (.if_icmp .ge 10, 3) := by decide +kernel
theorem dX3_feed_10 : decode cX3_feed 10 = .ok (.iload_n 3, 1) := by decide +kernel
theorem dX3_feed_11 : decode cX3_feed 11 = .ok (.invokestatic 59, 3) := by decide +kernel
theorem dX3_feed_14 : decode cX3_feed 14 = .ok (.ifCond .ne 5, 3) := by decide +kernel
theorem dX3_feed_17 : decode cX3_feed 17 = .ok (.iconst 0, 1) := by decide +kernel
theorem dX3_feed_18 : decode cX3_feed 18 = .ok (.ireturn, 1) := by decide +kernel
theorem dX3_feed_19 : decode cX3_feed 19 = .ok (.lload_n 1, 1) := by decide +kernel
theorem dX3_feed_20 : decode cX3_feed 20 = .ok (.lconst 0, 1) := by decide +kernel
theorem dX3_feed_21 : decode cX3_feed 21 = .ok (.ldc2_w 63, 3) := by decide +kernel
theorem dX3_feed_24 : decode cX3_feed 24 = .ok (.invokestatic 65, 3) := by decide +kernel
theorem dX3_feed_27 : decode cX3_feed 27 = .ok (.ifCond .eq 15, 3) := by decide +kernel
theorem dX3_feed_30 : decode cX3_feed 30 = .ok (.lload 4, 2) := by decide +kernel
theorem dX3_feed_32 : decode cX3_feed 32 = .ok (.lconst 1, 1) := by decide +kernel
theorem dX3_feed_33 : decode cX3_feed 33 = .ok (.ldc2_w 69, 3) := by decide +kernel
theorem dX3_feed_36 : decode cX3_feed 36 = .ok (.invokestatic 65, 3) := by decide +kernel
theorem dX3_feed_39 : decode cX3_feed 39 = .ok (.ifCond .ne 5, 3) := by decide +kernel
theorem dX3_feed_42 : decode cX3_feed 42 = .ok (.iconst 0, 1) := by decide +kernel
theorem dX3_feed_43 : decode cX3_feed 43 = .ok (.ireturn, 1) := by decide +kernel
theorem dX3_feed_44 : decode cX3_feed 44 = .ok (.aload_n 0, 1) := by decide +kernel
theorem dX3_feed_45 : decode cX3_feed 45 = .ok (.getfield 56, 3) := by decide +kernel
theorem dX3_feed_48 : decode cX3_feed 48 = .ok (.ifCond .le 21, 3) := by decide +kernel
theorem dX3_feed_51 : decode cX3_feed 51 = .ok (.lload_n 1, 1) := by decide +kernel
theorem dX3_feed_52 : decode cX3_feed 52 = .ok (.aload_n 0, 1) := by decide +kernel
theorem dX3_feed_53 : decode cX3_feed 53 = .ok (.getfield 9, 3) := by decide +kernel
theorem dX3_feed_56 : decode cX3_feed 56 = .ok (.aload_n 0, 1) := by decide +kernel
theorem dX3_feed_57 : decode cX3_feed 57 = .ok (.getfield 56, 3) := by decide +kernel
theorem dX3_feed_60 : decode cX3_feed 60 = .ok (.iconst 1, 1) := by decide +kernel
theorem dX3_feed_61 : decode cX3_feed 61 = .ok (.isub, 1) := by decide +kernel
theorem dX3_feed_62 : decode cX3_feed 62 = .ok (.laload, 1) := by decide +kernel
theorem dX3_feed_63 : decode cX3_feed 63 = .ok (.lcmp, 1) := by decide +kernel
theorem dX3_feed_64 : decode cX3_feed 64 = .ok (.ifCond .ge 5, 3) := by decide +kernel
theorem dX3_feed_67 : decode cX3_feed 67 = .ok (.iconst 0, 1) := by decide +kernel
theorem dX3_feed_68 : decode cX3_feed 68 = .ok (.ireturn, 1) := by decide +kernel
theorem dX3_feed_69 : decode cX3_feed 69 = .ok (.aload_n 0, 1) := by decide +kernel
theorem dX3_feed_70 : decode cX3_feed 70 = .ok (.getfield 9, 3) := by decide +kernel
theorem dX3_feed_73 : decode cX3_feed 73 = .ok (.aload_n 0, 1) := by decide +kernel
theorem dX3_feed_74 : decode cX3_feed 74 = .ok (.getfield 56, 3) := by decide +kernel
theorem dX3_feed_77 : decode cX3_feed 77 = .ok (.lload_n 1, 1) := by decide +kernel
theorem dX3_feed_78 : decode cX3_feed 78 = .ok (.lastore, 1) := by decide +kernel
theorem dX3_feed_79 : decode cX3_feed 79 = .ok (.aload_n 0, 1) := by decide +kernel
theorem dX3_feed_80 : decode cX3_feed 80 = .ok (.getfield 13, 3) := by decide +kernel
theorem dX3_feed_83 : decode cX3_feed 83 = .ok (.aload_n 0, 1) := by decide +kernel
theorem dX3_feed_84 : decode cX3_feed 84 = .ok (.getfield 56, 3) := by decide +kernel
theorem dX3_feed_87 : decode cX3_feed 87 = .ok (.iload_n 3, 1) := by decide +kernel
theorem dX3_feed_88 : decode cX3_feed 88 = .ok (.iastore, 1) := by decide +kernel
theorem dX3_feed_89 : decode cX3_feed 89 = .ok (.aload_n 0, 1) := by decide +kernel
theorem dX3_feed_90 : decode cX3_feed 90 = .ok (.getfield 17, 3) := by decide +kernel
theorem dX3_feed_93 : decode cX3_feed 93 = .ok (.aload_n 0, 1) := by decide +kernel
theorem dX3_feed_94 : decode cX3_feed 94 = .ok (.getfield 56, 3) := by decide +kernel
theorem dX3_feed_97 : decode cX3_feed 97 = .ok (.lload 4, 2) := by decide +kernel
theorem dX3_feed_99 : decode cX3_feed 99 = .ok (.lastore, 1) := by decide +kernel
theorem dX3_feed_100 : decode cX3_feed 100 = .ok (.aload_n 0, 1) := by decide +kernel
theorem dX3_feed_101 : decode cX3_feed 101 = .ok (.dup, 1) := by decide +kernel
theorem dX3_feed_102 : decode cX3_feed 102 = .ok (.getfield 56, 3) := by decide +kernel
theorem dX3_feed_105 : decode cX3_feed 105 = .ok (.iconst 1, 1) := by decide +kernel
theorem dX3_feed_106 : decode cX3_feed 106 = .ok (.iadd, 1) := by decide +kernel
theorem dX3_feed_107 : decode cX3_feed 107 = .ok (.putfield 56, 3) := by decide +kernel
theorem dX3_feed_110 : decode cX3_feed 110 = .ok (.iconst 1, 1) := by decide +kernel
theorem dX3_feed_111 : decode cX3_feed 111 = .ok (.ireturn, 1) := by decide +kernel
theorem dX3_bale_0 : decode cX3_bale 0 = .ok (.aload_n 0, 1) := by decide +kernel
theorem dX3_bale_1 : decode cX3_bale 1 = .ok (.getfield 71, 3) := by decide +kernel
theorem dX3_bale_4 : decode cX3_bale 4 = .ok (.istore_n 3, 1) := by decide +kernel
theorem dX3_bale_5 : decode cX3_bale 5 = .ok (.iload_n 3, 1) := by decide +kernel
theorem dX3_bale_6 : decode cX3_bale 6 = .ok (.aload_n 0, 1) := by decide +kernel
theorem dX3_bale_7 : decode cX3_bale 7 = .ok (.getfield 56, 3) := by decide +kernel
theorem dX3_bale_10 : decode cX3_bale 10 = .ok (.if_icmp .ge 20, 3) := by decide +kernel
theorem dX3_bale_13 : decode cX3_bale 13 = .ok (.aload_n 0, 1) := by decide +kernel
theorem dX3_bale_14 : decode cX3_bale 14 = .ok (.getfield 9, 3) := by decide +kernel
theorem dX3_bale_17 : decode cX3_bale 17 = .ok (.iload_n 3, 1) := by decide +kernel
theorem dX3_bale_18 : decode cX3_bale 18 = .ok (.laload, 1) := by decide +kernel
theorem dX3_bale_19 : decode cX3_bale 19 = .ok (.lload_n 1, 1) := by decide +kernel
theorem dX3_bale_20 : decode cX3_bale 20 = .ok (.lcmp, 1) := by decide +kernel
theorem dX3_bale_21 : decode cX3_bale 21 = .ok (.ifCond .gt 9, 3) := by decide +kernel
theorem dX3_bale_24 : decode cX3_bale 24 = .ok (.iinc 3 1, 3) := by decide +kernel
theorem dX3_bale_27 : decode cX3_bale 27 = .ok (.goto (-22), 3) := by decide +kernel
theorem dX3_bale_30 : decode cX3_bale 30 = .ok (.aload_n 0, 1) := by decide +kernel
theorem dX3_bale_31 : decode cX3_bale 31 = .ok (.getfield 74, 3) := by decide +kernel
theorem dX3_bale_34 : decode cX3_bale 34 = .ok (.bipush 12, 2) := by decide +kernel
theorem dX3_bale_36 : decode cX3_bale 36 = .ok (.if_icmp .ge 11, 3) := by decide +kernel
theorem dX3_bale_39 : decode cX3_bale 39 = .ok (.iload_n 3, 1) := by decide +kernel
theorem dX3_bale_40 : decode cX3_bale 40 = .ok (.aload_n 0, 1) := by decide +kernel
theorem dX3_bale_41 : decode cX3_bale 41 = .ok (.getfield 71, 3) := by decide +kernel
theorem dX3_bale_44 : decode cX3_bale 44 = .ok (.if_icmp .ne 5, 3) := by decide +kernel
theorem dX3_bale_47 : decode cX3_bale 47 = .ok (.iconst (-1), 1) := by decide +kernel
theorem dX3_bale_48 : decode cX3_bale 48 = .ok (.ireturn, 1) := by decide +kernel
theorem dX3_bale_49 : decode cX3_bale 49 = .ok (.new 20, 3) := by decide +kernel
theorem dX3_bale_52 : decode cX3_bale 52 = .ok (.dup, 1) := by decide +kernel
theorem dX3_bale_53 : decode cX3_bale 53 = .ok (.invokespecial 77, 3) := by decide +kernel
theorem dX3_bale_56 : decode cX3_bale 56 = .ok (.astore 4, 2) := by decide +kernel
theorem dX3_bale_58 : decode cX3_bale 58 = .ok (.aload_n 0, 1) := by decide +kernel
theorem dX3_bale_59 : decode cX3_bale 59 = .ok (.getfield 71, 3) := by decide +kernel
theorem dX3_bale_62 : decode cX3_bale 62 = .ok (.istore 5, 2) := by decide +kernel
theorem dX3_bale_64 : decode cX3_bale 64 = .ok (.iload 5, 2) := by decide +kernel
theorem dX3_bale_66 : decode cX3_bale 66 = .ok (.iload_n 3, 1) := by decide +kernel
theorem dX3_bale_67 : decode cX3_bale 67 = .ok (.if_icmp .ge 28, 3) := by decide +kernel
theorem dX3_bale_70 : decode cX3_bale 70 = .ok (.aload 4, 2) := by decide +kernel
theorem dX3_bale_72 : decode cX3_bale 72 = .ok (.aload_n 0, 1) := by decide +kernel
theorem dX3_bale_73 : decode cX3_bale 73 = .ok (.getfield 13, 3) := by decide +kernel
theorem dX3_bale_76 : decode cX3_bale 76 = .ok (.iload 5, 2) := by decide +kernel
theorem dX3_bale_78 : decode cX3_bale 78 = .ok (.iaload, 1) := by decide +kernel
theorem dX3_bale_79 : decode cX3_bale 79 = .ok (.aload_n 0, 1) := by decide +kernel
theorem dX3_bale_80 : decode cX3_bale 80 = .ok (.getfield 17, 3) := by decide +kernel
theorem dX3_bale_83 : decode cX3_bale 83 = .ok (.iload 5, 2) := by decide +kernel
theorem dX3_bale_85 : decode cX3_bale 85 = .ok (.laload, 1) := by decide +kernel
theorem dX3_bale_86 : decode cX3_bale 86 = .ok (.invokevirtual 78, 3) := by decide +kernel
theorem dX3_bale_89 : decode cX3_bale 89 = .ok (.iinc 5 1, 3) := by decide +kernel
theorem dX3_bale_92 : decode cX3_bale 92 = .ok (.goto (-28), 3) := by decide +kernel
theorem dX3_bale_95 : decode cX3_bale 95 = .ok (.aload_n 0, 1) := by decide +kernel
theorem dX3_bale_96 : decode cX3_bale 96 = .ok (.iload_n 3, 1) := by decide +kernel
theorem dX3_bale_97 : decode cX3_bale 97 = .ok (.putfield 71, 3) := by decide +kernel
theorem dX3_bale_100 : decode cX3_bale 100 = .ok (.aload_n 0, 1) := by decide +kernel
theorem dX3_bale_101 : decode cX3_bale 101 = .ok (.aload 4, 2) := by decide +kernel
theorem dX3_bale_103 : decode cX3_bale 103 = .ok (.invokevirtual 82, 3) := by decide +kernel
theorem dX3_bale_106 : decode cX3_bale 106 = .ok (.ireturn, 1) := by decide +kernel
theorem dX3_in_0 : decode cX3_in 0 = .ok (.aload_n 0, 1) := by decide +kernel
theorem dX3_in_1 : decode cX3_in 1 = .ok (.iload_n 1, 1) := by decide +kernel
theorem dX3_in_2 : decode cX3_in 2 = .ok (.invokevirtual 86, 3) := by decide +kernel
theorem dX3_in_5 : decode cX3_in 5 = .ok (.astore_n 3, 1) := by decide +kernel
theorem dX3_in_6 : decode cX3_in 6 = .ok (.aload_n 3, 1) := by decide +kernel
theorem dX3_in_7 : decode cX3_in 7 = .ok (.ifnull 10, 3) := by decide +kernel
theorem dX3_in_10 : decode cX3_in 10 = .ok (.iload_n 2, 1) := by decide +kernel
theorem dX3_in_11 : decode cX3_in 11 = .ok (.invokestatic 59, 3) := by decide +kernel
theorem dX3_in_14 : decode cX3_in 14 = .ok (.ifCond .ne 7, 3) := by decide +kernel
theorem dX3_in_17 : decode cX3_in 17 = .ok (.ldc2_w 90, 3) := by decide +kernel
theorem dX3_in_20 : decode cX3_in 20 = .ok (.lreturn, 1) := by decide +kernel
theorem dX3_in_21 : decode cX3_in 21 = .ok (.aload_n 3, 1) := by decide +kernel
theorem dX3_in_22 : decode cX3_in 22 = .ok (.iload_n 2, 1) := by decide +kernel
theorem dX3_in_23 : decode cX3_in 23 = .ok (.invokevirtual 92, 3) := by decide +kernel
theorem dX3_in_26 : decode cX3_in 26 = .ok (.lreturn, 1) := by decide +kernel
theorem dX3_count_0 : decode cX3_count 0 = .ok (.iload_n 1, 1) := by decide +kernel
theorem dX3_count_1 : decode cX3_count 1 = .ok (.invokestatic 59, 3) := by decide +kernel
theorem dX3_count_4 : decode cX3_count 4 = .ok (.ifCond .ne 7, 3) := by decide +kernel
theorem dX3_count_7 : decode cX3_count 7 = .ok (.ldc2_w 90, 3) := by decide +kernel
theorem dX3_count_10 : decode cX3_count 10 = .ok (.lreturn, 1) := by decide +kernel
theorem dX3_count_11 : decode cX3_count 11 = .ok (.lconst 0, 1) := by decide +kernel
theorem dX3_count_12 : decode cX3_count 12 = .ok (.lstore_n 2, 1) := by decide +kernel
theorem dX3_count_13 : decode cX3_count 13 = .ok (.aload_n 0, 1) := by decide +kernel
theorem dX3_count_14 : decode cX3_count 14 = .ok (.getfield 71, 3) := by decide +kernel
theorem dX3_count_17 : decode cX3_count 17 = .ok (.istore 4, 2) := by decide +kernel
theorem dX3_count_19 : decode cX3_count 19 = .ok (.iload 4, 2) := by decide +kernel
theorem dX3_count_21 : decode cX3_count 21 = .ok (.aload_n 0, 1) := by decide +kernel
theorem dX3_count_22 : decode cX3_count 22 = .ok (.getfield 56, 3) := by decide +kernel
theorem dX3_count_25 : decode cX3_count 25 = .ok (.if_icmp .ge 30, 3) := by decide +kernel
theorem dX3_count_28 : decode cX3_count 28 = .ok (.aload_n 0, 1) := by decide +kernel
theorem dX3_count_29 : decode cX3_count 29 = .ok (.getfield 13, 3) := by decide +kernel
theorem dX3_count_32 : decode cX3_count 32 = .ok (.iload 4, 2) := by decide +kernel
theorem dX3_count_34 : decode cX3_count 34 = .ok (.iaload, 1) := by decide +kernel
theorem dX3_count_35 : decode cX3_count 35 = .ok (.iload_n 1, 1) := by decide +kernel
theorem dX3_count_36 : decode cX3_count 36 = .ok (.if_icmp .ne 13, 3) := by decide +kernel
theorem dX3_count_39 : decode cX3_count 39 = .ok (.lload_n 2, 1) := by decide +kernel
theorem dX3_count_40 : decode cX3_count 40 = .ok (.aload_n 0, 1) := by decide +kernel
theorem dX3_count_41 : decode cX3_count 41 = .ok (.getfield 17, 3) := by decide +kernel
theorem dX3_count_44 : decode cX3_count 44 = .ok (.iload 4, 2) := by decide +kernel
theorem dX3_count_46 : decode cX3_count 46 = .ok (.laload, 1) := by decide +kernel
theorem dX3_count_47 : decode cX3_count 47 = .ok (.ladd, 1) := by decide +kernel
theorem dX3_count_48 : decode cX3_count 48 = .ok (.lstore_n 2, 1) := by decide +kernel
theorem dX3_count_49 : decode cX3_count 49 = .ok (.iinc 4 1, 3) := by decide +kernel
theorem dX3_count_52 : decode cX3_count 52 = .ok (.goto (-33), 3) := by decide +kernel
theorem dX3_count_55 : decode cX3_count 55 = .ok (.lload_n 2, 1) := by decide +kernel
theorem dX3_count_56 : decode cX3_count 56 = .ok (.lreturn, 1) := by decide +kernel
theorem dX3_wires_0 : decode cX3_wires 0 = .ok (.aload_n 0, 1) := by decide +kernel
theorem dX3_wires_1 : decode cX3_wires 1 = .ok (.iload_n 1, 1) := by decide +kernel
theorem dX3_wires_2 : decode cX3_wires 2 = .ok (.invokevirtual 86, 3) := by decide +kernel
theorem dX3_wires_5 : decode cX3_wires 5 = .ok (.astore_n 2, 1) := by decide +kernel
theorem dX3_wires_6 : decode cX3_wires 6 = .ok (.aload_n 2, 1) := by decide +kernel
theorem dX3_wires_7 : decode cX3_wires 7 = .ok (.ifnonnull 5, 3) := by decide +kernel
theorem dX3_wires_10 : decode cX3_wires 10 = .ok (.iconst (-1), 1) := by decide +kernel
theorem dX3_wires_11 : decode cX3_wires 11 = .ok (.ireturn, 1) := by decide +kernel
theorem dX3_wires_12 : decode cX3_wires 12 = .ok (.aload_n 2, 1) := by decide +kernel
theorem dX3_wires_13 : decode cX3_wires 13 = .ok (.invokevirtual 96, 3) := by decide +kernel
theorem dX3_wires_16 : decode cX3_wires 16 = .ok (.ldc2_w 100, 3) := by decide +kernel
theorem dX3_wires_19 : decode cX3_wires 19 = .ok (.ladd, 1) := by decide +kernel
theorem dX3_wires_20 : decode cX3_wires 20 = .ok (.lconst 1, 1) := by decide +kernel
theorem dX3_wires_21 : decode cX3_wires 21 = .ok (.lsub, 1) := by decide +kernel
theorem dX3_wires_22 : decode cX3_wires 22 = .ok (.ldc2_w 100, 3) := by decide +kernel
theorem dX3_wires_25 : decode cX3_wires 25 = .ok (.ldiv, 1) := by decide +kernel
theorem dX3_wires_26 : decode cX3_wires 26 = .ok (.lstore_n 3, 1) := by decide +kernel
theorem dX3_wires_27 : decode cX3_wires 27 = .ok (.lload_n 3, 1) := by decide +kernel
theorem dX3_wires_28 : decode cX3_wires 28 = .ok (.ldc2_w 102, 3) := by decide +kernel
theorem dX3_wires_31 : decode cX3_wires 31 = .ok (.lcmp, 1) := by decide +kernel
theorem dX3_wires_32 : decode cX3_wires 32 = .ok (.ifCond .ge 7, 3) := by decide +kernel
theorem dX3_wires_35 : decode cX3_wires 35 = .ok (.iconst 3, 1) := by decide +kernel
theorem dX3_wires_36 : decode cX3_wires 36 = .ok (.goto 5, 3) := by decide +kernel
theorem dX3_wires_39 : decode cX3_wires 39 = .ok (.lload_n 3, 1) := by decide +kernel
theorem dX3_wires_40 : decode cX3_wires 40 = .ok (.l2i, 1) := by decide +kernel
theorem dX3_wires_41 : decode cX3_wires 41 = .ok (.ireturn, 1) := by decide +kernel
theorem dX3_size_0 : decode cX3_size 0 = .ok (.aload_n 0, 1) := by decide +kernel
theorem dX3_size_1 : decode cX3_size 1 = .ok (.iload_n 1, 1) := by decide +kernel
theorem dX3_size_2 : decode cX3_size 2 = .ok (.invokevirtual 86, 3) := by decide +kernel
theorem dX3_size_5 : decode cX3_size 5 = .ok (.astore 4, 2) := by decide +kernel
theorem dX3_size_7 : decode cX3_size 7 = .ok (.aload 4, 2) := by decide +kernel
theorem dX3_size_9 : decode cX3_size 9 = .ok (.ifnull 14, 3) := by decide +kernel
theorem dX3_size_12 : decode cX3_size 12 = .ok (.dload_n 2, 1) := by decide +kernel
theorem dX3_size_13 : decode cX3_size 13 = .ok (.dconst 1, 1) := by decide +kernel
theorem dX3_size_14 : decode cX3_size 14 = .ok (.ldc2_w 104, 3) := by decide +kernel
theorem dX3_size_17 : decode cX3_size 17 = .ok (.invokestatic 106, 3) := by decide +kernel
theorem dX3_size_20 : decode cX3_size 20 = .ok (.ifCond .ne 7, 3) := by decide +kernel
theorem dX3_size_23 : decode cX3_size 23 = .ok (.ldc2_w 110, 3) := by decide +kernel
theorem dX3_size_26 : decode cX3_size 26 = .ok (.dreturn, 1) := by decide +kernel
theorem dX3_size_27 : decode cX3_size 27 = .ok (.aload 4, 2) := by decide +kernel
theorem dX3_size_29 : decode cX3_size 29 = .ok (.invokevirtual 96, 3) := by decide +kernel
theorem dX3_size_32 : decode cX3_size 32 = .ok (.l2d, 1) := by decide +kernel
theorem dX3_size_33 : decode cX3_size 33 = .ok (.ldc2_w 112, 3) := by decide +kernel
theorem dX3_size_36 : decode cX3_size 36 = .ok (.dmul, 1) := by decide +kernel
theorem dX3_size_37 : decode cX3_size 37 = .ok (.dload_n 2, 1) := by decide +kernel
theorem dX3_size_38 : decode cX3_size 38 = .ok (.ddiv, 1) := by decide +kernel
theorem dX3_size_39 : decode cX3_size 39 = .ok (.dstore 5, 2) := by decide +kernel
theorem dX3_size_41 : decode cX3_size 41 = .ok (.dload 5, 2) := by decide +kernel
theorem dX3_size_43 : decode cX3_size 43 = .ok (.dload 5, 2) := by decide +kernel
theorem dX3_size_45 : decode cX3_size 45 = .ok (.ldc2_w 114, 3) := by decide +kernel
theorem dX3_size_48 : decode cX3_size 48 = .ok (.dmul, 1) := by decide +kernel
theorem dX3_size_49 : decode cX3_size 49 = .ok (.dadd, 1) := by decide +kernel
theorem dX3_size_50 : decode cX3_size 50 = .ok (.dreturn, 1) := by decide +kernel
theorem dX3_row_0 : decode cX3_row 0 = .ok (.aload_n 0, 1) := by decide +kernel
theorem dX3_row_1 : decode cX3_row 1 = .ok (.getfield 116, 3) := by decide +kernel
theorem dX3_row_4 : decode cX3_row 4 = .ok (.bipush 6, 2) := by decide +kernel
theorem dX3_row_6 : decode cX3_row 6 = .ok (.if_icmp .lt 5, 3) := by decide +kernel
theorem dX3_row_9 : decode cX3_row 9 = .ok (.iconst 0, 1) := by decide +kernel
theorem dX3_row_10 : decode cX3_row 10 = .ok (.ireturn, 1) := by decide +kernel
theorem dX3_row_11 : decode cX3_row 11 = .ok (.dload_n 1, 1) := by decide +kernel
theorem dX3_row_12 : decode cX3_row 12 = .ok (.ldc2_w 119, 3) := by decide +kernel
theorem dX3_row_15 : decode cX3_row 15 = .ok (.ldc2_w 121, 3) := by decide +kernel
theorem dX3_row_18 : decode cX3_row 18 = .ok (.invokestatic 106, 3) := by decide +kernel
theorem dX3_row_21 : decode cX3_row 21 = .ok (.ifCond .eq 14, 3) := by decide +kernel
theorem dX3_row_24 : decode cX3_row 24 = .ok (.dload_n 3, 1) := by decide +kernel
theorem dX3_row_25 : decode cX3_row 25 = .ok (.dconst 0, 1) := by decide +kernel
theorem dX3_row_26 : decode cX3_row 26 = .ok (.ldc2_w 123, 3) := by decide +kernel
theorem dX3_row_29 : decode cX3_row 29 = .ok (.invokestatic 106, 3) := by decide +kernel
theorem dX3_row_32 : decode cX3_row 32 = .ok (.ifCond .ne 5, 3) := by decide +kernel
theorem dX3_row_35 : decode cX3_row 35 = .ok (.iconst 0, 1) := by decide +kernel
theorem dX3_row_36 : decode cX3_row 36 = .ok (.ireturn, 1) := by decide +kernel
theorem dX3_row_37 : decode cX3_row 37 = .ok (.aload_n 0, 1) := by decide +kernel
theorem dX3_row_38 : decode cX3_row 38 = .ok (.getfield 116, 3) := by decide +kernel
theorem dX3_row_41 : decode cX3_row 41 = .ok (.ifCond .le 21, 3) := by decide +kernel
theorem dX3_row_44 : decode cX3_row 44 = .ok (.dload_n 1, 1) := by decide +kernel
theorem dX3_row_45 : decode cX3_row 45 = .ok (.aload_n 0, 1) := by decide +kernel
theorem dX3_row_46 : decode cX3_row 46 = .ok (.getfield 26, 3) := by decide +kernel
theorem dX3_row_49 : decode cX3_row 49 = .ok (.aload_n 0, 1) := by decide +kernel
theorem dX3_row_50 : decode cX3_row 50 = .ok (.getfield 116, 3) := by decide +kernel
theorem dX3_row_53 : decode cX3_row 53 = .ok (.iconst 1, 1) := by decide +kernel
theorem dX3_row_54 : decode cX3_row 54 = .ok (.isub, 1) := by decide +kernel
theorem dX3_row_55 : decode cX3_row 55 = .ok (.daload, 1) := by decide +kernel
theorem dX3_row_56 : decode cX3_row 56 = .ok (.dcmp .g, 1) := by decide +kernel
theorem dX3_row_57 : decode cX3_row 57 = .ok (.ifCond .gt 5, 3) := by decide +kernel
theorem dX3_row_60 : decode cX3_row 60 = .ok (.iconst 0, 1) := by decide +kernel
theorem dX3_row_61 : decode cX3_row 61 = .ok (.ireturn, 1) := by decide +kernel
theorem dX3_row_62 : decode cX3_row 62 = .ok (.aload_n 0, 1) := by decide +kernel
theorem dX3_row_63 : decode cX3_row 63 = .ok (.getfield 26, 3) := by decide +kernel
theorem dX3_row_66 : decode cX3_row 66 = .ok (.aload_n 0, 1) := by decide +kernel
theorem dX3_row_67 : decode cX3_row 67 = .ok (.getfield 116, 3) := by decide +kernel
theorem dX3_row_70 : decode cX3_row 70 = .ok (.dload_n 1, 1) := by decide +kernel
theorem dX3_row_71 : decode cX3_row 71 = .ok (.dastore, 1) := by decide +kernel
theorem dX3_row_72 : decode cX3_row 72 = .ok (.aload_n 0, 1) := by decide +kernel
theorem dX3_row_73 : decode cX3_row 73 = .ok (.getfield 30, 3) := by decide +kernel
theorem dX3_row_76 : decode cX3_row 76 = .ok (.aload_n 0, 1) := by decide +kernel
theorem dX3_row_77 : decode cX3_row 77 = .ok (.getfield 116, 3) := by decide +kernel
theorem dX3_row_80 : decode cX3_row 80 = .ok (.dload_n 3, 1) := by decide +kernel
theorem dX3_row_81 : decode cX3_row 81 = .ok (.dastore, 1) := by decide +kernel
theorem dX3_row_82 : decode cX3_row 82 = .ok (.aload_n 0, 1) := by decide +kernel
theorem dX3_row_83 : decode cX3_row 83 = .ok (.dup, 1) := by decide +kernel
theorem dX3_row_84 : decode cX3_row 84 = .ok (.getfield 116, 3) := by decide +kernel
theorem dX3_row_87 : decode cX3_row 87 = .ok (.iconst 1, 1) := by decide +kernel
theorem dX3_row_88 : decode cX3_row 88 = .ok (.iadd, 1) := by decide +kernel
theorem dX3_row_89 : decode cX3_row 89 = .ok (.putfield 116, 3) := by decide +kernel
theorem dX3_row_92 : decode cX3_row 92 = .ok (.iconst 1, 1) := by decide +kernel
theorem dX3_row_93 : decode cX3_row 93 = .ok (.ireturn, 1) := by decide +kernel
theorem dX3_warm_0 : decode cX3_warm 0 = .ok (.aload_n 0, 1) := by decide +kernel
theorem dX3_warm_1 : decode cX3_warm 1 = .ok (.iload_n 1, 1) := by decide +kernel
theorem dX3_warm_2 : decode cX3_warm 2 = .ok (.invokevirtual 86, 3) := by decide +kernel
theorem dX3_warm_5 : decode cX3_warm 5 = .ok (.astore 5, 2) := by decide +kernel
theorem dX3_warm_7 : decode cX3_warm 7 = .ok (.aload 5, 2) := by decide +kernel
theorem dX3_warm_9 : decode cX3_warm 9 = .ok (.ifnull 11, 3) := by decide +kernel
theorem dX3_warm_12 : decode cX3_warm 12 = .ok (.aload 5, 2) := by decide +kernel
theorem dX3_warm_14 : decode cX3_warm 14 = .ok (.invokevirtual 125, 3) := by decide +kernel
theorem dX3_warm_17 : decode cX3_warm 17 = .ok (.ifCond .eq 7, 3) := by decide +kernel
theorem dX3_warm_20 : decode cX3_warm 20 = .ok (.ldc2_w 129, 3) := by decide +kernel
theorem dX3_warm_23 : decode cX3_warm 23 = .ok (.dreturn, 1) := by decide +kernel
theorem dX3_warm_24 : decode cX3_warm 24 = .ok (.iload_n 2, 1) := by decide +kernel
theorem dX3_warm_25 : decode cX3_warm 25 = .ok (.i2l, 1) := by decide +kernel
theorem dX3_warm_26 : decode cX3_warm 26 = .ok (.lconst 0, 1) := by decide +kernel
theorem dX3_warm_27 : decode cX3_warm 27 = .ok (.ldc2_w 131, 3) := by decide +kernel
theorem dX3_warm_30 : decode cX3_warm 30 = .ok (.invokestatic 65, 3) := by decide +kernel
theorem dX3_warm_33 : decode cX3_warm 33 = .ok (.ifCond .eq 16, 3) := by decide +kernel
theorem dX3_warm_36 : decode cX3_warm 36 = .ok (.dload_n 3, 1) := by decide +kernel
theorem dX3_warm_37 : decode cX3_warm 37 = .ok (.ldc2_w 119, 3) := by decide +kernel
theorem dX3_warm_40 : decode cX3_warm 40 = .ok (.ldc2_w 133, 3) := by decide +kernel
theorem dX3_warm_43 : decode cX3_warm 43 = .ok (.invokestatic 106, 3) := by decide +kernel
theorem dX3_warm_46 : decode cX3_warm 46 = .ok (.ifCond .ne 7, 3) := by decide +kernel
theorem dX3_warm_49 : decode cX3_warm 49 = .ok (.ldc2_w 129, 3) := by decide +kernel
theorem dX3_warm_52 : decode cX3_warm 52 = .ok (.dreturn, 1) := by decide +kernel
theorem dX3_warm_53 : decode cX3_warm 53 = .ok (.iconst 0, 1) := by decide +kernel
theorem dX3_warm_54 : decode cX3_warm 54 = .ok (.istore 6, 2) := by decide +kernel
theorem dX3_warm_56 : decode cX3_warm 56 = .ok (.iload 6, 2) := by decide +kernel
theorem dX3_warm_58 : decode cX3_warm 58 = .ok (.iload_n 2, 1) := by decide +kernel
theorem dX3_warm_59 : decode cX3_warm 59 = .ok (.if_icmp .ge 24, 3) := by decide +kernel
theorem dX3_warm_62 : decode cX3_warm 62 = .ok (.aload 5, 2) := by decide +kernel
theorem dX3_warm_64 : decode cX3_warm 64 = .ok (.aload_n 0, 1) := by decide +kernel
theorem dX3_warm_65 : decode cX3_warm 65 = .ok (.aload 5, 2) := by decide +kernel
theorem dX3_warm_67 : decode cX3_warm 67 = .ok (.getfield 135, 3) := by decide +kernel
theorem dX3_warm_70 : decode cX3_warm 70 = .ok (.invokevirtual 139, 3) := by decide +kernel
theorem dX3_warm_73 : decode cX3_warm 73 = .ok (.dload_n 3, 1) := by decide +kernel
theorem dX3_warm_74 : decode cX3_warm 74 = .ok (.invokevirtual 143, 3) := by decide +kernel
theorem dX3_warm_77 : decode cX3_warm 77 = .ok (.iinc 6 1, 3) := by decide +kernel
theorem dX3_warm_80 : decode cX3_warm 80 = .ok (.goto (-24), 3) := by decide +kernel
theorem dX3_warm_83 : decode cX3_warm 83 = .ok (.aload 5, 2) := by decide +kernel
theorem dX3_warm_85 : decode cX3_warm 85 = .ok (.getfield 135, 3) := by decide +kernel
theorem dX3_warm_88 : decode cX3_warm 88 = .ok (.dreturn, 1) := by decide +kernel
theorem dX3_hold_0 : decode cX3_hold 0 = .ok (.iload_n 1, 1) := by decide +kernel
theorem dX3_hold_1 : decode cX3_hold 1 = .ok (.i2l, 1) := by decide +kernel
theorem dX3_hold_2 : decode cX3_hold 2 = .ok (.lconst 1, 1) := by decide +kernel
theorem dX3_hold_3 : decode cX3_hold 3 = .ok (.ldc2_w 147, 3) := by decide +kernel
theorem dX3_hold_6 : decode cX3_hold 6 = .ok (.invokestatic 65, 3) := by decide +kernel
theorem dX3_hold_9 : decode cX3_hold 9 = .ok (.ifCond .ne 5, 3) := by decide +kernel
theorem dX3_hold_12 : decode cX3_hold 12 = .ok (.iconst 0, 1) := by decide +kernel
theorem dX3_hold_13 : decode cX3_hold 13 = .ok (.ireturn, 1) := by decide +kernel
theorem dX3_hold_14 : decode cX3_hold 14 = .ok (.aload_n 0, 1) := by decide +kernel
theorem dX3_hold_15 : decode cX3_hold 15 = .ok (.iload_n 1, 1) := by decide +kernel
theorem dX3_hold_16 : decode cX3_hold 16 = .ok (.putfield 52, 3) := by decide +kernel
theorem dX3_hold_19 : decode cX3_hold 19 = .ok (.iconst 1, 1) := by decide +kernel
theorem dX3_hold_20 : decode cX3_hold 20 = .ok (.ireturn, 1) := by decide +kernel
theorem dX3_alarm_0 : decode cX3_alarm 0 = .ok (.iconst 0, 1) := by decide +kernel
theorem dX3_alarm_1 : decode cX3_alarm 1 = .ok (.istore_n 2, 1) := by decide +kernel
theorem dX3_alarm_2 : decode cX3_alarm 2 = .ok (.iconst 0, 1) := by decide +kernel
theorem dX3_alarm_3 : decode cX3_alarm 3 = .ok (.istore_n 3, 1) := by decide +kernel
theorem dX3_alarm_4 : decode cX3_alarm 4 = .ok (.iload_n 3, 1) := by decide +kernel
theorem dX3_alarm_5 : decode cX3_alarm 5 = .ok (.aload_n 0, 1) := by decide +kernel
theorem dX3_alarm_6 : decode cX3_alarm 6 = .ok (.getfield 74, 3) := by decide +kernel
theorem dX3_alarm_9 : decode cX3_alarm 9 = .ok (.if_icmp .ge 27, 3) := by decide +kernel
theorem dX3_alarm_12 : decode cX3_alarm 12 = .ok (.aload_n 0, 1) := by decide +kernel
theorem dX3_alarm_13 : decode cX3_alarm 13 = .ok (.iload_n 3, 1) := by decide +kernel
theorem dX3_alarm_14 : decode cX3_alarm 14 = .ok (.invokevirtual 149, 3) := by decide +kernel
theorem dX3_alarm_17 : decode cX3_alarm 17 = .ok (.ifCond .eq 13, 3) := by decide +kernel
theorem dX3_alarm_20 : decode cX3_alarm 20 = .ok (.iload_n 2, 1) := by decide +kernel
theorem dX3_alarm_21 : decode cX3_alarm 21 = .ok (.iload_n 1, 1) := by decide +kernel
theorem dX3_alarm_22 : decode cX3_alarm 22 = .ok (.if_icmp .ne 5, 3) := by decide +kernel
theorem dX3_alarm_25 : decode cX3_alarm 25 = .ok (.iload_n 3, 1) := by decide +kernel
theorem dX3_alarm_26 : decode cX3_alarm 26 = .ok (.ireturn, 1) := by decide +kernel
theorem dX3_alarm_27 : decode cX3_alarm 27 = .ok (.iinc 2 1, 3) := by decide +kernel
theorem dX3_alarm_30 : decode cX3_alarm 30 = .ok (.iinc 3 1, 3) := by decide +kernel
theorem dX3_alarm_33 : decode cX3_alarm 33 = .ok (.goto (-29), 3) := by decide +kernel
theorem dX3_alarm_36 : decode cX3_alarm 36 = .ok (.iconst (-1), 1) := by decide +kernel
theorem dX3_alarm_37 : decode cX3_alarm 37 = .ok (.ireturn, 1) := by decide +kernel
theorem dX3_stack_0 : decode cX3_stack 0 = .ok (.aload_n 0, 1) := by decide +kernel
theorem dX3_stack_1 : decode cX3_stack 1 = .ok (.getfield 152, 3) := by decide +kernel
theorem dX3_stack_4 : decode cX3_stack 4 = .ok (.iconst 4, 1) := by decide +kernel
theorem dX3_stack_5 : decode cX3_stack 5 = .ok (.if_icmp .ge 27, 3) := by decide +kernel
theorem dX3_stack_8 : decode cX3_stack 8 = .ok (.iload_n 1, 1) := by decide +kernel
theorem dX3_stack_9 : decode cX3_stack 9 = .ok (.i2l, 1) := by decide +kernel
theorem dX3_stack_10 : decode cX3_stack 10 = .ok (.lconst 0, 1) := by decide +kernel
theorem dX3_stack_11 : decode cX3_stack 11 = .ok (.ldc2_w 102, 3) := by decide +kernel
theorem dX3_stack_14 : decode cX3_stack 14 = .ok (.invokestatic 65, 3) := by decide +kernel
theorem dX3_stack_17 : decode cX3_stack 17 = .ok (.ifCond .eq 15, 3) := by decide +kernel
theorem dX3_stack_20 : decode cX3_stack 20 = .ok (.iload_n 2, 1) := by decide +kernel
theorem dX3_stack_21 : decode cX3_stack 21 = .ok (.i2l, 1) := by decide +kernel
theorem dX3_stack_22 : decode cX3_stack 22 = .ok (.lconst 1, 1) := by decide +kernel
theorem dX3_stack_23 : decode cX3_stack 23 = .ok (.ldc2_w 155, 3) := by decide +kernel
theorem dX3_stack_26 : decode cX3_stack 26 = .ok (.invokestatic 65, 3) := by decide +kernel
theorem dX3_stack_29 : decode cX3_stack 29 = .ok (.ifCond .ne 5, 3) := by decide +kernel
theorem dX3_stack_32 : decode cX3_stack 32 = .ok (.iconst (-1), 1) := by decide +kernel
theorem dX3_stack_33 : decode cX3_stack 33 = .ok (.ireturn, 1) := by decide +kernel
theorem dX3_stack_34 : decode cX3_stack 34 = .ok (.aload_n 0, 1) := by decide +kernel
theorem dX3_stack_35 : decode cX3_stack 35 = .ok (.getfield 35, 3) := by decide +kernel
theorem dX3_stack_38 : decode cX3_stack 38 = .ok (.aload_n 0, 1) := by decide +kernel
theorem dX3_stack_39 : decode cX3_stack 39 = .ok (.getfield 152, 3) := by decide +kernel
theorem dX3_stack_42 : decode cX3_stack 42 = .ok (.new 33, 3) := by decide +kernel
theorem dX3_stack_45 : decode cX3_stack 45 = .ok (.dup, 1) := by decide +kernel
theorem dX3_stack_46 : decode cX3_stack 46 = .ok (.iload_n 1, 1) := by decide +kernel
theorem dX3_stack_47 : decode cX3_stack 47 = .ok (.iload_n 2, 1) := by decide +kernel
theorem dX3_stack_48 : decode cX3_stack 48 = .ok (.invokespecial 157, 3) := by decide +kernel
theorem dX3_stack_51 : decode cX3_stack 51 = .ok (.aastore, 1) := by decide +kernel
theorem dX3_stack_52 : decode cX3_stack 52 = .ok (.aload_n 0, 1) := by decide +kernel
theorem dX3_stack_53 : decode cX3_stack 53 = .ok (.dup, 1) := by decide +kernel
theorem dX3_stack_54 : decode cX3_stack 54 = .ok (.getfield 152, 3) := by decide +kernel
theorem dX3_stack_57 : decode cX3_stack 57 = .ok (.iconst 1, 1) := by decide +kernel
theorem dX3_stack_58 : decode cX3_stack 58 = .ok (.iadd, 1) := by decide +kernel
theorem dX3_stack_59 : decode cX3_stack 59 = .ok (.putfield 152, 3) := by decide +kernel
theorem dX3_stack_62 : decode cX3_stack 62 = .ok (.aload_n 0, 1) := by decide +kernel
theorem dX3_stack_63 : decode cX3_stack 63 = .ok (.getfield 152, 3) := by decide +kernel
theorem dX3_stack_66 : decode cX3_stack 66 = .ok (.iconst 1, 1) := by decide +kernel
theorem dX3_stack_67 : decode cX3_stack 67 = .ok (.isub, 1) := by decide +kernel
theorem dX3_stack_68 : decode cX3_stack 68 = .ok (.ireturn, 1) := by decide +kernel
theorem dX3_put_0 : decode cX3_put 0 = .ok (.aload_n 0, 1) := by decide +kernel
theorem dX3_put_1 : decode cX3_put 1 = .ok (.iload_n 1, 1) := by decide +kernel
theorem dX3_put_2 : decode cX3_put 2 = .ok (.invokevirtual 86, 3) := by decide +kernel
theorem dX3_put_5 : decode cX3_put 5 = .ok (.astore_n 3, 1) := by decide +kernel
theorem dX3_put_6 : decode cX3_put 6 = .ok (.aload_n 0, 1) := by decide +kernel
theorem dX3_put_7 : decode cX3_put 7 = .ok (.iload_n 2, 1) := by decide +kernel
theorem dX3_put_8 : decode cX3_put 8 = .ok (.invokevirtual 160, 3) := by decide +kernel
theorem dX3_put_11 : decode cX3_put 11 = .ok (.astore 4, 2) := by decide +kernel
theorem dX3_put_13 : decode cX3_put 13 = .ok (.aload_n 3, 1) := by decide +kernel
theorem dX3_put_14 : decode cX3_put 14 = .ok (.ifnull 8, 3) := by decide +kernel
theorem dX3_put_17 : decode cX3_put 17 = .ok (.aload 4, 2) := by decide +kernel
theorem dX3_put_19 : decode cX3_put 19 = .ok (.ifnonnull 5, 3) := by decide +kernel
theorem dX3_put_22 : decode cX3_put 22 = .ok (.iconst 1, 1) := by decide +kernel
theorem dX3_put_23 : decode cX3_put 23 = .ok (.ireturn, 1) := by decide +kernel
theorem dX3_put_24 : decode cX3_put 24 = .ok (.aload_n 3, 1) := by decide +kernel
theorem dX3_put_25 : decode cX3_put 25 = .ok (.getfield 164, 3) := by decide +kernel
theorem dX3_put_28 : decode cX3_put 28 = .ok (.ifCond .eq 5, 3) := by decide +kernel
theorem dX3_put_31 : decode cX3_put 31 = .ok (.iconst 2, 1) := by decide +kernel
theorem dX3_put_32 : decode cX3_put 32 = .ok (.ireturn, 1) := by decide +kernel
theorem dX3_put_33 : decode cX3_put 33 = .ok (.aload_n 0, 1) := by decide +kernel
theorem dX3_put_34 : decode cX3_put 34 = .ok (.iload_n 2, 1) := by decide +kernel
theorem dX3_put_35 : decode cX3_put 35 = .ok (.invokevirtual 167, 3) := by decide +kernel
theorem dX3_put_38 : decode cX3_put 38 = .ok (.aload 4, 2) := by decide +kernel
theorem dX3_put_40 : decode cX3_put 40 = .ok (.getfield 171, 3) := by decide +kernel
theorem dX3_put_43 : decode cX3_put 43 = .ok (.if_icmp .lt 5, 3) := by decide +kernel
theorem dX3_put_46 : decode cX3_put 46 = .ok (.iconst 3, 1) := by decide +kernel
theorem dX3_put_47 : decode cX3_put 47 = .ok (.ireturn, 1) := by decide +kernel
theorem dX3_put_48 : decode cX3_put 48 = .ok (.aload_n 3, 1) := by decide +kernel
theorem dX3_put_49 : decode cX3_put 49 = .ok (.invokevirtual 174, 3) := by decide +kernel
theorem dX3_put_52 : decode cX3_put 52 = .ok (.ifCond .eq 5, 3) := by decide +kernel
theorem dX3_put_55 : decode cX3_put 55 = .ok (.iconst 4, 1) := by decide +kernel
theorem dX3_put_56 : decode cX3_put 56 = .ok (.ireturn, 1) := by decide +kernel
theorem dX3_put_57 : decode cX3_put 57 = .ok (.aload_n 0, 1) := by decide +kernel
theorem dX3_put_58 : decode cX3_put 58 = .ok (.iload_n 2, 1) := by decide +kernel
theorem dX3_put_59 : decode cX3_put 59 = .ok (.aload_n 3, 1) := by decide +kernel
theorem dX3_put_60 : decode cX3_put 60 = .ok (.invokevirtual 177, 3) := by decide +kernel
theorem dX3_put_63 : decode cX3_put 63 = .ok (.invokevirtual 181, 3) := by decide +kernel
theorem dX3_put_66 : decode cX3_put 66 = .ok (.ifCond .eq 5, 3) := by decide +kernel
theorem dX3_put_69 : decode cX3_put 69 = .ok (.iconst 5, 1) := by decide +kernel
theorem dX3_put_70 : decode cX3_put 70 = .ok (.ireturn, 1) := by decide +kernel
theorem dX3_put_71 : decode cX3_put 71 = .ok (.aload_n 0, 1) := by decide +kernel
theorem dX3_put_72 : decode cX3_put 72 = .ok (.iload_n 2, 1) := by decide +kernel
theorem dX3_put_73 : decode cX3_put 73 = .ok (.invokevirtual 185, 3) := by decide +kernel
theorem dX3_put_76 : decode cX3_put 76 = .ok (.aload_n 3, 1) := by decide +kernel
theorem dX3_put_77 : decode cX3_put 77 = .ok (.invokevirtual 96, 3) := by decide +kernel
theorem dX3_put_80 : decode cX3_put 80 = .ok (.ladd, 1) := by decide +kernel
theorem dX3_put_81 : decode cX3_put 81 = .ok (.ldc2_w 69, 3) := by decide +kernel
theorem dX3_put_84 : decode cX3_put 84 = .ok (.lcmp, 1) := by decide +kernel
theorem dX3_put_85 : decode cX3_put 85 = .ok (.ifCond .le 6, 3) := by decide +kernel
theorem dX3_put_88 : decode cX3_put 88 = .ok (.bipush 6, 2) := by decide +kernel
theorem dX3_put_90 : decode cX3_put 90 = .ok (.ireturn, 1) := by decide +kernel
theorem dX3_put_91 : decode cX3_put 91 = .ok (.aload_n 3, 1) := by decide +kernel
theorem dX3_put_92 : decode cX3_put 92 = .ok (.iconst 1, 1) := by decide +kernel
theorem dX3_put_93 : decode cX3_put 93 = .ok (.putfield 164, 3) := by decide +kernel
theorem dX3_put_96 : decode cX3_put 96 = .ok (.aload_n 3, 1) := by decide +kernel
theorem dX3_put_97 : decode cX3_put 97 = .ok (.iload_n 2, 1) := by decide +kernel
theorem dX3_put_98 : decode cX3_put 98 = .ok (.putfield 188, 3) := by decide +kernel
theorem dX3_put_101 : decode cX3_put 101 = .ok (.iconst 0, 1) := by decide +kernel
theorem dX3_put_102 : decode cX3_put 102 = .ok (.ireturn, 1) := by decide +kernel
theorem dX3_first_0 : decode cX3_first 0 = .ok (.iconst 0, 1) := by decide +kernel
theorem dX3_first_1 : decode cX3_first 1 = .ok (.istore_n 2, 1) := by decide +kernel
theorem dX3_first_2 : decode cX3_first 2 = .ok (.iload_n 2, 1) := by decide +kernel
theorem dX3_first_3 : decode cX3_first 3 = .ok (.aload_n 0, 1) := by decide +kernel
theorem dX3_first_4 : decode cX3_first 4 = .ok (.getfield 74, 3) := by decide +kernel
theorem dX3_first_7 : decode cX3_first 7 = .ok (.if_icmp .ge 42, 3) := by decide +kernel
theorem dX3_first_10 : decode cX3_first 10 = .ok (.aload_n 0, 1) := by decide +kernel
theorem dX3_first_11 : decode cX3_first 11 = .ok (.iload_n 2, 1) := by decide +kernel
theorem dX3_first_12 : decode cX3_first 12 = .ok (.invokevirtual 86, 3) := by decide +kernel
theorem dX3_first_15 : decode cX3_first 15 = .ok (.astore_n 3, 1) := by decide +kernel
theorem dX3_first_16 : decode cX3_first 16 = .ok (.aload_n 3, 1) := by decide +kernel
theorem dX3_first_17 : decode cX3_first 17 = .ok (.ifnull 26, 3) := by decide +kernel
theorem dX3_first_20 : decode cX3_first 20 = .ok (.aload_n 3, 1) := by decide +kernel
theorem dX3_first_21 : decode cX3_first 21 = .ok (.getfield 164, 3) := by decide +kernel
theorem dX3_first_24 : decode cX3_first 24 = .ok (.iconst 1, 1) := by decide +kernel
theorem dX3_first_25 : decode cX3_first 25 = .ok (.if_icmp .ne 18, 3) := by decide +kernel
theorem dX3_first_28 : decode cX3_first 28 = .ok (.aload_n 3, 1) := by decide +kernel
theorem dX3_first_29 : decode cX3_first 29 = .ok (.invokevirtual 177, 3) := by decide +kernel
theorem dX3_first_32 : decode cX3_first 32 = .ok (.iload_n 1, 1) := by decide +kernel
theorem dX3_first_33 : decode cX3_first 33 = .ok (.if_icmp .ne 10, 3) := by decide +kernel
theorem dX3_first_36 : decode cX3_first 36 = .ok (.aload_n 3, 1) := by decide +kernel
theorem dX3_first_37 : decode cX3_first 37 = .ok (.iconst 2, 1) := by decide +kernel
theorem dX3_first_38 : decode cX3_first 38 = .ok (.putfield 164, 3) := by decide +kernel
theorem dX3_first_41 : decode cX3_first 41 = .ok (.iload_n 2, 1) := by decide +kernel
theorem dX3_first_42 : decode cX3_first 42 = .ok (.ireturn, 1) := by decide +kernel
theorem dX3_first_43 : decode cX3_first 43 = .ok (.iinc 2 1, 3) := by decide +kernel
theorem dX3_first_46 : decode cX3_first 46 = .ok (.goto (-44), 3) := by decide +kernel
theorem dX3_first_49 : decode cX3_first 49 = .ok (.iconst (-1), 1) := by decide +kernel
theorem dX3_first_50 : decode cX3_first 50 = .ok (.ireturn, 1) := by decide +kernel
theorem dX3_lorry_0 : decode cX3_lorry 0 = .ok (.aload_n 0, 1) := by decide +kernel
theorem dX3_lorry_1 : decode cX3_lorry 1 = .ok (.getfield 191, 3) := by decide +kernel
theorem dX3_lorry_4 : decode cX3_lorry 4 = .ok (.iconst 3, 1) := by decide +kernel
theorem dX3_lorry_5 : decode cX3_lorry 5 = .ok (.if_icmp .lt 5, 3) := by decide +kernel
theorem dX3_lorry_8 : decode cX3_lorry 8 = .ok (.iconst (-1), 1) := by decide +kernel
theorem dX3_lorry_9 : decode cX3_lorry 9 = .ok (.ireturn, 1) := by decide +kernel
theorem dX3_lorry_10 : decode cX3_lorry 10 = .ok (.lload_n 1, 1) := by decide +kernel
theorem dX3_lorry_11 : decode cX3_lorry 11 = .ok (.lconst 0, 1) := by decide +kernel
theorem dX3_lorry_12 : decode cX3_lorry 12 = .ok (.ldc2_w 194, 3) := by decide +kernel
theorem dX3_lorry_15 : decode cX3_lorry 15 = .ok (.invokestatic 65, 3) := by decide +kernel
theorem dX3_lorry_18 : decode cX3_lorry 18 = .ok (.ifCond .eq 14, 3) := by decide +kernel
theorem dX3_lorry_21 : decode cX3_lorry 21 = .ok (.lload_n 3, 1) := by decide +kernel
theorem dX3_lorry_22 : decode cX3_lorry 22 = .ok (.lconst 0, 1) := by decide +kernel
theorem dX3_lorry_23 : decode cX3_lorry 23 = .ok (.ldc2_w 194, 3) := by decide +kernel
theorem dX3_lorry_26 : decode cX3_lorry 26 = .ok (.invokestatic 65, 3) := by decide +kernel
theorem dX3_lorry_29 : decode cX3_lorry 29 = .ok (.ifCond .ne 5, 3) := by decide +kernel
theorem dX3_lorry_32 : decode cX3_lorry 32 = .ok (.iconst (-1), 1) := by decide +kernel
theorem dX3_lorry_33 : decode cX3_lorry 33 = .ok (.ireturn, 1) := by decide +kernel
theorem dX3_lorry_34 : decode cX3_lorry 34 = .ok (.aload_n 0, 1) := by decide +kernel
theorem dX3_lorry_35 : decode cX3_lorry 35 = .ok (.getfield 41, 3) := by decide +kernel
theorem dX3_lorry_38 : decode cX3_lorry 38 = .ok (.aload_n 0, 1) := by decide +kernel
theorem dX3_lorry_39 : decode cX3_lorry 39 = .ok (.getfield 191, 3) := by decide +kernel
theorem dX3_lorry_42 : decode cX3_lorry 42 = .ok (.new 39, 3) := by decide +kernel
theorem dX3_lorry_45 : decode cX3_lorry 45 = .ok (.dup, 1) := by decide +kernel
theorem dX3_lorry_46 : decode cX3_lorry 46 = .ok (.lload_n 1, 1) := by decide +kernel
theorem dX3_lorry_47 : decode cX3_lorry 47 = .ok (.lload_n 3, 1) := by decide +kernel
theorem dX3_lorry_48 : decode cX3_lorry 48 = .ok (.invokespecial 196, 3) := by decide +kernel
theorem dX3_lorry_51 : decode cX3_lorry 51 = .ok (.aastore, 1) := by decide +kernel
theorem dX3_lorry_52 : decode cX3_lorry 52 = .ok (.aload_n 0, 1) := by decide +kernel
theorem dX3_lorry_53 : decode cX3_lorry 53 = .ok (.dup, 1) := by decide +kernel
theorem dX3_lorry_54 : decode cX3_lorry 54 = .ok (.getfield 191, 3) := by decide +kernel
theorem dX3_lorry_57 : decode cX3_lorry 57 = .ok (.iconst 1, 1) := by decide +kernel
theorem dX3_lorry_58 : decode cX3_lorry 58 = .ok (.iadd, 1) := by decide +kernel
theorem dX3_lorry_59 : decode cX3_lorry 59 = .ok (.putfield 191, 3) := by decide +kernel
theorem dX3_lorry_62 : decode cX3_lorry 62 = .ok (.aload_n 0, 1) := by decide +kernel
theorem dX3_lorry_63 : decode cX3_lorry 63 = .ok (.getfield 191, 3) := by decide +kernel
theorem dX3_lorry_66 : decode cX3_lorry 66 = .ok (.iconst 1, 1) := by decide +kernel
theorem dX3_lorry_67 : decode cX3_lorry 67 = .ok (.isub, 1) := by decide +kernel
theorem dX3_lorry_68 : decode cX3_lorry 68 = .ok (.ireturn, 1) := by decide +kernel
theorem dX3_load_0 : decode cX3_load 0 = .ok (.aload_n 0, 1) := by decide +kernel
theorem dX3_load_1 : decode cX3_load 1 = .ok (.iload_n 1, 1) := by decide +kernel
theorem dX3_load_2 : decode cX3_load 2 = .ok (.invokevirtual 199, 3) := by decide +kernel
theorem dX3_load_5 : decode cX3_load 5 = .ok (.astore_n 3, 1) := by decide +kernel
theorem dX3_load_6 : decode cX3_load 6 = .ok (.aload_n 0, 1) := by decide +kernel
theorem dX3_load_7 : decode cX3_load 7 = .ok (.iload_n 2, 1) := by decide +kernel
theorem dX3_load_8 : decode cX3_load 8 = .ok (.invokevirtual 86, 3) := by decide +kernel
theorem dX3_load_11 : decode cX3_load 11 = .ok (.astore 4, 2) := by decide +kernel
theorem dX3_load_13 : decode cX3_load 13 = .ok (.aload_n 3, 1) := by decide +kernel
theorem dX3_load_14 : decode cX3_load 14 = .ok (.ifnull 8, 3) := by decide +kernel
theorem dX3_load_17 : decode cX3_load 17 = .ok (.aload 4, 2) := by decide +kernel
theorem dX3_load_19 : decode cX3_load 19 = .ok (.ifnonnull 5, 3) := by decide +kernel
theorem dX3_load_22 : decode cX3_load 22 = .ok (.iconst (-1), 1) := by decide +kernel
theorem dX3_load_23 : decode cX3_load 23 = .ok (.ireturn, 1) := by decide +kernel
theorem dX3_load_24 : decode cX3_load 24 = .ok (.aload 4, 2) := by decide +kernel
theorem dX3_load_26 : decode cX3_load 26 = .ok (.getfield 164, 3) := by decide +kernel
theorem dX3_load_29 : decode cX3_load 29 = .ok (.iconst 2, 1) := by decide +kernel
theorem dX3_load_30 : decode cX3_load 30 = .ok (.if_icmp .ne 23, 3) := by decide +kernel
theorem dX3_load_33 : decode cX3_load 33 = .ok (.aload 4, 2) := by decide +kernel
theorem dX3_load_35 : decode cX3_load 35 = .ok (.getfield 203, 3) := by decide +kernel
theorem dX3_load_38 : decode cX3_load 38 = .ok (.ifCond .ne 15, 3) := by decide +kernel
theorem dX3_load_41 : decode cX3_load 41 = .ok (.aload_n 3, 1) := by decide +kernel
theorem dX3_load_42 : decode cX3_load 42 = .ok (.aload 4, 2) := by decide +kernel
theorem dX3_load_44 : decode cX3_load 44 = .ok (.invokevirtual 96, 3) := by decide +kernel
theorem dX3_load_47 : decode cX3_load 47 = .ok (.invokevirtual 207, 3) := by decide +kernel
theorem dX3_load_50 : decode cX3_load 50 = .ok (.ifCond .ne 5, 3) := by decide +kernel
theorem dX3_load_53 : decode cX3_load 53 = .ok (.iconst (-1), 1) := by decide +kernel
theorem dX3_load_54 : decode cX3_load 54 = .ok (.ireturn, 1) := by decide +kernel
theorem dX3_load_55 : decode cX3_load 55 = .ok (.aload 4, 2) := by decide +kernel
theorem dX3_load_57 : decode cX3_load 57 = .ok (.iconst 1, 1) := by decide +kernel
theorem dX3_load_58 : decode cX3_load 58 = .ok (.putfield 203, 3) := by decide +kernel
theorem dX3_load_61 : decode cX3_load 61 = .ok (.aload_n 3, 1) := by decide +kernel
theorem dX3_load_62 : decode cX3_load 62 = .ok (.aload 4, 2) := by decide +kernel
theorem dX3_load_64 : decode cX3_load 64 = .ok (.invokevirtual 96, 3) := by decide +kernel
theorem dX3_load_67 : decode cX3_load 67 = .ok (.invokevirtual 211, 3) := by decide +kernel
theorem dX3_load_70 : decode cX3_load 70 = .ok (.ireturn, 1) := by decide +kernel
theorem dX3_moment_0 : decode cX3_moment 0 = .ok (.aload_n 0, 1) := by decide +kernel
theorem dX3_moment_1 : decode cX3_moment 1 = .ok (.iload_n 1, 1) := by decide +kernel
theorem dX3_moment_2 : decode cX3_moment 2 = .ok (.invokevirtual 199, 3) := by decide +kernel
theorem dX3_moment_5 : decode cX3_moment 5 = .ok (.astore_n 3, 1) := by decide +kernel
theorem dX3_moment_6 : decode cX3_moment 6 = .ok (.aload_n 3, 1) := by decide +kernel
theorem dX3_moment_7 : decode cX3_moment 7 = .ok (.ifnull 13, 3) := by decide +kernel
theorem dX3_moment_10 : decode cX3_moment 10 = .ok (.iload_n 2, 1) := by decide +kernel
theorem dX3_moment_11 : decode cX3_moment 11 = .ok (.i2l, 1) := by decide +kernel
theorem dX3_moment_12 : decode cX3_moment 12 = .ok (.lconst 0, 1) := by decide +kernel
theorem dX3_moment_13 : decode cX3_moment 13 = .ok (.lconst 1, 1) := by decide +kernel
theorem dX3_moment_14 : decode cX3_moment 14 = .ok (.invokestatic 65, 3) := by decide +kernel
theorem dX3_moment_17 : decode cX3_moment 17 = .ok (.ifCond .ne 7, 3) := by decide +kernel
theorem dX3_moment_20 : decode cX3_moment 20 = .ok (.ldc2_w 90, 3) := by decide +kernel
theorem dX3_moment_23 : decode cX3_moment 23 = .ok (.lreturn, 1) := by decide +kernel
theorem dX3_moment_24 : decode cX3_moment 24 = .ok (.iload_n 2, 1) := by decide +kernel
theorem dX3_moment_25 : decode cX3_moment 25 = .ok (.ifCond .ne 10, 3) := by decide +kernel
theorem dX3_moment_28 : decode cX3_moment 28 = .ok (.aload_n 3, 1) := by decide +kernel
theorem dX3_moment_29 : decode cX3_moment 29 = .ok (.getfield 215, 3) := by decide +kernel
theorem dX3_moment_32 : decode cX3_moment 32 = .ok (.goto 7, 3) := by decide +kernel
theorem dX3_moment_35 : decode cX3_moment 35 = .ok (.aload_n 3, 1) := by decide +kernel
theorem dX3_moment_36 : decode cX3_moment 36 = .ok (.getfield 219, 3) := by decide +kernel
theorem dX3_moment_39 : decode cX3_moment 39 = .ok (.lreturn, 1) := by decide +kernel
theorem dX3_rebale_0 : decode cX3_rebale 0 = .ok (.aload_n 0, 1) := by decide +kernel
theorem dX3_rebale_1 : decode cX3_rebale 1 = .ok (.iload_n 1, 1) := by decide +kernel
theorem dX3_rebale_2 : decode cX3_rebale 2 = .ok (.invokevirtual 86, 3) := by decide +kernel
theorem dX3_rebale_5 : decode cX3_rebale 5 = .ok (.astore_n 3, 1) := by decide +kernel
theorem dX3_rebale_6 : decode cX3_rebale 6 = .ok (.aload_n 0, 1) := by decide +kernel
theorem dX3_rebale_7 : decode cX3_rebale 7 = .ok (.iload_n 2, 1) := by decide +kernel
theorem dX3_rebale_8 : decode cX3_rebale 8 = .ok (.invokevirtual 86, 3) := by decide +kernel
theorem dX3_rebale_11 : decode cX3_rebale 11 = .ok (.astore 4, 2) := by decide +kernel
theorem dX3_rebale_13 : decode cX3_rebale 13 = .ok (.aload_n 3, 1) := by decide +kernel
theorem dX3_rebale_14 : decode cX3_rebale 14 = .ok (.ifnull 22, 3) := by decide +kernel
theorem dX3_rebale_17 : decode cX3_rebale 17 = .ok (.aload 4, 2) := by decide +kernel
theorem dX3_rebale_19 : decode cX3_rebale 19 = .ok (.ifnull 17, 3) := by decide +kernel
theorem dX3_rebale_22 : decode cX3_rebale 22 = .ok (.iload_n 1, 1) := by decide +kernel
theorem dX3_rebale_23 : decode cX3_rebale 23 = .ok (.iload_n 2, 1) := by decide +kernel
theorem dX3_rebale_24 : decode cX3_rebale 24 = .ok (.if_icmp .eq 12, 3) := by decide +kernel
theorem dX3_rebale_27 : decode cX3_rebale 27 = .ok (.aload_n 0, 1) := by decide +kernel
theorem dX3_rebale_28 : decode cX3_rebale 28 = .ok (.getfield 74, 3) := by decide +kernel
theorem dX3_rebale_31 : decode cX3_rebale 31 = .ok (.bipush 12, 2) := by decide +kernel
theorem dX3_rebale_33 : decode cX3_rebale 33 = .ok (.if_icmp .lt 5, 3) := by decide +kernel
theorem dX3_rebale_36 : decode cX3_rebale 36 = .ok (.iconst (-1), 1) := by decide +kernel
theorem dX3_rebale_37 : decode cX3_rebale 37 = .ok (.ireturn, 1) := by decide +kernel
theorem dX3_rebale_38 : decode cX3_rebale 38 = .ok (.aload_n 3, 1) := by decide +kernel
theorem dX3_rebale_39 : decode cX3_rebale 39 = .ok (.getfield 164, 3) := by decide +kernel
theorem dX3_rebale_42 : decode cX3_rebale 42 = .ok (.ifCond .ne 11, 3) := by decide +kernel
theorem dX3_rebale_45 : decode cX3_rebale 45 = .ok (.aload 4, 2) := by decide +kernel
theorem dX3_rebale_47 : decode cX3_rebale 47 = .ok (.getfield 164, 3) := by decide +kernel
theorem dX3_rebale_50 : decode cX3_rebale 50 = .ok (.ifCond .eq 5, 3) := by decide +kernel
theorem dX3_rebale_53 : decode cX3_rebale 53 = .ok (.iconst (-1), 1) := by decide +kernel
theorem dX3_rebale_54 : decode cX3_rebale 54 = .ok (.ireturn, 1) := by decide +kernel
theorem dX3_rebale_55 : decode cX3_rebale 55 = .ok (.new 20, 3) := by decide +kernel
theorem dX3_rebale_58 : decode cX3_rebale 58 = .ok (.dup, 1) := by decide +kernel
theorem dX3_rebale_59 : decode cX3_rebale 59 = .ok (.invokespecial 77, 3) := by decide +kernel
theorem dX3_rebale_62 : decode cX3_rebale 62 = .ok (.astore 5, 2) := by decide +kernel
theorem dX3_rebale_64 : decode cX3_rebale 64 = .ok (.aload 5, 2) := by decide +kernel
theorem dX3_rebale_66 : decode cX3_rebale 66 = .ok (.aload_n 3, 1) := by decide +kernel
theorem dX3_rebale_67 : decode cX3_rebale 67 = .ok (.aload 4, 2) := by decide +kernel
theorem dX3_rebale_69 : decode cX3_rebale 69 = .ok (.invokevirtual 222, 3) := by decide +kernel
theorem dX3_rebale_72 : decode cX3_rebale 72 = .ok (.aload_n 3, 1) := by decide +kernel
theorem dX3_rebale_73 : decode cX3_rebale 73 = .ok (.iconst 3, 1) := by decide +kernel
theorem dX3_rebale_74 : decode cX3_rebale 74 = .ok (.putfield 164, 3) := by decide +kernel
theorem dX3_rebale_77 : decode cX3_rebale 77 = .ok (.aload 4, 2) := by decide +kernel
theorem dX3_rebale_79 : decode cX3_rebale 79 = .ok (.iconst 3, 1) := by decide +kernel
theorem dX3_rebale_80 : decode cX3_rebale 80 = .ok (.putfield 164, 3) := by decide +kernel
theorem dX3_rebale_83 : decode cX3_rebale 83 = .ok (.aload_n 0, 1) := by decide +kernel
theorem dX3_rebale_84 : decode cX3_rebale 84 = .ok (.aload 5, 2) := by decide +kernel
theorem dX3_rebale_86 : decode cX3_rebale 86 = .ok (.invokevirtual 82, 3) := by decide +kernel
theorem dX3_rebale_89 : decode cX3_rebale 89 = .ok (.ireturn, 1) := by decide +kernel
theorem dX3_brought_0 : decode cX3_brought 0 = .ok (.aload_n 0, 1) := by decide +kernel
theorem dX3_brought_1 : decode cX3_brought 1 = .ok (.iload_n 1, 1) := by decide +kernel
theorem dX3_brought_2 : decode cX3_brought 2 = .ok (.invokevirtual 86, 3) := by decide +kernel
theorem dX3_brought_5 : decode cX3_brought 5 = .ok (.astore 4, 2) := by decide +kernel
theorem dX3_brought_7 : decode cX3_brought 7 = .ok (.aload 4, 2) := by decide +kernel
theorem dX3_brought_9 : decode cX3_brought 9 = .ok (.ifnull 20, 3) := by decide +kernel
theorem dX3_brought_12 : decode cX3_brought 12 = .ok (.iload_n 2, 1) := by decide +kernel
theorem dX3_brought_13 : decode cX3_brought 13 = .ok (.invokestatic 59, 3) := by decide +kernel
theorem dX3_brought_16 : decode cX3_brought 16 = .ok (.ifCond .eq 13, 3) := by decide +kernel
end
section
theorem dX3_brought_19 : decode cX3_brought 19 = .ok (.iload_n 3, 1) := by decide +kernel
theorem dX3_brought_20 : decode cX3_brought 20 = .ok (.i2l, 1) := by decide +kernel
theorem dX3_brought_21 : decode cX3_brought 21 = .ok (.lconst 0, 1) := by decide +kernel
theorem dX3_brought_22 : decode cX3_brought 22 = .ok (.lconst 1, 1) := by decide +kernel
theorem dX3_brought_23 : decode cX3_brought 23 = .ok (.invokestatic 65, 3) := by decide +kernel
theorem dX3_brought_26 : decode cX3_brought 26 = .ok (.ifCond .ne 7, 3) := by decide +kernel
theorem dX3_brought_29 : decode cX3_brought 29 = .ok (.ldc2_w 90, 3) := by decide +kernel
theorem dX3_brought_32 : decode cX3_brought 32 = .ok (.lreturn, 1) := by decide +kernel
theorem dX3_brought_33 : decode cX3_brought 33 = .ok (.iload_n 3, 1) := by decide +kernel
theorem dX3_brought_34 : decode cX3_brought 34 = .ok (.ifCond .ne 11, 3) := by decide +kernel
theorem dX3_brought_37 : decode cX3_brought 37 = .ok (.aload 4, 2) := by decide +kernel
theorem dX3_brought_39 : decode cX3_brought 39 = .ok (.getfield 226, 3) := by decide +kernel
theorem dX3_brought_42 : decode cX3_brought 42 = .ok (.goto 8, 3) := by decide +kernel
theorem dX3_brought_45 : decode cX3_brought 45 = .ok (.aload 4, 2) := by decide +kernel
theorem dX3_brought_47 : decode cX3_brought 47 = .ok (.getfield 230, 3) := by decide +kernel
theorem dX3_brought_50 : decode cX3_brought 50 = .ok (.astore 5, 2) := by decide +kernel
theorem dX3_brought_52 : decode cX3_brought 52 = .ok (.aload 5, 2) := by decide +kernel
theorem dX3_brought_54 : decode cX3_brought 54 = .ok (.ifnonnull 7, 3) := by decide +kernel
theorem dX3_brought_57 : decode cX3_brought 57 = .ok (.lconst 0, 1) := by decide +kernel
theorem dX3_brought_58 : decode cX3_brought 58 = .ok (.goto 9, 3) := by decide +kernel
theorem dX3_brought_61 : decode cX3_brought 61 = .ok (.aload 5, 2) := by decide +kernel
theorem dX3_brought_63 : decode cX3_brought 63 = .ok (.iload_n 2, 1) := by decide +kernel
theorem dX3_brought_64 : decode cX3_brought 64 = .ok (.invokevirtual 92, 3) := by decide +kernel
theorem dX3_brought_67 : decode cX3_brought 67 = .ok (.lreturn, 1) := by decide +kernel
theorem dX3_label_0 : decode cX3_label 0 = .ok (.aload_n 0, 1) := by decide +kernel
theorem dX3_label_1 : decode cX3_label 1 = .ok (.iload_n 1, 1) := by decide +kernel
theorem dX3_label_2 : decode cX3_label 2 = .ok (.invokevirtual 86, 3) := by decide +kernel
theorem dX3_label_5 : decode cX3_label 5 = .ok (.astore_n 3, 1) := by decide +kernel
theorem dX3_label_6 : decode cX3_label 6 = .ok (.aload_n 3, 1) := by decide +kernel
theorem dX3_label_7 : decode cX3_label 7 = .ok (.ifnonnull 5, 3) := by decide +kernel
theorem dX3_label_10 : decode cX3_label 10 = .ok (.iconst (-1), 1) := by decide +kernel
theorem dX3_label_11 : decode cX3_label 11 = .ok (.ireturn, 1) := by decide +kernel
theorem dX3_label_12 : decode cX3_label 12 = .ok (.aload_n 0, 1) := by decide +kernel
theorem dX3_label_13 : decode cX3_label 13 = .ok (.iload_n 1, 1) := by decide +kernel
theorem dX3_label_14 : decode cX3_label 14 = .ok (.aload_n 3, 1) := by decide +kernel
theorem dX3_label_15 : decode cX3_label 15 = .ok (.invokevirtual 233, 3) := by decide +kernel
theorem dX3_label_18 : decode cX3_label 18 = .ok (.iload_n 2, 1) := by decide +kernel
theorem dX3_label_19 : decode cX3_label 19 = .ok (.ifCond .lt 14, 3) := by decide +kernel
theorem dX3_label_22 : decode cX3_label 22 = .ok (.iload_n 2, 1) := by decide +kernel
theorem dX3_label_23 : decode cX3_label 23 = .ok (.aload_n 0, 1) := by decide +kernel
theorem dX3_label_24 : decode cX3_label 24 = .ok (.getfield 48, 3) := by decide +kernel
theorem dX3_label_27 : decode cX3_label 27 = .ok (.invokevirtual 237, 3) := by decide +kernel
theorem dX3_label_30 : decode cX3_label 30 = .ok (.if_icmp .lt 5, 3) := by decide +kernel
theorem dX3_label_33 : decode cX3_label 33 = .ok (.iconst (-1), 1) := by decide +kernel
theorem dX3_label_34 : decode cX3_label 34 = .ok (.ireturn, 1) := by decide +kernel
theorem dX3_label_35 : decode cX3_label 35 = .ok (.aload_n 0, 1) := by decide +kernel
theorem dX3_label_36 : decode cX3_label 36 = .ok (.getfield 48, 3) := by decide +kernel
theorem dX3_label_39 : decode cX3_label 39 = .ok (.iload_n 2, 1) := by decide +kernel
theorem dX3_label_40 : decode cX3_label 40 = .ok (.invokevirtual 240, 3) := by decide +kernel
theorem dX3_label_43 : decode cX3_label 43 = .ok (.ireturn, 1) := by decide +kernel
theorem dX3_state_0 : decode cX3_state 0 = .ok (.aload_n 0, 1) := by decide +kernel
theorem dX3_state_1 : decode cX3_state 1 = .ok (.iload_n 1, 1) := by decide +kernel
theorem dX3_state_2 : decode cX3_state 2 = .ok (.invokevirtual 86, 3) := by decide +kernel
theorem dX3_state_5 : decode cX3_state 5 = .ok (.astore_n 2, 1) := by decide +kernel
theorem dX3_state_6 : decode cX3_state 6 = .ok (.aload_n 2, 1) := by decide +kernel
theorem dX3_state_7 : decode cX3_state 7 = .ok (.ifnonnull 7, 3) := by decide +kernel
theorem dX3_state_10 : decode cX3_state 10 = .ok (.iconst (-1), 1) := by decide +kernel
theorem dX3_state_11 : decode cX3_state 11 = .ok (.goto 7, 3) := by decide +kernel
theorem dX3_state_14 : decode cX3_state 14 = .ok (.aload_n 2, 1) := by decide +kernel
theorem dX3_state_15 : decode cX3_state 15 = .ok (.getfield 164, 3) := by decide +kernel
theorem dX3_state_18 : decode cX3_state 18 = .ok (.ireturn, 1) := by decide +kernel
theorem dX3_isKind_0 : decode cX3_isKind 0 = .ok (.iload_n 0, 1) := by decide +kernel
theorem dX3_isKind_1 : decode cX3_isKind 1 = .ok (.ifCond .lt 12, 3) := by decide +kernel
theorem dX3_isKind_4 : decode cX3_isKind 4 = .ok (.iload_n 0, 1) := by decide +kernel
theorem dX3_isKind_5 : decode cX3_isKind 5 = .ok (.iconst 4, 1) := by decide +kernel
theorem dX3_isKind_6 : decode cX3_isKind 6 = .ok (.if_icmp .ge 7, 3) := by decide +kernel
theorem dX3_isKind_9 : decode cX3_isKind 9 = .ok (.iconst 1, 1) := by decide +kernel
theorem dX3_isKind_10 : decode cX3_isKind 10 = .ok (.goto 4, 3) := by decide +kernel
theorem dX3_isKind_13 : decode cX3_isKind 13 = .ok (.iconst 0, 1) := by decide +kernel
theorem dX3_isKind_14 : decode cX3_isKind 14 = .ok (.ireturn, 1) := by decide +kernel
theorem dX3_isWithin_0 : decode cX3_isWithin 0 = .ok (.lload_n 0, 1) := by decide +kernel
theorem dX3_isWithin_1 : decode cX3_isWithin 1 = .ok (.lload_n 2, 1) := by decide +kernel
theorem dX3_isWithin_2 : decode cX3_isWithin 2 = .ok (.lcmp, 1) := by decide +kernel
theorem dX3_isWithin_3 : decode cX3_isWithin 3 = .ok (.ifCond .lt 14, 3) := by decide +kernel
theorem dX3_isWithin_6 : decode cX3_isWithin 6 = .ok (.lload_n 0, 1) := by decide +kernel
theorem dX3_isWithin_7 : decode cX3_isWithin 7 = .ok (.lload 4, 2) := by decide +kernel
theorem dX3_isWithin_9 : decode cX3_isWithin 9 = .ok (.lcmp, 1) := by decide +kernel
theorem dX3_isWithin_10 : decode cX3_isWithin 10 = .ok (.ifCond .gt 7, 3) := by decide +kernel
theorem dX3_isWithin_13 : decode cX3_isWithin 13 = .ok (.iconst 1, 1) := by decide +kernel
theorem dX3_isWithin_14 : decode cX3_isWithin 14 = .ok (.goto 4, 3) := by decide +kernel
theorem dX3_isWithin_17 : decode cX3_isWithin 17 = .ok (.iconst 0, 1) := by decide +kernel
theorem dX3_isWithin_18 : decode cX3_isWithin 18 = .ok (.ireturn, 1) := by decide +kernel
theorem dX3_isBetween_0 : decode cX3_isBetween 0 = .ok (.dload_n 0, 1) := by decide +kernel
theorem dX3_isBetween_1 : decode cX3_isBetween 1 = .ok (.dload_n 2, 1) := by decide +kernel
theorem dX3_isBetween_2 : decode cX3_isBetween 2 = .ok (.dcmp .l, 1) := by decide +kernel
theorem dX3_isBetween_3 : decode cX3_isBetween 3 = .ok (.ifCond .lt 14, 3) := by decide +kernel
theorem dX3_isBetween_6 : decode cX3_isBetween 6 = .ok (.dload_n 0, 1) := by decide +kernel
theorem dX3_isBetween_7 : decode cX3_isBetween 7 = .ok (.dload 4, 2) := by decide +kernel
theorem dX3_isBetween_9 : decode cX3_isBetween 9 = .ok (.dcmp .g, 1) := by decide +kernel
theorem dX3_isBetween_10 : decode cX3_isBetween 10 = .ok (.ifCond .gt 7, 3) := by decide +kernel
theorem dX3_isBetween_13 : decode cX3_isBetween 13 = .ok (.iconst 1, 1) := by decide +kernel
theorem dX3_isBetween_14 : decode cX3_isBetween 14 = .ok (.goto 4, 3) := by decide +kernel
theorem dX3_isBetween_17 : decode cX3_isBetween 17 = .ok (.iconst 0, 1) := by decide +kernel
theorem dX3_isBetween_18 : decode cX3_isBetween 18 = .ok (.ireturn, 1) := by decide +kernel
theorem dX3_keepBale_0 : decode cX3_keepBale 0 = .ok (.aload_n 0, 1) := by decide +kernel
theorem dX3_keepBale_1 : decode cX3_keepBale 1 = .ok (.getfield 74, 3) := by decide +kernel
theorem dX3_keepBale_4 : decode cX3_keepBale 4 = .ok (.bipush 12, 2) := by decide +kernel
theorem dX3_keepBale_6 : decode cX3_keepBale 6 = .ok (.if_icmp .lt 5, 3) := by decide +kernel
theorem dX3_keepBale_9 : decode cX3_keepBale 9 = .ok (.iconst (-1), 1) := by decide +kernel
theorem dX3_keepBale_10 : decode cX3_keepBale 10 = .ok (.ireturn, 1) := by decide +kernel
theorem dX3_keepBale_11 : decode cX3_keepBale 11 = .ok (.aload_n 0, 1) := by decide +kernel
theorem dX3_keepBale_12 : decode cX3_keepBale 12 = .ok (.getfield 22, 3) := by decide +kernel
theorem dX3_keepBale_15 : decode cX3_keepBale 15 = .ok (.aload_n 0, 1) := by decide +kernel
theorem dX3_keepBale_16 : decode cX3_keepBale 16 = .ok (.getfield 74, 3) := by decide +kernel
theorem dX3_keepBale_19 : decode cX3_keepBale 19 = .ok (.aload_n 1, 1) := by decide +kernel
theorem dX3_keepBale_20 : decode cX3_keepBale 20 = .ok (.aastore, 1) := by decide +kernel
theorem dX3_keepBale_21 : decode cX3_keepBale 21 = .ok (.aload_n 0, 1) := by decide +kernel
theorem dX3_keepBale_22 : decode cX3_keepBale 22 = .ok (.dup, 1) := by decide +kernel
theorem dX3_keepBale_23 : decode cX3_keepBale 23 = .ok (.getfield 74, 3) := by decide +kernel
theorem dX3_keepBale_26 : decode cX3_keepBale 26 = .ok (.iconst 1, 1) := by decide +kernel
theorem dX3_keepBale_27 : decode cX3_keepBale 27 = .ok (.iadd, 1) := by decide +kernel
theorem dX3_keepBale_28 : decode cX3_keepBale 28 = .ok (.putfield 74, 3) := by decide +kernel
theorem dX3_keepBale_31 : decode cX3_keepBale 31 = .ok (.aload_n 0, 1) := by decide +kernel
theorem dX3_keepBale_32 : decode cX3_keepBale 32 = .ok (.getfield 74, 3) := by decide +kernel
theorem dX3_keepBale_35 : decode cX3_keepBale 35 = .ok (.iconst 1, 1) := by decide +kernel
theorem dX3_keepBale_36 : decode cX3_keepBale 36 = .ok (.isub, 1) := by decide +kernel
theorem dX3_keepBale_37 : decode cX3_keepBale 37 = .ok (.ireturn, 1) := by decide +kernel
theorem dX3_findBale_0 : decode cX3_findBale 0 = .ok (.iload_n 1, 1) := by decide +kernel
theorem dX3_findBale_1 : decode cX3_findBale 1 = .ok (.ifCond .lt 20, 3) := by decide +kernel
theorem dX3_findBale_4 : decode cX3_findBale 4 = .ok (.iload_n 1, 1) := by decide +kernel
theorem dX3_findBale_5 : decode cX3_findBale 5 = .ok (.aload_n 0, 1) := by decide +kernel
theorem dX3_findBale_6 : decode cX3_findBale 6 = .ok (.getfield 74, 3) := by decide +kernel
theorem dX3_findBale_9 : decode cX3_findBale 9 = .ok (.if_icmp .ge 12, 3) := by decide +kernel
theorem dX3_findBale_12 : decode cX3_findBale 12 = .ok (.aload_n 0, 1) := by decide +kernel
theorem dX3_findBale_13 : decode cX3_findBale 13 = .ok (.getfield 22, 3) := by decide +kernel
theorem dX3_findBale_16 : decode cX3_findBale 16 = .ok (.iload_n 1, 1) := by decide +kernel
theorem dX3_findBale_17 : decode cX3_findBale 17 = .ok (.aaload, 1) := by decide +kernel
theorem dX3_findBale_18 : decode cX3_findBale 18 = .ok (.goto 4, 3) := by decide +kernel
theorem dX3_findBale_21 : decode cX3_findBale 21 = .ok (.aconst_null, 1) := by decide +kernel
theorem dX3_findBale_22 : decode cX3_findBale 22 = .ok (.areturn, 1) := by decide +kernel
theorem dX3_findStack_0 : decode cX3_findStack 0 = .ok (.iload_n 1, 1) := by decide +kernel
theorem dX3_findStack_1 : decode cX3_findStack 1 = .ok (.ifCond .lt 20, 3) := by decide +kernel
theorem dX3_findStack_4 : decode cX3_findStack 4 = .ok (.iload_n 1, 1) := by decide +kernel
theorem dX3_findStack_5 : decode cX3_findStack 5 = .ok (.aload_n 0, 1) := by decide +kernel
theorem dX3_findStack_6 : decode cX3_findStack 6 = .ok (.getfield 152, 3) := by decide +kernel
theorem dX3_findStack_9 : decode cX3_findStack 9 = .ok (.if_icmp .ge 12, 3) := by decide +kernel
theorem dX3_findStack_12 : decode cX3_findStack 12 = .ok (.aload_n 0, 1) := by decide +kernel
theorem dX3_findStack_13 : decode cX3_findStack 13 = .ok (.getfield 35, 3) := by decide +kernel
theorem dX3_findStack_16 : decode cX3_findStack 16 = .ok (.iload_n 1, 1) := by decide +kernel
theorem dX3_findStack_17 : decode cX3_findStack 17 = .ok (.aaload, 1) := by decide +kernel
theorem dX3_findStack_18 : decode cX3_findStack 18 = .ok (.goto 4, 3) := by decide +kernel
theorem dX3_findStack_21 : decode cX3_findStack 21 = .ok (.aconst_null, 1) := by decide +kernel
theorem dX3_findStack_22 : decode cX3_findStack 22 = .ok (.areturn, 1) := by decide +kernel
theorem dX3_findLorry_0 : decode cX3_findLorry 0 = .ok (.iload_n 1, 1) := by decide +kernel
theorem dX3_findLorry_1 : decode cX3_findLorry 1 = .ok (.ifCond .lt 20, 3) := by decide +kernel
theorem dX3_findLorry_4 : decode cX3_findLorry 4 = .ok (.iload_n 1, 1) := by decide +kernel
theorem dX3_findLorry_5 : decode cX3_findLorry 5 = .ok (.aload_n 0, 1) := by decide +kernel
theorem dX3_findLorry_6 : decode cX3_findLorry 6 = .ok (.getfield 191, 3) := by decide +kernel
theorem dX3_findLorry_9 : decode cX3_findLorry 9 = .ok (.if_icmp .ge 12, 3) := by decide +kernel
theorem dX3_findLorry_12 : decode cX3_findLorry 12 = .ok (.aload_n 0, 1) := by decide +kernel
theorem dX3_findLorry_13 : decode cX3_findLorry 13 = .ok (.getfield 41, 3) := by decide +kernel
theorem dX3_findLorry_16 : decode cX3_findLorry 16 = .ok (.iload_n 1, 1) := by decide +kernel
theorem dX3_findLorry_17 : decode cX3_findLorry 17 = .ok (.aaload, 1) := by decide +kernel
theorem dX3_findLorry_18 : decode cX3_findLorry 18 = .ok (.goto 4, 3) := by decide +kernel
theorem dX3_findLorry_21 : decode cX3_findLorry 21 = .ok (.aconst_null, 1) := by decide +kernel
theorem dX3_findLorry_22 : decode cX3_findLorry 22 = .ok (.areturn, 1) := by decide +kernel
theorem dX3_gainAt_0 : decode cX3_gainAt 0 = .ok (.dconst 0, 1) := by decide +kernel
theorem dX3_gainAt_1 : decode cX3_gainAt 1 = .ok (.dstore_n 3, 1) := by decide +kernel
theorem dX3_gainAt_2 : decode cX3_gainAt 2 = .ok (.iconst 0, 1) := by decide +kernel
theorem dX3_gainAt_3 : decode cX3_gainAt 3 = .ok (.istore 5, 2) := by decide +kernel
theorem dX3_gainAt_5 : decode cX3_gainAt 5 = .ok (.iload 5, 2) := by decide +kernel
theorem dX3_gainAt_7 : decode cX3_gainAt 7 = .ok (.aload_n 0, 1) := by decide +kernel
theorem dX3_gainAt_8 : decode cX3_gainAt 8 = .ok (.getfield 116, 3) := by decide +kernel
theorem dX3_gainAt_11 : decode cX3_gainAt 11 = .ok (.if_icmp .ge 29, 3) := by decide +kernel
theorem dX3_gainAt_14 : decode cX3_gainAt 14 = .ok (.aload_n 0, 1) := by decide +kernel
theorem dX3_gainAt_15 : decode cX3_gainAt 15 = .ok (.getfield 26, 3) := by decide +kernel
theorem dX3_gainAt_18 : decode cX3_gainAt 18 = .ok (.iload 5, 2) := by decide +kernel
theorem dX3_gainAt_20 : decode cX3_gainAt 20 = .ok (.daload, 1) := by decide +kernel
theorem dX3_gainAt_21 : decode cX3_gainAt 21 = .ok (.dload_n 1, 1) := by decide +kernel
theorem dX3_gainAt_22 : decode cX3_gainAt 22 = .ok (.dcmp .g, 1) := by decide +kernel
theorem dX3_gainAt_23 : decode cX3_gainAt 23 = .ok (.ifCond .gt 11, 3) := by decide +kernel
theorem dX3_gainAt_26 : decode cX3_gainAt 26 = .ok (.aload_n 0, 1) := by decide +kernel
theorem dX3_gainAt_27 : decode cX3_gainAt 27 = .ok (.getfield 30, 3) := by decide +kernel
theorem dX3_gainAt_30 : decode cX3_gainAt 30 = .ok (.iload 5, 2) := by decide +kernel
theorem dX3_gainAt_32 : decode cX3_gainAt 32 = .ok (.daload, 1) := by decide +kernel
theorem dX3_gainAt_33 : decode cX3_gainAt 33 = .ok (.dstore_n 3, 1) := by decide +kernel
theorem dX3_gainAt_34 : decode cX3_gainAt 34 = .ok (.iinc 5 1, 3) := by decide +kernel
theorem dX3_gainAt_37 : decode cX3_gainAt 37 = .ok (.goto (-32), 3) := by decide +kernel
theorem dX3_gainAt_40 : decode cX3_gainAt 40 = .ok (.dload_n 3, 1) := by decide +kernel
theorem dX3_gainAt_41 : decode cX3_gainAt 41 = .ok (.dreturn, 1) := by decide +kernel
theorem dX3_isAlarming_0 : decode cX3_isAlarming 0 = .ok (.aload_n 0, 1) := by decide +kernel
theorem dX3_isAlarming_1 : decode cX3_isAlarming 1 = .ok (.iload_n 1, 1) := by decide +kernel
theorem dX3_isAlarming_2 : decode cX3_isAlarming 2 = .ok (.invokevirtual 86, 3) := by decide +kernel
theorem dX3_isAlarming_5 : decode cX3_isAlarming 5 = .ok (.astore_n 2, 1) := by decide +kernel
theorem dX3_isAlarming_6 : decode cX3_isAlarming 6 = .ok (.aload_n 2, 1) := by decide +kernel
theorem dX3_isAlarming_7 : decode cX3_isAlarming 7 = .ok (.ifnull 25, 3) := by decide +kernel
theorem dX3_isAlarming_10 : decode cX3_isAlarming 10 = .ok (.aload_n 2, 1) := by decide +kernel
theorem dX3_isAlarming_11 : decode cX3_isAlarming 11 = .ok (.invokevirtual 125, 3) := by decide +kernel
theorem dX3_isAlarming_14 : decode cX3_isAlarming 14 = .ok (.ifCond .ne 18, 3) := by decide +kernel
theorem dX3_isAlarming_17 : decode cX3_isAlarming 17 = .ok (.aload_n 2, 1) := by decide +kernel
theorem dX3_isAlarming_18 : decode cX3_isAlarming 18 = .ok (.getfield 244, 3) := by decide +kernel
theorem dX3_isAlarming_21 : decode cX3_isAlarming 21 = .ok (.aload_n 0, 1) := by decide +kernel
theorem dX3_isAlarming_22 : decode cX3_isAlarming 22 = .ok (.getfield 52, 3) := by decide +kernel
theorem dX3_isAlarming_25 : decode cX3_isAlarming 25 = .ok (.if_icmp .lt 7, 3) := by decide +kernel
theorem dX3_isAlarming_28 : decode cX3_isAlarming 28 = .ok (.iconst 1, 1) := by decide +kernel
theorem dX3_isAlarming_29 : decode cX3_isAlarming 29 = .ok (.goto 4, 3) := by decide +kernel
theorem dX3_isAlarming_32 : decode cX3_isAlarming 32 = .ok (.iconst 0, 1) := by decide +kernel
theorem dX3_isAlarming_33 : decode cX3_isAlarming 33 = .ok (.ireturn, 1) := by decide +kernel
theorem dX3_balesOn_0 : decode cX3_balesOn 0 = .ok (.iconst 0, 1) := by decide +kernel
theorem dX3_balesOn_1 : decode cX3_balesOn 1 = .ok (.istore_n 2, 1) := by decide +kernel
theorem dX3_balesOn_2 : decode cX3_balesOn 2 = .ok (.iconst 0, 1) := by decide +kernel
theorem dX3_balesOn_3 : decode cX3_balesOn 3 = .ok (.istore_n 3, 1) := by decide +kernel
theorem dX3_balesOn_4 : decode cX3_balesOn 4 = .ok (.iload_n 3, 1) := by decide +kernel
theorem dX3_balesOn_5 : decode cX3_balesOn 5 = .ok (.aload_n 0, 1) := by decide +kernel
theorem dX3_balesOn_6 : decode cX3_balesOn 6 = .ok (.getfield 74, 3) := by decide +kernel
theorem dX3_balesOn_9 : decode cX3_balesOn 9 = .ok (.if_icmp .ge 33, 3) := by decide +kernel
theorem dX3_balesOn_12 : decode cX3_balesOn 12 = .ok (.aload_n 0, 1) := by decide +kernel
theorem dX3_balesOn_13 : decode cX3_balesOn 13 = .ok (.iload_n 3, 1) := by decide +kernel
theorem dX3_balesOn_14 : decode cX3_balesOn 14 = .ok (.invokevirtual 86, 3) := by decide +kernel
theorem dX3_balesOn_17 : decode cX3_balesOn 17 = .ok (.astore 4, 2) := by decide +kernel
theorem dX3_balesOn_19 : decode cX3_balesOn 19 = .ok (.aload 4, 2) := by decide +kernel
theorem dX3_balesOn_21 : decode cX3_balesOn 21 = .ok (.ifnull 15, 3) := by decide +kernel
theorem dX3_balesOn_24 : decode cX3_balesOn 24 = .ok (.aload 4, 2) := by decide +kernel
theorem dX3_balesOn_26 : decode cX3_balesOn 26 = .ok (.iload_n 1, 1) := by decide +kernel
theorem dX3_balesOn_27 : decode cX3_balesOn 27 = .ok (.invokevirtual 247, 3) := by decide +kernel
theorem dX3_balesOn_30 : decode cX3_balesOn 30 = .ok (.ifCond .eq 6, 3) := by decide +kernel
theorem dX3_balesOn_33 : decode cX3_balesOn 33 = .ok (.iinc 2 1, 3) := by decide +kernel
theorem dX3_balesOn_36 : decode cX3_balesOn 36 = .ok (.iinc 3 1, 3) := by decide +kernel
theorem dX3_balesOn_39 : decode cX3_balesOn 39 = .ok (.goto (-35), 3) := by decide +kernel
theorem dX3_balesOn_42 : decode cX3_balesOn 42 = .ok (.iload_n 2, 1) := by decide +kernel
theorem dX3_balesOn_43 : decode cX3_balesOn 43 = .ok (.ireturn, 1) := by decide +kernel
theorem dX3_bearsOtherMainKind_0 : decode cX3_bearsOtherMainKind 0 = .ok (.iconst 0, 1) := by decide +kernel
theorem dX3_bearsOtherMainKind_1 : decode cX3_bearsOtherMainKind 1 = .ok (.istore_n 3, 1) := by decide +kernel
theorem dX3_bearsOtherMainKind_2 : decode cX3_bearsOtherMainKind 2 = .ok (.iload_n 3, 1) := by decide +kernel
theorem dX3_bearsOtherMainKind_3 : decode cX3_bearsOtherMainKind 3 = .ok (.aload_n 0, 1) := by decide +kernel
theorem dX3_bearsOtherMainKind_4 : decode cX3_bearsOtherMainKind 4 = .ok (.getfield 74, 3) := by decide +kernel
theorem dX3_bearsOtherMainKind_7 : decode cX3_bearsOtherMainKind 7 = .ok (.if_icmp .ge 41, 3) := by decide +kernel
theorem dX3_bearsOtherMainKind_10 : decode cX3_bearsOtherMainKind 10 = .ok (.aload_n 0, 1) := by decide +kernel
theorem dX3_bearsOtherMainKind_11 : decode cX3_bearsOtherMainKind 11 = .ok (.iload_n 3, 1) := by decide +kernel
theorem dX3_bearsOtherMainKind_12 : decode cX3_bearsOtherMainKind 12 = .ok (.invokevirtual 86, 3) := by decide +kernel
theorem dX3_bearsOtherMainKind_15 : decode cX3_bearsOtherMainKind 15 = .ok (.astore 4, 2) := by decide +kernel
theorem dX3_bearsOtherMainKind_17 : decode cX3_bearsOtherMainKind 17 = .ok (.aload 4, 2) := by decide +kernel
theorem dX3_bearsOtherMainKind_19 : decode cX3_bearsOtherMainKind 19 = .ok (.ifnull 23, 3) := by decide +kernel
theorem dX3_bearsOtherMainKind_22 : decode cX3_bearsOtherMainKind 22 = .ok (.aload 4, 2) := by decide +kernel
theorem dX3_bearsOtherMainKind_24 : decode cX3_bearsOtherMainKind 24 = .ok (.iload_n 1, 1) := by decide +kernel
theorem dX3_bearsOtherMainKind_25 : decode cX3_bearsOtherMainKind 25 = .ok (.invokevirtual 247, 3) := by decide +kernel
theorem dX3_bearsOtherMainKind_28 : decode cX3_bearsOtherMainKind 28 = .ok (.ifCond .eq 14, 3) := by decide +kernel
theorem dX3_bearsOtherMainKind_31 : decode cX3_bearsOtherMainKind 31 = .ok (.aload 4, 2) := by decide +kernel
theorem dX3_bearsOtherMainKind_33 : decode cX3_bearsOtherMainKind 33 = .ok (.invokevirtual 177, 3) := by decide +kernel
theorem dX3_bearsOtherMainKind_36 : decode cX3_bearsOtherMainKind 36 = .ok (.iload_n 2, 1) := by decide +kernel
theorem dX3_bearsOtherMainKind_37 : decode cX3_bearsOtherMainKind 37 = .ok (.if_icmp .eq 5, 3) := by decide +kernel
theorem dX3_bearsOtherMainKind_40 : decode cX3_bearsOtherMainKind 40 = .ok (.iconst 1, 1) := by decide +kernel
theorem dX3_bearsOtherMainKind_41 : decode cX3_bearsOtherMainKind 41 = .ok (.ireturn, 1) := by decide +kernel
theorem dX3_bearsOtherMainKind_42 : decode cX3_bearsOtherMainKind 42 = .ok (.iinc 3 1, 3) := by decide +kernel
theorem dX3_bearsOtherMainKind_45 : decode cX3_bearsOtherMainKind 45 = .ok (.goto (-43), 3) := by decide +kernel
theorem dX3_bearsOtherMainKind_48 : decode cX3_bearsOtherMainKind 48 = .ok (.iconst 0, 1) := by decide +kernel
theorem dX3_bearsOtherMainKind_49 : decode cX3_bearsOtherMainKind 49 = .ok (.ireturn, 1) := by decide +kernel
theorem dX3_gramsCloseTo_0 : decode cX3_gramsCloseTo 0 = .ok (.lconst 0, 1) := by decide +kernel
theorem dX3_gramsCloseTo_1 : decode cX3_gramsCloseTo 1 = .ok (.lstore_n 2, 1) := by decide +kernel
theorem dX3_gramsCloseTo_2 : decode cX3_gramsCloseTo 2 = .ok (.iconst 0, 1) := by decide +kernel
theorem dX3_gramsCloseTo_3 : decode cX3_gramsCloseTo 3 = .ok (.istore 4, 2) := by decide +kernel
theorem dX3_gramsCloseTo_5 : decode cX3_gramsCloseTo 5 = .ok (.iload 4, 2) := by decide +kernel
theorem dX3_gramsCloseTo_7 : decode cX3_gramsCloseTo 7 = .ok (.aload_n 0, 1) := by decide +kernel
theorem dX3_gramsCloseTo_8 : decode cX3_gramsCloseTo 8 = .ok (.getfield 74, 3) := by decide +kernel
theorem dX3_gramsCloseTo_11 : decode cX3_gramsCloseTo 11 = .ok (.if_icmp .ge 52, 3) := by decide +kernel
theorem dX3_gramsCloseTo_14 : decode cX3_gramsCloseTo 14 = .ok (.aload_n 0, 1) := by decide +kernel
theorem dX3_gramsCloseTo_15 : decode cX3_gramsCloseTo 15 = .ok (.iload 4, 2) := by decide +kernel
theorem dX3_gramsCloseTo_17 : decode cX3_gramsCloseTo 17 = .ok (.invokevirtual 86, 3) := by decide +kernel
theorem dX3_gramsCloseTo_20 : decode cX3_gramsCloseTo 20 = .ok (.astore 5, 2) := by decide +kernel
theorem dX3_gramsCloseTo_22 : decode cX3_gramsCloseTo 22 = .ok (.aload 5, 2) := by decide +kernel
theorem dX3_gramsCloseTo_24 : decode cX3_gramsCloseTo 24 = .ok (.ifnull 33, 3) := by decide +kernel
theorem dX3_gramsCloseTo_27 : decode cX3_gramsCloseTo 27 = .ok (.aload 5, 2) := by decide +kernel
theorem dX3_gramsCloseTo_29 : decode cX3_gramsCloseTo 29 = .ok (.getfield 164, 3) := by decide +kernel
theorem dX3_gramsCloseTo_32 : decode cX3_gramsCloseTo 32 = .ok (.iconst 1, 1) := by decide +kernel
theorem dX3_gramsCloseTo_33 : decode cX3_gramsCloseTo 33 = .ok (.if_icmp .ne 24, 3) := by decide +kernel
theorem dX3_gramsCloseTo_36 : decode cX3_gramsCloseTo 36 = .ok (.aload_n 0, 1) := by decide +kernel
theorem dX3_gramsCloseTo_37 : decode cX3_gramsCloseTo 37 = .ok (.aload 5, 2) := by decide +kernel
theorem dX3_gramsCloseTo_39 : decode cX3_gramsCloseTo 39 = .ok (.getfield 188, 3) := by decide +kernel
theorem dX3_gramsCloseTo_42 : decode cX3_gramsCloseTo 42 = .ok (.iload_n 1, 1) := by decide +kernel
theorem dX3_gramsCloseTo_43 : decode cX3_gramsCloseTo 43 = .ok (.invokevirtual 250, 3) := by decide +kernel
theorem dX3_gramsCloseTo_46 : decode cX3_gramsCloseTo 46 = .ok (.ifCond .eq 11, 3) := by decide +kernel
theorem dX3_gramsCloseTo_49 : decode cX3_gramsCloseTo 49 = .ok (.lload_n 2, 1) := by decide +kernel
theorem dX3_gramsCloseTo_50 : decode cX3_gramsCloseTo 50 = .ok (.aload 5, 2) := by decide +kernel
theorem dX3_gramsCloseTo_52 : decode cX3_gramsCloseTo 52 = .ok (.invokevirtual 96, 3) := by decide +kernel
theorem dX3_gramsCloseTo_55 : decode cX3_gramsCloseTo 55 = .ok (.ladd, 1) := by decide +kernel
theorem dX3_gramsCloseTo_56 : decode cX3_gramsCloseTo 56 = .ok (.lstore_n 2, 1) := by decide +kernel
theorem dX3_gramsCloseTo_57 : decode cX3_gramsCloseTo 57 = .ok (.iinc 4 1, 3) := by decide +kernel
theorem dX3_gramsCloseTo_60 : decode cX3_gramsCloseTo 60 = .ok (.goto (-55), 3) := by decide +kernel
theorem dX3_gramsCloseTo_63 : decode cX3_gramsCloseTo 63 = .ok (.lload_n 2, 1) := by decide +kernel
theorem dX3_gramsCloseTo_64 : decode cX3_gramsCloseTo 64 = .ok (.lreturn, 1) := by decide +kernel
theorem dX3_areClose_0 : decode cX3_areClose 0 = .ok (.iload_n 1, 1) := by decide +kernel
theorem dX3_areClose_1 : decode cX3_areClose 1 = .ok (.iload_n 2, 1) := by decide +kernel
theorem dX3_areClose_2 : decode cX3_areClose 2 = .ok (.invokestatic 253, 3) := by decide +kernel
theorem dX3_areClose_5 : decode cX3_areClose 5 = .ok (.istore_n 3, 1) := by decide +kernel
theorem dX3_areClose_6 : decode cX3_areClose 6 = .ok (.iload_n 1, 1) := by decide +kernel
theorem dX3_areClose_7 : decode cX3_areClose 7 = .ok (.iload_n 2, 1) := by decide +kernel
theorem dX3_areClose_8 : decode cX3_areClose 8 = .ok (.invokestatic 259, 3) := by decide +kernel
theorem dX3_areClose_11 : decode cX3_areClose 11 = .ok (.istore 4, 2) := by decide +kernel
theorem dX3_areClose_13 : decode cX3_areClose 13 = .ok (.iload_n 3, 1) := by decide +kernel
theorem dX3_areClose_14 : decode cX3_areClose 14 = .ok (.iload 4, 2) := by decide +kernel
theorem dX3_areClose_16 : decode cX3_areClose 16 = .ok (.if_icmp .ne 5, 3) := by decide +kernel
theorem dX3_areClose_19 : decode cX3_areClose 19 = .ok (.iconst 1, 1) := by decide +kernel
theorem dX3_areClose_20 : decode cX3_areClose 20 = .ok (.ireturn, 1) := by decide +kernel
theorem dX3_areClose_21 : decode cX3_areClose 21 = .ok (.aload_n 0, 1) := by decide +kernel
theorem dX3_areClose_22 : decode cX3_areClose 22 = .ok (.iload 4, 2) := by decide +kernel
theorem dX3_areClose_24 : decode cX3_areClose 24 = .ok (.invokevirtual 160, 3) := by decide +kernel
theorem dX3_areClose_27 : decode cX3_areClose 27 = .ok (.astore 5, 2) := by decide +kernel
theorem dX3_areClose_29 : decode cX3_areClose 29 = .ok (.aload 5, 2) := by decide +kernel
theorem dX3_areClose_31 : decode cX3_areClose 31 = .ok (.ifnull 19, 3) := by decide +kernel
theorem dX3_areClose_34 : decode cX3_areClose 34 = .ok (.iload 4, 2) := by decide +kernel
theorem dX3_areClose_36 : decode cX3_areClose 36 = .ok (.iload_n 3, 1) := by decide +kernel
theorem dX3_areClose_37 : decode cX3_areClose 37 = .ok (.isub, 1) := by decide +kernel
theorem dX3_areClose_38 : decode cX3_areClose 38 = .ok (.aload 5, 2) := by decide +kernel
theorem dX3_areClose_40 : decode cX3_areClose 40 = .ok (.getfield 262, 3) := by decide +kernel
theorem dX3_areClose_43 : decode cX3_areClose 43 = .ok (.if_icmp .gt 7, 3) := by decide +kernel
theorem dX3_areClose_46 : decode cX3_areClose 46 = .ok (.iconst 1, 1) := by decide +kernel
theorem dX3_areClose_47 : decode cX3_areClose 47 = .ok (.goto 4, 3) := by decide +kernel
theorem dX3_areClose_50 : decode cX3_areClose 50 = .ok (.iconst 0, 1) := by decide +kernel
theorem dX3_areClose_51 : decode cX3_areClose 51 = .ok (.ireturn, 1) := by decide +kernel
theorem dX3_writeLabel_0 : decode cX3_writeLabel 0 = .ok (.aload_n 0, 1) := by decide +kernel
theorem dX3_writeLabel_1 : decode cX3_writeLabel 1 = .ok (.getfield 48, 3) := by decide +kernel
theorem dX3_writeLabel_4 : decode cX3_writeLabel 4 = .ok (.iconst 0, 1) := by decide +kernel
theorem dX3_writeLabel_5 : decode cX3_writeLabel 5 = .ok (.invokevirtual 265, 3) := by decide +kernel
theorem dX3_writeLabel_8 : decode cX3_writeLabel 8 = .ok (.aload_n 0, 1) := by decide +kernel
theorem dX3_writeLabel_9 : decode cX3_writeLabel 9 = .ok (.getfield 48, 3) := by decide +kernel
theorem dX3_writeLabel_12 : decode cX3_writeLabel 12 = .ok (.bipush 66, 2) := by decide +kernel
theorem dX3_writeLabel_14 : decode cX3_writeLabel 14 = .ok (.invokevirtual 269, 3) := by decide +kernel
theorem dX3_writeLabel_17 : decode cX3_writeLabel 17 = .ok (.pop, 1) := by decide +kernel
theorem dX3_writeLabel_18 : decode cX3_writeLabel 18 = .ok (.aload_n 0, 1) := by decide +kernel
theorem dX3_writeLabel_19 : decode cX3_writeLabel 19 = .ok (.getfield 48, 3) := by decide +kernel
theorem dX3_writeLabel_22 : decode cX3_writeLabel 22 = .ok (.iload_n 1, 1) := by decide +kernel
theorem dX3_writeLabel_23 : decode cX3_writeLabel 23 = .ok (.invokevirtual 273, 3) := by decide +kernel
theorem dX3_writeLabel_26 : decode cX3_writeLabel 26 = .ok (.pop, 1) := by decide +kernel
theorem dX3_writeLabel_27 : decode cX3_writeLabel 27 = .ok (.aload_n 0, 1) := by decide +kernel
theorem dX3_writeLabel_28 : decode cX3_writeLabel 28 = .ok (.getfield 48, 3) := by decide +kernel
theorem dX3_writeLabel_31 : decode cX3_writeLabel 31 = .ok (.bipush 32, 2) := by decide +kernel
theorem dX3_writeLabel_33 : decode cX3_writeLabel 33 = .ok (.invokevirtual 269, 3) := by decide +kernel
theorem dX3_writeLabel_36 : decode cX3_writeLabel 36 = .ok (.pop, 1) := by decide +kernel
theorem dX3_writeLabel_37 : decode cX3_writeLabel 37 = .ok (.aload_n 0, 1) := by decide +kernel
theorem dX3_writeLabel_38 : decode cX3_writeLabel 38 = .ok (.getfield 48, 3) := by decide +kernel
theorem dX3_writeLabel_41 : decode cX3_writeLabel 41 = .ok (.aload_n 2, 1) := by decide +kernel
theorem dX3_writeLabel_42 : decode cX3_writeLabel 42 = .ok (.invokevirtual 96, 3) := by decide +kernel
theorem dX3_writeLabel_45 : decode cX3_writeLabel 45 = .ok (.l2i, 1) := by decide +kernel
theorem dX3_writeLabel_46 : decode cX3_writeLabel 46 = .ok (.invokevirtual 273, 3) := by decide +kernel
theorem dX3_writeLabel_49 : decode cX3_writeLabel 49 = .ok (.pop, 1) := by decide +kernel
theorem dX3_writeLabel_50 : decode cX3_writeLabel 50 = .ok (.aload_n 0, 1) := by decide +kernel
theorem dX3_writeLabel_51 : decode cX3_writeLabel 51 = .ok (.getfield 48, 3) := by decide +kernel
theorem dX3_writeLabel_54 : decode cX3_writeLabel 54 = .ok (.bipush 32, 2) := by decide +kernel
theorem dX3_writeLabel_56 : decode cX3_writeLabel 56 = .ok (.invokevirtual 269, 3) := by decide +kernel
theorem dX3_writeLabel_59 : decode cX3_writeLabel 59 = .ok (.pop, 1) := by decide +kernel
theorem dX3_writeLabel_60 : decode cX3_writeLabel 60 = .ok (.aload_n 0, 1) := by decide +kernel
theorem dX3_writeLabel_61 : decode cX3_writeLabel 61 = .ok (.getfield 48, 3) := by decide +kernel
theorem dX3_writeLabel_64 : decode cX3_writeLabel 64 = .ok (.aload_n 2, 1) := by decide +kernel
theorem dX3_writeLabel_65 : decode cX3_writeLabel 65 = .ok (.invokevirtual 177, 3) := by decide +kernel
theorem dX3_writeLabel_68 : decode cX3_writeLabel 68 = .ok (.invokevirtual 273, 3) := by decide +kernel
theorem dX3_writeLabel_71 : decode cX3_writeLabel 71 = .ok (.pop, 1) := by decide +kernel
theorem dX3_writeLabel_72 : decode cX3_writeLabel 72 = .ok (.return_, 1) := by decide +kernel
theorem dX4_init_0 : decode cX4_init 0 = .ok (.aload_n 0, 1) := by decide +kernel
theorem dX4_init_1 : decode cX4_init 1 = .ok (.invokespecial 1, 3) := by decide +kernel
theorem dX4_init_4 : decode cX4_init 4 = .ok (.aload_n 0, 1) := by decide +kernel
theorem dX4_init_5 : decode cX4_init 5 = .ok (.sipush 200, 3) := by decide +kernel
theorem dX4_init_8 : decode cX4_init 8 = .ok (.newarray .long, 2) := by decide +kernel
theorem dX4_init_10 : decode cX4_init 10 = .ok (.putfield 7, 3) := by decide +kernel
theorem dX4_init_13 : decode cX4_init 13 = .ok (.aload_n 0, 1) := by decide +kernel
theorem dX4_init_14 : decode cX4_init 14 = .ok (.sipush 200, 3) := by decide +kernel
theorem dX4_init_17 : decode cX4_init 17 = .ok (.newarray .int, 2) := by decide +kernel
theorem dX4_init_19 : decode cX4_init 19 = .ok (.putfield 13, 3) := by decide +kernel
theorem dX4_init_22 : decode cX4_init 22 = .ok (.aload_n 0, 1) := by decide +kernel
theorem dX4_init_23 : decode cX4_init 23 = .ok (.sipush 200, 3) := by decide +kernel
theorem dX4_init_26 : decode cX4_init 26 = .ok (.newarray .long, 2) := by decide +kernel
theorem dX4_init_28 : decode cX4_init 28 = .ok (.putfield 17, 3) := by decide +kernel
theorem dX4_init_31 : decode cX4_init 31 = .ok (.aload_n 0, 1) := by decide +kernel
theorem dX4_init_32 : decode cX4_init 32 = .ok (.sipush 200, 3) := by decide +kernel
theorem dX4_init_35 : decode cX4_init 35 = .ok (.newarray .int, 2) := by decide +kernel
theorem dX4_init_37 : decode cX4_init 37 = .ok (.putfield 20, 3) := by decide +kernel
theorem dX4_init_40 : decode cX4_init 40 = .ok (.aload_n 0, 1) := by decide +kernel
theorem dX4_init_41 : decode cX4_init 41 = .ok (.bipush 12, 2) := by decide +kernel
theorem dX4_init_43 : decode cX4_init 43 = .ok (.newarray .int, 2) := by decide +kernel
theorem dX4_init_45 : decode cX4_init 45 = .ok (.putfield 23, 3) := by decide +kernel
theorem dX4_init_48 : decode cX4_init 48 = .ok (.aload_n 0, 1) := by decide +kernel
theorem dX4_init_49 : decode cX4_init 49 = .ok (.bipush 12, 2) := by decide +kernel
theorem dX4_init_51 : decode cX4_init 51 = .ok (.newarray .double, 2) := by decide +kernel
theorem dX4_init_53 : decode cX4_init 53 = .ok (.putfield 26, 3) := by decide +kernel
theorem dX4_init_56 : decode cX4_init 56 = .ok (.aload_n 0, 1) := by decide +kernel
theorem dX4_init_57 : decode cX4_init 57 = .ok (.bipush 12, 2) := by decide +kernel
theorem dX4_init_59 : decode cX4_init 59 = .ok (.newarray .int, 2) := by decide +kernel
theorem dX4_init_61 : decode cX4_init 61 = .ok (.putfield 30, 3) := by decide +kernel
theorem dX4_init_64 : decode cX4_init 64 = .ok (.aload_n 0, 1) := by decide +kernel
theorem dX4_init_65 : decode cX4_init 65 = .ok (.bipush 12, 2) := by decide +kernel
theorem dX4_init_67 : decode cX4_init 67 = .ok (.newarray .int, 2) := by decide +kernel
theorem dX4_init_69 : decode cX4_init 69 = .ok (.putfield 33, 3) := by decide +kernel
theorem dX4_init_72 : decode cX4_init 72 = .ok (.aload_n 0, 1) := by decide +kernel
theorem dX4_init_73 : decode cX4_init 73 = .ok (.bipush 12, 2) := by decide +kernel
theorem dX4_init_75 : decode cX4_init 75 = .ok (.newarray .int, 2) := by decide +kernel
theorem dX4_init_77 : decode cX4_init 77 = .ok (.putfield 36, 3) := by decide +kernel
theorem dX4_init_80 : decode cX4_init 80 = .ok (.aload_n 0, 1) := by decide +kernel
theorem dX4_init_81 : decode cX4_init 81 = .ok (.bipush 12, 2) := by decide +kernel
theorem dX4_init_83 : decode cX4_init 83 = .ok (.newarray .int, 2) := by decide +kernel
theorem dX4_init_85 : decode cX4_init 85 = .ok (.putfield 39, 3) := by decide +kernel
theorem dX4_init_88 : decode cX4_init 88 = .ok (.aload_n 0, 1) := by decide +kernel
theorem dX4_init_89 : decode cX4_init 89 = .ok (.bipush 12, 2) := by decide +kernel
theorem dX4_init_91 : decode cX4_init 91 = .ok (.newarray .int, 2) := by decide +kernel
theorem dX4_init_93 : decode cX4_init 93 = .ok (.putfield 42, 3) := by decide +kernel
theorem dX4_init_96 : decode cX4_init 96 = .ok (.aload_n 0, 1) := by decide +kernel
theorem dX4_init_97 : decode cX4_init 97 = .ok (.bipush 12, 2) := by decide +kernel
theorem dX4_init_99 : decode cX4_init 99 = .ok (.newarray .int, 2) := by decide +kernel
theorem dX4_init_101 : decode cX4_init 101 = .ok (.putfield 45, 3) := by decide +kernel
theorem dX4_init_104 : decode cX4_init 104 = .ok (.aload_n 0, 1) := by decide +kernel
theorem dX4_init_105 : decode cX4_init 105 = .ok (.bipush 6, 2) := by decide +kernel
theorem dX4_init_107 : decode cX4_init 107 = .ok (.newarray .double, 2) := by decide +kernel
theorem dX4_init_109 : decode cX4_init 109 = .ok (.putfield 48, 3) := by decide +kernel
theorem dX4_init_112 : decode cX4_init 112 = .ok (.aload_n 0, 1) := by decide +kernel
theorem dX4_init_113 : decode cX4_init 113 = .ok (.bipush 6, 2) := by decide +kernel
theorem dX4_init_115 : decode cX4_init 115 = .ok (.newarray .double, 2) := by decide +kernel
theorem dX4_init_117 : decode cX4_init 117 = .ok (.putfield 51, 3) := by decide +kernel
theorem dX4_init_120 : decode cX4_init 120 = .ok (.aload_n 0, 1) := by decide +kernel
theorem dX4_init_121 : decode cX4_init 121 = .ok (.iconst 1, 1) := by decide +kernel
theorem dX4_init_122 : decode cX4_init 122 = .ok (.putfield 54, 3) := by decide +kernel
theorem dX4_init_125 : decode cX4_init 125 = .ok (.aload_n 0, 1) := by decide +kernel
theorem dX4_init_126 : decode cX4_init 126 = .ok (.iconst 4, 1) := by decide +kernel
theorem dX4_init_127 : decode cX4_init 127 = .ok (.newarray .int, 2) := by decide +kernel
theorem dX4_init_129 : decode cX4_init 129 = .ok (.putfield 58, 3) := by decide +kernel
theorem dX4_init_132 : decode cX4_init 132 = .ok (.aload_n 0, 1) := by decide +kernel
theorem dX4_init_133 : decode cX4_init 133 = .ok (.iconst 4, 1) := by decide +kernel
theorem dX4_init_134 : decode cX4_init 134 = .ok (.newarray .int, 2) := by decide +kernel
theorem dX4_init_136 : decode cX4_init 136 = .ok (.putfield 61, 3) := by decide +kernel
theorem dX4_init_139 : decode cX4_init 139 = .ok (.aload_n 0, 1) := by decide +kernel
theorem dX4_init_140 : decode cX4_init 140 = .ok (.iconst 3, 1) := by decide +kernel
theorem dX4_init_141 : decode cX4_init 141 = .ok (.newarray .long, 2) := by decide +kernel
theorem dX4_init_143 : decode cX4_init 143 = .ok (.putfield 64, 3) := by decide +kernel
theorem dX4_init_146 : decode cX4_init 146 = .ok (.aload_n 0, 1) := by decide +kernel
theorem dX4_init_147 : decode cX4_init 147 = .ok (.iconst 3, 1) := by decide +kernel
theorem dX4_init_148 : decode cX4_init 148 = .ok (.newarray .long, 2) := by decide +kernel
theorem dX4_init_150 : decode cX4_init 150 = .ok (.putfield 67, 3) := by decide +kernel
theorem dX4_init_153 : decode cX4_init 153 = .ok (.aload_n 0, 1) := by decide +kernel
theorem dX4_init_154 : decode cX4_init 154 = .ok (.bipush 24, 2) := by decide +kernel
theorem dX4_init_156 : decode cX4_init 156 = .ok (.newarray .int, 2) := by decide +kernel
theorem dX4_init_158 : decode cX4_init 158 = .ok (.putfield 70, 3) := by decide +kernel
theorem dX4_init_161 : decode cX4_init 161 = .ok (.aload_n 0, 1) := by decide +kernel
theorem dX4_init_162 : decode cX4_init 162 = .ok (.iconst 3, 1) := by decide +kernel
theorem dX4_init_163 : decode cX4_init 163 = .ok (.newarray .int, 2) := by decide +kernel
theorem dX4_init_165 : decode cX4_init 165 = .ok (.putfield 73, 3) := by decide +kernel
theorem dX4_init_168 : decode cX4_init 168 = .ok (.return_, 1) := by decide +kernel
theorem dX4_isIn_0 : decode cX4_isIn 0 = .ok (.lload_n 0, 1) := by decide +kernel
theorem dX4_isIn_1 : decode cX4_isIn 1 = .ok (.lload_n 2, 1) := by decide +kernel
theorem dX4_isIn_2 : decode cX4_isIn 2 = .ok (.lcmp, 1) := by decide +kernel
theorem dX4_isIn_3 : decode cX4_isIn 3 = .ok (.ifCond .lt 14, 3) := by decide +kernel
theorem dX4_isIn_6 : decode cX4_isIn 6 = .ok (.lload_n 0, 1) := by decide +kernel
theorem dX4_isIn_7 : decode cX4_isIn 7 = .ok (.lload 4, 2) := by decide +kernel
theorem dX4_isIn_9 : decode cX4_isIn 9 = .ok (.lcmp, 1) := by decide +kernel
theorem dX4_isIn_10 : decode cX4_isIn 10 = .ok (.ifCond .gt 7, 3) := by decide +kernel
theorem dX4_isIn_13 : decode cX4_isIn 13 = .ok (.iconst 1, 1) := by decide +kernel
theorem dX4_isIn_14 : decode cX4_isIn 14 = .ok (.goto 4, 3) := by decide +kernel
theorem dX4_isIn_17 : decode cX4_isIn 17 = .ok (.iconst 0, 1) := by decide +kernel
theorem dX4_isIn_18 : decode cX4_isIn 18 = .ok (.ireturn, 1) := by decide +kernel
theorem dX4_isWithin_0 : decode cX4_isWithin 0 = .ok (.dload_n 0, 1) := by decide +kernel
theorem dX4_isWithin_1 : decode cX4_isWithin 1 = .ok (.dload_n 2, 1) := by decide +kernel
theorem dX4_isWithin_2 : decode cX4_isWithin 2 = .ok (.dcmp .l, 1) := by decide +kernel
theorem dX4_isWithin_3 : decode cX4_isWithin 3 = .ok (.ifCond .lt 14, 3) := by decide +kernel
theorem dX4_isWithin_6 : decode cX4_isWithin 6 = .ok (.dload_n 0, 1) := by decide +kernel
theorem dX4_isWithin_7 : decode cX4_isWithin 7 = .ok (.dload 4, 2) := by decide +kernel
theorem dX4_isWithin_9 : decode cX4_isWithin 9 = .ok (.dcmp .g, 1) := by decide +kernel
theorem dX4_isWithin_10 : decode cX4_isWithin 10 = .ok (.ifCond .gt 7, 3) := by decide +kernel
theorem dX4_isWithin_13 : decode cX4_isWithin 13 = .ok (.iconst 1, 1) := by decide +kernel
theorem dX4_isWithin_14 : decode cX4_isWithin 14 = .ok (.goto 4, 3) := by decide +kernel
theorem dX4_isWithin_17 : decode cX4_isWithin 17 = .ok (.iconst 0, 1) := by decide +kernel
theorem dX4_isWithin_18 : decode cX4_isWithin 18 = .ok (.ireturn, 1) := by decide +kernel
theorem dX4_isBale_0 : decode cX4_isBale 0 = .ok (.iload_n 1, 1) := by decide +kernel
theorem dX4_isBale_1 : decode cX4_isBale 1 = .ok (.ifCond .lt 15, 3) := by decide +kernel
theorem dX4_isBale_4 : decode cX4_isBale 4 = .ok (.iload_n 1, 1) := by decide +kernel
theorem dX4_isBale_5 : decode cX4_isBale 5 = .ok (.aload_n 0, 1) := by decide +kernel
theorem dX4_isBale_6 : decode cX4_isBale 6 = .ok (.getfield 76, 3) := by decide +kernel
theorem dX4_isBale_9 : decode cX4_isBale 9 = .ok (.if_icmp .ge 7, 3) := by decide +kernel
theorem dX4_isBale_12 : decode cX4_isBale 12 = .ok (.iconst 1, 1) := by decide +kernel
theorem dX4_isBale_13 : decode cX4_isBale 13 = .ok (.goto 4, 3) := by decide +kernel
theorem dX4_isBale_16 : decode cX4_isBale 16 = .ok (.iconst 0, 1) := by decide +kernel
theorem dX4_isBale_17 : decode cX4_isBale 17 = .ok (.ireturn, 1) := by decide +kernel
theorem dX4_isKind_0 : decode cX4_isKind 0 = .ok (.iload_n 0, 1) := by decide +kernel
theorem dX4_isKind_1 : decode cX4_isKind 1 = .ok (.ifCond .lt 12, 3) := by decide +kernel
theorem dX4_isKind_4 : decode cX4_isKind 4 = .ok (.iload_n 0, 1) := by decide +kernel
theorem dX4_isKind_5 : decode cX4_isKind 5 = .ok (.iconst 4, 1) := by decide +kernel
theorem dX4_isKind_6 : decode cX4_isKind 6 = .ok (.if_icmp .ge 7, 3) := by decide +kernel
theorem dX4_isKind_9 : decode cX4_isKind 9 = .ok (.iconst 1, 1) := by decide +kernel
theorem dX4_isKind_10 : decode cX4_isKind 10 = .ok (.goto 4, 3) := by decide +kernel
theorem dX4_isKind_13 : decode cX4_isKind 13 = .ok (.iconst 0, 1) := by decide +kernel
theorem dX4_isKind_14 : decode cX4_isKind 14 = .ok (.ireturn, 1) := by decide +kernel
theorem dX4_feed_0 : decode cX4_feed 0 = .ok (.aload_n 0, 1) := by decide +kernel
theorem dX4_feed_1 : decode cX4_feed 1 = .ok (.getfield 79, 3) := by decide +kernel
theorem dX4_feed_4 : decode cX4_feed 4 = .ok (.sipush 200, 3) := by decide +kernel
theorem dX4_feed_7 : decode cX4_feed 7 = .ok (.if_icmp .eq 56, 3) := by decide +kernel
theorem dX4_feed_10 : decode cX4_feed 10 = .ok (.iload_n 3, 1) := by decide +kernel
theorem dX4_feed_11 : decode cX4_feed 11 = .ok (.invokestatic 82, 3) := by decide +kernel
theorem dX4_feed_14 : decode cX4_feed 14 = .ok (.ifCond .eq 49, 3) := by decide +kernel
theorem dX4_feed_17 : decode cX4_feed 17 = .ok (.lload_n 1, 1) := by decide +kernel
theorem dX4_feed_18 : decode cX4_feed 18 = .ok (.lconst 0, 1) := by decide +kernel
theorem dX4_feed_19 : decode cX4_feed 19 = .ok (.ldc2_w 86, 3) := by decide +kernel
theorem dX4_feed_22 : decode cX4_feed 22 = .ok (.invokestatic 88, 3) := by decide +kernel
theorem dX4_feed_25 : decode cX4_feed 25 = .ok (.ifCond .eq 38, 3) := by decide +kernel
theorem dX4_feed_28 : decode cX4_feed 28 = .ok (.lload 4, 2) := by decide +kernel
theorem dX4_feed_30 : decode cX4_feed 30 = .ok (.lconst 1, 1) := by decide +kernel
theorem dX4_feed_31 : decode cX4_feed 31 = .ok (.ldc2_w 92, 3) := by decide +kernel
theorem dX4_feed_34 : decode cX4_feed 34 = .ok (.invokestatic 88, 3) := by decide +kernel
theorem dX4_feed_37 : decode cX4_feed 37 = .ok (.ifCond .eq 26, 3) := by decide +kernel
theorem dX4_feed_40 : decode cX4_feed 40 = .ok (.aload_n 0, 1) := by decide +kernel
theorem dX4_feed_41 : decode cX4_feed 41 = .ok (.getfield 79, 3) := by decide +kernel
theorem dX4_feed_44 : decode cX4_feed 44 = .ok (.ifCond .le 21, 3) := by decide +kernel
theorem dX4_feed_47 : decode cX4_feed 47 = .ok (.lload_n 1, 1) := by decide +kernel
theorem dX4_feed_48 : decode cX4_feed 48 = .ok (.aload_n 0, 1) := by decide +kernel
theorem dX4_feed_49 : decode cX4_feed 49 = .ok (.getfield 7, 3) := by decide +kernel
theorem dX4_feed_52 : decode cX4_feed 52 = .ok (.aload_n 0, 1) := by decide +kernel
theorem dX4_feed_53 : decode cX4_feed 53 = .ok (.getfield 79, 3) := by decide +kernel
theorem dX4_feed_56 : decode cX4_feed 56 = .ok (.iconst 1, 1) := by decide +kernel
theorem dX4_feed_57 : decode cX4_feed 57 = .ok (.isub, 1) := by decide +kernel
theorem dX4_feed_58 : decode cX4_feed 58 = .ok (.laload, 1) := by decide +kernel
theorem dX4_feed_59 : decode cX4_feed 59 = .ok (.lcmp, 1) := by decide +kernel
theorem dX4_feed_60 : decode cX4_feed 60 = .ok (.ifCond .ge 5, 3) := by decide +kernel
theorem dX4_feed_63 : decode cX4_feed 63 = .ok (.iconst 0, 1) := by decide +kernel
theorem dX4_feed_64 : decode cX4_feed 64 = .ok (.ireturn, 1) := by decide +kernel
theorem dX4_feed_65 : decode cX4_feed 65 = .ok (.aload_n 0, 1) := by decide +kernel
theorem dX4_feed_66 : decode cX4_feed 66 = .ok (.getfield 7, 3) := by decide +kernel
theorem dX4_feed_69 : decode cX4_feed 69 = .ok (.aload_n 0, 1) := by decide +kernel
theorem dX4_feed_70 : decode cX4_feed 70 = .ok (.getfield 79, 3) := by decide +kernel
theorem dX4_feed_73 : decode cX4_feed 73 = .ok (.lload_n 1, 1) := by decide +kernel
theorem dX4_feed_74 : decode cX4_feed 74 = .ok (.lastore, 1) := by decide +kernel
theorem dX4_feed_75 : decode cX4_feed 75 = .ok (.aload_n 0, 1) := by decide +kernel
theorem dX4_feed_76 : decode cX4_feed 76 = .ok (.getfield 13, 3) := by decide +kernel
theorem dX4_feed_79 : decode cX4_feed 79 = .ok (.aload_n 0, 1) := by decide +kernel
theorem dX4_feed_80 : decode cX4_feed 80 = .ok (.getfield 79, 3) := by decide +kernel
theorem dX4_feed_83 : decode cX4_feed 83 = .ok (.iload_n 3, 1) := by decide +kernel
theorem dX4_feed_84 : decode cX4_feed 84 = .ok (.iastore, 1) := by decide +kernel
theorem dX4_feed_85 : decode cX4_feed 85 = .ok (.aload_n 0, 1) := by decide +kernel
theorem dX4_feed_86 : decode cX4_feed 86 = .ok (.getfield 17, 3) := by decide +kernel
theorem dX4_feed_89 : decode cX4_feed 89 = .ok (.aload_n 0, 1) := by decide +kernel
theorem dX4_feed_90 : decode cX4_feed 90 = .ok (.getfield 79, 3) := by decide +kernel
theorem dX4_feed_93 : decode cX4_feed 93 = .ok (.lload 4, 2) := by decide +kernel
theorem dX4_feed_95 : decode cX4_feed 95 = .ok (.lastore, 1) := by decide +kernel
theorem dX4_feed_96 : decode cX4_feed 96 = .ok (.aload_n 0, 1) := by decide +kernel
theorem dX4_feed_97 : decode cX4_feed 97 = .ok (.getfield 20, 3) := by decide +kernel
theorem dX4_feed_100 : decode cX4_feed 100 = .ok (.aload_n 0, 1) := by decide +kernel
theorem dX4_feed_101 : decode cX4_feed 101 = .ok (.getfield 79, 3) := by decide +kernel
theorem dX4_feed_104 : decode cX4_feed 104 = .ok (.iconst (-1), 1) := by decide +kernel
theorem dX4_feed_105 : decode cX4_feed 105 = .ok (.iastore, 1) := by decide +kernel
theorem dX4_feed_106 : decode cX4_feed 106 = .ok (.aload_n 0, 1) := by decide +kernel
theorem dX4_feed_107 : decode cX4_feed 107 = .ok (.dup, 1) := by decide +kernel
theorem dX4_feed_108 : decode cX4_feed 108 = .ok (.getfield 79, 3) := by decide +kernel
theorem dX4_feed_111 : decode cX4_feed 111 = .ok (.iconst 1, 1) := by decide +kernel
theorem dX4_feed_112 : decode cX4_feed 112 = .ok (.iadd, 1) := by decide +kernel
theorem dX4_feed_113 : decode cX4_feed 113 = .ok (.putfield 79, 3) := by decide +kernel
theorem dX4_feed_116 : decode cX4_feed 116 = .ok (.iconst 1, 1) := by decide +kernel
theorem dX4_feed_117 : decode cX4_feed 117 = .ok (.ireturn, 1) := by decide +kernel
theorem dX4_make_0 : decode cX4_make 0 = .ok (.aload_n 0, 1) := by decide +kernel
theorem dX4_make_1 : decode cX4_make 1 = .ok (.getfield 23, 3) := by decide +kernel
theorem dX4_make_4 : decode cX4_make 4 = .ok (.aload_n 0, 1) := by decide +kernel
theorem dX4_make_5 : decode cX4_make 5 = .ok (.getfield 76, 3) := by decide +kernel
theorem dX4_make_8 : decode cX4_make 8 = .ok (.iconst 0, 1) := by decide +kernel
theorem dX4_make_9 : decode cX4_make 9 = .ok (.iastore, 1) := by decide +kernel
theorem dX4_make_10 : decode cX4_make 10 = .ok (.aload_n 0, 1) := by decide +kernel
theorem dX4_make_11 : decode cX4_make 11 = .ok (.getfield 26, 3) := by decide +kernel
theorem dX4_make_14 : decode cX4_make 14 = .ok (.aload_n 0, 1) := by decide +kernel
theorem dX4_make_15 : decode cX4_make 15 = .ok (.getfield 76, 3) := by decide +kernel
theorem dX4_make_18 : decode cX4_make 18 = .ok (.ldc2_w 94, 3) := by decide +kernel
theorem dX4_make_21 : decode cX4_make 21 = .ok (.dastore, 1) := by decide +kernel
theorem dX4_make_22 : decode cX4_make 22 = .ok (.aload_n 0, 1) := by decide +kernel
theorem dX4_make_23 : decode cX4_make 23 = .ok (.getfield 42, 3) := by decide +kernel
theorem dX4_make_26 : decode cX4_make 26 = .ok (.aload_n 0, 1) := by decide +kernel
theorem dX4_make_27 : decode cX4_make 27 = .ok (.getfield 76, 3) := by decide +kernel
theorem dX4_make_30 : decode cX4_make 30 = .ok (.iconst (-1), 1) := by decide +kernel
theorem dX4_make_31 : decode cX4_make 31 = .ok (.iastore, 1) := by decide +kernel
theorem dX4_make_32 : decode cX4_make 32 = .ok (.aload_n 0, 1) := by decide +kernel
theorem dX4_make_33 : decode cX4_make 33 = .ok (.getfield 45, 3) := by decide +kernel
theorem dX4_make_36 : decode cX4_make 36 = .ok (.aload_n 0, 1) := by decide +kernel
theorem dX4_make_37 : decode cX4_make 37 = .ok (.getfield 76, 3) := by decide +kernel
theorem dX4_make_40 : decode cX4_make 40 = .ok (.iconst (-1), 1) := by decide +kernel
theorem dX4_make_41 : decode cX4_make 41 = .ok (.iastore, 1) := by decide +kernel
theorem dX4_make_42 : decode cX4_make 42 = .ok (.aload_n 0, 1) := by decide +kernel
theorem dX4_make_43 : decode cX4_make 43 = .ok (.getfield 36, 3) := by decide +kernel
theorem dX4_make_46 : decode cX4_make 46 = .ok (.aload_n 0, 1) := by decide +kernel
theorem dX4_make_47 : decode cX4_make 47 = .ok (.getfield 76, 3) := by decide +kernel
theorem dX4_make_50 : decode cX4_make 50 = .ok (.iconst (-1), 1) := by decide +kernel
theorem dX4_make_51 : decode cX4_make 51 = .ok (.iastore, 1) := by decide +kernel
theorem dX4_make_52 : decode cX4_make 52 = .ok (.aload_n 0, 1) := by decide +kernel
theorem dX4_make_53 : decode cX4_make 53 = .ok (.getfield 39, 3) := by decide +kernel
theorem dX4_make_56 : decode cX4_make 56 = .ok (.aload_n 0, 1) := by decide +kernel
theorem dX4_make_57 : decode cX4_make 57 = .ok (.getfield 76, 3) := by decide +kernel
theorem dX4_make_60 : decode cX4_make 60 = .ok (.iconst (-1), 1) := by decide +kernel
theorem dX4_make_61 : decode cX4_make 61 = .ok (.iastore, 1) := by decide +kernel
theorem dX4_make_62 : decode cX4_make 62 = .ok (.aload_n 0, 1) := by decide +kernel
theorem dX4_make_63 : decode cX4_make 63 = .ok (.dup, 1) := by decide +kernel
theorem dX4_make_64 : decode cX4_make 64 = .ok (.getfield 76, 3) := by decide +kernel
theorem dX4_make_67 : decode cX4_make 67 = .ok (.iconst 1, 1) := by decide +kernel
theorem dX4_make_68 : decode cX4_make 68 = .ok (.iadd, 1) := by decide +kernel
theorem dX4_make_69 : decode cX4_make 69 = .ok (.putfield 76, 3) := by decide +kernel
theorem dX4_make_72 : decode cX4_make 72 = .ok (.aload_n 0, 1) := by decide +kernel
theorem dX4_make_73 : decode cX4_make 73 = .ok (.getfield 76, 3) := by decide +kernel
theorem dX4_make_76 : decode cX4_make 76 = .ok (.iconst 1, 1) := by decide +kernel
theorem dX4_make_77 : decode cX4_make 77 = .ok (.isub, 1) := by decide +kernel
theorem dX4_make_78 : decode cX4_make 78 = .ok (.ireturn, 1) := by decide +kernel
theorem dX4_bale_0 : decode cX4_bale 0 = .ok (.iconst 0, 1) := by decide +kernel
theorem dX4_bale_1 : decode cX4_bale 1 = .ok (.istore_n 3, 1) := by decide +kernel
theorem dX4_bale_2 : decode cX4_bale 2 = .ok (.iconst 0, 1) := by decide +kernel
theorem dX4_bale_3 : decode cX4_bale 3 = .ok (.istore 4, 2) := by decide +kernel
theorem dX4_bale_5 : decode cX4_bale 5 = .ok (.iload 4, 2) := by decide +kernel
theorem dX4_bale_7 : decode cX4_bale 7 = .ok (.aload_n 0, 1) := by decide +kernel
theorem dX4_bale_8 : decode cX4_bale 8 = .ok (.getfield 79, 3) := by decide +kernel
theorem dX4_bale_11 : decode cX4_bale 11 = .ok (.if_icmp .ge 41, 3) := by decide +kernel
theorem dX4_bale_14 : decode cX4_bale 14 = .ok (.iload_n 3, 1) := by decide +kernel
theorem dX4_bale_15 : decode cX4_bale 15 = .ok (.ifCond .ne 25, 3) := by decide +kernel
theorem dX4_bale_18 : decode cX4_bale 18 = .ok (.aload_n 0, 1) := by decide +kernel
theorem dX4_bale_19 : decode cX4_bale 19 = .ok (.getfield 20, 3) := by decide +kernel
theorem dX4_bale_22 : decode cX4_bale 22 = .ok (.iload 4, 2) := by decide +kernel
theorem dX4_bale_24 : decode cX4_bale 24 = .ok (.iaload, 1) := by decide +kernel
theorem dX4_bale_25 : decode cX4_bale 25 = .ok (.ifCond .ge 19, 3) := by decide +kernel
theorem dX4_bale_28 : decode cX4_bale 28 = .ok (.aload_n 0, 1) := by decide +kernel
theorem dX4_bale_29 : decode cX4_bale 29 = .ok (.getfield 7, 3) := by decide +kernel
theorem dX4_bale_32 : decode cX4_bale 32 = .ok (.iload 4, 2) := by decide +kernel
theorem dX4_bale_34 : decode cX4_bale 34 = .ok (.laload, 1) := by decide +kernel
theorem dX4_bale_35 : decode cX4_bale 35 = .ok (.lload_n 1, 1) := by decide +kernel
theorem dX4_bale_36 : decode cX4_bale 36 = .ok (.lcmp, 1) := by decide +kernel
theorem dX4_bale_37 : decode cX4_bale 37 = .ok (.ifCond .gt 7, 3) := by decide +kernel
theorem dX4_bale_40 : decode cX4_bale 40 = .ok (.iconst 1, 1) := by decide +kernel
theorem dX4_bale_41 : decode cX4_bale 41 = .ok (.goto 4, 3) := by decide +kernel
theorem dX4_bale_44 : decode cX4_bale 44 = .ok (.iconst 0, 1) := by decide +kernel
theorem dX4_bale_45 : decode cX4_bale 45 = .ok (.istore_n 3, 1) := by decide +kernel
theorem dX4_bale_46 : decode cX4_bale 46 = .ok (.iinc 4 1, 3) := by decide +kernel
theorem dX4_bale_49 : decode cX4_bale 49 = .ok (.goto (-44), 3) := by decide +kernel
theorem dX4_bale_52 : decode cX4_bale 52 = .ok (.iload_n 3, 1) := by decide +kernel
theorem dX4_bale_53 : decode cX4_bale 53 = .ok (.ifCond .eq 12, 3) := by decide +kernel
theorem dX4_bale_56 : decode cX4_bale 56 = .ok (.aload_n 0, 1) := by decide +kernel
theorem dX4_bale_57 : decode cX4_bale 57 = .ok (.getfield 76, 3) := by decide +kernel
theorem dX4_bale_60 : decode cX4_bale 60 = .ok (.bipush 12, 2) := by decide +kernel
theorem dX4_bale_62 : decode cX4_bale 62 = .ok (.if_icmp .ne 5, 3) := by decide +kernel
theorem dX4_bale_65 : decode cX4_bale 65 = .ok (.iconst (-1), 1) := by decide +kernel
theorem dX4_bale_66 : decode cX4_bale 66 = .ok (.ireturn, 1) := by decide +kernel
theorem dX4_bale_67 : decode cX4_bale 67 = .ok (.iconst 0, 1) := by decide +kernel
theorem dX4_bale_68 : decode cX4_bale 68 = .ok (.istore 4, 2) := by decide +kernel
theorem dX4_bale_70 : decode cX4_bale 70 = .ok (.iload 4, 2) := by decide +kernel
theorem dX4_bale_72 : decode cX4_bale 72 = .ok (.aload_n 0, 1) := by decide +kernel
theorem dX4_bale_73 : decode cX4_bale 73 = .ok (.getfield 79, 3) := by decide +kernel
theorem dX4_bale_76 : decode cX4_bale 76 = .ok (.if_icmp .ge 52, 3) := by decide +kernel
theorem dX4_bale_79 : decode cX4_bale 79 = .ok (.aload_n 0, 1) := by decide +kernel
theorem dX4_bale_80 : decode cX4_bale 80 = .ok (.getfield 20, 3) := by decide +kernel
theorem dX4_bale_83 : decode cX4_bale 83 = .ok (.iload 4, 2) := by decide +kernel
theorem dX4_bale_85 : decode cX4_bale 85 = .ok (.aload_n 0, 1) := by decide +kernel
theorem dX4_bale_86 : decode cX4_bale 86 = .ok (.getfield 20, 3) := by decide +kernel
theorem dX4_bale_89 : decode cX4_bale 89 = .ok (.iload 4, 2) := by decide +kernel
theorem dX4_bale_91 : decode cX4_bale 91 = .ok (.iaload, 1) := by decide +kernel
theorem dX4_bale_92 : decode cX4_bale 92 = .ok (.ifCond .ge 22, 3) := by decide +kernel
theorem dX4_bale_95 : decode cX4_bale 95 = .ok (.aload_n 0, 1) := by decide +kernel
theorem dX4_bale_96 : decode cX4_bale 96 = .ok (.getfield 7, 3) := by decide +kernel
theorem dX4_bale_99 : decode cX4_bale 99 = .ok (.iload 4, 2) := by decide +kernel
theorem dX4_bale_101 : decode cX4_bale 101 = .ok (.laload, 1) := by decide +kernel
theorem dX4_bale_102 : decode cX4_bale 102 = .ok (.lload_n 1, 1) := by decide +kernel
theorem dX4_bale_103 : decode cX4_bale 103 = .ok (.lcmp, 1) := by decide +kernel
theorem dX4_bale_104 : decode cX4_bale 104 = .ok (.ifCond .gt 10, 3) := by decide +kernel
theorem dX4_bale_107 : decode cX4_bale 107 = .ok (.aload_n 0, 1) := by decide +kernel
theorem dX4_bale_108 : decode cX4_bale 108 = .ok (.getfield 76, 3) := by decide +kernel
theorem dX4_bale_111 : decode cX4_bale 111 = .ok (.goto 10, 3) := by decide +kernel
theorem dX4_bale_114 : decode cX4_bale 114 = .ok (.aload_n 0, 1) := by decide +kernel
theorem dX4_bale_115 : decode cX4_bale 115 = .ok (.getfield 20, 3) := by decide +kernel
theorem dX4_bale_118 : decode cX4_bale 118 = .ok (.iload 4, 2) := by decide +kernel
theorem dX4_bale_120 : decode cX4_bale 120 = .ok (.iaload, 1) := by decide +kernel
theorem dX4_bale_121 : decode cX4_bale 121 = .ok (.iastore, 1) := by decide +kernel
theorem dX4_bale_122 : decode cX4_bale 122 = .ok (.iinc 4 1, 3) := by decide +kernel
theorem dX4_bale_125 : decode cX4_bale 125 = .ok (.goto (-55), 3) := by decide +kernel
theorem dX4_bale_128 : decode cX4_bale 128 = .ok (.aload_n 0, 1) := by decide +kernel
theorem dX4_bale_129 : decode cX4_bale 129 = .ok (.invokevirtual 96, 3) := by decide +kernel
theorem dX4_bale_132 : decode cX4_bale 132 = .ok (.ireturn, 1) := by decide +kernel
theorem dX4_has_0 : decode cX4_has 0 = .ok (.iconst 1, 1) := by decide +kernel
theorem dX4_has_1 : decode cX4_has 1 = .ok (.iload_n 1, 1) := by decide +kernel
theorem dX4_has_2 : decode cX4_has 2 = .ok (.ishl, 1) := by decide +kernel
theorem dX4_has_3 : decode cX4_has 3 = .ok (.istore_n 3, 1) := by decide +kernel
theorem dX4_has_4 : decode cX4_has 4 = .ok (.iload_n 1, 1) := by decide +kernel
theorem dX4_has_5 : decode cX4_has 5 = .ok (.istore 4, 2) := by decide +kernel
theorem dX4_has_7 : decode cX4_has 7 = .ok (.iload 4, 2) := by decide +kernel
theorem dX4_has_9 : decode cX4_has 9 = .ok (.ifCond .lt 51, 3) := by decide +kernel
theorem dX4_has_12 : decode cX4_has 12 = .ok (.iload_n 3, 1) := by decide +kernel
theorem dX4_has_13 : decode cX4_has 13 = .ok (.iload 4, 2) := by decide +kernel
theorem dX4_has_15 : decode cX4_has 15 = .ok (.ishr, 1) := by decide +kernel
theorem dX4_has_16 : decode cX4_has 16 = .ok (.iconst 1, 1) := by decide +kernel
theorem dX4_has_17 : decode cX4_has 17 = .ok (.iand, 1) := by decide +kernel
theorem dX4_has_18 : decode cX4_has 18 = .ok (.iconst 1, 1) := by decide +kernel
theorem dX4_has_19 : decode cX4_has 19 = .ok (.if_icmp .ne 35, 3) := by decide +kernel
theorem dX4_has_22 : decode cX4_has 22 = .ok (.aload_n 0, 1) := by decide +kernel
theorem dX4_has_23 : decode cX4_has 23 = .ok (.getfield 42, 3) := by decide +kernel
theorem dX4_has_26 : decode cX4_has 26 = .ok (.iload 4, 2) := by decide +kernel
theorem dX4_has_28 : decode cX4_has 28 = .ok (.iaload, 1) := by decide +kernel
theorem dX4_has_29 : decode cX4_has 29 = .ok (.ifCond .lt 25, 3) := by decide +kernel
theorem dX4_has_32 : decode cX4_has 32 = .ok (.iload_n 3, 1) := by decide +kernel
theorem dX4_has_33 : decode cX4_has 33 = .ok (.iconst 1, 1) := by decide +kernel
theorem dX4_has_34 : decode cX4_has 34 = .ok (.aload_n 0, 1) := by decide +kernel
theorem dX4_has_35 : decode cX4_has 35 = .ok (.getfield 42, 3) := by decide +kernel
theorem dX4_has_38 : decode cX4_has 38 = .ok (.iload 4, 2) := by decide +kernel
theorem dX4_has_40 : decode cX4_has 40 = .ok (.iaload, 1) := by decide +kernel
theorem dX4_has_41 : decode cX4_has 41 = .ok (.ishl, 1) := by decide +kernel
theorem dX4_has_42 : decode cX4_has 42 = .ok (.iconst 1, 1) := by decide +kernel
theorem dX4_has_43 : decode cX4_has 43 = .ok (.aload_n 0, 1) := by decide +kernel
theorem dX4_has_44 : decode cX4_has 44 = .ok (.getfield 45, 3) := by decide +kernel
theorem dX4_has_47 : decode cX4_has 47 = .ok (.iload 4, 2) := by decide +kernel
theorem dX4_has_49 : decode cX4_has 49 = .ok (.iaload, 1) := by decide +kernel
theorem dX4_has_50 : decode cX4_has 50 = .ok (.ishl, 1) := by decide +kernel
theorem dX4_has_51 : decode cX4_has 51 = .ok (.ior, 1) := by decide +kernel
theorem dX4_has_52 : decode cX4_has 52 = .ok (.ior, 1) := by decide +kernel
theorem dX4_has_53 : decode cX4_has 53 = .ok (.istore_n 3, 1) := by decide +kernel
theorem dX4_has_54 : decode cX4_has 54 = .ok (.iinc 4 (-1), 3) := by decide +kernel
theorem dX4_has_57 : decode cX4_has 57 = .ok (.goto (-50), 3) := by decide +kernel
theorem dX4_has_60 : decode cX4_has 60 = .ok (.iload_n 3, 1) := by decide +kernel
theorem dX4_has_61 : decode cX4_has 61 = .ok (.iload_n 2, 1) := by decide +kernel
theorem dX4_has_62 : decode cX4_has 62 = .ok (.ishr, 1) := by decide +kernel
theorem dX4_has_63 : decode cX4_has 63 = .ok (.iconst 1, 1) := by decide +kernel
theorem dX4_has_64 : decode cX4_has 64 = .ok (.iand, 1) := by decide +kernel
theorem dX4_has_65 : decode cX4_has 65 = .ok (.iconst 1, 1) := by decide +kernel
theorem dX4_has_66 : decode cX4_has 66 = .ok (.if_icmp .ne 7, 3) := by decide +kernel
theorem dX4_has_69 : decode cX4_has 69 = .ok (.iconst 1, 1) := by decide +kernel
theorem dX4_has_70 : decode cX4_has 70 = .ok (.goto 4, 3) := by decide +kernel
theorem dX4_has_73 : decode cX4_has 73 = .ok (.iconst 0, 1) := by decide +kernel
theorem dX4_has_74 : decode cX4_has 74 = .ok (.ireturn, 1) := by decide +kernel
theorem dX4_gramsOf_0 : decode cX4_gramsOf 0 = .ok (.lconst 0, 1) := by decide +kernel
theorem dX4_gramsOf_1 : decode cX4_gramsOf 1 = .ok (.lstore_n 3, 1) := by decide +kernel
theorem dX4_gramsOf_2 : decode cX4_gramsOf 2 = .ok (.iconst 0, 1) := by decide +kernel
theorem dX4_gramsOf_3 : decode cX4_gramsOf 3 = .ok (.istore 5, 2) := by decide +kernel
theorem dX4_gramsOf_5 : decode cX4_gramsOf 5 = .ok (.iload 5, 2) := by decide +kernel
theorem dX4_gramsOf_7 : decode cX4_gramsOf 7 = .ok (.aload_n 0, 1) := by decide +kernel
theorem dX4_gramsOf_8 : decode cX4_gramsOf 8 = .ok (.getfield 79, 3) := by decide +kernel
theorem dX4_gramsOf_11 : decode cX4_gramsOf 11 = .ok (.if_icmp .ge 59, 3) := by decide +kernel
theorem dX4_gramsOf_14 : decode cX4_gramsOf 14 = .ok (.lload_n 3, 1) := by decide +kernel
theorem dX4_gramsOf_15 : decode cX4_gramsOf 15 = .ok (.aload_n 0, 1) := by decide +kernel
theorem dX4_gramsOf_16 : decode cX4_gramsOf 16 = .ok (.getfield 20, 3) := by decide +kernel
theorem dX4_gramsOf_19 : decode cX4_gramsOf 19 = .ok (.iload 5, 2) := by decide +kernel
theorem dX4_gramsOf_21 : decode cX4_gramsOf 21 = .ok (.iaload, 1) := by decide +kernel
theorem dX4_gramsOf_22 : decode cX4_gramsOf 22 = .ok (.ifCond .lt 39, 3) := by decide +kernel
theorem dX4_gramsOf_25 : decode cX4_gramsOf 25 = .ok (.aload_n 0, 1) := by decide +kernel
theorem dX4_gramsOf_26 : decode cX4_gramsOf 26 = .ok (.getfield 13, 3) := by decide +kernel
theorem dX4_gramsOf_29 : decode cX4_gramsOf 29 = .ok (.iload 5, 2) := by decide +kernel
theorem dX4_gramsOf_31 : decode cX4_gramsOf 31 = .ok (.iaload, 1) := by decide +kernel
theorem dX4_gramsOf_32 : decode cX4_gramsOf 32 = .ok (.iload_n 2, 1) := by decide +kernel
theorem dX4_gramsOf_33 : decode cX4_gramsOf 33 = .ok (.if_icmp .ne 28, 3) := by decide +kernel
theorem dX4_gramsOf_36 : decode cX4_gramsOf 36 = .ok (.aload_n 0, 1) := by decide +kernel
theorem dX4_gramsOf_37 : decode cX4_gramsOf 37 = .ok (.iload_n 1, 1) := by decide +kernel
theorem dX4_gramsOf_38 : decode cX4_gramsOf 38 = .ok (.aload_n 0, 1) := by decide +kernel
theorem dX4_gramsOf_39 : decode cX4_gramsOf 39 = .ok (.getfield 20, 3) := by decide +kernel
theorem dX4_gramsOf_42 : decode cX4_gramsOf 42 = .ok (.iload 5, 2) := by decide +kernel
theorem dX4_gramsOf_44 : decode cX4_gramsOf 44 = .ok (.iaload, 1) := by decide +kernel
theorem dX4_gramsOf_45 : decode cX4_gramsOf 45 = .ok (.invokevirtual 100, 3) := by decide +kernel
theorem dX4_gramsOf_48 : decode cX4_gramsOf 48 = .ok (.ifCond .eq 13, 3) := by decide +kernel
theorem dX4_gramsOf_51 : decode cX4_gramsOf 51 = .ok (.aload_n 0, 1) := by decide +kernel
theorem dX4_gramsOf_52 : decode cX4_gramsOf 52 = .ok (.getfield 17, 3) := by decide +kernel
theorem dX4_gramsOf_55 : decode cX4_gramsOf 55 = .ok (.iload 5, 2) := by decide +kernel
theorem dX4_gramsOf_57 : decode cX4_gramsOf 57 = .ok (.laload, 1) := by decide +kernel
theorem dX4_gramsOf_58 : decode cX4_gramsOf 58 = .ok (.goto 4, 3) := by decide +kernel
theorem dX4_gramsOf_61 : decode cX4_gramsOf 61 = .ok (.lconst 0, 1) := by decide +kernel
theorem dX4_gramsOf_62 : decode cX4_gramsOf 62 = .ok (.ladd, 1) := by decide +kernel
theorem dX4_gramsOf_63 : decode cX4_gramsOf 63 = .ok (.lstore_n 3, 1) := by decide +kernel
theorem dX4_gramsOf_64 : decode cX4_gramsOf 64 = .ok (.iinc 5 1, 3) := by decide +kernel
theorem dX4_gramsOf_67 : decode cX4_gramsOf 67 = .ok (.goto (-62), 3) := by decide +kernel
theorem dX4_gramsOf_70 : decode cX4_gramsOf 70 = .ok (.lload_n 3, 1) := by decide +kernel
theorem dX4_gramsOf_71 : decode cX4_gramsOf 71 = .ok (.lreturn, 1) := by decide +kernel
theorem dX4_weight_0 : decode cX4_weight 0 = .ok (.lconst 0, 1) := by decide +kernel
theorem dX4_weight_1 : decode cX4_weight 1 = .ok (.lstore_n 2, 1) := by decide +kernel
theorem dX4_weight_2 : decode cX4_weight 2 = .ok (.iconst 0, 1) := by decide +kernel
theorem dX4_weight_3 : decode cX4_weight 3 = .ok (.istore 4, 2) := by decide +kernel
theorem dX4_weight_5 : decode cX4_weight 5 = .ok (.iload 4, 2) := by decide +kernel
theorem dX4_weight_7 : decode cX4_weight 7 = .ok (.iconst 4, 1) := by decide +kernel
theorem dX4_weight_8 : decode cX4_weight 8 = .ok (.if_icmp .ge 19, 3) := by decide +kernel
theorem dX4_weight_11 : decode cX4_weight 11 = .ok (.lload_n 2, 1) := by decide +kernel
theorem dX4_weight_12 : decode cX4_weight 12 = .ok (.aload_n 0, 1) := by decide +kernel
theorem dX4_weight_13 : decode cX4_weight 13 = .ok (.iload_n 1, 1) := by decide +kernel
theorem dX4_weight_14 : decode cX4_weight 14 = .ok (.iload 4, 2) := by decide +kernel
theorem dX4_weight_16 : decode cX4_weight 16 = .ok (.invokevirtual 104, 3) := by decide +kernel
theorem dX4_weight_19 : decode cX4_weight 19 = .ok (.ladd, 1) := by decide +kernel
theorem dX4_weight_20 : decode cX4_weight 20 = .ok (.lstore_n 2, 1) := by decide +kernel
theorem dX4_weight_21 : decode cX4_weight 21 = .ok (.iinc 4 1, 3) := by decide +kernel
theorem dX4_weight_24 : decode cX4_weight 24 = .ok (.goto (-19), 3) := by decide +kernel
theorem dX4_weight_27 : decode cX4_weight 27 = .ok (.lload_n 2, 1) := by decide +kernel
theorem dX4_weight_28 : decode cX4_weight 28 = .ok (.lreturn, 1) := by decide +kernel
theorem dX4_mainOf_0 : decode cX4_mainOf 0 = .ok (.iconst 0, 1) := by decide +kernel
theorem dX4_mainOf_1 : decode cX4_mainOf 1 = .ok (.istore_n 2, 1) := by decide +kernel
theorem dX4_mainOf_2 : decode cX4_mainOf 2 = .ok (.iconst 1, 1) := by decide +kernel
theorem dX4_mainOf_3 : decode cX4_mainOf 3 = .ok (.istore_n 3, 1) := by decide +kernel
theorem dX4_mainOf_4 : decode cX4_mainOf 4 = .ok (.iload_n 3, 1) := by decide +kernel
theorem dX4_mainOf_5 : decode cX4_mainOf 5 = .ok (.iconst 4, 1) := by decide +kernel
theorem dX4_mainOf_6 : decode cX4_mainOf 6 = .ok (.if_icmp .ge 31, 3) := by decide +kernel
theorem dX4_mainOf_9 : decode cX4_mainOf 9 = .ok (.aload_n 0, 1) := by decide +kernel
theorem dX4_mainOf_10 : decode cX4_mainOf 10 = .ok (.iload_n 1, 1) := by decide +kernel
theorem dX4_mainOf_11 : decode cX4_mainOf 11 = .ok (.iload_n 3, 1) := by decide +kernel
theorem dX4_mainOf_12 : decode cX4_mainOf 12 = .ok (.invokevirtual 104, 3) := by decide +kernel
theorem dX4_mainOf_15 : decode cX4_mainOf 15 = .ok (.aload_n 0, 1) := by decide +kernel
theorem dX4_mainOf_16 : decode cX4_mainOf 16 = .ok (.iload_n 1, 1) := by decide +kernel
theorem dX4_mainOf_17 : decode cX4_mainOf 17 = .ok (.iload_n 2, 1) := by decide +kernel
theorem dX4_mainOf_18 : decode cX4_mainOf 18 = .ok (.invokevirtual 104, 3) := by decide +kernel
theorem dX4_mainOf_21 : decode cX4_mainOf 21 = .ok (.lcmp, 1) := by decide +kernel
theorem dX4_mainOf_22 : decode cX4_mainOf 22 = .ok (.ifCond .le 7, 3) := by decide +kernel
theorem dX4_mainOf_25 : decode cX4_mainOf 25 = .ok (.iload_n 3, 1) := by decide +kernel
theorem dX4_mainOf_26 : decode cX4_mainOf 26 = .ok (.goto 4, 3) := by decide +kernel
theorem dX4_mainOf_29 : decode cX4_mainOf 29 = .ok (.iload_n 2, 1) := by decide +kernel
theorem dX4_mainOf_30 : decode cX4_mainOf 30 = .ok (.istore_n 2, 1) := by decide +kernel
theorem dX4_mainOf_31 : decode cX4_mainOf 31 = .ok (.iinc 3 1, 3) := by decide +kernel
theorem dX4_mainOf_34 : decode cX4_mainOf 34 = .ok (.goto (-30), 3) := by decide +kernel
theorem dX4_mainOf_37 : decode cX4_mainOf 37 = .ok (.iload_n 2, 1) := by decide +kernel
theorem dX4_mainOf_38 : decode cX4_mainOf 38 = .ok (.ireturn, 1) := by decide +kernel
theorem dX4_in_0 : decode cX4_in 0 = .ok (.aload_n 0, 1) := by decide +kernel
theorem dX4_in_1 : decode cX4_in 1 = .ok (.iload_n 1, 1) := by decide +kernel
theorem dX4_in_2 : decode cX4_in 2 = .ok (.invokevirtual 108, 3) := by decide +kernel
theorem dX4_in_5 : decode cX4_in 5 = .ok (.ifCond .eq 19, 3) := by decide +kernel
theorem dX4_in_8 : decode cX4_in 8 = .ok (.iload_n 2, 1) := by decide +kernel
theorem dX4_in_9 : decode cX4_in 9 = .ok (.invokestatic 82, 3) := by decide +kernel
theorem dX4_in_12 : decode cX4_in 12 = .ok (.ifCond .eq 12, 3) := by decide +kernel
theorem dX4_in_15 : decode cX4_in 15 = .ok (.aload_n 0, 1) := by decide +kernel
theorem dX4_in_16 : decode cX4_in 16 = .ok (.iload_n 1, 1) := by decide +kernel
theorem dX4_in_17 : decode cX4_in 17 = .ok (.iload_n 2, 1) := by decide +kernel
theorem dX4_in_18 : decode cX4_in 18 = .ok (.invokevirtual 104, 3) := by decide +kernel
theorem dX4_in_21 : decode cX4_in 21 = .ok (.goto 6, 3) := by decide +kernel
theorem dX4_in_24 : decode cX4_in 24 = .ok (.ldc2_w 111, 3) := by decide +kernel
theorem dX4_in_27 : decode cX4_in 27 = .ok (.lreturn, 1) := by decide +kernel
theorem dX4_count_0 : decode cX4_count 0 = .ok (.iload_n 1, 1) := by decide +kernel
theorem dX4_count_1 : decode cX4_count 1 = .ok (.invokestatic 82, 3) := by decide +kernel
theorem dX4_count_4 : decode cX4_count 4 = .ok (.ifCond .ne 7, 3) := by decide +kernel
theorem dX4_count_7 : decode cX4_count 7 = .ok (.ldc2_w 111, 3) := by decide +kernel
theorem dX4_count_10 : decode cX4_count 10 = .ok (.lreturn, 1) := by decide +kernel
theorem dX4_count_11 : decode cX4_count 11 = .ok (.lconst 0, 1) := by decide +kernel
theorem dX4_count_12 : decode cX4_count 12 = .ok (.lstore_n 2, 1) := by decide +kernel
theorem dX4_count_13 : decode cX4_count 13 = .ok (.iconst 0, 1) := by decide +kernel
theorem dX4_count_14 : decode cX4_count 14 = .ok (.istore 4, 2) := by decide +kernel
theorem dX4_count_16 : decode cX4_count 16 = .ok (.iload 4, 2) := by decide +kernel
theorem dX4_count_18 : decode cX4_count 18 = .ok (.aload_n 0, 1) := by decide +kernel
theorem dX4_count_19 : decode cX4_count 19 = .ok (.getfield 79, 3) := by decide +kernel
theorem dX4_count_22 : decode cX4_count 22 = .ok (.if_icmp .ge 44, 3) := by decide +kernel
theorem dX4_count_25 : decode cX4_count 25 = .ok (.lload_n 2, 1) := by decide +kernel
theorem dX4_count_26 : decode cX4_count 26 = .ok (.aload_n 0, 1) := by decide +kernel
theorem dX4_count_27 : decode cX4_count 27 = .ok (.getfield 20, 3) := by decide +kernel
theorem dX4_count_30 : decode cX4_count 30 = .ok (.iload 4, 2) := by decide +kernel
theorem dX4_count_32 : decode cX4_count 32 = .ok (.iaload, 1) := by decide +kernel
theorem dX4_count_33 : decode cX4_count 33 = .ok (.ifCond .ge 24, 3) := by decide +kernel
theorem dX4_count_36 : decode cX4_count 36 = .ok (.aload_n 0, 1) := by decide +kernel
theorem dX4_count_37 : decode cX4_count 37 = .ok (.getfield 13, 3) := by decide +kernel
theorem dX4_count_40 : decode cX4_count 40 = .ok (.iload 4, 2) := by decide +kernel
theorem dX4_count_42 : decode cX4_count 42 = .ok (.iaload, 1) := by decide +kernel
theorem dX4_count_43 : decode cX4_count 43 = .ok (.iload_n 1, 1) := by decide +kernel
theorem dX4_count_44 : decode cX4_count 44 = .ok (.if_icmp .ne 13, 3) := by decide +kernel
theorem dX4_count_47 : decode cX4_count 47 = .ok (.aload_n 0, 1) := by decide +kernel
theorem dX4_count_48 : decode cX4_count 48 = .ok (.getfield 17, 3) := by decide +kernel
theorem dX4_count_51 : decode cX4_count 51 = .ok (.iload 4, 2) := by decide +kernel
theorem dX4_count_53 : decode cX4_count 53 = .ok (.laload, 1) := by decide +kernel
theorem dX4_count_54 : decode cX4_count 54 = .ok (.goto 4, 3) := by decide +kernel
theorem dX4_count_57 : decode cX4_count 57 = .ok (.lconst 0, 1) := by decide +kernel
theorem dX4_count_58 : decode cX4_count 58 = .ok (.ladd, 1) := by decide +kernel
theorem dX4_count_59 : decode cX4_count 59 = .ok (.lstore_n 2, 1) := by decide +kernel
theorem dX4_count_60 : decode cX4_count 60 = .ok (.iinc 4 1, 3) := by decide +kernel
theorem dX4_count_63 : decode cX4_count 63 = .ok (.goto (-47), 3) := by decide +kernel
theorem dX4_count_66 : decode cX4_count 66 = .ok (.lload_n 2, 1) := by decide +kernel
theorem dX4_count_67 : decode cX4_count 67 = .ok (.lreturn, 1) := by decide +kernel
theorem dX4_wires_0 : decode cX4_wires 0 = .ok (.aload_n 0, 1) := by decide +kernel
theorem dX4_wires_1 : decode cX4_wires 1 = .ok (.iload_n 1, 1) := by decide +kernel
theorem dX4_wires_2 : decode cX4_wires 2 = .ok (.invokevirtual 108, 3) := by decide +kernel
theorem dX4_wires_5 : decode cX4_wires 5 = .ok (.ifCond .ne 5, 3) := by decide +kernel
theorem dX4_wires_8 : decode cX4_wires 8 = .ok (.iconst (-1), 1) := by decide +kernel
theorem dX4_wires_9 : decode cX4_wires 9 = .ok (.ireturn, 1) := by decide +kernel
theorem dX4_wires_10 : decode cX4_wires 10 = .ok (.aload_n 0, 1) := by decide +kernel
theorem dX4_wires_11 : decode cX4_wires 11 = .ok (.iload_n 1, 1) := by decide +kernel
theorem dX4_wires_12 : decode cX4_wires 12 = .ok (.invokevirtual 113, 3) := by decide +kernel
theorem dX4_wires_15 : decode cX4_wires 15 = .ok (.ldc2_w 117, 3) := by decide +kernel
theorem dX4_wires_18 : decode cX4_wires 18 = .ok (.ladd, 1) := by decide +kernel
theorem dX4_wires_19 : decode cX4_wires 19 = .ok (.ldc2_w 119, 3) := by decide +kernel
theorem dX4_wires_22 : decode cX4_wires 22 = .ok (.ldiv, 1) := by decide +kernel
theorem dX4_wires_23 : decode cX4_wires 23 = .ok (.lstore_n 2, 1) := by decide +kernel
theorem dX4_wires_24 : decode cX4_wires 24 = .ok (.lload_n 2, 1) := by decide +kernel
theorem dX4_wires_25 : decode cX4_wires 25 = .ok (.ldc2_w 121, 3) := by decide +kernel
theorem dX4_wires_28 : decode cX4_wires 28 = .ok (.lcmp, 1) := by decide +kernel
theorem dX4_wires_29 : decode cX4_wires 29 = .ok (.ifCond .ge 7, 3) := by decide +kernel
theorem dX4_wires_32 : decode cX4_wires 32 = .ok (.iconst 3, 1) := by decide +kernel
theorem dX4_wires_33 : decode cX4_wires 33 = .ok (.goto 5, 3) := by decide +kernel
theorem dX4_wires_36 : decode cX4_wires 36 = .ok (.lload_n 2, 1) := by decide +kernel
theorem dX4_wires_37 : decode cX4_wires 37 = .ok (.l2i, 1) := by decide +kernel
theorem dX4_wires_38 : decode cX4_wires 38 = .ok (.ireturn, 1) := by decide +kernel
theorem dX4_size_0 : decode cX4_size 0 = .ok (.aload_n 0, 1) := by decide +kernel
theorem dX4_size_1 : decode cX4_size 1 = .ok (.iload_n 1, 1) := by decide +kernel
theorem dX4_size_2 : decode cX4_size 2 = .ok (.invokevirtual 108, 3) := by decide +kernel
theorem dX4_size_5 : decode cX4_size 5 = .ok (.ifCond .eq 14, 3) := by decide +kernel
theorem dX4_size_8 : decode cX4_size 8 = .ok (.dload_n 2, 1) := by decide +kernel
theorem dX4_size_9 : decode cX4_size 9 = .ok (.dconst 1, 1) := by decide +kernel
theorem dX4_size_10 : decode cX4_size 10 = .ok (.ldc2_w 123, 3) := by decide +kernel
theorem dX4_size_13 : decode cX4_size 13 = .ok (.invokestatic 125, 3) := by decide +kernel
theorem dX4_size_16 : decode cX4_size 16 = .ok (.ifCond .ne 7, 3) := by decide +kernel
theorem dX4_size_19 : decode cX4_size 19 = .ok (.ldc2_w 129, 3) := by decide +kernel
theorem dX4_size_22 : decode cX4_size 22 = .ok (.dreturn, 1) := by decide +kernel
theorem dX4_size_23 : decode cX4_size 23 = .ok (.aload_n 0, 1) := by decide +kernel
theorem dX4_size_24 : decode cX4_size 24 = .ok (.iload_n 1, 1) := by decide +kernel
theorem dX4_size_25 : decode cX4_size 25 = .ok (.invokevirtual 113, 3) := by decide +kernel
theorem dX4_size_28 : decode cX4_size 28 = .ok (.l2d, 1) := by decide +kernel
theorem dX4_size_29 : decode cX4_size 29 = .ok (.ldc2_w 131, 3) := by decide +kernel
theorem dX4_size_32 : decode cX4_size 32 = .ok (.dmul, 1) := by decide +kernel
theorem dX4_size_33 : decode cX4_size 33 = .ok (.dload_n 2, 1) := by decide +kernel
theorem dX4_size_34 : decode cX4_size 34 = .ok (.ddiv, 1) := by decide +kernel
theorem dX4_size_35 : decode cX4_size 35 = .ok (.dstore 4, 2) := by decide +kernel
theorem dX4_size_37 : decode cX4_size 37 = .ok (.dload 4, 2) := by decide +kernel
theorem dX4_size_39 : decode cX4_size 39 = .ok (.dload 4, 2) := by decide +kernel
theorem dX4_size_41 : decode cX4_size 41 = .ok (.ldc2_w 133, 3) := by decide +kernel
theorem dX4_size_44 : decode cX4_size 44 = .ok (.dmul, 1) := by decide +kernel
theorem dX4_size_45 : decode cX4_size 45 = .ok (.dadd, 1) := by decide +kernel
theorem dX4_size_46 : decode cX4_size 46 = .ok (.dreturn, 1) := by decide +kernel
theorem dX4_state_0 : decode cX4_state 0 = .ok (.aload_n 0, 1) := by decide +kernel
theorem dX4_state_1 : decode cX4_state 1 = .ok (.iload_n 1, 1) := by decide +kernel
theorem dX4_state_2 : decode cX4_state 2 = .ok (.invokevirtual 108, 3) := by decide +kernel
theorem dX4_state_5 : decode cX4_state 5 = .ok (.ifCond .eq 12, 3) := by decide +kernel
theorem dX4_state_8 : decode cX4_state 8 = .ok (.aload_n 0, 1) := by decide +kernel
theorem dX4_state_9 : decode cX4_state 9 = .ok (.getfield 23, 3) := by decide +kernel
theorem dX4_state_12 : decode cX4_state 12 = .ok (.iload_n 1, 1) := by decide +kernel
theorem dX4_state_13 : decode cX4_state 13 = .ok (.iaload, 1) := by decide +kernel
theorem dX4_state_14 : decode cX4_state 14 = .ok (.goto 4, 3) := by decide +kernel
theorem dX4_state_17 : decode cX4_state 17 = .ok (.iconst (-1), 1) := by decide +kernel
theorem dX4_state_18 : decode cX4_state 18 = .ok (.ireturn, 1) := by decide +kernel
theorem dX4_row_0 : decode cX4_row 0 = .ok (.aload_n 0, 1) := by decide +kernel
theorem dX4_row_1 : decode cX4_row 1 = .ok (.getfield 135, 3) := by decide +kernel
theorem dX4_row_4 : decode cX4_row 4 = .ok (.bipush 6, 2) := by decide +kernel
theorem dX4_row_6 : decode cX4_row 6 = .ok (.if_icmp .eq 50, 3) := by decide +kernel
theorem dX4_row_9 : decode cX4_row 9 = .ok (.dload_n 1, 1) := by decide +kernel
theorem dX4_row_10 : decode cX4_row 10 = .ok (.ldc2_w 138, 3) := by decide +kernel
theorem dX4_row_13 : decode cX4_row 13 = .ok (.ldc2_w 140, 3) := by decide +kernel
theorem dX4_row_16 : decode cX4_row 16 = .ok (.invokestatic 125, 3) := by decide +kernel
theorem dX4_row_19 : decode cX4_row 19 = .ok (.ifCond .eq 37, 3) := by decide +kernel
theorem dX4_row_22 : decode cX4_row 22 = .ok (.dload_n 3, 1) := by decide +kernel
theorem dX4_row_23 : decode cX4_row 23 = .ok (.dconst 0, 1) := by decide +kernel
theorem dX4_row_24 : decode cX4_row 24 = .ok (.ldc2_w 142, 3) := by decide +kernel
theorem dX4_row_27 : decode cX4_row 27 = .ok (.invokestatic 125, 3) := by decide +kernel
theorem dX4_row_30 : decode cX4_row 30 = .ok (.ifCond .eq 26, 3) := by decide +kernel
theorem dX4_row_33 : decode cX4_row 33 = .ok (.aload_n 0, 1) := by decide +kernel
theorem dX4_row_34 : decode cX4_row 34 = .ok (.getfield 135, 3) := by decide +kernel
theorem dX4_row_37 : decode cX4_row 37 = .ok (.ifCond .le 21, 3) := by decide +kernel
theorem dX4_row_40 : decode cX4_row 40 = .ok (.dload_n 1, 1) := by decide +kernel
theorem dX4_row_41 : decode cX4_row 41 = .ok (.aload_n 0, 1) := by decide +kernel
theorem dX4_row_42 : decode cX4_row 42 = .ok (.getfield 48, 3) := by decide +kernel
theorem dX4_row_45 : decode cX4_row 45 = .ok (.aload_n 0, 1) := by decide +kernel
theorem dX4_row_46 : decode cX4_row 46 = .ok (.getfield 135, 3) := by decide +kernel
theorem dX4_row_49 : decode cX4_row 49 = .ok (.iconst 1, 1) := by decide +kernel
theorem dX4_row_50 : decode cX4_row 50 = .ok (.isub, 1) := by decide +kernel
theorem dX4_row_51 : decode cX4_row 51 = .ok (.daload, 1) := by decide +kernel
theorem dX4_row_52 : decode cX4_row 52 = .ok (.dcmp .g, 1) := by decide +kernel
theorem dX4_row_53 : decode cX4_row 53 = .ok (.ifCond .gt 5, 3) := by decide +kernel
theorem dX4_row_56 : decode cX4_row 56 = .ok (.iconst 0, 1) := by decide +kernel
theorem dX4_row_57 : decode cX4_row 57 = .ok (.ireturn, 1) := by decide +kernel
theorem dX4_row_58 : decode cX4_row 58 = .ok (.aload_n 0, 1) := by decide +kernel
theorem dX4_row_59 : decode cX4_row 59 = .ok (.getfield 48, 3) := by decide +kernel
end
section
theorem dX4_row_62 : decode cX4_row 62 = .ok (.aload_n 0, 1) := by decide +kernel
theorem dX4_row_63 : decode cX4_row 63 = .ok (.getfield 135, 3) := by decide +kernel
theorem dX4_row_66 : decode cX4_row 66 = .ok (.dload_n 1, 1) := by decide +kernel
theorem dX4_row_67 : decode cX4_row 67 = .ok (.dastore, 1) := by decide +kernel
theorem dX4_row_68 : decode cX4_row 68 = .ok (.aload_n 0, 1) := by decide +kernel
theorem dX4_row_69 : decode cX4_row 69 = .ok (.getfield 51, 3) := by decide +kernel
theorem dX4_row_72 : decode cX4_row 72 = .ok (.aload_n 0, 1) := by decide +kernel
theorem dX4_row_73 : decode cX4_row 73 = .ok (.getfield 135, 3) := by decide +kernel
theorem dX4_row_76 : decode cX4_row 76 = .ok (.dload_n 3, 1) := by decide +kernel
theorem dX4_row_77 : decode cX4_row 77 = .ok (.dastore, 1) := by decide +kernel
theorem dX4_row_78 : decode cX4_row 78 = .ok (.aload_n 0, 1) := by decide +kernel
theorem dX4_row_79 : decode cX4_row 79 = .ok (.dup, 1) := by decide +kernel
theorem dX4_row_80 : decode cX4_row 80 = .ok (.getfield 135, 3) := by decide +kernel
theorem dX4_row_83 : decode cX4_row 83 = .ok (.iconst 1, 1) := by decide +kernel
theorem dX4_row_84 : decode cX4_row 84 = .ok (.iadd, 1) := by decide +kernel
theorem dX4_row_85 : decode cX4_row 85 = .ok (.putfield 135, 3) := by decide +kernel
theorem dX4_row_88 : decode cX4_row 88 = .ok (.iconst 1, 1) := by decide +kernel
theorem dX4_row_89 : decode cX4_row 89 = .ok (.ireturn, 1) := by decide +kernel
theorem dX4_warm_0 : decode cX4_warm 0 = .ok (.aload_n 0, 1) := by decide +kernel
theorem dX4_warm_1 : decode cX4_warm 1 = .ok (.iload_n 1, 1) := by decide +kernel
theorem dX4_warm_2 : decode cX4_warm 2 = .ok (.invokevirtual 108, 3) := by decide +kernel
theorem dX4_warm_5 : decode cX4_warm 5 = .ok (.ifCond .eq 38, 3) := by decide +kernel
theorem dX4_warm_8 : decode cX4_warm 8 = .ok (.aload_n 0, 1) := by decide +kernel
theorem dX4_warm_9 : decode cX4_warm 9 = .ok (.getfield 23, 3) := by decide +kernel
theorem dX4_warm_12 : decode cX4_warm 12 = .ok (.iload_n 1, 1) := by decide +kernel
theorem dX4_warm_13 : decode cX4_warm 13 = .ok (.iaload, 1) := by decide +kernel
theorem dX4_warm_14 : decode cX4_warm 14 = .ok (.iconst 2, 1) := by decide +kernel
theorem dX4_warm_15 : decode cX4_warm 15 = .ok (.if_icmp .ge 28, 3) := by decide +kernel
theorem dX4_warm_18 : decode cX4_warm 18 = .ok (.iload_n 2, 1) := by decide +kernel
theorem dX4_warm_19 : decode cX4_warm 19 = .ok (.i2l, 1) := by decide +kernel
theorem dX4_warm_20 : decode cX4_warm 20 = .ok (.lconst 0, 1) := by decide +kernel
theorem dX4_warm_21 : decode cX4_warm 21 = .ok (.ldc2_w 144, 3) := by decide +kernel
theorem dX4_warm_24 : decode cX4_warm 24 = .ok (.invokestatic 88, 3) := by decide +kernel
theorem dX4_warm_27 : decode cX4_warm 27 = .ok (.ifCond .eq 16, 3) := by decide +kernel
theorem dX4_warm_30 : decode cX4_warm 30 = .ok (.dload_n 3, 1) := by decide +kernel
theorem dX4_warm_31 : decode cX4_warm 31 = .ok (.ldc2_w 138, 3) := by decide +kernel
theorem dX4_warm_34 : decode cX4_warm 34 = .ok (.ldc2_w 146, 3) := by decide +kernel
theorem dX4_warm_37 : decode cX4_warm 37 = .ok (.invokestatic 125, 3) := by decide +kernel
theorem dX4_warm_40 : decode cX4_warm 40 = .ok (.ifCond .ne 7, 3) := by decide +kernel
theorem dX4_warm_43 : decode cX4_warm 43 = .ok (.ldc2_w 148, 3) := by decide +kernel
theorem dX4_warm_46 : decode cX4_warm 46 = .ok (.dreturn, 1) := by decide +kernel
theorem dX4_warm_47 : decode cX4_warm 47 = .ok (.iconst 0, 1) := by decide +kernel
theorem dX4_warm_48 : decode cX4_warm 48 = .ok (.istore 5, 2) := by decide +kernel
theorem dX4_warm_50 : decode cX4_warm 50 = .ok (.iload 5, 2) := by decide +kernel
theorem dX4_warm_52 : decode cX4_warm 52 = .ok (.iload_n 2, 1) := by decide +kernel
theorem dX4_warm_53 : decode cX4_warm 53 = .ok (.if_icmp .ge 152, 3) := by decide +kernel
theorem dX4_warm_56 : decode cX4_warm 56 = .ok (.aload_n 0, 1) := by decide +kernel
theorem dX4_warm_57 : decode cX4_warm 57 = .ok (.getfield 26, 3) := by decide +kernel
theorem dX4_warm_60 : decode cX4_warm 60 = .ok (.iload_n 1, 1) := by decide +kernel
theorem dX4_warm_61 : decode cX4_warm 61 = .ok (.daload, 1) := by decide +kernel
theorem dX4_warm_62 : decode cX4_warm 62 = .ok (.dstore 6, 2) := by decide +kernel
theorem dX4_warm_64 : decode cX4_warm 64 = .ok (.dconst 0, 1) := by decide +kernel
theorem dX4_warm_65 : decode cX4_warm 65 = .ok (.dstore 8, 2) := by decide +kernel
theorem dX4_warm_67 : decode cX4_warm 67 = .ok (.iconst 0, 1) := by decide +kernel
theorem dX4_warm_68 : decode cX4_warm 68 = .ok (.istore 10, 2) := by decide +kernel
theorem dX4_warm_70 : decode cX4_warm 70 = .ok (.iload 10, 2) := by decide +kernel
theorem dX4_warm_72 : decode cX4_warm 72 = .ok (.aload_n 0, 1) := by decide +kernel
theorem dX4_warm_73 : decode cX4_warm 73 = .ok (.getfield 135, 3) := by decide +kernel
theorem dX4_warm_76 : decode cX4_warm 76 = .ok (.if_icmp .ge 36, 3) := by decide +kernel
theorem dX4_warm_79 : decode cX4_warm 79 = .ok (.aload_n 0, 1) := by decide +kernel
theorem dX4_warm_80 : decode cX4_warm 80 = .ok (.getfield 48, 3) := by decide +kernel
theorem dX4_warm_83 : decode cX4_warm 83 = .ok (.iload 10, 2) := by decide +kernel
theorem dX4_warm_85 : decode cX4_warm 85 = .ok (.daload, 1) := by decide +kernel
theorem dX4_warm_86 : decode cX4_warm 86 = .ok (.dload 6, 2) := by decide +kernel
theorem dX4_warm_88 : decode cX4_warm 88 = .ok (.dcmp .g, 1) := by decide +kernel
theorem dX4_warm_89 : decode cX4_warm 89 = .ok (.ifCond .gt 13, 3) := by decide +kernel
theorem dX4_warm_92 : decode cX4_warm 92 = .ok (.aload_n 0, 1) := by decide +kernel
theorem dX4_warm_93 : decode cX4_warm 93 = .ok (.getfield 51, 3) := by decide +kernel
theorem dX4_warm_96 : decode cX4_warm 96 = .ok (.iload 10, 2) := by decide +kernel
theorem dX4_warm_98 : decode cX4_warm 98 = .ok (.daload, 1) := by decide +kernel
theorem dX4_warm_99 : decode cX4_warm 99 = .ok (.goto 5, 3) := by decide +kernel
theorem dX4_warm_102 : decode cX4_warm 102 = .ok (.dload 8, 2) := by decide +kernel
theorem dX4_warm_104 : decode cX4_warm 104 = .ok (.dstore 8, 2) := by decide +kernel
theorem dX4_warm_106 : decode cX4_warm 106 = .ok (.iinc 10 1, 3) := by decide +kernel
theorem dX4_warm_109 : decode cX4_warm 109 = .ok (.goto (-39), 3) := by decide +kernel
theorem dX4_warm_112 : decode cX4_warm 112 = .ok (.aload_n 0, 1) := by decide +kernel
theorem dX4_warm_113 : decode cX4_warm 113 = .ok (.getfield 26, 3) := by decide +kernel
theorem dX4_warm_116 : decode cX4_warm 116 = .ok (.iload_n 1, 1) := by decide +kernel
theorem dX4_warm_117 : decode cX4_warm 117 = .ok (.dload 6, 2) := by decide +kernel
theorem dX4_warm_119 : decode cX4_warm 119 = .ok (.dload 8, 2) := by decide +kernel
theorem dX4_warm_121 : decode cX4_warm 121 = .ok (.dadd, 1) := by decide +kernel
theorem dX4_warm_122 : decode cX4_warm 122 = .ok (.dload 6, 2) := by decide +kernel
theorem dX4_warm_124 : decode cX4_warm 124 = .ok (.dload_n 3, 1) := by decide +kernel
theorem dX4_warm_125 : decode cX4_warm 125 = .ok (.dsub, 1) := by decide +kernel
theorem dX4_warm_126 : decode cX4_warm 126 = .ok (.ldc2_w 133, 3) := by decide +kernel
theorem dX4_warm_129 : decode cX4_warm 129 = .ok (.dmul, 1) := by decide +kernel
theorem dX4_warm_130 : decode cX4_warm 130 = .ok (.dsub, 1) := by decide +kernel
theorem dX4_warm_131 : decode cX4_warm 131 = .ok (.dastore, 1) := by decide +kernel
theorem dX4_warm_132 : decode cX4_warm 132 = .ok (.aload_n 0, 1) := by decide +kernel
theorem dX4_warm_133 : decode cX4_warm 133 = .ok (.getfield 33, 3) := by decide +kernel
theorem dX4_warm_136 : decode cX4_warm 136 = .ok (.iload_n 1, 1) := by decide +kernel
theorem dX4_warm_137 : decode cX4_warm 137 = .ok (.aload_n 0, 1) := by decide +kernel
theorem dX4_warm_138 : decode cX4_warm 138 = .ok (.getfield 26, 3) := by decide +kernel
theorem dX4_warm_141 : decode cX4_warm 141 = .ok (.iload_n 1, 1) := by decide +kernel
theorem dX4_warm_142 : decode cX4_warm 142 = .ok (.daload, 1) := by decide +kernel
theorem dX4_warm_143 : decode cX4_warm 143 = .ok (.ldc2_w 146, 3) := by decide +kernel
theorem dX4_warm_146 : decode cX4_warm 146 = .ok (.dcmp .l, 1) := by decide +kernel
theorem dX4_warm_147 : decode cX4_warm 147 = .ok (.ifCond .lt 14, 3) := by decide +kernel
theorem dX4_warm_150 : decode cX4_warm 150 = .ok (.aload_n 0, 1) := by decide +kernel
theorem dX4_warm_151 : decode cX4_warm 151 = .ok (.getfield 33, 3) := by decide +kernel
theorem dX4_warm_154 : decode cX4_warm 154 = .ok (.iload_n 1, 1) := by decide +kernel
theorem dX4_warm_155 : decode cX4_warm 155 = .ok (.iaload, 1) := by decide +kernel
theorem dX4_warm_156 : decode cX4_warm 156 = .ok (.iconst 1, 1) := by decide +kernel
theorem dX4_warm_157 : decode cX4_warm 157 = .ok (.iadd, 1) := by decide +kernel
theorem dX4_warm_158 : decode cX4_warm 158 = .ok (.goto 4, 3) := by decide +kernel
theorem dX4_warm_161 : decode cX4_warm 161 = .ok (.iconst 0, 1) := by decide +kernel
theorem dX4_warm_162 : decode cX4_warm 162 = .ok (.iastore, 1) := by decide +kernel
theorem dX4_warm_163 : decode cX4_warm 163 = .ok (.aload_n 0, 1) := by decide +kernel
theorem dX4_warm_164 : decode cX4_warm 164 = .ok (.getfield 30, 3) := by decide +kernel
theorem dX4_warm_167 : decode cX4_warm 167 = .ok (.iload_n 1, 1) := by decide +kernel
theorem dX4_warm_168 : decode cX4_warm 168 = .ok (.aload_n 0, 1) := by decide +kernel
theorem dX4_warm_169 : decode cX4_warm 169 = .ok (.getfield 33, 3) := by decide +kernel
theorem dX4_warm_172 : decode cX4_warm 172 = .ok (.iload_n 1, 1) := by decide +kernel
theorem dX4_warm_173 : decode cX4_warm 173 = .ok (.iaload, 1) := by decide +kernel
theorem dX4_warm_174 : decode cX4_warm 174 = .ok (.aload_n 0, 1) := by decide +kernel
theorem dX4_warm_175 : decode cX4_warm 175 = .ok (.getfield 30, 3) := by decide +kernel
theorem dX4_warm_178 : decode cX4_warm 178 = .ok (.iload_n 1, 1) := by decide +kernel
theorem dX4_warm_179 : decode cX4_warm 179 = .ok (.iaload, 1) := by decide +kernel
theorem dX4_warm_180 : decode cX4_warm 180 = .ok (.if_icmp .le 12, 3) := by decide +kernel
theorem dX4_warm_183 : decode cX4_warm 183 = .ok (.aload_n 0, 1) := by decide +kernel
theorem dX4_warm_184 : decode cX4_warm 184 = .ok (.getfield 33, 3) := by decide +kernel
theorem dX4_warm_187 : decode cX4_warm 187 = .ok (.iload_n 1, 1) := by decide +kernel
theorem dX4_warm_188 : decode cX4_warm 188 = .ok (.iaload, 1) := by decide +kernel
theorem dX4_warm_189 : decode cX4_warm 189 = .ok (.goto 9, 3) := by decide +kernel
theorem dX4_warm_192 : decode cX4_warm 192 = .ok (.aload_n 0, 1) := by decide +kernel
theorem dX4_warm_193 : decode cX4_warm 193 = .ok (.getfield 30, 3) := by decide +kernel
theorem dX4_warm_196 : decode cX4_warm 196 = .ok (.iload_n 1, 1) := by decide +kernel
theorem dX4_warm_197 : decode cX4_warm 197 = .ok (.iaload, 1) := by decide +kernel
theorem dX4_warm_198 : decode cX4_warm 198 = .ok (.iastore, 1) := by decide +kernel
theorem dX4_warm_199 : decode cX4_warm 199 = .ok (.iinc 5 1, 3) := by decide +kernel
theorem dX4_warm_202 : decode cX4_warm 202 = .ok (.goto (-152), 3) := by decide +kernel
theorem dX4_warm_205 : decode cX4_warm 205 = .ok (.aload_n 0, 1) := by decide +kernel
theorem dX4_warm_206 : decode cX4_warm 206 = .ok (.getfield 26, 3) := by decide +kernel
theorem dX4_warm_209 : decode cX4_warm 209 = .ok (.iload_n 1, 1) := by decide +kernel
theorem dX4_warm_210 : decode cX4_warm 210 = .ok (.daload, 1) := by decide +kernel
theorem dX4_warm_211 : decode cX4_warm 211 = .ok (.dreturn, 1) := by decide +kernel
theorem dX4_hold_0 : decode cX4_hold 0 = .ok (.iload_n 1, 1) := by decide +kernel
theorem dX4_hold_1 : decode cX4_hold 1 = .ok (.i2l, 1) := by decide +kernel
theorem dX4_hold_2 : decode cX4_hold 2 = .ok (.lconst 1, 1) := by decide +kernel
theorem dX4_hold_3 : decode cX4_hold 3 = .ok (.ldc2_w 150, 3) := by decide +kernel
theorem dX4_hold_6 : decode cX4_hold 6 = .ok (.invokestatic 88, 3) := by decide +kernel
theorem dX4_hold_9 : decode cX4_hold 9 = .ok (.ifCond .ne 5, 3) := by decide +kernel
theorem dX4_hold_12 : decode cX4_hold 12 = .ok (.iconst 0, 1) := by decide +kernel
theorem dX4_hold_13 : decode cX4_hold 13 = .ok (.ireturn, 1) := by decide +kernel
theorem dX4_hold_14 : decode cX4_hold 14 = .ok (.aload_n 0, 1) := by decide +kernel
theorem dX4_hold_15 : decode cX4_hold 15 = .ok (.iload_n 1, 1) := by decide +kernel
theorem dX4_hold_16 : decode cX4_hold 16 = .ok (.putfield 54, 3) := by decide +kernel
theorem dX4_hold_19 : decode cX4_hold 19 = .ok (.iconst 1, 1) := by decide +kernel
theorem dX4_hold_20 : decode cX4_hold 20 = .ok (.ireturn, 1) := by decide +kernel
theorem dX4_alarm_0 : decode cX4_alarm 0 = .ok (.iconst 0, 1) := by decide +kernel
theorem dX4_alarm_1 : decode cX4_alarm 1 = .ok (.istore_n 2, 1) := by decide +kernel
theorem dX4_alarm_2 : decode cX4_alarm 2 = .ok (.iconst 0, 1) := by decide +kernel
theorem dX4_alarm_3 : decode cX4_alarm 3 = .ok (.istore_n 3, 1) := by decide +kernel
theorem dX4_alarm_4 : decode cX4_alarm 4 = .ok (.iload_n 3, 1) := by decide +kernel
theorem dX4_alarm_5 : decode cX4_alarm 5 = .ok (.aload_n 0, 1) := by decide +kernel
theorem dX4_alarm_6 : decode cX4_alarm 6 = .ok (.getfield 76, 3) := by decide +kernel
theorem dX4_alarm_9 : decode cX4_alarm 9 = .ok (.if_icmp .ge 42, 3) := by decide +kernel
theorem dX4_alarm_12 : decode cX4_alarm 12 = .ok (.aload_n 0, 1) := by decide +kernel
theorem dX4_alarm_13 : decode cX4_alarm 13 = .ok (.getfield 23, 3) := by decide +kernel
theorem dX4_alarm_16 : decode cX4_alarm 16 = .ok (.iload_n 3, 1) := by decide +kernel
theorem dX4_alarm_17 : decode cX4_alarm 17 = .ok (.iaload, 1) := by decide +kernel
theorem dX4_alarm_18 : decode cX4_alarm 18 = .ok (.iconst 2, 1) := by decide +kernel
theorem dX4_alarm_19 : decode cX4_alarm 19 = .ok (.if_icmp .ge 26, 3) := by decide +kernel
theorem dX4_alarm_22 : decode cX4_alarm 22 = .ok (.aload_n 0, 1) := by decide +kernel
theorem dX4_alarm_23 : decode cX4_alarm 23 = .ok (.getfield 30, 3) := by decide +kernel
theorem dX4_alarm_26 : decode cX4_alarm 26 = .ok (.iload_n 3, 1) := by decide +kernel
theorem dX4_alarm_27 : decode cX4_alarm 27 = .ok (.iaload, 1) := by decide +kernel
theorem dX4_alarm_28 : decode cX4_alarm 28 = .ok (.aload_n 0, 1) := by decide +kernel
theorem dX4_alarm_29 : decode cX4_alarm 29 = .ok (.getfield 54, 3) := by decide +kernel
theorem dX4_alarm_32 : decode cX4_alarm 32 = .ok (.if_icmp .lt 13, 3) := by decide +kernel
theorem dX4_alarm_35 : decode cX4_alarm 35 = .ok (.iload_n 2, 1) := by decide +kernel
theorem dX4_alarm_36 : decode cX4_alarm 36 = .ok (.iload_n 1, 1) := by decide +kernel
theorem dX4_alarm_37 : decode cX4_alarm 37 = .ok (.if_icmp .ne 5, 3) := by decide +kernel
theorem dX4_alarm_40 : decode cX4_alarm 40 = .ok (.iload_n 3, 1) := by decide +kernel
theorem dX4_alarm_41 : decode cX4_alarm 41 = .ok (.ireturn, 1) := by decide +kernel
theorem dX4_alarm_42 : decode cX4_alarm 42 = .ok (.iinc 2 1, 3) := by decide +kernel
theorem dX4_alarm_45 : decode cX4_alarm 45 = .ok (.iinc 3 1, 3) := by decide +kernel
theorem dX4_alarm_48 : decode cX4_alarm 48 = .ok (.goto (-44), 3) := by decide +kernel
theorem dX4_alarm_51 : decode cX4_alarm 51 = .ok (.iconst (-1), 1) := by decide +kernel
theorem dX4_alarm_52 : decode cX4_alarm 52 = .ok (.ireturn, 1) := by decide +kernel
theorem dX4_stack_0 : decode cX4_stack 0 = .ok (.aload_n 0, 1) := by decide +kernel
theorem dX4_stack_1 : decode cX4_stack 1 = .ok (.getfield 152, 3) := by decide +kernel
theorem dX4_stack_4 : decode cX4_stack 4 = .ok (.iconst 4, 1) := by decide +kernel
theorem dX4_stack_5 : decode cX4_stack 5 = .ok (.if_icmp .eq 27, 3) := by decide +kernel
theorem dX4_stack_8 : decode cX4_stack 8 = .ok (.iload_n 1, 1) := by decide +kernel
theorem dX4_stack_9 : decode cX4_stack 9 = .ok (.i2l, 1) := by decide +kernel
theorem dX4_stack_10 : decode cX4_stack 10 = .ok (.lconst 0, 1) := by decide +kernel
theorem dX4_stack_11 : decode cX4_stack 11 = .ok (.ldc2_w 121, 3) := by decide +kernel
theorem dX4_stack_14 : decode cX4_stack 14 = .ok (.invokestatic 88, 3) := by decide +kernel
theorem dX4_stack_17 : decode cX4_stack 17 = .ok (.ifCond .eq 15, 3) := by decide +kernel
theorem dX4_stack_20 : decode cX4_stack 20 = .ok (.iload_n 2, 1) := by decide +kernel
theorem dX4_stack_21 : decode cX4_stack 21 = .ok (.i2l, 1) := by decide +kernel
theorem dX4_stack_22 : decode cX4_stack 22 = .ok (.lconst 1, 1) := by decide +kernel
theorem dX4_stack_23 : decode cX4_stack 23 = .ok (.ldc2_w 155, 3) := by decide +kernel
theorem dX4_stack_26 : decode cX4_stack 26 = .ok (.invokestatic 88, 3) := by decide +kernel
theorem dX4_stack_29 : decode cX4_stack 29 = .ok (.ifCond .ne 5, 3) := by decide +kernel
theorem dX4_stack_32 : decode cX4_stack 32 = .ok (.iconst (-1), 1) := by decide +kernel
theorem dX4_stack_33 : decode cX4_stack 33 = .ok (.ireturn, 1) := by decide +kernel
theorem dX4_stack_34 : decode cX4_stack 34 = .ok (.aload_n 0, 1) := by decide +kernel
theorem dX4_stack_35 : decode cX4_stack 35 = .ok (.getfield 58, 3) := by decide +kernel
theorem dX4_stack_38 : decode cX4_stack 38 = .ok (.aload_n 0, 1) := by decide +kernel
theorem dX4_stack_39 : decode cX4_stack 39 = .ok (.getfield 152, 3) := by decide +kernel
theorem dX4_stack_42 : decode cX4_stack 42 = .ok (.iload_n 1, 1) := by decide +kernel
theorem dX4_stack_43 : decode cX4_stack 43 = .ok (.iastore, 1) := by decide +kernel
theorem dX4_stack_44 : decode cX4_stack 44 = .ok (.aload_n 0, 1) := by decide +kernel
theorem dX4_stack_45 : decode cX4_stack 45 = .ok (.getfield 61, 3) := by decide +kernel
theorem dX4_stack_48 : decode cX4_stack 48 = .ok (.aload_n 0, 1) := by decide +kernel
theorem dX4_stack_49 : decode cX4_stack 49 = .ok (.getfield 152, 3) := by decide +kernel
theorem dX4_stack_52 : decode cX4_stack 52 = .ok (.iload_n 2, 1) := by decide +kernel
theorem dX4_stack_53 : decode cX4_stack 53 = .ok (.iastore, 1) := by decide +kernel
theorem dX4_stack_54 : decode cX4_stack 54 = .ok (.aload_n 0, 1) := by decide +kernel
theorem dX4_stack_55 : decode cX4_stack 55 = .ok (.dup, 1) := by decide +kernel
theorem dX4_stack_56 : decode cX4_stack 56 = .ok (.getfield 152, 3) := by decide +kernel
theorem dX4_stack_59 : decode cX4_stack 59 = .ok (.iconst 1, 1) := by decide +kernel
theorem dX4_stack_60 : decode cX4_stack 60 = .ok (.iadd, 1) := by decide +kernel
theorem dX4_stack_61 : decode cX4_stack 61 = .ok (.putfield 152, 3) := by decide +kernel
theorem dX4_stack_64 : decode cX4_stack 64 = .ok (.aload_n 0, 1) := by decide +kernel
theorem dX4_stack_65 : decode cX4_stack 65 = .ok (.getfield 152, 3) := by decide +kernel
theorem dX4_stack_68 : decode cX4_stack 68 = .ok (.iconst 1, 1) := by decide +kernel
theorem dX4_stack_69 : decode cX4_stack 69 = .ok (.isub, 1) := by decide +kernel
theorem dX4_stack_70 : decode cX4_stack 70 = .ok (.ireturn, 1) := by decide +kernel
theorem dX4_isClose_0 : decode cX4_isClose 0 = .ok (.iload_n 1, 1) := by decide +kernel
theorem dX4_isClose_1 : decode cX4_isClose 1 = .ok (.iload_n 2, 1) := by decide +kernel
theorem dX4_isClose_2 : decode cX4_isClose 2 = .ok (.if_icmp .ge 7, 3) := by decide +kernel
theorem dX4_isClose_5 : decode cX4_isClose 5 = .ok (.iload_n 1, 1) := by decide +kernel
theorem dX4_isClose_6 : decode cX4_isClose 6 = .ok (.goto 4, 3) := by decide +kernel
theorem dX4_isClose_9 : decode cX4_isClose 9 = .ok (.iload_n 2, 1) := by decide +kernel
theorem dX4_isClose_10 : decode cX4_isClose 10 = .ok (.istore_n 3, 1) := by decide +kernel
theorem dX4_isClose_11 : decode cX4_isClose 11 = .ok (.iload_n 1, 1) := by decide +kernel
theorem dX4_isClose_12 : decode cX4_isClose 12 = .ok (.iload_n 2, 1) := by decide +kernel
theorem dX4_isClose_13 : decode cX4_isClose 13 = .ok (.if_icmp .ge 7, 3) := by decide +kernel
theorem dX4_isClose_16 : decode cX4_isClose 16 = .ok (.iload_n 2, 1) := by decide +kernel
theorem dX4_isClose_17 : decode cX4_isClose 17 = .ok (.goto 4, 3) := by decide +kernel
theorem dX4_isClose_20 : decode cX4_isClose 20 = .ok (.iload_n 1, 1) := by decide +kernel
theorem dX4_isClose_21 : decode cX4_isClose 21 = .ok (.istore 4, 2) := by decide +kernel
theorem dX4_isClose_23 : decode cX4_isClose 23 = .ok (.iload 4, 2) := by decide +kernel
theorem dX4_isClose_25 : decode cX4_isClose 25 = .ok (.iload_n 3, 1) := by decide +kernel
theorem dX4_isClose_26 : decode cX4_isClose 26 = .ok (.if_icmp .eq 17, 3) := by decide +kernel
theorem dX4_isClose_29 : decode cX4_isClose 29 = .ok (.iload 4, 2) := by decide +kernel
theorem dX4_isClose_31 : decode cX4_isClose 31 = .ok (.iload_n 3, 1) := by decide +kernel
theorem dX4_isClose_32 : decode cX4_isClose 32 = .ok (.isub, 1) := by decide +kernel
theorem dX4_isClose_33 : decode cX4_isClose 33 = .ok (.aload_n 0, 1) := by decide +kernel
theorem dX4_isClose_34 : decode cX4_isClose 34 = .ok (.getfield 58, 3) := by decide +kernel
theorem dX4_isClose_37 : decode cX4_isClose 37 = .ok (.iload 4, 2) := by decide +kernel
theorem dX4_isClose_39 : decode cX4_isClose 39 = .ok (.iaload, 1) := by decide +kernel
theorem dX4_isClose_40 : decode cX4_isClose 40 = .ok (.if_icmp .gt 7, 3) := by decide +kernel
theorem dX4_isClose_43 : decode cX4_isClose 43 = .ok (.iconst 1, 1) := by decide +kernel
theorem dX4_isClose_44 : decode cX4_isClose 44 = .ok (.goto 4, 3) := by decide +kernel
theorem dX4_isClose_47 : decode cX4_isClose 47 = .ok (.iconst 0, 1) := by decide +kernel
theorem dX4_isClose_48 : decode cX4_isClose 48 = .ok (.ireturn, 1) := by decide +kernel
theorem dX4_put_0 : decode cX4_put 0 = .ok (.aload_n 0, 1) := by decide +kernel
theorem dX4_put_1 : decode cX4_put 1 = .ok (.iload_n 1, 1) := by decide +kernel
theorem dX4_put_2 : decode cX4_put 2 = .ok (.invokevirtual 108, 3) := by decide +kernel
theorem dX4_put_5 : decode cX4_put 5 = .ok (.ifCond .eq 15, 3) := by decide +kernel
theorem dX4_put_8 : decode cX4_put 8 = .ok (.iload_n 2, 1) := by decide +kernel
theorem dX4_put_9 : decode cX4_put 9 = .ok (.ifCond .lt 11, 3) := by decide +kernel
theorem dX4_put_12 : decode cX4_put 12 = .ok (.iload_n 2, 1) := by decide +kernel
theorem dX4_put_13 : decode cX4_put 13 = .ok (.aload_n 0, 1) := by decide +kernel
theorem dX4_put_14 : decode cX4_put 14 = .ok (.getfield 152, 3) := by decide +kernel
theorem dX4_put_17 : decode cX4_put 17 = .ok (.if_icmp .lt 5, 3) := by decide +kernel
theorem dX4_put_20 : decode cX4_put 20 = .ok (.iconst 1, 1) := by decide +kernel
theorem dX4_put_21 : decode cX4_put 21 = .ok (.ireturn, 1) := by decide +kernel
theorem dX4_put_22 : decode cX4_put 22 = .ok (.aload_n 0, 1) := by decide +kernel
theorem dX4_put_23 : decode cX4_put 23 = .ok (.getfield 23, 3) := by decide +kernel
theorem dX4_put_26 : decode cX4_put 26 = .ok (.iload_n 1, 1) := by decide +kernel
theorem dX4_put_27 : decode cX4_put 27 = .ok (.iaload, 1) := by decide +kernel
theorem dX4_put_28 : decode cX4_put 28 = .ok (.ifCond .eq 5, 3) := by decide +kernel
theorem dX4_put_31 : decode cX4_put 31 = .ok (.iconst 2, 1) := by decide +kernel
theorem dX4_put_32 : decode cX4_put 32 = .ok (.ireturn, 1) := by decide +kernel
theorem dX4_put_33 : decode cX4_put 33 = .ok (.iconst 0, 1) := by decide +kernel
theorem dX4_put_34 : decode cX4_put 34 = .ok (.istore_n 3, 1) := by decide +kernel
theorem dX4_put_35 : decode cX4_put 35 = .ok (.iconst 0, 1) := by decide +kernel
theorem dX4_put_36 : decode cX4_put 36 = .ok (.istore 4, 2) := by decide +kernel
theorem dX4_put_38 : decode cX4_put 38 = .ok (.aload_n 0, 1) := by decide +kernel
theorem dX4_put_39 : decode cX4_put 39 = .ok (.iload_n 1, 1) := by decide +kernel
theorem dX4_put_40 : decode cX4_put 40 = .ok (.invokevirtual 113, 3) := by decide +kernel
theorem dX4_put_43 : decode cX4_put 43 = .ok (.lstore 5, 2) := by decide +kernel
theorem dX4_put_45 : decode cX4_put 45 = .ok (.iconst 0, 1) := by decide +kernel
theorem dX4_put_46 : decode cX4_put 46 = .ok (.istore 7, 2) := by decide +kernel
theorem dX4_put_48 : decode cX4_put 48 = .ok (.iload 7, 2) := by decide +kernel
theorem dX4_put_50 : decode cX4_put 50 = .ok (.aload_n 0, 1) := by decide +kernel
theorem dX4_put_51 : decode cX4_put 51 = .ok (.getfield 76, 3) := by decide +kernel
theorem dX4_put_54 : decode cX4_put 54 = .ok (.if_icmp .ge 106, 3) := by decide +kernel
theorem dX4_put_57 : decode cX4_put 57 = .ok (.aload_n 0, 1) := by decide +kernel
theorem dX4_put_58 : decode cX4_put 58 = .ok (.getfield 23, 3) := by decide +kernel
theorem dX4_put_61 : decode cX4_put 61 = .ok (.iload 7, 2) := by decide +kernel
theorem dX4_put_63 : decode cX4_put 63 = .ok (.iaload, 1) := by decide +kernel
theorem dX4_put_64 : decode cX4_put 64 = .ok (.iconst 1, 1) := by decide +kernel
theorem dX4_put_65 : decode cX4_put 65 = .ok (.if_icmp .ne 89, 3) := by decide +kernel
theorem dX4_put_68 : decode cX4_put 68 = .ok (.iload_n 3, 1) := by decide +kernel
theorem dX4_put_69 : decode cX4_put 69 = .ok (.aload_n 0, 1) := by decide +kernel
theorem dX4_put_70 : decode cX4_put 70 = .ok (.getfield 36, 3) := by decide +kernel
theorem dX4_put_73 : decode cX4_put 73 = .ok (.iload 7, 2) := by decide +kernel
theorem dX4_put_75 : decode cX4_put 75 = .ok (.iaload, 1) := by decide +kernel
theorem dX4_put_76 : decode cX4_put 76 = .ok (.iload_n 2, 1) := by decide +kernel
theorem dX4_put_77 : decode cX4_put 77 = .ok (.if_icmp .ne 7, 3) := by decide +kernel
theorem dX4_put_80 : decode cX4_put 80 = .ok (.iconst 1, 1) := by decide +kernel
theorem dX4_put_81 : decode cX4_put 81 = .ok (.goto 4, 3) := by decide +kernel
theorem dX4_put_84 : decode cX4_put 84 = .ok (.iconst 0, 1) := by decide +kernel
theorem dX4_put_85 : decode cX4_put 85 = .ok (.iadd, 1) := by decide +kernel
theorem dX4_put_86 : decode cX4_put 86 = .ok (.istore_n 3, 1) := by decide +kernel
theorem dX4_put_87 : decode cX4_put 87 = .ok (.iload 4, 2) := by decide +kernel
theorem dX4_put_89 : decode cX4_put 89 = .ok (.ifCond .ne 28, 3) := by decide +kernel
theorem dX4_put_92 : decode cX4_put 92 = .ok (.aload_n 0, 1) := by decide +kernel
theorem dX4_put_93 : decode cX4_put 93 = .ok (.getfield 36, 3) := by decide +kernel
theorem dX4_put_96 : decode cX4_put 96 = .ok (.iload 7, 2) := by decide +kernel
theorem dX4_put_98 : decode cX4_put 98 = .ok (.iaload, 1) := by decide +kernel
theorem dX4_put_99 : decode cX4_put 99 = .ok (.iload_n 2, 1) := by decide +kernel
theorem dX4_put_100 : decode cX4_put 100 = .ok (.if_icmp .ne 21, 3) := by decide +kernel
theorem dX4_put_103 : decode cX4_put 103 = .ok (.aload_n 0, 1) := by decide +kernel
theorem dX4_put_104 : decode cX4_put 104 = .ok (.iload 7, 2) := by decide +kernel
theorem dX4_put_106 : decode cX4_put 106 = .ok (.invokevirtual 157, 3) := by decide +kernel
theorem dX4_put_109 : decode cX4_put 109 = .ok (.aload_n 0, 1) := by decide +kernel
theorem dX4_put_110 : decode cX4_put 110 = .ok (.iload_n 1, 1) := by decide +kernel
theorem dX4_put_111 : decode cX4_put 111 = .ok (.invokevirtual 157, 3) := by decide +kernel
theorem dX4_put_114 : decode cX4_put 114 = .ok (.if_icmp .eq 7, 3) := by decide +kernel
theorem dX4_put_117 : decode cX4_put 117 = .ok (.iconst 1, 1) := by decide +kernel
theorem dX4_put_118 : decode cX4_put 118 = .ok (.goto 4, 3) := by decide +kernel
theorem dX4_put_121 : decode cX4_put 121 = .ok (.iconst 0, 1) := by decide +kernel
theorem dX4_put_122 : decode cX4_put 122 = .ok (.istore 4, 2) := by decide +kernel
theorem dX4_put_124 : decode cX4_put 124 = .ok (.lload 5, 2) := by decide +kernel
theorem dX4_put_126 : decode cX4_put 126 = .ok (.aload_n 0, 1) := by decide +kernel
theorem dX4_put_127 : decode cX4_put 127 = .ok (.aload_n 0, 1) := by decide +kernel
theorem dX4_put_128 : decode cX4_put 128 = .ok (.getfield 36, 3) := by decide +kernel
theorem dX4_put_131 : decode cX4_put 131 = .ok (.iload 7, 2) := by decide +kernel
theorem dX4_put_133 : decode cX4_put 133 = .ok (.iaload, 1) := by decide +kernel
theorem dX4_put_134 : decode cX4_put 134 = .ok (.iload_n 2, 1) := by decide +kernel
theorem dX4_put_135 : decode cX4_put 135 = .ok (.invokevirtual 161, 3) := by decide +kernel
theorem dX4_put_138 : decode cX4_put 138 = .ok (.ifCond .eq 12, 3) := by decide +kernel
theorem dX4_put_141 : decode cX4_put 141 = .ok (.aload_n 0, 1) := by decide +kernel
theorem dX4_put_142 : decode cX4_put 142 = .ok (.iload 7, 2) := by decide +kernel
theorem dX4_put_144 : decode cX4_put 144 = .ok (.invokevirtual 113, 3) := by decide +kernel
theorem dX4_put_147 : decode cX4_put 147 = .ok (.goto 4, 3) := by decide +kernel
theorem dX4_put_150 : decode cX4_put 150 = .ok (.lconst 0, 1) := by decide +kernel
theorem dX4_put_151 : decode cX4_put 151 = .ok (.ladd, 1) := by decide +kernel
theorem dX4_put_152 : decode cX4_put 152 = .ok (.lstore 5, 2) := by decide +kernel
theorem dX4_put_154 : decode cX4_put 154 = .ok (.iinc 7 1, 3) := by decide +kernel
theorem dX4_put_157 : decode cX4_put 157 = .ok (.goto (-109), 3) := by decide +kernel
theorem dX4_put_160 : decode cX4_put 160 = .ok (.iload_n 3, 1) := by decide +kernel
theorem dX4_put_161 : decode cX4_put 161 = .ok (.aload_n 0, 1) := by decide +kernel
theorem dX4_put_162 : decode cX4_put 162 = .ok (.getfield 61, 3) := by decide +kernel
theorem dX4_put_165 : decode cX4_put 165 = .ok (.iload_n 2, 1) := by decide +kernel
theorem dX4_put_166 : decode cX4_put 166 = .ok (.iaload, 1) := by decide +kernel
theorem dX4_put_167 : decode cX4_put 167 = .ok (.if_icmp .lt 5, 3) := by decide +kernel
theorem dX4_put_170 : decode cX4_put 170 = .ok (.iconst 3, 1) := by decide +kernel
theorem dX4_put_171 : decode cX4_put 171 = .ok (.ireturn, 1) := by decide +kernel
theorem dX4_put_172 : decode cX4_put 172 = .ok (.aload_n 0, 1) := by decide +kernel
theorem dX4_put_173 : decode cX4_put 173 = .ok (.getfield 26, 3) := by decide +kernel
theorem dX4_put_176 : decode cX4_put 176 = .ok (.iload_n 1, 1) := by decide +kernel
theorem dX4_put_177 : decode cX4_put 177 = .ok (.daload, 1) := by decide +kernel
theorem dX4_put_178 : decode cX4_put 178 = .ok (.ldc2_w 146, 3) := by decide +kernel
theorem dX4_put_181 : decode cX4_put 181 = .ok (.dcmp .l, 1) := by decide +kernel
theorem dX4_put_182 : decode cX4_put 182 = .ok (.ifCond .lt 5, 3) := by decide +kernel
theorem dX4_put_185 : decode cX4_put 185 = .ok (.iconst 4, 1) := by decide +kernel
theorem dX4_put_186 : decode cX4_put 186 = .ok (.ireturn, 1) := by decide +kernel
theorem dX4_put_187 : decode cX4_put 187 = .ok (.iload 4, 2) := by decide +kernel
theorem dX4_put_189 : decode cX4_put 189 = .ok (.ifCond .eq 5, 3) := by decide +kernel
theorem dX4_put_192 : decode cX4_put 192 = .ok (.iconst 5, 1) := by decide +kernel
theorem dX4_put_193 : decode cX4_put 193 = .ok (.ireturn, 1) := by decide +kernel
theorem dX4_put_194 : decode cX4_put 194 = .ok (.lload 5, 2) := by decide +kernel
theorem dX4_put_196 : decode cX4_put 196 = .ok (.ldc2_w 92, 3) := by decide +kernel
theorem dX4_put_199 : decode cX4_put 199 = .ok (.lcmp, 1) := by decide +kernel
theorem dX4_put_200 : decode cX4_put 200 = .ok (.ifCond .le 6, 3) := by decide +kernel
theorem dX4_put_203 : decode cX4_put 203 = .ok (.bipush 6, 2) := by decide +kernel
theorem dX4_put_205 : decode cX4_put 205 = .ok (.ireturn, 1) := by decide +kernel
theorem dX4_put_206 : decode cX4_put 206 = .ok (.aload_n 0, 1) := by decide +kernel
theorem dX4_put_207 : decode cX4_put 207 = .ok (.getfield 23, 3) := by decide +kernel
theorem dX4_put_210 : decode cX4_put 210 = .ok (.iload_n 1, 1) := by decide +kernel
theorem dX4_put_211 : decode cX4_put 211 = .ok (.iconst 1, 1) := by decide +kernel
theorem dX4_put_212 : decode cX4_put 212 = .ok (.iastore, 1) := by decide +kernel
theorem dX4_put_213 : decode cX4_put 213 = .ok (.aload_n 0, 1) := by decide +kernel
theorem dX4_put_214 : decode cX4_put 214 = .ok (.getfield 36, 3) := by decide +kernel
theorem dX4_put_217 : decode cX4_put 217 = .ok (.iload_n 1, 1) := by decide +kernel
theorem dX4_put_218 : decode cX4_put 218 = .ok (.iload_n 2, 1) := by decide +kernel
theorem dX4_put_219 : decode cX4_put 219 = .ok (.iastore, 1) := by decide +kernel
theorem dX4_put_220 : decode cX4_put 220 = .ok (.iconst 0, 1) := by decide +kernel
theorem dX4_put_221 : decode cX4_put 221 = .ok (.ireturn, 1) := by decide +kernel
theorem dX4_first_0 : decode cX4_first 0 = .ok (.iconst 0, 1) := by decide +kernel
theorem dX4_first_1 : decode cX4_first 1 = .ok (.istore_n 2, 1) := by decide +kernel
theorem dX4_first_2 : decode cX4_first 2 = .ok (.iload_n 2, 1) := by decide +kernel
theorem dX4_first_3 : decode cX4_first 3 = .ok (.aload_n 0, 1) := by decide +kernel
theorem dX4_first_4 : decode cX4_first 4 = .ok (.getfield 76, 3) := by decide +kernel
theorem dX4_first_7 : decode cX4_first 7 = .ok (.if_icmp .ge 37, 3) := by decide +kernel
theorem dX4_first_10 : decode cX4_first 10 = .ok (.aload_n 0, 1) := by decide +kernel
theorem dX4_first_11 : decode cX4_first 11 = .ok (.getfield 23, 3) := by decide +kernel
theorem dX4_first_14 : decode cX4_first 14 = .ok (.iload_n 2, 1) := by decide +kernel
theorem dX4_first_15 : decode cX4_first 15 = .ok (.iaload, 1) := by decide +kernel
theorem dX4_first_16 : decode cX4_first 16 = .ok (.iconst 1, 1) := by decide +kernel
theorem dX4_first_17 : decode cX4_first 17 = .ok (.if_icmp .ne 21, 3) := by decide +kernel
theorem dX4_first_20 : decode cX4_first 20 = .ok (.aload_n 0, 1) := by decide +kernel
theorem dX4_first_21 : decode cX4_first 21 = .ok (.iload_n 2, 1) := by decide +kernel
theorem dX4_first_22 : decode cX4_first 22 = .ok (.invokevirtual 157, 3) := by decide +kernel
theorem dX4_first_25 : decode cX4_first 25 = .ok (.iload_n 1, 1) := by decide +kernel
theorem dX4_first_26 : decode cX4_first 26 = .ok (.if_icmp .ne 12, 3) := by decide +kernel
theorem dX4_first_29 : decode cX4_first 29 = .ok (.aload_n 0, 1) := by decide +kernel
theorem dX4_first_30 : decode cX4_first 30 = .ok (.getfield 23, 3) := by decide +kernel
theorem dX4_first_33 : decode cX4_first 33 = .ok (.iload_n 2, 1) := by decide +kernel
theorem dX4_first_34 : decode cX4_first 34 = .ok (.iconst 2, 1) := by decide +kernel
theorem dX4_first_35 : decode cX4_first 35 = .ok (.iastore, 1) := by decide +kernel
theorem dX4_first_36 : decode cX4_first 36 = .ok (.iload_n 2, 1) := by decide +kernel
theorem dX4_first_37 : decode cX4_first 37 = .ok (.ireturn, 1) := by decide +kernel
theorem dX4_first_38 : decode cX4_first 38 = .ok (.iinc 2 1, 3) := by decide +kernel
theorem dX4_first_41 : decode cX4_first 41 = .ok (.goto (-39), 3) := by decide +kernel
theorem dX4_first_44 : decode cX4_first 44 = .ok (.iconst (-1), 1) := by decide +kernel
theorem dX4_first_45 : decode cX4_first 45 = .ok (.ireturn, 1) := by decide +kernel
theorem dX4_lorry_0 : decode cX4_lorry 0 = .ok (.aload_n 0, 1) := by decide +kernel
theorem dX4_lorry_1 : decode cX4_lorry 1 = .ok (.getfield 164, 3) := by decide +kernel
theorem dX4_lorry_4 : decode cX4_lorry 4 = .ok (.iconst 3, 1) := by decide +kernel
theorem dX4_lorry_5 : decode cX4_lorry 5 = .ok (.if_icmp .eq 25, 3) := by decide +kernel
theorem dX4_lorry_8 : decode cX4_lorry 8 = .ok (.lload_n 1, 1) := by decide +kernel
theorem dX4_lorry_9 : decode cX4_lorry 9 = .ok (.lconst 0, 1) := by decide +kernel
theorem dX4_lorry_10 : decode cX4_lorry 10 = .ok (.ldc2_w 167, 3) := by decide +kernel
theorem dX4_lorry_13 : decode cX4_lorry 13 = .ok (.invokestatic 88, 3) := by decide +kernel
theorem dX4_lorry_16 : decode cX4_lorry 16 = .ok (.ifCond .eq 14, 3) := by decide +kernel
theorem dX4_lorry_19 : decode cX4_lorry 19 = .ok (.lload_n 3, 1) := by decide +kernel
theorem dX4_lorry_20 : decode cX4_lorry 20 = .ok (.lconst 0, 1) := by decide +kernel
theorem dX4_lorry_21 : decode cX4_lorry 21 = .ok (.ldc2_w 167, 3) := by decide +kernel
theorem dX4_lorry_24 : decode cX4_lorry 24 = .ok (.invokestatic 88, 3) := by decide +kernel
theorem dX4_lorry_27 : decode cX4_lorry 27 = .ok (.ifCond .ne 5, 3) := by decide +kernel
theorem dX4_lorry_30 : decode cX4_lorry 30 = .ok (.iconst (-1), 1) := by decide +kernel
theorem dX4_lorry_31 : decode cX4_lorry 31 = .ok (.ireturn, 1) := by decide +kernel
theorem dX4_lorry_32 : decode cX4_lorry 32 = .ok (.aload_n 0, 1) := by decide +kernel
theorem dX4_lorry_33 : decode cX4_lorry 33 = .ok (.getfield 64, 3) := by decide +kernel
theorem dX4_lorry_36 : decode cX4_lorry 36 = .ok (.aload_n 0, 1) := by decide +kernel
theorem dX4_lorry_37 : decode cX4_lorry 37 = .ok (.getfield 164, 3) := by decide +kernel
theorem dX4_lorry_40 : decode cX4_lorry 40 = .ok (.lload_n 1, 1) := by decide +kernel
theorem dX4_lorry_41 : decode cX4_lorry 41 = .ok (.lastore, 1) := by decide +kernel
theorem dX4_lorry_42 : decode cX4_lorry 42 = .ok (.aload_n 0, 1) := by decide +kernel
theorem dX4_lorry_43 : decode cX4_lorry 43 = .ok (.getfield 67, 3) := by decide +kernel
theorem dX4_lorry_46 : decode cX4_lorry 46 = .ok (.aload_n 0, 1) := by decide +kernel
theorem dX4_lorry_47 : decode cX4_lorry 47 = .ok (.getfield 164, 3) := by decide +kernel
theorem dX4_lorry_50 : decode cX4_lorry 50 = .ok (.lload_n 3, 1) := by decide +kernel
theorem dX4_lorry_51 : decode cX4_lorry 51 = .ok (.lastore, 1) := by decide +kernel
theorem dX4_lorry_52 : decode cX4_lorry 52 = .ok (.aload_n 0, 1) := by decide +kernel
theorem dX4_lorry_53 : decode cX4_lorry 53 = .ok (.dup, 1) := by decide +kernel
theorem dX4_lorry_54 : decode cX4_lorry 54 = .ok (.getfield 164, 3) := by decide +kernel
theorem dX4_lorry_57 : decode cX4_lorry 57 = .ok (.iconst 1, 1) := by decide +kernel
theorem dX4_lorry_58 : decode cX4_lorry 58 = .ok (.iadd, 1) := by decide +kernel
theorem dX4_lorry_59 : decode cX4_lorry 59 = .ok (.putfield 164, 3) := by decide +kernel
theorem dX4_lorry_62 : decode cX4_lorry 62 = .ok (.aload_n 0, 1) := by decide +kernel
theorem dX4_lorry_63 : decode cX4_lorry 63 = .ok (.getfield 164, 3) := by decide +kernel
theorem dX4_lorry_66 : decode cX4_lorry 66 = .ok (.iconst 1, 1) := by decide +kernel
theorem dX4_lorry_67 : decode cX4_lorry 67 = .ok (.isub, 1) := by decide +kernel
theorem dX4_lorry_68 : decode cX4_lorry 68 = .ok (.ireturn, 1) := by decide +kernel
theorem dX4_loadOf_0 : decode cX4_loadOf 0 = .ok (.lconst 0, 1) := by decide +kernel
theorem dX4_loadOf_1 : decode cX4_loadOf 1 = .ok (.lstore_n 3, 1) := by decide +kernel
theorem dX4_loadOf_2 : decode cX4_loadOf 2 = .ok (.iconst 0, 1) := by decide +kernel
theorem dX4_loadOf_3 : decode cX4_loadOf 3 = .ok (.istore 5, 2) := by decide +kernel
theorem dX4_loadOf_5 : decode cX4_loadOf 5 = .ok (.iload 5, 2) := by decide +kernel
theorem dX4_loadOf_7 : decode cX4_loadOf 7 = .ok (.aload_n 0, 1) := by decide +kernel
theorem dX4_loadOf_8 : decode cX4_loadOf 8 = .ok (.getfield 73, 3) := by decide +kernel
theorem dX4_loadOf_11 : decode cX4_loadOf 11 = .ok (.iload_n 1, 1) := by decide +kernel
theorem dX4_loadOf_12 : decode cX4_loadOf 12 = .ok (.iaload, 1) := by decide +kernel
theorem dX4_loadOf_13 : decode cX4_loadOf 13 = .ok (.if_icmp .ge 42, 3) := by decide +kernel
theorem dX4_loadOf_16 : decode cX4_loadOf 16 = .ok (.lload_n 3, 1) := by decide +kernel
theorem dX4_loadOf_17 : decode cX4_loadOf 17 = .ok (.aload_n 0, 1) := by decide +kernel
theorem dX4_loadOf_18 : decode cX4_loadOf 18 = .ok (.aload_n 0, 1) := by decide +kernel
theorem dX4_loadOf_19 : decode cX4_loadOf 19 = .ok (.getfield 70, 3) := by decide +kernel
theorem dX4_loadOf_22 : decode cX4_loadOf 22 = .ok (.bipush 8, 2) := by decide +kernel
theorem dX4_loadOf_24 : decode cX4_loadOf 24 = .ok (.iload_n 1, 1) := by decide +kernel
theorem dX4_loadOf_25 : decode cX4_loadOf 25 = .ok (.imul, 1) := by decide +kernel
theorem dX4_loadOf_26 : decode cX4_loadOf 26 = .ok (.iload 5, 2) := by decide +kernel
theorem dX4_loadOf_28 : decode cX4_loadOf 28 = .ok (.iadd, 1) := by decide +kernel
theorem dX4_loadOf_29 : decode cX4_loadOf 29 = .ok (.iaload, 1) := by decide +kernel
theorem dX4_loadOf_30 : decode cX4_loadOf 30 = .ok (.invokevirtual 113, 3) := by decide +kernel
theorem dX4_loadOf_33 : decode cX4_loadOf 33 = .ok (.iload_n 2, 1) := by decide +kernel
theorem dX4_loadOf_34 : decode cX4_loadOf 34 = .ok (.ifCond .eq 10, 3) := by decide +kernel
theorem dX4_loadOf_37 : decode cX4_loadOf 37 = .ok (.iload 5, 2) := by decide +kernel
theorem dX4_loadOf_39 : decode cX4_loadOf 39 = .ok (.iconst 1, 1) := by decide +kernel
theorem dX4_loadOf_40 : decode cX4_loadOf 40 = .ok (.iadd, 1) := by decide +kernel
theorem dX4_loadOf_41 : decode cX4_loadOf 41 = .ok (.goto 4, 3) := by decide +kernel
theorem dX4_loadOf_44 : decode cX4_loadOf 44 = .ok (.iconst 1, 1) := by decide +kernel
theorem dX4_loadOf_45 : decode cX4_loadOf 45 = .ok (.i2l, 1) := by decide +kernel
theorem dX4_loadOf_46 : decode cX4_loadOf 46 = .ok (.lmul, 1) := by decide +kernel
theorem dX4_loadOf_47 : decode cX4_loadOf 47 = .ok (.ladd, 1) := by decide +kernel
theorem dX4_loadOf_48 : decode cX4_loadOf 48 = .ok (.lstore_n 3, 1) := by decide +kernel
theorem dX4_loadOf_49 : decode cX4_loadOf 49 = .ok (.iinc 5 1, 3) := by decide +kernel
theorem dX4_loadOf_52 : decode cX4_loadOf 52 = .ok (.goto (-47), 3) := by decide +kernel
theorem dX4_loadOf_55 : decode cX4_loadOf 55 = .ok (.lload_n 3, 1) := by decide +kernel
theorem dX4_loadOf_56 : decode cX4_loadOf 56 = .ok (.lreturn, 1) := by decide +kernel
theorem dX4_load_0 : decode cX4_load 0 = .ok (.iload_n 1, 1) := by decide +kernel
theorem dX4_load_1 : decode cX4_load 1 = .ok (.ifCond .lt 49, 3) := by decide +kernel
theorem dX4_load_4 : decode cX4_load 4 = .ok (.iload_n 1, 1) := by decide +kernel
theorem dX4_load_5 : decode cX4_load 5 = .ok (.aload_n 0, 1) := by decide +kernel
theorem dX4_load_6 : decode cX4_load 6 = .ok (.getfield 164, 3) := by decide +kernel
theorem dX4_load_9 : decode cX4_load 9 = .ok (.if_icmp .ge 41, 3) := by decide +kernel
theorem dX4_load_12 : decode cX4_load 12 = .ok (.aload_n 0, 1) := by decide +kernel
theorem dX4_load_13 : decode cX4_load 13 = .ok (.iload_n 2, 1) := by decide +kernel
theorem dX4_load_14 : decode cX4_load 14 = .ok (.invokevirtual 108, 3) := by decide +kernel
theorem dX4_load_17 : decode cX4_load 17 = .ok (.ifCond .eq 33, 3) := by decide +kernel
theorem dX4_load_20 : decode cX4_load 20 = .ok (.aload_n 0, 1) := by decide +kernel
theorem dX4_load_21 : decode cX4_load 21 = .ok (.getfield 23, 3) := by decide +kernel
theorem dX4_load_24 : decode cX4_load 24 = .ok (.iload_n 2, 1) := by decide +kernel
theorem dX4_load_25 : decode cX4_load 25 = .ok (.iaload, 1) := by decide +kernel
theorem dX4_load_26 : decode cX4_load 26 = .ok (.iconst 2, 1) := by decide +kernel
theorem dX4_load_27 : decode cX4_load 27 = .ok (.if_icmp .ne 23, 3) := by decide +kernel
theorem dX4_load_30 : decode cX4_load 30 = .ok (.aload_n 0, 1) := by decide +kernel
theorem dX4_load_31 : decode cX4_load 31 = .ok (.getfield 39, 3) := by decide +kernel
theorem dX4_load_34 : decode cX4_load 34 = .ok (.iload_n 2, 1) := by decide +kernel
theorem dX4_load_35 : decode cX4_load 35 = .ok (.iaload, 1) := by decide +kernel
theorem dX4_load_36 : decode cX4_load 36 = .ok (.ifCond .ge 14, 3) := by decide +kernel
theorem dX4_load_39 : decode cX4_load 39 = .ok (.aload_n 0, 1) := by decide +kernel
theorem dX4_load_40 : decode cX4_load 40 = .ok (.getfield 73, 3) := by decide +kernel
theorem dX4_load_43 : decode cX4_load 43 = .ok (.iload_n 1, 1) := by decide +kernel
theorem dX4_load_44 : decode cX4_load 44 = .ok (.iaload, 1) := by decide +kernel
theorem dX4_load_45 : decode cX4_load 45 = .ok (.bipush 8, 2) := by decide +kernel
theorem dX4_load_47 : decode cX4_load 47 = .ok (.if_icmp .ne 5, 3) := by decide +kernel
theorem dX4_load_50 : decode cX4_load 50 = .ok (.iconst (-1), 1) := by decide +kernel
theorem dX4_load_51 : decode cX4_load 51 = .ok (.ireturn, 1) := by decide +kernel
theorem dX4_load_52 : decode cX4_load 52 = .ok (.aload_n 0, 1) := by decide +kernel
theorem dX4_load_53 : decode cX4_load 53 = .ok (.getfield 73, 3) := by decide +kernel
theorem dX4_load_56 : decode cX4_load 56 = .ok (.iload_n 1, 1) := by decide +kernel
theorem dX4_load_57 : decode cX4_load 57 = .ok (.iaload, 1) := by decide +kernel
theorem dX4_load_58 : decode cX4_load 58 = .ok (.istore_n 3, 1) := by decide +kernel
theorem dX4_load_59 : decode cX4_load 59 = .ok (.aload_n 0, 1) := by decide +kernel
theorem dX4_load_60 : decode cX4_load 60 = .ok (.iload_n 2, 1) := by decide +kernel
theorem dX4_load_61 : decode cX4_load 61 = .ok (.invokevirtual 113, 3) := by decide +kernel
theorem dX4_load_64 : decode cX4_load 64 = .ok (.lstore 4, 2) := by decide +kernel
theorem dX4_load_66 : decode cX4_load 66 = .ok (.aload_n 0, 1) := by decide +kernel
theorem dX4_load_67 : decode cX4_load 67 = .ok (.iload_n 1, 1) := by decide +kernel
theorem dX4_load_68 : decode cX4_load 68 = .ok (.iconst 0, 1) := by decide +kernel
theorem dX4_load_69 : decode cX4_load 69 = .ok (.invokevirtual 169, 3) := by decide +kernel
theorem dX4_load_72 : decode cX4_load 72 = .ok (.lload 4, 2) := by decide +kernel
theorem dX4_load_74 : decode cX4_load 74 = .ok (.ladd, 1) := by decide +kernel
theorem dX4_load_75 : decode cX4_load 75 = .ok (.aload_n 0, 1) := by decide +kernel
theorem dX4_load_76 : decode cX4_load 76 = .ok (.getfield 64, 3) := by decide +kernel
theorem dX4_load_79 : decode cX4_load 79 = .ok (.iload_n 1, 1) := by decide +kernel
theorem dX4_load_80 : decode cX4_load 80 = .ok (.laload, 1) := by decide +kernel
theorem dX4_load_81 : decode cX4_load 81 = .ok (.lcmp, 1) := by decide +kernel
theorem dX4_load_82 : decode cX4_load 82 = .ok (.ifCond .gt 27, 3) := by decide +kernel
theorem dX4_load_85 : decode cX4_load 85 = .ok (.aload_n 0, 1) := by decide +kernel
theorem dX4_load_86 : decode cX4_load 86 = .ok (.iload_n 1, 1) := by decide +kernel
theorem dX4_load_87 : decode cX4_load 87 = .ok (.iconst 1, 1) := by decide +kernel
theorem dX4_load_88 : decode cX4_load 88 = .ok (.invokevirtual 169, 3) := by decide +kernel
theorem dX4_load_91 : decode cX4_load 91 = .ok (.lload 4, 2) := by decide +kernel
theorem dX4_load_93 : decode cX4_load 93 = .ok (.iload_n 3, 1) := by decide +kernel
theorem dX4_load_94 : decode cX4_load 94 = .ok (.iconst 1, 1) := by decide +kernel
theorem dX4_load_95 : decode cX4_load 95 = .ok (.iadd, 1) := by decide +kernel
theorem dX4_load_96 : decode cX4_load 96 = .ok (.i2l, 1) := by decide +kernel
theorem dX4_load_97 : decode cX4_load 97 = .ok (.lmul, 1) := by decide +kernel
theorem dX4_load_98 : decode cX4_load 98 = .ok (.ladd, 1) := by decide +kernel
theorem dX4_load_99 : decode cX4_load 99 = .ok (.aload_n 0, 1) := by decide +kernel
theorem dX4_load_100 : decode cX4_load 100 = .ok (.getfield 67, 3) := by decide +kernel
theorem dX4_load_103 : decode cX4_load 103 = .ok (.iload_n 1, 1) := by decide +kernel
theorem dX4_load_104 : decode cX4_load 104 = .ok (.laload, 1) := by decide +kernel
theorem dX4_load_105 : decode cX4_load 105 = .ok (.lcmp, 1) := by decide +kernel
theorem dX4_load_106 : decode cX4_load 106 = .ok (.ifCond .le 5, 3) := by decide +kernel
theorem dX4_load_109 : decode cX4_load 109 = .ok (.iconst (-1), 1) := by decide +kernel
theorem dX4_load_110 : decode cX4_load 110 = .ok (.ireturn, 1) := by decide +kernel
theorem dX4_load_111 : decode cX4_load 111 = .ok (.aload_n 0, 1) := by decide +kernel
theorem dX4_load_112 : decode cX4_load 112 = .ok (.getfield 70, 3) := by decide +kernel
theorem dX4_load_115 : decode cX4_load 115 = .ok (.bipush 8, 2) := by decide +kernel
theorem dX4_load_117 : decode cX4_load 117 = .ok (.iload_n 1, 1) := by decide +kernel
theorem dX4_load_118 : decode cX4_load 118 = .ok (.imul, 1) := by decide +kernel
theorem dX4_load_119 : decode cX4_load 119 = .ok (.iload_n 3, 1) := by decide +kernel
theorem dX4_load_120 : decode cX4_load 120 = .ok (.iadd, 1) := by decide +kernel
theorem dX4_load_121 : decode cX4_load 121 = .ok (.iload_n 2, 1) := by decide +kernel
theorem dX4_load_122 : decode cX4_load 122 = .ok (.iastore, 1) := by decide +kernel
theorem dX4_load_123 : decode cX4_load 123 = .ok (.aload_n 0, 1) := by decide +kernel
theorem dX4_load_124 : decode cX4_load 124 = .ok (.getfield 73, 3) := by decide +kernel
theorem dX4_load_127 : decode cX4_load 127 = .ok (.iload_n 1, 1) := by decide +kernel
theorem dX4_load_128 : decode cX4_load 128 = .ok (.dup2, 1) := by decide +kernel
theorem dX4_load_129 : decode cX4_load 129 = .ok (.iaload, 1) := by decide +kernel
theorem dX4_load_130 : decode cX4_load 130 = .ok (.iconst 1, 1) := by decide +kernel
theorem dX4_load_131 : decode cX4_load 131 = .ok (.iadd, 1) := by decide +kernel
theorem dX4_load_132 : decode cX4_load 132 = .ok (.iastore, 1) := by decide +kernel
theorem dX4_load_133 : decode cX4_load 133 = .ok (.aload_n 0, 1) := by decide +kernel
theorem dX4_load_134 : decode cX4_load 134 = .ok (.getfield 39, 3) := by decide +kernel
theorem dX4_load_137 : decode cX4_load 137 = .ok (.iload_n 2, 1) := by decide +kernel
theorem dX4_load_138 : decode cX4_load 138 = .ok (.iload_n 1, 1) := by decide +kernel
theorem dX4_load_139 : decode cX4_load 139 = .ok (.iastore, 1) := by decide +kernel
theorem dX4_load_140 : decode cX4_load 140 = .ok (.iload_n 3, 1) := by decide +kernel
theorem dX4_load_141 : decode cX4_load 141 = .ok (.ireturn, 1) := by decide +kernel
theorem dX4_moment_0 : decode cX4_moment 0 = .ok (.iload_n 1, 1) := by decide +kernel
theorem dX4_moment_1 : decode cX4_moment 1 = .ok (.ifCond .lt 39, 3) := by decide +kernel
theorem dX4_moment_4 : decode cX4_moment 4 = .ok (.iload_n 1, 1) := by decide +kernel
theorem dX4_moment_5 : decode cX4_moment 5 = .ok (.aload_n 0, 1) := by decide +kernel
theorem dX4_moment_6 : decode cX4_moment 6 = .ok (.getfield 164, 3) := by decide +kernel
theorem dX4_moment_9 : decode cX4_moment 9 = .ok (.if_icmp .ge 31, 3) := by decide +kernel
theorem dX4_moment_12 : decode cX4_moment 12 = .ok (.iload_n 2, 1) := by decide +kernel
theorem dX4_moment_13 : decode cX4_moment 13 = .ok (.i2l, 1) := by decide +kernel
theorem dX4_moment_14 : decode cX4_moment 14 = .ok (.lconst 0, 1) := by decide +kernel
theorem dX4_moment_15 : decode cX4_moment 15 = .ok (.lconst 1, 1) := by decide +kernel
theorem dX4_moment_16 : decode cX4_moment 16 = .ok (.invokestatic 88, 3) := by decide +kernel
theorem dX4_moment_19 : decode cX4_moment 19 = .ok (.ifCond .eq 21, 3) := by decide +kernel
theorem dX4_moment_22 : decode cX4_moment 22 = .ok (.aload_n 0, 1) := by decide +kernel
theorem dX4_moment_23 : decode cX4_moment 23 = .ok (.iload_n 1, 1) := by decide +kernel
theorem dX4_moment_24 : decode cX4_moment 24 = .ok (.iload_n 2, 1) := by decide +kernel
theorem dX4_moment_25 : decode cX4_moment 25 = .ok (.iconst 1, 1) := by decide +kernel
theorem dX4_moment_26 : decode cX4_moment 26 = .ok (.if_icmp .ne 7, 3) := by decide +kernel
theorem dX4_moment_29 : decode cX4_moment 29 = .ok (.iconst 1, 1) := by decide +kernel
theorem dX4_moment_30 : decode cX4_moment 30 = .ok (.goto 4, 3) := by decide +kernel
theorem dX4_moment_33 : decode cX4_moment 33 = .ok (.iconst 0, 1) := by decide +kernel
theorem dX4_moment_34 : decode cX4_moment 34 = .ok (.invokevirtual 169, 3) := by decide +kernel
theorem dX4_moment_37 : decode cX4_moment 37 = .ok (.goto 6, 3) := by decide +kernel
theorem dX4_moment_40 : decode cX4_moment 40 = .ok (.ldc2_w 111, 3) := by decide +kernel
theorem dX4_moment_43 : decode cX4_moment 43 = .ok (.lreturn, 1) := by decide +kernel
theorem dX4_rebale_0 : decode cX4_rebale 0 = .ok (.aload_n 0, 1) := by decide +kernel
theorem dX4_rebale_1 : decode cX4_rebale 1 = .ok (.iload_n 1, 1) := by decide +kernel
theorem dX4_rebale_2 : decode cX4_rebale 2 = .ok (.invokevirtual 108, 3) := by decide +kernel
theorem dX4_rebale_5 : decode cX4_rebale 5 = .ok (.ifCond .eq 43, 3) := by decide +kernel
theorem dX4_rebale_8 : decode cX4_rebale 8 = .ok (.aload_n 0, 1) := by decide +kernel
theorem dX4_rebale_9 : decode cX4_rebale 9 = .ok (.iload_n 2, 1) := by decide +kernel
theorem dX4_rebale_10 : decode cX4_rebale 10 = .ok (.invokevirtual 108, 3) := by decide +kernel
theorem dX4_rebale_13 : decode cX4_rebale 13 = .ok (.ifCond .eq 35, 3) := by decide +kernel
theorem dX4_rebale_16 : decode cX4_rebale 16 = .ok (.iload_n 1, 1) := by decide +kernel
theorem dX4_rebale_17 : decode cX4_rebale 17 = .ok (.iload_n 2, 1) := by decide +kernel
theorem dX4_rebale_18 : decode cX4_rebale 18 = .ok (.if_icmp .eq 30, 3) := by decide +kernel
theorem dX4_rebale_21 : decode cX4_rebale 21 = .ok (.aload_n 0, 1) := by decide +kernel
theorem dX4_rebale_22 : decode cX4_rebale 22 = .ok (.getfield 23, 3) := by decide +kernel
theorem dX4_rebale_25 : decode cX4_rebale 25 = .ok (.iload_n 1, 1) := by decide +kernel
theorem dX4_rebale_26 : decode cX4_rebale 26 = .ok (.iaload, 1) := by decide +kernel
theorem dX4_rebale_27 : decode cX4_rebale 27 = .ok (.ifCond .ne 21, 3) := by decide +kernel
theorem dX4_rebale_30 : decode cX4_rebale 30 = .ok (.aload_n 0, 1) := by decide +kernel
theorem dX4_rebale_31 : decode cX4_rebale 31 = .ok (.getfield 23, 3) := by decide +kernel
theorem dX4_rebale_34 : decode cX4_rebale 34 = .ok (.iload_n 2, 1) := by decide +kernel
theorem dX4_rebale_35 : decode cX4_rebale 35 = .ok (.iaload, 1) := by decide +kernel
theorem dX4_rebale_36 : decode cX4_rebale 36 = .ok (.ifCond .ne 12, 3) := by decide +kernel
theorem dX4_rebale_39 : decode cX4_rebale 39 = .ok (.aload_n 0, 1) := by decide +kernel
theorem dX4_rebale_40 : decode cX4_rebale 40 = .ok (.getfield 76, 3) := by decide +kernel
theorem dX4_rebale_43 : decode cX4_rebale 43 = .ok (.bipush 12, 2) := by decide +kernel
theorem dX4_rebale_45 : decode cX4_rebale 45 = .ok (.if_icmp .ne 5, 3) := by decide +kernel
theorem dX4_rebale_48 : decode cX4_rebale 48 = .ok (.iconst (-1), 1) := by decide +kernel
theorem dX4_rebale_49 : decode cX4_rebale 49 = .ok (.ireturn, 1) := by decide +kernel
theorem dX4_rebale_50 : decode cX4_rebale 50 = .ok (.aload_n 0, 1) := by decide +kernel
theorem dX4_rebale_51 : decode cX4_rebale 51 = .ok (.invokevirtual 96, 3) := by decide +kernel
theorem dX4_rebale_54 : decode cX4_rebale 54 = .ok (.istore_n 3, 1) := by decide +kernel
theorem dX4_rebale_55 : decode cX4_rebale 55 = .ok (.aload_n 0, 1) := by decide +kernel
theorem dX4_rebale_56 : decode cX4_rebale 56 = .ok (.getfield 42, 3) := by decide +kernel
theorem dX4_rebale_59 : decode cX4_rebale 59 = .ok (.iload_n 3, 1) := by decide +kernel
theorem dX4_rebale_60 : decode cX4_rebale 60 = .ok (.iload_n 1, 1) := by decide +kernel
theorem dX4_rebale_61 : decode cX4_rebale 61 = .ok (.iastore, 1) := by decide +kernel
theorem dX4_rebale_62 : decode cX4_rebale 62 = .ok (.aload_n 0, 1) := by decide +kernel
theorem dX4_rebale_63 : decode cX4_rebale 63 = .ok (.getfield 45, 3) := by decide +kernel
theorem dX4_rebale_66 : decode cX4_rebale 66 = .ok (.iload_n 3, 1) := by decide +kernel
theorem dX4_rebale_67 : decode cX4_rebale 67 = .ok (.iload_n 2, 1) := by decide +kernel
theorem dX4_rebale_68 : decode cX4_rebale 68 = .ok (.iastore, 1) := by decide +kernel
theorem dX4_rebale_69 : decode cX4_rebale 69 = .ok (.aload_n 0, 1) := by decide +kernel
theorem dX4_rebale_70 : decode cX4_rebale 70 = .ok (.getfield 26, 3) := by decide +kernel
theorem dX4_rebale_73 : decode cX4_rebale 73 = .ok (.iload_n 3, 1) := by decide +kernel
theorem dX4_rebale_74 : decode cX4_rebale 74 = .ok (.aload_n 0, 1) := by decide +kernel
theorem dX4_rebale_75 : decode cX4_rebale 75 = .ok (.getfield 26, 3) := by decide +kernel
theorem dX4_rebale_78 : decode cX4_rebale 78 = .ok (.iload_n 1, 1) := by decide +kernel
theorem dX4_rebale_79 : decode cX4_rebale 79 = .ok (.daload, 1) := by decide +kernel
theorem dX4_rebale_80 : decode cX4_rebale 80 = .ok (.aload_n 0, 1) := by decide +kernel
theorem dX4_rebale_81 : decode cX4_rebale 81 = .ok (.getfield 26, 3) := by decide +kernel
theorem dX4_rebale_84 : decode cX4_rebale 84 = .ok (.iload_n 2, 1) := by decide +kernel
theorem dX4_rebale_85 : decode cX4_rebale 85 = .ok (.daload, 1) := by decide +kernel
theorem dX4_rebale_86 : decode cX4_rebale 86 = .ok (.dcmp .l, 1) := by decide +kernel
theorem dX4_rebale_87 : decode cX4_rebale 87 = .ok (.ifCond .le 12, 3) := by decide +kernel
theorem dX4_rebale_90 : decode cX4_rebale 90 = .ok (.aload_n 0, 1) := by decide +kernel
theorem dX4_rebale_91 : decode cX4_rebale 91 = .ok (.getfield 26, 3) := by decide +kernel
theorem dX4_rebale_94 : decode cX4_rebale 94 = .ok (.iload_n 1, 1) := by decide +kernel
theorem dX4_rebale_95 : decode cX4_rebale 95 = .ok (.daload, 1) := by decide +kernel
theorem dX4_rebale_96 : decode cX4_rebale 96 = .ok (.goto 9, 3) := by decide +kernel
theorem dX4_rebale_99 : decode cX4_rebale 99 = .ok (.aload_n 0, 1) := by decide +kernel
theorem dX4_rebale_100 : decode cX4_rebale 100 = .ok (.getfield 26, 3) := by decide +kernel
theorem dX4_rebale_103 : decode cX4_rebale 103 = .ok (.iload_n 2, 1) := by decide +kernel
theorem dX4_rebale_104 : decode cX4_rebale 104 = .ok (.daload, 1) := by decide +kernel
theorem dX4_rebale_105 : decode cX4_rebale 105 = .ok (.dastore, 1) := by decide +kernel
theorem dX4_rebale_106 : decode cX4_rebale 106 = .ok (.aload_n 0, 1) := by decide +kernel
theorem dX4_rebale_107 : decode cX4_rebale 107 = .ok (.getfield 23, 3) := by decide +kernel
theorem dX4_rebale_110 : decode cX4_rebale 110 = .ok (.iload_n 1, 1) := by decide +kernel
theorem dX4_rebale_111 : decode cX4_rebale 111 = .ok (.iconst 3, 1) := by decide +kernel
theorem dX4_rebale_112 : decode cX4_rebale 112 = .ok (.iastore, 1) := by decide +kernel
theorem dX4_rebale_113 : decode cX4_rebale 113 = .ok (.aload_n 0, 1) := by decide +kernel
theorem dX4_rebale_114 : decode cX4_rebale 114 = .ok (.getfield 23, 3) := by decide +kernel
theorem dX4_rebale_117 : decode cX4_rebale 117 = .ok (.iload_n 2, 1) := by decide +kernel
theorem dX4_rebale_118 : decode cX4_rebale 118 = .ok (.iconst 3, 1) := by decide +kernel
theorem dX4_rebale_119 : decode cX4_rebale 119 = .ok (.iastore, 1) := by decide +kernel
theorem dX4_rebale_120 : decode cX4_rebale 120 = .ok (.iload_n 3, 1) := by decide +kernel
theorem dX4_rebale_121 : decode cX4_rebale 121 = .ok (.ireturn, 1) := by decide +kernel
theorem dX4_brought_0 : decode cX4_brought 0 = .ok (.aload_n 0, 1) := by decide +kernel
theorem dX4_brought_1 : decode cX4_brought 1 = .ok (.iload_n 1, 1) := by decide +kernel
theorem dX4_brought_2 : decode cX4_brought 2 = .ok (.invokevirtual 108, 3) := by decide +kernel
theorem dX4_brought_5 : decode cX4_brought 5 = .ok (.ifCond .eq 20, 3) := by decide +kernel
theorem dX4_brought_8 : decode cX4_brought 8 = .ok (.iload_n 2, 1) := by decide +kernel
theorem dX4_brought_9 : decode cX4_brought 9 = .ok (.invokestatic 82, 3) := by decide +kernel
theorem dX4_brought_12 : decode cX4_brought 12 = .ok (.ifCond .eq 13, 3) := by decide +kernel
theorem dX4_brought_15 : decode cX4_brought 15 = .ok (.iload_n 3, 1) := by decide +kernel
theorem dX4_brought_16 : decode cX4_brought 16 = .ok (.i2l, 1) := by decide +kernel
theorem dX4_brought_17 : decode cX4_brought 17 = .ok (.lconst 0, 1) := by decide +kernel
theorem dX4_brought_18 : decode cX4_brought 18 = .ok (.lconst 1, 1) := by decide +kernel
theorem dX4_brought_19 : decode cX4_brought 19 = .ok (.invokestatic 88, 3) := by decide +kernel
theorem dX4_brought_22 : decode cX4_brought 22 = .ok (.ifCond .ne 7, 3) := by decide +kernel
theorem dX4_brought_25 : decode cX4_brought 25 = .ok (.ldc2_w 111, 3) := by decide +kernel
theorem dX4_brought_28 : decode cX4_brought 28 = .ok (.lreturn, 1) := by decide +kernel
theorem dX4_brought_29 : decode cX4_brought 29 = .ok (.aload_n 0, 1) := by decide +kernel
theorem dX4_brought_30 : decode cX4_brought 30 = .ok (.getfield 42, 3) := by decide +kernel
theorem dX4_brought_33 : decode cX4_brought 33 = .ok (.iload_n 1, 1) := by decide +kernel
theorem dX4_brought_34 : decode cX4_brought 34 = .ok (.iaload, 1) := by decide +kernel
theorem dX4_brought_35 : decode cX4_brought 35 = .ok (.ifCond .ge 5, 3) := by decide +kernel
theorem dX4_brought_38 : decode cX4_brought 38 = .ok (.lconst 0, 1) := by decide +kernel
theorem dX4_brought_39 : decode cX4_brought 39 = .ok (.lreturn, 1) := by decide +kernel
theorem dX4_brought_40 : decode cX4_brought 40 = .ok (.aload_n 0, 1) := by decide +kernel
theorem dX4_brought_41 : decode cX4_brought 41 = .ok (.iload_n 3, 1) := by decide +kernel
theorem dX4_brought_42 : decode cX4_brought 42 = .ok (.ifCond .ne 12, 3) := by decide +kernel
theorem dX4_brought_45 : decode cX4_brought 45 = .ok (.aload_n 0, 1) := by decide +kernel
theorem dX4_brought_46 : decode cX4_brought 46 = .ok (.getfield 42, 3) := by decide +kernel
theorem dX4_brought_49 : decode cX4_brought 49 = .ok (.iload_n 1, 1) := by decide +kernel
theorem dX4_brought_50 : decode cX4_brought 50 = .ok (.iaload, 1) := by decide +kernel
theorem dX4_brought_51 : decode cX4_brought 51 = .ok (.goto 9, 3) := by decide +kernel
theorem dX4_brought_54 : decode cX4_brought 54 = .ok (.aload_n 0, 1) := by decide +kernel
theorem dX4_brought_55 : decode cX4_brought 55 = .ok (.getfield 45, 3) := by decide +kernel
theorem dX4_brought_58 : decode cX4_brought 58 = .ok (.iload_n 1, 1) := by decide +kernel
theorem dX4_brought_59 : decode cX4_brought 59 = .ok (.iaload, 1) := by decide +kernel
theorem dX4_brought_60 : decode cX4_brought 60 = .ok (.iload_n 2, 1) := by decide +kernel
theorem dX4_brought_61 : decode cX4_brought 61 = .ok (.invokevirtual 104, 3) := by decide +kernel
theorem dX4_brought_64 : decode cX4_brought 64 = .ok (.lreturn, 1) := by decide +kernel
theorem dX4_say_0 : decode cX4_say 0 = .ok (.aload_n 0, 1) := by decide +kernel
theorem dX4_say_1 : decode cX4_say 1 = .ok (.aload_n 0, 1) := by decide +kernel
theorem dX4_say_2 : decode cX4_say 2 = .ok (.getfield 173, 3) := by decide +kernel
theorem dX4_say_5 : decode cX4_say 5 = .ok (.ifCond .ne 7, 3) := by decide +kernel
theorem dX4_say_8 : decode cX4_say 8 = .ok (.iload_n 1, 1) := by decide +kernel
theorem dX4_say_9 : decode cX4_say 9 = .ok (.goto 7, 3) := by decide +kernel
theorem dX4_say_12 : decode cX4_say 12 = .ok (.aload_n 0, 1) := by decide +kernel
theorem dX4_say_13 : decode cX4_say 13 = .ok (.getfield 176, 3) := by decide +kernel
theorem dX4_say_16 : decode cX4_say 16 = .ok (.putfield 176, 3) := by decide +kernel
theorem dX4_say_19 : decode cX4_say 19 = .ok (.aload_n 0, 1) := by decide +kernel
theorem dX4_say_20 : decode cX4_say 20 = .ok (.dup, 1) := by decide +kernel
theorem dX4_say_21 : decode cX4_say 21 = .ok (.getfield 173, 3) := by decide +kernel
theorem dX4_say_24 : decode cX4_say 24 = .ok (.iconst 1, 1) := by decide +kernel
theorem dX4_say_25 : decode cX4_say 25 = .ok (.isub, 1) := by decide +kernel
theorem dX4_say_26 : decode cX4_say 26 = .ok (.putfield 173, 3) := by decide +kernel
theorem dX4_say_29 : decode cX4_say 29 = .ok (.return_, 1) := by decide +kernel
theorem dX4_sayNumber_0 : decode cX4_sayNumber 0 = .ok (.lconst 1, 1) := by decide +kernel
theorem dX4_sayNumber_1 : decode cX4_sayNumber 1 = .ok (.lstore_n 3, 1) := by decide +kernel
theorem dX4_sayNumber_2 : decode cX4_sayNumber 2 = .ok (.lload_n 1, 1) := by decide +kernel
theorem dX4_sayNumber_3 : decode cX4_sayNumber 3 = .ok (.lload_n 3, 1) := by decide +kernel
theorem dX4_sayNumber_4 : decode cX4_sayNumber 4 = .ok (.ldiv, 1) := by decide +kernel
theorem dX4_sayNumber_5 : decode cX4_sayNumber 5 = .ok (.ldc2_w 179, 3) := by decide +kernel
theorem dX4_sayNumber_8 : decode cX4_sayNumber 8 = .ok (.lcmp, 1) := by decide +kernel
theorem dX4_sayNumber_9 : decode cX4_sayNumber 9 = .ok (.ifCond .le 12, 3) := by decide +kernel
theorem dX4_sayNumber_12 : decode cX4_sayNumber 12 = .ok (.lload_n 3, 1) := by decide +kernel
theorem dX4_sayNumber_13 : decode cX4_sayNumber 13 = .ok (.ldc2_w 181, 3) := by decide +kernel
theorem dX4_sayNumber_16 : decode cX4_sayNumber 16 = .ok (.lmul, 1) := by decide +kernel
theorem dX4_sayNumber_17 : decode cX4_sayNumber 17 = .ok (.lstore_n 3, 1) := by decide +kernel
theorem dX4_sayNumber_18 : decode cX4_sayNumber 18 = .ok (.goto (-16), 3) := by decide +kernel
theorem dX4_sayNumber_21 : decode cX4_sayNumber 21 = .ok (.lload_n 3, 1) := by decide +kernel
theorem dX4_sayNumber_22 : decode cX4_sayNumber 22 = .ok (.lconst 0, 1) := by decide +kernel
theorem dX4_sayNumber_23 : decode cX4_sayNumber 23 = .ok (.lcmp, 1) := by decide +kernel
theorem dX4_sayNumber_24 : decode cX4_sayNumber 24 = .ok (.ifCond .le 28, 3) := by decide +kernel
theorem dX4_sayNumber_27 : decode cX4_sayNumber 27 = .ok (.aload_n 0, 1) := by decide +kernel
theorem dX4_sayNumber_28 : decode cX4_sayNumber 28 = .ok (.ldc2_w 183, 3) := by decide +kernel
theorem dX4_sayNumber_31 : decode cX4_sayNumber 31 = .ok (.lload_n 1, 1) := by decide +kernel
theorem dX4_sayNumber_32 : decode cX4_sayNumber 32 = .ok (.lload_n 3, 1) := by decide +kernel
theorem dX4_sayNumber_33 : decode cX4_sayNumber 33 = .ok (.ldiv, 1) := by decide +kernel
theorem dX4_sayNumber_34 : decode cX4_sayNumber 34 = .ok (.ldc2_w 181, 3) := by decide +kernel
theorem dX4_sayNumber_37 : decode cX4_sayNumber 37 = .ok (.lrem, 1) := by decide +kernel
theorem dX4_sayNumber_38 : decode cX4_sayNumber 38 = .ok (.ladd, 1) := by decide +kernel
theorem dX4_sayNumber_39 : decode cX4_sayNumber 39 = .ok (.l2i, 1) := by decide +kernel
theorem dX4_sayNumber_40 : decode cX4_sayNumber 40 = .ok (.invokevirtual 185, 3) := by decide +kernel
theorem dX4_sayNumber_43 : decode cX4_sayNumber 43 = .ok (.lload_n 3, 1) := by decide +kernel
theorem dX4_sayNumber_44 : decode cX4_sayNumber 44 = .ok (.ldc2_w 181, 3) := by decide +kernel
theorem dX4_sayNumber_47 : decode cX4_sayNumber 47 = .ok (.ldiv, 1) := by decide +kernel
theorem dX4_sayNumber_48 : decode cX4_sayNumber 48 = .ok (.lstore_n 3, 1) := by decide +kernel
theorem dX4_sayNumber_49 : decode cX4_sayNumber 49 = .ok (.goto (-28), 3) := by decide +kernel
theorem dX4_sayNumber_52 : decode cX4_sayNumber 52 = .ok (.return_, 1) := by decide +kernel
theorem dX4_label_0 : decode cX4_label 0 = .ok (.aload_n 0, 1) := by decide +kernel
theorem dX4_label_1 : decode cX4_label 1 = .ok (.iload_n 1, 1) := by decide +kernel
theorem dX4_label_2 : decode cX4_label 2 = .ok (.invokevirtual 108, 3) := by decide +kernel
theorem dX4_label_5 : decode cX4_label 5 = .ok (.ifCond .eq 7, 3) := by decide +kernel
theorem dX4_label_8 : decode cX4_label 8 = .ok (.iload_n 2, 1) := by decide +kernel
theorem dX4_label_9 : decode cX4_label 9 = .ok (.ifCond .ge 5, 3) := by decide +kernel
theorem dX4_label_12 : decode cX4_label 12 = .ok (.iconst (-1), 1) := by decide +kernel
theorem dX4_label_13 : decode cX4_label 13 = .ok (.ireturn, 1) := by decide +kernel
theorem dX4_label_14 : decode cX4_label 14 = .ok (.aload_n 0, 1) := by decide +kernel
theorem dX4_label_15 : decode cX4_label 15 = .ok (.iload_n 2, 1) := by decide +kernel
theorem dX4_label_16 : decode cX4_label 16 = .ok (.putfield 173, 3) := by decide +kernel
theorem dX4_label_19 : decode cX4_label 19 = .ok (.aload_n 0, 1) := by decide +kernel
theorem dX4_label_20 : decode cX4_label 20 = .ok (.iconst (-1), 1) := by decide +kernel
theorem dX4_label_21 : decode cX4_label 21 = .ok (.putfield 176, 3) := by decide +kernel
theorem dX4_label_24 : decode cX4_label 24 = .ok (.aload_n 0, 1) := by decide +kernel
theorem dX4_label_25 : decode cX4_label 25 = .ok (.bipush 66, 2) := by decide +kernel
theorem dX4_label_27 : decode cX4_label 27 = .ok (.invokevirtual 185, 3) := by decide +kernel
theorem dX4_label_30 : decode cX4_label 30 = .ok (.aload_n 0, 1) := by decide +kernel
theorem dX4_label_31 : decode cX4_label 31 = .ok (.iload_n 1, 1) := by decide +kernel
theorem dX4_label_32 : decode cX4_label 32 = .ok (.i2l, 1) := by decide +kernel
theorem dX4_label_33 : decode cX4_label 33 = .ok (.invokevirtual 189, 3) := by decide +kernel
theorem dX4_label_36 : decode cX4_label 36 = .ok (.aload_n 0, 1) := by decide +kernel
theorem dX4_label_37 : decode cX4_label 37 = .ok (.bipush 32, 2) := by decide +kernel
theorem dX4_label_39 : decode cX4_label 39 = .ok (.invokevirtual 185, 3) := by decide +kernel
theorem dX4_label_42 : decode cX4_label 42 = .ok (.aload_n 0, 1) := by decide +kernel
theorem dX4_label_43 : decode cX4_label 43 = .ok (.aload_n 0, 1) := by decide +kernel
theorem dX4_label_44 : decode cX4_label 44 = .ok (.iload_n 1, 1) := by decide +kernel
theorem dX4_label_45 : decode cX4_label 45 = .ok (.invokevirtual 113, 3) := by decide +kernel
theorem dX4_label_48 : decode cX4_label 48 = .ok (.invokevirtual 189, 3) := by decide +kernel
theorem dX4_label_51 : decode cX4_label 51 = .ok (.aload_n 0, 1) := by decide +kernel
theorem dX4_label_52 : decode cX4_label 52 = .ok (.bipush 32, 2) := by decide +kernel
theorem dX4_label_54 : decode cX4_label 54 = .ok (.invokevirtual 185, 3) := by decide +kernel
theorem dX4_label_57 : decode cX4_label 57 = .ok (.aload_n 0, 1) := by decide +kernel
theorem dX4_label_58 : decode cX4_label 58 = .ok (.aload_n 0, 1) := by decide +kernel
theorem dX4_label_59 : decode cX4_label 59 = .ok (.iload_n 1, 1) := by decide +kernel
theorem dX4_label_60 : decode cX4_label 60 = .ok (.invokevirtual 157, 3) := by decide +kernel
theorem dX4_label_63 : decode cX4_label 63 = .ok (.i2l, 1) := by decide +kernel
theorem dX4_label_64 : decode cX4_label 64 = .ok (.invokevirtual 189, 3) := by decide +kernel
theorem dX4_label_67 : decode cX4_label 67 = .ok (.aload_n 0, 1) := by decide +kernel
theorem dX4_label_68 : decode cX4_label 68 = .ok (.getfield 176, 3) := by decide +kernel
theorem dX4_label_71 : decode cX4_label 71 = .ok (.ireturn, 1) := by decide +kernel
theorem dJ5_init_d00df_0 : decode cJ5_init_d00df 0 = .ok (.aload_n 0, 1) := by decide +kernel
theorem dJ5_init_d00df_1 : decode cJ5_init_d00df 1 = .ok (.invokespecial 3, 3) := by decide +kernel
theorem dJ5_init_d00df_4 : decode cJ5_init_d00df 4 = .ok (.getstatic 18, 3) := by decide +kernel
theorem dJ5_init_d00df_7 : decode cJ5_init_d00df 7 = .ok (.ifCond .eq 18, 3) := by decide +kernel
theorem dJ5_init_d00df_10 : decode cJ5_init_d00df 10 = .ok (.aload_n 0, 1) := by decide +kernel
theorem dJ5_init_d00df_11 : decode cJ5_init_d00df 11 = .ok (.iload_n 1, 1) := by decide +kernel
theorem dJ5_init_d00df_12 : decode cJ5_init_d00df 12 = .ok (.newarray .byte, 2) := by decide +kernel
theorem dJ5_init_d00df_14 : decode cJ5_init_d00df 14 = .ok (.putfield 15, 3) := by decide +kernel
theorem dJ5_init_d00df_17 : decode cJ5_init_d00df 17 = .ok (.aload_n 0, 1) := by decide +kernel
theorem dJ5_init_d00df_18 : decode cJ5_init_d00df 18 = .ok (.iconst 0, 1) := by decide +kernel
theorem dJ5_init_d00df_19 : decode cJ5_init_d00df 19 = .ok (.putfield 22, 3) := by decide +kernel
theorem dJ5_init_d00df_22 : decode cJ5_init_d00df 22 = .ok (.goto 16, 3) := by decide +kernel
theorem dJ5_init_d00df_25 : decode cJ5_init_d00df 25 = .ok (.aload_n 0, 1) := by decide +kernel
theorem dJ5_init_d00df_26 : decode cJ5_init_d00df 26 = .ok (.iload_n 1, 1) := by decide +kernel
theorem dJ5_init_d00df_27 : decode cJ5_init_d00df 27 = .ok (.invokestatic 26, 3) := by decide +kernel
theorem dJ5_init_d00df_30 : decode cJ5_init_d00df 30 = .ok (.putfield 15, 3) := by decide +kernel
theorem dJ5_init_d00df_33 : decode cJ5_init_d00df 33 = .ok (.aload_n 0, 1) := by decide +kernel
theorem dJ5_init_d00df_34 : decode cJ5_init_d00df 34 = .ok (.iconst 1, 1) := by decide +kernel
theorem dJ5_init_d00df_35 : decode cJ5_init_d00df 35 = .ok (.putfield 22, 3) := by decide +kernel
theorem dJ5_init_d00df_38 : decode cJ5_init_d00df 38 = .ok (.return_, 1) := by decide +kernel
theorem dJ5_length_8abf5_0 : decode cJ5_length_8abf5 0 = .ok (.aload_n 0, 1) := by decide +kernel
theorem dJ5_length_8abf5_1 : decode cJ5_length_8abf5 1 = .ok (.getfield 79, 3) := by decide +kernel
theorem dJ5_length_8abf5_4 : decode cJ5_length_8abf5 4 = .ok (.ireturn, 1) := by decide +kernel
theorem dJ5_ensureCapacityInternal_d00df_0 : decode cJ5_ensureCapacityInternal_d00df 0 = .ok (.aload_n 0, 1) := by decide +kernel
theorem dJ5_ensureCapacityInternal_d00df_1 : decode cJ5_ensureCapacityInternal_d00df 1 = .ok (.getfield 15, 3) := by decide +kernel
theorem dJ5_ensureCapacityInternal_d00df_4 : decode cJ5_ensureCapacityInternal_d00df 4 = .ok (.arraylength, 1) := by decide +kernel
theorem dJ5_ensureCapacityInternal_d00df_5 : decode cJ5_ensureCapacityInternal_d00df 5 = .ok (.aload_n 0, 1) := by decide +kernel
theorem dJ5_ensureCapacityInternal_d00df_6 : decode cJ5_ensureCapacityInternal_d00df 6 = .ok (.getfield 22, 3) := by decide +kernel
theorem dJ5_ensureCapacityInternal_d00df_9 : decode cJ5_ensureCapacityInternal_d00df 9 = .ok (.ishr, 1) := by decide +kernel
theorem dJ5_ensureCapacityInternal_d00df_10 : decode cJ5_ensureCapacityInternal_d00df 10 = .ok (.istore_n 2, 1) := by decide +kernel
theorem dJ5_ensureCapacityInternal_d00df_11 : decode cJ5_ensureCapacityInternal_d00df 11 = .ok (.iload_n 1, 1) := by decide +kernel
theorem dJ5_ensureCapacityInternal_d00df_12 : decode cJ5_ensureCapacityInternal_d00df 12 = .ok (.iload_n 2, 1) := by decide +kernel
theorem dJ5_ensureCapacityInternal_d00df_13 : decode cJ5_ensureCapacityInternal_d00df 13 = .ok (.isub, 1) := by decide +kernel
theorem dJ5_ensureCapacityInternal_d00df_14 : decode cJ5_ensureCapacityInternal_d00df 14 = .ok (.ifCond .le 24, 3) := by decide +kernel
theorem dJ5_ensureCapacityInternal_d00df_17 : decode cJ5_ensureCapacityInternal_d00df 17 = .ok (.aload_n 0, 1) := by decide +kernel
theorem dJ5_ensureCapacityInternal_d00df_18 : decode cJ5_ensureCapacityInternal_d00df 18 = .ok (.aload_n 0, 1) := by decide +kernel
theorem dJ5_ensureCapacityInternal_d00df_19 : decode cJ5_ensureCapacityInternal_d00df 19 = .ok (.getfield 15, 3) := by decide +kernel
theorem dJ5_ensureCapacityInternal_d00df_22 : decode cJ5_ensureCapacityInternal_d00df 22 = .ok (.aload_n 0, 1) := by decide +kernel
theorem dJ5_ensureCapacityInternal_d00df_23 : decode cJ5_ensureCapacityInternal_d00df 23 = .ok (.iload_n 1, 1) := by decide +kernel
theorem dJ5_ensureCapacityInternal_d00df_24 : decode cJ5_ensureCapacityInternal_d00df 24 = .ok (.invokevirtual 104, 3) := by decide +kernel
theorem dJ5_ensureCapacityInternal_d00df_27 : decode cJ5_ensureCapacityInternal_d00df 27 = .ok (.aload_n 0, 1) := by decide +kernel
theorem dJ5_ensureCapacityInternal_d00df_28 : decode cJ5_ensureCapacityInternal_d00df 28 = .ok (.getfield 22, 3) := by decide +kernel
theorem dJ5_ensureCapacityInternal_d00df_31 : decode cJ5_ensureCapacityInternal_d00df 31 = .ok (.ishl, 1) := by decide +kernel
theorem dJ5_ensureCapacityInternal_d00df_32 : decode cJ5_ensureCapacityInternal_d00df 32 = .ok (.invokestatic 108, 3) := by decide +kernel
theorem dJ5_ensureCapacityInternal_d00df_35 : decode cJ5_ensureCapacityInternal_d00df 35 = .ok (.putfield 15, 3) := by decide +kernel
theorem dJ5_ensureCapacityInternal_d00df_38 : decode cJ5_ensureCapacityInternal_d00df 38 = .ok (.return_, 1) := by decide +kernel
theorem dJ5_setLength_d00df_0 : decode cJ5_setLength_d00df 0 = .ok (.iload_n 1, 1) := by decide +kernel
theorem dJ5_setLength_d00df_1 : decode cJ5_setLength_d00df 1 = .ok (.ifCond .ge 12, 3) := by decide +kernel
theorem dJ5_setLength_d00df_4 : decode cJ5_setLength_d00df 4 = .ok (.new 129, 3) := by decide +kernel
theorem dJ5_setLength_d00df_7 : decode cJ5_setLength_d00df 7 = .ok (.dup, 1) := by decide +kernel
theorem dJ5_setLength_d00df_8 : decode cJ5_setLength_d00df 8 = .ok (.iload_n 1, 1) := by decide +kernel
theorem dJ5_setLength_d00df_9 : decode cJ5_setLength_d00df 9 = .ok (.invokespecial 131, 3) := by decide +kernel
theorem dJ5_setLength_d00df_12 : decode cJ5_setLength_d00df 12 = .ok (.athrow, 1) := by decide +kernel
theorem dJ5_setLength_d00df_13 : decode cJ5_setLength_d00df 13 = .ok (.aload_n 0, 1) := by decide +kernel
theorem dJ5_setLength_d00df_14 : decode cJ5_setLength_d00df 14 = .ok (.iload_n 1, 1) := by decide +kernel
theorem dJ5_setLength_d00df_15 : decode cJ5_setLength_d00df 15 = .ok (.invokevirtual 100, 3) := by decide +kernel
theorem dJ5_setLength_d00df_18 : decode cJ5_setLength_d00df 18 = .ok (.aload_n 0, 1) := by decide +kernel
theorem dJ5_setLength_d00df_19 : decode cJ5_setLength_d00df 19 = .ok (.getfield 79, 3) := by decide +kernel
theorem dJ5_setLength_d00df_22 : decode cJ5_setLength_d00df 22 = .ok (.iload_n 1, 1) := by decide +kernel
theorem dJ5_setLength_d00df_23 : decode cJ5_setLength_d00df 23 = .ok (.if_icmp .ge 40, 3) := by decide +kernel
theorem dJ5_setLength_d00df_26 : decode cJ5_setLength_d00df 26 = .ok (.aload_n 0, 1) := by decide +kernel
theorem dJ5_setLength_d00df_27 : decode cJ5_setLength_d00df 27 = .ok (.invokevirtual 83, 3) := by decide +kernel
theorem dJ5_setLength_d00df_30 : decode cJ5_setLength_d00df 30 = .ok (.ifCond .eq 18, 3) := by decide +kernel
theorem dJ5_setLength_d00df_33 : decode cJ5_setLength_d00df 33 = .ok (.aload_n 0, 1) := by decide +kernel
theorem dJ5_setLength_d00df_34 : decode cJ5_setLength_d00df 34 = .ok (.getfield 15, 3) := by decide +kernel
theorem dJ5_setLength_d00df_37 : decode cJ5_setLength_d00df 37 = .ok (.aload_n 0, 1) := by decide +kernel
theorem dJ5_setLength_d00df_38 : decode cJ5_setLength_d00df 38 = .ok (.getfield 79, 3) := by decide +kernel
theorem dJ5_setLength_d00df_41 : decode cJ5_setLength_d00df 41 = .ok (.iload_n 1, 1) := by decide +kernel
theorem dJ5_setLength_d00df_42 : decode cJ5_setLength_d00df 42 = .ok (.invokestatic 133, 3) := by decide +kernel
theorem dJ5_setLength_d00df_45 : decode cJ5_setLength_d00df 45 = .ok (.goto 31, 3) := by decide +kernel
theorem dJ5_setLength_d00df_48 : decode cJ5_setLength_d00df 48 = .ok (.aload_n 0, 1) := by decide +kernel
theorem dJ5_setLength_d00df_49 : decode cJ5_setLength_d00df 49 = .ok (.getfield 15, 3) := by decide +kernel
theorem dJ5_setLength_d00df_52 : decode cJ5_setLength_d00df 52 = .ok (.aload_n 0, 1) := by decide +kernel
theorem dJ5_setLength_d00df_53 : decode cJ5_setLength_d00df 53 = .ok (.getfield 79, 3) := by decide +kernel
theorem dJ5_setLength_d00df_56 : decode cJ5_setLength_d00df 56 = .ok (.iload_n 1, 1) := by decide +kernel
theorem dJ5_setLength_d00df_57 : decode cJ5_setLength_d00df 57 = .ok (.invokestatic 137, 3) := by decide +kernel
theorem dJ5_setLength_d00df_60 : decode cJ5_setLength_d00df 60 = .ok (.goto 16, 3) := by decide +kernel
theorem dJ5_setLength_d00df_63 : decode cJ5_setLength_d00df 63 = .ok (.aload_n 0, 1) := by decide +kernel
theorem dJ5_setLength_d00df_64 : decode cJ5_setLength_d00df 64 = .ok (.getfield 79, 3) := by decide +kernel
theorem dJ5_setLength_d00df_67 : decode cJ5_setLength_d00df 67 = .ok (.iload_n 1, 1) := by decide +kernel
theorem dJ5_setLength_d00df_68 : decode cJ5_setLength_d00df 68 = .ok (.if_icmp .le 8, 3) := by decide +kernel
theorem dJ5_setLength_d00df_71 : decode cJ5_setLength_d00df 71 = .ok (.aload_n 0, 1) := by decide +kernel
theorem dJ5_setLength_d00df_72 : decode cJ5_setLength_d00df 72 = .ok (.iconst 1, 1) := by decide +kernel
theorem dJ5_setLength_d00df_73 : decode cJ5_setLength_d00df 73 = .ok (.putfield 73, 3) := by decide +kernel
theorem dJ5_setLength_d00df_76 : decode cJ5_setLength_d00df 76 = .ok (.aload_n 0, 1) := by decide +kernel
theorem dJ5_setLength_d00df_77 : decode cJ5_setLength_d00df 77 = .ok (.iload_n 1, 1) := by decide +kernel
theorem dJ5_setLength_d00df_78 : decode cJ5_setLength_d00df 78 = .ok (.putfield 79, 3) := by decide +kernel
theorem dJ5_setLength_d00df_81 : decode cJ5_setLength_d00df 81 = .ok (.return_, 1) := by decide +kernel
theorem dJ5_charAt_5068e_0 : decode cJ5_charAt_5068e 0 = .ok (.aload_n 0, 1) := by decide +kernel
theorem dJ5_charAt_5068e_1 : decode cJ5_charAt_5068e 1 = .ok (.getfield 22, 3) := by decide +kernel
theorem dJ5_charAt_5068e_4 : decode cJ5_charAt_5068e 4 = .ok (.istore_n 2, 1) := by decide +kernel
theorem dJ5_charAt_5068e_5 : decode cJ5_charAt_5068e 5 = .ok (.aload_n 0, 1) := by decide +kernel
theorem dJ5_charAt_5068e_6 : decode cJ5_charAt_5068e 6 = .ok (.getfield 15, 3) := by decide +kernel
theorem dJ5_charAt_5068e_9 : decode cJ5_charAt_5068e 9 = .ok (.astore_n 3, 1) := by decide +kernel
theorem dJ5_charAt_5068e_10 : decode cJ5_charAt_5068e 10 = .ok (.aload_n 0, 1) := by decide +kernel
theorem dJ5_charAt_5068e_11 : decode cJ5_charAt_5068e 11 = .ok (.getfield 79, 3) := by decide +kernel
theorem dJ5_charAt_5068e_14 : decode cJ5_charAt_5068e 14 = .ok (.aload_n 3, 1) := by decide +kernel
theorem dJ5_charAt_5068e_15 : decode cJ5_charAt_5068e 15 = .ok (.arraylength, 1) := by decide +kernel
theorem dJ5_charAt_5068e_16 : decode cJ5_charAt_5068e 16 = .ok (.iload_n 2, 1) := by decide +kernel
theorem dJ5_charAt_5068e_17 : decode cJ5_charAt_5068e 17 = .ok (.ishr, 1) := by decide +kernel
theorem dJ5_charAt_5068e_18 : decode cJ5_charAt_5068e 18 = .ok (.invokestatic 138, 3) := by decide +kernel
theorem dJ5_charAt_5068e_21 : decode cJ5_charAt_5068e 21 = .ok (.istore 4, 2) := by decide +kernel
theorem dJ5_charAt_5068e_23 : decode cJ5_charAt_5068e 23 = .ok (.iload_n 1, 1) := by decide +kernel
theorem dJ5_charAt_5068e_24 : decode cJ5_charAt_5068e 24 = .ok (.iload 4, 2) := by decide +kernel
theorem dJ5_charAt_5068e_26 : decode cJ5_charAt_5068e 26 = .ok (.invokestatic 144, 3) := by decide +kernel
theorem dJ5_charAt_5068e_29 : decode cJ5_charAt_5068e 29 = .ok (.iload_n 2, 1) := by decide +kernel
theorem dJ5_charAt_5068e_30 : decode cJ5_charAt_5068e 30 = .ok (.ifCond .ne 12, 3) := by decide +kernel
theorem dJ5_charAt_5068e_33 : decode cJ5_charAt_5068e 33 = .ok (.aload_n 3, 1) := by decide +kernel
theorem dJ5_charAt_5068e_34 : decode cJ5_charAt_5068e 34 = .ok (.iload_n 1, 1) := by decide +kernel
theorem dJ5_charAt_5068e_35 : decode cJ5_charAt_5068e 35 = .ok (.baload, 1) := by decide +kernel
theorem dJ5_charAt_5068e_36 : decode cJ5_charAt_5068e 36 = .ok (.sipush 255, 3) := by decide +kernel
theorem dJ5_charAt_5068e_39 : decode cJ5_charAt_5068e 39 = .ok (.iand, 1) := by decide +kernel
theorem dJ5_charAt_5068e_40 : decode cJ5_charAt_5068e 40 = .ok (.i2c, 1) := by decide +kernel
theorem dJ5_charAt_5068e_41 : decode cJ5_charAt_5068e 41 = .ok (.ireturn, 1) := by decide +kernel
theorem dJ5_charAt_5068e_42 : decode cJ5_charAt_5068e 42 = .ok (.aload_n 3, 1) := by decide +kernel
theorem dJ5_charAt_5068e_43 : decode cJ5_charAt_5068e 43 = .ok (.iload_n 1, 1) := by decide +kernel
theorem dJ5_charAt_5068e_44 : decode cJ5_charAt_5068e 44 = .ok (.invokestatic 148, 3) := by decide +kernel
theorem dJ5_charAt_5068e_47 : decode cJ5_charAt_5068e 47 = .ok (.ireturn, 1) := by decide +kernel
theorem dJ5_append_3fe6f_0 : decode cJ5_append_3fe6f 0 = .ok (.aload_n 0, 1) := by decide +kernel
theorem dJ5_append_3fe6f_1 : decode cJ5_append_3fe6f 1 = .ok (.aload_n 0, 1) := by decide +kernel
theorem dJ5_append_3fe6f_2 : decode cJ5_append_3fe6f 2 = .ok (.getfield 79, 3) := by decide +kernel
theorem dJ5_append_3fe6f_5 : decode cJ5_append_3fe6f 5 = .ok (.iconst 1, 1) := by decide +kernel
theorem dJ5_append_3fe6f_6 : decode cJ5_append_3fe6f 6 = .ok (.iadd, 1) := by decide +kernel
theorem dJ5_append_3fe6f_7 : decode cJ5_append_3fe6f 7 = .ok (.invokevirtual 100, 3) := by decide +kernel
theorem dJ5_append_3fe6f_10 : decode cJ5_append_3fe6f 10 = .ok (.aload_n 0, 1) := by decide +kernel
theorem dJ5_append_3fe6f_11 : decode cJ5_append_3fe6f 11 = .ok (.invokevirtual 83, 3) := by decide +kernel
theorem dJ5_append_3fe6f_14 : decode cJ5_append_3fe6f 14 = .ok (.ifCond .eq 31, 3) := by decide +kernel
theorem dJ5_append_3fe6f_17 : decode cJ5_append_3fe6f 17 = .ok (.iload_n 1, 1) := by decide +kernel
theorem dJ5_append_3fe6f_18 : decode cJ5_append_3fe6f 18 = .ok (.invokestatic 191, 3) := by decide +kernel
theorem dJ5_append_3fe6f_21 : decode cJ5_append_3fe6f 21 = .ok (.ifCond .eq 24, 3) := by decide +kernel
theorem dJ5_append_3fe6f_24 : decode cJ5_append_3fe6f 24 = .ok (.aload_n 0, 1) := by decide +kernel
theorem dJ5_append_3fe6f_25 : decode cJ5_append_3fe6f 25 = .ok (.getfield 15, 3) := by decide +kernel
end
section
theorem dJ5_append_3fe6f_28 : decode cJ5_append_3fe6f 28 = .ok (.aload_n 0, 1) := by decide +kernel
theorem dJ5_append_3fe6f_29 : decode cJ5_append_3fe6f 29 = .ok (.dup, 1) := by decide +kernel
theorem dJ5_append_3fe6f_30 : decode cJ5_append_3fe6f 30 = .ok (.getfield 79, 3) := by decide +kernel
theorem dJ5_append_3fe6f_33 : decode cJ5_append_3fe6f 33 = .ok (.dup_x1, 1) := by decide +kernel
theorem dJ5_append_3fe6f_34 : decode cJ5_append_3fe6f 34 = .ok (.iconst 1, 1) := by decide +kernel
theorem dJ5_append_3fe6f_35 : decode cJ5_append_3fe6f 35 = .ok (.iadd, 1) := by decide +kernel
theorem dJ5_append_3fe6f_36 : decode cJ5_append_3fe6f 36 = .ok (.putfield 79, 3) := by decide +kernel
theorem dJ5_append_3fe6f_39 : decode cJ5_append_3fe6f 39 = .ok (.iload_n 1, 1) := by decide +kernel
theorem dJ5_append_3fe6f_40 : decode cJ5_append_3fe6f 40 = .ok (.i2b, 1) := by decide +kernel
theorem dJ5_append_3fe6f_41 : decode cJ5_append_3fe6f 41 = .ok (.bastore, 1) := by decide +kernel
theorem dJ5_append_3fe6f_42 : decode cJ5_append_3fe6f 42 = .ok (.goto 33, 3) := by decide +kernel
theorem dJ5_append_3fe6f_45 : decode cJ5_append_3fe6f 45 = .ok (.aload_n 0, 1) := by decide +kernel
theorem dJ5_append_3fe6f_46 : decode cJ5_append_3fe6f 46 = .ok (.invokevirtual 83, 3) := by decide +kernel
theorem dJ5_append_3fe6f_49 : decode cJ5_append_3fe6f 49 = .ok (.ifCond .eq 7, 3) := by decide +kernel
theorem dJ5_append_3fe6f_52 : decode cJ5_append_3fe6f 52 = .ok (.aload_n 0, 1) := by decide +kernel
theorem dJ5_append_3fe6f_53 : decode cJ5_append_3fe6f 53 = .ok (.invokevirtual 195, 3) := by decide +kernel
theorem dJ5_append_3fe6f_56 : decode cJ5_append_3fe6f 56 = .ok (.aload_n 0, 1) := by decide +kernel
theorem dJ5_append_3fe6f_57 : decode cJ5_append_3fe6f 57 = .ok (.getfield 15, 3) := by decide +kernel
theorem dJ5_append_3fe6f_60 : decode cJ5_append_3fe6f 60 = .ok (.aload_n 0, 1) := by decide +kernel
theorem dJ5_append_3fe6f_61 : decode cJ5_append_3fe6f 61 = .ok (.dup, 1) := by decide +kernel
theorem dJ5_append_3fe6f_62 : decode cJ5_append_3fe6f 62 = .ok (.getfield 79, 3) := by decide +kernel
theorem dJ5_append_3fe6f_65 : decode cJ5_append_3fe6f 65 = .ok (.dup_x1, 1) := by decide +kernel
theorem dJ5_append_3fe6f_66 : decode cJ5_append_3fe6f 66 = .ok (.iconst 1, 1) := by decide +kernel
theorem dJ5_append_3fe6f_67 : decode cJ5_append_3fe6f 67 = .ok (.iadd, 1) := by decide +kernel
theorem dJ5_append_3fe6f_68 : decode cJ5_append_3fe6f 68 = .ok (.putfield 79, 3) := by decide +kernel
theorem dJ5_append_3fe6f_71 : decode cJ5_append_3fe6f 71 = .ok (.iload_n 1, 1) := by decide +kernel
theorem dJ5_append_3fe6f_72 : decode cJ5_append_3fe6f 72 = .ok (.invokestatic 197, 3) := by decide +kernel
theorem dJ5_append_3fe6f_75 : decode cJ5_append_3fe6f 75 = .ok (.aload_n 0, 1) := by decide +kernel
theorem dJ5_append_3fe6f_76 : decode cJ5_append_3fe6f 76 = .ok (.areturn, 1) := by decide +kernel
theorem dJ5_append_c97b9_0 : decode cJ5_append_c97b9 0 = .ok (.aload_n 0, 1) := by decide +kernel
theorem dJ5_append_c97b9_1 : decode cJ5_append_c97b9 1 = .ok (.getfield 79, 3) := by decide +kernel
theorem dJ5_append_c97b9_4 : decode cJ5_append_c97b9 4 = .ok (.istore_n 2, 1) := by decide +kernel
theorem dJ5_append_c97b9_5 : decode cJ5_append_c97b9 5 = .ok (.iload_n 2, 1) := by decide +kernel
theorem dJ5_append_c97b9_6 : decode cJ5_append_c97b9 6 = .ok (.iload_n 1, 1) := by decide +kernel
theorem dJ5_append_c97b9_7 : decode cJ5_append_c97b9 7 = .ok (.invokestatic 245, 3) := by decide +kernel
theorem dJ5_append_c97b9_10 : decode cJ5_append_c97b9 10 = .ok (.iadd, 1) := by decide +kernel
theorem dJ5_append_c97b9_11 : decode cJ5_append_c97b9 11 = .ok (.istore_n 3, 1) := by decide +kernel
theorem dJ5_append_c97b9_12 : decode cJ5_append_c97b9 12 = .ok (.aload_n 0, 1) := by decide +kernel
theorem dJ5_append_c97b9_13 : decode cJ5_append_c97b9 13 = .ok (.iload_n 3, 1) := by decide +kernel
theorem dJ5_append_c97b9_14 : decode cJ5_append_c97b9 14 = .ok (.invokevirtual 100, 3) := by decide +kernel
theorem dJ5_append_c97b9_17 : decode cJ5_append_c97b9 17 = .ok (.aload_n 0, 1) := by decide +kernel
theorem dJ5_append_c97b9_18 : decode cJ5_append_c97b9 18 = .ok (.invokevirtual 83, 3) := by decide +kernel
theorem dJ5_append_c97b9_21 : decode cJ5_append_c97b9 21 = .ok (.ifCond .eq 16, 3) := by decide +kernel
theorem dJ5_append_c97b9_24 : decode cJ5_append_c97b9 24 = .ok (.iload_n 1, 1) := by decide +kernel
theorem dJ5_append_c97b9_25 : decode cJ5_append_c97b9 25 = .ok (.iload_n 3, 1) := by decide +kernel
theorem dJ5_append_c97b9_26 : decode cJ5_append_c97b9 26 = .ok (.aload_n 0, 1) := by decide +kernel
theorem dJ5_append_c97b9_27 : decode cJ5_append_c97b9 27 = .ok (.getfield 15, 3) := by decide +kernel
theorem dJ5_append_c97b9_30 : decode cJ5_append_c97b9 30 = .ok (.invokestatic 248, 3) := by decide +kernel
theorem dJ5_append_c97b9_33 : decode cJ5_append_c97b9 33 = .ok (.pop, 1) := by decide +kernel
theorem dJ5_append_c97b9_34 : decode cJ5_append_c97b9 34 = .ok (.goto 14, 3) := by decide +kernel
theorem dJ5_append_c97b9_37 : decode cJ5_append_c97b9 37 = .ok (.iload_n 1, 1) := by decide +kernel
theorem dJ5_append_c97b9_38 : decode cJ5_append_c97b9 38 = .ok (.iload_n 2, 1) := by decide +kernel
theorem dJ5_append_c97b9_39 : decode cJ5_append_c97b9 39 = .ok (.iload_n 3, 1) := by decide +kernel
theorem dJ5_append_c97b9_40 : decode cJ5_append_c97b9 40 = .ok (.aload_n 0, 1) := by decide +kernel
theorem dJ5_append_c97b9_41 : decode cJ5_append_c97b9 41 = .ok (.getfield 15, 3) := by decide +kernel
theorem dJ5_append_c97b9_44 : decode cJ5_append_c97b9 44 = .ok (.invokestatic 251, 3) := by decide +kernel
theorem dJ5_append_c97b9_47 : decode cJ5_append_c97b9 47 = .ok (.pop, 1) := by decide +kernel
theorem dJ5_append_c97b9_48 : decode cJ5_append_c97b9 48 = .ok (.aload_n 0, 1) := by decide +kernel
theorem dJ5_append_c97b9_49 : decode cJ5_append_c97b9 49 = .ok (.iload_n 3, 1) := by decide +kernel
theorem dJ5_append_c97b9_50 : decode cJ5_append_c97b9 50 = .ok (.putfield 79, 3) := by decide +kernel
theorem dJ5_append_c97b9_53 : decode cJ5_append_c97b9 53 = .ok (.aload_n 0, 1) := by decide +kernel
theorem dJ5_append_c97b9_54 : decode cJ5_append_c97b9 54 = .ok (.areturn, 1) := by decide +kernel
theorem dJ5_isLatin1_aae02_0 : decode cJ5_isLatin1_aae02 0 = .ok (.getstatic 18, 3) := by decide +kernel
theorem dJ5_isLatin1_aae02_3 : decode cJ5_isLatin1_aae02 3 = .ok (.ifCond .eq 14, 3) := by decide +kernel
theorem dJ5_isLatin1_aae02_6 : decode cJ5_isLatin1_aae02 6 = .ok (.aload_n 0, 1) := by decide +kernel
theorem dJ5_isLatin1_aae02_7 : decode cJ5_isLatin1_aae02 7 = .ok (.getfield 22, 3) := by decide +kernel
theorem dJ5_isLatin1_aae02_10 : decode cJ5_isLatin1_aae02 10 = .ok (.ifCond .ne 7, 3) := by decide +kernel
theorem dJ5_isLatin1_aae02_13 : decode cJ5_isLatin1_aae02 13 = .ok (.iconst 1, 1) := by decide +kernel
theorem dJ5_isLatin1_aae02_14 : decode cJ5_isLatin1_aae02 14 = .ok (.goto 4, 3) := by decide +kernel
theorem dJ5_isLatin1_aae02_17 : decode cJ5_isLatin1_aae02 17 = .ok (.iconst 0, 1) := by decide +kernel
theorem dJ5_isLatin1_aae02_18 : decode cJ5_isLatin1_aae02 18 = .ok (.ireturn, 1) := by decide +kernel
theorem dJ6_getChars_ba4f3_0 : decode cJ6_getChars_ba4f3 0 = .ok (.iload_n 1, 1) := by decide +kernel
theorem dJ6_getChars_ba4f3_1 : decode cJ6_getChars_ba4f3 1 = .ok (.istore 5, 2) := by decide +kernel
theorem dJ6_getChars_ba4f3_3 : decode cJ6_getChars_ba4f3 3 = .ok (.iload_n 0, 1) := by decide +kernel
theorem dJ6_getChars_ba4f3_4 : decode cJ6_getChars_ba4f3 4 = .ok (.ifCond .ge 7, 3) := by decide +kernel
theorem dJ6_getChars_ba4f3_7 : decode cJ6_getChars_ba4f3 7 = .ok (.iconst 1, 1) := by decide +kernel
theorem dJ6_getChars_ba4f3_8 : decode cJ6_getChars_ba4f3 8 = .ok (.goto 4, 3) := by decide +kernel
theorem dJ6_getChars_ba4f3_11 : decode cJ6_getChars_ba4f3 11 = .ok (.iconst 0, 1) := by decide +kernel
theorem dJ6_getChars_ba4f3_12 : decode cJ6_getChars_ba4f3 12 = .ok (.istore 6, 2) := by decide +kernel
theorem dJ6_getChars_ba4f3_14 : decode cJ6_getChars_ba4f3 14 = .ok (.iload 6, 2) := by decide +kernel
theorem dJ6_getChars_ba4f3_16 : decode cJ6_getChars_ba4f3 16 = .ok (.ifCond .ne 6, 3) := by decide +kernel
theorem dJ6_getChars_ba4f3_19 : decode cJ6_getChars_ba4f3 19 = .ok (.iload_n 0, 1) := by decide +kernel
theorem dJ6_getChars_ba4f3_20 : decode cJ6_getChars_ba4f3 20 = .ok (.ineg, 1) := by decide +kernel
theorem dJ6_getChars_ba4f3_21 : decode cJ6_getChars_ba4f3 21 = .ok (.istore_n 0, 1) := by decide +kernel
theorem dJ6_getChars_ba4f3_22 : decode cJ6_getChars_ba4f3 22 = .ok (.iload_n 0, 1) := by decide +kernel
theorem dJ6_getChars_ba4f3_23 : decode cJ6_getChars_ba4f3 23 = .ok (.bipush (-100), 2) := by decide +kernel
theorem dJ6_getChars_ba4f3_25 : decode cJ6_getChars_ba4f3 25 = .ok (.if_icmp .gt 47, 3) := by decide +kernel
theorem dJ6_getChars_ba4f3_28 : decode cJ6_getChars_ba4f3 28 = .ok (.iload_n 0, 1) := by decide +kernel
theorem dJ6_getChars_ba4f3_29 : decode cJ6_getChars_ba4f3 29 = .ok (.bipush 100, 2) := by decide +kernel
theorem dJ6_getChars_ba4f3_31 : decode cJ6_getChars_ba4f3 31 = .ok (.idiv, 1) := by decide +kernel
theorem dJ6_getChars_ba4f3_32 : decode cJ6_getChars_ba4f3 32 = .ok (.istore_n 3, 1) := by decide +kernel
theorem dJ6_getChars_ba4f3_33 : decode cJ6_getChars_ba4f3 33 = .ok (.iload_n 3, 1) := by decide +kernel
theorem dJ6_getChars_ba4f3_34 : decode cJ6_getChars_ba4f3 34 = .ok (.bipush 100, 2) := by decide +kernel
theorem dJ6_getChars_ba4f3_36 : decode cJ6_getChars_ba4f3 36 = .ok (.imul, 1) := by decide +kernel
theorem dJ6_getChars_ba4f3_37 : decode cJ6_getChars_ba4f3 37 = .ok (.iload_n 0, 1) := by decide +kernel
theorem dJ6_getChars_ba4f3_38 : decode cJ6_getChars_ba4f3 38 = .ok (.isub, 1) := by decide +kernel
theorem dJ6_getChars_ba4f3_39 : decode cJ6_getChars_ba4f3 39 = .ok (.istore 4, 2) := by decide +kernel
theorem dJ6_getChars_ba4f3_41 : decode cJ6_getChars_ba4f3 41 = .ok (.iload_n 3, 1) := by decide +kernel
theorem dJ6_getChars_ba4f3_42 : decode cJ6_getChars_ba4f3 42 = .ok (.istore_n 0, 1) := by decide +kernel
theorem dJ6_getChars_ba4f3_43 : decode cJ6_getChars_ba4f3 43 = .ok (.aload_n 2, 1) := by decide +kernel
theorem dJ6_getChars_ba4f3_44 : decode cJ6_getChars_ba4f3 44 = .ok (.iinc 5 (-1), 3) := by decide +kernel
theorem dJ6_getChars_ba4f3_47 : decode cJ6_getChars_ba4f3 47 = .ok (.iload 5, 2) := by decide +kernel
theorem dJ6_getChars_ba4f3_49 : decode cJ6_getChars_ba4f3 49 = .ok (.getstatic 83, 3) := by decide +kernel
theorem dJ6_getChars_ba4f3_52 : decode cJ6_getChars_ba4f3 52 = .ok (.iload 4, 2) := by decide +kernel
theorem dJ6_getChars_ba4f3_54 : decode cJ6_getChars_ba4f3 54 = .ok (.baload, 1) := by decide +kernel
theorem dJ6_getChars_ba4f3_55 : decode cJ6_getChars_ba4f3 55 = .ok (.bastore, 1) := by decide +kernel
theorem dJ6_getChars_ba4f3_56 : decode cJ6_getChars_ba4f3 56 = .ok (.aload_n 2, 1) := by decide +kernel
theorem dJ6_getChars_ba4f3_57 : decode cJ6_getChars_ba4f3 57 = .ok (.iinc 5 (-1), 3) := by decide +kernel
theorem dJ6_getChars_ba4f3_60 : decode cJ6_getChars_ba4f3 60 = .ok (.iload 5, 2) := by decide +kernel
theorem dJ6_getChars_ba4f3_62 : decode cJ6_getChars_ba4f3 62 = .ok (.getstatic 87, 3) := by decide +kernel
theorem dJ6_getChars_ba4f3_65 : decode cJ6_getChars_ba4f3 65 = .ok (.iload 4, 2) := by decide +kernel
theorem dJ6_getChars_ba4f3_67 : decode cJ6_getChars_ba4f3 67 = .ok (.baload, 1) := by decide +kernel
theorem dJ6_getChars_ba4f3_68 : decode cJ6_getChars_ba4f3 68 = .ok (.bastore, 1) := by decide +kernel
theorem dJ6_getChars_ba4f3_69 : decode cJ6_getChars_ba4f3 69 = .ok (.goto (-47), 3) := by decide +kernel
theorem dJ6_getChars_ba4f3_72 : decode cJ6_getChars_ba4f3 72 = .ok (.aload_n 2, 1) := by decide +kernel
theorem dJ6_getChars_ba4f3_73 : decode cJ6_getChars_ba4f3 73 = .ok (.iinc 5 (-1), 3) := by decide +kernel
theorem dJ6_getChars_ba4f3_76 : decode cJ6_getChars_ba4f3 76 = .ok (.iload 5, 2) := by decide +kernel
theorem dJ6_getChars_ba4f3_78 : decode cJ6_getChars_ba4f3 78 = .ok (.getstatic 83, 3) := by decide +kernel
theorem dJ6_getChars_ba4f3_81 : decode cJ6_getChars_ba4f3 81 = .ok (.iload_n 0, 1) := by decide +kernel
theorem dJ6_getChars_ba4f3_82 : decode cJ6_getChars_ba4f3 82 = .ok (.ineg, 1) := by decide +kernel
theorem dJ6_getChars_ba4f3_83 : decode cJ6_getChars_ba4f3 83 = .ok (.baload, 1) := by decide +kernel
theorem dJ6_getChars_ba4f3_84 : decode cJ6_getChars_ba4f3 84 = .ok (.bastore, 1) := by decide +kernel
theorem dJ6_getChars_ba4f3_85 : decode cJ6_getChars_ba4f3 85 = .ok (.iload_n 0, 1) := by decide +kernel
theorem dJ6_getChars_ba4f3_86 : decode cJ6_getChars_ba4f3 86 = .ok (.bipush (-9), 2) := by decide +kernel
theorem dJ6_getChars_ba4f3_88 : decode cJ6_getChars_ba4f3 88 = .ok (.if_icmp .ge 16, 3) := by decide +kernel
theorem dJ6_getChars_ba4f3_91 : decode cJ6_getChars_ba4f3 91 = .ok (.aload_n 2, 1) := by decide +kernel
theorem dJ6_getChars_ba4f3_92 : decode cJ6_getChars_ba4f3 92 = .ok (.iinc 5 (-1), 3) := by decide +kernel
theorem dJ6_getChars_ba4f3_95 : decode cJ6_getChars_ba4f3 95 = .ok (.iload 5, 2) := by decide +kernel
theorem dJ6_getChars_ba4f3_97 : decode cJ6_getChars_ba4f3 97 = .ok (.getstatic 87, 3) := by decide +kernel
theorem dJ6_getChars_ba4f3_100 : decode cJ6_getChars_ba4f3 100 = .ok (.iload_n 0, 1) := by decide +kernel
theorem dJ6_getChars_ba4f3_101 : decode cJ6_getChars_ba4f3 101 = .ok (.ineg, 1) := by decide +kernel
theorem dJ6_getChars_ba4f3_102 : decode cJ6_getChars_ba4f3 102 = .ok (.baload, 1) := by decide +kernel
theorem dJ6_getChars_ba4f3_103 : decode cJ6_getChars_ba4f3 103 = .ok (.bastore, 1) := by decide +kernel
theorem dJ6_getChars_ba4f3_104 : decode cJ6_getChars_ba4f3 104 = .ok (.iload 6, 2) := by decide +kernel
theorem dJ6_getChars_ba4f3_106 : decode cJ6_getChars_ba4f3 106 = .ok (.ifCond .eq 12, 3) := by decide +kernel
theorem dJ6_getChars_ba4f3_109 : decode cJ6_getChars_ba4f3 109 = .ok (.aload_n 2, 1) := by decide +kernel
theorem dJ6_getChars_ba4f3_110 : decode cJ6_getChars_ba4f3 110 = .ok (.iinc 5 (-1), 3) := by decide +kernel
theorem dJ6_getChars_ba4f3_113 : decode cJ6_getChars_ba4f3 113 = .ok (.iload 5, 2) := by decide +kernel
theorem dJ6_getChars_ba4f3_115 : decode cJ6_getChars_ba4f3 115 = .ok (.bipush 45, 2) := by decide +kernel
theorem dJ6_getChars_ba4f3_117 : decode cJ6_getChars_ba4f3 117 = .ok (.bastore, 1) := by decide +kernel
theorem dJ6_getChars_ba4f3_118 : decode cJ6_getChars_ba4f3 118 = .ok (.iload 5, 2) := by decide +kernel
theorem dJ6_getChars_ba4f3_120 : decode cJ6_getChars_ba4f3 120 = .ok (.ireturn, 1) := by decide +kernel
theorem dJ6_stringSize_0f7a4_0 : decode cJ6_stringSize_0f7a4 0 = .ok (.iconst 1, 1) := by decide +kernel
theorem dJ6_stringSize_0f7a4_1 : decode cJ6_stringSize_0f7a4 1 = .ok (.istore_n 1, 1) := by decide +kernel
theorem dJ6_stringSize_0f7a4_2 : decode cJ6_stringSize_0f7a4 2 = .ok (.iload_n 0, 1) := by decide +kernel
theorem dJ6_stringSize_0f7a4_3 : decode cJ6_stringSize_0f7a4 3 = .ok (.ifCond .lt 8, 3) := by decide +kernel
theorem dJ6_stringSize_0f7a4_6 : decode cJ6_stringSize_0f7a4 6 = .ok (.iconst 0, 1) := by decide +kernel
theorem dJ6_stringSize_0f7a4_7 : decode cJ6_stringSize_0f7a4 7 = .ok (.istore_n 1, 1) := by decide +kernel
theorem dJ6_stringSize_0f7a4_8 : decode cJ6_stringSize_0f7a4 8 = .ok (.iload_n 0, 1) := by decide +kernel
theorem dJ6_stringSize_0f7a4_9 : decode cJ6_stringSize_0f7a4 9 = .ok (.ineg, 1) := by decide +kernel
theorem dJ6_stringSize_0f7a4_10 : decode cJ6_stringSize_0f7a4 10 = .ok (.istore_n 0, 1) := by decide +kernel
theorem dJ6_stringSize_0f7a4_11 : decode cJ6_stringSize_0f7a4 11 = .ok (.bipush (-10), 2) := by decide +kernel
theorem dJ6_stringSize_0f7a4_13 : decode cJ6_stringSize_0f7a4 13 = .ok (.istore_n 2, 1) := by decide +kernel
theorem dJ6_stringSize_0f7a4_14 : decode cJ6_stringSize_0f7a4 14 = .ok (.iconst 1, 1) := by decide +kernel
theorem dJ6_stringSize_0f7a4_15 : decode cJ6_stringSize_0f7a4 15 = .ok (.istore_n 3, 1) := by decide +kernel
theorem dJ6_stringSize_0f7a4_16 : decode cJ6_stringSize_0f7a4 16 = .ok (.iload_n 3, 1) := by decide +kernel
theorem dJ6_stringSize_0f7a4_17 : decode cJ6_stringSize_0f7a4 17 = .ok (.bipush 10, 2) := by decide +kernel
theorem dJ6_stringSize_0f7a4_19 : decode cJ6_stringSize_0f7a4 19 = .ok (.if_icmp .ge 23, 3) := by decide +kernel
theorem dJ6_stringSize_0f7a4_22 : decode cJ6_stringSize_0f7a4 22 = .ok (.iload_n 0, 1) := by decide +kernel
theorem dJ6_stringSize_0f7a4_23 : decode cJ6_stringSize_0f7a4 23 = .ok (.iload_n 2, 1) := by decide +kernel
theorem dJ6_stringSize_0f7a4_24 : decode cJ6_stringSize_0f7a4 24 = .ok (.if_icmp .le 7, 3) := by decide +kernel
theorem dJ6_stringSize_0f7a4_27 : decode cJ6_stringSize_0f7a4 27 = .ok (.iload_n 3, 1) := by decide +kernel
theorem dJ6_stringSize_0f7a4_28 : decode cJ6_stringSize_0f7a4 28 = .ok (.iload_n 1, 1) := by decide +kernel
theorem dJ6_stringSize_0f7a4_29 : decode cJ6_stringSize_0f7a4 29 = .ok (.iadd, 1) := by decide +kernel
theorem dJ6_stringSize_0f7a4_30 : decode cJ6_stringSize_0f7a4 30 = .ok (.ireturn, 1) := by decide +kernel
theorem dJ6_stringSize_0f7a4_31 : decode cJ6_stringSize_0f7a4 31 = .ok (.bipush 10, 2) := by decide +kernel
theorem dJ6_stringSize_0f7a4_33 : decode cJ6_stringSize_0f7a4 33 = .ok (.iload_n 2, 1) := by decide +kernel
theorem dJ6_stringSize_0f7a4_34 : decode cJ6_stringSize_0f7a4 34 = .ok (.imul, 1) := by decide +kernel
theorem dJ6_stringSize_0f7a4_35 : decode cJ6_stringSize_0f7a4 35 = .ok (.istore_n 2, 1) := by decide +kernel
theorem dJ6_stringSize_0f7a4_36 : decode cJ6_stringSize_0f7a4 36 = .ok (.iinc 3 1, 3) := by decide +kernel
theorem dJ6_stringSize_0f7a4_39 : decode cJ6_stringSize_0f7a4 39 = .ok (.goto (-23), 3) := by decide +kernel
theorem dJ6_stringSize_0f7a4_42 : decode cJ6_stringSize_0f7a4 42 = .ok (.bipush 10, 2) := by decide +kernel
theorem dJ6_stringSize_0f7a4_44 : decode cJ6_stringSize_0f7a4 44 = .ok (.iload_n 1, 1) := by decide +kernel
theorem dJ6_stringSize_0f7a4_45 : decode cJ6_stringSize_0f7a4 45 = .ok (.iadd, 1) := by decide +kernel
theorem dJ6_stringSize_0f7a4_46 : decode cJ6_stringSize_0f7a4 46 = .ok (.ireturn, 1) := by decide +kernel
theorem dJ0_checkIndex_df160_0 : decode cJ0_checkIndex_df160 0 = .ok (.iload_n 0, 1) := by decide +kernel
theorem dJ0_checkIndex_df160_1 : decode cJ0_checkIndex_df160 1 = .ok (.iload_n 1, 1) := by decide +kernel
theorem dJ0_checkIndex_df160_2 : decode cJ0_checkIndex_df160 2 = .ok (.getstatic 1053, 3) := by decide +kernel
theorem dJ0_checkIndex_df160_5 : decode cJ0_checkIndex_df160 5 = .ok (.invokestatic 1059, 3) := by decide +kernel
theorem dJ0_checkIndex_df160_8 : decode cJ0_checkIndex_df160 8 = .ok (.pop, 1) := by decide +kernel
theorem dJ0_checkIndex_df160_9 : decode cJ0_checkIndex_df160 9 = .ok (.return_, 1) := by decide +kernel
theorem dJ4_init_da8c8_0 : decode cJ4_init_da8c8 0 = .ok (.aload_n 0, 1) := by decide +kernel
theorem dJ4_init_da8c8_1 : decode cJ4_init_da8c8 1 = .ok (.bipush 16, 2) := by decide +kernel
theorem dJ4_init_da8c8_3 : decode cJ4_init_da8c8 3 = .ok (.invokespecial 1, 3) := by decide +kernel
theorem dJ4_init_da8c8_6 : decode cJ4_init_da8c8 6 = .ok (.return_, 1) := by decide +kernel
theorem dJ4_append_cf468_0 : decode cJ4_append_cf468 0 = .ok (.aload_n 0, 1) := by decide +kernel
theorem dJ4_append_cf468_1 : decode cJ4_append_cf468 1 = .ok (.iload_n 1, 1) := by decide +kernel
theorem dJ4_append_cf468_2 : decode cJ4_append_cf468 2 = .ok (.invokespecial 50, 3) := by decide +kernel
theorem dJ4_append_cf468_5 : decode cJ4_append_cf468 5 = .ok (.pop, 1) := by decide +kernel
theorem dJ4_append_cf468_6 : decode cJ4_append_cf468 6 = .ok (.aload_n 0, 1) := by decide +kernel
theorem dJ4_append_cf468_7 : decode cJ4_append_cf468 7 = .ok (.areturn, 1) := by decide +kernel
theorem dJ4_append_bf812_0 : decode cJ4_append_bf812 0 = .ok (.aload_n 0, 1) := by decide +kernel
theorem dJ4_append_bf812_1 : decode cJ4_append_bf812 1 = .ok (.iload_n 1, 1) := by decide +kernel
theorem dJ4_append_bf812_2 : decode cJ4_append_bf812 2 = .ok (.invokespecial 53, 3) := by decide +kernel
theorem dJ4_append_bf812_5 : decode cJ4_append_bf812 5 = .ok (.pop, 1) := by decide +kernel
theorem dJ4_append_bf812_6 : decode cJ4_append_bf812 6 = .ok (.aload_n 0, 1) := by decide +kernel
theorem dJ4_append_bf812_7 : decode cJ4_append_bf812 7 = .ok (.areturn, 1) := by decide +kernel
theorem dJ4_charAt_5068e_0 : decode cJ4_charAt_5068e 0 = .ok (.aload_n 0, 1) := by decide +kernel
theorem dJ4_charAt_5068e_1 : decode cJ4_charAt_5068e 1 = .ok (.iload_n 1, 1) := by decide +kernel
theorem dJ4_charAt_5068e_2 : decode cJ4_charAt_5068e 2 = .ok (.invokespecial 329, 3) := by decide +kernel
theorem dJ4_charAt_5068e_5 : decode cJ4_charAt_5068e 5 = .ok (.ireturn, 1) := by decide +kernel
theorem dJ4_setLength_d00df_0 : decode cJ4_setLength_d00df 0 = .ok (.aload_n 0, 1) := by decide +kernel
theorem dJ4_setLength_d00df_1 : decode cJ4_setLength_d00df 1 = .ok (.iload_n 1, 1) := by decide +kernel
theorem dJ4_setLength_d00df_2 : decode cJ4_setLength_d00df 2 = .ok (.invokespecial 333, 3) := by decide +kernel
theorem dJ4_setLength_d00df_5 : decode cJ4_setLength_d00df 5 = .ok (.return_, 1) := by decide +kernel
theorem dJ4_length_8abf5_0 : decode cJ4_length_8abf5 0 = .ok (.aload_n 0, 1) := by decide +kernel
theorem dJ4_length_8abf5_1 : decode cJ4_length_8abf5 1 = .ok (.invokespecial 343, 3) := by decide +kernel
theorem dJ4_length_8abf5_4 : decode cJ4_length_8abf5 4 = .ok (.ireturn, 1) := by decide +kernel
theorem dJ1_canEncode_fc78d_0 : decode cJ1_canEncode_fc78d 0 = .ok (.iload_n 0, 1) := by decide +kernel
theorem dJ1_canEncode_fc78d_1 : decode cJ1_canEncode_fc78d 1 = .ok (.sipush 255, 3) := by decide +kernel
theorem dJ1_canEncode_fc78d_4 : decode cJ1_canEncode_fc78d 4 = .ok (.if_icmp .gt 7, 3) := by decide +kernel
theorem dJ1_canEncode_fc78d_7 : decode cJ1_canEncode_fc78d 7 = .ok (.iconst 1, 1) := by decide +kernel
theorem dJ1_canEncode_fc78d_8 : decode cJ1_canEncode_fc78d 8 = .ok (.goto 4, 3) := by decide +kernel
theorem dJ1_canEncode_fc78d_11 : decode cJ1_canEncode_fc78d 11 = .ok (.iconst 0, 1) := by decide +kernel
theorem dJ1_canEncode_fc78d_12 : decode cJ1_canEncode_fc78d 12 = .ok (.ireturn, 1) := by decide +kernel
theorem dJ3_checkIndex_8e157_0 : decode cJ3_checkIndex_8e157 0 = .ok (.iload_n 0, 1) := by decide +kernel
theorem dJ3_checkIndex_8e157_1 : decode cJ3_checkIndex_8e157 1 = .ok (.ifCond .lt 8, 3) := by decide +kernel
theorem dJ3_checkIndex_8e157_4 : decode cJ3_checkIndex_8e157 4 = .ok (.iload_n 0, 1) := by decide +kernel
theorem dJ3_checkIndex_8e157_5 : decode cJ3_checkIndex_8e157 5 = .ok (.iload_n 1, 1) := by decide +kernel
theorem dJ3_checkIndex_8e157_6 : decode cJ3_checkIndex_8e157 6 = .ok (.if_icmp .lt 10, 3) := by decide +kernel
theorem dJ3_checkIndex_8e157_9 : decode cJ3_checkIndex_8e157 9 = .ok (.aload_n 2, 1) := by decide +kernel
theorem dJ3_checkIndex_8e157_10 : decode cJ3_checkIndex_8e157 10 = .ok (.iload_n 0, 1) := by decide +kernel
theorem dJ3_checkIndex_8e157_11 : decode cJ3_checkIndex_8e157 11 = .ok (.iload_n 1, 1) := by decide +kernel
theorem dJ3_checkIndex_8e157_12 : decode cJ3_checkIndex_8e157 12 = .ok (.invokestatic 95, 3) := by decide +kernel
theorem dJ3_checkIndex_8e157_15 : decode cJ3_checkIndex_8e157 15 = .ok (.athrow, 1) := by decide +kernel
theorem dJ3_checkIndex_8e157_16 : decode cJ3_checkIndex_8e157 16 = .ok (.iload_n 0, 1) := by decide +kernel
theorem dJ3_checkIndex_8e157_17 : decode cJ3_checkIndex_8e157 17 = .ok (.ireturn, 1) := by decide +kernel
theorem dL_law_0 : decode cL_law 0 = .ok (.new 7, 3) := by decide +kernel
theorem dL_law_3 : decode cL_law 3 = .ok (.dup, 1) := by decide +kernel
theorem dL_law_4 : decode cL_law 4 = .ok (.invokespecial 9, 3) := by decide +kernel
theorem dL_law_7 : decode cL_law 7 = .ok (.astore_n 1, 1) := by decide +kernel
theorem dL_law_8 : decode cL_law 8 = .ok (.new 10, 3) := by decide +kernel
theorem dL_law_11 : decode cL_law 11 = .ok (.dup, 1) := by decide +kernel
theorem dL_law_12 : decode cL_law 12 = .ok (.invokespecial 12, 3) := by decide +kernel
theorem dL_law_15 : decode cL_law 15 = .ok (.astore_n 2, 1) := by decide +kernel
theorem dL_law_16 : decode cL_law 16 = .ok (.iconst 0, 1) := by decide +kernel
theorem dL_law_17 : decode cL_law 17 = .ok (.istore_n 3, 1) := by decide +kernel
theorem dL_law_18 : decode cL_law 18 = .ok (.iload_n 3, 1) := by decide +kernel
theorem dL_law_19 : decode cL_law 19 = .ok (.aload_n 0, 1) := by decide +kernel
theorem dL_law_20 : decode cL_law 20 = .ok (.arraylength, 1) := by decide +kernel
theorem dL_law_21 : decode cL_law 21 = .ok (.bipush 6, 2) := by decide +kernel
theorem dL_law_23 : decode cL_law 23 = .ok (.isub, 1) := by decide +kernel
theorem dL_law_24 : decode cL_law 24 = .ok (.if_icmp .gt 980, 3) := by decide +kernel
theorem dL_law_27 : decode cL_law 27 = .ok (.aload_n 0, 1) := by decide +kernel
theorem dL_law_28 : decode cL_law 28 = .ok (.iload_n 3, 1) := by decide +kernel
theorem dL_law_29 : decode cL_law 29 = .ok (.iaload, 1) := by decide +kernel
theorem dL_law_30 : decode cL_law 30 = .ok (.bipush 31, 2) := by decide +kernel
theorem dL_law_32 : decode cL_law 32 = .ok (.iand, 1) := by decide +kernel
theorem dL_law_33 : decode cL_law 33 = .ok (.tableswitch 965 0 19 #[95, 198, 251, 285, 309, 332, 403, 456, 537, 560, 583, 616, 649, 672, 765, 798, 832, 865, 909, 942], 95) := by decide +kernel
theorem dL_law_128 : decode cL_law 128 = .ok (.aload_n 1, 1) := by decide +kernel
theorem dL_law_129 : decode cL_law 129 = .ok (.aload_n 0, 1) := by decide +kernel
theorem dL_law_130 : decode cL_law 130 = .ok (.iload_n 3, 1) := by decide +kernel
theorem dL_law_131 : decode cL_law 131 = .ok (.iconst 1, 1) := by decide +kernel
theorem dL_law_132 : decode cL_law 132 = .ok (.iadd, 1) := by decide +kernel
theorem dL_law_133 : decode cL_law 133 = .ok (.iaload, 1) := by decide +kernel
theorem dL_law_134 : decode cL_law 134 = .ok (.i2l, 1) := by decide +kernel
theorem dL_law_135 : decode cL_law 135 = .ok (.bipush 32, 2) := by decide +kernel
theorem dL_law_137 : decode cL_law 137 = .ok (.lshl, 1) := by decide +kernel
theorem dL_law_138 : decode cL_law 138 = .ok (.aload_n 0, 1) := by decide +kernel
theorem dL_law_139 : decode cL_law 139 = .ok (.iload_n 3, 1) := by decide +kernel
theorem dL_law_140 : decode cL_law 140 = .ok (.iconst 2, 1) := by decide +kernel
theorem dL_law_141 : decode cL_law 141 = .ok (.iadd, 1) := by decide +kernel
theorem dL_law_142 : decode cL_law 142 = .ok (.iaload, 1) := by decide +kernel
theorem dL_law_143 : decode cL_law 143 = .ok (.i2l, 1) := by decide +kernel
theorem dL_law_144 : decode cL_law 144 = .ok (.ldc2_w 13, 3) := by decide +kernel
theorem dL_law_147 : decode cL_law 147 = .ok (.land, 1) := by decide +kernel
theorem dL_law_148 : decode cL_law 148 = .ok (.lor, 1) := by decide +kernel
theorem dL_law_149 : decode cL_law 149 = .ok (.aload_n 0, 1) := by decide +kernel
theorem dL_law_150 : decode cL_law 150 = .ok (.iload_n 3, 1) := by decide +kernel
theorem dL_law_151 : decode cL_law 151 = .ok (.iconst 3, 1) := by decide +kernel
theorem dL_law_152 : decode cL_law 152 = .ok (.iadd, 1) := by decide +kernel
theorem dL_law_153 : decode cL_law 153 = .ok (.iaload, 1) := by decide +kernel
theorem dL_law_154 : decode cL_law 154 = .ok (.aload_n 0, 1) := by decide +kernel
theorem dL_law_155 : decode cL_law 155 = .ok (.iload_n 3, 1) := by decide +kernel
theorem dL_law_156 : decode cL_law 156 = .ok (.iconst 4, 1) := by decide +kernel
theorem dL_law_157 : decode cL_law 157 = .ok (.iadd, 1) := by decide +kernel
theorem dL_law_158 : decode cL_law 158 = .ok (.iaload, 1) := by decide +kernel
theorem dL_law_159 : decode cL_law 159 = .ok (.i2l, 1) := by decide +kernel
theorem dL_law_160 : decode cL_law 160 = .ok (.bipush 32, 2) := by decide +kernel
theorem dL_law_162 : decode cL_law 162 = .ok (.lshl, 1) := by decide +kernel
theorem dL_law_163 : decode cL_law 163 = .ok (.aload_n 0, 1) := by decide +kernel
theorem dL_law_164 : decode cL_law 164 = .ok (.iload_n 3, 1) := by decide +kernel
theorem dL_law_165 : decode cL_law 165 = .ok (.iconst 5, 1) := by decide +kernel
theorem dL_law_166 : decode cL_law 166 = .ok (.iadd, 1) := by decide +kernel
theorem dL_law_167 : decode cL_law 167 = .ok (.iaload, 1) := by decide +kernel
theorem dL_law_168 : decode cL_law 168 = .ok (.i2l, 1) := by decide +kernel
theorem dL_law_169 : decode cL_law 169 = .ok (.ldc2_w 13, 3) := by decide +kernel
theorem dL_law_172 : decode cL_law 172 = .ok (.land, 1) := by decide +kernel
theorem dL_law_173 : decode cL_law 173 = .ok (.lor, 1) := by decide +kernel
theorem dL_law_174 : decode cL_law 174 = .ok (.invokevirtual 15, 3) := by decide +kernel
theorem dL_law_177 : decode cL_law 177 = .ok (.aload_n 2, 1) := by decide +kernel
theorem dL_law_178 : decode cL_law 178 = .ok (.aload_n 0, 1) := by decide +kernel
theorem dL_law_179 : decode cL_law 179 = .ok (.iload_n 3, 1) := by decide +kernel
theorem dL_law_180 : decode cL_law 180 = .ok (.iconst 1, 1) := by decide +kernel
theorem dL_law_181 : decode cL_law 181 = .ok (.iadd, 1) := by decide +kernel
theorem dL_law_182 : decode cL_law 182 = .ok (.iaload, 1) := by decide +kernel
theorem dL_law_183 : decode cL_law 183 = .ok (.i2l, 1) := by decide +kernel
theorem dL_law_184 : decode cL_law 184 = .ok (.bipush 32, 2) := by decide +kernel
theorem dL_law_186 : decode cL_law 186 = .ok (.lshl, 1) := by decide +kernel
theorem dL_law_187 : decode cL_law 187 = .ok (.aload_n 0, 1) := by decide +kernel
theorem dL_law_188 : decode cL_law 188 = .ok (.iload_n 3, 1) := by decide +kernel
theorem dL_law_189 : decode cL_law 189 = .ok (.iconst 2, 1) := by decide +kernel
theorem dL_law_190 : decode cL_law 190 = .ok (.iadd, 1) := by decide +kernel
theorem dL_law_191 : decode cL_law 191 = .ok (.iaload, 1) := by decide +kernel
theorem dL_law_192 : decode cL_law 192 = .ok (.i2l, 1) := by decide +kernel
theorem dL_law_193 : decode cL_law 193 = .ok (.ldc2_w 13, 3) := by decide +kernel
theorem dL_law_196 : decode cL_law 196 = .ok (.land, 1) := by decide +kernel
theorem dL_law_197 : decode cL_law 197 = .ok (.lor, 1) := by decide +kernel
theorem dL_law_198 : decode cL_law 198 = .ok (.aload_n 0, 1) := by decide +kernel
theorem dL_law_199 : decode cL_law 199 = .ok (.iload_n 3, 1) := by decide +kernel
theorem dL_law_200 : decode cL_law 200 = .ok (.iconst 3, 1) := by decide +kernel
theorem dL_law_201 : decode cL_law 201 = .ok (.iadd, 1) := by decide +kernel
theorem dL_law_202 : decode cL_law 202 = .ok (.iaload, 1) := by decide +kernel
theorem dL_law_203 : decode cL_law 203 = .ok (.aload_n 0, 1) := by decide +kernel
theorem dL_law_204 : decode cL_law 204 = .ok (.iload_n 3, 1) := by decide +kernel
theorem dL_law_205 : decode cL_law 205 = .ok (.iconst 4, 1) := by decide +kernel
theorem dL_law_206 : decode cL_law 206 = .ok (.iadd, 1) := by decide +kernel
theorem dL_law_207 : decode cL_law 207 = .ok (.iaload, 1) := by decide +kernel
theorem dL_law_208 : decode cL_law 208 = .ok (.i2l, 1) := by decide +kernel
theorem dL_law_209 : decode cL_law 209 = .ok (.bipush 32, 2) := by decide +kernel
theorem dL_law_211 : decode cL_law 211 = .ok (.lshl, 1) := by decide +kernel
theorem dL_law_212 : decode cL_law 212 = .ok (.aload_n 0, 1) := by decide +kernel
theorem dL_law_213 : decode cL_law 213 = .ok (.iload_n 3, 1) := by decide +kernel
theorem dL_law_214 : decode cL_law 214 = .ok (.iconst 5, 1) := by decide +kernel
theorem dL_law_215 : decode cL_law 215 = .ok (.iadd, 1) := by decide +kernel
theorem dL_law_216 : decode cL_law 216 = .ok (.iaload, 1) := by decide +kernel
theorem dL_law_217 : decode cL_law 217 = .ok (.i2l, 1) := by decide +kernel
theorem dL_law_218 : decode cL_law 218 = .ok (.ldc2_w 13, 3) := by decide +kernel
theorem dL_law_221 : decode cL_law 221 = .ok (.land, 1) := by decide +kernel
theorem dL_law_222 : decode cL_law 222 = .ok (.lor, 1) := by decide +kernel
theorem dL_law_223 : decode cL_law 223 = .ok (.invokevirtual 19, 3) := by decide +kernel
theorem dL_law_226 : decode cL_law 226 = .ok (.if_icmp .eq 772, 3) := by decide +kernel
theorem dL_law_229 : decode cL_law 229 = .ok (.iconst 0, 1) := by decide +kernel
theorem dL_law_230 : decode cL_law 230 = .ok (.ireturn, 1) := by decide +kernel
theorem dL_law_231 : decode cL_law 231 = .ok (.aload_n 1, 1) := by decide +kernel
theorem dL_law_232 : decode cL_law 232 = .ok (.aload_n 0, 1) := by decide +kernel
theorem dL_law_233 : decode cL_law 233 = .ok (.iload_n 3, 1) := by decide +kernel
theorem dL_law_234 : decode cL_law 234 = .ok (.iconst 1, 1) := by decide +kernel
theorem dL_law_235 : decode cL_law 235 = .ok (.iadd, 1) := by decide +kernel
theorem dL_law_236 : decode cL_law 236 = .ok (.iaload, 1) := by decide +kernel
theorem dL_law_237 : decode cL_law 237 = .ok (.i2l, 1) := by decide +kernel
theorem dL_law_238 : decode cL_law 238 = .ok (.bipush 32, 2) := by decide +kernel
theorem dL_law_240 : decode cL_law 240 = .ok (.lshl, 1) := by decide +kernel
theorem dL_law_241 : decode cL_law 241 = .ok (.aload_n 0, 1) := by decide +kernel
theorem dL_law_242 : decode cL_law 242 = .ok (.iload_n 3, 1) := by decide +kernel
theorem dL_law_243 : decode cL_law 243 = .ok (.iconst 2, 1) := by decide +kernel
theorem dL_law_244 : decode cL_law 244 = .ok (.iadd, 1) := by decide +kernel
theorem dL_law_245 : decode cL_law 245 = .ok (.iaload, 1) := by decide +kernel
theorem dL_law_246 : decode cL_law 246 = .ok (.i2l, 1) := by decide +kernel
theorem dL_law_247 : decode cL_law 247 = .ok (.ldc2_w 13, 3) := by decide +kernel
theorem dL_law_250 : decode cL_law 250 = .ok (.land, 1) := by decide +kernel
theorem dL_law_251 : decode cL_law 251 = .ok (.lor, 1) := by decide +kernel
theorem dL_law_252 : decode cL_law 252 = .ok (.invokevirtual 20, 3) := by decide +kernel
theorem dL_law_255 : decode cL_law 255 = .ok (.aload_n 2, 1) := by decide +kernel
theorem dL_law_256 : decode cL_law 256 = .ok (.aload_n 0, 1) := by decide +kernel
theorem dL_law_257 : decode cL_law 257 = .ok (.iload_n 3, 1) := by decide +kernel
theorem dL_law_258 : decode cL_law 258 = .ok (.iconst 1, 1) := by decide +kernel
theorem dL_law_259 : decode cL_law 259 = .ok (.iadd, 1) := by decide +kernel
theorem dL_law_260 : decode cL_law 260 = .ok (.iaload, 1) := by decide +kernel
theorem dL_law_261 : decode cL_law 261 = .ok (.i2l, 1) := by decide +kernel
theorem dL_law_262 : decode cL_law 262 = .ok (.bipush 32, 2) := by decide +kernel
theorem dL_law_264 : decode cL_law 264 = .ok (.lshl, 1) := by decide +kernel
theorem dL_law_265 : decode cL_law 265 = .ok (.aload_n 0, 1) := by decide +kernel
theorem dL_law_266 : decode cL_law 266 = .ok (.iload_n 3, 1) := by decide +kernel
theorem dL_law_267 : decode cL_law 267 = .ok (.iconst 2, 1) := by decide +kernel
theorem dL_law_268 : decode cL_law 268 = .ok (.iadd, 1) := by decide +kernel
theorem dL_law_269 : decode cL_law 269 = .ok (.iaload, 1) := by decide +kernel
theorem dL_law_270 : decode cL_law 270 = .ok (.i2l, 1) := by decide +kernel
theorem dL_law_271 : decode cL_law 271 = .ok (.ldc2_w 13, 3) := by decide +kernel
theorem dL_law_274 : decode cL_law 274 = .ok (.land, 1) := by decide +kernel
theorem dL_law_275 : decode cL_law 275 = .ok (.lor, 1) := by decide +kernel
theorem dL_law_276 : decode cL_law 276 = .ok (.invokevirtual 24, 3) := by decide +kernel
theorem dL_law_279 : decode cL_law 279 = .ok (.if_icmp .eq 719, 3) := by decide +kernel
theorem dL_law_282 : decode cL_law 282 = .ok (.iconst 0, 1) := by decide +kernel
theorem dL_law_283 : decode cL_law 283 = .ok (.ireturn, 1) := by decide +kernel
theorem dL_law_284 : decode cL_law 284 = .ok (.aload_n 1, 1) := by decide +kernel
theorem dL_law_285 : decode cL_law 285 = .ok (.aload_n 0, 1) := by decide +kernel
theorem dL_law_286 : decode cL_law 286 = .ok (.iload_n 3, 1) := by decide +kernel
theorem dL_law_287 : decode cL_law 287 = .ok (.iconst 1, 1) := by decide +kernel
theorem dL_law_288 : decode cL_law 288 = .ok (.iadd, 1) := by decide +kernel
theorem dL_law_289 : decode cL_law 289 = .ok (.iaload, 1) := by decide +kernel
theorem dL_law_290 : decode cL_law 290 = .ok (.aload_n 0, 1) := by decide +kernel
theorem dL_law_291 : decode cL_law 291 = .ok (.iload_n 3, 1) := by decide +kernel
theorem dL_law_292 : decode cL_law 292 = .ok (.iconst 2, 1) := by decide +kernel
theorem dL_law_293 : decode cL_law 293 = .ok (.iadd, 1) := by decide +kernel
theorem dL_law_294 : decode cL_law 294 = .ok (.iaload, 1) := by decide +kernel
theorem dL_law_295 : decode cL_law 295 = .ok (.invokevirtual 25, 3) := by decide +kernel
theorem dL_law_298 : decode cL_law 298 = .ok (.aload_n 2, 1) := by decide +kernel
theorem dL_law_299 : decode cL_law 299 = .ok (.aload_n 0, 1) := by decide +kernel
theorem dL_law_300 : decode cL_law 300 = .ok (.iload_n 3, 1) := by decide +kernel
theorem dL_law_301 : decode cL_law 301 = .ok (.iconst 1, 1) := by decide +kernel
theorem dL_law_302 : decode cL_law 302 = .ok (.iadd, 1) := by decide +kernel
theorem dL_law_303 : decode cL_law 303 = .ok (.iaload, 1) := by decide +kernel
theorem dL_law_304 : decode cL_law 304 = .ok (.aload_n 0, 1) := by decide +kernel
theorem dL_law_305 : decode cL_law 305 = .ok (.iload_n 3, 1) := by decide +kernel
theorem dL_law_306 : decode cL_law 306 = .ok (.iconst 2, 1) := by decide +kernel
theorem dL_law_307 : decode cL_law 307 = .ok (.iadd, 1) := by decide +kernel
theorem dL_law_308 : decode cL_law 308 = .ok (.iaload, 1) := by decide +kernel
theorem dL_law_309 : decode cL_law 309 = .ok (.invokevirtual 29, 3) := by decide +kernel
theorem dL_law_312 : decode cL_law 312 = .ok (.lcmp, 1) := by decide +kernel
theorem dL_law_313 : decode cL_law 313 = .ok (.ifCond .eq 685, 3) := by decide +kernel
theorem dL_law_316 : decode cL_law 316 = .ok (.iconst 0, 1) := by decide +kernel
theorem dL_law_317 : decode cL_law 317 = .ok (.ireturn, 1) := by decide +kernel
theorem dL_law_318 : decode cL_law 318 = .ok (.aload_n 1, 1) := by decide +kernel
theorem dL_law_319 : decode cL_law 319 = .ok (.aload_n 0, 1) := by decide +kernel
theorem dL_law_320 : decode cL_law 320 = .ok (.iload_n 3, 1) := by decide +kernel
theorem dL_law_321 : decode cL_law 321 = .ok (.iconst 1, 1) := by decide +kernel
theorem dL_law_322 : decode cL_law 322 = .ok (.iadd, 1) := by decide +kernel
theorem dL_law_323 : decode cL_law 323 = .ok (.iaload, 1) := by decide +kernel
theorem dL_law_324 : decode cL_law 324 = .ok (.invokevirtual 30, 3) := by decide +kernel
theorem dL_law_327 : decode cL_law 327 = .ok (.aload_n 2, 1) := by decide +kernel
theorem dL_law_328 : decode cL_law 328 = .ok (.aload_n 0, 1) := by decide +kernel
theorem dL_law_329 : decode cL_law 329 = .ok (.iload_n 3, 1) := by decide +kernel
theorem dL_law_330 : decode cL_law 330 = .ok (.iconst 1, 1) := by decide +kernel
theorem dL_law_331 : decode cL_law 331 = .ok (.iadd, 1) := by decide +kernel
theorem dL_law_332 : decode cL_law 332 = .ok (.iaload, 1) := by decide +kernel
theorem dL_law_333 : decode cL_law 333 = .ok (.invokevirtual 34, 3) := by decide +kernel
theorem dL_law_336 : decode cL_law 336 = .ok (.lcmp, 1) := by decide +kernel
theorem dL_law_337 : decode cL_law 337 = .ok (.ifCond .eq 661, 3) := by decide +kernel
theorem dL_law_340 : decode cL_law 340 = .ok (.iconst 0, 1) := by decide +kernel
theorem dL_law_341 : decode cL_law 341 = .ok (.ireturn, 1) := by decide +kernel
theorem dL_law_342 : decode cL_law 342 = .ok (.aload_n 1, 1) := by decide +kernel
theorem dL_law_343 : decode cL_law 343 = .ok (.aload_n 0, 1) := by decide +kernel
theorem dL_law_344 : decode cL_law 344 = .ok (.iload_n 3, 1) := by decide +kernel
theorem dL_law_345 : decode cL_law 345 = .ok (.iconst 1, 1) := by decide +kernel
theorem dL_law_346 : decode cL_law 346 = .ok (.iadd, 1) := by decide +kernel
theorem dL_law_347 : decode cL_law 347 = .ok (.iaload, 1) := by decide +kernel
theorem dL_law_348 : decode cL_law 348 = .ok (.invokevirtual 35, 3) := by decide +kernel
theorem dL_law_351 : decode cL_law 351 = .ok (.aload_n 2, 1) := by decide +kernel
theorem dL_law_352 : decode cL_law 352 = .ok (.aload_n 0, 1) := by decide +kernel
theorem dL_law_353 : decode cL_law 353 = .ok (.iload_n 3, 1) := by decide +kernel
theorem dL_law_354 : decode cL_law 354 = .ok (.iconst 1, 1) := by decide +kernel
theorem dL_law_355 : decode cL_law 355 = .ok (.iadd, 1) := by decide +kernel
theorem dL_law_356 : decode cL_law 356 = .ok (.iaload, 1) := by decide +kernel
theorem dL_law_357 : decode cL_law 357 = .ok (.invokevirtual 39, 3) := by decide +kernel
theorem dL_law_360 : decode cL_law 360 = .ok (.if_icmp .eq 638, 3) := by decide +kernel
theorem dL_law_363 : decode cL_law 363 = .ok (.iconst 0, 1) := by decide +kernel
theorem dL_law_364 : decode cL_law 364 = .ok (.ireturn, 1) := by decide +kernel
theorem dL_law_365 : decode cL_law 365 = .ok (.aload_n 1, 1) := by decide +kernel
theorem dL_law_366 : decode cL_law 366 = .ok (.aload_n 0, 1) := by decide +kernel
theorem dL_law_367 : decode cL_law 367 = .ok (.iload_n 3, 1) := by decide +kernel
theorem dL_law_368 : decode cL_law 368 = .ok (.iconst 1, 1) := by decide +kernel
theorem dL_law_369 : decode cL_law 369 = .ok (.iadd, 1) := by decide +kernel
theorem dL_law_370 : decode cL_law 370 = .ok (.iaload, 1) := by decide +kernel
theorem dL_law_371 : decode cL_law 371 = .ok (.aload_n 0, 1) := by decide +kernel
theorem dL_law_372 : decode cL_law 372 = .ok (.iload_n 3, 1) := by decide +kernel
theorem dL_law_373 : decode cL_law 373 = .ok (.iconst 2, 1) := by decide +kernel
theorem dL_law_374 : decode cL_law 374 = .ok (.iadd, 1) := by decide +kernel
theorem dL_law_375 : decode cL_law 375 = .ok (.iaload, 1) := by decide +kernel
theorem dL_law_376 : decode cL_law 376 = .ok (.i2d, 1) := by decide +kernel
theorem dL_law_377 : decode cL_law 377 = .ok (.ldc2_w 40, 3) := by decide +kernel
theorem dL_law_380 : decode cL_law 380 = .ok (.dmul, 1) := by decide +kernel
theorem dL_law_381 : decode cL_law 381 = .ok (.invokevirtual 42, 3) := by decide +kernel
theorem dL_law_384 : decode cL_law 384 = .ok (.dstore 4, 2) := by decide +kernel
theorem dL_law_386 : decode cL_law 386 = .ok (.aload_n 2, 1) := by decide +kernel
theorem dL_law_387 : decode cL_law 387 = .ok (.aload_n 0, 1) := by decide +kernel
theorem dL_law_388 : decode cL_law 388 = .ok (.iload_n 3, 1) := by decide +kernel
theorem dL_law_389 : decode cL_law 389 = .ok (.iconst 1, 1) := by decide +kernel
theorem dL_law_390 : decode cL_law 390 = .ok (.iadd, 1) := by decide +kernel
theorem dL_law_391 : decode cL_law 391 = .ok (.iaload, 1) := by decide +kernel
theorem dL_law_392 : decode cL_law 392 = .ok (.aload_n 0, 1) := by decide +kernel
theorem dL_law_393 : decode cL_law 393 = .ok (.iload_n 3, 1) := by decide +kernel
theorem dL_law_394 : decode cL_law 394 = .ok (.iconst 2, 1) := by decide +kernel
theorem dL_law_395 : decode cL_law 395 = .ok (.iadd, 1) := by decide +kernel
theorem dL_law_396 : decode cL_law 396 = .ok (.iaload, 1) := by decide +kernel
theorem dL_law_397 : decode cL_law 397 = .ok (.i2d, 1) := by decide +kernel
theorem dL_law_398 : decode cL_law 398 = .ok (.ldc2_w 40, 3) := by decide +kernel
theorem dL_law_401 : decode cL_law 401 = .ok (.dmul, 1) := by decide +kernel
theorem dL_law_402 : decode cL_law 402 = .ok (.invokevirtual 46, 3) := by decide +kernel
theorem dL_law_405 : decode cL_law 405 = .ok (.dstore 6, 2) := by decide +kernel
theorem dL_law_407 : decode cL_law 407 = .ok (.dload 4, 2) := by decide +kernel
theorem dL_law_409 : decode cL_law 409 = .ok (.dload 6, 2) := by decide +kernel
theorem dL_law_411 : decode cL_law 411 = .ok (.dcmp .l, 1) := by decide +kernel
theorem dL_law_412 : decode cL_law 412 = .ok (.ifCond .eq 21, 3) := by decide +kernel
theorem dL_law_415 : decode cL_law 415 = .ok (.dload 4, 2) := by decide +kernel
theorem dL_law_417 : decode cL_law 417 = .ok (.dload 4, 2) := by decide +kernel
theorem dL_law_419 : decode cL_law 419 = .ok (.dcmp .l, 1) := by decide +kernel
theorem dL_law_420 : decode cL_law 420 = .ok (.ifCond .eq 11, 3) := by decide +kernel
theorem dL_law_423 : decode cL_law 423 = .ok (.dload 6, 2) := by decide +kernel
theorem dL_law_425 : decode cL_law 425 = .ok (.dload 6, 2) := by decide +kernel
theorem dL_law_427 : decode cL_law 427 = .ok (.dcmp .l, 1) := by decide +kernel
theorem dL_law_428 : decode cL_law 428 = .ok (.ifCond .ne 5, 3) := by decide +kernel
theorem dL_law_431 : decode cL_law 431 = .ok (.iconst 0, 1) := by decide +kernel
theorem dL_law_432 : decode cL_law 432 = .ok (.ireturn, 1) := by decide +kernel
theorem dL_law_433 : decode cL_law 433 = .ok (.goto 565, 3) := by decide +kernel
theorem dL_law_436 : decode cL_law 436 = .ok (.aload_n 1, 1) := by decide +kernel
theorem dL_law_437 : decode cL_law 437 = .ok (.aload_n 0, 1) := by decide +kernel
theorem dL_law_438 : decode cL_law 438 = .ok (.iload_n 3, 1) := by decide +kernel
theorem dL_law_439 : decode cL_law 439 = .ok (.iconst 1, 1) := by decide +kernel
theorem dL_law_440 : decode cL_law 440 = .ok (.iadd, 1) := by decide +kernel
theorem dL_law_441 : decode cL_law 441 = .ok (.iaload, 1) := by decide +kernel
theorem dL_law_442 : decode cL_law 442 = .ok (.i2d, 1) := by decide +kernel
theorem dL_law_443 : decode cL_law 443 = .ok (.ldc2_w 40, 3) := by decide +kernel
theorem dL_law_446 : decode cL_law 446 = .ok (.dmul, 1) := by decide +kernel
theorem dL_law_447 : decode cL_law 447 = .ok (.aload_n 0, 1) := by decide +kernel
theorem dL_law_448 : decode cL_law 448 = .ok (.iload_n 3, 1) := by decide +kernel
theorem dL_law_449 : decode cL_law 449 = .ok (.iconst 2, 1) := by decide +kernel
theorem dL_law_450 : decode cL_law 450 = .ok (.iadd, 1) := by decide +kernel
theorem dL_law_451 : decode cL_law 451 = .ok (.iaload, 1) := by decide +kernel
theorem dL_law_452 : decode cL_law 452 = .ok (.i2d, 1) := by decide +kernel
theorem dL_law_453 : decode cL_law 453 = .ok (.ldc2_w 40, 3) := by decide +kernel
theorem dL_law_456 : decode cL_law 456 = .ok (.dmul, 1) := by decide +kernel
theorem dL_law_457 : decode cL_law 457 = .ok (.invokevirtual 47, 3) := by decide +kernel
theorem dL_law_460 : decode cL_law 460 = .ok (.aload_n 2, 1) := by decide +kernel
theorem dL_law_461 : decode cL_law 461 = .ok (.aload_n 0, 1) := by decide +kernel
theorem dL_law_462 : decode cL_law 462 = .ok (.iload_n 3, 1) := by decide +kernel
theorem dL_law_463 : decode cL_law 463 = .ok (.iconst 1, 1) := by decide +kernel
theorem dL_law_464 : decode cL_law 464 = .ok (.iadd, 1) := by decide +kernel
theorem dL_law_465 : decode cL_law 465 = .ok (.iaload, 1) := by decide +kernel
theorem dL_law_466 : decode cL_law 466 = .ok (.i2d, 1) := by decide +kernel
theorem dL_law_467 : decode cL_law 467 = .ok (.ldc2_w 40, 3) := by decide +kernel
theorem dL_law_470 : decode cL_law 470 = .ok (.dmul, 1) := by decide +kernel
theorem dL_law_471 : decode cL_law 471 = .ok (.aload_n 0, 1) := by decide +kernel
theorem dL_law_472 : decode cL_law 472 = .ok (.iload_n 3, 1) := by decide +kernel
theorem dL_law_473 : decode cL_law 473 = .ok (.iconst 2, 1) := by decide +kernel
theorem dL_law_474 : decode cL_law 474 = .ok (.iadd, 1) := by decide +kernel
theorem dL_law_475 : decode cL_law 475 = .ok (.iaload, 1) := by decide +kernel
theorem dL_law_476 : decode cL_law 476 = .ok (.i2d, 1) := by decide +kernel
theorem dL_law_477 : decode cL_law 477 = .ok (.ldc2_w 40, 3) := by decide +kernel
theorem dL_law_480 : decode cL_law 480 = .ok (.dmul, 1) := by decide +kernel
theorem dL_law_481 : decode cL_law 481 = .ok (.invokevirtual 51, 3) := by decide +kernel
theorem dL_law_484 : decode cL_law 484 = .ok (.if_icmp .eq 514, 3) := by decide +kernel
theorem dL_law_487 : decode cL_law 487 = .ok (.iconst 0, 1) := by decide +kernel
theorem dL_law_488 : decode cL_law 488 = .ok (.ireturn, 1) := by decide +kernel
theorem dL_law_489 : decode cL_law 489 = .ok (.aload_n 1, 1) := by decide +kernel
theorem dL_law_490 : decode cL_law 490 = .ok (.aload_n 0, 1) := by decide +kernel
theorem dL_law_491 : decode cL_law 491 = .ok (.iload_n 3, 1) := by decide +kernel
theorem dL_law_492 : decode cL_law 492 = .ok (.iconst 1, 1) := by decide +kernel
theorem dL_law_493 : decode cL_law 493 = .ok (.iadd, 1) := by decide +kernel
theorem dL_law_494 : decode cL_law 494 = .ok (.iaload, 1) := by decide +kernel
theorem dL_law_495 : decode cL_law 495 = .ok (.aload_n 0, 1) := by decide +kernel
theorem dL_law_496 : decode cL_law 496 = .ok (.iload_n 3, 1) := by decide +kernel
theorem dL_law_497 : decode cL_law 497 = .ok (.iconst 2, 1) := by decide +kernel
theorem dL_law_498 : decode cL_law 498 = .ok (.iadd, 1) := by decide +kernel
theorem dL_law_499 : decode cL_law 499 = .ok (.iaload, 1) := by decide +kernel
theorem dL_law_500 : decode cL_law 500 = .ok (.aload_n 0, 1) := by decide +kernel
theorem dL_law_501 : decode cL_law 501 = .ok (.iload_n 3, 1) := by decide +kernel
theorem dL_law_502 : decode cL_law 502 = .ok (.iconst 3, 1) := by decide +kernel
theorem dL_law_503 : decode cL_law 503 = .ok (.iadd, 1) := by decide +kernel
theorem dL_law_504 : decode cL_law 504 = .ok (.iaload, 1) := by decide +kernel
theorem dL_law_505 : decode cL_law 505 = .ok (.i2d, 1) := by decide +kernel
theorem dL_law_506 : decode cL_law 506 = .ok (.ldc2_w 40, 3) := by decide +kernel
theorem dL_law_509 : decode cL_law 509 = .ok (.dmul, 1) := by decide +kernel
theorem dL_law_510 : decode cL_law 510 = .ok (.invokevirtual 52, 3) := by decide +kernel
theorem dL_law_513 : decode cL_law 513 = .ok (.dstore 4, 2) := by decide +kernel
theorem dL_law_515 : decode cL_law 515 = .ok (.aload_n 2, 1) := by decide +kernel
theorem dL_law_516 : decode cL_law 516 = .ok (.aload_n 0, 1) := by decide +kernel
theorem dL_law_517 : decode cL_law 517 = .ok (.iload_n 3, 1) := by decide +kernel
theorem dL_law_518 : decode cL_law 518 = .ok (.iconst 1, 1) := by decide +kernel
theorem dL_law_519 : decode cL_law 519 = .ok (.iadd, 1) := by decide +kernel
theorem dL_law_520 : decode cL_law 520 = .ok (.iaload, 1) := by decide +kernel
theorem dL_law_521 : decode cL_law 521 = .ok (.aload_n 0, 1) := by decide +kernel
theorem dL_law_522 : decode cL_law 522 = .ok (.iload_n 3, 1) := by decide +kernel
theorem dL_law_523 : decode cL_law 523 = .ok (.iconst 2, 1) := by decide +kernel
theorem dL_law_524 : decode cL_law 524 = .ok (.iadd, 1) := by decide +kernel
theorem dL_law_525 : decode cL_law 525 = .ok (.iaload, 1) := by decide +kernel
theorem dL_law_526 : decode cL_law 526 = .ok (.aload_n 0, 1) := by decide +kernel
theorem dL_law_527 : decode cL_law 527 = .ok (.iload_n 3, 1) := by decide +kernel
theorem dL_law_528 : decode cL_law 528 = .ok (.iconst 3, 1) := by decide +kernel
theorem dL_law_529 : decode cL_law 529 = .ok (.iadd, 1) := by decide +kernel
theorem dL_law_530 : decode cL_law 530 = .ok (.iaload, 1) := by decide +kernel
theorem dL_law_531 : decode cL_law 531 = .ok (.i2d, 1) := by decide +kernel
theorem dL_law_532 : decode cL_law 532 = .ok (.ldc2_w 40, 3) := by decide +kernel
theorem dL_law_535 : decode cL_law 535 = .ok (.dmul, 1) := by decide +kernel
theorem dL_law_536 : decode cL_law 536 = .ok (.invokevirtual 56, 3) := by decide +kernel
theorem dL_law_539 : decode cL_law 539 = .ok (.dstore 6, 2) := by decide +kernel
theorem dL_law_541 : decode cL_law 541 = .ok (.dload 4, 2) := by decide +kernel
theorem dL_law_543 : decode cL_law 543 = .ok (.dload 6, 2) := by decide +kernel
theorem dL_law_545 : decode cL_law 545 = .ok (.dcmp .l, 1) := by decide +kernel
theorem dL_law_546 : decode cL_law 546 = .ok (.ifCond .eq 21, 3) := by decide +kernel
theorem dL_law_549 : decode cL_law 549 = .ok (.dload 4, 2) := by decide +kernel
theorem dL_law_551 : decode cL_law 551 = .ok (.dload 4, 2) := by decide +kernel
theorem dL_law_553 : decode cL_law 553 = .ok (.dcmp .l, 1) := by decide +kernel
theorem dL_law_554 : decode cL_law 554 = .ok (.ifCond .eq 11, 3) := by decide +kernel
theorem dL_law_557 : decode cL_law 557 = .ok (.dload 6, 2) := by decide +kernel
theorem dL_law_559 : decode cL_law 559 = .ok (.dload 6, 2) := by decide +kernel
theorem dL_law_561 : decode cL_law 561 = .ok (.dcmp .l, 1) := by decide +kernel
theorem dL_law_562 : decode cL_law 562 = .ok (.ifCond .ne 5, 3) := by decide +kernel
theorem dL_law_565 : decode cL_law 565 = .ok (.iconst 0, 1) := by decide +kernel
theorem dL_law_566 : decode cL_law 566 = .ok (.ireturn, 1) := by decide +kernel
theorem dL_law_567 : decode cL_law 567 = .ok (.goto 431, 3) := by decide +kernel
theorem dL_law_570 : decode cL_law 570 = .ok (.aload_n 1, 1) := by decide +kernel
theorem dL_law_571 : decode cL_law 571 = .ok (.aload_n 0, 1) := by decide +kernel
theorem dL_law_572 : decode cL_law 572 = .ok (.iload_n 3, 1) := by decide +kernel
theorem dL_law_573 : decode cL_law 573 = .ok (.iconst 1, 1) := by decide +kernel
theorem dL_law_574 : decode cL_law 574 = .ok (.iadd, 1) := by decide +kernel
theorem dL_law_575 : decode cL_law 575 = .ok (.iaload, 1) := by decide +kernel
theorem dL_law_576 : decode cL_law 576 = .ok (.invokevirtual 57, 3) := by decide +kernel
theorem dL_law_579 : decode cL_law 579 = .ok (.aload_n 2, 1) := by decide +kernel
theorem dL_law_580 : decode cL_law 580 = .ok (.aload_n 0, 1) := by decide +kernel
theorem dL_law_581 : decode cL_law 581 = .ok (.iload_n 3, 1) := by decide +kernel
theorem dL_law_582 : decode cL_law 582 = .ok (.iconst 1, 1) := by decide +kernel
theorem dL_law_583 : decode cL_law 583 = .ok (.iadd, 1) := by decide +kernel
theorem dL_law_584 : decode cL_law 584 = .ok (.iaload, 1) := by decide +kernel
theorem dL_law_585 : decode cL_law 585 = .ok (.invokevirtual 61, 3) := by decide +kernel
theorem dL_law_588 : decode cL_law 588 = .ok (.if_icmp .eq 410, 3) := by decide +kernel
theorem dL_law_591 : decode cL_law 591 = .ok (.iconst 0, 1) := by decide +kernel
theorem dL_law_592 : decode cL_law 592 = .ok (.ireturn, 1) := by decide +kernel
theorem dL_law_593 : decode cL_law 593 = .ok (.aload_n 1, 1) := by decide +kernel
theorem dL_law_594 : decode cL_law 594 = .ok (.aload_n 0, 1) := by decide +kernel
theorem dL_law_595 : decode cL_law 595 = .ok (.iload_n 3, 1) := by decide +kernel
theorem dL_law_596 : decode cL_law 596 = .ok (.iconst 1, 1) := by decide +kernel
theorem dL_law_597 : decode cL_law 597 = .ok (.iadd, 1) := by decide +kernel
theorem dL_law_598 : decode cL_law 598 = .ok (.iaload, 1) := by decide +kernel
theorem dL_law_599 : decode cL_law 599 = .ok (.invokevirtual 62, 3) := by decide +kernel
theorem dL_law_602 : decode cL_law 602 = .ok (.aload_n 2, 1) := by decide +kernel
theorem dL_law_603 : decode cL_law 603 = .ok (.aload_n 0, 1) := by decide +kernel
theorem dL_law_604 : decode cL_law 604 = .ok (.iload_n 3, 1) := by decide +kernel
theorem dL_law_605 : decode cL_law 605 = .ok (.iconst 1, 1) := by decide +kernel
theorem dL_law_606 : decode cL_law 606 = .ok (.iadd, 1) := by decide +kernel
theorem dL_law_607 : decode cL_law 607 = .ok (.iaload, 1) := by decide +kernel
theorem dL_law_608 : decode cL_law 608 = .ok (.invokevirtual 65, 3) := by decide +kernel
theorem dL_law_611 : decode cL_law 611 = .ok (.if_icmp .eq 387, 3) := by decide +kernel
theorem dL_law_614 : decode cL_law 614 = .ok (.iconst 0, 1) := by decide +kernel
theorem dL_law_615 : decode cL_law 615 = .ok (.ireturn, 1) := by decide +kernel
theorem dL_law_616 : decode cL_law 616 = .ok (.aload_n 1, 1) := by decide +kernel
theorem dL_law_617 : decode cL_law 617 = .ok (.aload_n 0, 1) := by decide +kernel
theorem dL_law_618 : decode cL_law 618 = .ok (.iload_n 3, 1) := by decide +kernel
theorem dL_law_619 : decode cL_law 619 = .ok (.iconst 1, 1) := by decide +kernel
theorem dL_law_620 : decode cL_law 620 = .ok (.iadd, 1) := by decide +kernel
theorem dL_law_621 : decode cL_law 621 = .ok (.iaload, 1) := by decide +kernel
theorem dL_law_622 : decode cL_law 622 = .ok (.aload_n 0, 1) := by decide +kernel
theorem dL_law_623 : decode cL_law 623 = .ok (.iload_n 3, 1) := by decide +kernel
theorem dL_law_624 : decode cL_law 624 = .ok (.iconst 2, 1) := by decide +kernel
theorem dL_law_625 : decode cL_law 625 = .ok (.iadd, 1) := by decide +kernel
theorem dL_law_626 : decode cL_law 626 = .ok (.iaload, 1) := by decide +kernel
theorem dL_law_627 : decode cL_law 627 = .ok (.invokevirtual 66, 3) := by decide +kernel
theorem dL_law_630 : decode cL_law 630 = .ok (.aload_n 2, 1) := by decide +kernel
theorem dL_law_631 : decode cL_law 631 = .ok (.aload_n 0, 1) := by decide +kernel
theorem dL_law_632 : decode cL_law 632 = .ok (.iload_n 3, 1) := by decide +kernel
theorem dL_law_633 : decode cL_law 633 = .ok (.iconst 1, 1) := by decide +kernel
theorem dL_law_634 : decode cL_law 634 = .ok (.iadd, 1) := by decide +kernel
theorem dL_law_635 : decode cL_law 635 = .ok (.iaload, 1) := by decide +kernel
theorem dL_law_636 : decode cL_law 636 = .ok (.aload_n 0, 1) := by decide +kernel
theorem dL_law_637 : decode cL_law 637 = .ok (.iload_n 3, 1) := by decide +kernel
theorem dL_law_638 : decode cL_law 638 = .ok (.iconst 2, 1) := by decide +kernel
theorem dL_law_639 : decode cL_law 639 = .ok (.iadd, 1) := by decide +kernel
theorem dL_law_640 : decode cL_law 640 = .ok (.iaload, 1) := by decide +kernel
theorem dL_law_641 : decode cL_law 641 = .ok (.invokevirtual 70, 3) := by decide +kernel
theorem dL_law_644 : decode cL_law 644 = .ok (.if_icmp .eq 354, 3) := by decide +kernel
theorem dL_law_647 : decode cL_law 647 = .ok (.iconst 0, 1) := by decide +kernel
theorem dL_law_648 : decode cL_law 648 = .ok (.ireturn, 1) := by decide +kernel
theorem dL_law_649 : decode cL_law 649 = .ok (.aload_n 1, 1) := by decide +kernel
theorem dL_law_650 : decode cL_law 650 = .ok (.aload_n 0, 1) := by decide +kernel
theorem dL_law_651 : decode cL_law 651 = .ok (.iload_n 3, 1) := by decide +kernel
theorem dL_law_652 : decode cL_law 652 = .ok (.iconst 1, 1) := by decide +kernel
theorem dL_law_653 : decode cL_law 653 = .ok (.iadd, 1) := by decide +kernel
theorem dL_law_654 : decode cL_law 654 = .ok (.iaload, 1) := by decide +kernel
theorem dL_law_655 : decode cL_law 655 = .ok (.aload_n 0, 1) := by decide +kernel
theorem dL_law_656 : decode cL_law 656 = .ok (.iload_n 3, 1) := by decide +kernel
theorem dL_law_657 : decode cL_law 657 = .ok (.iconst 2, 1) := by decide +kernel
theorem dL_law_658 : decode cL_law 658 = .ok (.iadd, 1) := by decide +kernel
theorem dL_law_659 : decode cL_law 659 = .ok (.iaload, 1) := by decide +kernel
theorem dL_law_660 : decode cL_law 660 = .ok (.invokevirtual 71, 3) := by decide +kernel
theorem dL_law_663 : decode cL_law 663 = .ok (.aload_n 2, 1) := by decide +kernel
theorem dL_law_664 : decode cL_law 664 = .ok (.aload_n 0, 1) := by decide +kernel
theorem dL_law_665 : decode cL_law 665 = .ok (.iload_n 3, 1) := by decide +kernel
theorem dL_law_666 : decode cL_law 666 = .ok (.iconst 1, 1) := by decide +kernel
theorem dL_law_667 : decode cL_law 667 = .ok (.iadd, 1) := by decide +kernel
theorem dL_law_668 : decode cL_law 668 = .ok (.iaload, 1) := by decide +kernel
theorem dL_law_669 : decode cL_law 669 = .ok (.aload_n 0, 1) := by decide +kernel
theorem dL_law_670 : decode cL_law 670 = .ok (.iload_n 3, 1) := by decide +kernel
theorem dL_law_671 : decode cL_law 671 = .ok (.iconst 2, 1) := by decide +kernel
theorem dL_law_672 : decode cL_law 672 = .ok (.iadd, 1) := by decide +kernel
theorem dL_law_673 : decode cL_law 673 = .ok (.iaload, 1) := by decide +kernel
theorem dL_law_674 : decode cL_law 674 = .ok (.invokevirtual 74, 3) := by decide +kernel
theorem dL_law_677 : decode cL_law 677 = .ok (.if_icmp .eq 321, 3) := by decide +kernel
theorem dL_law_680 : decode cL_law 680 = .ok (.iconst 0, 1) := by decide +kernel
theorem dL_law_681 : decode cL_law 681 = .ok (.ireturn, 1) := by decide +kernel
theorem dL_law_682 : decode cL_law 682 = .ok (.aload_n 1, 1) := by decide +kernel
theorem dL_law_683 : decode cL_law 683 = .ok (.aload_n 0, 1) := by decide +kernel
theorem dL_law_684 : decode cL_law 684 = .ok (.iload_n 3, 1) := by decide +kernel
theorem dL_law_685 : decode cL_law 685 = .ok (.iconst 1, 1) := by decide +kernel
theorem dL_law_686 : decode cL_law 686 = .ok (.iadd, 1) := by decide +kernel
theorem dL_law_687 : decode cL_law 687 = .ok (.iaload, 1) := by decide +kernel
theorem dL_law_688 : decode cL_law 688 = .ok (.invokevirtual 75, 3) := by decide +kernel
theorem dL_law_691 : decode cL_law 691 = .ok (.aload_n 2, 1) := by decide +kernel
theorem dL_law_692 : decode cL_law 692 = .ok (.aload_n 0, 1) := by decide +kernel
theorem dL_law_693 : decode cL_law 693 = .ok (.iload_n 3, 1) := by decide +kernel
theorem dL_law_694 : decode cL_law 694 = .ok (.iconst 1, 1) := by decide +kernel
theorem dL_law_695 : decode cL_law 695 = .ok (.iadd, 1) := by decide +kernel
theorem dL_law_696 : decode cL_law 696 = .ok (.iaload, 1) := by decide +kernel
theorem dL_law_697 : decode cL_law 697 = .ok (.invokevirtual 78, 3) := by decide +kernel
theorem dL_law_700 : decode cL_law 700 = .ok (.if_icmp .eq 298, 3) := by decide +kernel
theorem dL_law_703 : decode cL_law 703 = .ok (.iconst 0, 1) := by decide +kernel
theorem dL_law_704 : decode cL_law 704 = .ok (.ireturn, 1) := by decide +kernel
theorem dL_law_705 : decode cL_law 705 = .ok (.aload_n 1, 1) := by decide +kernel
theorem dL_law_706 : decode cL_law 706 = .ok (.aload_n 0, 1) := by decide +kernel
theorem dL_law_707 : decode cL_law 707 = .ok (.iload_n 3, 1) := by decide +kernel
theorem dL_law_708 : decode cL_law 708 = .ok (.iconst 1, 1) := by decide +kernel
theorem dL_law_709 : decode cL_law 709 = .ok (.iadd, 1) := by decide +kernel
theorem dL_law_710 : decode cL_law 710 = .ok (.iaload, 1) := by decide +kernel
theorem dL_law_711 : decode cL_law 711 = .ok (.i2l, 1) := by decide +kernel
theorem dL_law_712 : decode cL_law 712 = .ok (.bipush 32, 2) := by decide +kernel
theorem dL_law_714 : decode cL_law 714 = .ok (.lshl, 1) := by decide +kernel
theorem dL_law_715 : decode cL_law 715 = .ok (.aload_n 0, 1) := by decide +kernel
theorem dL_law_716 : decode cL_law 716 = .ok (.iload_n 3, 1) := by decide +kernel
theorem dL_law_717 : decode cL_law 717 = .ok (.iconst 2, 1) := by decide +kernel
theorem dL_law_718 : decode cL_law 718 = .ok (.iadd, 1) := by decide +kernel
theorem dL_law_719 : decode cL_law 719 = .ok (.iaload, 1) := by decide +kernel
theorem dL_law_720 : decode cL_law 720 = .ok (.i2l, 1) := by decide +kernel
theorem dL_law_721 : decode cL_law 721 = .ok (.ldc2_w 13, 3) := by decide +kernel
theorem dL_law_724 : decode cL_law 724 = .ok (.land, 1) := by decide +kernel
theorem dL_law_725 : decode cL_law 725 = .ok (.lor, 1) := by decide +kernel
theorem dL_law_726 : decode cL_law 726 = .ok (.aload_n 0, 1) := by decide +kernel
theorem dL_law_727 : decode cL_law 727 = .ok (.iload_n 3, 1) := by decide +kernel
theorem dL_law_728 : decode cL_law 728 = .ok (.iconst 3, 1) := by decide +kernel
theorem dL_law_729 : decode cL_law 729 = .ok (.iadd, 1) := by decide +kernel
theorem dL_law_730 : decode cL_law 730 = .ok (.iaload, 1) := by decide +kernel
theorem dL_law_731 : decode cL_law 731 = .ok (.i2l, 1) := by decide +kernel
theorem dL_law_732 : decode cL_law 732 = .ok (.bipush 32, 2) := by decide +kernel
theorem dL_law_734 : decode cL_law 734 = .ok (.lshl, 1) := by decide +kernel
theorem dL_law_735 : decode cL_law 735 = .ok (.aload_n 0, 1) := by decide +kernel
theorem dL_law_736 : decode cL_law 736 = .ok (.iload_n 3, 1) := by decide +kernel
theorem dL_law_737 : decode cL_law 737 = .ok (.iconst 4, 1) := by decide +kernel
theorem dL_law_738 : decode cL_law 738 = .ok (.iadd, 1) := by decide +kernel
theorem dL_law_739 : decode cL_law 739 = .ok (.iaload, 1) := by decide +kernel
theorem dL_law_740 : decode cL_law 740 = .ok (.i2l, 1) := by decide +kernel
theorem dL_law_741 : decode cL_law 741 = .ok (.ldc2_w 13, 3) := by decide +kernel
theorem dL_law_744 : decode cL_law 744 = .ok (.land, 1) := by decide +kernel
theorem dL_law_745 : decode cL_law 745 = .ok (.lor, 1) := by decide +kernel
theorem dL_law_746 : decode cL_law 746 = .ok (.invokevirtual 79, 3) := by decide +kernel
theorem dL_law_749 : decode cL_law 749 = .ok (.aload_n 2, 1) := by decide +kernel
theorem dL_law_750 : decode cL_law 750 = .ok (.aload_n 0, 1) := by decide +kernel
theorem dL_law_751 : decode cL_law 751 = .ok (.iload_n 3, 1) := by decide +kernel
theorem dL_law_752 : decode cL_law 752 = .ok (.iconst 1, 1) := by decide +kernel
theorem dL_law_753 : decode cL_law 753 = .ok (.iadd, 1) := by decide +kernel
theorem dL_law_754 : decode cL_law 754 = .ok (.iaload, 1) := by decide +kernel
theorem dL_law_755 : decode cL_law 755 = .ok (.i2l, 1) := by decide +kernel
theorem dL_law_756 : decode cL_law 756 = .ok (.bipush 32, 2) := by decide +kernel
theorem dL_law_758 : decode cL_law 758 = .ok (.lshl, 1) := by decide +kernel
theorem dL_law_759 : decode cL_law 759 = .ok (.aload_n 0, 1) := by decide +kernel
theorem dL_law_760 : decode cL_law 760 = .ok (.iload_n 3, 1) := by decide +kernel
theorem dL_law_761 : decode cL_law 761 = .ok (.iconst 2, 1) := by decide +kernel
theorem dL_law_762 : decode cL_law 762 = .ok (.iadd, 1) := by decide +kernel
theorem dL_law_763 : decode cL_law 763 = .ok (.iaload, 1) := by decide +kernel
theorem dL_law_764 : decode cL_law 764 = .ok (.i2l, 1) := by decide +kernel
theorem dL_law_765 : decode cL_law 765 = .ok (.ldc2_w 13, 3) := by decide +kernel
theorem dL_law_768 : decode cL_law 768 = .ok (.land, 1) := by decide +kernel
theorem dL_law_769 : decode cL_law 769 = .ok (.lor, 1) := by decide +kernel
theorem dL_law_770 : decode cL_law 770 = .ok (.aload_n 0, 1) := by decide +kernel
theorem dL_law_771 : decode cL_law 771 = .ok (.iload_n 3, 1) := by decide +kernel
theorem dL_law_772 : decode cL_law 772 = .ok (.iconst 3, 1) := by decide +kernel
theorem dL_law_773 : decode cL_law 773 = .ok (.iadd, 1) := by decide +kernel
theorem dL_law_774 : decode cL_law 774 = .ok (.iaload, 1) := by decide +kernel
theorem dL_law_775 : decode cL_law 775 = .ok (.i2l, 1) := by decide +kernel
theorem dL_law_776 : decode cL_law 776 = .ok (.bipush 32, 2) := by decide +kernel
theorem dL_law_778 : decode cL_law 778 = .ok (.lshl, 1) := by decide +kernel
theorem dL_law_779 : decode cL_law 779 = .ok (.aload_n 0, 1) := by decide +kernel
theorem dL_law_780 : decode cL_law 780 = .ok (.iload_n 3, 1) := by decide +kernel
theorem dL_law_781 : decode cL_law 781 = .ok (.iconst 4, 1) := by decide +kernel
theorem dL_law_782 : decode cL_law 782 = .ok (.iadd, 1) := by decide +kernel
theorem dL_law_783 : decode cL_law 783 = .ok (.iaload, 1) := by decide +kernel
theorem dL_law_784 : decode cL_law 784 = .ok (.i2l, 1) := by decide +kernel
theorem dL_law_785 : decode cL_law 785 = .ok (.ldc2_w 13, 3) := by decide +kernel
theorem dL_law_788 : decode cL_law 788 = .ok (.land, 1) := by decide +kernel
theorem dL_law_789 : decode cL_law 789 = .ok (.lor, 1) := by decide +kernel
theorem dL_law_790 : decode cL_law 790 = .ok (.invokevirtual 83, 3) := by decide +kernel
theorem dL_law_793 : decode cL_law 793 = .ok (.if_icmp .eq 205, 3) := by decide +kernel
theorem dL_law_796 : decode cL_law 796 = .ok (.iconst 0, 1) := by decide +kernel
theorem dL_law_797 : decode cL_law 797 = .ok (.ireturn, 1) := by decide +kernel
theorem dL_law_798 : decode cL_law 798 = .ok (.aload_n 1, 1) := by decide +kernel
theorem dL_law_799 : decode cL_law 799 = .ok (.aload_n 0, 1) := by decide +kernel
theorem dL_law_800 : decode cL_law 800 = .ok (.iload_n 3, 1) := by decide +kernel
theorem dL_law_801 : decode cL_law 801 = .ok (.iconst 1, 1) := by decide +kernel
theorem dL_law_802 : decode cL_law 802 = .ok (.iadd, 1) := by decide +kernel
theorem dL_law_803 : decode cL_law 803 = .ok (.iaload, 1) := by decide +kernel
theorem dL_law_804 : decode cL_law 804 = .ok (.aload_n 0, 1) := by decide +kernel
theorem dL_law_805 : decode cL_law 805 = .ok (.iload_n 3, 1) := by decide +kernel
theorem dL_law_806 : decode cL_law 806 = .ok (.iconst 2, 1) := by decide +kernel
theorem dL_law_807 : decode cL_law 807 = .ok (.iadd, 1) := by decide +kernel
theorem dL_law_808 : decode cL_law 808 = .ok (.iaload, 1) := by decide +kernel
theorem dL_law_809 : decode cL_law 809 = .ok (.invokevirtual 84, 3) := by decide +kernel
theorem dL_law_812 : decode cL_law 812 = .ok (.aload_n 2, 1) := by decide +kernel
theorem dL_law_813 : decode cL_law 813 = .ok (.aload_n 0, 1) := by decide +kernel
theorem dL_law_814 : decode cL_law 814 = .ok (.iload_n 3, 1) := by decide +kernel
theorem dL_law_815 : decode cL_law 815 = .ok (.iconst 1, 1) := by decide +kernel
theorem dL_law_816 : decode cL_law 816 = .ok (.iadd, 1) := by decide +kernel
theorem dL_law_817 : decode cL_law 817 = .ok (.iaload, 1) := by decide +kernel
theorem dL_law_818 : decode cL_law 818 = .ok (.aload_n 0, 1) := by decide +kernel
theorem dL_law_819 : decode cL_law 819 = .ok (.iload_n 3, 1) := by decide +kernel
theorem dL_law_820 : decode cL_law 820 = .ok (.iconst 2, 1) := by decide +kernel
theorem dL_law_821 : decode cL_law 821 = .ok (.iadd, 1) := by decide +kernel
theorem dL_law_822 : decode cL_law 822 = .ok (.iaload, 1) := by decide +kernel
theorem dL_law_823 : decode cL_law 823 = .ok (.invokevirtual 87, 3) := by decide +kernel
theorem dL_law_826 : decode cL_law 826 = .ok (.if_icmp .eq 172, 3) := by decide +kernel
theorem dL_law_829 : decode cL_law 829 = .ok (.iconst 0, 1) := by decide +kernel
theorem dL_law_830 : decode cL_law 830 = .ok (.ireturn, 1) := by decide +kernel
theorem dL_law_831 : decode cL_law 831 = .ok (.aload_n 1, 1) := by decide +kernel
theorem dL_law_832 : decode cL_law 832 = .ok (.aload_n 0, 1) := by decide +kernel
theorem dL_law_833 : decode cL_law 833 = .ok (.iload_n 3, 1) := by decide +kernel
theorem dL_law_834 : decode cL_law 834 = .ok (.iconst 1, 1) := by decide +kernel
theorem dL_law_835 : decode cL_law 835 = .ok (.iadd, 1) := by decide +kernel
theorem dL_law_836 : decode cL_law 836 = .ok (.iaload, 1) := by decide +kernel
theorem dL_law_837 : decode cL_law 837 = .ok (.aload_n 0, 1) := by decide +kernel
theorem dL_law_838 : decode cL_law 838 = .ok (.iload_n 3, 1) := by decide +kernel
theorem dL_law_839 : decode cL_law 839 = .ok (.iconst 2, 1) := by decide +kernel
theorem dL_law_840 : decode cL_law 840 = .ok (.iadd, 1) := by decide +kernel
theorem dL_law_841 : decode cL_law 841 = .ok (.iaload, 1) := by decide +kernel
theorem dL_law_842 : decode cL_law 842 = .ok (.invokevirtual 88, 3) := by decide +kernel
theorem dL_law_845 : decode cL_law 845 = .ok (.aload_n 2, 1) := by decide +kernel
theorem dL_law_846 : decode cL_law 846 = .ok (.aload_n 0, 1) := by decide +kernel
theorem dL_law_847 : decode cL_law 847 = .ok (.iload_n 3, 1) := by decide +kernel
theorem dL_law_848 : decode cL_law 848 = .ok (.iconst 1, 1) := by decide +kernel
theorem dL_law_849 : decode cL_law 849 = .ok (.iadd, 1) := by decide +kernel
theorem dL_law_850 : decode cL_law 850 = .ok (.iaload, 1) := by decide +kernel
theorem dL_law_851 : decode cL_law 851 = .ok (.aload_n 0, 1) := by decide +kernel
theorem dL_law_852 : decode cL_law 852 = .ok (.iload_n 3, 1) := by decide +kernel
theorem dL_law_853 : decode cL_law 853 = .ok (.iconst 2, 1) := by decide +kernel
theorem dL_law_854 : decode cL_law 854 = .ok (.iadd, 1) := by decide +kernel
theorem dL_law_855 : decode cL_law 855 = .ok (.iaload, 1) := by decide +kernel
theorem dL_law_856 : decode cL_law 856 = .ok (.invokevirtual 91, 3) := by decide +kernel
theorem dL_law_859 : decode cL_law 859 = .ok (.lcmp, 1) := by decide +kernel
theorem dL_law_860 : decode cL_law 860 = .ok (.ifCond .eq 138, 3) := by decide +kernel
theorem dL_law_863 : decode cL_law 863 = .ok (.iconst 0, 1) := by decide +kernel
theorem dL_law_864 : decode cL_law 864 = .ok (.ireturn, 1) := by decide +kernel
theorem dL_law_865 : decode cL_law 865 = .ok (.aload_n 1, 1) := by decide +kernel
theorem dL_law_866 : decode cL_law 866 = .ok (.aload_n 0, 1) := by decide +kernel
theorem dL_law_867 : decode cL_law 867 = .ok (.iload_n 3, 1) := by decide +kernel
theorem dL_law_868 : decode cL_law 868 = .ok (.iconst 1, 1) := by decide +kernel
theorem dL_law_869 : decode cL_law 869 = .ok (.iadd, 1) := by decide +kernel
theorem dL_law_870 : decode cL_law 870 = .ok (.iaload, 1) := by decide +kernel
theorem dL_law_871 : decode cL_law 871 = .ok (.aload_n 0, 1) := by decide +kernel
theorem dL_law_872 : decode cL_law 872 = .ok (.iload_n 3, 1) := by decide +kernel
theorem dL_law_873 : decode cL_law 873 = .ok (.iconst 2, 1) := by decide +kernel
theorem dL_law_874 : decode cL_law 874 = .ok (.iadd, 1) := by decide +kernel
theorem dL_law_875 : decode cL_law 875 = .ok (.iaload, 1) := by decide +kernel
theorem dL_law_876 : decode cL_law 876 = .ok (.invokevirtual 92, 3) := by decide +kernel
theorem dL_law_879 : decode cL_law 879 = .ok (.aload_n 2, 1) := by decide +kernel
theorem dL_law_880 : decode cL_law 880 = .ok (.aload_n 0, 1) := by decide +kernel
theorem dL_law_881 : decode cL_law 881 = .ok (.iload_n 3, 1) := by decide +kernel
theorem dL_law_882 : decode cL_law 882 = .ok (.iconst 1, 1) := by decide +kernel
theorem dL_law_883 : decode cL_law 883 = .ok (.iadd, 1) := by decide +kernel
theorem dL_law_884 : decode cL_law 884 = .ok (.iaload, 1) := by decide +kernel
theorem dL_law_885 : decode cL_law 885 = .ok (.aload_n 0, 1) := by decide +kernel
theorem dL_law_886 : decode cL_law 886 = .ok (.iload_n 3, 1) := by decide +kernel
theorem dL_law_887 : decode cL_law 887 = .ok (.iconst 2, 1) := by decide +kernel
theorem dL_law_888 : decode cL_law 888 = .ok (.iadd, 1) := by decide +kernel
theorem dL_law_889 : decode cL_law 889 = .ok (.iaload, 1) := by decide +kernel
theorem dL_law_890 : decode cL_law 890 = .ok (.invokevirtual 95, 3) := by decide +kernel
theorem dL_law_893 : decode cL_law 893 = .ok (.if_icmp .eq 105, 3) := by decide +kernel
theorem dL_law_896 : decode cL_law 896 = .ok (.iconst 0, 1) := by decide +kernel
theorem dL_law_897 : decode cL_law 897 = .ok (.ireturn, 1) := by decide +kernel
theorem dL_law_898 : decode cL_law 898 = .ok (.aload_n 1, 1) := by decide +kernel
theorem dL_law_899 : decode cL_law 899 = .ok (.aload_n 0, 1) := by decide +kernel
theorem dL_law_900 : decode cL_law 900 = .ok (.iload_n 3, 1) := by decide +kernel
theorem dL_law_901 : decode cL_law 901 = .ok (.iconst 1, 1) := by decide +kernel
theorem dL_law_902 : decode cL_law 902 = .ok (.iadd, 1) := by decide +kernel
theorem dL_law_903 : decode cL_law 903 = .ok (.iaload, 1) := by decide +kernel
theorem dL_law_904 : decode cL_law 904 = .ok (.aload_n 0, 1) := by decide +kernel
theorem dL_law_905 : decode cL_law 905 = .ok (.iload_n 3, 1) := by decide +kernel
theorem dL_law_906 : decode cL_law 906 = .ok (.iconst 2, 1) := by decide +kernel
theorem dL_law_907 : decode cL_law 907 = .ok (.iadd, 1) := by decide +kernel
theorem dL_law_908 : decode cL_law 908 = .ok (.iaload, 1) := by decide +kernel
theorem dL_law_909 : decode cL_law 909 = .ok (.aload_n 0, 1) := by decide +kernel
theorem dL_law_910 : decode cL_law 910 = .ok (.iload_n 3, 1) := by decide +kernel
theorem dL_law_911 : decode cL_law 911 = .ok (.iconst 3, 1) := by decide +kernel
theorem dL_law_912 : decode cL_law 912 = .ok (.iadd, 1) := by decide +kernel
theorem dL_law_913 : decode cL_law 913 = .ok (.iaload, 1) := by decide +kernel
theorem dL_law_914 : decode cL_law 914 = .ok (.invokevirtual 96, 3) := by decide +kernel
theorem dL_law_917 : decode cL_law 917 = .ok (.aload_n 2, 1) := by decide +kernel
theorem dL_law_918 : decode cL_law 918 = .ok (.aload_n 0, 1) := by decide +kernel
theorem dL_law_919 : decode cL_law 919 = .ok (.iload_n 3, 1) := by decide +kernel
theorem dL_law_920 : decode cL_law 920 = .ok (.iconst 1, 1) := by decide +kernel
theorem dL_law_921 : decode cL_law 921 = .ok (.iadd, 1) := by decide +kernel
theorem dL_law_922 : decode cL_law 922 = .ok (.iaload, 1) := by decide +kernel
theorem dL_law_923 : decode cL_law 923 = .ok (.aload_n 0, 1) := by decide +kernel
theorem dL_law_924 : decode cL_law 924 = .ok (.iload_n 3, 1) := by decide +kernel
theorem dL_law_925 : decode cL_law 925 = .ok (.iconst 2, 1) := by decide +kernel
theorem dL_law_926 : decode cL_law 926 = .ok (.iadd, 1) := by decide +kernel
theorem dL_law_927 : decode cL_law 927 = .ok (.iaload, 1) := by decide +kernel
theorem dL_law_928 : decode cL_law 928 = .ok (.aload_n 0, 1) := by decide +kernel
theorem dL_law_929 : decode cL_law 929 = .ok (.iload_n 3, 1) := by decide +kernel
theorem dL_law_930 : decode cL_law 930 = .ok (.iconst 3, 1) := by decide +kernel
theorem dL_law_931 : decode cL_law 931 = .ok (.iadd, 1) := by decide +kernel
theorem dL_law_932 : decode cL_law 932 = .ok (.iaload, 1) := by decide +kernel
theorem dL_law_933 : decode cL_law 933 = .ok (.invokevirtual 100, 3) := by decide +kernel
theorem dL_law_936 : decode cL_law 936 = .ok (.lcmp, 1) := by decide +kernel
theorem dL_law_937 : decode cL_law 937 = .ok (.ifCond .eq 61, 3) := by decide +kernel
theorem dL_law_940 : decode cL_law 940 = .ok (.iconst 0, 1) := by decide +kernel
theorem dL_law_941 : decode cL_law 941 = .ok (.ireturn, 1) := by decide +kernel
theorem dL_law_942 : decode cL_law 942 = .ok (.aload_n 1, 1) := by decide +kernel
theorem dL_law_943 : decode cL_law 943 = .ok (.aload_n 0, 1) := by decide +kernel
theorem dL_law_944 : decode cL_law 944 = .ok (.iload_n 3, 1) := by decide +kernel
theorem dL_law_945 : decode cL_law 945 = .ok (.iconst 1, 1) := by decide +kernel
theorem dL_law_946 : decode cL_law 946 = .ok (.iadd, 1) := by decide +kernel
theorem dL_law_947 : decode cL_law 947 = .ok (.iaload, 1) := by decide +kernel
theorem dL_law_948 : decode cL_law 948 = .ok (.aload_n 0, 1) := by decide +kernel
theorem dL_law_949 : decode cL_law 949 = .ok (.iload_n 3, 1) := by decide +kernel
theorem dL_law_950 : decode cL_law 950 = .ok (.iconst 2, 1) := by decide +kernel
theorem dL_law_951 : decode cL_law 951 = .ok (.iadd, 1) := by decide +kernel
theorem dL_law_952 : decode cL_law 952 = .ok (.iaload, 1) := by decide +kernel
theorem dL_law_953 : decode cL_law 953 = .ok (.invokevirtual 101, 3) := by decide +kernel
theorem dL_law_956 : decode cL_law 956 = .ok (.aload_n 2, 1) := by decide +kernel
theorem dL_law_957 : decode cL_law 957 = .ok (.aload_n 0, 1) := by decide +kernel
theorem dL_law_958 : decode cL_law 958 = .ok (.iload_n 3, 1) := by decide +kernel
theorem dL_law_959 : decode cL_law 959 = .ok (.iconst 1, 1) := by decide +kernel
theorem dL_law_960 : decode cL_law 960 = .ok (.iadd, 1) := by decide +kernel
theorem dL_law_961 : decode cL_law 961 = .ok (.iaload, 1) := by decide +kernel
theorem dL_law_962 : decode cL_law 962 = .ok (.aload_n 0, 1) := by decide +kernel
theorem dL_law_963 : decode cL_law 963 = .ok (.iload_n 3, 1) := by decide +kernel
theorem dL_law_964 : decode cL_law 964 = .ok (.iconst 2, 1) := by decide +kernel
theorem dL_law_965 : decode cL_law 965 = .ok (.iadd, 1) := by decide +kernel
theorem dL_law_966 : decode cL_law 966 = .ok (.iaload, 1) := by decide +kernel
theorem dL_law_967 : decode cL_law 967 = .ok (.invokevirtual 104, 3) := by decide +kernel
theorem dL_law_970 : decode cL_law 970 = .ok (.if_icmp .eq 28, 3) := by decide +kernel
theorem dL_law_973 : decode cL_law 973 = .ok (.iconst 0, 1) := by decide +kernel
theorem dL_law_974 : decode cL_law 974 = .ok (.ireturn, 1) := by decide +kernel
theorem dL_law_975 : decode cL_law 975 = .ok (.aload_n 1, 1) := by decide +kernel
theorem dL_law_976 : decode cL_law 976 = .ok (.aload_n 0, 1) := by decide +kernel
theorem dL_law_977 : decode cL_law 977 = .ok (.iload_n 3, 1) := by decide +kernel
theorem dL_law_978 : decode cL_law 978 = .ok (.iconst 1, 1) := by decide +kernel
theorem dL_law_979 : decode cL_law 979 = .ok (.iadd, 1) := by decide +kernel
theorem dL_law_980 : decode cL_law 980 = .ok (.iaload, 1) := by decide +kernel
theorem dL_law_981 : decode cL_law 981 = .ok (.invokevirtual 105, 3) := by decide +kernel
theorem dL_law_984 : decode cL_law 984 = .ok (.aload_n 2, 1) := by decide +kernel
theorem dL_law_985 : decode cL_law 985 = .ok (.aload_n 0, 1) := by decide +kernel
theorem dL_law_986 : decode cL_law 986 = .ok (.iload_n 3, 1) := by decide +kernel
theorem dL_law_987 : decode cL_law 987 = .ok (.iconst 1, 1) := by decide +kernel
theorem dL_law_988 : decode cL_law 988 = .ok (.iadd, 1) := by decide +kernel
theorem dL_law_989 : decode cL_law 989 = .ok (.iaload, 1) := by decide +kernel
theorem dL_law_990 : decode cL_law 990 = .ok (.invokevirtual 108, 3) := by decide +kernel
theorem dL_law_993 : decode cL_law 993 = .ok (.if_icmp .eq 5, 3) := by decide +kernel
theorem dL_law_996 : decode cL_law 996 = .ok (.iconst 0, 1) := by decide +kernel
theorem dL_law_997 : decode cL_law 997 = .ok (.ireturn, 1) := by decide +kernel
theorem dL_law_998 : decode cL_law 998 = .ok (.iinc 3 6, 3) := by decide +kernel
theorem dL_law_1001 : decode cL_law 1001 = .ok (.goto (-983), 3) := by decide +kernel
theorem dL_law_1004 : decode cL_law 1004 = .ok (.iconst 1, 1) := by decide +kernel
theorem dL_law_1005 : decode cL_law 1005 = .ok (.ireturn, 1) := by decide +kernel
end
section
/-! THE LAYER Z: an abstract heap by codes. ad: the address of a code, f: what the cell of that code holds. -/
abbrev zW : Type := Nat → Option va_E
/-- the array classes, by their places -/
abbrev zTys (cy : Nat → ClassId) : List (ClassId × FieldType) := [(cy 0, .long), (cy 1, .int), (cy 2, .double), (cy 3, .byte), (cy 4, .object RX0), (cy 5, .object RX1), (cy 6, .object RX2)]
/-- links to private members of nest mates -/
def zN : List Cond := [Cond.fieldLinkNest RX3 135 RX0 "warmth" "D" RX3, Cond.fieldLinkNest RX3 244 RX0 "spell" "I" RX3, Cond.fieldLinkNest RX3 164 RX0 "condition" "I" RX3, Cond.fieldLinkNest RX3 188 RX0 "stackNumber" "I" RX3, Cond.fieldLinkNest RX3 203 RX0 "isLoaded" "Z" RX3, Cond.fieldLinkNest RX3 226 RX0 "firstPart" "LBalePress$Bale;" RX3, Cond.fieldLinkNest RX3 230 RX0 "secondPart" "LBalePress$Bale;" RX3, Cond.fieldLinkNest RX3 262 RX2 "gap" "I" RX3, Cond.fieldLinkNest RX3 171 RX2 "height" "I" RX3, Cond.fieldLinkNest RX3 215 RX1 "gramsOn" "J" RX3, Cond.fieldLinkNest RX3 219 RX1 "momentOn" "J" RX3, Cond.methodLinkNest RX0 28 yX3_isKind RX3]
/-- the digits of Integer's two tables -/
def zDig1 : Nat → Value := fun j => .int (sb_b (48 + j % 10))
def zDig2 : Nat → Value := fun j => .int (sb_b (48 + j / 10))
/-- the JDK's statics that the code reads -/
def zSt (B : Nat) (U : State) (H : Heap) : Prop :=
  va_Z "java/lang/String" "COMPACT_STRINGS" "Z" (.int 1) (fun q => B ≤ q) U H ∧
  (∃ t, va_Z "java/lang/Integer" "DigitOnes" "[B" (.ref t) (fun q => B ≤ q) U H ∧ va_T .byte t 100 zDig1 (fun q => B ≤ q) U H) ∧
  (∃ t, va_Z "java/lang/Integer" "DigitTens" "[B" (.ref t) (fun q => B ≤ q) U H ∧ va_T .byte t 100 zDig2 (fun q => B ≤ q) U H) ∧
  va_Zq "jdk/internal/util/Preconditions" "SIOOBE_FORMATTER" "Ljava/util/function/BiFunction;" (fun q => B ≤ q) U H
def zK (G : va_G) (cy : Nat → ClassId) (B : Nat) (U : State) : Prop :=
  va_K G vwCl (zTys cy) U ∧ (∀ w ∈ zN, va_Nw w U) ∧ va_AO RX0 U ∧ va_AO RX1 U ∧ va_AO RX2 U ∧ zSt B U U.heap ∧ B ≤ U.heap.size
theorem zSt_kept {B : Nat} {U : State} {H H1 : Heap} (h : zSt B U H) (hq : ∀ a : Nat, a < H.size → ¬ B ≤ a → H1[a]? = H[a]?) : zSt B U H1 := by
  obtain ⟨h1, ⟨t1, h2, h3⟩, ⟨t2, h4, h5⟩, h6⟩ := h
  exact ⟨h1.kept hq, ⟨t1, h2.kept hq, h3.kept hq⟩, ⟨t2, h4.kept hq, h5.kept hq⟩, h6.kept hq⟩
theorem zSt_moved {B : Nat} {u U : State} {H : Heap} (hvm : u.vm.Alike U.vm) (h : zSt B u H) : zSt B U H := by
  obtain ⟨h1, ⟨t1, h2, h3⟩, ⟨t2, h4, h5⟩, h6⟩ := h
  exact ⟨h1.moved hvm, ⟨t1, h2.moved hvm, h3.moved hvm⟩, ⟨t2, h4.moved hvm, h5.moved hvm⟩, h6.moved hvm⟩
theorem zN_warm {s U : State} (hW : s.WarmedH U.vm) (h : ∀ w ∈ zN, va_Nw w s) : ∀ w ∈ zN, va_Nw w U := by
  intro w hw
  have h0 := h w hw
  simp only [zN, List.mem_cons, List.not_mem_nil, or_false] at hw
  rcases hw with rfl | rfl | rfl | rfl | rfl | rfl | rfl | rfl | rfl | rfl | rfl | rfl <;> first | exact va_Nw.warmF hW h0 | exact va_Nw.warmM hW h0
/-- what the tables and the old cells say stays, whatever was made or warmed since -/
theorem zK_step {G : va_G} {cy : Nat → ClassId} {B : Nat} {s U : State} (h : zK G cy B s) (hW : s.WarmedH U.vm) (hz : s.heap.size ≤ U.heap.size) (hq : ∀ q, q < s.heap.size → q < B → U.heap[q]? = s.heap[q]?) : zK G cy B U := by
  obtain ⟨h1, h2, h3, h4, h5, h6, h7⟩ := h
  exact ⟨va_K.moved hW.alike h1, zN_warm hW h2, va_AO.moved hW.alike h3, va_AO.moved hW.alike h4, va_AO.moved hW.alike h5, zSt_moved hW.alike (zSt_kept h6 fun a ha hb => hq a ha (by omega)), Nat.le_trans h7 hz⟩
/-- the cells of f lie in H, from B on, each code its own -/
def zP (G : va_G) (B : Nat) (ad : Nat → Nat) (f : zW) (H : Heap) : Prop :=
  (∀ k x, f k = some x → va_at G vwCl (ad k, x) H ∧ B ≤ ad k) ∧ ∀ k j, f k ≠ none → f j ≠ none → ad k = ad j → k = j
/-- from the cells f0 in H0 to the cells f in H: old codes stay, new ones lie behind, all else is as it was -/
def zF (ad0 : Nat → Nat) (f0 : zW) (ad : Nat → Nat) (f : zW) (H0 H : Heap) : Prop :=
  H0.size ≤ H.size ∧ (∀ q, q < H0.size → (∀ k, f0 k ≠ none → ad0 k ≠ q) → H[q]? = H0[q]?) ∧ (∀ k, f0 k ≠ none → f k ≠ none ∧ ad k = ad0 k) ∧ ∀ k, f k ≠ none → f0 k ≠ none ∨ H0.size ≤ ad k
theorem zF_rfl {ad : Nat → Nat} {f : zW} {H : Heap} : zF ad f ad f H H := ⟨Nat.le_refl _, fun _ _ _ => rfl, fun _ h => ⟨h, rfl⟩, fun _ h => Or.inl h⟩
theorem zF_trans {ad0 ad1 ad2 : Nat → Nat} {f0 f1 f2 : zW} {H0 H1 H2 : Heap} (h1 : zF ad0 f0 ad1 f1 H0 H1) (h2 : zF ad1 f1 ad2 f2 H1 H2) : zF ad0 f0 ad2 f2 H0 H2 := by
  obtain ⟨a1, a2, a3, a4⟩ := h1
  obtain ⟨b1, b2, b3, b4⟩ := h2
  refine ⟨Nat.le_trans a1 b1, fun q hq hk => ?_, fun k hk => ?_, fun k hk => ?_⟩
  · rw [b2 q (Nat.lt_of_lt_of_le hq a1) (fun k hk1 e => ?_)]
    · exact a2 q hq hk
    · rcases a4 k hk1 with h | h
      · exact hk k h ((a3 k h).2 ▸ e)
      · omega
  · obtain ⟨c1, c2⟩ := a3 k hk
    obtain ⟨d1, d2⟩ := b3 k c1
    exact ⟨d1, d2.trans c2⟩
  · rcases b4 k hk with h | h
    · rcases a4 k h with h' | h'
      · exact Or.inl h'
      · exact Or.inr (by rw [(b3 k h).2]; exact h')
    · exact Or.inr (Nat.le_trans a1 h)
theorem zP_below {G : va_G} {B : Nat} {ad0 ad : Nat → Nat} {f0 f : zW} {s : State} {H : Heap} (hB : zP G B ad0 f0 s.heap) (h : zF ad0 f0 ad f s.heap H) : ∀ q, q < s.heap.size → q < B → H[q]? = s.heap[q]? :=
  fun q h1 h2 => h.2.1 q h1 (fun k hk e => by
    obtain ⟨x, hx⟩ := Option.ne_none_iff_exists'.mp hk
    have := (hB.1 k x hx).2
    omega)
/-- what a method's walk has at hand -/
def Cx (G : va_G) (cy : Nat → ClassId) (B : Nat) (ad0 : Nat → Nat) (f0 : zW) (cc : ByteArray) (nL : Nat) (ret : Option FieldType) (own : String) (p : Program) (s : State) (m : MethodId) (args : Array Value) (meth : Method) (c : Code) : Prop :=
  p.tables.exec = Jvm.exec ∧ c.code = cc ∧ c.maxLocals = nL ∧ s.vm.findClass own = some m.cls ∧ (∀ w ∈ lw_all, w.before args s = true) ∧ zK G cy B s ∧ meth.locks = false ∧ meth.sig.returnType = ret ∧ zP G B ad0 f0 s.heap
/-- THE JUDGEMENT: from any heap that holds f, at pc with these locals and this stack, the walk comes to Q -/
def Z (G : va_G) (B nL : Nat) (ad0 : Nat → Nat) (f0 : zW) (p : Program) (l : Launch) (e : Env) (R : Room) (s : State) (m : MethodId) (args : Array Value) (below : List Frame) (meth : Method) (c : Code) (Q : State → Prop) (ad : Nat → Nat) (f : zW) (cells slots pc : Nat) (lv : List (Nat × Value)) (st : List Value) : Prop :=
  ∀ (H : Heap) (locs : List Loc) (d : Drawn) (ls : Array Slot), s.drawn.sameBut d lw_cs → zP G B ad f H → zF ad0 f0 ad f s.heap H → (∀ q ∈ locs, B ≤ q.base) → lv_has ls nL lv → W p l e R (s.setDrawn d) m args below meth c H locs cells slots Q (F0 m pc ls st)
/-- A CONTRACT -/
def Ct (l : Launch) (G : va_G) (cy : Nat → ClassId) (B : Nat) (y : MethodName) (cc : ByteArray) (maxL : Nat) (ret : Option FieldType) (rm : Room) (ad : Nat → Nat) (f : zW) (av : List Value) (Post : Option Value → (Nat → Nat) → zW → Prop) : Prop :=
  MetD lw_cs l y (Cond.code y cc maxL ret :: lw_all) rm (va_Pc av (fun U => zP G B ad f U.heap ∧ zK G cy B U)) (fun _ st oc t => ∃ v ad' f', oc = .returned v ∧ Post v ad' f' ∧ zP G B ad' f' t.heap ∧ zF ad f ad' f' st.heap t.heap) rm.cells rm.slots (fun q => B ≤ q)

section ZR
variable {G : va_G} {cy : Nat → ClassId} {B nL : Nat} {ad0 : Nat → Nat} {f0 : zW} {p : Program} {l : Launch} {e : Env} {R : Room} {s : State} {m : MethodId} {args : Array Value} {below : List Frame} {meth : Method} {c : Code} {Q : State → Prop} {ad : Nat → Nat} {f : zW} {cells slots pc : Nat} {lv : List (Nat × Value)} {st : List Value} {cc : ByteArray} {ret : Option FieldType} {own : String}
theorem z_iadd (X : Cx G cy B ad0 f0 cc nL ret own p s m args meth c) {x y : Int32} (hdg : decode cc pc = .ok (.iadd, 1))  (k : Z G B nL ad0 f0 p l e R s m args below meth c Q ad f cells slots (pc + 1) lv (.int (x + y) :: st)) : Z G B nL ad0 f0 p l e R s m args below meth c Q ad f cells slots (pc) lv (.int y :: .int x :: st) := fun H locs d ls h1 h2 h3 h4 h5 => lv_iadd X.1 X.2.1 hdg  (k H locs d ls h1 h2 h3 h4 h5)
theorem z_isub (X : Cx G cy B ad0 f0 cc nL ret own p s m args meth c) {x y : Int32} (hdg : decode cc pc = .ok (.isub, 1))  (k : Z G B nL ad0 f0 p l e R s m args below meth c Q ad f cells slots (pc + 1) lv (.int (x - y) :: st)) : Z G B nL ad0 f0 p l e R s m args below meth c Q ad f cells slots (pc) lv (.int y :: .int x :: st) := fun H locs d ls h1 h2 h3 h4 h5 => lv_isub X.1 X.2.1 hdg  (k H locs d ls h1 h2 h3 h4 h5)
theorem z_imul (X : Cx G cy B ad0 f0 cc nL ret own p s m args meth c) {x y : Int32} (hdg : decode cc pc = .ok (.imul, 1))  (k : Z G B nL ad0 f0 p l e R s m args below meth c Q ad f cells slots (pc + 1) lv (.int (x * y) :: st)) : Z G B nL ad0 f0 p l e R s m args below meth c Q ad f cells slots (pc) lv (.int y :: .int x :: st) := fun H locs d ls h1 h2 h3 h4 h5 => lv_imul X.1 X.2.1 hdg  (k H locs d ls h1 h2 h3 h4 h5)
theorem z_iand (X : Cx G cy B ad0 f0 cc nL ret own p s m args meth c) {x y : Int32} (hdg : decode cc pc = .ok (.iand, 1))  (k : Z G B nL ad0 f0 p l e R s m args below meth c Q ad f cells slots (pc + 1) lv (.int (x &&& y) :: st)) : Z G B nL ad0 f0 p l e R s m args below meth c Q ad f cells slots (pc) lv (.int y :: .int x :: st) := fun H locs d ls h1 h2 h3 h4 h5 => lv_iand X.1 X.2.1 hdg  (k H locs d ls h1 h2 h3 h4 h5)
theorem z_ior (X : Cx G cy B ad0 f0 cc nL ret own p s m args meth c) {x y : Int32} (hdg : decode cc pc = .ok (.ior, 1))  (k : Z G B nL ad0 f0 p l e R s m args below meth c Q ad f cells slots (pc + 1) lv (.int (x ||| y) :: st)) : Z G B nL ad0 f0 p l e R s m args below meth c Q ad f cells slots (pc) lv (.int y :: .int x :: st) := fun H locs d ls h1 h2 h3 h4 h5 => lv_ior X.1 X.2.1 hdg  (k H locs d ls h1 h2 h3 h4 h5)
theorem z_ishl (X : Cx G cy B ad0 f0 cc nL ret own p s m args meth c) {x y : Int32} (hdg : decode cc pc = .ok (.ishl, 1))  (k : Z G B nL ad0 f0 p l e R s m args below meth c Q ad f cells slots (pc + 1) lv (.int (x <<< (y &&& 31)) :: st)) : Z G B nL ad0 f0 p l e R s m args below meth c Q ad f cells slots (pc) lv (.int y :: .int x :: st) := fun H locs d ls h1 h2 h3 h4 h5 => lv_ishl X.1 X.2.1 hdg  (k H locs d ls h1 h2 h3 h4 h5)
theorem z_ishr (X : Cx G cy B ad0 f0 cc nL ret own p s m args meth c) {x y : Int32} (hdg : decode cc pc = .ok (.ishr, 1))  (k : Z G B nL ad0 f0 p l e R s m args below meth c Q ad f cells slots (pc + 1) lv (.int (x >>> (y &&& 31)) :: st)) : Z G B nL ad0 f0 p l e R s m args below meth c Q ad f cells slots (pc) lv (.int y :: .int x :: st) := fun H locs d ls h1 h2 h3 h4 h5 => lv_ishr X.1 X.2.1 hdg  (k H locs d ls h1 h2 h3 h4 h5)
theorem z_idiv (X : Cx G cy B ad0 f0 cc nL ret own p s m args meth c) {x y : Int32} (hdg : decode cc pc = .ok (.idiv, 1)) (hne : ¬ y = 0) (k : Z G B nL ad0 f0 p l e R s m args below meth c Q ad f cells slots (pc + 1) lv (.int (x / y) :: st)) : Z G B nL ad0 f0 p l e R s m args below meth c Q ad f cells slots (pc) lv (.int y :: .int x :: st) := fun H locs d ls h1 h2 h3 h4 h5 => lv_idiv X.1 X.2.1 hdg hne (k H locs d ls h1 h2 h3 h4 h5)
theorem z_ineg (X : Cx G cy B ad0 f0 cc nL ret own p s m args meth c) {x : Int32} (hdg : decode cc pc = .ok (.ineg, 1))  (k : Z G B nL ad0 f0 p l e R s m args below meth c Q ad f cells slots (pc + 1) lv (.int (-x) :: st)) : Z G B nL ad0 f0 p l e R s m args below meth c Q ad f cells slots (pc) lv (.int x :: st) := fun H locs d ls h1 h2 h3 h4 h5 => lv_ineg X.1 X.2.1 hdg  (k H locs d ls h1 h2 h3 h4 h5)
theorem z_ladd (X : Cx G cy B ad0 f0 cc nL ret own p s m args meth c) {x y : Int64} (hdg : decode cc pc = .ok (.ladd, 1))  (k : Z G B nL ad0 f0 p l e R s m args below meth c Q ad f cells slots (pc + 1) lv (.long (x + y) :: st)) : Z G B nL ad0 f0 p l e R s m args below meth c Q ad f cells slots (pc) lv (.long y :: .long x :: st) := fun H locs d ls h1 h2 h3 h4 h5 => lv_ladd X.1 X.2.1 hdg  (k H locs d ls h1 h2 h3 h4 h5)
theorem z_lsub (X : Cx G cy B ad0 f0 cc nL ret own p s m args meth c) {x y : Int64} (hdg : decode cc pc = .ok (.lsub, 1))  (k : Z G B nL ad0 f0 p l e R s m args below meth c Q ad f cells slots (pc + 1) lv (.long (x - y) :: st)) : Z G B nL ad0 f0 p l e R s m args below meth c Q ad f cells slots (pc) lv (.long y :: .long x :: st) := fun H locs d ls h1 h2 h3 h4 h5 => lv_lsub X.1 X.2.1 hdg  (k H locs d ls h1 h2 h3 h4 h5)
theorem z_lmul (X : Cx G cy B ad0 f0 cc nL ret own p s m args meth c) {x y : Int64} (hdg : decode cc pc = .ok (.lmul, 1))  (k : Z G B nL ad0 f0 p l e R s m args below meth c Q ad f cells slots (pc + 1) lv (.long (x * y) :: st)) : Z G B nL ad0 f0 p l e R s m args below meth c Q ad f cells slots (pc) lv (.long y :: .long x :: st) := fun H locs d ls h1 h2 h3 h4 h5 => lv_lmul X.1 X.2.1 hdg  (k H locs d ls h1 h2 h3 h4 h5)
theorem z_land (X : Cx G cy B ad0 f0 cc nL ret own p s m args meth c) {x y : Int64} (hdg : decode cc pc = .ok (.land, 1))  (k : Z G B nL ad0 f0 p l e R s m args below meth c Q ad f cells slots (pc + 1) lv (.long (x &&& y) :: st)) : Z G B nL ad0 f0 p l e R s m args below meth c Q ad f cells slots (pc) lv (.long y :: .long x :: st) := fun H locs d ls h1 h2 h3 h4 h5 => lv_land X.1 X.2.1 hdg  (k H locs d ls h1 h2 h3 h4 h5)
theorem z_lor (X : Cx G cy B ad0 f0 cc nL ret own p s m args meth c) {x y : Int64} (hdg : decode cc pc = .ok (.lor, 1))  (k : Z G B nL ad0 f0 p l e R s m args below meth c Q ad f cells slots (pc + 1) lv (.long (x ||| y) :: st)) : Z G B nL ad0 f0 p l e R s m args below meth c Q ad f cells slots (pc) lv (.long y :: .long x :: st) := fun H locs d ls h1 h2 h3 h4 h5 => lv_lor X.1 X.2.1 hdg  (k H locs d ls h1 h2 h3 h4 h5)
theorem z_ldiv (X : Cx G cy B ad0 f0 cc nL ret own p s m args meth c) {x y : Int64} (hdg : decode cc pc = .ok (.ldiv, 1)) (hne : ¬ y = 0) (k : Z G B nL ad0 f0 p l e R s m args below meth c Q ad f cells slots (pc + 1) lv (.long (x / y) :: st)) : Z G B nL ad0 f0 p l e R s m args below meth c Q ad f cells slots (pc) lv (.long y :: .long x :: st) := fun H locs d ls h1 h2 h3 h4 h5 => lv_ldiv X.1 X.2.1 hdg hne (k H locs d ls h1 h2 h3 h4 h5)
theorem z_lrem (X : Cx G cy B ad0 f0 cc nL ret own p s m args meth c) {x y : Int64} (hdg : decode cc pc = .ok (.lrem, 1)) (hne : ¬ y = 0) (k : Z G B nL ad0 f0 p l e R s m args below meth c Q ad f cells slots (pc + 1) lv (.long (x - x / y * y) :: st)) : Z G B nL ad0 f0 p l e R s m args below meth c Q ad f cells slots (pc) lv (.long y :: .long x :: st) := fun H locs d ls h1 h2 h3 h4 h5 => lv_lrem X.1 X.2.1 hdg hne (k H locs d ls h1 h2 h3 h4 h5)
theorem z_lshl (X : Cx G cy B ad0 f0 cc nL ret own p s m args meth c) {x : Int64} {y : Int32} (hdg : decode cc pc = .ok (.lshl, 1))  (k : Z G B nL ad0 f0 p l e R s m args below meth c Q ad f cells slots (pc + 1) lv (.long (x <<< (y.toInt64 &&& 63)) :: st)) : Z G B nL ad0 f0 p l e R s m args below meth c Q ad f cells slots (pc) lv (.int y :: .long x :: st) := fun H locs d ls h1 h2 h3 h4 h5 => lv_lshl X.1 X.2.1 hdg rfl (k H locs d ls h1 h2 h3 h4 h5)
theorem z_i2l (X : Cx G cy B ad0 f0 cc nL ret own p s m args meth c) {x : Int32} (hdg : decode cc pc = .ok (.i2l, 1))  (k : Z G B nL ad0 f0 p l e R s m args below meth c Q ad f cells slots (pc + 1) lv (.long x.toInt64 :: st)) : Z G B nL ad0 f0 p l e R s m args below meth c Q ad f cells slots (pc) lv (.int x :: st) := fun H locs d ls h1 h2 h3 h4 h5 => lv_i2l X.1 X.2.1 hdg rfl (k H locs d ls h1 h2 h3 h4 h5)
theorem z_l2i (X : Cx G cy B ad0 f0 cc nL ret own p s m args meth c) {x : Int64} (hdg : decode cc pc = .ok (.l2i, 1))  (k : Z G B nL ad0 f0 p l e R s m args below meth c Q ad f cells slots (pc + 1) lv (.int x.toInt32 :: st)) : Z G B nL ad0 f0 p l e R s m args below meth c Q ad f cells slots (pc) lv (.long x :: st) := fun H locs d ls h1 h2 h3 h4 h5 => lv_l2i X.1 X.2.1 hdg rfl (k H locs d ls h1 h2 h3 h4 h5)
theorem z_i2c (X : Cx G cy B ad0 f0 cc nL ret own p s m args meth c) {x : Int32} (hdg : decode cc pc = .ok (.i2c, 1))  (k : Z G B nL ad0 f0 p l e R s m args below meth c Q ad f cells slots (pc + 1) lv (.int (x.toUInt32 % 65536).toInt32 :: st)) : Z G B nL ad0 f0 p l e R s m args below meth c Q ad f cells slots (pc) lv (.int x :: st) := fun H locs d ls h1 h2 h3 h4 h5 => lv_i2c X.1 X.2.1 hdg rfl (k H locs d ls h1 h2 h3 h4 h5)
theorem z_i2d (X : Cx G cy B ad0 f0 cc nL ret own p s m args meth c) {x : Int32} (hdg : decode cc pc = .ok (.i2d, 1))  (k : Z G B nL ad0 f0 p l e R s m args below meth c Q ad f cells slots (pc + 1) lv (.double (FP.i2d x) :: st)) : Z G B nL ad0 f0 p l e R s m args below meth c Q ad f cells slots (pc) lv (.int x :: st) := fun H locs d ls h1 h2 h3 h4 h5 => lv_i2d X.1 X.2.1 hdg  (k H locs d ls h1 h2 h3 h4 h5)
theorem z_l2d (X : Cx G cy B ad0 f0 cc nL ret own p s m args meth c) {x : Int64} (hdg : decode cc pc = .ok (.l2d, 1))  (k : Z G B nL ad0 f0 p l e R s m args below meth c Q ad f cells slots (pc + 1) lv (.double (FP.l2d x) :: st)) : Z G B nL ad0 f0 p l e R s m args below meth c Q ad f cells slots (pc) lv (.long x :: st) := fun H locs d ls h1 h2 h3 h4 h5 => lv_l2d X.1 X.2.1 hdg  (k H locs d ls h1 h2 h3 h4 h5)
theorem z_dup (X : Cx G cy B ad0 f0 cc nL ret own p s m args meth c) {va : Value} (hdg : decode cc pc = .ok (.dup, 1)) (hva : va.category = 1) (k : Z G B nL ad0 f0 p l e R s m args below meth c Q ad f cells slots (pc + 1) lv (va :: va :: st)) : Z G B nL ad0 f0 p l e R s m args below meth c Q ad f cells slots (pc) lv (va :: st) := fun H locs d ls h1 h2 h3 h4 h5 => lv_dup X.1 X.2.1 hdg hva (k H locs d ls h1 h2 h3 h4 h5)
theorem z_pop (X : Cx G cy B ad0 f0 cc nL ret own p s m args meth c) {va : Value} (hdg : decode cc pc = .ok (.pop, 1)) (hva : va.category = 1) (k : Z G B nL ad0 f0 p l e R s m args below meth c Q ad f cells slots (pc + 1) lv (st)) : Z G B nL ad0 f0 p l e R s m args below meth c Q ad f cells slots (pc) lv (va :: st) := fun H locs d ls h1 h2 h3 h4 h5 => lv_pop X.1 X.2.1 hdg hva (k H locs d ls h1 h2 h3 h4 h5)
theorem z_dup2_11 (X : Cx G cy B ad0 f0 cc nL ret own p s m args meth c) {va vb : Value} (hdg : decode cc pc = .ok (.dup2, 1)) (hva : va.category = 1) (hvb : vb.category = 1) (k : Z G B nL ad0 f0 p l e R s m args below meth c Q ad f cells slots (pc + 1) lv (va :: vb :: va :: vb :: st)) : Z G B nL ad0 f0 p l e R s m args below meth c Q ad f cells slots (pc) lv (va :: vb :: st) := fun H locs d ls h1 h2 h3 h4 h5 => lv_dup2_11 X.1 X.2.1 hdg hva hvb (k H locs d ls h1 h2 h3 h4 h5)
theorem z_null (X : Cx G cy B ad0 f0 cc nL ret own p s m args meth c)  (hdg : decode cc pc = .ok (.aconst_null, 1))  (k : Z G B nL ad0 f0 p l e R s m args below meth c Q ad f cells slots (pc + 1) lv (.null :: st)) : Z G B nL ad0 f0 p l e R s m args below meth c Q ad f cells slots (pc) lv (st) := fun H locs d ls h1 h2 h3 h4 h5 => lv_null X.1 X.2.1 hdg  (k H locs d ls h1 h2 h3 h4 h5)
theorem z_iconst (X : Cx G cy B ad0 f0 cc nL ret own p s m args meth c) {n : Int} {v : Int32} (hdg : decode cc pc = .ok (.iconst n, 1)) (hv : Int32.ofInt n = v) (k : Z G B nL ad0 f0 p l e R s m args below meth c Q ad f cells slots (pc + 1) lv (.int v :: st)) : Z G B nL ad0 f0 p l e R s m args below meth c Q ad f cells slots (pc) lv (st) := fun H locs d ls h1 h2 h3 h4 h5 => lv_iconst X.1 X.2.1 hdg hv (k H locs d ls h1 h2 h3 h4 h5)
theorem z_bipush (X : Cx G cy B ad0 f0 cc nL ret own p s m args meth c) {n : Int} {v : Int32} (hdg : decode cc pc = .ok (.bipush n, 2)) (hv : (Int8.ofInt n).toInt32 = v) (k : Z G B nL ad0 f0 p l e R s m args below meth c Q ad f cells slots (pc + 2) lv (.int v :: st)) : Z G B nL ad0 f0 p l e R s m args below meth c Q ad f cells slots (pc) lv (st) := fun H locs d ls h1 h2 h3 h4 h5 => lv_bipush X.1 X.2.1 hdg hv (k H locs d ls h1 h2 h3 h4 h5)
theorem z_sipush (X : Cx G cy B ad0 f0 cc nL ret own p s m args meth c) {n : Int} {v : Int32} (hdg : decode cc pc = .ok (.sipush n, 3)) (hv : (Int16.ofInt n).toInt32 = v) (k : Z G B nL ad0 f0 p l e R s m args below meth c Q ad f cells slots (pc + 3) lv (.int v :: st)) : Z G B nL ad0 f0 p l e R s m args below meth c Q ad f cells slots (pc) lv (st) := fun H locs d ls h1 h2 h3 h4 h5 => lv_sipush X.1 X.2.1 hdg hv (k H locs d ls h1 h2 h3 h4 h5)
theorem z_lconst (X : Cx G cy B ad0 f0 cc nL ret own p s m args meth c) {n : Fin 2} {v : Int64} (hdg : decode cc pc = .ok (.lconst n, 1)) (hv : Int64.ofNat (n : Nat) = v) (k : Z G B nL ad0 f0 p l e R s m args below meth c Q ad f cells slots (pc + 1) lv (.long v :: st)) : Z G B nL ad0 f0 p l e R s m args below meth c Q ad f cells slots (pc) lv (st) := fun H locs d ls h1 h2 h3 h4 h5 => lv_lconst X.1 X.2.1 hdg hv (k H locs d ls h1 h2 h3 h4 h5)
theorem z_dconst0 (X : Cx G cy B ad0 f0 cc nL ret own p s m args meth c)  (hdg : decode cc pc = .ok (.dconst 0, 1))  (k : Z G B nL ad0 f0 p l e R s m args below meth c Q ad f cells slots (pc + 1) lv (.double 0 :: st)) : Z G B nL ad0 f0 p l e R s m args below meth c Q ad f cells slots (pc) lv (st) := fun H locs d ls h1 h2 h3 h4 h5 => lv_dconst0 X.1 X.2.1 hdg  (k H locs d ls h1 h2 h3 h4 h5)
theorem z_dconst1 (X : Cx G cy B ad0 f0 cc nL ret own p s m args meth c)  (hdg : decode cc pc = .ok (.dconst 1, 1))  (k : Z G B nL ad0 f0 p l e R s m args below meth c Q ad f cells slots (pc + 1) lv (.double 4607182418800017408 :: st)) : Z G B nL ad0 f0 p l e R s m args below meth c Q ad f cells slots (pc) lv (st) := fun H locs d ls h1 h2 h3 h4 h5 => lv_dconst1 X.1 X.2.1 hdg  (k H locs d ls h1 h2 h3 h4 h5)
theorem z_ldc2 (X : Cx G cy B ad0 f0 cc nL ret own p s m args meth c) {index : Nat} {v : Int64} (hdg : decode cc pc = .ok (.ldc2_w index, 3)) (hw : Cond.constantLong own index v ∈ lw_all) (k : Z G B nL ad0 f0 p l e R s m args below meth c Q ad f cells slots (pc + 3) lv (.long v :: st)) : Z G B nL ad0 f0 p l e R s m args below meth c Q ad f cells slots (pc) lv (st) := fun H locs d ls h1 h2 h3 h4 h5 => lv_ldc2 X.1 X.2.1 X.2.2.2.1 (dr_words X.2.2.2.2.1 _ _ hw) hdg (k H locs d ls h1 h2 h3 h4 h5)
theorem z_ldc2d (X : Cx G cy B ad0 f0 cc nL ret own p s m args meth c) {index : Nat} {v : UInt64} (hdg : decode cc pc = .ok (.ldc2_w index, 3)) (hw : Cond.constantDouble own index v ∈ lw_all) (k : Z G B nL ad0 f0 p l e R s m args below meth c Q ad f cells slots (pc + 3) lv (.double v :: st)) : Z G B nL ad0 f0 p l e R s m args below meth c Q ad f cells slots (pc) lv (st) := fun H locs d ls h1 h2 h3 h4 h5 => lv_ldc2d X.1 X.2.1 X.2.2.2.1 (dr_words X.2.2.2.2.1 _ _ hw) hdg (k H locs d ls h1 h2 h3 h4 h5)
theorem z_iload_n (X : Cx G cy B ad0 f0 cc nL ret own p s m args meth c) (q : Nat) {k : Fin 4} {i : Nat} {x : Int32} (hdg : decode cc pc = .ok (.iload_n k, 1)) (hi : (k : Nat) = i) (hq : lv[q]? = some (i, .int x)) (k : Z G B nL ad0 f0 p l e R s m args below meth c Q ad f cells slots (pc + 1) lv (.int x :: st)) : Z G B nL ad0 f0 p l e R s m args below meth c Q ad f cells slots (pc) lv (st) := fun H locs d ls h1 h2 h3 h4 h5 => lv_iload_n X.1 X.2.1 hdg hi (lv_at h5 q hq) (k H locs d ls h1 h2 h3 h4 h5)
theorem z_iload (X : Cx G cy B ad0 f0 cc nL ret own p s m args meth c) (q : Nat) {i : Nat} {x : Int32} (hdg : decode cc pc = .ok (.iload i, 2)) (hq : lv[q]? = some (i, .int x)) (k : Z G B nL ad0 f0 p l e R s m args below meth c Q ad f cells slots (pc + 2) lv (.int x :: st)) : Z G B nL ad0 f0 p l e R s m args below meth c Q ad f cells slots (pc) lv (st) := fun H locs d ls h1 h2 h3 h4 h5 => lv_iload X.1 X.2.1 hdg (lv_at h5 q hq) (k H locs d ls h1 h2 h3 h4 h5)
theorem z_lload_n (X : Cx G cy B ad0 f0 cc nL ret own p s m args meth c) (q : Nat) {k : Fin 4} {i : Nat} {x : Int64} (hdg : decode cc pc = .ok (.lload_n k, 1)) (hi : (k : Nat) = i) (hq : lv[q]? = some (i, .long x)) (k : Z G B nL ad0 f0 p l e R s m args below meth c Q ad f cells slots (pc + 1) lv (.long x :: st)) : Z G B nL ad0 f0 p l e R s m args below meth c Q ad f cells slots (pc) lv (st) := fun H locs d ls h1 h2 h3 h4 h5 => lv_lload_n X.1 X.2.1 hdg hi (lv_at h5 q hq) (k H locs d ls h1 h2 h3 h4 h5)
theorem z_lload (X : Cx G cy B ad0 f0 cc nL ret own p s m args meth c) (q : Nat) {i : Nat} {x : Int64} (hdg : decode cc pc = .ok (.lload i, 2)) (hq : lv[q]? = some (i, .long x)) (k : Z G B nL ad0 f0 p l e R s m args below meth c Q ad f cells slots (pc + 2) lv (.long x :: st)) : Z G B nL ad0 f0 p l e R s m args below meth c Q ad f cells slots (pc) lv (st) := fun H locs d ls h1 h2 h3 h4 h5 => lv_lload X.1 X.2.1 hdg (lv_at h5 q hq) (k H locs d ls h1 h2 h3 h4 h5)
theorem z_dload_n (X : Cx G cy B ad0 f0 cc nL ret own p s m args meth c) (q : Nat) {k : Fin 4} {i : Nat} {x : UInt64} (hdg : decode cc pc = .ok (.dload_n k, 1)) (hi : (k : Nat) = i) (hq : lv[q]? = some (i, .double x)) (k : Z G B nL ad0 f0 p l e R s m args below meth c Q ad f cells slots (pc + 1) lv (.double x :: st)) : Z G B nL ad0 f0 p l e R s m args below meth c Q ad f cells slots (pc) lv (st) := fun H locs d ls h1 h2 h3 h4 h5 => lv_dload_n X.1 X.2.1 hdg hi (lv_at h5 q hq) (k H locs d ls h1 h2 h3 h4 h5)
theorem z_dload (X : Cx G cy B ad0 f0 cc nL ret own p s m args meth c) (q : Nat) {i : Nat} {x : UInt64} (hdg : decode cc pc = .ok (.dload i, 2)) (hq : lv[q]? = some (i, .double x)) (k : Z G B nL ad0 f0 p l e R s m args below meth c Q ad f cells slots (pc + 2) lv (.double x :: st)) : Z G B nL ad0 f0 p l e R s m args below meth c Q ad f cells slots (pc) lv (st) := fun H locs d ls h1 h2 h3 h4 h5 => lv_dload X.1 X.2.1 hdg (lv_at h5 q hq) (k H locs d ls h1 h2 h3 h4 h5)
theorem z_aload_n (X : Cx G cy B ad0 f0 cc nL ret own p s m args meth c) (q : Nat) {k : Fin 4} {i : Nat} {x : Nat} (hdg : decode cc pc = .ok (.aload_n k, 1)) (hi : (k : Nat) = i) (hq : lv[q]? = some (i, .ref x)) (k : Z G B nL ad0 f0 p l e R s m args below meth c Q ad f cells slots (pc + 1) lv (.ref x :: st)) : Z G B nL ad0 f0 p l e R s m args below meth c Q ad f cells slots (pc) lv (st) := fun H locs d ls h1 h2 h3 h4 h5 => lv_aload_n X.1 X.2.1 hdg hi (lv_at h5 q hq) (k H locs d ls h1 h2 h3 h4 h5)
theorem z_aload (X : Cx G cy B ad0 f0 cc nL ret own p s m args meth c) (q : Nat) {i : Nat} {x : Nat} (hdg : decode cc pc = .ok (.aload i, 2)) (hq : lv[q]? = some (i, .ref x)) (k : Z G B nL ad0 f0 p l e R s m args below meth c Q ad f cells slots (pc + 2) lv (.ref x :: st)) : Z G B nL ad0 f0 p l e R s m args below meth c Q ad f cells slots (pc) lv (st) := fun H locs d ls h1 h2 h3 h4 h5 => lv_aload X.1 X.2.1 hdg (lv_at h5 q hq) (k H locs d ls h1 h2 h3 h4 h5)
theorem z_aload_nN (X : Cx G cy B ad0 f0 cc nL ret own p s m args meth c) (q : Nat) {k : Fin 4} {i : Nat} (hdg : decode cc pc = .ok (.aload_n k, 1)) (hi : (k : Nat) = i) (hq : lv[q]? = some (i, .null)) (k : Z G B nL ad0 f0 p l e R s m args below meth c Q ad f cells slots (pc + 1) lv (.null :: st)) : Z G B nL ad0 f0 p l e R s m args below meth c Q ad f cells slots (pc) lv (st) := fun H locs d ls h1 h2 h3 h4 h5 => lv_aload_nN X.1 X.2.1 hdg hi (lv_at h5 q hq) (k H locs d ls h1 h2 h3 h4 h5)
theorem z_aloadN (X : Cx G cy B ad0 f0 cc nL ret own p s m args meth c) (q : Nat) {i : Nat} (hdg : decode cc pc = .ok (.aload i, 2)) (hq : lv[q]? = some (i, .null)) (k : Z G B nL ad0 f0 p l e R s m args below meth c Q ad f cells slots (pc + 2) lv (.null :: st)) : Z G B nL ad0 f0 p l e R s m args below meth c Q ad f cells slots (pc) lv (st) := fun H locs d ls h1 h2 h3 h4 h5 => lv_aloadN X.1 X.2.1 hdg (lv_at h5 q hq) (k H locs d ls h1 h2 h3 h4 h5)
theorem z_istore_n (X : Cx G cy B ad0 f0 cc nL ret own p s m args meth c) {lv' : List (Nat × Value)} {k : Fin 4} {i : Nat} {x : Int32} (hdg : decode cc pc = .ok (.istore_n k, 1)) (hi : (k : Nat) = i) (hn : i < nL) (hl : (i, Value.int x) :: lv.filter (fun q => !(q.1 == i) && !(q.1 + 1 == i && q.2.category == 2)) = lv') (k : Z G B nL ad0 f0 p l e R s m args below meth c Q ad f cells slots (pc + 1) lv' (st)) : Z G B nL ad0 f0 p l e R s m args below meth c Q ad f cells slots (pc) lv (.int x :: st) := fun H locs d ls h1 h2 h3 h4 h5 => lv_istore_n X.1 X.2.1 hdg hi h5 hn hl (fun ls h5 => k H locs d ls h1 h2 h3 h4 h5)
theorem z_istore (X : Cx G cy B ad0 f0 cc nL ret own p s m args meth c) {lv' : List (Nat × Value)} {i : Nat} {x : Int32} (hdg : decode cc pc = .ok (.istore i, 2))  (hn : i < nL) (hl : (i, Value.int x) :: lv.filter (fun q => !(q.1 == i) && !(q.1 + 1 == i && q.2.category == 2)) = lv') (k : Z G B nL ad0 f0 p l e R s m args below meth c Q ad f cells slots (pc + 2) lv' (st)) : Z G B nL ad0 f0 p l e R s m args below meth c Q ad f cells slots (pc) lv (.int x :: st) := fun H locs d ls h1 h2 h3 h4 h5 => lv_istore X.1 X.2.1 hdg h5 hn hl (fun ls h5 => k H locs d ls h1 h2 h3 h4 h5)
theorem z_lstore_n (X : Cx G cy B ad0 f0 cc nL ret own p s m args meth c) {lv' : List (Nat × Value)} {k : Fin 4} {i : Nat} {x : Int64} (hdg : decode cc pc = .ok (.lstore_n k, 1)) (hi : (k : Nat) = i) (hn : i + 1 < nL) (hl : (i, Value.long x) :: lv.filter (fun q => !(q.1 == i) && (!(q.1 == i + 1) && !(q.1 + 1 == i && q.2.category == 2))) = lv') (k : Z G B nL ad0 f0 p l e R s m args below meth c Q ad f cells slots (pc + 1) lv' (st)) : Z G B nL ad0 f0 p l e R s m args below meth c Q ad f cells slots (pc) lv (.long x :: st) := fun H locs d ls h1 h2 h3 h4 h5 => lv_lstore_n X.1 X.2.1 hdg hi h5 hn hl (fun ls h5 => k H locs d ls h1 h2 h3 h4 h5)
theorem z_lstore (X : Cx G cy B ad0 f0 cc nL ret own p s m args meth c) {lv' : List (Nat × Value)} {i : Nat} {x : Int64} (hdg : decode cc pc = .ok (.lstore i, 2))  (hn : i + 1 < nL) (hl : (i, Value.long x) :: lv.filter (fun q => !(q.1 == i) && (!(q.1 == i + 1) && !(q.1 + 1 == i && q.2.category == 2))) = lv') (k : Z G B nL ad0 f0 p l e R s m args below meth c Q ad f cells slots (pc + 2) lv' (st)) : Z G B nL ad0 f0 p l e R s m args below meth c Q ad f cells slots (pc) lv (.long x :: st) := fun H locs d ls h1 h2 h3 h4 h5 => lv_lstore X.1 X.2.1 hdg h5 hn hl (fun ls h5 => k H locs d ls h1 h2 h3 h4 h5)
theorem z_dstore_n (X : Cx G cy B ad0 f0 cc nL ret own p s m args meth c) {lv' : List (Nat × Value)} {k : Fin 4} {i : Nat} {x : UInt64} (hdg : decode cc pc = .ok (.dstore_n k, 1)) (hi : (k : Nat) = i) (hn : i + 1 < nL) (hl : (i, Value.double x) :: lv.filter (fun q => !(q.1 == i) && (!(q.1 == i + 1) && !(q.1 + 1 == i && q.2.category == 2))) = lv') (k : Z G B nL ad0 f0 p l e R s m args below meth c Q ad f cells slots (pc + 1) lv' (st)) : Z G B nL ad0 f0 p l e R s m args below meth c Q ad f cells slots (pc) lv (.double x :: st) := fun H locs d ls h1 h2 h3 h4 h5 => lv_dstore_n X.1 X.2.1 hdg hi h5 hn hl (fun ls h5 => k H locs d ls h1 h2 h3 h4 h5)
theorem z_dstore (X : Cx G cy B ad0 f0 cc nL ret own p s m args meth c) {lv' : List (Nat × Value)} {i : Nat} {x : UInt64} (hdg : decode cc pc = .ok (.dstore i, 2))  (hn : i + 1 < nL) (hl : (i, Value.double x) :: lv.filter (fun q => !(q.1 == i) && (!(q.1 == i + 1) && !(q.1 + 1 == i && q.2.category == 2))) = lv') (k : Z G B nL ad0 f0 p l e R s m args below meth c Q ad f cells slots (pc + 2) lv' (st)) : Z G B nL ad0 f0 p l e R s m args below meth c Q ad f cells slots (pc) lv (.double x :: st) := fun H locs d ls h1 h2 h3 h4 h5 => lv_dstore X.1 X.2.1 hdg h5 hn hl (fun ls h5 => k H locs d ls h1 h2 h3 h4 h5)
theorem z_astore_n (X : Cx G cy B ad0 f0 cc nL ret own p s m args meth c) {lv' : List (Nat × Value)} {k : Fin 4} {i : Nat} {x : Nat} (hdg : decode cc pc = .ok (.astore_n k, 1)) (hi : (k : Nat) = i) (hn : i < nL) (hl : (i, Value.ref x) :: lv.filter (fun q => !(q.1 == i) && !(q.1 + 1 == i && q.2.category == 2)) = lv') (k : Z G B nL ad0 f0 p l e R s m args below meth c Q ad f cells slots (pc + 1) lv' (st)) : Z G B nL ad0 f0 p l e R s m args below meth c Q ad f cells slots (pc) lv (.ref x :: st) := fun H locs d ls h1 h2 h3 h4 h5 => lv_astore_n X.1 X.2.1 hdg hi h5 hn hl (fun ls h5 => k H locs d ls h1 h2 h3 h4 h5)
theorem z_astore (X : Cx G cy B ad0 f0 cc nL ret own p s m args meth c) {lv' : List (Nat × Value)} {i : Nat} {x : Nat} (hdg : decode cc pc = .ok (.astore i, 2))  (hn : i < nL) (hl : (i, Value.ref x) :: lv.filter (fun q => !(q.1 == i) && !(q.1 + 1 == i && q.2.category == 2)) = lv') (k : Z G B nL ad0 f0 p l e R s m args below meth c Q ad f cells slots (pc + 2) lv' (st)) : Z G B nL ad0 f0 p l e R s m args below meth c Q ad f cells slots (pc) lv (.ref x :: st) := fun H locs d ls h1 h2 h3 h4 h5 => lv_astore X.1 X.2.1 hdg h5 hn hl (fun ls h5 => k H locs d ls h1 h2 h3 h4 h5)
theorem z_astore_nN (X : Cx G cy B ad0 f0 cc nL ret own p s m args meth c) {lv' : List (Nat × Value)} {k : Fin 4} {i : Nat} (hdg : decode cc pc = .ok (.astore_n k, 1)) (hi : (k : Nat) = i) (hn : i < nL) (hl : (i, Value.null) :: lv.filter (fun q => !(q.1 == i) && !(q.1 + 1 == i && q.2.category == 2)) = lv') (k : Z G B nL ad0 f0 p l e R s m args below meth c Q ad f cells slots (pc + 1) lv' (st)) : Z G B nL ad0 f0 p l e R s m args below meth c Q ad f cells slots (pc) lv (.null :: st) := fun H locs d ls h1 h2 h3 h4 h5 => lv_astore_nN X.1 X.2.1 hdg hi h5 hn hl (fun ls h5 => k H locs d ls h1 h2 h3 h4 h5)
theorem z_astoreN (X : Cx G cy B ad0 f0 cc nL ret own p s m args meth c) {lv' : List (Nat × Value)} {i : Nat} (hdg : decode cc pc = .ok (.astore i, 2))  (hn : i < nL) (hl : (i, Value.null) :: lv.filter (fun q => !(q.1 == i) && !(q.1 + 1 == i && q.2.category == 2)) = lv') (k : Z G B nL ad0 f0 p l e R s m args below meth c Q ad f cells slots (pc + 2) lv' (st)) : Z G B nL ad0 f0 p l e R s m args below meth c Q ad f cells slots (pc) lv (.null :: st) := fun H locs d ls h1 h2 h3 h4 h5 => lv_astoreN X.1 X.2.1 hdg h5 hn hl (fun ls h5 => k H locs d ls h1 h2 h3 h4 h5)
theorem z_iinc (X : Cx G cy B ad0 f0 cc nL ret own p s m args meth c) (q : Nat) {lv' : List (Nat × Value)} {i : Nat} {n : Int} {x v : Int32} (hdg : decode cc pc = .ok (.iinc i n, 3)) (hq : lv[q]? = some (i, .int x)) (hv : x + Int32.ofInt n = v) (hn : i < nL) (hl : (i, Value.int v) :: lv.filter (fun q => !(q.1 == i) && !(q.1 + 1 == i && q.2.category == 2)) = lv') (k : Z G B nL ad0 f0 p l e R s m args below meth c Q ad f cells slots (pc + 3) lv' (st)) : Z G B nL ad0 f0 p l e R s m args below meth c Q ad f cells slots (pc) lv (st) := fun H locs d ls h1 h2 h3 h4 h5 => lv_iinc X.1 X.2.1 hdg h5 hq hv hn hl (fun ls h5 => k H locs d ls h1 h2 h3 h4 h5)
theorem z_lv {lv' : List (Nat × Value)} (ks : List Nat) (hl : lv_pick lv ks = lv') (k : Z G B nL ad0 f0 p l e R s m args below meth c Q ad f cells slots (pc) lv' (st)) : Z G B nL ad0 f0 p l e R s m args below meth c Q ad f cells slots (pc) lv (st) := fun H locs d ls h1 h2 h3 h4 h5 => k H locs d ls h1 h2 h3 h4 (lv_sub h5 ks hl)
theorem z_widen {cells' slots' : Nat} (w1 : cells ≤ cells') (w2 : slots ≤ slots') (k : Z G B nL ad0 f0 p l e R s m args below meth c Q ad f cells' slots' (pc) lv (st)) : Z G B nL ad0 f0 p l e R s m args below meth c Q ad f cells slots (pc) lv (st) := fun H locs d ls h1 h2 h3 h4 h5 => W.widen w1 w2 (k H locs d ls h1 h2 h3 h4 h5)
theorem z_if_eq (X : Cx G cy B ad0 f0 cc nL ret own p s m args meth c) {x : Int32} {off : Int} {tgt : Nat} (hdg : decode cc pc = .ok (.ifCond .eq off, 3)) (ht : (pc : Int) + off = (tgt : Int)) (kt : x = 0 → Z G B nL ad0 f0 p l e R s m args below meth c Q ad f cells slots (tgt) lv (st)) (kf : ¬ (x = 0) → Z G B nL ad0 f0 p l e R s m args below meth c Q ad f cells slots (pc + 3) lv (st)) : Z G B nL ad0 f0 p l e R s m args below meth c Q ad f cells slots (pc) lv (.int x :: st) := fun H locs d ls h1 h2 h3 h4 h5 => lv_if_eq X.1 X.2.1 hdg ht (fun z => kt z H locs d ls h1 h2 h3 h4 h5) (fun z => kf z H locs d ls h1 h2 h3 h4 h5)
theorem z_icmp_eq (X : Cx G cy B ad0 f0 cc nL ret own p s m args meth c) {x y : Int32} {off : Int} {tgt : Nat} (hdg : decode cc pc = .ok (.if_icmp .eq off, 3)) (ht : (pc : Int) + off = (tgt : Int)) (kt : x = y → Z G B nL ad0 f0 p l e R s m args below meth c Q ad f cells slots (tgt) lv (st)) (kf : ¬ (x = y) → Z G B nL ad0 f0 p l e R s m args below meth c Q ad f cells slots (pc + 3) lv (st)) : Z G B nL ad0 f0 p l e R s m args below meth c Q ad f cells slots (pc) lv (.int y :: .int x :: st) := fun H locs d ls h1 h2 h3 h4 h5 => lv_icmp_eq X.1 X.2.1 hdg ht (fun z => kt z H locs d ls h1 h2 h3 h4 h5) (fun z => kf z H locs d ls h1 h2 h3 h4 h5)
theorem z_if_ne (X : Cx G cy B ad0 f0 cc nL ret own p s m args meth c) {x : Int32} {off : Int} {tgt : Nat} (hdg : decode cc pc = .ok (.ifCond .ne off, 3)) (ht : (pc : Int) + off = (tgt : Int)) (kt : x ≠ 0 → Z G B nL ad0 f0 p l e R s m args below meth c Q ad f cells slots (tgt) lv (st)) (kf : x = 0 → Z G B nL ad0 f0 p l e R s m args below meth c Q ad f cells slots (pc + 3) lv (st)) : Z G B nL ad0 f0 p l e R s m args below meth c Q ad f cells slots (pc) lv (.int x :: st) := fun H locs d ls h1 h2 h3 h4 h5 => lv_if_ne X.1 X.2.1 hdg ht (fun z => kt z H locs d ls h1 h2 h3 h4 h5) (fun z => kf z H locs d ls h1 h2 h3 h4 h5)
theorem z_icmp_ne (X : Cx G cy B ad0 f0 cc nL ret own p s m args meth c) {x y : Int32} {off : Int} {tgt : Nat} (hdg : decode cc pc = .ok (.if_icmp .ne off, 3)) (ht : (pc : Int) + off = (tgt : Int)) (kt : x ≠ y → Z G B nL ad0 f0 p l e R s m args below meth c Q ad f cells slots (tgt) lv (st)) (kf : x = y → Z G B nL ad0 f0 p l e R s m args below meth c Q ad f cells slots (pc + 3) lv (st)) : Z G B nL ad0 f0 p l e R s m args below meth c Q ad f cells slots (pc) lv (.int y :: .int x :: st) := fun H locs d ls h1 h2 h3 h4 h5 => lv_icmp_ne X.1 X.2.1 hdg ht (fun z => kt z H locs d ls h1 h2 h3 h4 h5) (fun z => kf z H locs d ls h1 h2 h3 h4 h5)
theorem z_if_lt (X : Cx G cy B ad0 f0 cc nL ret own p s m args meth c) {x : Int32} {off : Int} {tgt : Nat} (hdg : decode cc pc = .ok (.ifCond .lt off, 3)) (ht : (pc : Int) + off = (tgt : Int)) (kt : x < 0 → Z G B nL ad0 f0 p l e R s m args below meth c Q ad f cells slots (tgt) lv (st)) (kf : ¬ (x < 0) → Z G B nL ad0 f0 p l e R s m args below meth c Q ad f cells slots (pc + 3) lv (st)) : Z G B nL ad0 f0 p l e R s m args below meth c Q ad f cells slots (pc) lv (.int x :: st) := fun H locs d ls h1 h2 h3 h4 h5 => lv_if_lt X.1 X.2.1 hdg ht (fun z => kt z H locs d ls h1 h2 h3 h4 h5) (fun z => kf z H locs d ls h1 h2 h3 h4 h5)
theorem z_icmp_lt (X : Cx G cy B ad0 f0 cc nL ret own p s m args meth c) {x y : Int32} {off : Int} {tgt : Nat} (hdg : decode cc pc = .ok (.if_icmp .lt off, 3)) (ht : (pc : Int) + off = (tgt : Int)) (kt : x < y → Z G B nL ad0 f0 p l e R s m args below meth c Q ad f cells slots (tgt) lv (st)) (kf : ¬ (x < y) → Z G B nL ad0 f0 p l e R s m args below meth c Q ad f cells slots (pc + 3) lv (st)) : Z G B nL ad0 f0 p l e R s m args below meth c Q ad f cells slots (pc) lv (.int y :: .int x :: st) := fun H locs d ls h1 h2 h3 h4 h5 => lv_icmp_lt X.1 X.2.1 hdg ht (fun z => kt z H locs d ls h1 h2 h3 h4 h5) (fun z => kf z H locs d ls h1 h2 h3 h4 h5)
theorem z_if_ge (X : Cx G cy B ad0 f0 cc nL ret own p s m args meth c) {x : Int32} {off : Int} {tgt : Nat} (hdg : decode cc pc = .ok (.ifCond .ge off, 3)) (ht : (pc : Int) + off = (tgt : Int)) (kt : 0 ≤ x → Z G B nL ad0 f0 p l e R s m args below meth c Q ad f cells slots (tgt) lv (st)) (kf : ¬ (0 ≤ x) → Z G B nL ad0 f0 p l e R s m args below meth c Q ad f cells slots (pc + 3) lv (st)) : Z G B nL ad0 f0 p l e R s m args below meth c Q ad f cells slots (pc) lv (.int x :: st) := fun H locs d ls h1 h2 h3 h4 h5 => lv_if_ge X.1 X.2.1 hdg ht (fun z => kt z H locs d ls h1 h2 h3 h4 h5) (fun z => kf z H locs d ls h1 h2 h3 h4 h5)
theorem z_icmp_ge (X : Cx G cy B ad0 f0 cc nL ret own p s m args meth c) {x y : Int32} {off : Int} {tgt : Nat} (hdg : decode cc pc = .ok (.if_icmp .ge off, 3)) (ht : (pc : Int) + off = (tgt : Int)) (kt : y ≤ x → Z G B nL ad0 f0 p l e R s m args below meth c Q ad f cells slots (tgt) lv (st)) (kf : ¬ (y ≤ x) → Z G B nL ad0 f0 p l e R s m args below meth c Q ad f cells slots (pc + 3) lv (st)) : Z G B nL ad0 f0 p l e R s m args below meth c Q ad f cells slots (pc) lv (.int y :: .int x :: st) := fun H locs d ls h1 h2 h3 h4 h5 => lv_icmp_ge X.1 X.2.1 hdg ht (fun z => kt z H locs d ls h1 h2 h3 h4 h5) (fun z => kf z H locs d ls h1 h2 h3 h4 h5)
theorem z_if_gt (X : Cx G cy B ad0 f0 cc nL ret own p s m args meth c) {x : Int32} {off : Int} {tgt : Nat} (hdg : decode cc pc = .ok (.ifCond .gt off, 3)) (ht : (pc : Int) + off = (tgt : Int)) (kt : 0 < x → Z G B nL ad0 f0 p l e R s m args below meth c Q ad f cells slots (tgt) lv (st)) (kf : ¬ (0 < x) → Z G B nL ad0 f0 p l e R s m args below meth c Q ad f cells slots (pc + 3) lv (st)) : Z G B nL ad0 f0 p l e R s m args below meth c Q ad f cells slots (pc) lv (.int x :: st) := fun H locs d ls h1 h2 h3 h4 h5 => lv_if_gt X.1 X.2.1 hdg ht (fun z => kt z H locs d ls h1 h2 h3 h4 h5) (fun z => kf z H locs d ls h1 h2 h3 h4 h5)
theorem z_icmp_gt (X : Cx G cy B ad0 f0 cc nL ret own p s m args meth c) {x y : Int32} {off : Int} {tgt : Nat} (hdg : decode cc pc = .ok (.if_icmp .gt off, 3)) (ht : (pc : Int) + off = (tgt : Int)) (kt : y < x → Z G B nL ad0 f0 p l e R s m args below meth c Q ad f cells slots (tgt) lv (st)) (kf : ¬ (y < x) → Z G B nL ad0 f0 p l e R s m args below meth c Q ad f cells slots (pc + 3) lv (st)) : Z G B nL ad0 f0 p l e R s m args below meth c Q ad f cells slots (pc) lv (.int y :: .int x :: st) := fun H locs d ls h1 h2 h3 h4 h5 => lv_icmp_gt X.1 X.2.1 hdg ht (fun z => kt z H locs d ls h1 h2 h3 h4 h5) (fun z => kf z H locs d ls h1 h2 h3 h4 h5)
theorem z_if_le (X : Cx G cy B ad0 f0 cc nL ret own p s m args meth c) {x : Int32} {off : Int} {tgt : Nat} (hdg : decode cc pc = .ok (.ifCond .le off, 3)) (ht : (pc : Int) + off = (tgt : Int)) (kt : x ≤ 0 → Z G B nL ad0 f0 p l e R s m args below meth c Q ad f cells slots (tgt) lv (st)) (kf : ¬ (x ≤ 0) → Z G B nL ad0 f0 p l e R s m args below meth c Q ad f cells slots (pc + 3) lv (st)) : Z G B nL ad0 f0 p l e R s m args below meth c Q ad f cells slots (pc) lv (.int x :: st) := fun H locs d ls h1 h2 h3 h4 h5 => lv_if_le X.1 X.2.1 hdg ht (fun z => kt z H locs d ls h1 h2 h3 h4 h5) (fun z => kf z H locs d ls h1 h2 h3 h4 h5)
theorem z_icmp_le (X : Cx G cy B ad0 f0 cc nL ret own p s m args meth c) {x y : Int32} {off : Int} {tgt : Nat} (hdg : decode cc pc = .ok (.if_icmp .le off, 3)) (ht : (pc : Int) + off = (tgt : Int)) (kt : x ≤ y → Z G B nL ad0 f0 p l e R s m args below meth c Q ad f cells slots (tgt) lv (st)) (kf : ¬ (x ≤ y) → Z G B nL ad0 f0 p l e R s m args below meth c Q ad f cells slots (pc + 3) lv (st)) : Z G B nL ad0 f0 p l e R s m args below meth c Q ad f cells slots (pc) lv (.int y :: .int x :: st) := fun H locs d ls h1 h2 h3 h4 h5 => lv_icmp_le X.1 X.2.1 hdg ht (fun z => kt z H locs d ls h1 h2 h3 h4 h5) (fun z => kf z H locs d ls h1 h2 h3 h4 h5)
theorem z_goto (X : Cx G cy B ad0 f0 cc nL ret own p s m args meth c) {off : Int} {tgt : Nat} (hdg : decode cc pc = .ok (.goto off, 3)) (ht : (pc : Int) + off = (tgt : Int)) (k : Z G B nL ad0 f0 p l e R s m args below meth c Q ad f cells slots (tgt) lv (st)) : Z G B nL ad0 f0 p l e R s m args below meth c Q ad f cells slots (pc) lv (st) := fun H locs d ls h1 h2 h3 h4 h5 => lv_goto X.1 X.2.1 hdg ht (k H locs d ls h1 h2 h3 h4 h5)
theorem z_cgt (x y : Int64) : 0 < lg_cmp x y ↔ y < x := by
  unfold lg_cmp
  by_cases h1 : y < x
  · simp [h1]
  · by_cases h2 : x = y <;> simp [h1, h2]
theorem z_ceq (x y : Int64) : lg_cmp x y = 0 ↔ x = y := by
  unfold lg_cmp
  by_cases h1 : y < x
  · have : ¬ x = y := fun h => by subst h; exact absurd h1 Int64.lt_irrefl
    simp [h1, this]
  · by_cases h2 : x = y <;> simp [h1, h2]
theorem z_cle (x y : Int64) : lg_cmp x y ≤ 0 ↔ x ≤ y := by
  rw [← Int32.not_lt, z_cgt, Int64.not_lt]
theorem z_clt (x y : Int64) : lg_cmp x y < 0 ↔ x < y := by
  have h := z_cgt x y
  have h2 := z_ceq x y
  rw [Int32.lt_iff_toInt_lt] at h ⊢
  rw [← Int32.toInt_inj] at h2
  rw [Int64.lt_iff_toInt_lt] at h ⊢
  rw [← Int64.toInt_inj] at h2
  simp only [Int32.toInt_zero] at h h2 ⊢
  omega
theorem z_cge (x y : Int64) : 0 ≤ lg_cmp x y ↔ y ≤ x := by
  rw [← Int32.not_lt, z_clt, Int64.not_lt]
theorem z_lcmp_gt (X : Cx G cy B ad0 f0 cc nL ret own p s m args meth c) {x y : Int64} {off : Int} {tgt : Nat} (hdg : decode cc pc = .ok (.lcmp, 1)) (hdg2 : decode cc (pc + 1) = .ok (.ifCond .gt off, 3)) (ht : ((pc + 1 : Nat) : Int) + off = (tgt : Int)) (kt : y < x → Z G B nL ad0 f0 p l e R s m args below meth c Q ad f cells slots (tgt) lv (st)) (kf : ¬ (y < x) → Z G B nL ad0 f0 p l e R s m args below meth c Q ad f cells slots (pc + 4) lv (st)) : Z G B nL ad0 f0 p l e R s m args below meth c Q ad f cells slots (pc) lv (.long y :: .long x :: st) := fun H locs d ls h1 h2 h3 h4 h5 => W.lcmp X.1 X.2.1 hdg (lv_if_gt X.1 X.2.1 hdg2 ht (fun z => kt ((z_cgt x y).mp z) H locs d ls h1 h2 h3 h4 h5) (fun z => kf (fun w => z ((z_cgt x y).mpr w)) H locs d ls h1 h2 h3 h4 h5))
theorem z_lcmp_le (X : Cx G cy B ad0 f0 cc nL ret own p s m args meth c) {x y : Int64} {off : Int} {tgt : Nat} (hdg : decode cc pc = .ok (.lcmp, 1)) (hdg2 : decode cc (pc + 1) = .ok (.ifCond .le off, 3)) (ht : ((pc + 1 : Nat) : Int) + off = (tgt : Int)) (kt : x ≤ y → Z G B nL ad0 f0 p l e R s m args below meth c Q ad f cells slots (tgt) lv (st)) (kf : ¬ (x ≤ y) → Z G B nL ad0 f0 p l e R s m args below meth c Q ad f cells slots (pc + 4) lv (st)) : Z G B nL ad0 f0 p l e R s m args below meth c Q ad f cells slots (pc) lv (.long y :: .long x :: st) := fun H locs d ls h1 h2 h3 h4 h5 => W.lcmp X.1 X.2.1 hdg (lv_if_le X.1 X.2.1 hdg2 ht (fun z => kt ((z_cle x y).mp z) H locs d ls h1 h2 h3 h4 h5) (fun z => kf (fun w => z ((z_cle x y).mpr w)) H locs d ls h1 h2 h3 h4 h5))
theorem z_lcmp_ge (X : Cx G cy B ad0 f0 cc nL ret own p s m args meth c) {x y : Int64} {off : Int} {tgt : Nat} (hdg : decode cc pc = .ok (.lcmp, 1)) (hdg2 : decode cc (pc + 1) = .ok (.ifCond .ge off, 3)) (ht : ((pc + 1 : Nat) : Int) + off = (tgt : Int)) (kt : y ≤ x → Z G B nL ad0 f0 p l e R s m args below meth c Q ad f cells slots (tgt) lv (st)) (kf : ¬ (y ≤ x) → Z G B nL ad0 f0 p l e R s m args below meth c Q ad f cells slots (pc + 4) lv (st)) : Z G B nL ad0 f0 p l e R s m args below meth c Q ad f cells slots (pc) lv (.long y :: .long x :: st) := fun H locs d ls h1 h2 h3 h4 h5 => W.lcmp X.1 X.2.1 hdg (lv_if_ge X.1 X.2.1 hdg2 ht (fun z => kt ((z_cge x y).mp z) H locs d ls h1 h2 h3 h4 h5) (fun z => kf (fun w => z ((z_cge x y).mpr w)) H locs d ls h1 h2 h3 h4 h5))
theorem z_lcmp_eq (X : Cx G cy B ad0 f0 cc nL ret own p s m args meth c) {x y : Int64} {off : Int} {tgt : Nat} (hdg : decode cc pc = .ok (.lcmp, 1)) (hdg2 : decode cc (pc + 1) = .ok (.ifCond .eq off, 3)) (ht : ((pc + 1 : Nat) : Int) + off = (tgt : Int)) (kt : x = y → Z G B nL ad0 f0 p l e R s m args below meth c Q ad f cells slots (tgt) lv (st)) (kf : ¬ (x = y) → Z G B nL ad0 f0 p l e R s m args below meth c Q ad f cells slots (pc + 4) lv (st)) : Z G B nL ad0 f0 p l e R s m args below meth c Q ad f cells slots (pc) lv (.long y :: .long x :: st) := fun H locs d ls h1 h2 h3 h4 h5 => W.lcmp X.1 X.2.1 hdg (lv_if_eq X.1 X.2.1 hdg2 ht (fun z => kt ((z_ceq x y).mp z) H locs d ls h1 h2 h3 h4 h5) (fun z => kf (fun w => z ((z_ceq x y).mpr w)) H locs d ls h1 h2 h3 h4 h5))
theorem z_lcmp_lt (X : Cx G cy B ad0 f0 cc nL ret own p s m args meth c) {x y : Int64} {off : Int} {tgt : Nat} (hdg : decode cc pc = .ok (.lcmp, 1)) (hdg2 : decode cc (pc + 1) = .ok (.ifCond .lt off, 3)) (ht : ((pc + 1 : Nat) : Int) + off = (tgt : Int)) (kt : x < y → Z G B nL ad0 f0 p l e R s m args below meth c Q ad f cells slots (tgt) lv (st)) (kf : ¬ (x < y) → Z G B nL ad0 f0 p l e R s m args below meth c Q ad f cells slots (pc + 4) lv (st)) : Z G B nL ad0 f0 p l e R s m args below meth c Q ad f cells slots (pc) lv (.long y :: .long x :: st) := fun H locs d ls h1 h2 h3 h4 h5 => W.lcmp X.1 X.2.1 hdg (lv_if_lt X.1 X.2.1 hdg2 ht (fun z => kt ((z_clt x y).mp z) H locs d ls h1 h2 h3 h4 h5) (fun z => kf (fun w => z ((z_clt x y).mpr w)) H locs d ls h1 h2 h3 h4 h5))
/-- x ≥ y, x ≤ y, x > y, x = y of doubles (false of a NaN) -/
def dGe (x y : UInt64) : Bool := match FP.dcmp x y with
  | some .gt => true
  | some .eq => true
  | _ => false
def dLe (x y : UInt64) : Bool := match FP.dcmp x y with
  | some .lt => true
  | some .eq => true
  | _ => false
def dGt (x y : UInt64) : Bool := match FP.dcmp x y with
  | some .gt => true
  | _ => false
def dEq (x y : UInt64) : Bool := match FP.dcmp x y with
  | some .eq => true
  | _ => false
theorem z_dlt (x y : UInt64) : Op.cmpValue (FP.dcmp x y) .l < 0 ↔ dGe x y = false := by
  unfold dGe
  rcases h : FP.dcmp x y with _ | (_ | _ | _) <;> simp <;> decide
theorem z_dgt (x y : UInt64) : 0 < Op.cmpValue (FP.dcmp x y) .g ↔ dLe x y = false := by
  unfold dLe
  rcases h : FP.dcmp x y with _ | (_ | _ | _) <;> simp <;> decide
theorem z_dle (x y : UInt64) : Op.cmpValue (FP.dcmp x y) .l ≤ 0 ↔ dGt x y = false := by
  unfold dGt
  rcases h : FP.dcmp x y with _ | (_ | _ | _) <;> simp <;> decide
theorem z_deq (x y : UInt64) : Op.cmpValue (FP.dcmp x y) .l = 0 ↔ dEq x y = true := by
  unfold dEq
  rcases h : FP.dcmp x y with _ | (_ | _ | _) <;> simp <;> decide
theorem z_bnf {b : Bool} {P : Prop} (h : P ↔ b = false) (n : ¬ P) : b = true := by
  cases b with
  | true => rfl
  | false => exact absurd (h.mpr rfl) n
theorem z_bnt {b : Bool} {P : Prop} (h : P ↔ b = true) (n : ¬ P) : b = false := by
  cases b with
  | false => rfl
  | true => exact absurd (h.mpr rfl) n
theorem z_dcmp_lt (X : Cx G cy B ad0 f0 cc nL ret own p s m args meth c) {x y : UInt64} {off : Int} {tgt : Nat} (hdg : decode cc pc = .ok (.dcmp .l, 1)) (hdg2 : decode cc (pc + 1) = .ok (.ifCond .lt off, 3)) (ht : ((pc + 1 : Nat) : Int) + off = (tgt : Int)) (kt : dGe x y = false → Z G B nL ad0 f0 p l e R s m args below meth c Q ad f cells slots (tgt) lv (st)) (kf : dGe x y = true → Z G B nL ad0 f0 p l e R s m args below meth c Q ad f cells slots (pc + 4) lv (st)) : Z G B nL ad0 f0 p l e R s m args below meth c Q ad f cells slots (pc) lv (.double y :: .double x :: st) := fun H locs d ls h1 h2 h3 h4 h5 => lv_dcmp X.1 X.2.1 hdg (lv_if_lt X.1 X.2.1 hdg2 ht (fun z => kt ((z_dlt x y).mp z) H locs d ls h1 h2 h3 h4 h5) (fun z => kf (z_bnf (z_dlt x y) z) H locs d ls h1 h2 h3 h4 h5))
theorem z_dcmp_gt (X : Cx G cy B ad0 f0 cc nL ret own p s m args meth c) {x y : UInt64} {off : Int} {tgt : Nat} (hdg : decode cc pc = .ok (.dcmp .g, 1)) (hdg2 : decode cc (pc + 1) = .ok (.ifCond .gt off, 3)) (ht : ((pc + 1 : Nat) : Int) + off = (tgt : Int)) (kt : dLe x y = false → Z G B nL ad0 f0 p l e R s m args below meth c Q ad f cells slots (tgt) lv (st)) (kf : dLe x y = true → Z G B nL ad0 f0 p l e R s m args below meth c Q ad f cells slots (pc + 4) lv (st)) : Z G B nL ad0 f0 p l e R s m args below meth c Q ad f cells slots (pc) lv (.double y :: .double x :: st) := fun H locs d ls h1 h2 h3 h4 h5 => lv_dcmp X.1 X.2.1 hdg (lv_if_gt X.1 X.2.1 hdg2 ht (fun z => kt ((z_dgt x y).mp z) H locs d ls h1 h2 h3 h4 h5) (fun z => kf (z_bnf (z_dgt x y) z) H locs d ls h1 h2 h3 h4 h5))
theorem z_dcmp_le (X : Cx G cy B ad0 f0 cc nL ret own p s m args meth c) {x y : UInt64} {off : Int} {tgt : Nat} (hdg : decode cc pc = .ok (.dcmp .l, 1)) (hdg2 : decode cc (pc + 1) = .ok (.ifCond .le off, 3)) (ht : ((pc + 1 : Nat) : Int) + off = (tgt : Int)) (kt : dGt x y = false → Z G B nL ad0 f0 p l e R s m args below meth c Q ad f cells slots (tgt) lv (st)) (kf : dGt x y = true → Z G B nL ad0 f0 p l e R s m args below meth c Q ad f cells slots (pc + 4) lv (st)) : Z G B nL ad0 f0 p l e R s m args below meth c Q ad f cells slots (pc) lv (.double y :: .double x :: st) := fun H locs d ls h1 h2 h3 h4 h5 => lv_dcmp X.1 X.2.1 hdg (lv_if_le X.1 X.2.1 hdg2 ht (fun z => kt ((z_dle x y).mp z) H locs d ls h1 h2 h3 h4 h5) (fun z => kf (z_bnf (z_dle x y) z) H locs d ls h1 h2 h3 h4 h5))
theorem z_dcmp_eq (X : Cx G cy B ad0 f0 cc nL ret own p s m args meth c) {x y : UInt64} {off : Int} {tgt : Nat} (hdg : decode cc pc = .ok (.dcmp .l, 1)) (hdg2 : decode cc (pc + 1) = .ok (.ifCond .eq off, 3)) (ht : ((pc + 1 : Nat) : Int) + off = (tgt : Int)) (kt : dEq x y = true → Z G B nL ad0 f0 p l e R s m args below meth c Q ad f cells slots (tgt) lv (st)) (kf : dEq x y = false → Z G B nL ad0 f0 p l e R s m args below meth c Q ad f cells slots (pc + 4) lv (st)) : Z G B nL ad0 f0 p l e R s m args below meth c Q ad f cells slots (pc) lv (.double y :: .double x :: st) := fun H locs d ls h1 h2 h3 h4 h5 => lv_dcmp X.1 X.2.1 hdg (lv_if_eq X.1 X.2.1 hdg2 ht (fun z => kt ((z_deq x y).mp z) H locs d ls h1 h2 h3 h4 h5) (fun z => kf (z_bnt (z_deq x y) z) H locs d ls h1 h2 h3 h4 h5))
theorem z_dcmp_ne (X : Cx G cy B ad0 f0 cc nL ret own p s m args meth c) {x y : UInt64} {off : Int} {tgt : Nat} (hdg : decode cc pc = .ok (.dcmp .l, 1)) (hdg2 : decode cc (pc + 1) = .ok (.ifCond .ne off, 3)) (ht : ((pc + 1 : Nat) : Int) + off = (tgt : Int)) (kt : dEq x y = false → Z G B nL ad0 f0 p l e R s m args below meth c Q ad f cells slots (tgt) lv (st)) (kf : dEq x y = true → Z G B nL ad0 f0 p l e R s m args below meth c Q ad f cells slots (pc + 4) lv (st)) : Z G B nL ad0 f0 p l e R s m args below meth c Q ad f cells slots (pc) lv (.double y :: .double x :: st) := fun H locs d ls h1 h2 h3 h4 h5 => lv_dcmp X.1 X.2.1 hdg (lv_if_ne X.1 X.2.1 hdg2 ht (fun z => kt (z_bnt (z_deq x y) z) H locs d ls h1 h2 h3 h4 h5) (fun z => kf ((z_deq x y).mp z) H locs d ls h1 h2 h3 h4 h5))
theorem z_ifnull (X : Cx G cy B ad0 f0 cc nL ret own p s m args meth c) {x : Nat} {off : Int} (hdg : decode cc pc = .ok (.ifnull off, 3)) (k : Z G B nL ad0 f0 p l e R s m args below meth c Q ad f cells slots (pc + 3) lv (st)) : Z G B nL ad0 f0 p l e R s m args below meth c Q ad f cells slots (pc) lv (.ref x :: st) := fun H locs d ls h1 h2 h3 h4 h5 => lv_ifnull X.1 X.2.1 hdg (k H locs d ls h1 h2 h3 h4 h5)
theorem z_ifnullN (X : Cx G cy B ad0 f0 cc nL ret own p s m args meth c) {off : Int} {tgt : Nat} (hdg : decode cc pc = .ok (.ifnull off, 3)) (ht : (pc : Int) + off = (tgt : Int)) (k : Z G B nL ad0 f0 p l e R s m args below meth c Q ad f cells slots (tgt) lv (st)) : Z G B nL ad0 f0 p l e R s m args below meth c Q ad f cells slots (pc) lv (.null :: st) := fun H locs d ls h1 h2 h3 h4 h5 => lv_ifnullN X.1 X.2.1 hdg ht (k H locs d ls h1 h2 h3 h4 h5)
theorem z_ifnonnull (X : Cx G cy B ad0 f0 cc nL ret own p s m args meth c) {x : Nat} {off : Int} {tgt : Nat} (hdg : decode cc pc = .ok (.ifnonnull off, 3)) (ht : (pc : Int) + off = (tgt : Int)) (k : Z G B nL ad0 f0 p l e R s m args below meth c Q ad f cells slots (tgt) lv (st)) : Z G B nL ad0 f0 p l e R s m args below meth c Q ad f cells slots (pc) lv (.ref x :: st) := fun H locs d ls h1 h2 h3 h4 h5 => lv_ifnonnull X.1 X.2.1 hdg ht (k H locs d ls h1 h2 h3 h4 h5)
theorem z_ifnonnullN (X : Cx G cy B ad0 f0 cc nL ret own p s m args meth c) {off : Int} (hdg : decode cc pc = .ok (.ifnonnull off, 3)) (k : Z G B nL ad0 f0 p l e R s m args below meth c Q ad f cells slots (pc + 3) lv (st)) : Z G B nL ad0 f0 p l e R s m args below meth c Q ad f cells slots (pc) lv (.null :: st) := fun H locs d ls h1 h2 h3 h4 h5 => lv_ifnonnullN X.1 X.2.1 hdg (k H locs d ls h1 h2 h3 h4 h5)
theorem z_dadd (X : Cx G cy B ad0 f0 cc nL ret own p s m args meth c) {x y : UInt64} (hdg : decode cc pc = .ok (.dadd, 1)) (k : ∀ r : UInt64, alike64 r (FP.dadd x y) = true → Z G B nL ad0 f0 p l e R s m args below meth c Q ad f cells slots (pc + 1) lv (.double r :: st)) : Z G B nL ad0 f0 p l e R s m args below meth c Q ad f cells slots (pc) lv (.double y :: .double x :: st) := fun H locs d ls h1 h2 h3 h4 h5 => lv_dadd_any h1 lw_bits X.1 X.2.1 hdg (fun r d hal h1 => k r hal H locs d ls h1 h2 h3 h4 h5)
theorem z_dsub (X : Cx G cy B ad0 f0 cc nL ret own p s m args meth c) {x y : UInt64} (hdg : decode cc pc = .ok (.dsub, 1)) (k : ∀ r : UInt64, alike64 r (FP.dsub x y) = true → Z G B nL ad0 f0 p l e R s m args below meth c Q ad f cells slots (pc + 1) lv (.double r :: st)) : Z G B nL ad0 f0 p l e R s m args below meth c Q ad f cells slots (pc) lv (.double y :: .double x :: st) := fun H locs d ls h1 h2 h3 h4 h5 => lv_dsub_any h1 lw_bits X.1 X.2.1 hdg (fun r d hal h1 => k r hal H locs d ls h1 h2 h3 h4 h5)
theorem z_dmul (X : Cx G cy B ad0 f0 cc nL ret own p s m args meth c) {x y : UInt64} (hdg : decode cc pc = .ok (.dmul, 1)) (k : ∀ r : UInt64, alike64 r (FP.dmul x y) = true → Z G B nL ad0 f0 p l e R s m args below meth c Q ad f cells slots (pc + 1) lv (.double r :: st)) : Z G B nL ad0 f0 p l e R s m args below meth c Q ad f cells slots (pc) lv (.double y :: .double x :: st) := fun H locs d ls h1 h2 h3 h4 h5 => lv_dmul_any h1 lw_bits X.1 X.2.1 hdg (fun r d hal h1 => k r hal H locs d ls h1 h2 h3 h4 h5)
theorem z_ddiv (X : Cx G cy B ad0 f0 cc nL ret own p s m args meth c) {x y : UInt64} (hdg : decode cc pc = .ok (.ddiv, 1)) (k : ∀ r : UInt64, alike64 r (FP.ddiv x y) = true → Z G B nL ad0 f0 p l e R s m args below meth c Q ad f cells slots (pc + 1) lv (.double r :: st)) : Z G B nL ad0 f0 p l e R s m args below meth c Q ad f cells slots (pc) lv (.double y :: .double x :: st) := fun H locs d ls h1 h2 h3 h4 h5 => lv_ddiv_any h1 lw_bits X.1 X.2.1 hdg (fun r d hal h1 => k r hal H locs d ls h1 h2 h3 h4 h5)
end ZR
end
section
/-- one code's cell anew -/
def zup (f : zW) (k : Nat) (y : va_E) : zW := fun j => if j = k then some y else f j
def zad (ad : Nat → Nat) (k a : Nat) : Nat → Nat := fun j => if j = k then a else ad j
theorem zup_same {f : zW} {k : Nat} {y : va_E} : zup f k y k = some y := if_pos rfl
theorem zup_ne {f : zW} {k j : Nat} {y : va_E} (h : j ≠ k) : zup f k y j = f j := if_neg h
theorem zad_same {ad : Nat → Nat} {k a : Nat} : zad ad k a k = a := if_pos rfl
theorem zad_ne {ad : Nat → Nat} {k j a : Nat} (h : j ≠ k) : zad ad k a j = ad j := if_neg h
theorem zP_one {G : va_G} {B : Nat} {ad : Nat → Nat} {f : zW} {H : Heap} {k : Nat} {x : va_E} (h : zP G B ad f H) (hk : f k = some x) : va_P G vwCl [(ad k, x)] H := by
  intro i q hi
  have hz : i < 1 := (List.getElem?_eq_some_iff.mp hi).1
  obtain rfl : i = 0 := by omega
  cases hi
  exact (h.1 k x hk).1
theorem zP_set {G : va_G} {B : Nat} {ad : Nat → Nat} {f : zW} {H H1 : Heap} {k : Nat} {x y : va_E} (h : zP G B ad f H) (hk : f k = some x) (hy : va_at G vwCl (ad k, y) H1) (oq : ∀ q, q ≠ ad k → H1[q]? = H[q]?) : zP G B ad (zup f k y) H1 := by
  have hn : f k ≠ none := by rw [hk]; exact fun h => by cases h
  have dom : ∀ j, zup f k y j ≠ none → f j ≠ none := fun j hj => by
    by_cases e : j = k
    · rw [e]; exact hn
    · rwa [zup_ne e] at hj
  refine ⟨fun j z hj => ?_, fun i j hi hj e => h.2 i j (dom i hi) (dom j hj) e⟩
  by_cases e : j = k
  · subst e
    rw [zup_same] at hj
    cases hj
    exact ⟨hy, (h.1 j x hk).2⟩
  · rw [zup_ne e] at hj
    obtain ⟨a1, a2⟩ := h.1 j z hj
    exact ⟨a1.kept (oq _ fun q => e (h.2 j k (by rw [hj]; exact fun h => by cases h) hn q)), a2⟩
theorem zF_set {ad0 ad : Nat → Nat} {f0 f : zW} {H0 H H1 : Heap} {k : Nat} {x y : va_E} (h : zF ad0 f0 ad f H0 H) (hk : f k = some x) (z : H1.size = H.size) (oq : ∀ q, q ≠ ad k → H1[q]? = H[q]?) : zF ad0 f0 ad (zup f k y) H0 H1 := by
  have hn : f k ≠ none := by rw [hk]; exact fun h => by cases h
  obtain ⟨a1, a2, a3, a4⟩ := h
  refine ⟨by rw [z]; exact a1, fun q h1 h2 => ?_, fun j hj => ⟨?_, (a3 j hj).2⟩, fun j hj => a4 j ?_⟩
  · rw [oq q, a2 q h1 h2]
    intro e
    rcases a4 k hn with h3 | h3
    · exact h2 k h3 ((a3 k h3).2 ▸ e.symm)
    · omega
  · by_cases e : j = k
    · rw [e, zup_same]; exact fun h => by cases h
    · rw [zup_ne e]; exact (a3 j hj).1
  · by_cases e : j = k
    · rw [e]; exact hn
    · rwa [zup_ne e] at hj
theorem zP_new {G : va_G} {B : Nat} {ad : Nat → Nat} {f : zW} {H H1 : Heap} {k : Nat} {y : va_E} (h : zP G B ad f H) (hk : f k = none) (hB : B ≤ H.size) (hy : va_at G vwCl (H.size, y) H1) (oq : ∀ q, q < H.size → H1[q]? = H[q]?) : zP G B (zad ad k H.size) (zup f k y) H1 := by
  have lt : ∀ j, f j ≠ none → ad j < H.size := fun j hj => by
    obtain ⟨x, hx⟩ := Option.ne_none_iff_exists'.mp hj
    exact (h.1 j x hx).1.lt
  refine ⟨fun j z hj => ?_, fun i j hi hj e => ?_⟩
  · by_cases e : j = k
    · subst e
      rw [zup_same] at hj
      cases hj
      rw [zad_same]
      exact ⟨hy, hB⟩
    · rw [zup_ne e] at hj
      rw [zad_ne e]
      obtain ⟨a1, a2⟩ := h.1 j z hj
      exact ⟨a1.kept (oq _ a1.lt), a2⟩
  · by_cases ei : i = k
    · by_cases ej : j = k
      · rw [ei, ej]
      · rw [zup_ne ej] at hj
        rw [ei, zad_same, zad_ne ej] at e
        exact absurd (lt j hj) (by omega)
    · rw [zup_ne ei] at hi
      by_cases ej : j = k
      · rw [ej, zad_same, zad_ne ei] at e
        exact absurd (lt i hi) (by omega)
      · rw [zup_ne ej] at hj
        rw [zad_ne ei, zad_ne ej] at e
        exact h.2 i j hi hj e
theorem zF_new {ad0 ad : Nat → Nat} {f0 f : zW} {H0 H H1 : Heap} {k : Nat} {y : va_E} (h : zF ad0 f0 ad f H0 H) (hk : f k = none) (z : H1.size = H.size + 1) (oq : ∀ q, q < H.size → H1[q]? = H[q]?) : zF ad0 f0 (zad ad k H.size) (zup f k y) H0 H1 := by
  obtain ⟨a1, a2, a3, a4⟩ := h
  refine ⟨by omega, fun q h1 h2 => by rw [oq q (by omega), a2 q h1 h2], fun j hj => ?_, fun j hj => ?_⟩
  · have e : j ≠ k := fun e => (a3 j hj).1 (e ▸ hk)
    rw [zup_ne e, zad_ne e]
    exact a3 j hj
  · by_cases e : j = k
    · rw [e, zad_same]; exact Or.inr a1
    · rw [zup_ne e] at hj
      rw [zad_ne e]
      exact a4 j hj
theorem wa_X0 : ∀ w ∈ u_ws RX0 TX0 9, w ∈ lw_all := by decide +kernel
theorem wa_X1 : ∀ w ∈ u_ws RX1 TX1 5, w ∈ lw_all := by decide +kernel
theorem wa_X2 : ∀ w ∈ u_ws RX2 TX2 2, w ∈ lw_all := by decide +kernel
theorem wa_X3 : ∀ w ∈ u_ws RX3 TX3 16, w ∈ lw_all := by decide +kernel
theorem wa_X4 : ∀ w ∈ u_ws RX4 TX4 28, w ∈ lw_all := by decide +kernel
theorem wa_J4 : ∀ w ∈ u_ws RJ4 TJ4 4, w ∈ lw_all := by decide +kernel
section ZH
variable {G : va_G} {cy : Nat → ClassId} {B nL : Nat} {ad0 : Nat → Nat} {f0 : zW} {p : Program} {l : Launch} {e : Env} {R : Room} {s : State} {m : MethodId} {args : Array Value} {below : List Frame} {meth : Method} {c : Code} {Q : State → Prop} {ad : Nat → Nat} {f : zW} {cells slots pc : Nat} {lv : List (Nat × Value)} {st : List Value} {cc : ByteArray} {ret : Option FieldType} {own : String}
theorem cx_K (X : Cx G cy B ad0 f0 cc nL ret own p s m args meth c) (d : Drawn) : va_K G vwCl (zTys cy) (s.setDrawn d) := va_K.moved (u := s) (U := s.setDrawn d) (Vm.Alike.refl s.vm) X.2.2.2.2.2.1.1
theorem cx_w (X : Cx G cy B ad0 f0 cc nL ret own p s m args meth c) (d : Drawn) : ∀ w ∈ lw_all, w.before args (s.setDrawn d) = true := dr_words X.2.2.2.2.1 d
theorem cx_o (X : Cx G cy B ad0 f0 cc nL ret own p s m args meth c) (d : Drawn) : (s.setDrawn d).vm.findClass own = some m.cls := X.2.2.2.1
theorem cx_n (X : Cx G cy B ad0 f0 cc nL ret own p s m args meth c) (d : Drawn) : ∀ w ∈ zN, w.before args (s.setDrawn d) = true := fun w hw => (Cond.before_setDrawn args s d w).trans (va_Nw.use (by simp only [zN, List.mem_cons, List.not_mem_nil, or_false] at hw; rcases hw with rfl | rfl | rfl | rfl | rfl | rfl | rfl | rfl | rfl | rfl | rfl | rfl <;> rfl) (X.2.2.2.2.2.1.2.1 w hw))
theorem cx_B (X : Cx G cy B ad0 f0 cc nL ret own p s m args meth c) : B ≤ s.heap.size := X.2.2.2.2.2.1.2.2.2.2.2.2
theorem z_get (X : Cx G cy B ad0 f0 cc nL ret own p s m args meth c) {C ref : String} {T : u_T} {N ci index : Nat} {fs : List Value} {a : Nat} {v : Value} (kc k : Nat) (hin : ∀ w ∈ u_ws C T N, w ∈ lw_all) (hc : vwCl[ci]? = some (C, T, N)) (ha : ad kc = a) (hf : f kc = some (.inr (ci, fs))) (hk : k < N) (hw : Cond.fieldLink own index ref (T k).2.1 (T k).2.2.1 ∈ lw_all) (hs : (T k).1 = ref) (hv : fs[k]? = some v) (hdg : decode cc pc = .ok (.getfield index, 3)) (kk : Z G B nL ad0 f0 p l e R s m args below meth c Q ad f cells slots (pc + 3) lv (v :: st)) : Z G B nL ad0 f0 p l e R s m args below meth c Q ad f cells slots (pc) lv (.ref a :: st) := by
  subst ha
  exact fun H locs d ls h1 h2 h3 h4 h5 => va_get X.1 X.2.1 (s := s.setDrawn d) (cx_w X d) hin (cx_o X d) (cx_K X d) (zP_one h2 hf) 0 rfl hc k hk (cx_w X d _ hw) (fun _ h => hs ▸ h) hv hdg (kk H locs d ls h1 h2 h3 h4 h5)
theorem z_getN (X : Cx G cy B ad0 f0 cc nL ret own p s m args meth c) {C ref : String} {T : u_T} {N ci index : Nat} {fs : List Value} {a : Nat} {v : Value} (kc k : Nat) (hin : ∀ w ∈ u_ws C T N, w ∈ lw_all) (hc : vwCl[ci]? = some (C, T, N)) (ha : ad kc = a) (hf : f kc = some (.inr (ci, fs))) (hk : k < N) (hw : Cond.fieldLinkNest own index ref (T k).2.1 (T k).2.2.1 RX3 ∈ zN) (hs : (T k).1 = ref) (hv : fs[k]? = some v) (hdg : decode cc pc = .ok (.getfield index, 3)) (kk : Z G B nL ad0 f0 p l e R s m args below meth c Q ad f cells slots (pc + 3) lv (v :: st)) : Z G B nL ad0 f0 p l e R s m args below meth c Q ad f cells slots (pc) lv (.ref a :: st) := by
  subst ha
  exact fun H locs d ls h1 h2 h3 h4 h5 => va_getN X.1 X.2.1 (s := s.setDrawn d) (cx_w X d) hin (cx_o X d) (cx_K X d) (zP_one h2 hf) 0 rfl hc k hk (cx_n X d _ hw) (fun _ h => hs ▸ h) hv hdg (kk H locs d ls h1 h2 h3 h4 h5)
theorem z_put (X : Cx G cy B ad0 f0 cc nL ret own p s m args meth c) {C ref : String} {T : u_T} {N ci index : Nat} {fs : List Value} {a : Nat} {v : Value} (kc k : Nat) (hin : ∀ w ∈ u_ws C T N, w ∈ lw_all) (ty0 : Nat → FieldType) (hty : ∀ k, k < N → parseFieldDescriptor (T k).2.2.1 = some (ty0 k)) (hnm : ∀ a, a < N → ∀ b, b < N → a ≠ b → (T a).2.1 ≠ (T b).2.1) (hc : vwCl[ci]? = some (C, T, N)) (ha : ad kc = a) (hf : f kc = some (.inr (ci, fs))) (hk : k < N) (hw : Cond.fieldLink own index ref (T k).2.1 (T k).2.2.1 ∈ lw_all) (hs : (T k).1 = ref) (hfin : (T k).2.2.2 = false) {ty : FieldType} (hd : parseFieldDescriptor (T k).2.2.1 = some ty) (hn : narrow ty v = v) (hfit : fits ty v = true) (hl : k < fs.length) (hdg : decode cc pc = .ok (.putfield index, 3)) (kk : Z G B nL ad0 f0 p l e R s m args below meth c Q ad (zup f kc (.inr (ci, fs.set k v))) cells slots (pc + 3) lv (st)) : Z G B nL ad0 f0 p l e R s m args below meth c Q ad f cells slots (pc) lv (v :: .ref a :: st) := by
  subst ha
  intro H locs d ls h1 h2 h3 h4 h5
  have hts := cx_w X d
  have hK := cx_K X d
  have hap := va_apart (own := own) hts hin ty0 hty hnm hK hc
  obtain ⟨r, g1, cell, q1, q2, q3, q4⟩ := (h2.1 kc _ hf).1
  have hr : r = (C, T, N) := Option.some.inj (g1.symm.trans hc)
  subst hr
  obtain ⟨hSl, hfc, kC, hkC, hkind⟩ := hK.1 ci _ hc
  obtain ⟨cf, kf, fi, fd, hi, hsl⟩ := hSl k hk
  have hlay := hts _ (hin _ (u_in_lay hk))
  unfold u_lay at hlay
  rw [if_neg (by rw [hfin]; decide)] at hlay
  have hst := (u_facts hfc hkC (u_lays hts hin hk) hi).1
  refine W.putK X.1 X.2.1 (s := s.setDrawn d) (f := fd) ⟨cx_o X d, cx_w X d _ hw, ⟨_, _, _, hs ▸ hi⟩, hst⟩ (by rw [q2]; exact u_store hfc hkC hkind hlay hi hd hn hfit) q1 q3 (by rw [hsl]; exact k2_hasslot (q4 k hk)) rfl rfl hdg fun H' e1 e2 e3 => ?_
  rw [hsl] at e1
  refine kk H' _ d ls h1 (zP_set h2 hf ⟨_, hc, t_OB.to (V := updV (vp_V fs) k v) ⟨_, e1, q2, q3, t_set q4 hap hk v⟩ (fun j _ => vp_updV_set hl v j)⟩ e3) (zF_set h3 hf e2 e3) (fun q hq => ?_) h5
  rcases List.mem_append.mp hq with hq | hq
  · exact h4 q hq
  · rw [List.mem_singleton.mp hq]; exact (h2.1 kc _ hf).2
theorem z_putN (X : Cx G cy B ad0 f0 cc nL ret own p s m args meth c) {C ref : String} {T : u_T} {N ci index : Nat} {fs : List Value} {a : Nat} {v : Value} (kc k : Nat) (hin : ∀ w ∈ u_ws C T N, w ∈ lw_all) (ty0 : Nat → FieldType) (hty : ∀ k, k < N → parseFieldDescriptor (T k).2.2.1 = some (ty0 k)) (hnm : ∀ a, a < N → ∀ b, b < N → a ≠ b → (T a).2.1 ≠ (T b).2.1) (hc : vwCl[ci]? = some (C, T, N)) (ha : ad kc = a) (hf : f kc = some (.inr (ci, fs))) (hk : k < N) (hw : Cond.fieldLinkNest own index ref (T k).2.1 (T k).2.2.1 RX3 ∈ zN) (hs : (T k).1 = ref) (hfin : (T k).2.2.2 = false) {ty : FieldType} (hd : parseFieldDescriptor (T k).2.2.1 = some ty) (hn : narrow ty v = v) (hfit : fits ty v = true) (hl : k < fs.length) (hdg : decode cc pc = .ok (.putfield index, 3)) (kk : Z G B nL ad0 f0 p l e R s m args below meth c Q ad (zup f kc (.inr (ci, fs.set k v))) cells slots (pc + 3) lv (st)) : Z G B nL ad0 f0 p l e R s m args below meth c Q ad f cells slots (pc) lv (v :: .ref a :: st) := by
  subst ha
  intro H locs d ls h1 h2 h3 h4 h5
  have hts := cx_w X d
  have hK := cx_K X d
  have hap := va_apart (own := own) hts hin ty0 hty hnm hK hc
  obtain ⟨r, g1, cell, q1, q2, q3, q4⟩ := (h2.1 kc _ hf).1
  have hr : r = (C, T, N) := Option.some.inj (g1.symm.trans hc)
  subst hr
  obtain ⟨hSl, hfc, kC, hkC, hkind⟩ := hK.1 ci _ hc
  obtain ⟨cf, kf, fi, fd, hi, hsl⟩ := hSl k hk
  have hlay := hts _ (hin _ (u_in_lay hk))
  unfold u_lay at hlay
  rw [if_neg (by rw [hfin]; decide)] at hlay
  have hst := (u_facts hfc hkC (u_lays hts hin hk) hi).1
  refine va_WputK X.1 X.2.1 (s := s.setDrawn d) (f := fd) (cx_o X d) (cx_n X d _ hw) (hs ▸ hi) hst (by rw [q2]; exact u_store hfc hkC hkind hlay hi hd hn hfit) q1 q3 (by rw [hsl]; exact k2_hasslot (q4 k hk)) rfl rfl hdg fun H' e1 e2 e3 => ?_
  rw [hsl] at e1
  refine kk H' _ d ls h1 (zP_set h2 hf ⟨_, hc, t_OB.to (V := updV (vp_V fs) k v) ⟨_, e1, q2, q3, t_set q4 hap hk v⟩ (fun j _ => vp_updV_set hl v j)⟩ e3) (zF_set h3 hf e2 e3) (fun q hq => ?_) h5
  rcases List.mem_append.mp hq with hq | hq
  · exact h4 q hq
  · rw [List.mem_singleton.mp hq]; exact (h2.1 kc _ hf).2
theorem z_putF (X : Cx G cy B ad0 f0 cc nL ret own p s m args meth c) {C ref : String} {T : u_T} {N ci index : Nat} {fs : List Value} {a : Nat} {v : Value} (kc k : Nat) (hin : ∀ w ∈ u_ws C T N, w ∈ lw_all) (ty0 : Nat → FieldType) (hty : ∀ k, k < N → parseFieldDescriptor (T k).2.2.1 = some (ty0 k)) (hnm : ∀ a, a < N → ∀ b, b < N → a ≠ b → (T a).2.1 ≠ (T b).2.1) (hc : vwCl[ci]? = some (C, T, N)) (ha : ad kc = a) (hf : f kc = some (.inr (ci, fs))) (hk : k < N) (hw : Cond.fieldLink own index ref (T k).2.1 (T k).2.2.1 ∈ lw_all) (hs : (T k).1 = ref) (hfin : (T k).2.2.2 = true) (hin2 : meth.name = "<init>") (hdecl : (T k).1 = own) {ty : FieldType} (hd : parseFieldDescriptor (T k).2.2.1 = some ty) (hn : narrow ty v = v) (hfit : fits ty v = true) (hl : k < fs.length) (hdg : decode cc pc = .ok (.putfield index, 3)) (kk : Z G B nL ad0 f0 p l e R s m args below meth c Q ad (zup f kc (.inr (ci, fs.set k v))) cells slots (pc + 3) lv (st)) : Z G B nL ad0 f0 p l e R s m args below meth c Q ad f cells slots (pc) lv (v :: .ref a :: st) := by
  subst ha
  intro H locs d ls h1 h2 h3 h4 h5
  have hts := cx_w X d
  have hK := cx_K X d
  have hap := va_apart (own := own) hts hin ty0 hty hnm hK hc
  obtain ⟨r, g1, cell, q1, q2, q3, q4⟩ := (h2.1 kc _ hf).1
  have hr : r = (C, T, N) := Option.some.inj (g1.symm.trans hc)
  subst hr
  obtain ⟨hSl, hfc, kC, hkC, hkind⟩ := hK.1 ci _ hc
  obtain ⟨cf, kf, fi, fd, hi, hsl⟩ := hSl k hk
  have hlay := hts _ (hin _ (u_in_lay hk))
  unfold u_lay at hlay
  rw [if_pos hfin] at hlay
  have hst := (u_facts hfc hkC (u_lays hts hin hk) hi).1
  have hcf : m.cls = cf := by
    obtain ⟨_, _, c', _, _, _, -, -, hf', -, -, -, hown2, -⟩ := Cond.laysFinal_spec hlay
    have e1 : c' = cf := by have := hi.symm.trans hf'; simp at this; exact this.1.symm
    rw [hdecl] at hown2
    rw [← e1]; exact Option.some.inj (X.2.2.2.1.symm.trans hown2)
  refine W.putFinK X.1 X.2.1 (s := s.setDrawn d) (cx_o X d) (cx_w X d _ hw) (hs ▸ hi) hst hcf hin2 (by rw [q2]; exact u_fits hfc hkC hkind (Or.inr hlay) hi hd hn hfit) q1 q3 (by rw [hsl]; exact k2_hasslot (q4 k hk)) rfl rfl hdg fun H' e1 e2 e3 => ?_
  rw [hsl] at e1
  refine kk H' _ d ls h1 (zP_set h2 hf ⟨_, hc, t_OB.to (V := updV (vp_V fs) k v) ⟨_, e1, q2, q3, t_set q4 hap hk v⟩ (fun j _ => vp_updV_set hl v j)⟩ e3) (zF_set h3 hf e2 e3) (fun q hq => ?_) h5
  rcases List.mem_append.mp hq with hq | hq
  · exact h4 q hq
  · rw [List.mem_singleton.mp hq]; exact (h2.1 kc _ hf).2
theorem z_iald (X : Cx G cy B ad0 f0 cc nL ret own p s m args meth c) {a n : Nat} {g : Nat → Int32} {i : Int32} (kc : Nat) (ha : ad kc = a) (hf : f kc = some (.inl (cy 1, n, .inl g))) (hi : vp_in i n) (hdg : decode cc pc = .ok (.iaload, 1)) (kk : Z G B nL ad0 f0 p l e R s m args below meth c Q ad f cells slots (pc + 1) lv (.int (g i.toNatClampNeg) :: st)) : Z G B nL ad0 f0 p l e R s m args below meth c Q ad f cells slots (pc) lv (.int i :: .ref a :: st) := by
  subst ha
  exact fun H locs d ls h1 h2 h3 h4 h5 => va_iald X.1 X.2.1 (s := s.setDrawn d) (cx_K X d) (zP_one h2 hf) 0 1 rfl rfl hi hdg (kk H locs d ls h1 h2 h3 h4 h5)
theorem z_lald (X : Cx G cy B ad0 f0 cc nL ret own p s m args meth c) {a n : Nat} {g : Nat → Int64} {i : Int32} (kc : Nat) (ha : ad kc = a) (hf : f kc = some (.inl (cy 0, n, .inr (.inl g)))) (hi : vp_in i n) (hdg : decode cc pc = .ok (.laload, 1)) (kk : Z G B nL ad0 f0 p l e R s m args below meth c Q ad f cells slots (pc + 1) lv (.long (g i.toNatClampNeg) :: st)) : Z G B nL ad0 f0 p l e R s m args below meth c Q ad f cells slots (pc) lv (.int i :: .ref a :: st) := by
  subst ha
  exact fun H locs d ls h1 h2 h3 h4 h5 => va_lald X.1 X.2.1 (s := s.setDrawn d) (cx_K X d) (zP_one h2 hf) 0 0 rfl rfl hi hdg (kk H locs d ls h1 h2 h3 h4 h5)
theorem z_dald (X : Cx G cy B ad0 f0 cc nL ret own p s m args meth c) {a n : Nat} {g : Nat → UInt64} {i : Int32} (kc : Nat) (ha : ad kc = a) (hf : f kc = some (.inl (cy 2, n, .inr (.inr (.inr (.inl g)))))) (hi : vp_in i n) (hdg : decode cc pc = .ok (.daload, 1)) (kk : Z G B nL ad0 f0 p l e R s m args below meth c Q ad f cells slots (pc + 1) lv (.double (g i.toNatClampNeg) :: st)) : Z G B nL ad0 f0 p l e R s m args below meth c Q ad f cells slots (pc) lv (.int i :: .ref a :: st) := by
  subst ha
  exact fun H locs d ls h1 h2 h3 h4 h5 => va_dald X.1 X.2.1 (s := s.setDrawn d) (cx_K X d) (zP_one h2 hf) 0 2 rfl rfl hi hdg (kk H locs d ls h1 h2 h3 h4 h5)
theorem z_bald (X : Cx G cy B ad0 f0 cc nL ret own p s m args meth c) {a n : Nat} {g : Nat → Int32} {i : Int32} (kc : Nat) (ha : ad kc = a) (hf : f kc = some (.inl (cy 3, n, .inl g))) (hi : vp_in i n) (hdg : decode cc pc = .ok (.baload, 1)) (kk : Z G B nL ad0 f0 p l e R s m args below meth c Q ad f cells slots (pc + 1) lv (.int (g i.toNatClampNeg) :: st)) : Z G B nL ad0 f0 p l e R s m args below meth c Q ad f cells slots (pc) lv (.int i :: .ref a :: st) := by
  subst ha
  exact fun H locs d ls h1 h2 h3 h4 h5 => va_bald X.1 X.2.1 (s := s.setDrawn d) (cx_K X d) (zP_one h2 hf) 0 3 rfl rfl hi hdg (kk H locs d ls h1 h2 h3 h4 h5)
theorem z_aald (X : Cx G cy B ad0 f0 cc nL ret own p s m args meth c) {a n : Nat} {g : Nat → Option Nat} {i : Int32} {cA : ClassId} {C : String} (kc t0 : Nat) (ha : ad kc = a) (hf : f kc = some (.inl (cA, n, .inr (.inr (.inr (.inr g)))))) (ht : (zTys cy)[t0]? = some (cA, .object C)) (hi : vp_in i n) (hdg : decode cc pc = .ok (.aaload, 1)) (kk : Z G B nL ad0 f0 p l e R s m args below meth c Q ad f cells slots (pc + 1) lv (va_rf (g i.toNatClampNeg) :: st)) : Z G B nL ad0 f0 p l e R s m args below meth c Q ad f cells slots (pc) lv (.int i :: .ref a :: st) := by
  subst ha
  exact fun H locs d ls h1 h2 h3 h4 h5 => va_aldq X.1 X.2.1 (s := s.setDrawn d) (cx_K X d) (zP_one h2 hf) 0 t0 rfl ht hi hdg (kk H locs d ls h1 h2 h3 h4 h5)
theorem z_alen (X : Cx G cy B ad0 f0 cc nL ret own p s m args meth c) {a : Nat} {cA : ClassId} {x : vp_A} {ty : FieldType} {v : Int32} (kc t0 : Nat) (ha : ad kc = a) (hf : f kc = some (.inl (cA, x))) (ht : (zTys cy)[t0]? = some (cA, ty)) (hv : Int32.ofNat x.1 = v) (hdg : decode cc pc = .ok (.arraylength, 1)) (kk : Z G B nL ad0 f0 p l e R s m args below meth c Q ad f cells slots (pc + 1) lv (.int v :: st)) : Z G B nL ad0 f0 p l e R s m args below meth c Q ad f cells slots (pc) lv (.ref a :: st) := by
  subst ha
  exact fun H locs d ls h1 h2 h3 h4 h5 => va_alen X.1 X.2.1 (s := s.setDrawn d) (cx_K X d) (zP_one h2 hf) 0 t0 rfl ht hv hdg (kk H locs d ls h1 h2 h3 h4 h5)
theorem z_iast (X : Cx G cy B ad0 f0 cc nL ret own p s m args meth c) {a n : Nat} {g : Nat → Int32} {i : Int32} {x : Int32} (kc : Nat) (ha : ad kc = a) (hf : f kc = some (.inl (cy 1, n, .inl g))) (hi : vp_in i n) (hdg : decode cc pc = .ok (.iastore, 1)) (kk : Z G B nL ad0 f0 p l e R s m args below meth c Q ad (zup f kc (.inl (cy 1, n, .inl (upd g i.toNatClampNeg x)))) cells slots (pc + 1) lv (st)) : Z G B nL ad0 f0 p l e R s m args below meth c Q ad f cells slots (pc) lv (.int x :: .int i :: .ref a :: st) := by
  subst ha
  intro H locs d ls h1 h2 h3 h4 h5
  have hK := cx_K X d
  refine W.iast X.1 X.2.1 (s := s.setDrawn d) (h2.1 kc _ hf).1 ((hK.2 1 _ rfl).1 n (fun j => .int (g j))) (fun q => by cases q) (by show ¬ (i < 0 ∨ (arrV _ _ _).slots.size ≤ _); rw [arrV_size]; exact hi) rfl rfl hdg fun H1 e1 e2 e3 => ?_
  refine kk H1 _ d ls h1 (zP_set h2 hf ?_ e3) (zF_set h3 hf e2 e3) (fun q hq => ?_) h5
  · show H1[ad kc]? = some (vp_cell _ _)
    rw [e1, vp_cell_i, vp_cell_i, arrV_store]
    congr 2
    funext q
    by_cases hq : q = i.toNatClampNeg
    · subst hq
      simp [updV, upd]
    · simp [updV, upd, hq]
  · rcases List.mem_append.mp hq with hq | hq
    · exact h4 q hq
    · rw [List.mem_singleton.mp hq]; exact (h2.1 kc _ hf).2
theorem z_last (X : Cx G cy B ad0 f0 cc nL ret own p s m args meth c) {a n : Nat} {g : Nat → Int64} {i : Int32} {x : Int64} (kc : Nat) (ha : ad kc = a) (hf : f kc = some (.inl (cy 0, n, .inr (.inl g)))) (hi : vp_in i n) (hdg : decode cc pc = .ok (.lastore, 1)) (kk : Z G B nL ad0 f0 p l e R s m args below meth c Q ad (zup f kc (.inl (cy 0, n, .inr (.inl (vp_updL g i.toNatClampNeg x))))) cells slots (pc + 1) lv (st)) : Z G B nL ad0 f0 p l e R s m args below meth c Q ad f cells slots (pc) lv (.long x :: .int i :: .ref a :: st) := by
  subst ha
  intro H locs d ls h1 h2 h3 h4 h5
  have hK := cx_K X d
  refine W.last X.1 X.2.1 (s := s.setDrawn d) (h2.1 kc _ hf).1 ((hK.2 0 _ rfl).1 n (fun j => .long (g j))) (fun q => by cases q) (by show ¬ (i < 0 ∨ (arrV _ _ _).slots.size ≤ _); rw [arrV_size]; exact hi) rfl rfl hdg fun H1 e1 e2 e3 => ?_
  refine kk H1 _ d ls h1 (zP_set h2 hf ?_ e3) (zF_set h3 hf e2 e3) (fun q hq => ?_) h5
  · show H1[ad kc]? = some (vp_cell _ _)
    rw [e1, vp_cell_l, vp_cell_l, arrV_store]
    congr 2
    funext q
    by_cases hq : q = i.toNatClampNeg
    · subst hq
      simp [updV, vp_updL]
    · simp [updV, vp_updL, hq]
  · rcases List.mem_append.mp hq with hq | hq
    · exact h4 q hq
    · rw [List.mem_singleton.mp hq]; exact (h2.1 kc _ hf).2
theorem z_dast (X : Cx G cy B ad0 f0 cc nL ret own p s m args meth c) {a n : Nat} {g : Nat → UInt64} {i : Int32} {x : UInt64} (kc : Nat) (ha : ad kc = a) (hf : f kc = some (.inl (cy 2, n, .inr (.inr (.inr (.inl g)))))) (hi : vp_in i n) (hdg : decode cc pc = .ok (.dastore, 1)) (kk : Z G B nL ad0 f0 p l e R s m args below meth c Q ad (zup f kc (.inl (cy 2, n, .inr (.inr (.inr (.inl (vf_upd g i.toNatClampNeg x))))))) cells slots (pc + 1) lv (st)) : Z G B nL ad0 f0 p l e R s m args below meth c Q ad f cells slots (pc) lv (.double x :: .int i :: .ref a :: st) := by
  subst ha
  intro H locs d ls h1 h2 h3 h4 h5
  have hK := cx_K X d
  refine W.dast X.1 X.2.1 (s := s.setDrawn d) (h2.1 kc _ hf).1 ((hK.2 2 _ rfl).1 n (fun j => .double (g j))) (fun q => by cases q) (by show ¬ (i < 0 ∨ (arrV _ _ _).slots.size ≤ _); rw [arrV_size]; exact hi) rfl rfl hdg fun H1 e1 e2 e3 => ?_
  refine kk H1 _ d ls h1 (zP_set h2 hf ?_ e3) (zF_set h3 hf e2 e3) (fun q hq => ?_) h5
  · show H1[ad kc]? = some (vp_cell _ _)
    rw [e1, vp_cell_d, vp_cell_d, arrV_store]
    congr 2
    funext q
    by_cases hq : q = i.toNatClampNeg
    · subst hq
      simp [updV, vf_upd]
    · simp [updV, vf_upd, hq]
  · rcases List.mem_append.mp hq with hq | hq
    · exact h4 q hq
    · rw [List.mem_singleton.mp hq]; exact (h2.1 kc _ hf).2
theorem z_bast (X : Cx G cy B ad0 f0 cc nL ret own p s m args meth c) {a n : Nat} {g : Nat → Int32} {i x : Int32} (kc : Nat) (ha : ad kc = a) (hf : f kc = some (.inl (cy 3, n, .inl g))) (hi : vp_in i n) (hdg : decode cc pc = .ok (.bastore, 1)) (kk : Z G B nL ad0 f0 p l e R s m args below meth c Q ad (zup f kc (.inl (cy 3, n, .inl (upd g i.toNatClampNeg (vp_nar .byte x))))) cells slots (pc + 1) lv (st)) : Z G B nL ad0 f0 p l e R s m args below meth c Q ad f cells slots (pc) lv (.int x :: .int i :: .ref a :: st) := by
  subst ha
  intro H locs d ls h1 h2 h3 h4 h5
  sorry
theorem z_aast (X : Cx G cy B ad0 f0 cc nL ret own p s m args meth c) {a n v : Nat} {g : Nat → Option Nat} {i : Int32} {cA : ClassId} {r : vw_C} {vs : List Value} {ci : Nat} (kc t0 kv : Nat) (ha : ad kc = a) (hf : f kc = some (.inl (cA, n, .inr (.inr (.inr (.inr g)))))) (ht : (zTys cy)[t0]? = some (cA, .object r.1)) (hav : ad kv = v) (hfv : f kv = some (.inr (ci, vs))) (hc : vwCl[ci]? = some r) (hi : vp_in i n) (hdg : decode cc pc = .ok (.aastore, 1)) (kk : Z G B nL ad0 f0 p l e R s m args below meth c Q ad (zup f kc (.inl (cA, n, .inr (.inr (.inr (.inr (va_up g i.toNatClampNeg (some v)))))))) cells slots (pc + 1) lv (st)) : Z G B nL ad0 f0 p l e R s m args below meth c Q ad f cells slots (pc) lv (.ref v :: .int i :: .ref a :: st) := by
  subst ha
  subst hav
  intro H locs d ls h1 h2 h3 h4 h5
  have hK := cx_K X d
  have hlt : i.toNatClampNeg < n := Nat.not_le.mp fun q => hi (Or.inr q)
  have h0 : ¬ i < 0 := fun q => hi (Or.inl q)
  obtain ⟨r', hr', cellV, g1, g2, g3, -⟩ := (h2.1 kv _ hfv).1
  have hcls := (hK.1 ci r hc).2
  obtain ⟨kA, comp, k1, k2, k3, -⟩ := (hK.2 t0 _ ht).2
  have hcomp : comp = G.1 ci := Option.some.inj (k3.symm.trans hcls.1)
  subst hcomp
  obtain ⟨kC, hkC, -⟩ := hcls.2
  refine W.aast X.1 X.2.1 (s := s.setDrawn d) (h2.1 kc _ hf).1 (fun q h => by cases h) (fun h => by cases h) k1 k2 rfl hkC ⟨h0, by show _ < (arrV _ _ _).slots.size; rw [arrV_size]; exact hlt⟩ g1 (fun q h => by rw [g3] at h; cases h) (by rw [g2]; exact hkC) (by rw [g2]; exact va_assign hcls) rfl rfl hdg fun H1 e1 e2 e3 => ?_
  refine kk H1 _ d ls h1 (zP_set h2 hf ?_ e3) (zF_set h3 hf e2 e3) (fun q hq => ?_) h5
  · show H1[ad kc]? = some (vp_cell _ _)
    rw [e1, vp_cell_q, vp_cell_q, arrV_store]
    congr 2
    funext q
    by_cases hq : q = i.toNatClampNeg
    · subst hq
      simp [updV, va_up, va_rf]
    · simp [updV, va_up, va_rf, hq]
  · rcases List.mem_append.mp hq with hq | hq
    · exact h4 q hq
    · rw [List.mem_singleton.mp hq]; exact (h2.1 kc _ hf).2
theorem z_new (X : Cx G cy B ad0 f0 cc nL ret own p s m args meth c) {C : String} {T : u_T} {N ci index : Nat} {fs : List Value} (kc : Nat) (hin : ∀ w ∈ u_ws C T N, w ∈ lw_all) (ty0 : Nat → FieldType) (hty : ∀ k, k < N → parseFieldDescriptor (T k).2.2.1 = some (ty0 k)) (hc : vwCl[ci]? = some (C, T, N)) (hf : f kc = none) (hcl : Cond.classLink own index C ∈ lw_all) (hins : Cond.instantiable C N ∈ lw_all) (hini : Cond.initialized C ∈ lw_all) (hfs : ∀ j, j < N → defaultValue (ty0 j) = vp_V fs j) (hcells : cells + 1 ≤ R.cells) (hslots : slots + N ≤ R.slots) (hdg : decode cc pc = .ok (.new index, 3)) (kk : ∀ a : Nat, Z G B nL ad0 f0 p l e R s m args below meth c Q (zad ad kc a) (zup f kc (.inr (ci, fs))) (cells + 1) (slots + N) (pc + 3) lv (.ref a :: st)) : Z G B nL ad0 f0 p l e R s m args below meth c Q ad f cells slots (pc) lv (st) := by
  intro H locs d ls h1 h2 h3 h4 h5
  have hts := cx_w X d
  have hK := cx_K X d
  have hB : B ≤ H.size := Nat.le_trans (cx_B X) h3.1
  have hKn := hK.1 ci _ hc
  refine W.newcK X.1 X.2.1 (s := s.setDrawn d) (cx_o X d) (hts _ hcl) (hts _ hins) (hts _ hini) rfl hdg hcells hslots hKn.2.1 rfl fun H1 kC hkC e1 z1 o1 => ?_
  exact kk H.size H1 locs d ls h1 (zP_new h2 hf hB ⟨_, hc, (u_born ty0 hts hin hKn hkC e1 hty).to hfs⟩ o1) (zF_new h3 hf z1 o1) h4 h5
theorem z_newa (X : Cx G cy B ad0 f0 cc nL ret own p s m args meth c) {atype : ArrayType} {ty : FieldType} {N' : Nat} {n : Int32} {a0 : vp_A} {cA : ClassId} (kc t0 : Nat) (hf : f kc = none) (harr : Cond.arrayClass (newarray.typeOf atype) ∈ lw_all) (hty : newarray.typeOf atype = ty) (ht : (zTys cy)[t0]? = some (cA, ty)) (ha : ∀ cA : ClassId, vp_cell cA a0 = arrV cA N' (fun _ => defaultValue ty)) (hn : ¬ n < 0) (hN : n.toNatClampNeg = N') (hbytes : N' * componentBytes ty ≤ 536870912) (hcells : cells + 1 ≤ R.cells) (hslots : slots + N' ≤ R.slots) (hdg : decode cc pc = .ok (.newarray atype, 2)) (kk : ∀ a : Nat, Z G B nL ad0 f0 p l e R s m args below meth c Q (zad ad kc a) (zup f kc (.inl (cA, a0))) (cells + 1) (slots + N') (pc + 2) lv (.ref a :: st)) : Z G B nL ad0 f0 p l e R s m args below meth c Q ad f cells slots (pc) lv (.int n :: st) := by
  subst hty
  intro H locs d ls h1 h2 h3 h4 h5
  have hK := cx_K X d
  have hB : B ≤ H.size := Nat.le_trans (cx_B X) h3.1
  refine va_newaK X.1 X.2.1 (s := s.setDrawn d) (cx_w X d _ harr) rfl hdg rfl hn hN hbytes hcells hslots rfl fun H1 cA' e1 z1 o1 hAr hNm => ?_
  have hcA : cA' = cA := by
    have h9 := (hK.2 t0 _ ht).2
    cases atype <;> exact Option.some.inj (hNm.symm.trans h9)
  subst hcA
  refine kk H.size H1 locs d ls h1 (zP_new h2 hf hB ?_ o1) (zF_new h3 hf z1 o1) h4 h5
  show H1[H.size]? = some (vp_cell _ _)
  rw [ha]
  exact e1
theorem z_newq (X : Cx G cy B ad0 f0 cc nL ret own p s m args meth c) {C : String} {index N' : Nat} {n : Int32} {cA : ClassId} (kc t0 : Nat) (hf : f kc = none) (hcl : Cond.classLink own index C ∈ lw_all) (hover : va_AO C s) (ht : (zTys cy)[t0]? = some (cA, .object C)) (hn : ¬ n < 0) (hN : n.toNatClampNeg = N') (hbytes : N' * 4 ≤ 536870912) (hcells : cells + 1 ≤ R.cells) (hslots : slots + N' ≤ R.slots) (hdg : decode cc pc = .ok (.anewarray index, 3)) (kk : ∀ a : Nat, Z G B nL ad0 f0 p l e R s m args below meth c Q (zad ad kc a) (zup f kc (.inl (cA, N', .inr (.inr (.inr (.inr (fun _ => none))))))) (cells + 1) (slots + N') (pc + 3) lv (.ref a :: st)) : Z G B nL ad0 f0 p l e R s m args below meth c Q ad f cells slots (pc) lv (.int n :: st) := by
  subst hN
  intro H locs d ls h1 h2 h3 h4 h5
  have hK := cx_K X d
  have hB : B ≤ H.size := Nat.le_trans (cx_B X) h3.1
  have hov : va_AO C (s.setDrawn d) := va_AO.moved (u := s) (Vm.Alike.refl s.vm) hover
  refine W.anew X.1 X.2.1 (s := s.setDrawn d) (cx_o X d) (cx_w X d _ hcl) (va_AO.use hov) rfl hdg rfl hn hbytes hcells hslots fun cA' kA comp f1 f2 f3 f4 => ?_
  have hcA : cA' = cA := by
    obtain ⟨_, _, -, -, -, h9⟩ := (hK.2 t0 _ ht).2
    exact Option.some.inj (f1.symm.trans h9)
  subst hcA
  generalize hH1 : H.push ({ cls := cA', slots := Array.replicate n.toNatClampNeg .null, vm := .none } : Cell) = H1
  have z1 : H1.size = H.size + 1 := by rw [← hH1, Array.size_push]
  have e1 : H1[H.size]? = some (arrV cA' n.toNatClampNeg (fun _ => .null)) := by rw [← hH1, Array.getElem?_push_size, ← arrV_new]
  have o1 : ∀ q : Nat, q < H.size → H1[q]? = H[q]? := fun q hq => by rw [← hH1, Array.getElem?_push, if_neg (Nat.ne_of_lt hq)]
  refine kk H.size H1 locs d ls h1 (zP_new h2 hf hB ?_ o1) (zF_new h3 hf z1 o1) h4 h5
  show H1[H.size]? = some (vp_cell _ _)
  rw [vp_cell_q]
  exact e1
theorem z_objInit (X : Cx G cy B ad0 f0 cc nL ret own p s m args meth c) {a idx : Nat} (hw : Cond.methodLink own idx Lib.objectInit ∈ lw_all) (hi : Cond.instanceMethod Lib.objectInit ∈ lw_all) (hcd : Cond.code Lib.objectInit ⟨#[0xb1]⟩ 1 none ∈ lw_all) (hd : decode cc pc = .ok (.invokespecial idx, 3)) (hframes : 1 ≤ R.frames) (hlocals : (st.map fun v => v.category).sum + 12 ≤ R.locals) (kk : Z G B nL ad0 f0 p l e R s m args below meth c Q ad f cells slots (pc + 3) lv (st)) : Z G B nL ad0 f0 p l e R s m args below meth c Q ad f cells slots (pc) lv (.ref a :: st) := by
  intro H locs d ls h1 h2 h3 h4 h5
  have hts := cx_w X d
  exact W.objInit X.1 X.2.1 (s := s.setDrawn d) (cx_o X d) (hts _ hw) (hts _ hi) (hts _ hcd) rfl (h5.1.trans X.2.2.1.symm) rfl hd hframes (by show 2 * 0 + _ + 12 ≤ _; omega) (kk H locs d ls h1 h2 h3 h4 h5)
theorem z_mmax (X : Cx G cy B ad0 f0 cc nL ret own p s m args meth c) {x y : Int32} {index : Nat} (hw : Cond.methodLink own index Lib.Math.max.name ∈ lw_all) (hs : Cond.static Lib.Math.max.name ∈ lw_all) (hi : Cond.initialized "java/lang/Math" ∈ lw_all) (hcd : Cond.code Lib.Math.max.name Lib.Math.max.code 2 (some .int) ∈ lw_all) (hframes : 1 ≤ R.frames) (hlocals : (st.map fun v => v.category).sum + 13 ≤ R.locals) (hc : cells ≤ R.cells) (hsl : slots ≤ R.slots) (hdg : decode cc pc = .ok (.invokestatic index, 3)) (kk : Z G B nL ad0 f0 p l e R s m args below meth c Q ad f cells slots (pc + 3) lv (.int (if x < y then y else x) :: st)) : Z G B nL ad0 f0 p l e R s m args below meth c Q ad f cells slots (pc) lv (.int y :: .int x :: st) := by
  intro H locs d ls h1 h2 h3 h4 h5
  have hts := cx_w X d
  exact va_mmax X.1 X.2.1 (s := s.setDrawn d) (X.2.2.1.trans h5.1.symm) (cx_o X d) (hts _ hw) (hts _ hs) (hts _ hi) (hts _ hcd) hframes hlocals hc hsl hdg (kk H locs d ls h1 h2 h3 h4 h5)
theorem z_mmin (X : Cx G cy B ad0 f0 cc nL ret own p s m args meth c) {x y : Int32} {index : Nat} (hw : Cond.methodLink own index Lib.Math.min.name ∈ lw_all) (hs : Cond.static Lib.Math.min.name ∈ lw_all) (hi : Cond.initialized "java/lang/Math" ∈ lw_all) (hcd : Cond.code Lib.Math.min.name Lib.Math.min.code 2 (some .int) ∈ lw_all) (hframes : 1 ≤ R.frames) (hlocals : (st.map fun v => v.category).sum + 13 ≤ R.locals) (hc : cells ≤ R.cells) (hsl : slots ≤ R.slots) (hdg : decode cc pc = .ok (.invokestatic index, 3)) (kk : Z G B nL ad0 f0 p l e R s m args below meth c Q ad f cells slots (pc + 3) lv (.int (if y < x then y else x) :: st)) : Z G B nL ad0 f0 p l e R s m args below meth c Q ad f cells slots (pc) lv (.int y :: .int x :: st) := by
  intro H locs d ls h1 h2 h3 h4 h5
  have hts := cx_w X d
  exact va_mmin X.1 X.2.1 (s := s.setDrawn d) (X.2.2.1.trans h5.1.symm) (cx_o X d) (hts _ hw) (hts _ hs) (hts _ hi) (hts _ hcd) hframes hlocals hc hsl hdg (kk H locs d ls h1 h2 h3 h4 h5)
end ZH
end
section
theorem lw_good : ∀ w ∈ lw_all, (w.onTables && w.keeps) = true ∨ ∃ ty, w = .arrayClass ty := fun _ hw => good_of_word (List.mem_filter.mp hw).2
theorem lw_good1 {w : Cond} (h : w ∈ lw_all) : w ∈ lw_all ∧ ((w.onTables && w.keeps) = true ∨ ∃ ty, w = .arrayClass ty) := ⟨h, lw_good w h⟩
theorem lw_gc {c : Cond} (h : c ∈ lw_all) : GoodIn lw_all (c :: lw_all) := fun w hw => lw_good1 ((List.mem_cons.mp hw).elim (fun q => q ▸ h) id)
theorem lw_gcons {a : Cond} {ws : List Cond} (h : a ∈ lw_all) (g : GoodIn lw_all ws) : GoodIn lw_all (a :: ws) := fun w hw => (List.mem_cons.mp hw).elim (fun q => q ▸ lw_good1 h) (g w)
theorem lw_gV {own : String} {idx : Nat} {C : String} {y : MethodName} {cd : Cond} (a1 : Cond.methodLink own idx y ∈ lw_all) (a2 : Cond.instanceMethod y ∈ lw_all) (a3 : Cond.selects C y y ∈ lw_all) (a4 : Cond.initialized C ∈ lw_all) (a5 : cd ∈ lw_all) : GoodIn lw_all (wsV own idx C y (cd :: lw_all)) := lw_gcons a1 (lw_gcons a2 (lw_gcons a3 (lw_gcons a4 (lw_gc a5))))
theorem lw_gS {own : String} {idx : Nat} {y : MethodName} {cd : Cond} (a1 : Cond.methodLink own idx y ∈ lw_all) (a2 : Cond.static y ∈ lw_all) (a4 : Cond.initialized y.cls ∈ lw_all) (a5 : cd ∈ lw_all) : GoodIn lw_all (va_wsS own idx y (cd :: lw_all)) := lw_gcons a1 (lw_gcons a2 (lw_gcons a4 (lw_gc a5)))
theorem lw_gU {own C owner : String} {idx : Nat} {x y : MethodName} {cd : Cond} (a1 : Cond.methodLink own idx x ∈ lw_all) (a2 : Cond.sameMethod x.cls owner x.name x.desc ∈ lw_all) (a3 : Cond.selects C x y ∈ lw_all) (a4 : Cond.instanceMethod y ∈ lw_all) (a6 : Cond.initialized y.cls ∈ lw_all) (a5 : cd ∈ lw_all) : GoodIn lw_all (va_wsU own idx C owner x y (cd :: lw_all)) := lw_gcons a1 (lw_gcons a2 (lw_gcons a3 (lw_gcons a4 (lw_gcons a6 (lw_gc a5)))))
theorem lw_gSU {own : String} {idx : Nat} {y : MethodName} {cd : Cond} (a1 : Cond.methodLink own idx y ∈ lw_all) (a2 : Cond.sameMethod y.cls y.cls y.name y.desc ∈ lw_all) (a3 : Cond.superclass own y.cls ∈ lw_all) (a4 : Cond.instanceMethod y ∈ lw_all) (a6 : Cond.initialized y.cls ∈ lw_all) (a5 : cd ∈ lw_all) : GoodIn lw_all (va_wsSU own idx y (cd :: lw_all)) := lw_gcons a1 (lw_gcons a2 (lw_gcons a3 (lw_gcons a4 (lw_gcons a6 (lw_gc a5)))))
section ZC
variable {G : va_G} {cy : Nat → ClassId} {B nL : Nat} {ad0 : Nat → Nat} {f0 : zW} {p : Program} {l : Launch} {e : Env} {R : Room} {s : State} {m : MethodId} {args : Array Value} {below : List Frame} {meth : Method} {c : Code} {Q : State → Prop} {ad : Nat → Nat} {f : zW} {cells slots pc : Nat} {lv : List (Nat × Value)} {st : List Value} {cc : ByteArray} {ret : Option FieldType} {own : String}
theorem z_blind {av : List Value} : FrameBlind (va_Pc av (fun U => zP G B ad f U.heap ∧ zK G cy B U)) := fun a U g mk h => ⟨h.1, h.2.1, zK_step (U := U.calling g mk a) h.2.2 (State.WarmedH.refl U) (Nat.le_refl _) (fun _ _ _ => rfl)⟩
theorem z_pre (X : Cx G cy B ad0 f0 cc nL ret own p s m args meth c) {H : Heap} {d : Drawn} (h2 : zP G B ad f H) (h3 : zF ad0 f0 ad f s.heap H) (av : List Value) : ∀ U : State, U.heap = H → (s.setDrawn d).WarmedH U.vm → va_Pc av (fun U => zP G B ad f U.heap ∧ zK G cy B U) av.toArray U := fun U hU hW => ⟨rfl, by rw [hU]; exact h2, zK_step (s := s) X.2.2.2.2.2.1 hW (by rw [hU]; exact h3.1) (fun q a b => by rw [hU]; exact zP_below X.2.2.2.2.2.2.2.2 h3 q a b)⟩
theorem z_back {mc ms : Nat} {rest : List Value} {Post : Option Value → (Nat → Nat) → zW → Prop} (hr : ∀ (H : Heap) (locs : List Loc) (d : Drawn) (ls : Array Slot), zP G B ad f H → zF ad0 f0 ad f s.heap H → lv_has ls nL lv → va_RunD lw_cs p l e R (s.setDrawn d) m args below meth c H locs cells slots mc ms (F0 m pc ls st) rest (fun st oc t => ∃ v ad' f', oc = .returned v ∧ Post v ad' f' ∧ zP G B ad' f' t.heap ∧ zF ad f ad' f' st.heap t.heap) (fun q => B ≤ q)) (kk : ∀ (v : Option Value) (ad' : Nat → Nat) (f' : zW), Post v ad' f' → (∀ k, f k ≠ none → ad' k = ad k) → Z G B nL ad0 f0 p l e R s m args below meth c Q ad' f' (cells + mc) (slots + ms) (pc + 3) lv (v.toList ++ rest)) : Z G B nL ad0 f0 p l e R s m args below meth c Q ad f cells slots (pc) lv (st) := by
  intro H locs d ls h1 h2 h3 h4 h5 T hT X'
  obtain ⟨v, st₀, t, T', L, d', hd', h0, X2, hL, e1, e2, ⟨v', ad', f', hv, hp, hP, hF⟩, stp⟩ := hr H locs d ls h2 h3 h5 T hT X'
  cases hv
  rw [h0] at hF
  obtain ⟨t2, a1, b1⟩ := kk v ad' f' hp (fun k hk => (hF.2.2.1 k hk).2) T'.heap (locs ++ L) d' ls (h1.trans hd') (by rw [e1]; exact hP) (by rw [e1]; exact zF_trans h3 hF) (fun q hq => (List.mem_append.mp hq).elim (h4 q) (hL q)) h5 T' rfl X2
  exact ⟨t2, stp t2 a1, b1⟩
theorem z_callV (X : Cx G cy B ad0 f0 cc nL ret own p s m args meth c) {y : MethodName} {bytes : ByteArray} {maxL index n : Nat} {rt : Option FieldType} {rm : Room} {As rest : List Value} {Post : Option Value → (Nat → Nat) → zW → Prop}  {C : String} {T : u_T} {N ci a : Nat} {fs : List Value} (kc : Nat) (ha : ad kc = a) (hf : f kc = some (.inr (ci, fs))) (hc : vwCl[ci]? = some (C, T, N)) (hM : Ct l G cy B y bytes maxL rt rm ad f (.ref a :: As) Post) (a1 : Cond.methodLink own index y ∈ lw_all) (a2 : Cond.instanceMethod y ∈ lw_all) (a3 : Cond.selects C y y ∈ lw_all) (a4 : Cond.initialized C ∈ lw_all) (a5 : Cond.code y bytes maxL rt ∈ lw_all) (hd : y.cls = C ∧ y.cls ≠ "java/lang/invoke/MethodHandle" ∧ y.cls ≠ "java/lang/invoke/VarHandle" ∧ (parseMethodDescriptor y.desc).map (fun d => d.parameters.length) = some n) (hR : rm.frames + 1 ≤ R.frames ∧ 8 + (maxL + 11) + rm.locals ≤ R.locals) (hn : As.length = n) (hst : st = As.reverse ++ .ref a :: rest) (hW : (rest.map fun v => v.category).sum ≤ 8) (hdg : decode cc pc = .ok (.invokevirtual index, 3)) (hcs : cells + rm.cells ≤ R.cells ∧ slots + rm.slots ≤ R.slots) (kk : ∀ (v : Option Value) (ad' : Nat → Nat) (f' : zW), Post v ad' f' → (∀ k, f k ≠ none → ad' k = ad k) → Z G B nL ad0 f0 p l e R s m args below meth c Q ad' f' (cells + rm.cells) (slots + rm.slots) (pc + 3) lv (v.toList ++ rest)) : Z G B nL ad0 f0 p l e R s m args below meth c Q ad f cells slots (pc) lv (st) := by
  subst hst
  subst ha
  refine z_back (mc := rm.cells) (ms := rm.slots) (rest := rest) (fun H locs d ls h2 h3 h5 => ?_) kk
  exact va_runV_D ⟨X.1, X.2.1, X.2.2.1, cx_o X d, cx_w X d⟩ hM (cwV n (cx_w X d) (lw_gV a1 a2 a3 a4 a5) rfl rfl rfl hd hR) ⟨z_blind, va_recv (cx_K X d) (zP_one h2 hf) hc (q0 := 0) rfl, z_pre X h2 h3 _⟩ rfl hn h5.1 rfl (lv_room hW) hdg hcs
theorem z_callS (X : Cx G cy B ad0 f0 cc nL ret own p s m args meth c) {y : MethodName} {bytes : ByteArray} {maxL index n : Nat} {rt : Option FieldType} {rm : Room} {As rest : List Value} {Post : Option Value → (Nat → Nat) → zW → Prop}   (hM : Ct l G cy B y bytes maxL rt rm ad f (As) Post) (a1 : Cond.methodLink own index y ∈ lw_all) (a2 : Cond.static y ∈ lw_all) (a4 : Cond.initialized y.cls ∈ lw_all) (a5 : Cond.code y bytes maxL rt ∈ lw_all) (hd : y.cls ≠ "java/lang/invoke/MethodHandle" ∧ y.cls ≠ "java/lang/invoke/VarHandle" ∧ (parseMethodDescriptor y.desc).map (fun d => d.parameters.length) = some n) (hR : rm.frames + 1 ≤ R.frames ∧ 8 + (maxL + 11) + rm.locals ≤ R.locals) (hn : As.length = n) (hst : st = As.reverse ++ rest) (hW : (rest.map fun v => v.category).sum ≤ 8) (hdg : decode cc pc = .ok (.invokestatic index, 3)) (hcs : cells + rm.cells ≤ R.cells ∧ slots + rm.slots ≤ R.slots) (kk : ∀ (v : Option Value) (ad' : Nat → Nat) (f' : zW), Post v ad' f' → (∀ k, f k ≠ none → ad' k = ad k) → Z G B nL ad0 f0 p l e R s m args below meth c Q ad' f' (cells + rm.cells) (slots + rm.slots) (pc + 3) lv (v.toList ++ rest)) : Z G B nL ad0 f0 p l e R s m args below meth c Q ad f cells slots (pc) lv (st) := by
  subst hst
  skip
  refine z_back (mc := rm.cells) (ms := rm.slots) (rest := rest) (fun H locs d ls h2 h3 h5 => ?_) kk
  exact va_runS_D ⟨X.1, X.2.1, X.2.2.1, cx_o X d, cx_w X d⟩ hM (va_cwS n (cx_w X d) (lw_gS a1 a2 a4 a5) rfl rfl rfl hd hR) ⟨z_blind, z_pre X h2 h3 _⟩ rfl hn h5.1 rfl (lv_room hW) hdg hcs
theorem z_callSN (X : Cx G cy B ad0 f0 cc nL ret own p s m args meth c) {y : MethodName} {bytes : ByteArray} {maxL index n : Nat} {rt : Option FieldType} {rm : Room} {As rest : List Value} {Post : Option Value → (Nat → Nat) → zW → Prop}   (hM : Ct l G cy B y bytes maxL rt rm ad f (As) Post) (a1 : Cond.methodLinkNest own index y RX3 ∈ zN) (a2 : Cond.static y ∈ lw_all) (a4 : Cond.initialized y.cls ∈ lw_all) (a5 : Cond.code y bytes maxL rt ∈ lw_all) (hd : y.cls ≠ "java/lang/invoke/MethodHandle" ∧ y.cls ≠ "java/lang/invoke/VarHandle" ∧ (parseMethodDescriptor y.desc).map (fun d => d.parameters.length) = some n) (hR : rm.frames + 1 ≤ R.frames ∧ 8 + (maxL + 11) + rm.locals ≤ R.locals) (hn : As.length = n) (hst : st = As.reverse ++ rest) (hW : (rest.map fun v => v.category).sum ≤ 8) (hdg : decode cc pc = .ok (.invokestatic index, 3)) (hcs : cells + rm.cells ≤ R.cells ∧ slots + rm.slots ≤ R.slots) (kk : ∀ (v : Option Value) (ad' : Nat → Nat) (f' : zW), Post v ad' f' → (∀ k, f k ≠ none → ad' k = ad k) → Z G B nL ad0 f0 p l e R s m args below meth c Q ad' f' (cells + rm.cells) (slots + rm.slots) (pc + 3) lv (v.toList ++ rest)) : Z G B nL ad0 f0 p l e R s m args below meth c Q ad f cells slots (pc) lv (st) := by
  subst hst
  skip
  refine z_back (mc := rm.cells) (ms := rm.slots) (rest := rest) (fun H locs d ls h2 h3 h5 => ?_) kk
  exact va_runSN_D ⟨X.1, X.2.1, X.2.2.1, cx_o X d, cx_w X d⟩ hM (⟨va_cnB n (cx_w X d) (lw_gc a5) rfl rfl rfl (va_Nw.of rfl (cx_n X d _ a1)) (cx_w X d _ a4) hd hR, cx_w X d _ a2, trivial⟩) ⟨z_blind, z_pre X h2 h3 _⟩ rfl hn h5.1 rfl (lv_room hW) hdg hcs
theorem z_callI (X : Cx G cy B ad0 f0 cc nL ret own p s m args meth c) {y : MethodName} {bytes : ByteArray} {maxL index n a : Nat} {rm : Room} {As rest : List Value} {Post : Option Value → (Nat → Nat) → zW → Prop} (hM : Ct l G cy B y bytes maxL none rm ad f (.ref a :: As) Post) (a1 : Cond.methodLink own index y ∈ lw_all) (a2 : Cond.instanceMethod y ∈ lw_all) (a4 : Cond.initialized y.cls ∈ lw_all) (a5 : Cond.code y bytes maxL none ∈ lw_all) (hy : y.name = "<init>") (hd : y.cls ≠ "java/lang/invoke/MethodHandle" ∧ y.cls ≠ "java/lang/invoke/VarHandle" ∧ (parseMethodDescriptor y.desc).map (fun d => d.parameters.length) = some n) (hR : rm.frames + 1 ≤ R.frames ∧ 8 + (maxL + 11) + rm.locals ≤ R.locals) (hn : As.length = n) (hst : st = As.reverse ++ .ref a :: rest) (hW : (rest.map fun v => v.category).sum ≤ 8) (hdg : decode cc pc = .ok (.invokespecial index, 3)) (hcs : cells + rm.cells ≤ R.cells ∧ slots + rm.slots ≤ R.slots) (kk : ∀ (v : Option Value) (ad' : Nat → Nat) (f' : zW), Post v ad' f' → (∀ k, f k ≠ none → ad' k = ad k) → Z G B nL ad0 f0 p l e R s m args below meth c Q ad' f' (cells + rm.cells) (slots + rm.slots) (pc + 3) lv (v.toList ++ rest)) : Z G B nL ad0 f0 p l e R s m args below meth c Q ad f cells slots (pc) lv (st) := by
  subst hst
  refine z_back (mc := rm.cells) (ms := rm.slots) (rest := rest) (fun H locs d ls h2 h3 h5 => ?_) kk
  exact va_runI_D ⟨X.1, X.2.1, X.2.2.1, cx_o X d, cx_w X d⟩ hM (cwI n (cx_w X d) (lw_gc a5) rfl rfl rfl (cx_w X d _ a4) (cx_w X d _ a1) (cx_w X d _ a2) hy hd hR) ⟨z_blind, z_pre X h2 h3 _⟩ rfl hn h5.1 rfl (lv_room hW) hdg hcs
theorem z_callU (X : Cx G cy B ad0 f0 cc nL ret own p s m args meth c) {y : MethodName} {bytes : ByteArray} {maxL index n : Nat} {rt : Option FieldType} {rm : Room} {As rest : List Value} {Post : Option Value → (Nat → Nat) → zW → Prop} {x : MethodName} {owner : String} {C : String} {T : u_T} {N ci a : Nat} {fs : List Value} (kc : Nat) (ha : ad kc = a) (hf : f kc = some (.inr (ci, fs))) (hc : vwCl[ci]? = some (C, T, N)) (hM : Ct l G cy B y bytes maxL rt rm ad f (.ref a :: As) Post) (a1 : Cond.methodLink own index x ∈ lw_all) (a2 : Cond.sameMethod x.cls owner x.name x.desc ∈ lw_all) (a3 : Cond.selects C x y ∈ lw_all) (a4 : Cond.instanceMethod y ∈ lw_all) (a6 : Cond.initialized y.cls ∈ lw_all) (a5 : Cond.code y bytes maxL rt ∈ lw_all) (hyx : y = ⟨owner, x.name, x.desc⟩) (hd : owner ≠ "java/lang/invoke/MethodHandle" ∧ owner ≠ "java/lang/invoke/VarHandle" ∧ (parseMethodDescriptor x.desc).map (fun d => d.parameters.length) = some n) (hR : rm.frames + 1 ≤ R.frames ∧ 8 + (maxL + 11) + rm.locals ≤ R.locals) (hn : As.length = n) (hst : st = As.reverse ++ .ref a :: rest) (hW : (rest.map fun v => v.category).sum ≤ 8) (hdg : decode cc pc = .ok (.invokevirtual index, 3)) (hcs : cells + rm.cells ≤ R.cells ∧ slots + rm.slots ≤ R.slots) (kk : ∀ (v : Option Value) (ad' : Nat → Nat) (f' : zW), Post v ad' f' → (∀ k, f k ≠ none → ad' k = ad k) → Z G B nL ad0 f0 p l e R s m args below meth c Q ad' f' (cells + rm.cells) (slots + rm.slots) (pc + 3) lv (v.toList ++ rest)) : Z G B nL ad0 f0 p l e R s m args below meth c Q ad f cells slots (pc) lv (st) := by
  subst hst
  subst ha
  refine z_back (mc := rm.cells) (ms := rm.slots) (rest := rest) (fun H locs d ls h2 h3 h5 => ?_) kk
  exact va_runU_D ⟨X.1, X.2.1, X.2.2.1, cx_o X d, cx_w X d⟩ hM (va_cwU n (cx_w X d) (lw_gU a1 a2 a3 a4 a6 a5) rfl rfl rfl hyx hd hR) ⟨z_blind, va_recv (cx_K X d) (zP_one h2 hf) hc (q0 := 0) rfl, z_pre X h2 h3 _⟩ rfl hn h5.1 rfl (lv_room hW) hdg hcs
theorem z_callSU (X : Cx G cy B ad0 f0 cc nL ret own p s m args meth c) {y : MethodName} {bytes : ByteArray} {maxL index n : Nat} {rt : Option FieldType} {rm : Room} {As rest : List Value} {Post : Option Value → (Nat → Nat) → zW → Prop} {C : String} {T : u_T} {N ci a : Nat} {fs : List Value} (kc : Nat) (ha : ad kc = a) (hf : f kc = some (.inr (ci, fs))) (hc : vwCl[ci]? = some (C, T, N)) (hM : Ct l G cy B y bytes maxL rt rm ad f (.ref a :: As) Post) (a1 : Cond.methodLink own index y ∈ lw_all) (a2 : Cond.sameMethod y.cls y.cls y.name y.desc ∈ lw_all) (a3 : Cond.superclass own y.cls ∈ lw_all) (a4 : Cond.instanceMethod y ∈ lw_all) (a6 : Cond.initialized y.cls ∈ lw_all) (a5 : Cond.code y bytes maxL rt ∈ lw_all) (hd : y.name ≠ "<init>" ∧ (parseMethodDescriptor y.desc).map (fun d => d.parameters.length) = some n) (hR : rm.frames + 1 ≤ R.frames ∧ 8 + (maxL + 11) + rm.locals ≤ R.locals) (hn : As.length = n) (hst : st = As.reverse ++ .ref a :: rest) (hW : (rest.map fun v => v.category).sum ≤ 8) (hdg : decode cc pc = .ok (.invokespecial index, 3)) (hcs : cells + rm.cells ≤ R.cells ∧ slots + rm.slots ≤ R.slots) (kk : ∀ (v : Option Value) (ad' : Nat → Nat) (f' : zW), Post v ad' f' → (∀ k, f k ≠ none → ad' k = ad k) → Z G B nL ad0 f0 p l e R s m args below meth c Q ad' f' (cells + rm.cells) (slots + rm.slots) (pc + 3) lv (v.toList ++ rest)) : Z G B nL ad0 f0 p l e R s m args below meth c Q ad f cells slots (pc) lv (st) := by
  subst hst
  subst ha
  refine z_back (mc := rm.cells) (ms := rm.slots) (rest := rest) (fun H locs d ls h2 h3 h5 => ?_) kk
  exact va_runSU_D ((cx_K X d).1 ci _ hc).2 ⟨X.1, X.2.1, X.2.2.1, cx_o X d, cx_w X d⟩ hM (va_cwSU n (cx_w X d) (lw_gSU a1 a2 a3 a4 a6 a5) rfl rfl rfl hd hR) ⟨z_blind, va_recv (cx_K X d) (zP_one h2 hf) hc (q0 := 0) rfl, z_pre X h2 h3 _⟩ rfl hn h5.1 rfl (lv_room hW) hdg hcs
/-- the end that a contract asks -/
def zEnd (G : va_G) (B : Nat) (ad : Nat → Nat) (f : zW) (below : List Frame) (args : Array Value) (s : State) (rm : Room) (Post : Option Value → (Nat → Nat) → zW → Prop) : State → Prop := MQD lw_cs below (fun _ st oc t => ∃ v ad' f', oc = .returned v ∧ Post v ad' f' ∧ zP G B ad' f' t.heap ∧ zF ad f ad' f' st.heap t.heap) args s rm.cells rm.slots (fun q => B ≤ q)
theorem ct_of {y : MethodName} {maxL : Nat} {rm : Room} {av : List Value} {Post : Option Value → (Nat → Nat) → zW → Prop} (hy : plainName y.cls = true) (hlen : (lg_sl av).length ≤ maxL) (body : ∀ (p : Program) (e : Env) (s : State) (m : MethodId) (args : Array Value) (below : List Frame) (meth : Method) (c : Code), Cx G cy B ad f cc maxL ret y.cls p s m args meth c → meth.name = y.name → Z G B maxL ad f p l e rm s m args below meth c (zEnd G B ad f below args s rm Post) ad f 0 0 0 (lv_args 0 av) []) : Ct l G cy B y cc maxL ret rm ad f av Post := by
  refine MetD.ofW (cc := cc) (maxL := maxL) (ret := ret) hy rfl ?_
  intro p e s m args below meth c s₁ B0 hml hv hd0
  obtain ⟨rfl, hP, hK⟩ := hv
  have X : Cx G cy B ad f cc maxL ret y.cls p s m av.toArray meth c := ⟨B0.exec, B0.bytes, hml, findClass_of_methodNamed B0.named, fun w hw => atoms_spec B0.pre w (List.mem_cons_of_mem _ hw), hK, B0.notSynchronized, B0.returns, hP⟩
  rw [lg_entry_eq]
  exact body p e s m av.toArray below meth c X (name_of_methodNamed B0.named B0.method).1 s.heap [] s.drawn _ hd0 hP zF_rfl (fun _ h => by cases h) (lv_entry av hlen)
theorem z_iret {rm : Room} {Post : Option Value → (Nat → Nat) → zW → Prop} {x : Int32} (X : Cx G cy B ad0 f0 cc nL (some .int) own p s m args meth c) (w1 : cells ≤ rm.cells) (w2 : slots ≤ rm.slots) (hp : Post (some (.int x)) ad f) (hdg : decode cc pc = .ok (.ireturn, 1)) : Z G B nL ad0 f0 p l e R s m args below meth c (zEnd G B ad0 f0 below args s rm Post) ad f cells slots pc lv [.int x] := by
  refine z_widen w1 w2 ?_
  intro H locs d ls h1 h2 h3 h4 h5
  refine W.endD h1 ?_
  exact W.iret X.1 X.2.1 X.2.2.2.2.2.2.2.1 (fun t ht hW => ⟨(some (.int x)), ad, f, rfl, hp, by rw [ht]; exact h2, by rw [ht]; exact h3⟩) h4 hdg X.2.2.2.2.2.2.1
theorem z_zret {rm : Room} {Post : Option Value → (Nat → Nat) → zW → Prop} {x : Int32} {ty : FieldType} (hnar : narrow ty (.int x) = .int x) (X : Cx G cy B ad0 f0 cc nL (some ty) own p s m args meth c) (w1 : cells ≤ rm.cells) (w2 : slots ≤ rm.slots) (hp : Post (some (.int x)) ad f) (hdg : decode cc pc = .ok (.ireturn, 1)) : Z G B nL ad0 f0 p l e R s m args below meth c (zEnd G B ad0 f0 below args s rm Post) ad f cells slots pc lv [.int x] := by
  refine z_widen w1 w2 ?_
  intro H locs d ls h1 h2 h3 h4 h5
  refine W.endD h1 ?_
  exact W.zret X.1 X.2.1 X.2.2.2.2.2.2.2.1 hnar (fun t ht hW => ⟨(some (.int x)), ad, f, rfl, hp, by rw [ht]; exact h2, by rw [ht]; exact h3⟩) h4 hdg X.2.2.2.2.2.2.1
theorem z_lret {rm : Room} {Post : Option Value → (Nat → Nat) → zW → Prop} {x : Int64} (X : Cx G cy B ad0 f0 cc nL (some .long) own p s m args meth c) (w1 : cells ≤ rm.cells) (w2 : slots ≤ rm.slots) (hp : Post (some (.long x)) ad f) (hdg : decode cc pc = .ok (.lreturn, 1)) : Z G B nL ad0 f0 p l e R s m args below meth c (zEnd G B ad0 f0 below args s rm Post) ad f cells slots pc lv [.long x] := by
  refine z_widen w1 w2 ?_
  intro H locs d ls h1 h2 h3 h4 h5
  refine W.endD h1 ?_
  exact W.lret X.1 X.2.1 X.2.2.2.2.2.2.2.1 (fun t ht hW => ⟨(some (.long x)), ad, f, rfl, hp, by rw [ht]; exact h2, by rw [ht]; exact h3⟩) h4 hdg X.2.2.2.2.2.2.1
theorem z_dret {rm : Room} {Post : Option Value → (Nat → Nat) → zW → Prop} {x : UInt64} (X : Cx G cy B ad0 f0 cc nL (some .double) own p s m args meth c) (w1 : cells ≤ rm.cells) (w2 : slots ≤ rm.slots) (hp : Post (some (.double x)) ad f) (hdg : decode cc pc = .ok (.dreturn, 1)) : Z G B nL ad0 f0 p l e R s m args below meth c (zEnd G B ad0 f0 below args s rm Post) ad f cells slots pc lv [.double x] := by
  refine z_widen w1 w2 ?_
  intro H locs d ls h1 h2 h3 h4 h5
  refine W.endD h1 ?_
  exact W.dret X.1 X.2.1 X.2.2.2.2.2.2.2.1 (fun t ht hW => ⟨(some (.double x)), ad, f, rfl, hp, by rw [ht]; exact h2, by rw [ht]; exact h3⟩) h4 hdg X.2.2.2.2.2.2.1
theorem z_aret {rm : Room} {Post : Option Value → (Nat → Nat) → zW → Prop} {x : Nat} {C : String} (X : Cx G cy B ad0 f0 cc nL (some (.object C)) own p s m args meth c) (w1 : cells ≤ rm.cells) (w2 : slots ≤ rm.slots) (hp : Post (some (.ref x)) ad f) (hdg : decode cc pc = .ok (.areturn, 1)) : Z G B nL ad0 f0 p l e R s m args below meth c (zEnd G B ad0 f0 below args s rm Post) ad f cells slots pc lv [.ref x] := by
  refine z_widen w1 w2 ?_
  intro H locs d ls h1 h2 h3 h4 h5
  refine W.endD h1 ?_
  exact W.aret X.1 X.2.1 X.2.2.2.2.2.2.2.1 (Or.inl ⟨_, rfl⟩) (Or.inr ⟨_, rfl⟩) (fun t ht hW => ⟨(some (.ref x)), ad, f, rfl, hp, by rw [ht]; exact h2, by rw [ht]; exact h3⟩) h4 hdg X.2.2.2.2.2.2.1
theorem z_aretN {rm : Room} {Post : Option Value → (Nat → Nat) → zW → Prop} {C : String} (X : Cx G cy B ad0 f0 cc nL (some (.object C)) own p s m args meth c) (w1 : cells ≤ rm.cells) (w2 : slots ≤ rm.slots) (hp : Post (some .null) ad f) (hdg : decode cc pc = .ok (.areturn, 1)) : Z G B nL ad0 f0 p l e R s m args below meth c (zEnd G B ad0 f0 below args s rm Post) ad f cells slots pc lv [.null] := by
  refine z_widen w1 w2 ?_
  intro H locs d ls h1 h2 h3 h4 h5
  refine W.endD h1 ?_
  exact W.aret X.1 X.2.1 X.2.2.2.2.2.2.2.1 (Or.inl ⟨_, rfl⟩) (Or.inl rfl) (fun t ht hW => ⟨(some .null), ad, f, rfl, hp, by rw [ht]; exact h2, by rw [ht]; exact h3⟩) h4 hdg X.2.2.2.2.2.2.1
theorem z_vret {rm : Room} {Post : Option Value → (Nat → Nat) → zW → Prop}  (X : Cx G cy B ad0 f0 cc nL none own p s m args meth c) (w1 : cells ≤ rm.cells) (w2 : slots ≤ rm.slots) (hp : Post none ad f) (hdg : decode cc pc = .ok (.return_, 1)) : Z G B nL ad0 f0 p l e R s m args below meth c (zEnd G B ad0 f0 below args s rm Post) ad f cells slots pc lv [] := by
  refine z_widen w1 w2 ?_
  intro H locs d ls h1 h2 h3 h4 h5
  refine W.endD h1 ?_
  exact W.vret X.1 X.2.1 X.2.2.2.2.2.2.2.1 (fun t ht hW => ⟨none, ad, f, rfl, hp, by rw [ht]; exact h2, by rw [ht]; exact h3⟩) h4 hdg X.2.2.2.2.2.2.1
end ZC
end
section
/-- 0 or 1 -/
theorem b01_0 {P : Prop} [Decidable P] : (if P then 1 else 0 : Nat) = 0 ↔ ¬ P := by by_cases h : P <;> simp [h]
theorem b01_n {P : Prop} [Decidable P] : (if P then 1 else 0 : Nat) ≠ 0 ↔ P := by by_cases h : P <;> simp [h]
theorem b01_lt {P : Prop} [Decidable P] : (if P then 1 else 0 : Nat) < 2 ^ 31 := by by_cases h : P <;> simp [h]
section ZN
variable {G : va_G} {cy : Nat → ClassId} {B nL : Nat} {ad0 : Nat → Nat} {f0 : zW} {p : Program} {l : Launch} {e : Env} {R : Room} {s : State} {m : MethodId} {args : Array Value} {below : List Frame} {meth : Method} {c : Code} {Q : State → Prop} {ad : Nat → Nat} {f : zW} {cells slots pc : Nat} {lv : List (Nat × Value)} {st : List Value} {cc : ByteArray} {ret : Option FieldType} {own : String}
theorem z_st {st' : List Value} (h : st = st') (k : Z G B nL ad0 f0 p l e R s m args below meth c Q ad f cells slots (pc) lv (st')) : Z G B nL ad0 f0 p l e R s m args below meth c Q ad f cells slots (pc) lv (st) := h ▸ k
theorem z_f {f' : zW} (h : f = f') (k : Z G B nL ad0 f0 p l e R s m args below meth c Q ad f' cells slots (pc) lv (st)) : Z G B nL ad0 f0 p l e R s m args below meth c Q ad f cells slots (pc) lv (st) := h ▸ k
theorem z_pc {pc' : Nat} (h : pc = pc') (k : Z G B nL ad0 f0 p l e R s m args below meth c Q ad f cells slots (pc') lv (st)) : Z G B nL ad0 f0 p l e R s m args below meth c Q ad f cells slots (pc) lv (st) := h ▸ k
theorem z_top {v v' : Value} (h : v = v') (k : Z G B nL ad0 f0 p l e R s m args below meth c Q ad f cells slots (pc) lv (v' :: st)) : Z G B nL ad0 f0 p l e R s m args below meth c Q ad f cells slots (pc) lv (v :: st) := h ▸ k
theorem z_iaddN (X : Cx G cy B ad0 f0 cc nL ret own p s m args meth c) {a b : Nat} (hdg : decode cc pc = .ok (.iadd, 1)) (k : Z G B nL ad0 f0 p l e R s m args below meth c Q ad f cells slots (pc + 1) lv (.int (nI (a + b)) :: st)) : Z G B nL ad0 f0 p l e R s m args below meth c Q ad f cells slots (pc) lv (.int (nI b) :: .int (nI a) :: st) := z_iadd X hdg (z_top (by rw [nI_add]) k)
theorem z_isubN (X : Cx G cy B ad0 f0 cc nL ret own p s m args meth c) {a b : Nat} (h : b ≤ a) (hdg : decode cc pc = .ok (.isub, 1)) (k : Z G B nL ad0 f0 p l e R s m args below meth c Q ad f cells slots (pc + 1) lv (.int (nI (a - b)) :: st)) : Z G B nL ad0 f0 p l e R s m args below meth c Q ad f cells slots (pc) lv (.int (nI b) :: .int (nI a) :: st) := z_isub X hdg (z_top (by rw [pk_sub h]) k)
theorem z_imulN (X : Cx G cy B ad0 f0 cc nL ret own p s m args meth c) {a b : Nat} (hdg : decode cc pc = .ok (.imul, 1)) (k : Z G B nL ad0 f0 p l e R s m args below meth c Q ad f cells slots (pc + 1) lv (.int (nI (a * b)) :: st)) : Z G B nL ad0 f0 p l e R s m args below meth c Q ad f cells slots (pc) lv (.int (nI b) :: .int (nI a) :: st) := z_imul X hdg (z_top (by rw [pk_mul]) k)
theorem z_i2lN (X : Cx G cy B ad0 f0 cc nL ret own p s m args meth c) {a : Nat} (h : a < 2 ^ 31) (hdg : decode cc pc = .ok (.i2l, 1)) (k : Z G B nL ad0 f0 p l e R s m args below meth c Q ad f cells slots (pc + 1) lv (.long (lN a) :: st)) : Z G B nL ad0 f0 p l e R s m args below meth c Q ad f cells slots (pc) lv (.int (nI a) :: st) := z_i2l X hdg (z_top (by rw [nI_l h]) k)
theorem z_iincN (X : Cx G cy B ad0 f0 cc nL ret own p s m args meth c) (q : Nat) {lv' : List (Nat × Value)} {i a k : Nat} {n : Int} (hdg : decode cc pc = .ok (.iinc i n, 3)) (hq : lv[q]? = some (i, .int (nI a))) (hv : Int32.ofInt n = nI k) (hn : i < nL) (hl : (i, Value.int (nI (a + k))) :: lv.filter (fun q => !(q.1 == i) && !(q.1 + 1 == i && q.2.category == 2)) = lv') (kk : Z G B nL ad0 f0 p l e R s m args below meth c Q ad f cells slots (pc + 3) lv' (st)) : Z G B nL ad0 f0 p l e R s m args below meth c Q ad f cells slots (pc) lv (st) := z_iinc X q (v := nI (a + k)) hdg hq (by rw [hv, nI_add]) hn hl kk
theorem z_icmp_eqN (X : Cx G cy B ad0 f0 cc nL ret own p s m args meth c) {a b : Nat} {off : Int} {tgt : Nat} (ha : a < 2 ^ 31) (hb : b < 2 ^ 31) (hdg : decode cc pc = .ok (.if_icmp .eq off, 3)) (ht : (pc : Int) + off = (tgt : Int)) (kt : a = b → Z G B nL ad0 f0 p l e R s m args below meth c Q ad f cells slots (tgt) lv (st)) (kf : a ≠ b → Z G B nL ad0 f0 p l e R s m args below meth c Q ad f cells slots (pc + 3) lv (st)) : Z G B nL ad0 f0 p l e R s m args below meth c Q ad f cells slots (pc) lv (.int (nI b) :: .int (nI a) :: st) := z_icmp_eq X hdg ht (fun z => kt ((nI_eq ha hb).mp z)) (fun z => kf (fun w => z ((nI_eq ha hb).mpr w)))
theorem z_icmp_ltN (X : Cx G cy B ad0 f0 cc nL ret own p s m args meth c) {a b : Nat} {off : Int} {tgt : Nat} (ha : a < 2 ^ 31) (hb : b < 2 ^ 31) (hdg : decode cc pc = .ok (.if_icmp .lt off, 3)) (ht : (pc : Int) + off = (tgt : Int)) (kt : a < b → Z G B nL ad0 f0 p l e R s m args below meth c Q ad f cells slots (tgt) lv (st)) (kf : b ≤ a → Z G B nL ad0 f0 p l e R s m args below meth c Q ad f cells slots (pc + 3) lv (st)) : Z G B nL ad0 f0 p l e R s m args below meth c Q ad f cells slots (pc) lv (.int (nI b) :: .int (nI a) :: st) := z_icmp_lt X hdg ht (fun z => kt ((nI_ltI ha hb).mp z)) (fun z => kf (Nat.not_lt.mp fun w => z ((nI_ltI ha hb).mpr w)))
theorem z_icmp_geN (X : Cx G cy B ad0 f0 cc nL ret own p s m args meth c) {a b : Nat} {off : Int} {tgt : Nat} (ha : a < 2 ^ 31) (hb : b < 2 ^ 31) (hdg : decode cc pc = .ok (.if_icmp .ge off, 3)) (ht : (pc : Int) + off = (tgt : Int)) (kt : b ≤ a → Z G B nL ad0 f0 p l e R s m args below meth c Q ad f cells slots (tgt) lv (st)) (kf : a < b → Z G B nL ad0 f0 p l e R s m args below meth c Q ad f cells slots (pc + 3) lv (st)) : Z G B nL ad0 f0 p l e R s m args below meth c Q ad f cells slots (pc) lv (.int (nI b) :: .int (nI a) :: st) := z_icmp_ge X hdg ht (fun z => kt ((nI_leI hb ha).mp z)) (fun z => kf (Nat.not_le.mp fun w => z ((nI_leI hb ha).mpr w)))
theorem z_icmp_gtN (X : Cx G cy B ad0 f0 cc nL ret own p s m args meth c) {a b : Nat} {off : Int} {tgt : Nat} (ha : a < 2 ^ 31) (hb : b < 2 ^ 31) (hdg : decode cc pc = .ok (.if_icmp .gt off, 3)) (ht : (pc : Int) + off = (tgt : Int)) (kt : b < a → Z G B nL ad0 f0 p l e R s m args below meth c Q ad f cells slots (tgt) lv (st)) (kf : a ≤ b → Z G B nL ad0 f0 p l e R s m args below meth c Q ad f cells slots (pc + 3) lv (st)) : Z G B nL ad0 f0 p l e R s m args below meth c Q ad f cells slots (pc) lv (.int (nI b) :: .int (nI a) :: st) := z_icmp_gt X hdg ht (fun z => kt ((nI_ltI hb ha).mp z)) (fun z => kf (Nat.not_lt.mp fun w => z ((nI_ltI hb ha).mpr w)))
theorem z_icmp_leN (X : Cx G cy B ad0 f0 cc nL ret own p s m args meth c) {a b : Nat} {off : Int} {tgt : Nat} (ha : a < 2 ^ 31) (hb : b < 2 ^ 31) (hdg : decode cc pc = .ok (.if_icmp .le off, 3)) (ht : (pc : Int) + off = (tgt : Int)) (kt : a ≤ b → Z G B nL ad0 f0 p l e R s m args below meth c Q ad f cells slots (tgt) lv (st)) (kf : b < a → Z G B nL ad0 f0 p l e R s m args below meth c Q ad f cells slots (pc + 3) lv (st)) : Z G B nL ad0 f0 p l e R s m args below meth c Q ad f cells slots (pc) lv (.int (nI b) :: .int (nI a) :: st) := z_icmp_le X hdg ht (fun z => kt ((nI_leI ha hb).mp z)) (fun z => kf (Nat.not_le.mp fun w => z ((nI_leI ha hb).mpr w)))
theorem z_icmp_neN (X : Cx G cy B ad0 f0 cc nL ret own p s m args meth c) {a b : Nat} {off : Int} {tgt : Nat} (ha : a < 2 ^ 31) (hb : b < 2 ^ 31) (hdg : decode cc pc = .ok (.if_icmp .ne off, 3)) (ht : (pc : Int) + off = (tgt : Int)) (kt : a ≠ b → Z G B nL ad0 f0 p l e R s m args below meth c Q ad f cells slots (tgt) lv (st)) (kf : a = b → Z G B nL ad0 f0 p l e R s m args below meth c Q ad f cells slots (pc + 3) lv (st)) : Z G B nL ad0 f0 p l e R s m args below meth c Q ad f cells slots (pc) lv (.int (nI b) :: .int (nI a) :: st) := z_icmp_ne X hdg ht (fun z => kt (fun w => z ((nI_eq ha hb).mpr w))) (fun z => kf ((nI_eq ha hb).mp z))
theorem z_if_ltN (X : Cx G cy B ad0 f0 cc nL ret own p s m args meth c) {a : Nat} {off : Int} {tgt : Nat} (ha : a < 2 ^ 31) (hdg : decode cc pc = .ok (.ifCond .lt off, 3)) (ht : (pc : Int) + off = (tgt : Int)) (kf : Z G B nL ad0 f0 p l e R s m args below meth c Q ad f cells slots (pc + 3) lv (st)) : Z G B nL ad0 f0 p l e R s m args below meth c Q ad f cells slots (pc) lv (.int (nI a) :: st) := z_if_lt X hdg ht (fun z => absurd z (nI_pos ha)) (fun _ => kf)
theorem z_if_geN (X : Cx G cy B ad0 f0 cc nL ret own p s m args meth c) {a : Nat} {off : Int} {tgt : Nat} (ha : a < 2 ^ 31) (hdg : decode cc pc = .ok (.ifCond .ge off, 3)) (ht : (pc : Int) + off = (tgt : Int)) (kt : Z G B nL ad0 f0 p l e R s m args below meth c Q ad f cells slots (tgt) lv (st)) : Z G B nL ad0 f0 p l e R s m args below meth c Q ad f cells slots (pc) lv (.int (nI a) :: st) := z_if_ge X hdg ht (fun _ => kt) (fun z => absurd (nI_pos' ha) z)
theorem z_if_leN (X : Cx G cy B ad0 f0 cc nL ret own p s m args meth c) {a : Nat} {off : Int} {tgt : Nat} (ha : a < 2 ^ 31) (hdg : decode cc pc = .ok (.ifCond .le off, 3)) (ht : (pc : Int) + off = (tgt : Int)) (kt : a = 0 → Z G B nL ad0 f0 p l e R s m args below meth c Q ad f cells slots (tgt) lv (st)) (kf : 0 < a → Z G B nL ad0 f0 p l e R s m args below meth c Q ad f cells slots (pc + 3) lv (st)) : Z G B nL ad0 f0 p l e R s m args below meth c Q ad f cells slots (pc) lv (.int (nI a) :: st) := z_if_le X hdg ht (fun z => kt (by by_cases h : a = 0; exact h; exact absurd z (nI_nle (by omega) ha))) (fun z => kf (by by_cases h : a = 0; subst h; exact absurd (by decide) z; omega))
theorem z_if_eqN (X : Cx G cy B ad0 f0 cc nL ret own p s m args meth c) {a : Nat} {off : Int} {tgt : Nat} (ha : a < 2 ^ 31) (hdg : decode cc pc = .ok (.ifCond .eq off, 3)) (ht : (pc : Int) + off = (tgt : Int)) (kt : a = 0 → Z G B nL ad0 f0 p l e R s m args below meth c Q ad f cells slots (tgt) lv (st)) (kf : a ≠ 0 → Z G B nL ad0 f0 p l e R s m args below meth c Q ad f cells slots (pc + 3) lv (st)) : Z G B nL ad0 f0 p l e R s m args below meth c Q ad f cells slots (pc) lv (.int (nI a) :: st) := z_if_eq X hdg ht (fun z => kt ((nI_eq ha (by decide)).mp (z.trans nI_0.symm))) (fun z => kf (fun w => z (by rw [w, nI_0])))
theorem z_if_neN (X : Cx G cy B ad0 f0 cc nL ret own p s m args meth c) {a : Nat} {off : Int} {tgt : Nat} (ha : a < 2 ^ 31) (hdg : decode cc pc = .ok (.ifCond .ne off, 3)) (ht : (pc : Int) + off = (tgt : Int)) (kt : a ≠ 0 → Z G B nL ad0 f0 p l e R s m args below meth c Q ad f cells slots (tgt) lv (st)) (kf : a = 0 → Z G B nL ad0 f0 p l e R s m args below meth c Q ad f cells slots (pc + 3) lv (st)) : Z G B nL ad0 f0 p l e R s m args below meth c Q ad f cells slots (pc) lv (.int (nI a) :: st) := z_if_ne X hdg ht (fun z => kt (fun w => z (by rw [w, nI_0]))) (fun z => kf ((nI_eq ha (by decide)).mp (z.trans nI_0.symm)))
theorem z_if_eqB (X : Cx G cy B ad0 f0 cc nL ret own p s m args meth c) {P : Prop} [Decidable P] {off : Int} {tgt : Nat} (hdg : decode cc pc = .ok (.ifCond .eq off, 3)) (ht : (pc : Int) + off = (tgt : Int)) (kt : ¬ P → Z G B nL ad0 f0 p l e R s m args below meth c Q ad f cells slots (tgt) lv (st)) (kf : P → Z G B nL ad0 f0 p l e R s m args below meth c Q ad f cells slots (pc + 3) lv (st)) : Z G B nL ad0 f0 p l e R s m args below meth c Q ad f cells slots (pc) lv (.int (nI (if P then 1 else 0)) :: st) := z_if_eqN X b01_lt hdg ht (fun z => kt (b01_0.mp z)) (fun z => kf (b01_n.mp z))
theorem z_if_neB (X : Cx G cy B ad0 f0 cc nL ret own p s m args meth c) {P : Prop} [Decidable P] {off : Int} {tgt : Nat} (hdg : decode cc pc = .ok (.ifCond .ne off, 3)) (ht : (pc : Int) + off = (tgt : Int)) (kt : P → Z G B nL ad0 f0 p l e R s m args below meth c Q ad f cells slots (tgt) lv (st)) (kf : ¬ P → Z G B nL ad0 f0 p l e R s m args below meth c Q ad f cells slots (pc + 3) lv (st)) : Z G B nL ad0 f0 p l e R s m args below meth c Q ad f cells slots (pc) lv (.int (nI (if P then 1 else 0)) :: st) := z_if_neN X b01_lt hdg ht (fun z => kt (b01_n.mp z)) (fun z => kf (b01_0.mp z))
theorem z_ialdN (X : Cx G cy B ad0 f0 cc nL ret own p s m args meth c) {a n j : Nat} {g : Nat → Int32} (kc : Nat) (ha : ad kc = a) (hf : f kc = some (.inl (cy 1, n, .inl g))) (hj : j < n) (hn : n < 2 ^ 31) (hdg : decode cc pc = .ok (.iaload, 1)) (kk : Z G B nL ad0 f0 p l e R s m args below meth c Q ad f cells slots (pc + 1) lv (.int (g j) :: st)) : Z G B nL ad0 f0 p l e R s m args below meth c Q ad f cells slots (pc) lv (.int (nI j) :: .ref a :: st) := z_iald X kc ha hf (vp_in_nI hj hn) hdg (by rw [nI_clamp (by omega)]; exact kk)
theorem z_laldN (X : Cx G cy B ad0 f0 cc nL ret own p s m args meth c) {a n j : Nat} {g : Nat → Int64} (kc : Nat) (ha : ad kc = a) (hf : f kc = some (.inl (cy 0, n, .inr (.inl g)))) (hj : j < n) (hn : n < 2 ^ 31) (hdg : decode cc pc = .ok (.laload, 1)) (kk : Z G B nL ad0 f0 p l e R s m args below meth c Q ad f cells slots (pc + 1) lv (.long (g j) :: st)) : Z G B nL ad0 f0 p l e R s m args below meth c Q ad f cells slots (pc) lv (.int (nI j) :: .ref a :: st) := z_lald X kc ha hf (vp_in_nI hj hn) hdg (by rw [nI_clamp (by omega)]; exact kk)
theorem z_daldN (X : Cx G cy B ad0 f0 cc nL ret own p s m args meth c) {a n j : Nat} {g : Nat → UInt64} (kc : Nat) (ha : ad kc = a) (hf : f kc = some (.inl (cy 2, n, .inr (.inr (.inr (.inl g)))))) (hj : j < n) (hn : n < 2 ^ 31) (hdg : decode cc pc = .ok (.daload, 1)) (kk : Z G B nL ad0 f0 p l e R s m args below meth c Q ad f cells slots (pc + 1) lv (.double (g j) :: st)) : Z G B nL ad0 f0 p l e R s m args below meth c Q ad f cells slots (pc) lv (.int (nI j) :: .ref a :: st) := z_dald X kc ha hf (vp_in_nI hj hn) hdg (by rw [nI_clamp (by omega)]; exact kk)
theorem z_baldN (X : Cx G cy B ad0 f0 cc nL ret own p s m args meth c) {a n j : Nat} {g : Nat → Int32} (kc : Nat) (ha : ad kc = a) (hf : f kc = some (.inl (cy 3, n, .inl g))) (hj : j < n) (hn : n < 2 ^ 31) (hdg : decode cc pc = .ok (.baload, 1)) (kk : Z G B nL ad0 f0 p l e R s m args below meth c Q ad f cells slots (pc + 1) lv (.int (g j) :: st)) : Z G B nL ad0 f0 p l e R s m args below meth c Q ad f cells slots (pc) lv (.int (nI j) :: .ref a :: st) := z_bald X kc ha hf (vp_in_nI hj hn) hdg (by rw [nI_clamp (by omega)]; exact kk)
theorem z_aaldN (X : Cx G cy B ad0 f0 cc nL ret own p s m args meth c) {a n j : Nat} {g : Nat → Option Nat} {cA : ClassId} {C : String} (kc t0 : Nat) (ha : ad kc = a) (hf : f kc = some (.inl (cA, n, .inr (.inr (.inr (.inr g)))))) (ht : (zTys cy)[t0]? = some (cA, .object C)) (hj : j < n) (hn : n < 2 ^ 31) (hdg : decode cc pc = .ok (.aaload, 1)) (kk : Z G B nL ad0 f0 p l e R s m args below meth c Q ad f cells slots (pc + 1) lv (va_rf (g j) :: st)) : Z G B nL ad0 f0 p l e R s m args below meth c Q ad f cells slots (pc) lv (.int (nI j) :: .ref a :: st) := z_aald X kc t0 ha hf ht (vp_in_nI hj hn) hdg (by rw [nI_clamp (by omega)]; exact kk)
theorem z_iastN (X : Cx G cy B ad0 f0 cc nL ret own p s m args meth c) {a n j : Nat} {g : Nat → Int32} {x : Int32} (kc : Nat) (ha : ad kc = a) (hf : f kc = some (.inl (cy 1, n, .inl g))) (hj : j < n) (hn : n < 2 ^ 31) (hdg : decode cc pc = .ok (.iastore, 1)) (kk : Z G B nL ad0 f0 p l e R s m args below meth c Q ad (zup f kc (.inl (cy 1, n, .inl (upd g j x)))) cells slots (pc + 1) lv (st)) : Z G B nL ad0 f0 p l e R s m args below meth c Q ad f cells slots (pc) lv (.int x :: .int (nI j) :: .ref a :: st) := z_iast X kc ha hf (vp_in_nI hj hn) hdg (by rw [nI_clamp (by omega)]; exact kk)
theorem z_lastN (X : Cx G cy B ad0 f0 cc nL ret own p s m args meth c) {a n j : Nat} {g : Nat → Int64} {x : Int64} (kc : Nat) (ha : ad kc = a) (hf : f kc = some (.inl (cy 0, n, .inr (.inl g)))) (hj : j < n) (hn : n < 2 ^ 31) (hdg : decode cc pc = .ok (.lastore, 1)) (kk : Z G B nL ad0 f0 p l e R s m args below meth c Q ad (zup f kc (.inl (cy 0, n, .inr (.inl (vp_updL g j x))))) cells slots (pc + 1) lv (st)) : Z G B nL ad0 f0 p l e R s m args below meth c Q ad f cells slots (pc) lv (.long x :: .int (nI j) :: .ref a :: st) := z_last X kc ha hf (vp_in_nI hj hn) hdg (by rw [nI_clamp (by omega)]; exact kk)
theorem z_dastN (X : Cx G cy B ad0 f0 cc nL ret own p s m args meth c) {a n j : Nat} {g : Nat → UInt64} {x : UInt64} (kc : Nat) (ha : ad kc = a) (hf : f kc = some (.inl (cy 2, n, .inr (.inr (.inr (.inl g)))))) (hj : j < n) (hn : n < 2 ^ 31) (hdg : decode cc pc = .ok (.dastore, 1)) (kk : Z G B nL ad0 f0 p l e R s m args below meth c Q ad (zup f kc (.inl (cy 2, n, .inr (.inr (.inr (.inl (vf_upd g j x))))))) cells slots (pc + 1) lv (st)) : Z G B nL ad0 f0 p l e R s m args below meth c Q ad f cells slots (pc) lv (.double x :: .int (nI j) :: .ref a :: st) := z_dast X kc ha hf (vp_in_nI hj hn) hdg (by rw [nI_clamp (by omega)]; exact kk)
theorem z_aastN (X : Cx G cy B ad0 f0 cc nL ret own p s m args meth c) {a n v j : Nat} {g : Nat → Option Nat} {cA : ClassId} {r : vw_C} {vs : List Value} {ci : Nat} (kc t0 kv : Nat) (ha : ad kc = a) (hf : f kc = some (.inl (cA, n, .inr (.inr (.inr (.inr g)))))) (ht : (zTys cy)[t0]? = some (cA, .object r.1)) (hav : ad kv = v) (hfv : f kv = some (.inr (ci, vs))) (hc : vwCl[ci]? = some r) (hj : j < n) (hn : n < 2 ^ 31) (hdg : decode cc pc = .ok (.aastore, 1)) (kk : Z G B nL ad0 f0 p l e R s m args below meth c Q ad (zup f kc (.inl (cA, n, .inr (.inr (.inr (.inr (va_up g j (some v)))))))) cells slots (pc + 1) lv (st)) : Z G B nL ad0 f0 p l e R s m args below meth c Q ad f cells slots (pc) lv (.ref v :: .int (nI j) :: .ref a :: st) := z_aast X kc t0 kv ha hf ht hav hfv hc (vp_in_nI hj hn) hdg (by rw [nI_clamp (by omega)]; exact kk)
end ZN
end
section
theorem upd_uu {f : Nat → Int32} {k : Nat} {a b : Int32} : upd (upd f k a) k b = upd f k b := by
  funext j
  unfold upd
  by_cases h : j = k <;> simp [h]
theorem vfu_uu {f : Nat → UInt64} {k : Nat} {a b : UInt64} : vf_upd (vf_upd f k a) k b = vf_upd f k b := by
  funext j
  unfold vf_upd
  by_cases h : j = k <;> simp [h]
theorem vpu_uu {f : Nat → Int64} {k : Nat} {a b : Int64} : vp_updL (vp_updL f k a) k b = vp_updL f k b := by
  funext j
  unfold vp_updL
  by_cases h : j = k <;> simp [h]
/-- sums of the first n -/
def sumL (g : Nat → Int64) : Nat → Int64
  | 0 => 0
  | n + 1 => sumL g n + g n
/-- THE REFERENCE'S WORLD. cn: counters, u: ints, w: longs, x: doubles, by the cell's code (the object is 0, an array has its field's number) -/
def mObj (ad cn : Nat → Nat) (u : Nat → Nat → Int32) : List Value := [.int (nI (cn 0)), .ref (ad 1), .ref (ad 2), .ref (ad 3), .ref (ad 4), .int (nI (cn 5)), .ref (ad 6), .ref (ad 7), .ref (ad 8), .ref (ad 9), .ref (ad 10), .ref (ad 11), .ref (ad 12), .ref (ad 13), .int (nI (cn 14)), .ref (ad 15), .ref (ad 16), .int (u 0 17), .int (nI (cn 18)), .ref (ad 19), .ref (ad 20), .int (nI (cn 21)), .ref (ad 22), .ref (ad 23), .ref (ad 24), .ref (ad 25), .int (u 0 26), .int (u 0 27)]
def mSh : Nat → Nat × Nat
  | 1 => (2, 200)
  | 2 => (1, 200)
  | 3 => (2, 200)
  | 4 => (1, 200)
  | 6 => (1, 12)
  | 7 => (3, 12)
  | 8 => (1, 12)
  | 9 => (1, 12)
  | 10 => (1, 12)
  | 11 => (1, 12)
  | 12 => (1, 12)
  | 13 => (1, 12)
  | 15 => (3, 6)
  | 16 => (3, 6)
  | 19 => (1, 4)
  | 20 => (1, 4)
  | 22 => (2, 3)
  | 23 => (2, 3)
  | 24 => (1, 24)
  | 25 => (1, 3)
  | _ => (0, 0)
def mArr (cy : Nat → ClassId) (u : Nat → Nat → Int32) (w : Nat → Nat → Int64) (x : Nat → Nat → UInt64) (sh : Nat → Nat × Nat) : zW := fun j =>
  if (sh j).1 = 1 then some (.inl (cy 1, (sh j).2, .inl (u j))) else if (sh j).1 = 2 then some (.inl (cy 0, (sh j).2, .inr (.inl (w j)))) else if (sh j).1 = 3 then some (.inl (cy 2, (sh j).2, .inr (.inr (.inr (.inl (x j)))))) else none
def MF (cy : Nat → ClassId) (ad cn : Nat → Nat) (u : Nat → Nat → Int32) (w : Nat → Nat → Int64) (x : Nat → Nat → UInt64) : zW := fun j => if j = 0 then some (.inr (5, mObj ad cn u)) else mArr cy u w x mSh j
theorem mArr_u {cy : Nat → ClassId} {u : Nat → Nat → Int32} {w : Nat → Nat → Int64} {x : Nat → Nat → UInt64} {sh : Nat → Nat × Nat} {k j : Nat} {g : Nat → Int32} (h : j ≠ k) : mArr cy (va_up u k g) w x sh j = mArr cy u w x sh j := by
  unfold mArr va_up
  rw [if_neg h]
theorem mArr_w {cy : Nat → ClassId} {u : Nat → Nat → Int32} {w : Nat → Nat → Int64} {x : Nat → Nat → UInt64} {sh : Nat → Nat × Nat} {k j : Nat} {g : Nat → Int64} (h : j ≠ k) : mArr cy u (va_up w k g) x sh j = mArr cy u w x sh j := by
  unfold mArr va_up
  rw [if_neg h]
theorem mArr_x {cy : Nat → ClassId} {u : Nat → Nat → Int32} {w : Nat → Nat → Int64} {x : Nat → Nat → UInt64} {sh : Nat → Nat × Nat} {k j : Nat} {g : Nat → UInt64} (h : j ≠ k) : mArr cy u w (va_up x k g) sh j = mArr cy u w x sh j := by
  unfold mArr va_up
  rw [if_neg h]
theorem MF_u {cy : Nat → ClassId} {ad cn : Nat → Nat} {u : Nat → Nat → Int32} {w : Nat → Nat → Int64} {x : Nat → Nat → UInt64} (k n : Nat) (hk : mSh k = (1, n)) (h0 : k ≠ 0) (g : Nat → Int32) : zup (MF cy ad cn u w x) k (.inl (cy 1, n, .inl g)) = MF cy ad cn (va_up u k g) w x := by
  funext j
  by_cases h : j = k
  · subst h
    rw [zup_same, MF, if_neg h0, mArr, hk, if_pos rfl]
    simp [va_up]
  · rw [zup_ne h]
    unfold MF
    rw [mArr_u h]
    have e : va_up u k g 0 = u 0 := if_neg (fun q => h0 q.symm)
    simp only [mObj, e]
theorem MF_w {cy : Nat → ClassId} {ad cn : Nat → Nat} {u : Nat → Nat → Int32} {w : Nat → Nat → Int64} {x : Nat → Nat → UInt64} (k n : Nat) (hk : mSh k = (2, n)) (h0 : k ≠ 0) (g : Nat → Int64) : zup (MF cy ad cn u w x) k (.inl (cy 0, n, .inr (.inl g))) = MF cy ad cn u (va_up w k g) x := by
  funext j
  by_cases h : j = k
  · subst h
    rw [zup_same, MF, if_neg h0, mArr, hk]
    simp [va_up]
  · rw [zup_ne h]
    unfold MF
    rw [mArr_w h]
theorem MF_x {cy : Nat → ClassId} {ad cn : Nat → Nat} {u : Nat → Nat → Int32} {w : Nat → Nat → Int64} {x : Nat → Nat → UInt64} (k n : Nat) (hk : mSh k = (3, n)) (h0 : k ≠ 0) (g : Nat → UInt64) : zup (MF cy ad cn u w x) k (.inl (cy 2, n, .inr (.inr (.inr (.inl g))))) = MF cy ad cn u w (va_up x k g) := by
  funext j
  by_cases h : j = k
  · subst h
    rw [zup_same, MF, if_neg h0, mArr, hk]
    simp [va_up]
  · rw [zup_ne h]
    unfold MF
    rw [mArr_x h]
theorem MF_o {cy : Nat → ClassId} {ad cn cn' : Nat → Nat} {u : Nat → Nat → Int32} {w : Nat → Nat → Int64} {x : Nat → Nat → UInt64} {g : Nat → Int32} {fs : List Value} (h : fs = mObj ad cn' (va_up u 0 g)) : zup (MF cy ad cn u w x) 0 (.inr (5, fs)) = MF cy ad cn' (va_up u 0 g) w x := by
  subst h
  funext j
  by_cases h : j = 0
  · subst h
    rw [zup_same, MF, if_pos rfl]
  · rw [zup_ne h]
    unfold MF
    rw [if_neg h, if_neg h, mArr_u h]
theorem up_self {α : Type} (f : Nat → α) (k : Nat) : va_up f k (f k) = f := by
  funext j
  unfold va_up
  by_cases h : j = k
  · subst h; rw [if_pos rfl]
  · rw [if_neg h]
theorem MF_c {cy : Nat → ClassId} {ad cn cn' : Nat → Nat} {u : Nat → Nat → Int32} {w : Nat → Nat → Int64} {x : Nat → Nat → UInt64} {fs : List Value} (h : fs = mObj ad cn' u) : zup (MF cy ad cn u w x) 0 (.inr (5, fs)) = MF cy ad cn' u w x := by
  have e := MF_o (cy := cy) (ad := ad) (cn := cn) (cn' := cn') (u := u) (w := w) (x := x) (g := u 0) (fs := fs) (by rw [up_self]; exact h)
  rw [up_self] at e
  exact e
/-- a place less -/
theorem pk_dec {n : Nat} (h : 0 < n) : nI n + Int32.ofInt (-1) = nI (n - 1) := sb_m1 h
end
section
set_option maxHeartbeats 4000000 in
set_option maxRecDepth 100000 in
theorem c_X4_isIn (l : Launch) (G : va_G) (cy : Nat → ClassId) (B : Nat) (ad : Nat → Nat) (f : zW) (v0 a0 b0 : Int64) : Ct l G cy B yX4_isIn cX4_isIn 6 (some .boolean) ({ frames := 0, cells := 0, slots := 0, locals := 0 } : Room) ad f [.long v0, .long a0, .long b0] (fun v ad' f' => v = some (.int (nI (if a0 ≤ v0 ∧ v0 ≤ b0 then 1 else 0))) ∧ ad = ad' ∧ f = f') := by
  refine ct_of (by decide +kernel) (Nat.le_of_ble_eq_true rfl) ?_
  intro p e s m args below meth c X hnm
  refine z_lv (lv' := [(0, .long v0), (2, .long a0), (4, .long b0)]) [0, 1, 2] rfl ?_
  refine z_lload_n X 0 dX4_isIn_0 rfl rfl ?_
  refine z_lload_n X 1 dX4_isIn_1 rfl rfl ?_
  refine z_lcmp_lt X (tgt := 17) dX4_isIn_2 dX4_isIn_3 (by decide) (fun c2 => ?_) (fun c2 => ?_)
  · refine z_iconst X (v := nI 0) dX4_isIn_17 (by decide) ?_
    refine z_zret rfl X (Nat.le_of_ble_eq_true rfl) (Nat.le_of_ble_eq_true rfl) ?_ dX4_isIn_18
    exact ⟨by rw [if_neg (fun h => absurd h.1 (Int64.not_le.mpr c2))], rfl, rfl⟩
  · refine z_lload_n X 0 dX4_isIn_6 rfl rfl ?_
    refine z_lload X 2 dX4_isIn_7 rfl ?_
    refine z_lcmp_gt X (tgt := 17) dX4_isIn_9 dX4_isIn_10 (by decide) (fun c9 => ?_) (fun c9 => ?_)
    · refine z_iconst X (v := nI 0) dX4_isIn_17 (by decide) ?_
      refine z_zret rfl X (Nat.le_of_ble_eq_true rfl) (Nat.le_of_ble_eq_true rfl) ?_ dX4_isIn_18
      exact ⟨by rw [if_neg (fun h => absurd h.2 (Int64.not_le.mpr c9))], rfl, rfl⟩
    · refine z_iconst X (v := nI 1) dX4_isIn_13 (by decide) ?_
      refine z_goto X (tgt := 18) dX4_isIn_14 (by decide) ?_
      refine z_zret rfl X (Nat.le_of_ble_eq_true rfl) (Nat.le_of_ble_eq_true rfl) ?_ dX4_isIn_18
      exact ⟨by rw [if_pos ⟨Int64.not_lt.mp c2, Int64.not_lt.mp c9⟩], rfl, rfl⟩
set_option maxHeartbeats 4000000 in
set_option maxRecDepth 100000 in
theorem c_X3_isWithin (l : Launch) (G : va_G) (cy : Nat → ClassId) (B : Nat) (ad : Nat → Nat) (f : zW) (v0 a0 b0 : Int64) : Ct l G cy B yX3_isWithin cX3_isWithin 6 (some .boolean) ({ frames := 0, cells := 0, slots := 0, locals := 0 } : Room) ad f [.long v0, .long a0, .long b0] (fun v ad' f' => v = some (.int (nI (if a0 ≤ v0 ∧ v0 ≤ b0 then 1 else 0))) ∧ ad = ad' ∧ f = f') := by
  refine ct_of (by decide +kernel) (Nat.le_of_ble_eq_true rfl) ?_
  intro p e s m args below meth c X hnm
  refine z_lv (lv' := [(0, .long v0), (2, .long a0), (4, .long b0)]) [0, 1, 2] rfl ?_
  refine z_lload_n X 0 dX3_isWithin_0 rfl rfl ?_
  refine z_lload_n X 1 dX3_isWithin_1 rfl rfl ?_
  refine z_lcmp_lt X (tgt := 17) dX3_isWithin_2 dX3_isWithin_3 (by decide) (fun c2 => ?_) (fun c2 => ?_)
  · refine z_iconst X (v := nI 0) dX3_isWithin_17 (by decide) ?_
    refine z_zret rfl X (Nat.le_of_ble_eq_true rfl) (Nat.le_of_ble_eq_true rfl) ?_ dX3_isWithin_18
    exact ⟨by rw [if_neg (fun h => absurd h.1 (Int64.not_le.mpr c2))], rfl, rfl⟩
  · refine z_lload_n X 0 dX3_isWithin_6 rfl rfl ?_
    refine z_lload X 2 dX3_isWithin_7 rfl ?_
    refine z_lcmp_gt X (tgt := 17) dX3_isWithin_9 dX3_isWithin_10 (by decide) (fun c9 => ?_) (fun c9 => ?_)
    · refine z_iconst X (v := nI 0) dX3_isWithin_17 (by decide) ?_
      refine z_zret rfl X (Nat.le_of_ble_eq_true rfl) (Nat.le_of_ble_eq_true rfl) ?_ dX3_isWithin_18
      exact ⟨by rw [if_neg (fun h => absurd h.2 (Int64.not_le.mpr c9))], rfl, rfl⟩
    · refine z_iconst X (v := nI 1) dX3_isWithin_13 (by decide) ?_
      refine z_goto X (tgt := 18) dX3_isWithin_14 (by decide) ?_
      refine z_zret rfl X (Nat.le_of_ble_eq_true rfl) (Nat.le_of_ble_eq_true rfl) ?_ dX3_isWithin_18
      exact ⟨by rw [if_pos ⟨Int64.not_lt.mp c2, Int64.not_lt.mp c9⟩], rfl, rfl⟩
set_option maxHeartbeats 4000000 in
set_option maxRecDepth 100000 in
theorem c_X4_isWithin (l : Launch) (G : va_G) (cy : Nat → ClassId) (B : Nat) (ad : Nat → Nat) (f : zW) (v0 a0 b0 : UInt64) : Ct l G cy B yX4_isWithin cX4_isWithin 6 (some .boolean) ({ frames := 0, cells := 0, slots := 0, locals := 0 } : Room) ad f [.double v0, .double a0, .double b0] (fun v ad' f' => v = some (.int (nI (if dGe v0 a0 = true ∧ dLe v0 b0 = true then 1 else 0))) ∧ ad = ad' ∧ f = f') := by
  refine ct_of (by decide +kernel) (Nat.le_of_ble_eq_true rfl) ?_
  intro p e s m args below meth c X hnm
  refine z_lv (lv' := [(0, .double v0), (2, .double a0), (4, .double b0)]) [0, 1, 2] rfl ?_
  refine z_dload_n X 0 dX4_isWithin_0 rfl rfl ?_
  refine z_dload_n X 1 dX4_isWithin_1 rfl rfl ?_
  refine z_dcmp_lt X (tgt := 17) dX4_isWithin_2 dX4_isWithin_3 (by decide) (fun c2 => ?_) (fun c2 => ?_)
  · refine z_iconst X (v := nI 0) dX4_isWithin_17 (by decide) ?_
    refine z_zret rfl X (Nat.le_of_ble_eq_true rfl) (Nat.le_of_ble_eq_true rfl) ?_ dX4_isWithin_18
    exact ⟨by simp_all, rfl, rfl⟩
  · refine z_dload_n X 0 dX4_isWithin_6 rfl rfl ?_
    refine z_dload X 2 dX4_isWithin_7 rfl ?_
    refine z_dcmp_gt X (tgt := 17) dX4_isWithin_9 dX4_isWithin_10 (by decide) (fun c9 => ?_) (fun c9 => ?_)
    · refine z_iconst X (v := nI 0) dX4_isWithin_17 (by decide) ?_
      refine z_zret rfl X (Nat.le_of_ble_eq_true rfl) (Nat.le_of_ble_eq_true rfl) ?_ dX4_isWithin_18
      exact ⟨by simp_all, rfl, rfl⟩
    · refine z_iconst X (v := nI 1) dX4_isWithin_13 (by decide) ?_
      refine z_goto X (tgt := 18) dX4_isWithin_14 (by decide) ?_
      refine z_zret rfl X (Nat.le_of_ble_eq_true rfl) (Nat.le_of_ble_eq_true rfl) ?_ dX4_isWithin_18
      exact ⟨by simp_all, rfl, rfl⟩
set_option maxHeartbeats 4000000 in
set_option maxRecDepth 100000 in
theorem c_X3_isBetween (l : Launch) (G : va_G) (cy : Nat → ClassId) (B : Nat) (ad : Nat → Nat) (f : zW) (v0 a0 b0 : UInt64) : Ct l G cy B yX3_isBetween cX3_isBetween 6 (some .boolean) ({ frames := 0, cells := 0, slots := 0, locals := 0 } : Room) ad f [.double v0, .double a0, .double b0] (fun v ad' f' => v = some (.int (nI (if dGe v0 a0 = true ∧ dLe v0 b0 = true then 1 else 0))) ∧ ad = ad' ∧ f = f') := by
  refine ct_of (by decide +kernel) (Nat.le_of_ble_eq_true rfl) ?_
  intro p e s m args below meth c X hnm
  refine z_lv (lv' := [(0, .double v0), (2, .double a0), (4, .double b0)]) [0, 1, 2] rfl ?_
  refine z_dload_n X 0 dX3_isBetween_0 rfl rfl ?_
  refine z_dload_n X 1 dX3_isBetween_1 rfl rfl ?_
  refine z_dcmp_lt X (tgt := 17) dX3_isBetween_2 dX3_isBetween_3 (by decide) (fun c2 => ?_) (fun c2 => ?_)
  · refine z_iconst X (v := nI 0) dX3_isBetween_17 (by decide) ?_
    refine z_zret rfl X (Nat.le_of_ble_eq_true rfl) (Nat.le_of_ble_eq_true rfl) ?_ dX3_isBetween_18
    exact ⟨by simp_all, rfl, rfl⟩
  · refine z_dload_n X 0 dX3_isBetween_6 rfl rfl ?_
    refine z_dload X 2 dX3_isBetween_7 rfl ?_
    refine z_dcmp_gt X (tgt := 17) dX3_isBetween_9 dX3_isBetween_10 (by decide) (fun c9 => ?_) (fun c9 => ?_)
    · refine z_iconst X (v := nI 0) dX3_isBetween_17 (by decide) ?_
      refine z_zret rfl X (Nat.le_of_ble_eq_true rfl) (Nat.le_of_ble_eq_true rfl) ?_ dX3_isBetween_18
      exact ⟨by simp_all, rfl, rfl⟩
    · refine z_iconst X (v := nI 1) dX3_isBetween_13 (by decide) ?_
      refine z_goto X (tgt := 18) dX3_isBetween_14 (by decide) ?_
      refine z_zret rfl X (Nat.le_of_ble_eq_true rfl) (Nat.le_of_ble_eq_true rfl) ?_ dX3_isBetween_18
      exact ⟨by simp_all, rfl, rfl⟩
set_option maxHeartbeats 4000000 in
set_option maxRecDepth 100000 in
theorem c_X4_isKind (l : Launch) (G : va_G) (cy : Nat → ClassId) (B : Nat) (ad : Nat → Nat) (f : zW) (k : Int32) : Ct l G cy B yX4_isKind cX4_isKind 1 (some .boolean) ({ frames := 0, cells := 0, slots := 0, locals := 0 } : Room) ad f [.int k] (fun v ad' f' => v = some (.int (nI (if ¬ k < 0 ∧ ¬ nI 4 ≤ k then 1 else 0))) ∧ ad = ad' ∧ f = f') := by
  refine ct_of (by decide +kernel) (Nat.le_of_ble_eq_true rfl) ?_
  intro p e s m args below meth c X hnm
  refine z_lv (lv' := [(0, .int k)]) [0] rfl ?_
  refine z_iload_n X 0 dX4_isKind_0 rfl rfl ?_
  refine z_if_lt X (tgt := 13) dX4_isKind_1 (by decide) (fun c1 => ?_) (fun c1 => ?_)
  · refine z_iconst X (v := nI 0) dX4_isKind_13 (by decide) ?_
    refine z_zret rfl X (Nat.le_of_ble_eq_true rfl) (Nat.le_of_ble_eq_true rfl) ?_ dX4_isKind_14
    exact ⟨by simp_all, rfl, rfl⟩
  · refine z_iload_n X 0 dX4_isKind_4 rfl rfl ?_
    refine z_iconst X (v := nI 4) dX4_isKind_5 (by decide) ?_
    refine z_icmp_ge X (tgt := 13) dX4_isKind_6 (by decide) (fun c6 => ?_) (fun c6 => ?_)
    · refine z_iconst X (v := nI 0) dX4_isKind_13 (by decide) ?_
      refine z_zret rfl X (Nat.le_of_ble_eq_true rfl) (Nat.le_of_ble_eq_true rfl) ?_ dX4_isKind_14
      exact ⟨by simp_all, rfl, rfl⟩
    · refine z_iconst X (v := nI 1) dX4_isKind_9 (by decide) ?_
      refine z_goto X (tgt := 14) dX4_isKind_10 (by decide) ?_
      refine z_zret rfl X (Nat.le_of_ble_eq_true rfl) (Nat.le_of_ble_eq_true rfl) ?_ dX4_isKind_14
      exact ⟨by simp_all, rfl, rfl⟩
set_option maxHeartbeats 4000000 in
set_option maxRecDepth 100000 in
theorem c_X3_isKind (l : Launch) (G : va_G) (cy : Nat → ClassId) (B : Nat) (ad : Nat → Nat) (f : zW) (k : Int32) : Ct l G cy B yX3_isKind cX3_isKind 1 (some .boolean) ({ frames := 0, cells := 0, slots := 0, locals := 0 } : Room) ad f [.int k] (fun v ad' f' => v = some (.int (nI (if ¬ k < 0 ∧ ¬ nI 4 ≤ k then 1 else 0))) ∧ ad = ad' ∧ f = f') := by
  refine ct_of (by decide +kernel) (Nat.le_of_ble_eq_true rfl) ?_
  intro p e s m args below meth c X hnm
  refine z_lv (lv' := [(0, .int k)]) [0] rfl ?_
  refine z_iload_n X 0 dX3_isKind_0 rfl rfl ?_
  refine z_if_lt X (tgt := 13) dX3_isKind_1 (by decide) (fun c1 => ?_) (fun c1 => ?_)
  · refine z_iconst X (v := nI 0) dX3_isKind_13 (by decide) ?_
    refine z_zret rfl X (Nat.le_of_ble_eq_true rfl) (Nat.le_of_ble_eq_true rfl) ?_ dX3_isKind_14
    exact ⟨by simp_all, rfl, rfl⟩
  · refine z_iload_n X 0 dX3_isKind_4 rfl rfl ?_
    refine z_iconst X (v := nI 4) dX3_isKind_5 (by decide) ?_
    refine z_icmp_ge X (tgt := 13) dX3_isKind_6 (by decide) (fun c6 => ?_) (fun c6 => ?_)
    · refine z_iconst X (v := nI 0) dX3_isKind_13 (by decide) ?_
      refine z_zret rfl X (Nat.le_of_ble_eq_true rfl) (Nat.le_of_ble_eq_true rfl) ?_ dX3_isKind_14
      exact ⟨by simp_all, rfl, rfl⟩
    · refine z_iconst X (v := nI 1) dX3_isKind_9 (by decide) ?_
      refine z_goto X (tgt := 14) dX3_isKind_10 (by decide) ?_
      refine z_zret rfl X (Nat.le_of_ble_eq_true rfl) (Nat.le_of_ble_eq_true rfl) ?_ dX3_isKind_14
      exact ⟨by simp_all, rfl, rfl⟩
end
section
/-! THE REFERENCE, as functions of its world -/
abbrev okKind (k : Int32) : Prop := ¬ k < 0 ∧ ¬ nI 4 ≤ k
abbrev okFeedM (cn : Nat → Nat) (w : Nat → Nat → Int64) (s : Int64) (k : Int32) (g : Int64) : Prop := cn 0 ≠ 200 ∧ okKind k ∧ (0 ≤ s ∧ s ≤ 8000000000) ∧ (1 ≤ g ∧ g ≤ 1000000) ∧ ¬ (0 < cn 0 ∧ s < w 1 (cn 0 - 1))
def anyB (p : Nat → Bool) : Nat → Bool
  | 0 => false
  | n + 1 => anyB p n || p n
theorem anyB_f {P : Nat → Prop} [DecidablePred P] {i : Nat} (h0 : ¬ anyB (fun f => decide (P f)) i = true) (h : ¬ P i) : 0 = (if anyB (fun f => decide (P f)) (i + 1) = true then 1 else 0 : Nat) := (if_neg (fun q => by
  unfold anyB at q
  rcases (Bool.or_eq_true _ _).mp q with z | z
  · exact h0 z
  · exact h (of_decide_eq_true z))).symm
theorem anyB_t {P : Nat → Prop} [DecidablePred P] {i : Nat} (h : P i) : 1 = (if anyB (fun f => decide (P f)) (i + 1) = true then 1 else 0 : Nat) := (if_pos (by
  unfold anyB
  rw [Bool.or_eq_true]
  exact Or.inr (decide_eq_true h))).symm
theorem anyB_k {P : Nat → Prop} [DecidablePred P] {i : Nat} (h : anyB (fun f => decide (P f)) i = true) : 1 = (if anyB (fun f => decide (P f)) (i + 1) = true then 1 else 0 : Nat) := (if_pos (by
  unfold anyB
  rw [Bool.or_eq_true]
  exact Or.inl h)).symm
def hStep (fo so : Nat → Int32) (s : Int32) (b : Nat) : Int32 := if (s >>> (nI b &&& 31)) &&& nI 1 = nI 1 ∧ ¬ fo b < 0 then s ||| ((nI 1 <<< (fo b &&& 31)) ||| (nI 1 <<< (so b &&& 31))) else s
def hLoop (fo so : Nat → Int32) : Nat → Int32 → Int32
  | 0, s => s
  | n + 1, s => hLoop fo so n (hStep fo so s n)
abbrev hasI (fo so : Nat → Int32) (j : Nat) (t : Int32) : Prop := (hLoop fo so (j + 1) (nI 1 <<< (nI j &&& 31)) >>> (t &&& 31)) &&& nI 1 = nI 1
theorem hStep_t {fo so : Nat → Int32} {s : Int32} {b : Nat} (h1 : (s >>> (nI b &&& 31)) &&& nI 1 = nI 1) (h2 : ¬ fo b < 0) : s ||| ((nI 1 <<< (fo b &&& 31)) ||| (nI 1 <<< (so b &&& 31))) = hStep fo so s b := (if_pos ⟨h1, h2⟩).symm
theorem hStep_f {fo so : Nat → Int32} {s : Int32} {b : Nat} (h : ¬ ((s >>> (nI b &&& 31)) &&& nI 1 = nI 1 ∧ ¬ fo b < 0)) : s = hStep fo so s b := (if_neg h).symm
theorem sumL_t {P : Nat → Prop} [DecidablePred P] {g : Nat → Int64} {i : Nat} {s : Int64} (hs : s = sumL (fun f => if P f then g f else 0) i) (h : P i) : s + g i = sumL (fun f => if P f then g f else 0) (i + 1) := by
  rw [hs]
  exact congrArg (fun z => sumL (fun f => if P f then g f else 0) i + z) (if_pos h).symm
theorem sumL_f {P : Nat → Prop} [DecidablePred P] {g : Nat → Int64} {i : Nat} {s : Int64} (hs : s = sumL (fun f => if P f then g f else 0) i) (h : ¬ P i) : s + 0 = sumL (fun f => if P f then g f else 0) (i + 1) := by
  rw [hs]
  exact congrArg (fun z => sumL (fun f => if P f then g f else 0) i + z) (if_neg h).symm
def gramsM (cn : Nat → Nat) (u : Nat → Nat → Int32) (w : Nat → Nat → Int64) (j : Nat) (k : Int32) : Int64 := sumL (fun f => if ¬ u 4 f < 0 ∧ u 2 f = k ∧ hasI (u 12) (u 13) j (u 4 f) then w 3 f else 0) (cn 0)
def weightM (cn : Nat → Nat) (u : Nat → Nat → Int32) (w : Nat → Nat → Int64) (j : Nat) : Int64 := sumL (fun k => gramsM cn u w j (nI k)) 4
def mainL (g : Nat → Int64) : Nat → Nat
  | 0 => 0
  | n + 1 => if g (mainL g n) < g (n + 1) then n + 1 else mainL g n
theorem mainL_le (g : Nat → Int64) : ∀ n, mainL g n ≤ n
  | 0 => Nat.le_refl 0
  | n + 1 => by
    unfold mainL
    have := mainL_le g n
    split <;> omega
def mainM (cn : Nat → Nat) (u : Nat → Nat → Int32) (w : Nat → Nat → Int64) (j : Nat) : Nat := mainL (fun k => gramsM cn u w j (nI k)) 3
def countM (cn : Nat → Nat) (u : Nat → Nat → Int32) (w : Nat → Nat → Int64) (k : Int32) : Int64 := sumL (fun f => if u 4 f < 0 ∧ u 2 f = k then w 3 f else 0) (cn 0)
def wiresOf (t : Int64) : Int32 := if t < 3 then nI 3 else t.toInt32
def sizeR (t : Int64) (p r : UInt64) : Prop := ∃ a b c, alike64 a (FP.dmul (FP.l2d t) 4562254508917369340) = true ∧ alike64 b (FP.ddiv a p) = true ∧ alike64 c (FP.dmul b 4593671619917905920) = true ∧ alike64 r (FP.dadd b c) = true
abbrev mkU (u : Nat → Nat → Int32) (n : Nat) : Nat → Nat → Int32 := va_up (va_up (va_up (va_up (va_up u 6 (upd (u 6) n (nI 0))) 12 (upd (u 12) n (-1))) 13 (upd (u 13) n (-1))) 10 (upd (u 10) n (-1))) 11 (upd (u 11) n (-1))
abbrev mkX (x : Nat → Nat → UInt64) (n : Nat) : Nat → Nat → UInt64 := va_up x 7 (vf_upd (x 7) n 4626322717216342016)
abbrev looseM (u : Nat → Nat → Int32) (w : Nat → Nat → Int64) (s : Int64) (f : Nat) : Prop := u 4 f < 0 ∧ w 1 f ≤ s
def intoM (u : Nat → Nat → Int32) (w : Nat → Nat → Int64) (nb : Nat) (s : Int64) (n : Nat) : Nat → Int32 := fun f => if f < n ∧ looseM u w s f then nI nb else u 4 f
theorem intoM_0 {u : Nat → Nat → Int32} {w : Nat → Nat → Int64} {nb : Nat} {s : Int64} : intoM u w nb s 0 = u 4 := by
  funext f
  unfold intoM
  rw [if_neg (fun h => absurd h.1 (Nat.not_lt_zero f))]
theorem intoM_at {u : Nat → Nat → Int32} {w : Nat → Nat → Int64} {nb : Nat} {s : Int64} {n : Nat} : intoM u w nb s n n = u 4 n := by
  unfold intoM
  rw [if_neg (fun h => absurd h.1 (Nat.lt_irrefl n))]
theorem intoM_s {u : Nat → Nat → Int32} {w : Nat → Nat → Int64} {nb : Nat} {s : Int64} {n : Nat} (h : looseM u w s n) : upd (intoM u w nb s n) n (nI nb) = intoM u w nb s (n + 1) := by
  funext f
  unfold upd intoM
  by_cases e : f = n
  · subst e
    simp [h]
  · by_cases e2 : f < n
    · have : f < n + 1 := by omega
      simp [e, e2, this]
    · have : ¬ f < n + 1 := by omega
      simp [e, e2, this]
theorem intoM_n {u : Nat → Nat → Int32} {w : Nat → Nat → Int64} {nb : Nat} {s : Int64} {n : Nat} (h : ¬ looseM u w s n) : upd (intoM u w nb s n) n (intoM u w nb s n n) = intoM u w nb s (n + 1) := by
  rw [intoM_at]
  funext f
  unfold upd intoM
  by_cases e : f = n
  · subst e
    simp [h]
  · by_cases e2 : f < n
    · have : f < n + 1 := by omega
      simp [e, e2, this]
    · have : ¬ f < n + 1 := by omega
      simp [e, e2, this]
set_option maxHeartbeats 4000000 in
set_option maxRecDepth 100000 in
theorem m_isBale (l : Launch) (G : va_G) (cy : Nat → ClassId) (B : Nat) (ad : Nat → Nat) (cn : Nat → Nat) (u : Nat → Nat → Int32) (w : Nat → Nat → Int64) (x : Nat → Nat → UInt64) (b : Int32) : Ct l G cy B yX4_isBale cX4_isBale 2 (some .boolean) ({ frames := 0, cells := 0, slots := 0, locals := 0 } : Room) ad (MF cy ad cn u w x) [.ref (ad 0), .int b] (fun v ad' f' => v = some (.int (nI (if ¬ b < 0 ∧ ¬ nI (cn 5) ≤ b then 1 else 0))) ∧ ad = ad' ∧ MF cy ad cn u w x = f') := by
  refine ct_of (by decide +kernel) (Nat.le_of_ble_eq_true rfl) ?_
  intro p e s m args below meth c X hnm
  refine z_lv (lv' := [(0, .ref (ad 0)), (1, .int b)]) [0, 1] rfl ?_
  refine z_iload_n X 1 dX4_isBale_0 rfl rfl ?_
  refine z_if_lt X (tgt := 16) dX4_isBale_1 (by decide) (fun c1 => ?_) (fun c1 => ?_)
  · refine z_iconst X (v := nI 0) dX4_isBale_16 (by decide) ?_
    refine z_zret rfl X (Nat.le_of_ble_eq_true rfl) (Nat.le_of_ble_eq_true rfl) ?_ dX4_isBale_17
    exact ⟨by simp_all, rfl, rfl⟩
  · refine z_iload_n X 1 dX4_isBale_4 rfl rfl ?_
    refine z_aload_n X 0 dX4_isBale_5 rfl rfl ?_
    refine z_get X (v := .int (nI (cn 5))) 0 5 wa_X4 rfl rfl rfl (by decide) q_564 rfl rfl dX4_isBale_6 ?_
    refine z_icmp_ge X (tgt := 16) dX4_isBale_9 (by decide) (fun c9 => ?_) (fun c9 => ?_)
    · refine z_iconst X (v := nI 0) dX4_isBale_16 (by decide) ?_
      refine z_zret rfl X (Nat.le_of_ble_eq_true rfl) (Nat.le_of_ble_eq_true rfl) ?_ dX4_isBale_17
      exact ⟨by simp_all, rfl, rfl⟩
    · refine z_iconst X (v := nI 1) dX4_isBale_12 (by decide) ?_
      refine z_goto X (tgt := 17) dX4_isBale_13 (by decide) ?_
      refine z_zret rfl X (Nat.le_of_ble_eq_true rfl) (Nat.le_of_ble_eq_true rfl) ?_ dX4_isBale_17
      exact ⟨by simp_all, rfl, rfl⟩
set_option maxHeartbeats 4000000 in
set_option maxRecDepth 100000 in
theorem m_feed (l : Launch) (G : va_G) (cy : Nat → ClassId) (B : Nat) (ad : Nat → Nat) (cn : Nat → Nat) (u : Nat → Nat → Int32) (w : Nat → Nat → Int64) (x : Nat → Nat → UInt64) (hc0 : cn 0 ≤ 200) (sc : Int64) (k : Int32) (g : Int64) : Ct l G cy B yX4_feed cX4_feed 6 (some .boolean) ({ frames := 1, cells := 0, slots := 0, locals := 25 } : Room) ad (MF cy ad cn u w x) [.ref (ad 0), .long sc, .int k, .long g] (fun v ad' f' => v = some (.int (nI (if okFeedM cn w sc k g then 1 else 0))) ∧ ad = ad' ∧ (if okFeedM cn w sc k g then MF cy ad (va_up cn 0 (cn 0 + 1)) (va_up (va_up u 2 (upd (u 2) (cn 0) k)) 4 (upd (u 4) (cn 0) (-1))) (va_up (va_up w 1 (vp_updL (w 1) (cn 0) sc)) 3 (vp_updL (w 3) (cn 0) g)) x else MF cy ad cn u w x) = f') := by
  refine ct_of (by decide +kernel) (Nat.le_of_ble_eq_true rfl) ?_
  intro p e s m args below meth c X hnm
  refine z_lv (lv' := [(0, .ref (ad 0)), (1, .long sc), (3, .int k), (4, .long g)]) [0, 1, 2, 3] rfl ?_
  refine z_aload_n X 0 dX4_feed_0 rfl rfl ?_
  refine z_get X (v := .int (nI (cn 0))) 0 0 wa_X4 rfl rfl rfl (by decide) q_559 rfl rfl dX4_feed_1 ?_
  refine z_sipush X (v := nI 200) dX4_feed_4 (by decide) ?_
  refine z_icmp_eqN X (tgt := 63) (by omega) (by omega) dX4_feed_7 (by decide) (fun c7 => ?_) (fun c7 => ?_)
  · refine z_iconst X (v := nI 0) dX4_feed_63 (by decide) ?_
    refine z_zret rfl X (Nat.le_of_ble_eq_true rfl) (Nat.le_of_ble_eq_true rfl) ?_ dX4_feed_64
    have h9 : ¬ okFeedM cn w sc k g := fun h9 => h9.1 c7
    exact ⟨by rw [if_neg h9], rfl, by rw [if_neg h9]⟩
  · refine z_iload_n X 2 dX4_feed_10 rfl rfl ?_
    refine z_callS X (n := 1) (As := [.int k]) (rest := []) (c_X4_isKind l G cy B ad (MF cy ad cn u w x) k) q_648 q_649 q_29 q_650 (by decide +kernel) ⟨Nat.le_of_ble_eq_true rfl, Nat.le_of_ble_eq_true rfl⟩ rfl rfl (Nat.le_of_ble_eq_true rfl) dX4_feed_11 ⟨Nat.le_of_ble_eq_true rfl, Nat.le_of_ble_eq_true rfl⟩ (fun v ad' f' hp had => ?_)
    obtain ⟨rfl, rfl, rfl⟩ := hp
    refine z_st (st' := [.int (nI (if okKind k then 1 else 0))]) rfl ?_
    refine z_if_eqB X (tgt := 63) dX4_feed_14 (by decide) (fun c14 => ?_) (fun c14 => ?_)
    · refine z_iconst X (v := nI 0) dX4_feed_63 (by decide) ?_
      refine z_zret rfl X (Nat.le_of_ble_eq_true rfl) (Nat.le_of_ble_eq_true rfl) ?_ dX4_feed_64
      have h9 : ¬ okFeedM cn w sc k g := fun h9 => c14 h9.2.1
      exact ⟨by rw [if_neg h9], rfl, by rw [if_neg h9]⟩
    · refine z_lload_n X 1 dX4_feed_17 rfl rfl ?_
      refine z_lconst X (v := 0) dX4_feed_18 rfl ?_
      refine z_ldc2 X dX4_feed_19 q_651 ?_
      refine z_callS X (n := 3) (As := [.long sc, .long 0, .long 8000000000]) (rest := []) (c_X4_isIn l G cy B ad (MF cy ad cn u w x) sc 0 8000000000) q_652 q_653 q_29 q_654 (by decide +kernel) ⟨Nat.le_of_ble_eq_true rfl, Nat.le_of_ble_eq_true rfl⟩ rfl rfl (Nat.le_of_ble_eq_true rfl) dX4_feed_22 ⟨Nat.le_of_ble_eq_true rfl, Nat.le_of_ble_eq_true rfl⟩ (fun v ad' f' hp had => ?_)
      obtain ⟨rfl, rfl, rfl⟩ := hp
      refine z_st (st' := [.int (nI (if 0 ≤ sc ∧ sc ≤ 8000000000 then 1 else 0))]) rfl ?_
      refine z_if_eqB X (tgt := 63) dX4_feed_25 (by decide) (fun c25 => ?_) (fun c25 => ?_)
      · refine z_iconst X (v := nI 0) dX4_feed_63 (by decide) ?_
        refine z_zret rfl X (Nat.le_of_ble_eq_true rfl) (Nat.le_of_ble_eq_true rfl) ?_ dX4_feed_64
        have h9 : ¬ okFeedM cn w sc k g := fun h9 => c25 h9.2.2.1
        exact ⟨by rw [if_neg h9], rfl, by rw [if_neg h9]⟩
      · refine z_lload X 3 dX4_feed_28 rfl ?_
        refine z_lconst X (v := 1) dX4_feed_30 rfl ?_
        refine z_ldc2 X dX4_feed_31 q_655 ?_
        refine z_callS X (n := 3) (As := [.long g, .long 1, .long 1000000]) (rest := []) (c_X4_isIn l G cy B ad (MF cy ad cn u w x) g 1 1000000) q_652 q_653 q_29 q_654 (by decide +kernel) ⟨Nat.le_of_ble_eq_true rfl, Nat.le_of_ble_eq_true rfl⟩ rfl rfl (Nat.le_of_ble_eq_true rfl) dX4_feed_34 ⟨Nat.le_of_ble_eq_true rfl, Nat.le_of_ble_eq_true rfl⟩ (fun v ad' f' hp had => ?_)
        obtain ⟨rfl, rfl, rfl⟩ := hp
        refine z_st (st' := [.int (nI (if 1 ≤ g ∧ g ≤ 1000000 then 1 else 0))]) rfl ?_
        refine z_if_eqB X (tgt := 63) dX4_feed_37 (by decide) (fun c37 => ?_) (fun c37 => ?_)
        · refine z_iconst X (v := nI 0) dX4_feed_63 (by decide) ?_
          refine z_zret rfl X (Nat.le_of_ble_eq_true rfl) (Nat.le_of_ble_eq_true rfl) ?_ dX4_feed_64
          have h9 : ¬ okFeedM cn w sc k g := fun h9 => c37 h9.2.2.2.1
          exact ⟨by rw [if_neg h9], rfl, by rw [if_neg h9]⟩
        · refine z_aload_n X 0 dX4_feed_40 rfl rfl ?_
          refine z_get X (v := .int (nI (cn 0))) 0 0 wa_X4 rfl rfl rfl (by decide) q_559 rfl rfl dX4_feed_41 ?_
          refine z_if_leN X (tgt := 65) (by omega) dX4_feed_44 (by decide) (fun c44 => ?_) (fun c44 => ?_)
          · refine z_aload_n X 0 dX4_feed_65 rfl rfl ?_
            refine z_get X (v := .ref (ad 1)) 0 1 wa_X4 rfl rfl rfl (by decide) q_560 rfl rfl dX4_feed_66 ?_
            refine z_aload_n X 0 dX4_feed_69 rfl rfl ?_
            refine z_get X (v := .int (nI (cn 0))) 0 0 wa_X4 rfl rfl rfl (by decide) q_559 rfl rfl dX4_feed_70 ?_
            refine z_lload_n X 1 dX4_feed_73 rfl rfl ?_
            refine z_lastN X (n := 200) (g := w 1) 1 rfl rfl (by omega) (by decide) dX4_feed_74 ?_
            refine z_f (MF_w 1 200 rfl (by decide) _) ?_
            refine z_aload_n X 0 dX4_feed_75 rfl rfl ?_
            refine z_get X (v := .ref (ad 2)) 0 2 wa_X4 rfl rfl rfl (by decide) q_561 rfl rfl dX4_feed_76 ?_
            refine z_aload_n X 0 dX4_feed_79 rfl rfl ?_
            refine z_get X (v := .int (nI (cn 0))) 0 0 wa_X4 rfl rfl rfl (by decide) q_559 rfl rfl dX4_feed_80 ?_
            refine z_iload_n X 2 dX4_feed_83 rfl rfl ?_
            refine z_iastN X (n := 200) (g := u 2) 2 rfl rfl (by omega) (by decide) dX4_feed_84 ?_
            refine z_f (MF_u 2 200 rfl (by decide) _) ?_
            refine z_aload_n X 0 dX4_feed_85 rfl rfl ?_
            refine z_get X (v := .ref (ad 3)) 0 3 wa_X4 rfl rfl rfl (by decide) q_562 rfl rfl dX4_feed_86 ?_
            refine z_aload_n X 0 dX4_feed_89 rfl rfl ?_
            refine z_get X (v := .int (nI (cn 0))) 0 0 wa_X4 rfl rfl rfl (by decide) q_559 rfl rfl dX4_feed_90 ?_
            refine z_lload X 3 dX4_feed_93 rfl ?_
            refine z_lastN X (n := 200) (g := w 3) 3 rfl rfl (by omega) (by decide) dX4_feed_95 ?_
            refine z_f (MF_w 3 200 rfl (by decide) _) ?_
            refine z_aload_n X 0 dX4_feed_96 rfl rfl ?_
            refine z_get X (v := .ref (ad 4)) 0 4 wa_X4 rfl rfl rfl (by decide) q_563 rfl rfl dX4_feed_97 ?_
            refine z_aload_n X 0 dX4_feed_100 rfl rfl ?_
            refine z_get X (v := .int (nI (cn 0))) 0 0 wa_X4 rfl rfl rfl (by decide) q_559 rfl rfl dX4_feed_101 ?_
            refine z_iconst X (v := -1) dX4_feed_104 (by decide) ?_
            refine z_iastN X (n := 200) (g := u 4) 4 rfl rfl (by omega) (by decide) dX4_feed_105 ?_
            refine z_f (MF_u 4 200 rfl (by decide) _) ?_
            refine z_aload_n X 0 dX4_feed_106 rfl rfl ?_
            refine z_dup X dX4_feed_107 rfl ?_
            refine z_get X (v := .int (nI (cn 0))) 0 0 wa_X4 rfl rfl rfl (by decide) q_559 rfl rfl dX4_feed_108 ?_
            refine z_iconst X (v := nI 1) dX4_feed_111 (by decide) ?_
            refine z_iaddN X dX4_feed_112 ?_
            refine z_put X (ty := .int) 0 0 wa_X4 tyX4 tyX4_ok nmX4 rfl rfl rfl (by decide) q_559 rfl rfl (by decide +kernel) rfl rfl (Nat.le_of_ble_eq_true rfl) dX4_feed_113 ?_
            refine z_f (MF_c (cn' := va_up cn 0 ((cn 0) + 1)) rfl) ?_
            refine z_iconst X (v := nI 1) dX4_feed_116 (by decide) ?_
            refine z_zret rfl X (Nat.le_of_ble_eq_true rfl) (Nat.le_of_ble_eq_true rfl) ?_ dX4_feed_117
            have h9 : okFeedM cn w sc k g := ⟨c7, c14, c25, c37, fun h => absurd h.1 (by omega)⟩
            exact ⟨by rw [if_pos h9], rfl, by rw [if_pos h9]⟩
          · refine z_lload_n X 1 dX4_feed_47 rfl rfl ?_
            refine z_aload_n X 0 dX4_feed_48 rfl rfl ?_
            refine z_get X (v := .ref (ad 1)) 0 1 wa_X4 rfl rfl rfl (by decide) q_560 rfl rfl dX4_feed_49 ?_
            refine z_aload_n X 0 dX4_feed_52 rfl rfl ?_
            refine z_get X (v := .int (nI (cn 0))) 0 0 wa_X4 rfl rfl rfl (by decide) q_559 rfl rfl dX4_feed_53 ?_
            refine z_iconst X (v := nI 1) dX4_feed_56 (by decide) ?_
            refine z_isubN X (by omega) dX4_feed_57 ?_
            refine z_laldN X (n := 200) (g := w 1) 1 rfl rfl (by omega) (by decide) dX4_feed_58 ?_
            refine z_lcmp_ge X (tgt := 65) dX4_feed_59 dX4_feed_60 (by decide) (fun c59 => ?_) (fun c59 => ?_)
            · refine z_aload_n X 0 dX4_feed_65 rfl rfl ?_
              refine z_get X (v := .ref (ad 1)) 0 1 wa_X4 rfl rfl rfl (by decide) q_560 rfl rfl dX4_feed_66 ?_
              refine z_aload_n X 0 dX4_feed_69 rfl rfl ?_
              refine z_get X (v := .int (nI (cn 0))) 0 0 wa_X4 rfl rfl rfl (by decide) q_559 rfl rfl dX4_feed_70 ?_
              refine z_lload_n X 1 dX4_feed_73 rfl rfl ?_
              refine z_lastN X (n := 200) (g := w 1) 1 rfl rfl (by omega) (by decide) dX4_feed_74 ?_
              refine z_f (MF_w 1 200 rfl (by decide) _) ?_
              refine z_aload_n X 0 dX4_feed_75 rfl rfl ?_
              refine z_get X (v := .ref (ad 2)) 0 2 wa_X4 rfl rfl rfl (by decide) q_561 rfl rfl dX4_feed_76 ?_
              refine z_aload_n X 0 dX4_feed_79 rfl rfl ?_
              refine z_get X (v := .int (nI (cn 0))) 0 0 wa_X4 rfl rfl rfl (by decide) q_559 rfl rfl dX4_feed_80 ?_
              refine z_iload_n X 2 dX4_feed_83 rfl rfl ?_
              refine z_iastN X (n := 200) (g := u 2) 2 rfl rfl (by omega) (by decide) dX4_feed_84 ?_
              refine z_f (MF_u 2 200 rfl (by decide) _) ?_
              refine z_aload_n X 0 dX4_feed_85 rfl rfl ?_
              refine z_get X (v := .ref (ad 3)) 0 3 wa_X4 rfl rfl rfl (by decide) q_562 rfl rfl dX4_feed_86 ?_
              refine z_aload_n X 0 dX4_feed_89 rfl rfl ?_
              refine z_get X (v := .int (nI (cn 0))) 0 0 wa_X4 rfl rfl rfl (by decide) q_559 rfl rfl dX4_feed_90 ?_
              refine z_lload X 3 dX4_feed_93 rfl ?_
              refine z_lastN X (n := 200) (g := w 3) 3 rfl rfl (by omega) (by decide) dX4_feed_95 ?_
              refine z_f (MF_w 3 200 rfl (by decide) _) ?_
              refine z_aload_n X 0 dX4_feed_96 rfl rfl ?_
              refine z_get X (v := .ref (ad 4)) 0 4 wa_X4 rfl rfl rfl (by decide) q_563 rfl rfl dX4_feed_97 ?_
              refine z_aload_n X 0 dX4_feed_100 rfl rfl ?_
              refine z_get X (v := .int (nI (cn 0))) 0 0 wa_X4 rfl rfl rfl (by decide) q_559 rfl rfl dX4_feed_101 ?_
              refine z_iconst X (v := -1) dX4_feed_104 (by decide) ?_
              refine z_iastN X (n := 200) (g := u 4) 4 rfl rfl (by omega) (by decide) dX4_feed_105 ?_
              refine z_f (MF_u 4 200 rfl (by decide) _) ?_
              refine z_aload_n X 0 dX4_feed_106 rfl rfl ?_
              refine z_dup X dX4_feed_107 rfl ?_
              refine z_get X (v := .int (nI (cn 0))) 0 0 wa_X4 rfl rfl rfl (by decide) q_559 rfl rfl dX4_feed_108 ?_
              refine z_iconst X (v := nI 1) dX4_feed_111 (by decide) ?_
              refine z_iaddN X dX4_feed_112 ?_
              refine z_put X (ty := .int) 0 0 wa_X4 tyX4 tyX4_ok nmX4 rfl rfl rfl (by decide) q_559 rfl rfl (by decide +kernel) rfl rfl (Nat.le_of_ble_eq_true rfl) dX4_feed_113 ?_
              refine z_f (MF_c (cn' := va_up cn 0 ((cn 0) + 1)) rfl) ?_
              refine z_iconst X (v := nI 1) dX4_feed_116 (by decide) ?_
              refine z_zret rfl X (Nat.le_of_ble_eq_true rfl) (Nat.le_of_ble_eq_true rfl) ?_ dX4_feed_117
              have h9 : okFeedM cn w sc k g := ⟨c7, c14, c25, c37, fun h => absurd h.2 (Int64.not_lt.mpr c59)⟩
              exact ⟨by rw [if_pos h9], rfl, by rw [if_pos h9]⟩
            · refine z_iconst X (v := nI 0) dX4_feed_63 (by decide) ?_
              refine z_zret rfl X (Nat.le_of_ble_eq_true rfl) (Nat.le_of_ble_eq_true rfl) ?_ dX4_feed_64
              have h9 : ¬ okFeedM cn w sc k g := fun h9 => h9.2.2.2.2 ⟨c44, Int64.not_le.mp c59⟩
              exact ⟨by rw [if_neg h9], rfl, by rw [if_neg h9]⟩
set_option maxHeartbeats 4000000 in
set_option maxRecDepth 100000 in
theorem m_make (l : Launch) (G : va_G) (cy : Nat → ClassId) (B : Nat) (ad : Nat → Nat) (cn : Nat → Nat) (u : Nat → Nat → Int32) (w : Nat → Nat → Int64) (x : Nat → Nat → UInt64) (hc5 : cn 5 < 12) : Ct l G cy B yX4_make cX4_make 1 (some .int) ({ frames := 0, cells := 0, slots := 0, locals := 0 } : Room) ad (MF cy ad cn u w x) [.ref (ad 0)] (fun v ad' f' => v = some (.int (nI (cn 5))) ∧ ad = ad' ∧ MF cy ad (va_up cn 5 (cn 5 + 1)) (mkU u (cn 5)) w (mkX x (cn 5)) = f') := by
  refine ct_of (by decide +kernel) (Nat.le_of_ble_eq_true rfl) ?_
  intro p e s m args below meth c X hnm
  refine z_lv (lv' := [(0, .ref (ad 0))]) [0] rfl ?_
  refine z_aload_n X 0 dX4_make_0 rfl rfl ?_
  refine z_get X (v := .ref (ad 6)) 0 6 wa_X4 rfl rfl rfl (by decide) q_565 rfl rfl dX4_make_1 ?_
  refine z_aload_n X 0 dX4_make_4 rfl rfl ?_
  refine z_get X (v := .int (nI (cn 5))) 0 5 wa_X4 rfl rfl rfl (by decide) q_564 rfl rfl dX4_make_5 ?_
  refine z_iconst X (v := nI 0) dX4_make_8 (by decide) ?_
  refine z_iastN X (n := 12) (g := u 6) 6 rfl rfl (by omega) (by decide) dX4_make_9 ?_
  refine z_f (MF_u 6 12 rfl (by decide) _) ?_
  refine z_aload_n X 0 dX4_make_10 rfl rfl ?_
  refine z_get X (v := .ref (ad 7)) 0 7 wa_X4 rfl rfl rfl (by decide) q_566 rfl rfl dX4_make_11 ?_
  refine z_aload_n X 0 dX4_make_14 rfl rfl ?_
  refine z_get X (v := .int (nI (cn 5))) 0 5 wa_X4 rfl rfl rfl (by decide) q_564 rfl rfl dX4_make_15 ?_
  refine z_ldc2d X dX4_make_18 q_663 ?_
  refine z_dastN X (n := 12) (g := x 7) 7 rfl rfl (by omega) (by decide) dX4_make_21 ?_
  refine z_f (MF_x 7 12 rfl (by decide) _) ?_
  refine z_aload_n X 0 dX4_make_22 rfl rfl ?_
  refine z_get X (v := .ref (ad 12)) 0 12 wa_X4 rfl rfl rfl (by decide) q_571 rfl rfl dX4_make_23 ?_
  refine z_aload_n X 0 dX4_make_26 rfl rfl ?_
  refine z_get X (v := .int (nI (cn 5))) 0 5 wa_X4 rfl rfl rfl (by decide) q_564 rfl rfl dX4_make_27 ?_
  refine z_iconst X (v := -1) dX4_make_30 (by decide) ?_
  refine z_iastN X (n := 12) (g := u 12) 12 rfl rfl (by omega) (by decide) dX4_make_31 ?_
  refine z_f (MF_u 12 12 rfl (by decide) _) ?_
  refine z_aload_n X 0 dX4_make_32 rfl rfl ?_
  refine z_get X (v := .ref (ad 13)) 0 13 wa_X4 rfl rfl rfl (by decide) q_572 rfl rfl dX4_make_33 ?_
  refine z_aload_n X 0 dX4_make_36 rfl rfl ?_
  refine z_get X (v := .int (nI (cn 5))) 0 5 wa_X4 rfl rfl rfl (by decide) q_564 rfl rfl dX4_make_37 ?_
  refine z_iconst X (v := -1) dX4_make_40 (by decide) ?_
  refine z_iastN X (n := 12) (g := u 13) 13 rfl rfl (by omega) (by decide) dX4_make_41 ?_
  refine z_f (MF_u 13 12 rfl (by decide) _) ?_
  refine z_aload_n X 0 dX4_make_42 rfl rfl ?_
  refine z_get X (v := .ref (ad 10)) 0 10 wa_X4 rfl rfl rfl (by decide) q_569 rfl rfl dX4_make_43 ?_
  refine z_aload_n X 0 dX4_make_46 rfl rfl ?_
  refine z_get X (v := .int (nI (cn 5))) 0 5 wa_X4 rfl rfl rfl (by decide) q_564 rfl rfl dX4_make_47 ?_
  refine z_iconst X (v := -1) dX4_make_50 (by decide) ?_
  refine z_iastN X (n := 12) (g := u 10) 10 rfl rfl (by omega) (by decide) dX4_make_51 ?_
  refine z_f (MF_u 10 12 rfl (by decide) _) ?_
  refine z_aload_n X 0 dX4_make_52 rfl rfl ?_
  refine z_get X (v := .ref (ad 11)) 0 11 wa_X4 rfl rfl rfl (by decide) q_570 rfl rfl dX4_make_53 ?_
  refine z_aload_n X 0 dX4_make_56 rfl rfl ?_
  refine z_get X (v := .int (nI (cn 5))) 0 5 wa_X4 rfl rfl rfl (by decide) q_564 rfl rfl dX4_make_57 ?_
  refine z_iconst X (v := -1) dX4_make_60 (by decide) ?_
  refine z_iastN X (n := 12) (g := u 11) 11 rfl rfl (by omega) (by decide) dX4_make_61 ?_
  refine z_f (MF_u 11 12 rfl (by decide) _) ?_
  refine z_aload_n X 0 dX4_make_62 rfl rfl ?_
  refine z_dup X dX4_make_63 rfl ?_
  refine z_get X (v := .int (nI (cn 5))) 0 5 wa_X4 rfl rfl rfl (by decide) q_564 rfl rfl dX4_make_64 ?_
  refine z_iconst X (v := nI 1) dX4_make_67 (by decide) ?_
  refine z_iaddN X dX4_make_68 ?_
  refine z_put X (ty := .int) 0 5 wa_X4 tyX4 tyX4_ok nmX4 rfl rfl rfl (by decide) q_564 rfl rfl (by decide +kernel) rfl rfl (Nat.le_of_ble_eq_true rfl) dX4_make_69 ?_
  refine z_f (MF_c (cn' := va_up cn 5 ((cn 5) + 1)) rfl) ?_
  refine z_aload_n X 0 dX4_make_72 rfl rfl ?_
  refine z_get X (v := .int (nI ((cn 5) + 1))) 0 5 wa_X4 rfl rfl rfl (by decide) q_564 rfl rfl dX4_make_73 ?_
  refine z_iconst X (v := nI 1) dX4_make_76 (by decide) ?_
  refine z_isubN X (by omega) dX4_make_77 ?_
  refine z_top (v' := .int (nI (cn 5))) (by rfl) ?_
  refine z_iret X (Nat.le_of_ble_eq_true rfl) (Nat.le_of_ble_eq_true rfl) ?_ dX4_make_78
  exact ⟨rfl, rfl, rfl⟩
set_option maxHeartbeats 4000000 in
set_option maxRecDepth 100000 in
theorem m_bale (l : Launch) (G : va_G) (cy : Nat → ClassId) (B : Nat) (ad : Nat → Nat) (cn : Nat → Nat) (u : Nat → Nat → Int32) (w : Nat → Nat → Int64) (x : Nat → Nat → UInt64) (hc0 : cn 0 ≤ 200) (hc5 : cn 5 ≤ 12) (sc : Int64) : Ct l G cy B yX4_bale cX4_bale 5 (some .int) ({ frames := 1, cells := 0, slots := 0, locals := 20 } : Room) ad (MF cy ad cn u w x) [.ref (ad 0), .long sc] (fun v ad' f' => v = some (.int (if (anyB (fun f => decide (looseM u w sc f)) (cn 0) = true ∧ cn 5 ≠ 12) then nI (cn 5) else -1)) ∧ ad = ad' ∧ (if (anyB (fun f => decide (looseM u w sc f)) (cn 0) = true ∧ cn 5 ≠ 12) then MF cy ad (va_up cn 5 (cn 5 + 1)) (mkU (va_up u 4 (intoM u w (cn 5) sc (cn 0))) (cn 5)) w (mkX x (cn 5)) else MF cy ad cn u w x) = f') := by
  refine ct_of (by decide +kernel) (Nat.le_of_ble_eq_true rfl) ?_
  intro p e s m args below meth c X hnm
  refine z_lv (lv' := [(0, .ref (ad 0)), (1, .long sc)]) [0, 1] rfl ?_
  refine z_iconst X (v := nI 0) dX4_bale_0 (by decide) ?_
  refine z_istore_n X (lv' := [(3, .int (nI 0)), (0, .ref (ad 0)), (1, .long sc)]) dX4_bale_1 rfl (by decide) rfl ?_
  refine z_iconst X (v := nI 0) dX4_bale_2 (by decide) ?_
  refine z_istore X (lv' := [(4, .int (nI 0)), (3, .int (nI 0)), (0, .ref (ad 0)), (1, .long sc)]) dX4_bale_3 (by decide) rfl ?_
  refine z_lv (lv' := [(0, .ref (ad 0)), (1, .long sc), (3, .int (nI 0)), (4, .int (nI 0))]) [2, 3, 1, 0] rfl ?_
  have lp5 : ∀ (fu5 : Nat) (i sv : Nat), (i ≤ cn 0) → (sv = if anyB (fun f => decide (looseM u w sc f)) i = true then 1 else 0) → cn 0 + 1 ≤ i + fu5 → Z G B 5 ad (MF cy ad cn u w x) p l e ({ frames := 1, cells := 0, slots := 0, locals := 20 } : Room) s m args below meth c (zEnd G B ad (MF cy ad cn u w x) below args s ({ frames := 1, cells := 0, slots := 0, locals := 20 } : Room) (fun v ad' f' => v = some (.int (if (anyB (fun f => decide (looseM u w sc f)) (cn 0) = true ∧ cn 5 ≠ 12) then nI (cn 5) else -1)) ∧ ad = ad' ∧ (if (anyB (fun f => decide (looseM u w sc f)) (cn 0) = true ∧ cn 5 ≠ 12) then MF cy ad (va_up cn 5 (cn 5 + 1)) (mkU (va_up u 4 (intoM u w (cn 5) sc (cn 0))) (cn 5)) w (mkX x (cn 5)) else MF cy ad cn u w x) = f')) ad (MF cy ad cn u w x) 0 0 5 [(0, .ref (ad 0)), (1, .long sc), (3, .int (nI sv)), (4, .int (nI i))] [] := by
    intro fu5
    induction fu5 with
    | zero => intro i sv hi hs hm5; exact absurd hm5 (by omega)
    | succ fu5 ih5 =>
      intro i sv hi hs hm5
      refine z_iload X 3 dX4_bale_5 rfl ?_
      refine z_aload_n X 0 dX4_bale_7 rfl rfl ?_
      refine z_get X (v := .int (nI (cn 0))) 0 0 wa_X4 rfl rfl rfl (by decide) q_559 rfl rfl dX4_bale_8 ?_
      refine z_icmp_geN X (tgt := 52) (by omega) (by omega) dX4_bale_11 (by decide) (fun c11 => ?_) (fun c11 => ?_)
      · obtain rfl : i = cn 0 := by omega
        refine z_iload_n X 2 dX4_bale_52 rfl rfl ?_
        refine z_if_eqN X (tgt := 65) (by rw [hs]; exact b01_lt) dX4_bale_53 (by decide) (fun c53 => ?_) (fun c53 => ?_)
        · refine z_iconst X (v := -1) dX4_bale_65 (by decide) ?_
          refine z_iret X (Nat.le_of_ble_eq_true rfl) (Nat.le_of_ble_eq_true rfl) ?_ dX4_bale_66
          have h9 : ¬ (anyB (fun f => decide (looseM u w sc f)) (cn 0) = true ∧ cn 5 ≠ 12) := fun h => absurd (if_pos h.1) (by rw [← hs]; omega)
          exact ⟨by rw [if_neg h9], rfl, by rw [if_neg h9]⟩
        · refine z_aload_n X 0 dX4_bale_56 rfl rfl ?_
          refine z_get X (v := .int (nI (cn 5))) 0 5 wa_X4 rfl rfl rfl (by decide) q_564 rfl rfl dX4_bale_57 ?_
          refine z_bipush X (v := nI 12) dX4_bale_60 (by decide) ?_
          refine z_icmp_neN X (tgt := 67) (by omega) (by omega) dX4_bale_62 (by decide) (fun c62 => ?_) (fun c62 => ?_)
          · refine z_iconst X (v := nI 0) dX4_bale_67 (by decide) ?_
            refine z_istore X (lv' := [(4, .int (nI 0)), (0, .ref (ad 0)), (1, .long sc), (3, .int (nI sv))]) dX4_bale_68 (by decide) rfl ?_
            refine z_lv (lv' := [(0, .ref (ad 0)), (1, .long sc), (4, .int (nI 0))]) [1, 2, 0] rfl ?_
            have lp70 : ∀ (fu70 : Nat) (i : Nat), (i ≤ cn 0) → cn 0 + 1 ≤ i + fu70 → Z G B 5 ad (MF cy ad cn u w x) p l e ({ frames := 1, cells := 0, slots := 0, locals := 20 } : Room) s m args below meth c (zEnd G B ad (MF cy ad cn u w x) below args s ({ frames := 1, cells := 0, slots := 0, locals := 20 } : Room) (fun v ad' f' => v = some (.int (if (anyB (fun f => decide (looseM u w sc f)) (cn 0) = true ∧ cn 5 ≠ 12) then nI (cn 5) else -1)) ∧ ad = ad' ∧ (if (anyB (fun f => decide (looseM u w sc f)) (cn 0) = true ∧ cn 5 ≠ 12) then MF cy ad (va_up cn 5 (cn 5 + 1)) (mkU (va_up u 4 (intoM u w (cn 5) sc (cn 0))) (cn 5)) w (mkX x (cn 5)) else MF cy ad cn u w x) = f')) ad (MF cy ad cn (va_up u 4 (intoM u w (cn 5) sc i)) w x) 0 0 70 [(0, .ref (ad 0)), (1, .long sc), (4, .int (nI i))] [] := by
              intro fu70
              induction fu70 with
              | zero => intro i hi2 hm70; exact absurd hm70 (by omega)
              | succ fu70 ih70 =>
                intro i hi2 hm70
                refine z_iload X 2 dX4_bale_70 rfl ?_
                refine z_aload_n X 0 dX4_bale_72 rfl rfl ?_
                refine z_get X (v := .int (nI (cn 0))) 0 0 wa_X4 rfl rfl rfl (by decide) q_559 rfl rfl dX4_bale_73 ?_
                refine z_icmp_geN X (tgt := 128) (by omega) (by omega) dX4_bale_76 (by decide) (fun c76 => ?_) (fun c76 => ?_)
                · refine z_aload_n X 0 dX4_bale_128 rfl rfl ?_
                  have e9 : i = cn 0 := by omega
                  subst e9
                  refine z_callV X (n := 0) (As := []) (rest := []) 0 rfl rfl rfl (m_make l G cy B ad cn (va_up u 4 (intoM u w (cn 5) sc (cn 0))) w x (by omega)) q_660 q_661 q_13 q_29 q_662 (by decide +kernel) ⟨Nat.le_of_ble_eq_true rfl, Nat.le_of_ble_eq_true rfl⟩ rfl rfl (Nat.le_of_ble_eq_true rfl) dX4_bale_129 ⟨Nat.le_of_ble_eq_true rfl, Nat.le_of_ble_eq_true rfl⟩ (fun v ad' f' hp had => ?_)
                  obtain ⟨rfl, rfl, rfl⟩ := hp
                  refine z_st (st' := [.int (nI (cn 5))]) rfl ?_
                  refine z_iret X (Nat.le_of_ble_eq_true rfl) (Nat.le_of_ble_eq_true rfl) ?_ dX4_bale_132
                  have h9 : (anyB (fun f => decide (looseM u w sc f)) (cn 0) = true ∧ cn 5 ≠ 12) := ⟨(b01_n (P := anyB (fun f => decide (looseM u w sc f)) (cn 0) = true)).mp (by rw [← hs]; exact c53), c62⟩
                  exact ⟨by rw [if_pos h9], rfl, by rw [if_pos h9]⟩
                · refine z_aload_n X 0 dX4_bale_79 rfl rfl ?_
                  refine z_get X (v := .ref (ad 4)) 0 4 wa_X4 rfl rfl rfl (by decide) q_563 rfl rfl dX4_bale_80 ?_
                  refine z_iload X 2 dX4_bale_83 rfl ?_
                  refine z_aload_n X 0 dX4_bale_85 rfl rfl ?_
                  refine z_get X (v := .ref (ad 4)) 0 4 wa_X4 rfl rfl rfl (by decide) q_563 rfl rfl dX4_bale_86 ?_
                  refine z_iload X 2 dX4_bale_89 rfl ?_
                  refine z_ialdN X (n := 200) (g := intoM u w (cn 5) sc i) 4 rfl rfl (by omega) (by decide) dX4_bale_91 ?_
                  refine z_if_ge X (tgt := 114) dX4_bale_92 (by decide) (fun c92 => ?_) (fun c92 => ?_)
                  · refine z_aload_n X 0 dX4_bale_114 rfl rfl ?_
                    refine z_get X (v := .ref (ad 4)) 0 4 wa_X4 rfl rfl rfl (by decide) q_563 rfl rfl dX4_bale_115 ?_
                    refine z_iload X 2 dX4_bale_118 rfl ?_
                    refine z_ialdN X (n := 200) (g := intoM u w (cn 5) sc i) 4 rfl rfl (by omega) (by decide) dX4_bale_120 ?_
                    refine z_iastN X (n := 200) (g := intoM u w (cn 5) sc i) 4 rfl rfl (by omega) (by decide) dX4_bale_121 ?_
                    refine z_f (MF_u 4 200 rfl (by decide) _) ?_
                    refine z_f (congrArg (fun z => MF cy ad cn z w x) (show va_up (va_up u 4 (intoM u w (cn 5) sc i)) 4 (upd (intoM u w (cn 5) sc i) i ((intoM u w (cn 5) sc i) i)) = va_up u 4 (upd (intoM u w (cn 5) sc i) i ((intoM u w (cn 5) sc i) i)) from by (try simp only [upd_uu, vfu_uu, vpu_uu]); funext z9; simp only [va_up]; (repeat' split) <;> first | rfl | omega | simp_all)) ?_
                    refine z_iincN X 2 (k := 1) (lv' := [(4, .int (nI (i + 1))), (0, .ref (ad 0)), (1, .long sc)]) dX4_bale_122 rfl (by decide) (by decide) rfl ?_
                    refine z_goto X (tgt := 70) dX4_bale_125 (by decide) ?_
                    refine z_lv (lv' := [(0, .ref (ad 0)), (1, .long sc), (4, .int (nI (i + 1)))]) [1, 2, 0] rfl ?_
                    refine z_f (congrArg (fun z => MF cy ad cn (va_up u 4 z) w x) (intoM_n (n := i) (fun h => by have h1 := h.1; rw [← (show intoM u w (cn 5) sc i i = u 4 i from intoM_at)] at h1; exact absurd c92 (Int32.not_le.mpr h1)))) ?_
                    exact ih70 (i + 1) (by omega) (by omega)
                  · refine z_aload_n X 0 dX4_bale_95 rfl rfl ?_
                    refine z_get X (v := .ref (ad 1)) 0 1 wa_X4 rfl rfl rfl (by decide) q_560 rfl rfl dX4_bale_96 ?_
                    refine z_iload X 2 dX4_bale_99 rfl ?_
                    refine z_laldN X (n := 200) (g := w 1) 1 rfl rfl (by omega) (by decide) dX4_bale_101 ?_
                    refine z_lload_n X 1 dX4_bale_102 rfl rfl ?_
                    refine z_lcmp_gt X (tgt := 114) dX4_bale_103 dX4_bale_104 (by decide) (fun c103 => ?_) (fun c103 => ?_)
                    · refine z_aload_n X 0 dX4_bale_114 rfl rfl ?_
                      refine z_get X (v := .ref (ad 4)) 0 4 wa_X4 rfl rfl rfl (by decide) q_563 rfl rfl dX4_bale_115 ?_
                      refine z_iload X 2 dX4_bale_118 rfl ?_
                      refine z_ialdN X (n := 200) (g := intoM u w (cn 5) sc i) 4 rfl rfl (by omega) (by decide) dX4_bale_120 ?_
                      refine z_iastN X (n := 200) (g := intoM u w (cn 5) sc i) 4 rfl rfl (by omega) (by decide) dX4_bale_121 ?_
                      refine z_f (MF_u 4 200 rfl (by decide) _) ?_
                      refine z_f (congrArg (fun z => MF cy ad cn z w x) (show va_up (va_up u 4 (intoM u w (cn 5) sc i)) 4 (upd (intoM u w (cn 5) sc i) i ((intoM u w (cn 5) sc i) i)) = va_up u 4 (upd (intoM u w (cn 5) sc i) i ((intoM u w (cn 5) sc i) i)) from by (try simp only [upd_uu, vfu_uu, vpu_uu]); funext z9; simp only [va_up]; (repeat' split) <;> first | rfl | omega | simp_all)) ?_
                      refine z_iincN X 2 (k := 1) (lv' := [(4, .int (nI (i + 1))), (0, .ref (ad 0)), (1, .long sc)]) dX4_bale_122 rfl (by decide) (by decide) rfl ?_
                      refine z_goto X (tgt := 70) dX4_bale_125 (by decide) ?_
                      refine z_lv (lv' := [(0, .ref (ad 0)), (1, .long sc), (4, .int (nI (i + 1)))]) [1, 2, 0] rfl ?_
                      refine z_f (congrArg (fun z => MF cy ad cn (va_up u 4 z) w x) (intoM_n (n := i) (fun h => absurd c103 (Int64.not_lt.mpr h.2)))) ?_
                      exact ih70 (i + 1) (by omega) (by omega)
                    · refine z_aload_n X 0 dX4_bale_107 rfl rfl ?_
                      refine z_get X (v := .int (nI (cn 5))) 0 5 wa_X4 rfl rfl rfl (by decide) q_564 rfl rfl dX4_bale_108 ?_
                      refine z_goto X (tgt := 121) dX4_bale_111 (by decide) ?_
                      refine z_iastN X (n := 200) (g := intoM u w (cn 5) sc i) 4 rfl rfl (by omega) (by decide) dX4_bale_121 ?_
                      refine z_f (MF_u 4 200 rfl (by decide) _) ?_
                      refine z_f (congrArg (fun z => MF cy ad cn z w x) (show va_up (va_up u 4 (intoM u w (cn 5) sc i)) 4 (upd (intoM u w (cn 5) sc i) i (nI (cn 5))) = va_up u 4 (upd (intoM u w (cn 5) sc i) i (nI (cn 5))) from by (try simp only [upd_uu, vfu_uu, vpu_uu]); funext z9; simp only [va_up]; (repeat' split) <;> first | rfl | omega | simp_all)) ?_
                      refine z_iincN X 2 (k := 1) (lv' := [(4, .int (nI (i + 1))), (0, .ref (ad 0)), (1, .long sc)]) dX4_bale_122 rfl (by decide) (by decide) rfl ?_
                      refine z_goto X (tgt := 70) dX4_bale_125 (by decide) ?_
                      refine z_lv (lv' := [(0, .ref (ad 0)), (1, .long sc), (4, .int (nI (i + 1)))]) [1, 2, 0] rfl ?_
                      refine z_f (congrArg (fun z => MF cy ad cn (va_up u 4 z) w x) (intoM_s (n := i) ⟨by rw [← (show intoM u w (cn 5) sc i i = u 4 i from intoM_at)]; exact Int32.not_le.mp c92, Int64.not_lt.mp c103⟩)) ?_
                      exact ih70 (i + 1) (by omega) (by omega)
            refine z_f (show MF cy ad cn u w x = MF cy ad cn (va_up u 4 (intoM u w (cn 5) sc 0)) w x from by rw [intoM_0, up_self]) ?_
            exact lp70 (cn 0 + 1) 0 (by omega) (by omega)
          · refine z_iconst X (v := -1) dX4_bale_65 (by decide) ?_
            refine z_iret X (Nat.le_of_ble_eq_true rfl) (Nat.le_of_ble_eq_true rfl) ?_ dX4_bale_66
            have h9 : ¬ (anyB (fun f => decide (looseM u w sc f)) (cn 0) = true ∧ cn 5 ≠ 12) := fun h => h.2 c62
            exact ⟨by rw [if_neg h9], rfl, by rw [if_neg h9]⟩
      · refine z_iload_n X 2 dX4_bale_14 rfl rfl ?_
        refine z_if_neN X (tgt := 40) (by rw [hs]; exact b01_lt) dX4_bale_15 (by decide) (fun c15 => ?_) (fun c15 => ?_)
        · refine z_iconst X (v := nI 1) dX4_bale_40 (by decide) ?_
          refine z_goto X (tgt := 45) dX4_bale_41 (by decide) ?_
          refine z_istore_n X (lv' := [(3, .int (nI 1)), (0, .ref (ad 0)), (1, .long sc), (4, .int (nI i))]) dX4_bale_45 rfl (by decide) rfl ?_
          refine z_iincN X 3 (k := 1) (lv' := [(4, .int (nI (i + 1))), (3, .int (nI 1)), (0, .ref (ad 0)), (1, .long sc)]) dX4_bale_46 rfl (by decide) (by decide) rfl ?_
          refine z_goto X (tgt := 5) dX4_bale_49 (by decide) ?_
          refine z_lv (lv' := [(0, .ref (ad 0)), (1, .long sc), (3, .int (nI 1)), (4, .int (nI (i + 1)))]) [2, 3, 1, 0] rfl ?_
          exact ih5 (i + 1) 1 (by omega) (by exact anyB_k ((b01_n (P := anyB (fun f => decide (looseM u w sc f)) i = true)).mp (by rw [← hs]; exact c15))) (by omega)
        · refine z_aload_n X 0 dX4_bale_18 rfl rfl ?_
          refine z_get X (v := .ref (ad 4)) 0 4 wa_X4 rfl rfl rfl (by decide) q_563 rfl rfl dX4_bale_19 ?_
          refine z_iload X 3 dX4_bale_22 rfl ?_
          refine z_ialdN X (n := 200) (g := u 4) 4 rfl rfl (by omega) (by decide) dX4_bale_24 ?_
          refine z_if_ge X (tgt := 44) dX4_bale_25 (by decide) (fun c25 => ?_) (fun c25 => ?_)
          · refine z_iconst X (v := nI 0) dX4_bale_44 (by decide) ?_
            refine z_istore_n X (lv' := [(3, .int (nI 0)), (0, .ref (ad 0)), (1, .long sc), (4, .int (nI i))]) dX4_bale_45 rfl (by decide) rfl ?_
            refine z_iincN X 3 (k := 1) (lv' := [(4, .int (nI (i + 1))), (3, .int (nI 0)), (0, .ref (ad 0)), (1, .long sc)]) dX4_bale_46 rfl (by decide) (by decide) rfl ?_
            refine z_goto X (tgt := 5) dX4_bale_49 (by decide) ?_
            refine z_lv (lv' := [(0, .ref (ad 0)), (1, .long sc), (3, .int (nI 0)), (4, .int (nI (i + 1)))]) [2, 3, 1, 0] rfl ?_
            exact ih5 (i + 1) 0 (by omega) (by exact anyB_f ((b01_0 (P := anyB (fun f => decide (looseM u w sc f)) i = true)).mp (by rw [← hs]; exact c15)) (fun h => absurd c25 (Int32.not_le.mpr h.1))) (by omega)
          · refine z_aload_n X 0 dX4_bale_28 rfl rfl ?_
            refine z_get X (v := .ref (ad 1)) 0 1 wa_X4 rfl rfl rfl (by decide) q_560 rfl rfl dX4_bale_29 ?_
            refine z_iload X 3 dX4_bale_32 rfl ?_
            refine z_laldN X (n := 200) (g := w 1) 1 rfl rfl (by omega) (by decide) dX4_bale_34 ?_
            refine z_lload_n X 1 dX4_bale_35 rfl rfl ?_
            refine z_lcmp_gt X (tgt := 44) dX4_bale_36 dX4_bale_37 (by decide) (fun c36 => ?_) (fun c36 => ?_)
            · refine z_iconst X (v := nI 0) dX4_bale_44 (by decide) ?_
              refine z_istore_n X (lv' := [(3, .int (nI 0)), (0, .ref (ad 0)), (1, .long sc), (4, .int (nI i))]) dX4_bale_45 rfl (by decide) rfl ?_
              refine z_iincN X 3 (k := 1) (lv' := [(4, .int (nI (i + 1))), (3, .int (nI 0)), (0, .ref (ad 0)), (1, .long sc)]) dX4_bale_46 rfl (by decide) (by decide) rfl ?_
              refine z_goto X (tgt := 5) dX4_bale_49 (by decide) ?_
              refine z_lv (lv' := [(0, .ref (ad 0)), (1, .long sc), (3, .int (nI 0)), (4, .int (nI (i + 1)))]) [2, 3, 1, 0] rfl ?_
              exact ih5 (i + 1) 0 (by omega) (by exact anyB_f ((b01_0 (P := anyB (fun f => decide (looseM u w sc f)) i = true)).mp (by rw [← hs]; exact c15)) (fun h => absurd c36 (Int64.not_lt.mpr h.2))) (by omega)
            · refine z_iconst X (v := nI 1) dX4_bale_40 (by decide) ?_
              refine z_goto X (tgt := 45) dX4_bale_41 (by decide) ?_
              refine z_istore_n X (lv' := [(3, .int (nI 1)), (0, .ref (ad 0)), (1, .long sc), (4, .int (nI i))]) dX4_bale_45 rfl (by decide) rfl ?_
              refine z_iincN X 3 (k := 1) (lv' := [(4, .int (nI (i + 1))), (3, .int (nI 1)), (0, .ref (ad 0)), (1, .long sc)]) dX4_bale_46 rfl (by decide) (by decide) rfl ?_
              refine z_goto X (tgt := 5) dX4_bale_49 (by decide) ?_
              refine z_lv (lv' := [(0, .ref (ad 0)), (1, .long sc), (3, .int (nI 1)), (4, .int (nI (i + 1)))]) [2, 3, 1, 0] rfl ?_
              exact ih5 (i + 1) 1 (by omega) (by exact anyB_t ⟨Int32.not_le.mp c25, Int64.not_lt.mp c36⟩) (by omega)
  exact lp5 (cn 0 + 1) 0 0 (by omega) (by rfl) (by omega)
set_option maxHeartbeats 4000000 in
set_option maxRecDepth 100000 in
theorem m_has (l : Launch) (G : va_G) (cy : Nat → ClassId) (B : Nat) (ad : Nat → Nat) (cn : Nat → Nat) (u : Nat → Nat → Int32) (w : Nat → Nat → Int64) (x : Nat → Nat → UInt64) (j : Nat) (hj : j < 12) (t : Int32) : Ct l G cy B yX4_has cX4_has 5 (some .boolean) ({ frames := 0, cells := 0, slots := 0, locals := 0 } : Room) ad (MF cy ad cn u w x) [.ref (ad 0), .int (nI j), .int t] (fun v ad' f' => v = some (.int (nI (if hasI (u 12) (u 13) j t then 1 else 0))) ∧ ad = ad' ∧ MF cy ad cn u w x = f') := by
  refine ct_of (by decide +kernel) (Nat.le_of_ble_eq_true rfl) ?_
  intro p e s m args below meth c X hnm
  refine z_lv (lv' := [(0, .ref (ad 0)), (1, .int (nI j)), (2, .int t)]) [0, 1, 2] rfl ?_
  refine z_iconst X (v := nI 1) dX4_has_0 (by decide) ?_
  refine z_iload_n X 1 dX4_has_1 rfl rfl ?_
  refine z_ishl X dX4_has_2 ?_
  refine z_istore_n X (lv' := [(3, .int ((nI 1) <<< ((nI j) &&& 31))), (0, .ref (ad 0)), (1, .int (nI j)), (2, .int t)]) dX4_has_3 rfl (by decide) rfl ?_
  refine z_iload_n X 2 dX4_has_4 rfl rfl ?_
  refine z_istore X (lv' := [(4, .int (nI j)), (3, .int ((nI 1) <<< ((nI j) &&& 31))), (0, .ref (ad 0)), (1, .int (nI j)), (2, .int t)]) dX4_has_5 (by decide) rfl ?_
  refine z_iload X 0 dX4_has_7 rfl ?_
  refine z_if_ltN X (tgt := 60) (by omega) dX4_has_9 (by decide) ?_
  refine z_lv (lv' := [(0, .ref (ad 0)), (2, .int t), (3, .int ((nI 1) <<< ((nI j) &&& 31))), (4, .int (nI j))]) [2, 4, 1, 0] rfl ?_
  have lp12 : ∀ (fu12 : Nat) (b : Nat) (sv : Int32), (b < 12) → (hLoop (u 12) (u 13) (b + 1) sv = hLoop (u 12) (u 13) (j + 1) (nI 1 <<< (nI j &&& 31))) → b < fu12 → Z G B 5 ad (MF cy ad cn u w x) p l e ({ frames := 0, cells := 0, slots := 0, locals := 0 } : Room) s m args below meth c (zEnd G B ad (MF cy ad cn u w x) below args s ({ frames := 0, cells := 0, slots := 0, locals := 0 } : Room) (fun v ad' f' => v = some (.int (nI (if hasI (u 12) (u 13) j t then 1 else 0))) ∧ ad = ad' ∧ MF cy ad cn u w x = f')) ad (MF cy ad cn u w x) 0 0 12 [(0, .ref (ad 0)), (2, .int t), (3, .int sv), (4, .int (nI b))] [] := by
    intro fu12
    induction fu12 with
    | zero => intro b sv hb hs hm12; exact absurd hm12 (by omega)
    | succ fu12 ih12 =>
      intro b sv hb hs hm12
      refine z_iload_n X 2 dX4_has_12 rfl rfl ?_
      refine z_iload X 3 dX4_has_13 rfl ?_
      refine z_ishr X dX4_has_15 ?_
      refine z_iconst X (v := nI 1) dX4_has_16 (by decide) ?_
      refine z_iand X dX4_has_17 ?_
      refine z_iconst X (v := nI 1) dX4_has_18 (by decide) ?_
      refine z_icmp_ne X (tgt := 54) dX4_has_19 (by decide) (fun c19 => ?_) (fun c19 => ?_)
      · have hw : hLoop (u 12) (u 13) b sv = hLoop (u 12) (u 13) (j + 1) (nI 1 <<< (nI j &&& 31)) := by rw [← hs]; exact congrArg (hLoop (u 12) (u 13) b) (hStep_f (fun h => c19 h.1))
        by_cases hb0 : b = 0
        · refine z_iinc X 3 (v := -1) (lv' := [(4, .int (-1)), (0, .ref (ad 0)), (2, .int t), (3, .int sv)]) dX4_has_54 rfl (by rw [hb0]; rfl) (by decide) rfl ?_
          refine z_goto X (tgt := 7) dX4_has_57 (by decide) ?_
          refine z_iload X 0 dX4_has_7 rfl ?_
          refine z_if_lt X (tgt := 60) dX4_has_9 (by decide) (fun c9 => ?_) (fun c9 => by exfalso; exact absurd (by decide) c9)
          refine z_iload_n X 3 dX4_has_60 rfl rfl ?_
          refine z_iload_n X 2 dX4_has_61 rfl rfl ?_
          refine z_ishr X dX4_has_62 ?_
          refine z_iconst X (v := nI 1) dX4_has_63 (by decide) ?_
          refine z_iand X dX4_has_64 ?_
          refine z_iconst X (v := nI 1) dX4_has_65 (by decide) ?_
          refine z_icmp_ne X (tgt := 73) dX4_has_66 (by decide) (fun c66 => ?_) (fun c66 => ?_)
          · refine z_iconst X (v := nI 0) dX4_has_73 (by decide) ?_
            refine z_zret rfl X (Nat.le_of_ble_eq_true rfl) (Nat.le_of_ble_eq_true rfl) ?_ dX4_has_74
            subst hb0
            exact ⟨by first | rw [if_pos (by unfold hasI; rw [← hw]; exact c66)] | rw [if_neg (by unfold hasI; rw [← hw]; exact c66)], rfl, rfl⟩
          · refine z_iconst X (v := nI 1) dX4_has_69 (by decide) ?_
            refine z_goto X (tgt := 74) dX4_has_70 (by decide) ?_
            refine z_zret rfl X (Nat.le_of_ble_eq_true rfl) (Nat.le_of_ble_eq_true rfl) ?_ dX4_has_74
            subst hb0
            exact ⟨by first | rw [if_pos (by unfold hasI; rw [← hw]; exact c66)] | rw [if_neg (by unfold hasI; rw [← hw]; exact c66)], rfl, rfl⟩
        · refine z_iinc X 3 (v := nI (b - 1)) (lv' := [(4, .int (nI (b - 1))), (0, .ref (ad 0)), (2, .int t), (3, .int sv)]) dX4_has_54 rfl (pk_dec (by omega)) (by decide) rfl ?_
          refine z_goto X (tgt := 7) dX4_has_57 (by decide) ?_
          refine z_iload X 0 dX4_has_7 rfl ?_
          refine z_if_ltN X (tgt := 60) (by omega) dX4_has_9 (by decide) ?_
          refine z_lv (lv' := [(0, .ref (ad 0)), (2, .int t), (3, .int sv), (4, .int (nI (b - 1)))]) [1, 2, 3, 0] rfl ?_
          exact ih12 (b - 1) sv (by omega) (by rw [Nat.sub_add_cancel (by omega)]; exact hw) (by omega)
      · refine z_aload_n X 0 dX4_has_22 rfl rfl ?_
        refine z_get X (v := .ref (ad 12)) 0 12 wa_X4 rfl rfl rfl (by decide) q_571 rfl rfl dX4_has_23 ?_
        refine z_iload X 3 dX4_has_26 rfl ?_
        refine z_ialdN X (n := 12) (g := u 12) 12 rfl rfl (by omega) (by decide) dX4_has_28 ?_
        refine z_if_lt X (tgt := 54) dX4_has_29 (by decide) (fun c29 => ?_) (fun c29 => ?_)
        · have hw : hLoop (u 12) (u 13) b sv = hLoop (u 12) (u 13) (j + 1) (nI 1 <<< (nI j &&& 31)) := by rw [← hs]; exact congrArg (hLoop (u 12) (u 13) b) (hStep_f (fun h => h.2 c29))
          by_cases hb0 : b = 0
          · refine z_iinc X 3 (v := -1) (lv' := [(4, .int (-1)), (0, .ref (ad 0)), (2, .int t), (3, .int sv)]) dX4_has_54 rfl (by rw [hb0]; rfl) (by decide) rfl ?_
            refine z_goto X (tgt := 7) dX4_has_57 (by decide) ?_
            refine z_iload X 0 dX4_has_7 rfl ?_
            refine z_if_lt X (tgt := 60) dX4_has_9 (by decide) (fun c9 => ?_) (fun c9 => by exfalso; exact absurd (by decide) c9)
            refine z_iload_n X 3 dX4_has_60 rfl rfl ?_
            refine z_iload_n X 2 dX4_has_61 rfl rfl ?_
            refine z_ishr X dX4_has_62 ?_
            refine z_iconst X (v := nI 1) dX4_has_63 (by decide) ?_
            refine z_iand X dX4_has_64 ?_
            refine z_iconst X (v := nI 1) dX4_has_65 (by decide) ?_
            refine z_icmp_ne X (tgt := 73) dX4_has_66 (by decide) (fun c66 => ?_) (fun c66 => ?_)
            · refine z_iconst X (v := nI 0) dX4_has_73 (by decide) ?_
              refine z_zret rfl X (Nat.le_of_ble_eq_true rfl) (Nat.le_of_ble_eq_true rfl) ?_ dX4_has_74
              subst hb0
              exact ⟨by first | rw [if_pos (by unfold hasI; rw [← hw]; exact c66)] | rw [if_neg (by unfold hasI; rw [← hw]; exact c66)], rfl, rfl⟩
            · refine z_iconst X (v := nI 1) dX4_has_69 (by decide) ?_
              refine z_goto X (tgt := 74) dX4_has_70 (by decide) ?_
              refine z_zret rfl X (Nat.le_of_ble_eq_true rfl) (Nat.le_of_ble_eq_true rfl) ?_ dX4_has_74
              subst hb0
              exact ⟨by first | rw [if_pos (by unfold hasI; rw [← hw]; exact c66)] | rw [if_neg (by unfold hasI; rw [← hw]; exact c66)], rfl, rfl⟩
          · refine z_iinc X 3 (v := nI (b - 1)) (lv' := [(4, .int (nI (b - 1))), (0, .ref (ad 0)), (2, .int t), (3, .int sv)]) dX4_has_54 rfl (pk_dec (by omega)) (by decide) rfl ?_
            refine z_goto X (tgt := 7) dX4_has_57 (by decide) ?_
            refine z_iload X 0 dX4_has_7 rfl ?_
            refine z_if_ltN X (tgt := 60) (by omega) dX4_has_9 (by decide) ?_
            refine z_lv (lv' := [(0, .ref (ad 0)), (2, .int t), (3, .int sv), (4, .int (nI (b - 1)))]) [1, 2, 3, 0] rfl ?_
            exact ih12 (b - 1) sv (by omega) (by rw [Nat.sub_add_cancel (by omega)]; exact hw) (by omega)
        · refine z_iload_n X 2 dX4_has_32 rfl rfl ?_
          refine z_iconst X (v := nI 1) dX4_has_33 (by decide) ?_
          refine z_aload_n X 0 dX4_has_34 rfl rfl ?_
          refine z_get X (v := .ref (ad 12)) 0 12 wa_X4 rfl rfl rfl (by decide) q_571 rfl rfl dX4_has_35 ?_
          refine z_iload X 3 dX4_has_38 rfl ?_
          refine z_ialdN X (n := 12) (g := u 12) 12 rfl rfl (by omega) (by decide) dX4_has_40 ?_
          refine z_ishl X dX4_has_41 ?_
          refine z_iconst X (v := nI 1) dX4_has_42 (by decide) ?_
          refine z_aload_n X 0 dX4_has_43 rfl rfl ?_
          refine z_get X (v := .ref (ad 13)) 0 13 wa_X4 rfl rfl rfl (by decide) q_572 rfl rfl dX4_has_44 ?_
          refine z_iload X 3 dX4_has_47 rfl ?_
          refine z_ialdN X (n := 12) (g := u 13) 13 rfl rfl (by omega) (by decide) dX4_has_49 ?_
          refine z_ishl X dX4_has_50 ?_
          refine z_ior X dX4_has_51 ?_
          refine z_ior X dX4_has_52 ?_
          refine z_istore_n X (lv' := [(3, .int (sv ||| (((nI 1) <<< (((u 12) b) &&& 31)) ||| ((nI 1) <<< (((u 13) b) &&& 31))))), (0, .ref (ad 0)), (2, .int t), (4, .int (nI b))]) dX4_has_53 rfl (by decide) rfl ?_
          have hw : hLoop (u 12) (u 13) b (sv ||| (((nI 1) <<< (((u 12) b) &&& 31)) ||| ((nI 1) <<< (((u 13) b) &&& 31)))) = hLoop (u 12) (u 13) (j + 1) (nI 1 <<< (nI j &&& 31)) := by rw [← hs]; exact congrArg (hLoop (u 12) (u 13) b) (hStep_t c19 c29)
          by_cases hb0 : b = 0
          · refine z_iinc X 3 (v := -1) (lv' := [(4, .int (-1)), (3, .int (sv ||| (((nI 1) <<< (((u 12) b) &&& 31)) ||| ((nI 1) <<< (((u 13) b) &&& 31))))), (0, .ref (ad 0)), (2, .int t)]) dX4_has_54 rfl (by rw [hb0]; rfl) (by decide) rfl ?_
            refine z_goto X (tgt := 7) dX4_has_57 (by decide) ?_
            refine z_iload X 0 dX4_has_7 rfl ?_
            refine z_if_lt X (tgt := 60) dX4_has_9 (by decide) (fun c9 => ?_) (fun c9 => by exfalso; exact absurd (by decide) c9)
            refine z_iload_n X 1 dX4_has_60 rfl rfl ?_
            refine z_iload_n X 3 dX4_has_61 rfl rfl ?_
            refine z_ishr X dX4_has_62 ?_
            refine z_iconst X (v := nI 1) dX4_has_63 (by decide) ?_
            refine z_iand X dX4_has_64 ?_
            refine z_iconst X (v := nI 1) dX4_has_65 (by decide) ?_
            refine z_icmp_ne X (tgt := 73) dX4_has_66 (by decide) (fun c66 => ?_) (fun c66 => ?_)
            · refine z_iconst X (v := nI 0) dX4_has_73 (by decide) ?_
              refine z_zret rfl X (Nat.le_of_ble_eq_true rfl) (Nat.le_of_ble_eq_true rfl) ?_ dX4_has_74
              subst hb0
              exact ⟨by first | rw [if_pos (by unfold hasI; rw [← hw]; exact c66)] | rw [if_neg (by unfold hasI; rw [← hw]; exact c66)], rfl, rfl⟩
            · refine z_iconst X (v := nI 1) dX4_has_69 (by decide) ?_
              refine z_goto X (tgt := 74) dX4_has_70 (by decide) ?_
              refine z_zret rfl X (Nat.le_of_ble_eq_true rfl) (Nat.le_of_ble_eq_true rfl) ?_ dX4_has_74
              subst hb0
              exact ⟨by first | rw [if_pos (by unfold hasI; rw [← hw]; exact c66)] | rw [if_neg (by unfold hasI; rw [← hw]; exact c66)], rfl, rfl⟩
          · refine z_iinc X 3 (v := nI (b - 1)) (lv' := [(4, .int (nI (b - 1))), (3, .int (sv ||| (((nI 1) <<< (((u 12) b) &&& 31)) ||| ((nI 1) <<< (((u 13) b) &&& 31))))), (0, .ref (ad 0)), (2, .int t)]) dX4_has_54 rfl (pk_dec (by omega)) (by decide) rfl ?_
            refine z_goto X (tgt := 7) dX4_has_57 (by decide) ?_
            refine z_iload X 0 dX4_has_7 rfl ?_
            refine z_if_ltN X (tgt := 60) (by omega) dX4_has_9 (by decide) ?_
            refine z_lv (lv' := [(0, .ref (ad 0)), (2, .int t), (3, .int (sv ||| (((nI 1) <<< (((u 12) b) &&& 31)) ||| ((nI 1) <<< (((u 13) b) &&& 31))))), (4, .int (nI (b - 1)))]) [2, 3, 1, 0] rfl ?_
            exact ih12 (b - 1) (sv ||| (((nI 1) <<< (((u 12) b) &&& 31)) ||| ((nI 1) <<< (((u 13) b) &&& 31)))) (by omega) (by rw [Nat.sub_add_cancel (by omega)]; exact hw) (by omega)
  exact lp12 (j + 1) j (nI 1 <<< (nI j &&& 31)) (by omega) (by rfl) (by omega)
set_option maxHeartbeats 4000000 in
set_option maxRecDepth 100000 in
theorem m_gramsOf (l : Launch) (G : va_G) (cy : Nat → ClassId) (B : Nat) (ad : Nat → Nat) (cn : Nat → Nat) (u : Nat → Nat → Int32) (w : Nat → Nat → Int64) (x : Nat → Nat → UInt64) (hc0 : cn 0 ≤ 200) (j : Nat) (hj : j < 12) (k : Int32) : Ct l G cy B yX4_gramsOf cX4_gramsOf 6 (some .long) ({ frames := 1, cells := 0, slots := 0, locals := 24 } : Room) ad (MF cy ad cn u w x) [.ref (ad 0), .int (nI j), .int k] (fun v ad' f' => v = some (.long (gramsM cn u w j k)) ∧ ad = ad' ∧ MF cy ad cn u w x = f') := by
  refine ct_of (by decide +kernel) (Nat.le_of_ble_eq_true rfl) ?_
  intro p e s m args below meth c X hnm
  refine z_lv (lv' := [(0, .ref (ad 0)), (1, .int (nI j)), (2, .int k)]) [0, 1, 2] rfl ?_
  refine z_lconst X (v := 0) dX4_gramsOf_0 rfl ?_
  refine z_lstore_n X (lv' := [(3, .long 0), (0, .ref (ad 0)), (1, .int (nI j)), (2, .int k)]) dX4_gramsOf_1 rfl (by decide) rfl ?_
  refine z_iconst X (v := nI 0) dX4_gramsOf_2 (by decide) ?_
  refine z_istore X (lv' := [(5, .int (nI 0)), (3, .long 0), (0, .ref (ad 0)), (1, .int (nI j)), (2, .int k)]) dX4_gramsOf_3 (by decide) rfl ?_
  refine z_lv (lv' := [(0, .ref (ad 0)), (1, .int (nI j)), (2, .int k), (3, .long 0), (5, .int (nI 0))]) [2, 3, 4, 1, 0] rfl ?_
  have lp5 : ∀ (fu5 : Nat) (i : Nat) (sv : Int64), (i ≤ cn 0) → (sv = sumL (fun f => if ¬ u 4 f < 0 ∧ u 2 f = k ∧ hasI (u 12) (u 13) j (u 4 f) then w 3 f else 0) i) → cn 0 + 1 ≤ i + fu5 → Z G B 6 ad (MF cy ad cn u w x) p l e ({ frames := 1, cells := 0, slots := 0, locals := 24 } : Room) s m args below meth c (zEnd G B ad (MF cy ad cn u w x) below args s ({ frames := 1, cells := 0, slots := 0, locals := 24 } : Room) (fun v ad' f' => v = some (.long (gramsM cn u w j k)) ∧ ad = ad' ∧ MF cy ad cn u w x = f')) ad (MF cy ad cn u w x) 0 0 5 [(0, .ref (ad 0)), (1, .int (nI j)), (2, .int k), (3, .long sv), (5, .int (nI i))] [] := by
    intro fu5
    induction fu5 with
    | zero => intro i sv hi hs hm5; exact absurd hm5 (by omega)
    | succ fu5 ih5 =>
      intro i sv hi hs hm5
      refine z_iload X 4 dX4_gramsOf_5 rfl ?_
      refine z_aload_n X 0 dX4_gramsOf_7 rfl rfl ?_
      refine z_get X (v := .int (nI (cn 0))) 0 0 wa_X4 rfl rfl rfl (by decide) q_559 rfl rfl dX4_gramsOf_8 ?_
      refine z_icmp_geN X (tgt := 70) (by omega) (by omega) dX4_gramsOf_11 (by decide) (fun c11 => ?_) (fun c11 => ?_)
      · obtain rfl : i = cn 0 := by omega
        refine z_lload_n X 3 dX4_gramsOf_70 rfl rfl ?_
        refine z_lret X (Nat.le_of_ble_eq_true rfl) (Nat.le_of_ble_eq_true rfl) ?_ dX4_gramsOf_71
        exact ⟨by rw [hs]; rfl, rfl, rfl⟩
      · refine z_lload_n X 3 dX4_gramsOf_14 rfl rfl ?_
        refine z_aload_n X 0 dX4_gramsOf_15 rfl rfl ?_
        refine z_get X (v := .ref (ad 4)) 0 4 wa_X4 rfl rfl rfl (by decide) q_563 rfl rfl dX4_gramsOf_16 ?_
        refine z_iload X 4 dX4_gramsOf_19 rfl ?_
        refine z_ialdN X (n := 200) (g := u 4) 4 rfl rfl (by omega) (by decide) dX4_gramsOf_21 ?_
        refine z_if_lt X (tgt := 61) dX4_gramsOf_22 (by decide) (fun c22 => ?_) (fun c22 => ?_)
        · refine z_lconst X (v := 0) dX4_gramsOf_61 rfl ?_
          refine z_ladd X dX4_gramsOf_62 ?_
          refine z_lstore_n X (lv' := [(3, .long (sv + 0)), (0, .ref (ad 0)), (1, .int (nI j)), (2, .int k), (5, .int (nI i))]) dX4_gramsOf_63 rfl (by decide) rfl ?_
          refine z_iincN X 4 (k := 1) (lv' := [(5, .int (nI (i + 1))), (3, .long (sv + 0)), (0, .ref (ad 0)), (1, .int (nI j)), (2, .int k)]) dX4_gramsOf_64 rfl (by decide) (by decide) rfl ?_
          refine z_goto X (tgt := 5) dX4_gramsOf_67 (by decide) ?_
          refine z_lv (lv' := [(0, .ref (ad 0)), (1, .int (nI j)), (2, .int k), (3, .long (sv + 0)), (5, .int (nI (i + 1)))]) [2, 3, 4, 1, 0] rfl ?_
          exact ih5 (i + 1) (sv + 0) (by omega) (by exact sumL_f hs (fun h => by simp_all)) (by omega)
        · refine z_aload_n X 0 dX4_gramsOf_25 rfl rfl ?_
          refine z_get X (v := .ref (ad 2)) 0 2 wa_X4 rfl rfl rfl (by decide) q_561 rfl rfl dX4_gramsOf_26 ?_
          refine z_iload X 4 dX4_gramsOf_29 rfl ?_
          refine z_ialdN X (n := 200) (g := u 2) 2 rfl rfl (by omega) (by decide) dX4_gramsOf_31 ?_
          refine z_iload_n X 2 dX4_gramsOf_32 rfl rfl ?_
          refine z_icmp_ne X (tgt := 61) dX4_gramsOf_33 (by decide) (fun c33 => ?_) (fun c33 => ?_)
          · refine z_lconst X (v := 0) dX4_gramsOf_61 rfl ?_
            refine z_ladd X dX4_gramsOf_62 ?_
            refine z_lstore_n X (lv' := [(3, .long (sv + 0)), (0, .ref (ad 0)), (1, .int (nI j)), (2, .int k), (5, .int (nI i))]) dX4_gramsOf_63 rfl (by decide) rfl ?_
            refine z_iincN X 4 (k := 1) (lv' := [(5, .int (nI (i + 1))), (3, .long (sv + 0)), (0, .ref (ad 0)), (1, .int (nI j)), (2, .int k)]) dX4_gramsOf_64 rfl (by decide) (by decide) rfl ?_
            refine z_goto X (tgt := 5) dX4_gramsOf_67 (by decide) ?_
            refine z_lv (lv' := [(0, .ref (ad 0)), (1, .int (nI j)), (2, .int k), (3, .long (sv + 0)), (5, .int (nI (i + 1)))]) [2, 3, 4, 1, 0] rfl ?_
            exact ih5 (i + 1) (sv + 0) (by omega) (by exact sumL_f hs (fun h => by simp_all)) (by omega)
          · refine z_aload_n X 0 dX4_gramsOf_36 rfl rfl ?_
            refine z_iload_n X 1 dX4_gramsOf_37 rfl rfl ?_
            refine z_aload_n X 0 dX4_gramsOf_38 rfl rfl ?_
            refine z_get X (v := .ref (ad 4)) 0 4 wa_X4 rfl rfl rfl (by decide) q_563 rfl rfl dX4_gramsOf_39 ?_
            refine z_iload X 4 dX4_gramsOf_42 rfl ?_
            refine z_ialdN X (n := 200) (g := u 4) 4 rfl rfl (by omega) (by decide) dX4_gramsOf_44 ?_
            refine z_callV X (n := 2) (As := [.int (nI j), .int ((u 4) i)]) (rest := [.long sv]) 0 rfl rfl rfl (m_has l G cy B ad cn u w x j hj (u 4 i)) q_674 q_675 q_16 q_29 q_676 (by decide +kernel) ⟨Nat.le_of_ble_eq_true rfl, Nat.le_of_ble_eq_true rfl⟩ rfl rfl (Nat.le_of_ble_eq_true rfl) dX4_gramsOf_45 ⟨Nat.le_of_ble_eq_true rfl, Nat.le_of_ble_eq_true rfl⟩ (fun v ad' f' hp had => ?_)
            obtain ⟨rfl, rfl, rfl⟩ := hp
            refine z_st (st' := [.int (nI (if hasI (u 12) (u 13) j (u 4 i) then 1 else 0)), .long sv]) rfl ?_
            refine z_if_eqB X (tgt := 61) dX4_gramsOf_48 (by decide) (fun c48 => ?_) (fun c48 => ?_)
            · refine z_lconst X (v := 0) dX4_gramsOf_61 rfl ?_
              refine z_ladd X dX4_gramsOf_62 ?_
              refine z_lstore_n X (lv' := [(3, .long (sv + 0)), (0, .ref (ad 0)), (1, .int (nI j)), (2, .int k), (5, .int (nI i))]) dX4_gramsOf_63 rfl (by decide) rfl ?_
              refine z_iincN X 4 (k := 1) (lv' := [(5, .int (nI (i + 1))), (3, .long (sv + 0)), (0, .ref (ad 0)), (1, .int (nI j)), (2, .int k)]) dX4_gramsOf_64 rfl (by decide) (by decide) rfl ?_
              refine z_goto X (tgt := 5) dX4_gramsOf_67 (by decide) ?_
              refine z_lv (lv' := [(0, .ref (ad 0)), (1, .int (nI j)), (2, .int k), (3, .long (sv + 0)), (5, .int (nI (i + 1)))]) [2, 3, 4, 1, 0] rfl ?_
              exact ih5 (i + 1) (sv + 0) (by omega) (by exact sumL_f hs (fun h => by simp_all)) (by omega)
            · refine z_aload_n X 0 dX4_gramsOf_51 rfl rfl ?_
              refine z_get X (v := .ref (ad 3)) 0 3 wa_X4 rfl rfl rfl (by decide) q_562 rfl rfl dX4_gramsOf_52 ?_
              refine z_iload X 4 dX4_gramsOf_55 rfl ?_
              refine z_laldN X (n := 200) (g := w 3) 3 rfl rfl (by omega) (by decide) dX4_gramsOf_57 ?_
              refine z_goto X (tgt := 62) dX4_gramsOf_58 (by decide) ?_
              refine z_ladd X dX4_gramsOf_62 ?_
              refine z_lstore_n X (lv' := [(3, .long (sv + ((w 3) i))), (0, .ref (ad 0)), (1, .int (nI j)), (2, .int k), (5, .int (nI i))]) dX4_gramsOf_63 rfl (by decide) rfl ?_
              refine z_iincN X 4 (k := 1) (lv' := [(5, .int (nI (i + 1))), (3, .long (sv + ((w 3) i))), (0, .ref (ad 0)), (1, .int (nI j)), (2, .int k)]) dX4_gramsOf_64 rfl (by decide) (by decide) rfl ?_
              refine z_goto X (tgt := 5) dX4_gramsOf_67 (by decide) ?_
              refine z_lv (lv' := [(0, .ref (ad 0)), (1, .int (nI j)), (2, .int k), (3, .long (sv + ((w 3) i))), (5, .int (nI (i + 1)))]) [2, 3, 4, 1, 0] rfl ?_
              exact ih5 (i + 1) (sv + ((w 3) i)) (by omega) (by exact sumL_t hs ⟨Int32.not_lt.mpr (Int32.not_lt.mp c22), c33, c48⟩) (by omega)
  exact lp5 (cn 0 + 1) 0 0 (by omega) (by rfl) (by omega)
set_option maxHeartbeats 4000000 in
set_option maxRecDepth 100000 in
theorem m_weight (l : Launch) (G : va_G) (cy : Nat → ClassId) (B : Nat) (ad : Nat → Nat) (cn : Nat → Nat) (u : Nat → Nat → Int32) (w : Nat → Nat → Int64) (x : Nat → Nat → UInt64) (hc0 : cn 0 ≤ 200) (j : Nat) (hj : j < 12) : Ct l G cy B yX4_weight cX4_weight 5 (some .long) ({ frames := 2, cells := 0, slots := 0, locals := 49 } : Room) ad (MF cy ad cn u w x) [.ref (ad 0), .int (nI j)] (fun v ad' f' => v = some (.long (weightM cn u w j)) ∧ ad = ad' ∧ MF cy ad cn u w x = f') := by
  refine ct_of (by decide +kernel) (Nat.le_of_ble_eq_true rfl) ?_
  intro p e s m args below meth c X hnm
  refine z_lv (lv' := [(0, .ref (ad 0)), (1, .int (nI j))]) [0, 1] rfl ?_
  refine z_lconst X (v := 0) dX4_weight_0 rfl ?_
  refine z_lstore_n X (lv' := [(2, .long 0), (0, .ref (ad 0)), (1, .int (nI j))]) dX4_weight_1 rfl (by decide) rfl ?_
  refine z_iconst X (v := nI 0) dX4_weight_2 (by decide) ?_
  refine z_istore X (lv' := [(4, .int (nI 0)), (2, .long 0), (0, .ref (ad 0)), (1, .int (nI j))]) dX4_weight_3 (by decide) rfl ?_
  refine z_lv (lv' := [(0, .ref (ad 0)), (1, .int (nI j)), (2, .long 0), (4, .int (nI 0))]) [2, 3, 1, 0] rfl ?_
  have lp5 : ∀ (fu5 : Nat) (i : Nat) (sv : Int64), (i ≤ 4) → (sv = sumL (fun k => gramsM cn u w j (nI k)) i) → 4 + 1 ≤ i + fu5 → Z G B 5 ad (MF cy ad cn u w x) p l e ({ frames := 2, cells := 0, slots := 0, locals := 49 } : Room) s m args below meth c (zEnd G B ad (MF cy ad cn u w x) below args s ({ frames := 2, cells := 0, slots := 0, locals := 49 } : Room) (fun v ad' f' => v = some (.long (weightM cn u w j)) ∧ ad = ad' ∧ MF cy ad cn u w x = f')) ad (MF cy ad cn u w x) 0 0 5 [(0, .ref (ad 0)), (1, .int (nI j)), (2, .long sv), (4, .int (nI i))] [] := by
    intro fu5
    induction fu5 with
    | zero => intro i sv hi hs hm5; exact absurd hm5 (by omega)
    | succ fu5 ih5 =>
      intro i sv hi hs hm5
      refine z_iload X 3 dX4_weight_5 rfl ?_
      refine z_iconst X (v := nI 4) dX4_weight_7 (by decide) ?_
      refine z_icmp_geN X (tgt := 27) (by omega) (by omega) dX4_weight_8 (by decide) (fun c8 => ?_) (fun c8 => ?_)
      · obtain rfl : i = 4 := by omega
        refine z_lload_n X 2 dX4_weight_27 rfl rfl ?_
        refine z_lret X (Nat.le_of_ble_eq_true rfl) (Nat.le_of_ble_eq_true rfl) ?_ dX4_weight_28
        exact ⟨by rw [hs]; rfl, rfl, rfl⟩
      · refine z_lload_n X 2 dX4_weight_11 rfl rfl ?_
        refine z_aload_n X 0 dX4_weight_12 rfl rfl ?_
        refine z_iload_n X 1 dX4_weight_13 rfl rfl ?_
        refine z_iload X 3 dX4_weight_14 rfl ?_
        refine z_callV X (n := 2) (As := [.int (nI j), .int (nI i)]) (rest := [.long sv]) 0 rfl rfl rfl (m_gramsOf l G cy B ad cn u w x hc0 j hj (nI i)) q_671 q_672 q_15 q_29 q_673 (by decide +kernel) ⟨Nat.le_of_ble_eq_true rfl, Nat.le_of_ble_eq_true rfl⟩ rfl rfl (Nat.le_of_ble_eq_true rfl) dX4_weight_16 ⟨Nat.le_of_ble_eq_true rfl, Nat.le_of_ble_eq_true rfl⟩ (fun v ad' f' hp had => ?_)
        obtain ⟨rfl, rfl, rfl⟩ := hp
        refine z_st (st' := [.long (gramsM cn u w j (nI i)), .long sv]) rfl ?_
        refine z_ladd X dX4_weight_19 ?_
        refine z_lstore_n X (lv' := [(2, .long (sv + (gramsM cn u w j (nI i)))), (0, .ref (ad 0)), (1, .int (nI j)), (4, .int (nI i))]) dX4_weight_20 rfl (by decide) rfl ?_
        refine z_iincN X 3 (k := 1) (lv' := [(4, .int (nI (i + 1))), (2, .long (sv + (gramsM cn u w j (nI i)))), (0, .ref (ad 0)), (1, .int (nI j))]) dX4_weight_21 rfl (by decide) (by decide) rfl ?_
        refine z_goto X (tgt := 5) dX4_weight_24 (by decide) ?_
        refine z_lv (lv' := [(0, .ref (ad 0)), (1, .int (nI j)), (2, .long (sv + (gramsM cn u w j (nI i)))), (4, .int (nI (i + 1)))]) [2, 3, 1, 0] rfl ?_
        exact ih5 (i + 1) (sv + (gramsM cn u w j (nI i))) (by omega) (by rw [hs]; rfl) (by omega)
  exact lp5 (4 + 1) 0 0 (by omega) (by rfl) (by omega)
set_option maxHeartbeats 4000000 in
set_option maxRecDepth 100000 in
theorem m_mainOf (l : Launch) (G : va_G) (cy : Nat → ClassId) (B : Nat) (ad : Nat → Nat) (cn : Nat → Nat) (u : Nat → Nat → Int32) (w : Nat → Nat → Int64) (x : Nat → Nat → UInt64) (hc0 : cn 0 ≤ 200) (j : Nat) (hj : j < 12) : Ct l G cy B yX4_mainOf cX4_mainOf 4 (some .int) ({ frames := 2, cells := 0, slots := 0, locals := 49 } : Room) ad (MF cy ad cn u w x) [.ref (ad 0), .int (nI j)] (fun v ad' f' => v = some (.int (nI (mainM cn u w j))) ∧ ad = ad' ∧ MF cy ad cn u w x = f') := by
  refine ct_of (by decide +kernel) (Nat.le_of_ble_eq_true rfl) ?_
  intro p e s m args below meth c X hnm
  refine z_lv (lv' := [(0, .ref (ad 0)), (1, .int (nI j))]) [0, 1] rfl ?_
  refine z_iconst X (v := nI 0) dX4_mainOf_0 (by decide) ?_
  refine z_istore_n X (lv' := [(2, .int (nI 0)), (0, .ref (ad 0)), (1, .int (nI j))]) dX4_mainOf_1 rfl (by decide) rfl ?_
  refine z_iconst X (v := nI 1) dX4_mainOf_2 (by decide) ?_
  refine z_istore_n X (lv' := [(3, .int (nI 1)), (2, .int (nI 0)), (0, .ref (ad 0)), (1, .int (nI j))]) dX4_mainOf_3 rfl (by decide) rfl ?_
  refine z_lv (lv' := [(0, .ref (ad 0)), (1, .int (nI j)), (2, .int (nI 0)), (3, .int (nI 1))]) [2, 3, 1, 0] rfl ?_
  have lp4 : ∀ (fu4 : Nat) (i mv : Nat), (i ≤ 3) → (mv = mainL (fun k => gramsM cn u w j (nI k)) i) → 3 + 1 ≤ i + fu4 → Z G B 4 ad (MF cy ad cn u w x) p l e ({ frames := 2, cells := 0, slots := 0, locals := 49 } : Room) s m args below meth c (zEnd G B ad (MF cy ad cn u w x) below args s ({ frames := 2, cells := 0, slots := 0, locals := 49 } : Room) (fun v ad' f' => v = some (.int (nI (mainM cn u w j))) ∧ ad = ad' ∧ MF cy ad cn u w x = f')) ad (MF cy ad cn u w x) 0 0 4 [(0, .ref (ad 0)), (1, .int (nI j)), (2, .int (nI mv)), (3, .int (nI (i + 1)))] [] := by
    intro fu4
    induction fu4 with
    | zero => intro i mv hi hs hm4; exact absurd hm4 (by omega)
    | succ fu4 ih4 =>
      intro i mv hi hs hm4
      refine z_iload_n X 3 dX4_mainOf_4 rfl rfl ?_
      refine z_iconst X (v := nI 4) dX4_mainOf_5 (by decide) ?_
      refine z_icmp_geN X (tgt := 37) (by omega) (by omega) dX4_mainOf_6 (by decide) (fun c6 => ?_) (fun c6 => ?_)
      · obtain rfl : i = 3 := by omega
        refine z_iload_n X 2 dX4_mainOf_37 rfl rfl ?_
        refine z_iret X (Nat.le_of_ble_eq_true rfl) (Nat.le_of_ble_eq_true rfl) ?_ dX4_mainOf_38
        exact ⟨by rw [hs]; rfl, rfl, rfl⟩
      · refine z_aload_n X 0 dX4_mainOf_9 rfl rfl ?_
        refine z_iload_n X 1 dX4_mainOf_10 rfl rfl ?_
        refine z_iload_n X 3 dX4_mainOf_11 rfl rfl ?_
        refine z_callV X (n := 2) (As := [.int (nI j), .int (nI (i + 1))]) (rest := []) 0 rfl rfl rfl (m_gramsOf l G cy B ad cn u w x hc0 j hj (nI (i + 1))) q_671 q_672 q_15 q_29 q_673 (by decide +kernel) ⟨Nat.le_of_ble_eq_true rfl, Nat.le_of_ble_eq_true rfl⟩ rfl rfl (Nat.le_of_ble_eq_true rfl) dX4_mainOf_12 ⟨Nat.le_of_ble_eq_true rfl, Nat.le_of_ble_eq_true rfl⟩ (fun v ad' f' hp had => ?_)
        obtain ⟨rfl, rfl, rfl⟩ := hp
        refine z_st (st' := [.long (gramsM cn u w j (nI (i + 1)))]) rfl ?_
        refine z_aload_n X 0 dX4_mainOf_15 rfl rfl ?_
        refine z_iload_n X 1 dX4_mainOf_16 rfl rfl ?_
        refine z_iload_n X 2 dX4_mainOf_17 rfl rfl ?_
        refine z_callV X (n := 2) (As := [.int (nI j), .int (nI mv)]) (rest := [.long (gramsM cn u w j (nI (i + 1)))]) 0 rfl rfl rfl (m_gramsOf l G cy B ad cn u w x hc0 j hj (nI mv)) q_671 q_672 q_15 q_29 q_673 (by decide +kernel) ⟨Nat.le_of_ble_eq_true rfl, Nat.le_of_ble_eq_true rfl⟩ rfl rfl (Nat.le_of_ble_eq_true rfl) dX4_mainOf_18 ⟨Nat.le_of_ble_eq_true rfl, Nat.le_of_ble_eq_true rfl⟩ (fun v ad' f' hp had => ?_)
        obtain ⟨rfl, rfl, rfl⟩ := hp
        refine z_st (st' := [.long (gramsM cn u w j (nI mv)), .long (gramsM cn u w j (nI (i + 1)))]) rfl ?_
        refine z_lcmp_le X (tgt := 29) dX4_mainOf_21 dX4_mainOf_22 (by decide) (fun c21 => ?_) (fun c21 => ?_)
        · refine z_iload_n X 2 dX4_mainOf_29 rfl rfl ?_
          refine z_istore_n X (lv' := [(2, .int (nI mv)), (0, .ref (ad 0)), (1, .int (nI j)), (3, .int (nI (i + 1)))]) dX4_mainOf_30 rfl (by decide) rfl ?_
          refine z_iincN X 3 (k := 1) (lv' := [(3, .int (nI (i + 1 + 1))), (2, .int (nI mv)), (0, .ref (ad 0)), (1, .int (nI j))]) dX4_mainOf_31 rfl (by decide) (by decide) rfl ?_
          refine z_goto X (tgt := 4) dX4_mainOf_34 (by decide) ?_
          refine z_lv (lv' := [(0, .ref (ad 0)), (1, .int (nI j)), (2, .int (nI mv)), (3, .int (nI (i + 1 + 1)))]) [2, 3, 1, 0] rfl ?_
          exact ih4 (i + 1) mv (by omega) (by subst hs; exact (if_neg (Int64.not_lt.mpr c21)).symm) (by omega)
        · refine z_iload_n X 3 dX4_mainOf_25 rfl rfl ?_
          refine z_goto X (tgt := 30) dX4_mainOf_26 (by decide) ?_
          refine z_istore_n X (lv' := [(2, .int (nI (i + 1))), (0, .ref (ad 0)), (1, .int (nI j)), (3, .int (nI (i + 1)))]) dX4_mainOf_30 rfl (by decide) rfl ?_
          refine z_iincN X 3 (k := 1) (lv' := [(3, .int (nI (i + 1 + 1))), (2, .int (nI (i + 1))), (0, .ref (ad 0)), (1, .int (nI j))]) dX4_mainOf_31 rfl (by decide) (by decide) rfl ?_
          refine z_goto X (tgt := 4) dX4_mainOf_34 (by decide) ?_
          refine z_lv (lv' := [(0, .ref (ad 0)), (1, .int (nI j)), (2, .int (nI (i + 1))), (3, .int (nI (i + 1 + 1)))]) [2, 3, 1, 0] rfl ?_
          exact ih4 (i + 1) (i + 1) (by omega) (by subst hs; exact (if_pos (Int64.not_le.mp c21)).symm) (by omega)
  exact lp4 (3 + 1) 0 0 (by omega) (by rfl) (by omega)
set_option maxHeartbeats 4000000 in
set_option maxRecDepth 100000 in
theorem m_in_i (l : Launch) (G : va_G) (cy : Nat → ClassId) (B : Nat) (ad : Nat → Nat) (cn : Nat → Nat) (u : Nat → Nat → Int32) (w : Nat → Nat → Int64) (x : Nat → Nat → UInt64) (hc0 : cn 0 ≤ 200) (hc5 : cn 5 ≤ 12) (j : Nat) (hj : j < cn 5) (k : Int32) : Ct l G cy B yX4_in cX4_in 3 (some .long) ({ frames := 2, cells := 0, slots := 0, locals := 49 } : Room) ad (MF cy ad cn u w x) [.ref (ad 0), .int (nI j), .int k] (fun v ad' f' => v = some (.long (if okKind k then gramsM cn u w j k else -1)) ∧ ad = ad' ∧ MF cy ad cn u w x = f') := by
  refine ct_of (by decide +kernel) (Nat.le_of_ble_eq_true rfl) ?_
  intro p e s m args below meth c X hnm
  refine z_lv (lv' := [(0, .ref (ad 0)), (1, .int (nI j)), (2, .int k)]) [0, 1, 2] rfl ?_
  refine z_aload_n X 0 dX4_in_0 rfl rfl ?_
  refine z_iload_n X 1 dX4_in_1 rfl rfl ?_
  refine z_callV X (n := 1) (As := [.int (nI j)]) (rest := []) 0 rfl rfl rfl (m_isBale l G cy B ad cn u w x (nI j)) q_668 q_669 q_14 q_29 q_670 (by decide +kernel) ⟨Nat.le_of_ble_eq_true rfl, Nat.le_of_ble_eq_true rfl⟩ rfl rfl (Nat.le_of_ble_eq_true rfl) dX4_in_2 ⟨Nat.le_of_ble_eq_true rfl, Nat.le_of_ble_eq_true rfl⟩ (fun v ad' f' hp had => ?_)
  obtain ⟨rfl, rfl, rfl⟩ := hp
  refine z_st (st' := [.int (nI (if ¬ (nI j) < 0 ∧ ¬ nI (cn 5) ≤ (nI j) then 1 else 0))]) rfl ?_
  refine z_if_eqB X (tgt := 24) dX4_in_5 (by decide) (fun c5 => by exfalso; exact c5 ⟨nI_pos (by omega), nI_ge (by omega) (by omega)⟩) (fun c5 => ?_)
  refine z_iload_n X 2 dX4_in_8 rfl rfl ?_
  refine z_callS X (n := 1) (As := [.int k]) (rest := []) (c_X4_isKind l G cy B ad (MF cy ad cn u w x) k) q_648 q_649 q_29 q_650 (by decide +kernel) ⟨Nat.le_of_ble_eq_true rfl, Nat.le_of_ble_eq_true rfl⟩ rfl rfl (Nat.le_of_ble_eq_true rfl) dX4_in_9 ⟨Nat.le_of_ble_eq_true rfl, Nat.le_of_ble_eq_true rfl⟩ (fun v ad' f' hp had => ?_)
  obtain ⟨rfl, rfl, rfl⟩ := hp
  refine z_st (st' := [.int (nI (if okKind k then 1 else 0))]) rfl ?_
  refine z_if_eqB X (tgt := 24) dX4_in_12 (by decide) (fun c12 => ?_) (fun c12 => ?_)
  · refine z_ldc2 X dX4_in_24 q_677 ?_
    refine z_lret X (Nat.le_of_ble_eq_true rfl) (Nat.le_of_ble_eq_true rfl) ?_ dX4_in_27
    exact ⟨by first | rw [if_pos c12] | rw [if_neg c12], rfl, rfl⟩
  · refine z_aload_n X 0 dX4_in_15 rfl rfl ?_
    refine z_iload_n X 1 dX4_in_16 rfl rfl ?_
    refine z_iload_n X 2 dX4_in_17 rfl rfl ?_
    refine z_callV X (n := 2) (As := [.int (nI j), .int k]) (rest := []) 0 rfl rfl rfl (m_gramsOf l G cy B ad cn u w x hc0 j (by omega) k) q_671 q_672 q_15 q_29 q_673 (by decide +kernel) ⟨Nat.le_of_ble_eq_true rfl, Nat.le_of_ble_eq_true rfl⟩ rfl rfl (Nat.le_of_ble_eq_true rfl) dX4_in_18 ⟨Nat.le_of_ble_eq_true rfl, Nat.le_of_ble_eq_true rfl⟩ (fun v ad' f' hp had => ?_)
    obtain ⟨rfl, rfl, rfl⟩ := hp
    refine z_st (st' := [.long (gramsM cn u w j k)]) rfl ?_
    refine z_goto X (tgt := 27) dX4_in_21 (by decide) ?_
    refine z_lret X (Nat.le_of_ble_eq_true rfl) (Nat.le_of_ble_eq_true rfl) ?_ dX4_in_27
    exact ⟨by first | rw [if_pos c12] | rw [if_neg c12], rfl, rfl⟩
set_option maxHeartbeats 4000000 in
set_option maxRecDepth 100000 in
theorem m_in_o (l : Launch) (G : va_G) (cy : Nat → ClassId) (B : Nat) (ad : Nat → Nat) (cn : Nat → Nat) (u : Nat → Nat → Int32) (w : Nat → Nat → Int64) (x : Nat → Nat → UInt64) (b : Int32) (hb : ¬ (¬ b < 0 ∧ ¬ nI (cn 5) ≤ b)) (k : Int32) : Ct l G cy B yX4_in cX4_in 3 (some .long) ({ frames := 1, cells := 0, slots := 0, locals := 21 } : Room) ad (MF cy ad cn u w x) [.ref (ad 0), .int b, .int k] (fun v ad' f' => v = some (.long (-1)) ∧ ad = ad' ∧ MF cy ad cn u w x = f') := by
  refine ct_of (by decide +kernel) (Nat.le_of_ble_eq_true rfl) ?_
  intro p e s m args below meth c X hnm
  refine z_lv (lv' := [(0, .ref (ad 0)), (1, .int b), (2, .int k)]) [0, 1, 2] rfl ?_
  refine z_aload_n X 0 dX4_in_0 rfl rfl ?_
  refine z_iload_n X 1 dX4_in_1 rfl rfl ?_
  refine z_callV X (n := 1) (As := [.int b]) (rest := []) 0 rfl rfl rfl (m_isBale l G cy B ad cn u w x b) q_668 q_669 q_14 q_29 q_670 (by decide +kernel) ⟨Nat.le_of_ble_eq_true rfl, Nat.le_of_ble_eq_true rfl⟩ rfl rfl (Nat.le_of_ble_eq_true rfl) dX4_in_2 ⟨Nat.le_of_ble_eq_true rfl, Nat.le_of_ble_eq_true rfl⟩ (fun v ad' f' hp had => ?_)
  obtain ⟨rfl, rfl, rfl⟩ := hp
  refine z_st (st' := [.int (nI (if ¬ b < 0 ∧ ¬ nI (cn 5) ≤ b then 1 else 0))]) rfl ?_
  refine z_if_eqB X (tgt := 24) dX4_in_5 (by decide) (fun c5 => ?_) (fun c5 => by exfalso; exact hb c5)
  refine z_ldc2 X dX4_in_24 q_677 ?_
  refine z_lret X (Nat.le_of_ble_eq_true rfl) (Nat.le_of_ble_eq_true rfl) ?_ dX4_in_27
  exact ⟨rfl, rfl, rfl⟩
set_option maxHeartbeats 4000000 in
set_option maxRecDepth 100000 in
theorem m_count (l : Launch) (G : va_G) (cy : Nat → ClassId) (B : Nat) (ad : Nat → Nat) (cn : Nat → Nat) (u : Nat → Nat → Int32) (w : Nat → Nat → Int64) (x : Nat → Nat → UInt64) (hc0 : cn 0 ≤ 200) (k : Int32) : Ct l G cy B yX4_count cX4_count 5 (some .long) ({ frames := 1, cells := 0, slots := 0, locals := 20 } : Room) ad (MF cy ad cn u w x) [.ref (ad 0), .int k] (fun v ad' f' => v = some (.long (if okKind k then countM cn u w k else -1)) ∧ ad = ad' ∧ MF cy ad cn u w x = f') := by
  refine ct_of (by decide +kernel) (Nat.le_of_ble_eq_true rfl) ?_
  intro p e s m args below meth c X hnm
  refine z_lv (lv' := [(0, .ref (ad 0)), (1, .int k)]) [0, 1] rfl ?_
  refine z_iload_n X 1 dX4_count_0 rfl rfl ?_
  refine z_callS X (n := 1) (As := [.int k]) (rest := []) (c_X4_isKind l G cy B ad (MF cy ad cn u w x) k) q_648 q_649 q_29 q_650 (by decide +kernel) ⟨Nat.le_of_ble_eq_true rfl, Nat.le_of_ble_eq_true rfl⟩ rfl rfl (Nat.le_of_ble_eq_true rfl) dX4_count_1 ⟨Nat.le_of_ble_eq_true rfl, Nat.le_of_ble_eq_true rfl⟩ (fun v ad' f' hp had => ?_)
  obtain ⟨rfl, rfl, rfl⟩ := hp
  refine z_st (st' := [.int (nI (if okKind k then 1 else 0))]) rfl ?_
  refine z_if_neB X (tgt := 11) dX4_count_4 (by decide) (fun c4 => ?_) (fun c4 => ?_)
  · refine z_lconst X (v := 0) dX4_count_11 rfl ?_
    refine z_lstore_n X (lv' := [(2, .long 0), (0, .ref (ad 0)), (1, .int k)]) dX4_count_12 rfl (by decide) rfl ?_
    refine z_iconst X (v := nI 0) dX4_count_13 (by decide) ?_
    refine z_istore X (lv' := [(4, .int (nI 0)), (2, .long 0), (0, .ref (ad 0)), (1, .int k)]) dX4_count_14 (by decide) rfl ?_
    refine z_lv (lv' := [(0, .ref (ad 0)), (1, .int k), (2, .long 0), (4, .int (nI 0))]) [2, 3, 1, 0] rfl ?_
    have lp16 : ∀ (fu16 : Nat) (i : Nat) (sv : Int64), (i ≤ cn 0) → (sv = sumL (fun f => if u 4 f < 0 ∧ u 2 f = k then w 3 f else 0) i) → cn 0 + 1 ≤ i + fu16 → Z G B 5 ad (MF cy ad cn u w x) p l e ({ frames := 1, cells := 0, slots := 0, locals := 20 } : Room) s m args below meth c (zEnd G B ad (MF cy ad cn u w x) below args s ({ frames := 1, cells := 0, slots := 0, locals := 20 } : Room) (fun v ad' f' => v = some (.long (if okKind k then countM cn u w k else -1)) ∧ ad = ad' ∧ MF cy ad cn u w x = f')) ad (MF cy ad cn u w x) 0 0 16 [(0, .ref (ad 0)), (1, .int k), (2, .long sv), (4, .int (nI i))] [] := by
      intro fu16
      induction fu16 with
      | zero => intro i sv hi hs hm16; exact absurd hm16 (by omega)
      | succ fu16 ih16 =>
        intro i sv hi hs hm16
        refine z_iload X 3 dX4_count_16 rfl ?_
        refine z_aload_n X 0 dX4_count_18 rfl rfl ?_
        refine z_get X (v := .int (nI (cn 0))) 0 0 wa_X4 rfl rfl rfl (by decide) q_559 rfl rfl dX4_count_19 ?_
        refine z_icmp_geN X (tgt := 66) (by omega) (by omega) dX4_count_22 (by decide) (fun c22 => ?_) (fun c22 => ?_)
        · obtain rfl : i = cn 0 := by omega
          refine z_lload_n X 2 dX4_count_66 rfl rfl ?_
          refine z_lret X (Nat.le_of_ble_eq_true rfl) (Nat.le_of_ble_eq_true rfl) ?_ dX4_count_67
          exact ⟨by rw [if_pos c4, hs]; rfl, rfl, rfl⟩
        · refine z_lload_n X 2 dX4_count_25 rfl rfl ?_
          refine z_aload_n X 0 dX4_count_26 rfl rfl ?_
          refine z_get X (v := .ref (ad 4)) 0 4 wa_X4 rfl rfl rfl (by decide) q_563 rfl rfl dX4_count_27 ?_
          refine z_iload X 3 dX4_count_30 rfl ?_
          refine z_ialdN X (n := 200) (g := u 4) 4 rfl rfl (by omega) (by decide) dX4_count_32 ?_
          refine z_if_ge X (tgt := 57) dX4_count_33 (by decide) (fun c33 => ?_) (fun c33 => ?_)
          · refine z_lconst X (v := 0) dX4_count_57 rfl ?_
            refine z_ladd X dX4_count_58 ?_
            refine z_lstore_n X (lv' := [(2, .long (sv + 0)), (0, .ref (ad 0)), (1, .int k), (4, .int (nI i))]) dX4_count_59 rfl (by decide) rfl ?_
            refine z_iincN X 3 (k := 1) (lv' := [(4, .int (nI (i + 1))), (2, .long (sv + 0)), (0, .ref (ad 0)), (1, .int k)]) dX4_count_60 rfl (by decide) (by decide) rfl ?_
            refine z_goto X (tgt := 16) dX4_count_63 (by decide) ?_
            refine z_lv (lv' := [(0, .ref (ad 0)), (1, .int k), (2, .long (sv + 0)), (4, .int (nI (i + 1)))]) [2, 3, 1, 0] rfl ?_
            exact ih16 (i + 1) (sv + 0) (by omega) (by exact sumL_f hs (fun h => absurd h.1 (Int32.not_lt.mpr c33))) (by omega)
          · refine z_aload_n X 0 dX4_count_36 rfl rfl ?_
            refine z_get X (v := .ref (ad 2)) 0 2 wa_X4 rfl rfl rfl (by decide) q_561 rfl rfl dX4_count_37 ?_
            refine z_iload X 3 dX4_count_40 rfl ?_
            refine z_ialdN X (n := 200) (g := u 2) 2 rfl rfl (by omega) (by decide) dX4_count_42 ?_
            refine z_iload_n X 1 dX4_count_43 rfl rfl ?_
            refine z_icmp_ne X (tgt := 57) dX4_count_44 (by decide) (fun c44 => ?_) (fun c44 => ?_)
            · refine z_lconst X (v := 0) dX4_count_57 rfl ?_
              refine z_ladd X dX4_count_58 ?_
              refine z_lstore_n X (lv' := [(2, .long (sv + 0)), (0, .ref (ad 0)), (1, .int k), (4, .int (nI i))]) dX4_count_59 rfl (by decide) rfl ?_
              refine z_iincN X 3 (k := 1) (lv' := [(4, .int (nI (i + 1))), (2, .long (sv + 0)), (0, .ref (ad 0)), (1, .int k)]) dX4_count_60 rfl (by decide) (by decide) rfl ?_
              refine z_goto X (tgt := 16) dX4_count_63 (by decide) ?_
              refine z_lv (lv' := [(0, .ref (ad 0)), (1, .int k), (2, .long (sv + 0)), (4, .int (nI (i + 1)))]) [2, 3, 1, 0] rfl ?_
              exact ih16 (i + 1) (sv + 0) (by omega) (by exact sumL_f hs (fun h => c44 h.2)) (by omega)
            · refine z_aload_n X 0 dX4_count_47 rfl rfl ?_
              refine z_get X (v := .ref (ad 3)) 0 3 wa_X4 rfl rfl rfl (by decide) q_562 rfl rfl dX4_count_48 ?_
              refine z_iload X 3 dX4_count_51 rfl ?_
              refine z_laldN X (n := 200) (g := w 3) 3 rfl rfl (by omega) (by decide) dX4_count_53 ?_
              refine z_goto X (tgt := 58) dX4_count_54 (by decide) ?_
              refine z_ladd X dX4_count_58 ?_
              refine z_lstore_n X (lv' := [(2, .long (sv + ((w 3) i))), (0, .ref (ad 0)), (1, .int k), (4, .int (nI i))]) dX4_count_59 rfl (by decide) rfl ?_
              refine z_iincN X 3 (k := 1) (lv' := [(4, .int (nI (i + 1))), (2, .long (sv + ((w 3) i))), (0, .ref (ad 0)), (1, .int k)]) dX4_count_60 rfl (by decide) (by decide) rfl ?_
              refine z_goto X (tgt := 16) dX4_count_63 (by decide) ?_
              refine z_lv (lv' := [(0, .ref (ad 0)), (1, .int k), (2, .long (sv + ((w 3) i))), (4, .int (nI (i + 1)))]) [2, 3, 1, 0] rfl ?_
              exact ih16 (i + 1) (sv + ((w 3) i)) (by omega) (by exact sumL_t hs ⟨Int32.not_le.mp c33, c44⟩) (by omega)
    exact lp16 (cn 0 + 1) 0 0 (by omega) (by rfl) (by omega)
  · refine z_ldc2 X dX4_count_7 q_677 ?_
    refine z_lret X (Nat.le_of_ble_eq_true rfl) (Nat.le_of_ble_eq_true rfl) ?_ dX4_count_10
    exact ⟨by rw [if_neg c4], rfl, rfl⟩
set_option maxHeartbeats 4000000 in
set_option maxRecDepth 100000 in
theorem m_wires_i (l : Launch) (G : va_G) (cy : Nat → ClassId) (B : Nat) (ad : Nat → Nat) (cn : Nat → Nat) (u : Nat → Nat → Int32) (w : Nat → Nat → Int64) (x : Nat → Nat → UInt64) (hc0 : cn 0 ≤ 200) (hc5 : cn 5 ≤ 12) (j : Nat) (hj : j < cn 5) : Ct l G cy B yX4_wires cX4_wires 4 (some .int) ({ frames := 3, cells := 0, slots := 0, locals := 73 } : Room) ad (MF cy ad cn u w x) [.ref (ad 0), .int (nI j)] (fun v ad' f' => v = some (.int (wiresOf ((weightM cn u w j + 99999) / 100000))) ∧ ad = ad' ∧ MF cy ad cn u w x = f') := by
  refine ct_of (by decide +kernel) (Nat.le_of_ble_eq_true rfl) ?_
  intro p e s m args below meth c X hnm
  refine z_lv (lv' := [(0, .ref (ad 0)), (1, .int (nI j))]) [0, 1] rfl ?_
  refine z_aload_n X 0 dX4_wires_0 rfl rfl ?_
  refine z_iload_n X 1 dX4_wires_1 rfl rfl ?_
  refine z_callV X (n := 1) (As := [.int (nI j)]) (rest := []) 0 rfl rfl rfl (m_isBale l G cy B ad cn u w x (nI j)) q_668 q_669 q_14 q_29 q_670 (by decide +kernel) ⟨Nat.le_of_ble_eq_true rfl, Nat.le_of_ble_eq_true rfl⟩ rfl rfl (Nat.le_of_ble_eq_true rfl) dX4_wires_2 ⟨Nat.le_of_ble_eq_true rfl, Nat.le_of_ble_eq_true rfl⟩ (fun v ad' f' hp had => ?_)
  obtain ⟨rfl, rfl, rfl⟩ := hp
  refine z_st (st' := [.int (nI (if ¬ (nI j) < 0 ∧ ¬ nI (cn 5) ≤ (nI j) then 1 else 0))]) rfl ?_
  refine z_if_neB X (tgt := 10) dX4_wires_5 (by decide) (fun c5 => ?_) (fun c5 => by exfalso; exact c5 ⟨nI_pos (by omega), nI_ge (by omega) (by omega)⟩)
  refine z_aload_n X 0 dX4_wires_10 rfl rfl ?_
  refine z_iload_n X 1 dX4_wires_11 rfl rfl ?_
  refine z_callV X (n := 1) (As := [.int (nI j)]) (rest := []) 0 rfl rfl rfl (m_weight l G cy B ad cn u w x hc0 j (by omega)) q_686 q_687 q_17 q_29 q_688 (by decide +kernel) ⟨Nat.le_of_ble_eq_true rfl, Nat.le_of_ble_eq_true rfl⟩ rfl rfl (Nat.le_of_ble_eq_true rfl) dX4_wires_12 ⟨Nat.le_of_ble_eq_true rfl, Nat.le_of_ble_eq_true rfl⟩ (fun v ad' f' hp had => ?_)
  obtain ⟨rfl, rfl, rfl⟩ := hp
  refine z_st (st' := [.long (weightM cn u w j)]) rfl ?_
  refine z_ldc2 X dX4_wires_15 q_689 ?_
  refine z_ladd X dX4_wires_18 ?_
  refine z_ldc2 X dX4_wires_19 q_690 ?_
  refine z_ldiv X dX4_wires_22 (by decide) ?_
  refine z_lstore_n X (lv' := [(2, .long (((weightM cn u w j) + 99999) / 100000)), (0, .ref (ad 0)), (1, .int (nI j))]) dX4_wires_23 rfl (by decide) rfl ?_
  refine z_lload_n X 0 dX4_wires_24 rfl rfl ?_
  refine z_ldc2 X dX4_wires_25 q_691 ?_
  refine z_lcmp_ge X (tgt := 36) dX4_wires_28 dX4_wires_29 (by decide) (fun c28 => ?_) (fun c28 => ?_)
  · refine z_lload_n X 0 dX4_wires_36 rfl rfl ?_
    refine z_l2i X dX4_wires_37 ?_
    refine z_iret X (Nat.le_of_ble_eq_true rfl) (Nat.le_of_ble_eq_true rfl) ?_ dX4_wires_38
    exact ⟨by unfold wiresOf; first | rw [if_pos (Int64.not_le.mp c28)] | rw [if_neg (Int64.not_lt.mpr c28)], rfl, rfl⟩
  · refine z_iconst X (v := nI 3) dX4_wires_32 (by decide) ?_
    refine z_goto X (tgt := 38) dX4_wires_33 (by decide) ?_
    refine z_iret X (Nat.le_of_ble_eq_true rfl) (Nat.le_of_ble_eq_true rfl) ?_ dX4_wires_38
    exact ⟨by unfold wiresOf; first | rw [if_pos (Int64.not_le.mp c28)] | rw [if_neg (Int64.not_lt.mpr c28)], rfl, rfl⟩
set_option maxHeartbeats 4000000 in
set_option maxRecDepth 100000 in
theorem m_wires_o (l : Launch) (G : va_G) (cy : Nat → ClassId) (B : Nat) (ad : Nat → Nat) (cn : Nat → Nat) (u : Nat → Nat → Int32) (w : Nat → Nat → Int64) (x : Nat → Nat → UInt64) (b : Int32) (hb : ¬ (¬ b < 0 ∧ ¬ nI (cn 5) ≤ b)) : Ct l G cy B yX4_wires cX4_wires 4 (some .int) ({ frames := 1, cells := 0, slots := 0, locals := 21 } : Room) ad (MF cy ad cn u w x) [.ref (ad 0), .int b] (fun v ad' f' => v = some (.int (-1)) ∧ ad = ad' ∧ MF cy ad cn u w x = f') := by
  refine ct_of (by decide +kernel) (Nat.le_of_ble_eq_true rfl) ?_
  intro p e s m args below meth c X hnm
  refine z_lv (lv' := [(0, .ref (ad 0)), (1, .int b)]) [0, 1] rfl ?_
  refine z_aload_n X 0 dX4_wires_0 rfl rfl ?_
  refine z_iload_n X 1 dX4_wires_1 rfl rfl ?_
  refine z_callV X (n := 1) (As := [.int b]) (rest := []) 0 rfl rfl rfl (m_isBale l G cy B ad cn u w x b) q_668 q_669 q_14 q_29 q_670 (by decide +kernel) ⟨Nat.le_of_ble_eq_true rfl, Nat.le_of_ble_eq_true rfl⟩ rfl rfl (Nat.le_of_ble_eq_true rfl) dX4_wires_2 ⟨Nat.le_of_ble_eq_true rfl, Nat.le_of_ble_eq_true rfl⟩ (fun v ad' f' hp had => ?_)
  obtain ⟨rfl, rfl, rfl⟩ := hp
  refine z_st (st' := [.int (nI (if ¬ b < 0 ∧ ¬ nI (cn 5) ≤ b then 1 else 0))]) rfl ?_
  refine z_if_neB X (tgt := 10) dX4_wires_5 (by decide) (fun c5 => by exfalso; exact hb c5) (fun c5 => ?_)
  refine z_iconst X (v := -1) dX4_wires_8 (by decide) ?_
  refine z_iret X (Nat.le_of_ble_eq_true rfl) (Nat.le_of_ble_eq_true rfl) ?_ dX4_wires_9
  exact ⟨rfl, rfl, rfl⟩
set_option maxHeartbeats 4000000 in
set_option maxRecDepth 100000 in
theorem m_size_i (l : Launch) (G : va_G) (cy : Nat → ClassId) (B : Nat) (ad : Nat → Nat) (cn : Nat → Nat) (u : Nat → Nat → Int32) (w : Nat → Nat → Int64) (x : Nat → Nat → UInt64) (hc0 : cn 0 ≤ 200) (hc5 : cn 5 ≤ 12) (j : Nat) (hj : j < cn 5) (p0 : UInt64) : Ct l G cy B yX4_size cX4_size 6 (some .double) ({ frames := 3, cells := 0, slots := 0, locals := 73 } : Room) ad (MF cy ad cn u w x) [.ref (ad 0), .int (nI j), .double p0] (fun v ad' f' => (∃ r, v = some (.double r) ∧ (if dGe p0 4607182418800017408 = true ∧ dLe p0 4634204016564240384 = true then sizeR (weightM cn u w j) p0 r else r = 13830554455654793216)) ∧ ad = ad' ∧ MF cy ad cn u w x = f') := by
  refine ct_of (by decide +kernel) (Nat.le_of_ble_eq_true rfl) ?_
  intro p e s m args below meth c X hnm
  refine z_lv (lv' := [(0, .ref (ad 0)), (1, .int (nI j)), (2, .double p0)]) [0, 1, 2] rfl ?_
  refine z_aload_n X 0 dX4_size_0 rfl rfl ?_
  refine z_iload_n X 1 dX4_size_1 rfl rfl ?_
  refine z_callV X (n := 1) (As := [.int (nI j)]) (rest := []) 0 rfl rfl rfl (m_isBale l G cy B ad cn u w x (nI j)) q_668 q_669 q_14 q_29 q_670 (by decide +kernel) ⟨Nat.le_of_ble_eq_true rfl, Nat.le_of_ble_eq_true rfl⟩ rfl rfl (Nat.le_of_ble_eq_true rfl) dX4_size_2 ⟨Nat.le_of_ble_eq_true rfl, Nat.le_of_ble_eq_true rfl⟩ (fun v ad' f' hp had => ?_)
  obtain ⟨rfl, rfl, rfl⟩ := hp
  refine z_st (st' := [.int (nI (if ¬ (nI j) < 0 ∧ ¬ nI (cn 5) ≤ (nI j) then 1 else 0))]) rfl ?_
  refine z_if_eqB X (tgt := 19) dX4_size_5 (by decide) (fun c5 => by exfalso; exact c5 ⟨nI_pos (by omega), nI_ge (by omega) (by omega)⟩) (fun c5 => ?_)
  refine z_dload_n X 2 dX4_size_8 rfl rfl ?_
  refine z_dconst1 X dX4_size_9 ?_
  refine z_ldc2d X dX4_size_10 q_696 ?_
  refine z_callS X (n := 3) (As := [.double p0, .double 4607182418800017408, .double 4634204016564240384]) (rest := []) (c_X4_isWithin l G cy B ad (MF cy ad cn u w x) p0 4607182418800017408 4634204016564240384) q_697 q_698 q_29 q_699 (by decide +kernel) ⟨Nat.le_of_ble_eq_true rfl, Nat.le_of_ble_eq_true rfl⟩ rfl rfl (Nat.le_of_ble_eq_true rfl) dX4_size_13 ⟨Nat.le_of_ble_eq_true rfl, Nat.le_of_ble_eq_true rfl⟩ (fun v ad' f' hp had => ?_)
  obtain ⟨rfl, rfl, rfl⟩ := hp
  refine z_st (st' := [.int (nI (if dGe p0 4607182418800017408 = true ∧ dLe p0 4634204016564240384 = true then 1 else 0))]) rfl ?_
  refine z_if_neB X (tgt := 23) dX4_size_16 (by decide) (fun c16 => ?_) (fun c16 => ?_)
  · refine z_aload_n X 0 dX4_size_23 rfl rfl ?_
    refine z_iload_n X 1 dX4_size_24 rfl rfl ?_
    refine z_callV X (n := 1) (As := [.int (nI j)]) (rest := []) 0 rfl rfl rfl (m_weight l G cy B ad cn u w x hc0 j (by omega)) q_686 q_687 q_17 q_29 q_688 (by decide +kernel) ⟨Nat.le_of_ble_eq_true rfl, Nat.le_of_ble_eq_true rfl⟩ rfl rfl (Nat.le_of_ble_eq_true rfl) dX4_size_25 ⟨Nat.le_of_ble_eq_true rfl, Nat.le_of_ble_eq_true rfl⟩ (fun v ad' f' hp had => ?_)
    obtain ⟨rfl, rfl, rfl⟩ := hp
    refine z_st (st' := [.long (weightM cn u w j)]) rfl ?_
    refine z_l2d X dX4_size_28 ?_
    refine z_ldc2d X dX4_size_29 q_701 ?_
    refine z_dmul X dX4_size_32 (fun r32 hr32 => ?_)
    refine z_dload_n X 2 dX4_size_33 rfl rfl ?_
    refine z_ddiv X dX4_size_34 (fun r34 hr34 => ?_)
    refine z_dstore X (lv' := [(4, .double r34), (0, .ref (ad 0)), (1, .int (nI j)), (2, .double p0)]) dX4_size_35 (by decide) rfl ?_
    refine z_dload X 0 dX4_size_37 rfl ?_
    refine z_dload X 0 dX4_size_39 rfl ?_
    refine z_ldc2d X dX4_size_41 q_702 ?_
    refine z_dmul X dX4_size_44 (fun r44 hr44 => ?_)
    refine z_dadd X dX4_size_45 (fun r45 hr45 => ?_)
    refine z_dret X (Nat.le_of_ble_eq_true rfl) (Nat.le_of_ble_eq_true rfl) ?_ dX4_size_46
    exact ⟨⟨_, rfl, by rw [if_pos c16]; exact ⟨r32, r34, r44, hr32, hr34, hr44, hr45⟩⟩, rfl, rfl⟩
  · refine z_ldc2d X dX4_size_19 q_700 ?_
    refine z_dret X (Nat.le_of_ble_eq_true rfl) (Nat.le_of_ble_eq_true rfl) ?_ dX4_size_22
    exact ⟨⟨_, rfl, by rw [if_neg c16]⟩, rfl, rfl⟩
set_option maxHeartbeats 4000000 in
set_option maxRecDepth 100000 in
theorem m_size_o (l : Launch) (G : va_G) (cy : Nat → ClassId) (B : Nat) (ad : Nat → Nat) (cn : Nat → Nat) (u : Nat → Nat → Int32) (w : Nat → Nat → Int64) (x : Nat → Nat → UInt64) (b : Int32) (hb : ¬ (¬ b < 0 ∧ ¬ nI (cn 5) ≤ b)) (p0 : UInt64) : Ct l G cy B yX4_size cX4_size 6 (some .double) ({ frames := 1, cells := 0, slots := 0, locals := 21 } : Room) ad (MF cy ad cn u w x) [.ref (ad 0), .int b, .double p0] (fun v ad' f' => (∃ r, v = some (.double r) ∧ r = 13830554455654793216) ∧ ad = ad' ∧ MF cy ad cn u w x = f') := by
  refine ct_of (by decide +kernel) (Nat.le_of_ble_eq_true rfl) ?_
  intro p e s m args below meth c X hnm
  refine z_lv (lv' := [(0, .ref (ad 0)), (1, .int b), (2, .double p0)]) [0, 1, 2] rfl ?_
  refine z_aload_n X 0 dX4_size_0 rfl rfl ?_
  refine z_iload_n X 1 dX4_size_1 rfl rfl ?_
  refine z_callV X (n := 1) (As := [.int b]) (rest := []) 0 rfl rfl rfl (m_isBale l G cy B ad cn u w x b) q_668 q_669 q_14 q_29 q_670 (by decide +kernel) ⟨Nat.le_of_ble_eq_true rfl, Nat.le_of_ble_eq_true rfl⟩ rfl rfl (Nat.le_of_ble_eq_true rfl) dX4_size_2 ⟨Nat.le_of_ble_eq_true rfl, Nat.le_of_ble_eq_true rfl⟩ (fun v ad' f' hp had => ?_)
  obtain ⟨rfl, rfl, rfl⟩ := hp
  refine z_st (st' := [.int (nI (if ¬ b < 0 ∧ ¬ nI (cn 5) ≤ b then 1 else 0))]) rfl ?_
  refine z_if_eqB X (tgt := 19) dX4_size_5 (by decide) (fun c5 => ?_) (fun c5 => by exfalso; exact hb c5)
  refine z_ldc2d X dX4_size_19 q_700 ?_
  refine z_dret X (Nat.le_of_ble_eq_true rfl) (Nat.le_of_ble_eq_true rfl) ?_ dX4_size_22
  exact ⟨⟨_, rfl, rfl⟩, rfl, rfl⟩
set_option maxHeartbeats 4000000 in
set_option maxRecDepth 100000 in
theorem m_state_i (l : Launch) (G : va_G) (cy : Nat → ClassId) (B : Nat) (ad : Nat → Nat) (cn : Nat → Nat) (u : Nat → Nat → Int32) (w : Nat → Nat → Int64) (x : Nat → Nat → UInt64) (hc5 : cn 5 ≤ 12) (j : Nat) (hj : j < cn 5) : Ct l G cy B yX4_state cX4_state 2 (some .int) ({ frames := 1, cells := 0, slots := 0, locals := 21 } : Room) ad (MF cy ad cn u w x) [.ref (ad 0), .int (nI j)] (fun v ad' f' => v = some (.int (u 6 j)) ∧ ad = ad' ∧ MF cy ad cn u w x = f') := by
  refine ct_of (by decide +kernel) (Nat.le_of_ble_eq_true rfl) ?_
  intro p e s m args below meth c X hnm
  refine z_lv (lv' := [(0, .ref (ad 0)), (1, .int (nI j))]) [0, 1] rfl ?_
  refine z_aload_n X 0 dX4_state_0 rfl rfl ?_
  refine z_iload_n X 1 dX4_state_1 rfl rfl ?_
  refine z_callV X (n := 1) (As := [.int (nI j)]) (rest := []) 0 rfl rfl rfl (m_isBale l G cy B ad cn u w x (nI j)) q_668 q_669 q_14 q_29 q_670 (by decide +kernel) ⟨Nat.le_of_ble_eq_true rfl, Nat.le_of_ble_eq_true rfl⟩ rfl rfl (Nat.le_of_ble_eq_true rfl) dX4_state_2 ⟨Nat.le_of_ble_eq_true rfl, Nat.le_of_ble_eq_true rfl⟩ (fun v ad' f' hp had => ?_)
  obtain ⟨rfl, rfl, rfl⟩ := hp
  refine z_st (st' := [.int (nI (if ¬ (nI j) < 0 ∧ ¬ nI (cn 5) ≤ (nI j) then 1 else 0))]) rfl ?_
  refine z_if_eqB X (tgt := 17) dX4_state_5 (by decide) (fun c5 => by exfalso; exact c5 ⟨nI_pos (by omega), nI_ge (by omega) (by omega)⟩) (fun c5 => ?_)
  refine z_aload_n X 0 dX4_state_8 rfl rfl ?_
  refine z_get X (v := .ref (ad 6)) 0 6 wa_X4 rfl rfl rfl (by decide) q_565 rfl rfl dX4_state_9 ?_
  refine z_iload_n X 1 dX4_state_12 rfl rfl ?_
  refine z_ialdN X (n := 12) (g := u 6) 6 rfl rfl (by omega) (by decide) dX4_state_13 ?_
  refine z_goto X (tgt := 18) dX4_state_14 (by decide) ?_
  refine z_iret X (Nat.le_of_ble_eq_true rfl) (Nat.le_of_ble_eq_true rfl) ?_ dX4_state_18
  exact ⟨rfl, rfl, rfl⟩
set_option maxHeartbeats 4000000 in
set_option maxRecDepth 100000 in
theorem m_state_o (l : Launch) (G : va_G) (cy : Nat → ClassId) (B : Nat) (ad : Nat → Nat) (cn : Nat → Nat) (u : Nat → Nat → Int32) (w : Nat → Nat → Int64) (x : Nat → Nat → UInt64) (b : Int32) (hb : ¬ (¬ b < 0 ∧ ¬ nI (cn 5) ≤ b)) : Ct l G cy B yX4_state cX4_state 2 (some .int) ({ frames := 1, cells := 0, slots := 0, locals := 21 } : Room) ad (MF cy ad cn u w x) [.ref (ad 0), .int b] (fun v ad' f' => v = some (.int (-1)) ∧ ad = ad' ∧ MF cy ad cn u w x = f') := by
  refine ct_of (by decide +kernel) (Nat.le_of_ble_eq_true rfl) ?_
  intro p e s m args below meth c X hnm
  refine z_lv (lv' := [(0, .ref (ad 0)), (1, .int b)]) [0, 1] rfl ?_
  refine z_aload_n X 0 dX4_state_0 rfl rfl ?_
  refine z_iload_n X 1 dX4_state_1 rfl rfl ?_
  refine z_callV X (n := 1) (As := [.int b]) (rest := []) 0 rfl rfl rfl (m_isBale l G cy B ad cn u w x b) q_668 q_669 q_14 q_29 q_670 (by decide +kernel) ⟨Nat.le_of_ble_eq_true rfl, Nat.le_of_ble_eq_true rfl⟩ rfl rfl (Nat.le_of_ble_eq_true rfl) dX4_state_2 ⟨Nat.le_of_ble_eq_true rfl, Nat.le_of_ble_eq_true rfl⟩ (fun v ad' f' hp had => ?_)
  obtain ⟨rfl, rfl, rfl⟩ := hp
  refine z_st (st' := [.int (nI (if ¬ b < 0 ∧ ¬ nI (cn 5) ≤ b then 1 else 0))]) rfl ?_
  refine z_if_eqB X (tgt := 17) dX4_state_5 (by decide) (fun c5 => ?_) (fun c5 => by exfalso; exact hb c5)
  refine z_iconst X (v := -1) dX4_state_17 (by decide) ?_
  refine z_iret X (Nat.le_of_ble_eq_true rfl) (Nat.le_of_ble_eq_true rfl) ?_ dX4_state_18
  exact ⟨rfl, rfl, rfl⟩
end
section
/-! THE REFERENCE, second part -/
abbrev okRowM (cn : Nat → Nat) (x : Nat → Nat → UInt64) (d h : UInt64) : Prop := cn 14 ≠ 6 ∧ (dGe d 13855605728582041600 = true ∧ dLe d 4641240890982006784 = true) ∧ (dGe h 0 = true ∧ dLe h 4621819117588971520 = true) ∧ ¬ (0 < cn 14 ∧ dLe d (x 15 (cn 14 - 1)) = true)
def gainL (dg ht : Nat → UInt64) (t : UInt64) : Nat → UInt64
  | 0 => 0
  | n + 1 => if dLe (dg n) t = true then ht n else gainL dg ht t n
def stepR (gn o t t' : UInt64) : Prop := ∃ a b c, alike64 a (FP.dadd t gn) = true ∧ alike64 b (FP.dsub t o) = true ∧ alike64 c (FP.dmul b 4593671619917905920) = true ∧ alike64 t' (FP.dsub a c) = true
/-- n hours: warmth, streak, spell before and after -/
def warmR (dg ht : Nat → UInt64) (nr : Nat) (o : UInt64) : Nat → UInt64 → Int32 → Int32 → UInt64 → Int32 → Int32 → Prop
  | 0, t, sk, sp, t', sk', sp' => t' = t ∧ sk' = sk ∧ sp' = sp
  | n + 1, t, sk, sp, t', sk', sp' => ∃ t1 sk1 sp1, warmR dg ht nr o n t sk sp t1 sk1 sp1 ∧ stepR (gainL dg ht t1 nr) o t1 t' ∧ sk' = (if dGe t' 4633641066610819072 = true then sk1 + nI 1 else nI 0) ∧ sp' = (if sp1 < sk' then sk' else sp1)
theorem upd_self {f : Nat → Int32} {k : Nat} : upd f k (f k) = f := by
  funext j
  unfold upd
  by_cases h : j = k
  · subst h; rw [if_pos rfl]
  · rw [if_neg h]
theorem vfu_self {f : Nat → UInt64} {k : Nat} : vf_upd f k (f k) = f := by
  funext j
  unfold vf_upd
  by_cases h : j = k
  · subst h; rw [if_pos rfl]
  · rw [if_neg h]
def scanK (p : Nat → Bool) (k : Int32) : Nat → Nat → Nat → Int32
  | 0, _, _ => -1
  | n + 1, b, s => if p b = true then (if nI s = k then nI b else scanK p k n (b + 1) (s + 1)) else scanK p k n (b + 1) s
theorem scanK_f {p : Nat → Bool} {k : Int32} {n i s : Nat} (hn : i < n) (h : p i = false) : scanK p k (n - (i + 1)) (i + 1) s = scanK p k (n - i) i s := by
  rw [show n - i = (n - (i + 1)) + 1 by omega, scanK, if_neg (by rw [h]; exact Bool.false_ne_true)]
theorem scanK_n {p : Nat → Bool} {k : Int32} {n i s : Nat} (hn : i < n) (h : p i = true) (h2 : ¬ nI s = k) : scanK p k (n - (i + 1)) (i + 1) (s + 1) = scanK p k (n - i) i s := by
  rw [show n - i = (n - (i + 1)) + 1 by omega, scanK, if_pos h, if_neg h2]
theorem scanK_y {p : Nat → Bool} {k : Int32} {n i s : Nat} (hn : i < n) (h : p i = true) (h2 : nI s = k) : nI i = scanK p k (n - i) i s := by
  rw [show n - i = (n - (i + 1)) + 1 by omega, scanK, if_pos h, if_pos h2]
abbrev alarmP (u : Nat → Nat → Int32) (b : Nat) : Prop := ¬ nI 2 ≤ u 6 b ∧ ¬ u 8 b < u 0 17
def scanF (p : Nat → Bool) : Nat → Nat → Nat
  | 0, b => b
  | n + 1, b => if p b = true then b else scanF p n (b + 1)
theorem scanF_n {p : Nat → Bool} {n i : Nat} (hn : i < n) (h : p i = false) : scanF p (n - (i + 1)) (i + 1) = scanF p (n - i) i := by
  rw [show n - i = (n - (i + 1)) + 1 by omega, scanF, if_neg (by rw [h]; exact Bool.false_ne_true)]
theorem scanF_y {p : Nat → Bool} {n i : Nat} (hn : i < n) (h : p i = true) : scanF p (n - i) i = i := by
  rw [show n - i = (n - (i + 1)) + 1 by omega, scanF, if_pos h]
abbrev okStackM (cn : Nat → Nat) (g h : Int32) : Prop := cn 18 ≠ 4 ∧ (0 ≤ g.toInt64 ∧ g.toInt64 ≤ 3) ∧ (1 ≤ h.toInt64 ∧ h.toInt64 ≤ 6)
abbrev hiN (a b : Nat) : Nat := if a < b then b else a
abbrev loN (a b : Nat) : Nat := if a < b then a else b
abbrev closeM (g : Nat → Int32) (a b : Nat) : Prop := hiN a b = loN a b ∨ ¬ g (hiN a b) < nI (hiN a b - loN a b)
def cntN (p : Nat → Bool) : Nat → Nat
  | 0 => 0
  | n + 1 => cntN p n + (if p n = true then 1 else 0)
theorem cntN_le (p : Nat → Bool) : ∀ n, cntN p n ≤ n
  | 0 => Nat.le_refl 0
  | n + 1 => by
    unfold cntN
    have := cntN_le p n
    split <;> omega
theorem anyB_s {P : Nat → Prop} [DecidablePred P] {i : Nat} (h : ¬ P i) : anyB (fun f => decide (P f)) (i + 1) = anyB (fun f => decide (P f)) i := by
  unfold anyB
  rw [decide_eq_false h, Bool.or_false]
  cases i <;> rfl
abbrev onM (u : Nat → Nat → Int32) (st : Int32) (b : Nat) : Prop := u 6 b = nI 1 ∧ u 10 b = st
abbrev othM (cn : Nat → Nat) (u : Nat → Nat → Int32) (w : Nat → Nat → Int64) (j : Nat) (st : Int32) (b : Nat) : Prop := onM u st b ∧ mainM cn u w b ≠ mainM cn u w j
abbrev nearP (u : Nat → Nat → Int32) (st b : Nat) : Prop := u 6 b = nI 1 ∧ closeM (u 19) (u 10 b).toNatClampNeg st
def nearM (cn : Nat → Nat) (u : Nat → Nat → Int32) (w : Nat → Nat → Int64) (j st n : Nat) : Int64 := weightM cn u w j + sumL (fun b => if nearP u st b then weightM cn u w b else 0) n
theorem nearM_t {cn : Nat → Nat} {u : Nat → Nat → Int32} {w : Nat → Nat → Int64} {j st i : Nat} {s : Int64} (hs : s = nearM cn u w j st i) (h : nearP u st i) : s + weightM cn u w i = nearM cn u w j st (i + 1) := by
  rw [hs, nearM, nearM, Int64.add_assoc]
  exact congrArg (fun z => weightM cn u w j + (sumL (fun b => if nearP u st b then weightM cn u w b else 0) i + z)) (if_pos h).symm
theorem nearM_f {cn : Nat → Nat} {u : Nat → Nat → Int32} {w : Nat → Nat → Int64} {j st i : Nat} {s : Int64} (hs : s = nearM cn u w j st i) (h : ¬ nearP u st i) : s = nearM cn u w j st (i + 1) := by
  rw [hs, nearM, nearM]
  have e : sumL (fun b => if nearP u st b then weightM cn u w b else 0) (i + 1) = sumL (fun b => if nearP u st b then weightM cn u w b else 0) i + 0 := congrArg (fun z => sumL (fun b => if nearP u st b then weightM cn u w b else 0) i + z) (if_neg h)
  rw [e, Int64.add_zero]
def putM (cn : Nat → Nat) (u : Nat → Nat → Int32) (w : Nat → Nat → Int64) (x : Nat → Nat → UInt64) (j st : Nat) : Nat :=
  if ¬ u 6 j = 0 then 2 else if ¬ nI (cntN (fun b => decide (onM u (nI st) b)) (cn 5)) < u 20 st then 3 else if dGe (x 7 j) 4633641066610819072 = true then 4 else if anyB (fun b => decide (othM cn u w j (nI st) b)) (cn 5) = true then 5 else if ¬ nearM cn u w j st (cn 5) ≤ 1000000 then 6 else 0
abbrev firstP (cn : Nat → Nat) (u : Nat → Nat → Int32) (w : Nat → Nat → Int64) (k : Int32) (b : Nat) : Prop := u 6 b = nI 1 ∧ nI (mainM cn u w b) = k
abbrev okLorryM (cn : Nat → Nat) (a b : Int64) : Prop := cn 21 ≠ 3 ∧ (0 ≤ a ∧ a ≤ 100000000) ∧ (0 ≤ b ∧ b ≤ 100000000)
def loadM (cn : Nat → Nat) (u : Nat → Nat → Int32) (w : Nat → Nat → Int64) (li mm c : Nat) : Int64 := sumL (fun i => weightM cn u w (u 24 (8 * li + i)).toNatClampNeg * lN (if mm = 1 then i + 1 else 1)) c
set_option maxHeartbeats 4000000 in
set_option maxRecDepth 100000 in
theorem m_row (l : Launch) (G : va_G) (cy : Nat → ClassId) (B : Nat) (ad : Nat → Nat) (cn : Nat → Nat) (u : Nat → Nat → Int32) (w : Nat → Nat → Int64) (x : Nat → Nat → UInt64) (hc14 : cn 14 ≤ 6) (dg ht : UInt64) : Ct l G cy B yX4_row cX4_row 5 (some .boolean) ({ frames := 1, cells := 0, slots := 0, locals := 25 } : Room) ad (MF cy ad cn u w x) [.ref (ad 0), .double dg, .double ht] (fun v ad' f' => v = some (.int (nI (if okRowM cn x dg ht then 1 else 0))) ∧ ad = ad' ∧ (if okRowM cn x dg ht then MF cy ad (va_up cn 14 (cn 14 + 1)) u w (va_up (va_up x 15 (vf_upd (x 15) (cn 14) dg)) 16 (vf_upd (x 16) (cn 14) ht)) else MF cy ad cn u w x) = f') := by
  refine ct_of (by decide +kernel) (Nat.le_of_ble_eq_true rfl) ?_
  intro p e s m args below meth c X hnm
  refine z_lv (lv' := [(0, .ref (ad 0)), (1, .double dg), (3, .double ht)]) [0, 1, 2] rfl ?_
  refine z_aload_n X 0 dX4_row_0 rfl rfl ?_
  refine z_get X (v := .int (nI (cn 14))) 0 14 wa_X4 rfl rfl rfl (by decide) q_573 rfl rfl dX4_row_1 ?_
  refine z_bipush X (v := nI 6) dX4_row_4 (by decide) ?_
  refine z_icmp_eqN X (tgt := 56) (by omega) (by omega) dX4_row_6 (by decide) (fun c6 => ?_) (fun c6 => ?_)
  · refine z_iconst X (v := nI 0) dX4_row_56 (by decide) ?_
    refine z_zret rfl X (Nat.le_of_ble_eq_true rfl) (Nat.le_of_ble_eq_true rfl) ?_ dX4_row_57
    have h9 : ¬ okRowM cn x dg ht := fun h9 => h9.1 c6
    exact ⟨by rw [if_neg h9], rfl, by rw [if_neg h9]⟩
  · refine z_dload_n X 1 dX4_row_9 rfl rfl ?_
    refine z_ldc2d X dX4_row_10 q_711 ?_
    refine z_ldc2d X dX4_row_13 q_712 ?_
    refine z_callS X (n := 3) (As := [.double dg, .double 13855605728582041600, .double 4641240890982006784]) (rest := []) (c_X4_isWithin l G cy B ad (MF cy ad cn u w x) dg 13855605728582041600 4641240890982006784) q_697 q_698 q_29 q_699 (by decide +kernel) ⟨Nat.le_of_ble_eq_true rfl, Nat.le_of_ble_eq_true rfl⟩ rfl rfl (Nat.le_of_ble_eq_true rfl) dX4_row_16 ⟨Nat.le_of_ble_eq_true rfl, Nat.le_of_ble_eq_true rfl⟩ (fun v ad' f' hp had => ?_)
    obtain ⟨rfl, rfl, rfl⟩ := hp
    refine z_st (st' := [.int (nI (if dGe dg 13855605728582041600 = true ∧ dLe dg 4641240890982006784 = true then 1 else 0))]) rfl ?_
    refine z_if_eqB X (tgt := 56) dX4_row_19 (by decide) (fun c19 => ?_) (fun c19 => ?_)
    · refine z_iconst X (v := nI 0) dX4_row_56 (by decide) ?_
      refine z_zret rfl X (Nat.le_of_ble_eq_true rfl) (Nat.le_of_ble_eq_true rfl) ?_ dX4_row_57
      have h9 : ¬ okRowM cn x dg ht := fun h9 => c19 h9.2.1
      exact ⟨by rw [if_neg h9], rfl, by rw [if_neg h9]⟩
    · refine z_dload_n X 2 dX4_row_22 rfl rfl ?_
      refine z_dconst0 X dX4_row_23 ?_
      refine z_ldc2d X dX4_row_24 q_713 ?_
      refine z_callS X (n := 3) (As := [.double ht, .double 0, .double 4621819117588971520]) (rest := []) (c_X4_isWithin l G cy B ad (MF cy ad cn u w x) ht 0 4621819117588971520) q_697 q_698 q_29 q_699 (by decide +kernel) ⟨Nat.le_of_ble_eq_true rfl, Nat.le_of_ble_eq_true rfl⟩ rfl rfl (Nat.le_of_ble_eq_true rfl) dX4_row_27 ⟨Nat.le_of_ble_eq_true rfl, Nat.le_of_ble_eq_true rfl⟩ (fun v ad' f' hp had => ?_)
      obtain ⟨rfl, rfl, rfl⟩ := hp
      refine z_st (st' := [.int (nI (if dGe ht 0 = true ∧ dLe ht 4621819117588971520 = true then 1 else 0))]) rfl ?_
      refine z_if_eqB X (tgt := 56) dX4_row_30 (by decide) (fun c30 => ?_) (fun c30 => ?_)
      · refine z_iconst X (v := nI 0) dX4_row_56 (by decide) ?_
        refine z_zret rfl X (Nat.le_of_ble_eq_true rfl) (Nat.le_of_ble_eq_true rfl) ?_ dX4_row_57
        have h9 : ¬ okRowM cn x dg ht := fun h9 => c30 h9.2.2.1
        exact ⟨by rw [if_neg h9], rfl, by rw [if_neg h9]⟩
      · refine z_aload_n X 0 dX4_row_33 rfl rfl ?_
        refine z_get X (v := .int (nI (cn 14))) 0 14 wa_X4 rfl rfl rfl (by decide) q_573 rfl rfl dX4_row_34 ?_
        refine z_if_leN X (tgt := 58) (by omega) dX4_row_37 (by decide) (fun c37 => ?_) (fun c37 => ?_)
        · refine z_aload_n X 0 dX4_row_58 rfl rfl ?_
          refine z_get X (v := .ref (ad 15)) 0 15 wa_X4 rfl rfl rfl (by decide) q_574 rfl rfl dX4_row_59 ?_
          refine z_aload_n X 0 dX4_row_62 rfl rfl ?_
          refine z_get X (v := .int (nI (cn 14))) 0 14 wa_X4 rfl rfl rfl (by decide) q_573 rfl rfl dX4_row_63 ?_
          refine z_dload_n X 1 dX4_row_66 rfl rfl ?_
          refine z_dastN X (n := 6) (g := x 15) 15 rfl rfl (by omega) (by decide) dX4_row_67 ?_
          refine z_f (MF_x 15 6 rfl (by decide) _) ?_
          refine z_aload_n X 0 dX4_row_68 rfl rfl ?_
          refine z_get X (v := .ref (ad 16)) 0 16 wa_X4 rfl rfl rfl (by decide) q_575 rfl rfl dX4_row_69 ?_
          refine z_aload_n X 0 dX4_row_72 rfl rfl ?_
          refine z_get X (v := .int (nI (cn 14))) 0 14 wa_X4 rfl rfl rfl (by decide) q_573 rfl rfl dX4_row_73 ?_
          refine z_dload_n X 2 dX4_row_76 rfl rfl ?_
          refine z_dastN X (n := 6) (g := x 16) 16 rfl rfl (by omega) (by decide) dX4_row_77 ?_
          refine z_f (MF_x 16 6 rfl (by decide) _) ?_
          refine z_aload_n X 0 dX4_row_78 rfl rfl ?_
          refine z_dup X dX4_row_79 rfl ?_
          refine z_get X (v := .int (nI (cn 14))) 0 14 wa_X4 rfl rfl rfl (by decide) q_573 rfl rfl dX4_row_80 ?_
          refine z_iconst X (v := nI 1) dX4_row_83 (by decide) ?_
          refine z_iaddN X dX4_row_84 ?_
          refine z_put X (ty := .int) 0 14 wa_X4 tyX4 tyX4_ok nmX4 rfl rfl rfl (by decide) q_573 rfl rfl (by decide +kernel) rfl rfl (Nat.le_of_ble_eq_true rfl) dX4_row_85 ?_
          refine z_f (MF_c (cn' := va_up cn 14 ((cn 14) + 1)) rfl) ?_
          refine z_iconst X (v := nI 1) dX4_row_88 (by decide) ?_
          refine z_zret rfl X (Nat.le_of_ble_eq_true rfl) (Nat.le_of_ble_eq_true rfl) ?_ dX4_row_89
          have h9 : okRowM cn x dg ht := ⟨c6, c19, c30, fun h => absurd h.1 (by omega)⟩
          exact ⟨by rw [if_pos h9], rfl, by rw [if_pos h9]⟩
        · refine z_dload_n X 1 dX4_row_40 rfl rfl ?_
          refine z_aload_n X 0 dX4_row_41 rfl rfl ?_
          refine z_get X (v := .ref (ad 15)) 0 15 wa_X4 rfl rfl rfl (by decide) q_574 rfl rfl dX4_row_42 ?_
          refine z_aload_n X 0 dX4_row_45 rfl rfl ?_
          refine z_get X (v := .int (nI (cn 14))) 0 14 wa_X4 rfl rfl rfl (by decide) q_573 rfl rfl dX4_row_46 ?_
          refine z_iconst X (v := nI 1) dX4_row_49 (by decide) ?_
          refine z_isubN X (by omega) dX4_row_50 ?_
          refine z_daldN X (n := 6) (g := x 15) 15 rfl rfl (by omega) (by decide) dX4_row_51 ?_
          refine z_dcmp_gt X (tgt := 58) dX4_row_52 dX4_row_53 (by decide) (fun c52 => ?_) (fun c52 => ?_)
          · refine z_aload_n X 0 dX4_row_58 rfl rfl ?_
            refine z_get X (v := .ref (ad 15)) 0 15 wa_X4 rfl rfl rfl (by decide) q_574 rfl rfl dX4_row_59 ?_
            refine z_aload_n X 0 dX4_row_62 rfl rfl ?_
            refine z_get X (v := .int (nI (cn 14))) 0 14 wa_X4 rfl rfl rfl (by decide) q_573 rfl rfl dX4_row_63 ?_
            refine z_dload_n X 1 dX4_row_66 rfl rfl ?_
            refine z_dastN X (n := 6) (g := x 15) 15 rfl rfl (by omega) (by decide) dX4_row_67 ?_
            refine z_f (MF_x 15 6 rfl (by decide) _) ?_
            refine z_aload_n X 0 dX4_row_68 rfl rfl ?_
            refine z_get X (v := .ref (ad 16)) 0 16 wa_X4 rfl rfl rfl (by decide) q_575 rfl rfl dX4_row_69 ?_
            refine z_aload_n X 0 dX4_row_72 rfl rfl ?_
            refine z_get X (v := .int (nI (cn 14))) 0 14 wa_X4 rfl rfl rfl (by decide) q_573 rfl rfl dX4_row_73 ?_
            refine z_dload_n X 2 dX4_row_76 rfl rfl ?_
            refine z_dastN X (n := 6) (g := x 16) 16 rfl rfl (by omega) (by decide) dX4_row_77 ?_
            refine z_f (MF_x 16 6 rfl (by decide) _) ?_
            refine z_aload_n X 0 dX4_row_78 rfl rfl ?_
            refine z_dup X dX4_row_79 rfl ?_
            refine z_get X (v := .int (nI (cn 14))) 0 14 wa_X4 rfl rfl rfl (by decide) q_573 rfl rfl dX4_row_80 ?_
            refine z_iconst X (v := nI 1) dX4_row_83 (by decide) ?_
            refine z_iaddN X dX4_row_84 ?_
            refine z_put X (ty := .int) 0 14 wa_X4 tyX4 tyX4_ok nmX4 rfl rfl rfl (by decide) q_573 rfl rfl (by decide +kernel) rfl rfl (Nat.le_of_ble_eq_true rfl) dX4_row_85 ?_
            refine z_f (MF_c (cn' := va_up cn 14 ((cn 14) + 1)) rfl) ?_
            refine z_iconst X (v := nI 1) dX4_row_88 (by decide) ?_
            refine z_zret rfl X (Nat.le_of_ble_eq_true rfl) (Nat.le_of_ble_eq_true rfl) ?_ dX4_row_89
            have h9 : okRowM cn x dg ht := ⟨c6, c19, c30, fun h => absurd h.2 (by rw [c52]; exact Bool.false_ne_true)⟩
            exact ⟨by rw [if_pos h9], rfl, by rw [if_pos h9]⟩
          · refine z_iconst X (v := nI 0) dX4_row_56 (by decide) ?_
            refine z_zret rfl X (Nat.le_of_ble_eq_true rfl) (Nat.le_of_ble_eq_true rfl) ?_ dX4_row_57
            have h9 : ¬ okRowM cn x dg ht := fun h9 => h9.2.2.2 ⟨c37, c52⟩
            exact ⟨by rw [if_neg h9], rfl, by rw [if_neg h9]⟩
set_option maxHeartbeats 4000000 in
set_option maxRecDepth 100000 in
theorem m_warm_i (l : Launch) (G : va_G) (cy : Nat → ClassId) (B : Nat) (ad : Nat → Nat) (cn : Nat → Nat) (u : Nat → Nat → Int32) (w : Nat → Nat → Int64) (x : Nat → Nat → UInt64) (hc5 : cn 5 ≤ 12) (hc14 : cn 14 ≤ 6) (j : Nat) (hj : j < cn 5) (n : Nat) (hn : n ≤ 100) (o : UInt64) : Ct l G cy B yX4_warm cX4_warm 11 (some .double) ({ frames := 1, cells := 0, slots := 0, locals := 25 } : Room) ad (MF cy ad cn u w x) [.ref (ad 0), .int (nI j), .int (nI n), .double o] (fun v ad' f' => (if ¬ nI 2 ≤ u 6 j ∧ dGe o 13855605728582041600 = true ∧ dLe o 4633641066610819072 = true then ∃ t sk sp, warmR (x 15) (x 16) (cn 14) o n (x 7 j) (u 9 j) (u 8 j) t sk sp ∧ v = some (.double t) ∧ ad = ad' ∧ MF cy ad cn (va_up (va_up u 9 (upd (u 9) j sk)) 8 (upd (u 8) j sp)) w (va_up x 7 (vf_upd (x 7) j t)) = f' else v = some (.double 13875379345695965184) ∧ ad = ad' ∧ MF cy ad cn u w x = f')) := by
  refine ct_of (by decide +kernel) (Nat.le_of_ble_eq_true rfl) ?_
  intro p e s m args below meth c X hnm
  refine z_lv (lv' := [(0, .ref (ad 0)), (1, .int (nI j)), (2, .int (nI n)), (3, .double o)]) [0, 1, 2, 3] rfl ?_
  refine z_aload_n X 0 dX4_warm_0 rfl rfl ?_
  refine z_iload_n X 1 dX4_warm_1 rfl rfl ?_
  refine z_callV X (n := 1) (As := [.int (nI j)]) (rest := []) 0 rfl rfl rfl (m_isBale l G cy B ad cn u w x (nI j)) q_668 q_669 q_14 q_29 q_670 (by decide +kernel) ⟨Nat.le_of_ble_eq_true rfl, Nat.le_of_ble_eq_true rfl⟩ rfl rfl (Nat.le_of_ble_eq_true rfl) dX4_warm_2 ⟨Nat.le_of_ble_eq_true rfl, Nat.le_of_ble_eq_true rfl⟩ (fun v ad' f' hp had => ?_)
  obtain ⟨rfl, rfl, rfl⟩ := hp
  refine z_st (st' := [.int (nI (if ¬ (nI j) < 0 ∧ ¬ nI (cn 5) ≤ (nI j) then 1 else 0))]) rfl ?_
  refine z_if_eqB X (tgt := 43) dX4_warm_5 (by decide) (fun c5 => by exfalso; exact c5 ⟨nI_pos (by omega), nI_ge (by omega) (by omega)⟩) (fun c5 => ?_)
  refine z_aload_n X 0 dX4_warm_8 rfl rfl ?_
  refine z_get X (v := .ref (ad 6)) 0 6 wa_X4 rfl rfl rfl (by decide) q_565 rfl rfl dX4_warm_9 ?_
  refine z_iload_n X 1 dX4_warm_12 rfl rfl ?_
  refine z_ialdN X (n := 12) (g := u 6) 6 rfl rfl (by omega) (by decide) dX4_warm_13 ?_
  refine z_iconst X (v := nI 2) dX4_warm_14 (by decide) ?_
  refine z_icmp_ge X (tgt := 43) dX4_warm_15 (by decide) (fun c15 => ?_) (fun c15 => ?_)
  · refine z_ldc2d X dX4_warm_43 q_720 ?_
    refine z_dret X (Nat.le_of_ble_eq_true rfl) (Nat.le_of_ble_eq_true rfl) ?_ dX4_warm_46
    rw [if_neg (fun h => h.1 c15)]
    exact ⟨rfl, rfl, rfl⟩
  · refine z_iload_n X 2 dX4_warm_18 rfl rfl ?_
    refine z_i2lN X (by omega) dX4_warm_19 ?_
    refine z_lconst X (v := 0) dX4_warm_20 rfl ?_
    refine z_ldc2 X dX4_warm_21 q_718 ?_
    refine z_callS X (n := 3) (As := [.long (lN n), .long 0, .long 100]) (rest := []) (c_X4_isIn l G cy B ad (MF cy ad cn u w x) ((lN n)) 0 100) q_652 q_653 q_29 q_654 (by decide +kernel) ⟨Nat.le_of_ble_eq_true rfl, Nat.le_of_ble_eq_true rfl⟩ rfl rfl (Nat.le_of_ble_eq_true rfl) dX4_warm_24 ⟨Nat.le_of_ble_eq_true rfl, Nat.le_of_ble_eq_true rfl⟩ (fun v ad' f' hp had => ?_)
    obtain ⟨rfl, rfl, rfl⟩ := hp
    refine z_st (st' := [.int (nI (if 0 ≤ (lN n) ∧ (lN n) ≤ 100 then 1 else 0))]) rfl ?_
    refine z_if_eqB X (tgt := 43) dX4_warm_27 (by decide) (fun c27 => by exfalso; exact c27 ⟨by rw [show (0 : Int64) = lN 0 from rfl]; exact (lN_le (by omega) (by omega)).mpr (by omega), by rw [show (100 : Int64) = lN 100 from rfl]; exact (lN_le (by omega) (by omega)).mpr (by omega)⟩) (fun c27 => ?_)
    refine z_dload_n X 3 dX4_warm_30 rfl rfl ?_
    refine z_ldc2d X dX4_warm_31 q_711 ?_
    refine z_ldc2d X dX4_warm_34 q_719 ?_
    refine z_callS X (n := 3) (As := [.double o, .double 13855605728582041600, .double 4633641066610819072]) (rest := []) (c_X4_isWithin l G cy B ad (MF cy ad cn u w x) o 13855605728582041600 4633641066610819072) q_697 q_698 q_29 q_699 (by decide +kernel) ⟨Nat.le_of_ble_eq_true rfl, Nat.le_of_ble_eq_true rfl⟩ rfl rfl (Nat.le_of_ble_eq_true rfl) dX4_warm_37 ⟨Nat.le_of_ble_eq_true rfl, Nat.le_of_ble_eq_true rfl⟩ (fun v ad' f' hp had => ?_)
    obtain ⟨rfl, rfl, rfl⟩ := hp
    refine z_st (st' := [.int (nI (if dGe o 13855605728582041600 = true ∧ dLe o 4633641066610819072 = true then 1 else 0))]) rfl ?_
    refine z_if_neB X (tgt := 47) dX4_warm_40 (by decide) (fun c40 => ?_) (fun c40 => ?_)
    · refine z_iconst X (v := nI 0) dX4_warm_47 (by decide) ?_
      refine z_istore X (lv' := [(5, .int (nI 0)), (0, .ref (ad 0)), (1, .int (nI j)), (2, .int (nI n)), (3, .double o)]) dX4_warm_48 (by decide) rfl ?_
      refine z_lv (lv' := [(0, .ref (ad 0)), (1, .int (nI j)), (2, .int (nI n)), (3, .double o), (5, .int (nI 0))]) [1, 2, 3, 4, 0] rfl ?_
      have lp50 : ∀ (fu50 : Nat) (i : Nat) (t : UInt64) (sk sp : Int32), (i ≤ n) → (warmR (x 15) (x 16) (cn 14) o i (x 7 j) (u 9 j) (u 8 j) t sk sp) → n + 1 ≤ i + fu50 → Z G B 11 ad (MF cy ad cn u w x) p l e ({ frames := 1, cells := 0, slots := 0, locals := 25 } : Room) s m args below meth c (zEnd G B ad (MF cy ad cn u w x) below args s ({ frames := 1, cells := 0, slots := 0, locals := 25 } : Room) (fun v ad' f' => (if ¬ nI 2 ≤ u 6 j ∧ dGe o 13855605728582041600 = true ∧ dLe o 4633641066610819072 = true then ∃ t sk sp, warmR (x 15) (x 16) (cn 14) o n (x 7 j) (u 9 j) (u 8 j) t sk sp ∧ v = some (.double t) ∧ ad = ad' ∧ MF cy ad cn (va_up (va_up u 9 (upd (u 9) j sk)) 8 (upd (u 8) j sp)) w (va_up x 7 (vf_upd (x 7) j t)) = f' else v = some (.double 13875379345695965184) ∧ ad = ad' ∧ MF cy ad cn u w x = f'))) ad (MF cy ad cn (va_up (va_up u 9 (upd (u 9) j sk)) 8 (upd (u 8) j sp)) w (va_up x 7 (vf_upd (x 7) j t))) 0 0 50 [(0, .ref (ad 0)), (1, .int (nI j)), (2, .int (nI n)), (3, .double o), (5, .int (nI i))] [] := by
        intro fu50
        induction fu50 with
        | zero => intro i t sk sp hi hw hm50; exact absurd hm50 (by omega)
        | succ fu50 ih50 =>
          intro i t sk sp hi hw hm50
          refine z_iload X 4 dX4_warm_50 rfl ?_
          refine z_iload_n X 2 dX4_warm_52 rfl rfl ?_
          refine z_icmp_geN X (tgt := 205) (by omega) (by omega) dX4_warm_53 (by decide) (fun c53 => ?_) (fun c53 => ?_)
          · have e9 : i = n := by omega
            rw [e9] at hw
            refine z_aload_n X 0 dX4_warm_205 rfl rfl ?_
            refine z_get X (v := .ref (ad 7)) 0 7 wa_X4 rfl rfl rfl (by decide) q_566 rfl rfl dX4_warm_206 ?_
            refine z_iload_n X 1 dX4_warm_209 rfl rfl ?_
            refine z_daldN X (n := 12) (g := vf_upd (x 7) j t) 7 rfl rfl (by omega) (by decide) dX4_warm_210 ?_
            refine z_top (v' := .double t) (by simp [upd, vf_upd, vp_updL]) ?_
            refine z_dret X (Nat.le_of_ble_eq_true rfl) (Nat.le_of_ble_eq_true rfl) ?_ dX4_warm_211
            rw [if_pos ⟨Int32.not_le.mpr (Int32.not_le.mp c15), c40⟩]
            exact ⟨t, sk, sp, hw, rfl, rfl, rfl⟩
          · refine z_aload_n X 0 dX4_warm_56 rfl rfl ?_
            refine z_get X (v := .ref (ad 7)) 0 7 wa_X4 rfl rfl rfl (by decide) q_566 rfl rfl dX4_warm_57 ?_
            refine z_iload_n X 1 dX4_warm_60 rfl rfl ?_
            refine z_daldN X (n := 12) (g := vf_upd (x 7) j t) 7 rfl rfl (by omega) (by decide) dX4_warm_61 ?_
            refine z_top (v' := .double t) (by simp [upd, vf_upd, vp_updL]) ?_
            refine z_dstore X (lv' := [(6, .double t), (0, .ref (ad 0)), (1, .int (nI j)), (2, .int (nI n)), (3, .double o), (5, .int (nI i))]) dX4_warm_62 (by decide) rfl ?_
            refine z_dconst0 X dX4_warm_64 ?_
            refine z_dstore X (lv' := [(8, .double 0), (6, .double t), (0, .ref (ad 0)), (1, .int (nI j)), (2, .int (nI n)), (3, .double o), (5, .int (nI i))]) dX4_warm_65 (by decide) rfl ?_
            refine z_iconst X (v := nI 0) dX4_warm_67 (by decide) ?_
            refine z_istore X (lv' := [(10, .int (nI 0)), (8, .double 0), (6, .double t), (0, .ref (ad 0)), (1, .int (nI j)), (2, .int (nI n)), (3, .double o), (5, .int (nI i))]) dX4_warm_68 (by decide) rfl ?_
            refine z_lv (lv' := [(0, .ref (ad 0)), (1, .int (nI j)), (2, .int (nI n)), (3, .double o), (5, .int (nI i)), (6, .double t), (8, .double 0), (10, .int (nI 0))]) [3, 4, 5, 6, 7, 2, 1, 0] rfl ?_
            have lp70 : ∀ (fu70 : Nat) (i2 : Nat) (gv : UInt64), (i2 ≤ cn 14) → (gv = gainL (x 15) (x 16) t i2) → cn 14 + 1 ≤ i2 + fu70 → Z G B 11 ad (MF cy ad cn u w x) p l e ({ frames := 1, cells := 0, slots := 0, locals := 25 } : Room) s m args below meth c (zEnd G B ad (MF cy ad cn u w x) below args s ({ frames := 1, cells := 0, slots := 0, locals := 25 } : Room) (fun v ad' f' => (if ¬ nI 2 ≤ u 6 j ∧ dGe o 13855605728582041600 = true ∧ dLe o 4633641066610819072 = true then ∃ t sk sp, warmR (x 15) (x 16) (cn 14) o n (x 7 j) (u 9 j) (u 8 j) t sk sp ∧ v = some (.double t) ∧ ad = ad' ∧ MF cy ad cn (va_up (va_up u 9 (upd (u 9) j sk)) 8 (upd (u 8) j sp)) w (va_up x 7 (vf_upd (x 7) j t)) = f' else v = some (.double 13875379345695965184) ∧ ad = ad' ∧ MF cy ad cn u w x = f'))) ad (MF cy ad cn (va_up (va_up u 9 (upd (u 9) j sk)) 8 (upd (u 8) j sp)) w (va_up x 7 (vf_upd (x 7) j t))) 0 0 70 [(0, .ref (ad 0)), (1, .int (nI j)), (2, .int (nI n)), (3, .double o), (5, .int (nI i)), (6, .double t), (8, .double gv), (10, .int (nI i2))] [] := by
              intro fu70
              induction fu70 with
              | zero => intro i2 gv hi2 hg hm70; exact absurd hm70 (by omega)
              | succ fu70 ih70 =>
                intro i2 gv hi2 hg hm70
                refine z_iload X 7 dX4_warm_70 rfl ?_
                refine z_aload_n X 0 dX4_warm_72 rfl rfl ?_
                refine z_get X (v := .int (nI (cn 14))) 0 14 wa_X4 rfl rfl rfl (by decide) q_573 rfl rfl dX4_warm_73 ?_
                refine z_icmp_geN X (tgt := 112) (by omega) (by omega) dX4_warm_76 (by decide) (fun c76 => ?_) (fun c76 => ?_)
                · have e8 : i2 = cn 14 := by omega
                  rw [e8] at hg
                  refine z_aload_n X 0 dX4_warm_112 rfl rfl ?_
                  refine z_get X (v := .ref (ad 7)) 0 7 wa_X4 rfl rfl rfl (by decide) q_566 rfl rfl dX4_warm_113 ?_
                  refine z_iload_n X 1 dX4_warm_116 rfl rfl ?_
                  refine z_dload X 5 dX4_warm_117 rfl ?_
                  refine z_dload X 6 dX4_warm_119 rfl ?_
                  refine z_dadd X dX4_warm_121 (fun r121 hr121 => ?_)
                  refine z_dload X 5 dX4_warm_122 rfl ?_
                  refine z_dload_n X 3 dX4_warm_124 rfl rfl ?_
                  refine z_dsub X dX4_warm_125 (fun r125 hr125 => ?_)
                  refine z_ldc2d X dX4_warm_126 q_702 ?_
                  refine z_dmul X dX4_warm_129 (fun r129 hr129 => ?_)
                  refine z_dsub X dX4_warm_130 (fun r130 hr130 => ?_)
                  refine z_dastN X (n := 12) (g := vf_upd (x 7) j t) 7 rfl rfl (by omega) (by decide) dX4_warm_131 ?_
                  refine z_f (MF_x 7 12 rfl (by decide) _) ?_
                  refine z_f (congrArg (fun z => MF cy ad cn (va_up (va_up u 9 (upd (u 9) j sk)) 8 (upd (u 8) j sp)) w z) (show va_up (va_up x 7 (vf_upd (x 7) j t)) 7 (vf_upd (vf_upd (x 7) j t) j r130) = va_up x 7 (vf_upd (x 7) j r130) from by (try simp only [upd_uu, vfu_uu, vpu_uu]); funext z9; simp only [va_up]; (repeat' split) <;> first | rfl | omega | simp_all)) ?_
                  refine z_aload_n X 0 dX4_warm_132 rfl rfl ?_
                  refine z_get X (v := .ref (ad 9)) 0 9 wa_X4 rfl rfl rfl (by decide) q_568 rfl rfl dX4_warm_133 ?_
                  refine z_iload_n X 1 dX4_warm_136 rfl rfl ?_
                  refine z_aload_n X 0 dX4_warm_137 rfl rfl ?_
                  refine z_get X (v := .ref (ad 7)) 0 7 wa_X4 rfl rfl rfl (by decide) q_566 rfl rfl dX4_warm_138 ?_
                  refine z_iload_n X 1 dX4_warm_141 rfl rfl ?_
                  refine z_daldN X (n := 12) (g := vf_upd (x 7) j r130) 7 rfl rfl (by omega) (by decide) dX4_warm_142 ?_
                  refine z_top (v' := .double r130) (by simp [upd, vf_upd, vp_updL]) ?_
                  refine z_ldc2d X dX4_warm_143 q_719 ?_
                  refine z_dcmp_lt X (tgt := 161) dX4_warm_146 dX4_warm_147 (by decide) (fun c146 => ?_) (fun c146 => ?_)
                  · refine z_iconst X (v := nI 0) dX4_warm_161 (by decide) ?_
                    refine z_iastN X (n := 12) (g := upd (u 9) j sk) 9 rfl rfl (by omega) (by decide) dX4_warm_162 ?_
                    refine z_f (MF_u 9 12 rfl (by decide) _) ?_
                    refine z_f (congrArg (fun z => MF cy ad cn z w (va_up x 7 (vf_upd (x 7) j r130))) (show va_up (va_up (va_up u 9 (upd (u 9) j sk)) 8 (upd (u 8) j sp)) 9 (upd (upd (u 9) j sk) j (nI 0)) = va_up (va_up u 9 (upd (u 9) j (nI 0))) 8 (upd (u 8) j sp) from by (try simp only [upd_uu, vfu_uu, vpu_uu]); funext z9; simp only [va_up]; (repeat' split) <;> first | rfl | omega | simp_all)) ?_
                    refine z_aload_n X 0 dX4_warm_163 rfl rfl ?_
                    refine z_get X (v := .ref (ad 8)) 0 8 wa_X4 rfl rfl rfl (by decide) q_567 rfl rfl dX4_warm_164 ?_
                    refine z_iload_n X 1 dX4_warm_167 rfl rfl ?_
                    refine z_aload_n X 0 dX4_warm_168 rfl rfl ?_
                    refine z_get X (v := .ref (ad 9)) 0 9 wa_X4 rfl rfl rfl (by decide) q_568 rfl rfl dX4_warm_169 ?_
                    refine z_iload_n X 1 dX4_warm_172 rfl rfl ?_
                    refine z_ialdN X (n := 12) (g := upd (u 9) j (nI 0)) 9 rfl rfl (by omega) (by decide) dX4_warm_173 ?_
                    refine z_top (v' := .int (nI 0)) (by simp [upd, vf_upd, vp_updL]) ?_
                    refine z_aload_n X 0 dX4_warm_174 rfl rfl ?_
                    refine z_get X (v := .ref (ad 8)) 0 8 wa_X4 rfl rfl rfl (by decide) q_567 rfl rfl dX4_warm_175 ?_
                    refine z_iload_n X 1 dX4_warm_178 rfl rfl ?_
                    refine z_ialdN X (n := 12) (g := upd (u 8) j sp) 8 rfl rfl (by omega) (by decide) dX4_warm_179 ?_
                    refine z_top (v' := .int sp) (by simp [upd, vf_upd, vp_updL]) ?_
                    refine z_icmp_le X (tgt := 192) dX4_warm_180 (by decide) (fun c180 => ?_) (fun c180 => ?_)
                    · refine z_aload_n X 0 dX4_warm_192 rfl rfl ?_
                      refine z_get X (v := .ref (ad 8)) 0 8 wa_X4 rfl rfl rfl (by decide) q_567 rfl rfl dX4_warm_193 ?_
                      refine z_iload_n X 1 dX4_warm_196 rfl rfl ?_
                      refine z_ialdN X (n := 12) (g := upd (u 8) j sp) 8 rfl rfl (by omega) (by decide) dX4_warm_197 ?_
                      refine z_top (v' := .int sp) (by simp [upd, vf_upd, vp_updL]) ?_
                      refine z_iastN X (n := 12) (g := upd (u 8) j sp) 8 rfl rfl (by omega) (by decide) dX4_warm_198 ?_
                      refine z_f (MF_u 8 12 rfl (by decide) _) ?_
                      refine z_f (congrArg (fun z => MF cy ad cn z w (va_up x 7 (vf_upd (x 7) j r130))) (show va_up (va_up (va_up u 9 (upd (u 9) j (nI 0))) 8 (upd (u 8) j sp)) 8 (upd (upd (u 8) j sp) j sp) = va_up (va_up u 9 (upd (u 9) j (nI 0))) 8 (upd (u 8) j sp) from by (try simp only [upd_uu, vfu_uu, vpu_uu]); funext z9; simp only [va_up]; (repeat' split) <;> first | rfl | omega | simp_all)) ?_
                      refine z_iincN X 4 (k := 1) (lv' := [(5, .int (nI (i + 1))), (0, .ref (ad 0)), (1, .int (nI j)), (2, .int (nI n)), (3, .double o), (6, .double t), (8, .double gv), (10, .int (nI i2))]) dX4_warm_199 rfl (by decide) (by decide) rfl ?_
                      refine z_goto X (tgt := 50) dX4_warm_202 (by decide) ?_
                      refine z_lv (lv' := [(0, .ref (ad 0)), (1, .int (nI j)), (2, .int (nI n)), (3, .double o), (5, .int (nI (i + 1)))]) [1, 2, 3, 4, 0] rfl ?_
                      exact ih50 (i + 1) r130 (nI 0) sp (by omega) (by exact ⟨t, sk, sp, hw, ⟨r121, r125, r129, by rw [← show gv = gainL (x 15) (x 16) t (cn 14) from by rw [hg]]; exact hr121, hr125, hr129, hr130⟩, (if_neg (by rw [c146]; exact Bool.false_ne_true)).symm, (if_neg (Int32.not_lt.mpr c180)).symm⟩) (by omega)
                    · refine z_aload_n X 0 dX4_warm_183 rfl rfl ?_
                      refine z_get X (v := .ref (ad 9)) 0 9 wa_X4 rfl rfl rfl (by decide) q_568 rfl rfl dX4_warm_184 ?_
                      refine z_iload_n X 1 dX4_warm_187 rfl rfl ?_
                      refine z_ialdN X (n := 12) (g := upd (u 9) j (nI 0)) 9 rfl rfl (by omega) (by decide) dX4_warm_188 ?_
                      refine z_top (v' := .int (nI 0)) (by simp [upd, vf_upd, vp_updL]) ?_
                      refine z_goto X (tgt := 198) dX4_warm_189 (by decide) ?_
                      refine z_iastN X (n := 12) (g := upd (u 8) j sp) 8 rfl rfl (by omega) (by decide) dX4_warm_198 ?_
                      refine z_f (MF_u 8 12 rfl (by decide) _) ?_
                      refine z_f (congrArg (fun z => MF cy ad cn z w (va_up x 7 (vf_upd (x 7) j r130))) (show va_up (va_up (va_up u 9 (upd (u 9) j (nI 0))) 8 (upd (u 8) j sp)) 8 (upd (upd (u 8) j sp) j (nI 0)) = va_up (va_up u 9 (upd (u 9) j (nI 0))) 8 (upd (u 8) j (nI 0)) from by (try simp only [upd_uu, vfu_uu, vpu_uu]); funext z9; simp only [va_up]; (repeat' split) <;> first | rfl | omega | simp_all)) ?_
                      refine z_iincN X 4 (k := 1) (lv' := [(5, .int (nI (i + 1))), (0, .ref (ad 0)), (1, .int (nI j)), (2, .int (nI n)), (3, .double o), (6, .double t), (8, .double gv), (10, .int (nI i2))]) dX4_warm_199 rfl (by decide) (by decide) rfl ?_
                      refine z_goto X (tgt := 50) dX4_warm_202 (by decide) ?_
                      refine z_lv (lv' := [(0, .ref (ad 0)), (1, .int (nI j)), (2, .int (nI n)), (3, .double o), (5, .int (nI (i + 1)))]) [1, 2, 3, 4, 0] rfl ?_
                      exact ih50 (i + 1) r130 (nI 0) (nI 0) (by omega) (by exact ⟨t, sk, sp, hw, ⟨r121, r125, r129, by rw [← show gv = gainL (x 15) (x 16) t (cn 14) from by rw [hg]]; exact hr121, hr125, hr129, hr130⟩, (if_neg (by rw [c146]; exact Bool.false_ne_true)).symm, (if_pos (Int32.not_le.mp c180)).symm⟩) (by omega)
                  · refine z_aload_n X 0 dX4_warm_150 rfl rfl ?_
                    refine z_get X (v := .ref (ad 9)) 0 9 wa_X4 rfl rfl rfl (by decide) q_568 rfl rfl dX4_warm_151 ?_
                    refine z_iload_n X 1 dX4_warm_154 rfl rfl ?_
                    refine z_ialdN X (n := 12) (g := upd (u 9) j sk) 9 rfl rfl (by omega) (by decide) dX4_warm_155 ?_
                    refine z_top (v' := .int sk) (by simp [upd, vf_upd, vp_updL]) ?_
                    refine z_iconst X (v := nI 1) dX4_warm_156 (by decide) ?_
                    refine z_iadd X dX4_warm_157 ?_
                    refine z_goto X (tgt := 162) dX4_warm_158 (by decide) ?_
                    refine z_iastN X (n := 12) (g := upd (u 9) j sk) 9 rfl rfl (by omega) (by decide) dX4_warm_162 ?_
                    refine z_f (MF_u 9 12 rfl (by decide) _) ?_
                    refine z_f (congrArg (fun z => MF cy ad cn z w (va_up x 7 (vf_upd (x 7) j r130))) (show va_up (va_up (va_up u 9 (upd (u 9) j sk)) 8 (upd (u 8) j sp)) 9 (upd (upd (u 9) j sk) j (sk + (nI 1))) = va_up (va_up u 9 (upd (u 9) j (sk + (nI 1)))) 8 (upd (u 8) j sp) from by (try simp only [upd_uu, vfu_uu, vpu_uu]); funext z9; simp only [va_up]; (repeat' split) <;> first | rfl | omega | simp_all)) ?_
                    refine z_aload_n X 0 dX4_warm_163 rfl rfl ?_
                    refine z_get X (v := .ref (ad 8)) 0 8 wa_X4 rfl rfl rfl (by decide) q_567 rfl rfl dX4_warm_164 ?_
                    refine z_iload_n X 1 dX4_warm_167 rfl rfl ?_
                    refine z_aload_n X 0 dX4_warm_168 rfl rfl ?_
                    refine z_get X (v := .ref (ad 9)) 0 9 wa_X4 rfl rfl rfl (by decide) q_568 rfl rfl dX4_warm_169 ?_
                    refine z_iload_n X 1 dX4_warm_172 rfl rfl ?_
                    refine z_ialdN X (n := 12) (g := upd (u 9) j (sk + (nI 1))) 9 rfl rfl (by omega) (by decide) dX4_warm_173 ?_
                    refine z_top (v' := .int (sk + (nI 1))) (by simp [upd, vf_upd, vp_updL]) ?_
                    refine z_aload_n X 0 dX4_warm_174 rfl rfl ?_
                    refine z_get X (v := .ref (ad 8)) 0 8 wa_X4 rfl rfl rfl (by decide) q_567 rfl rfl dX4_warm_175 ?_
                    refine z_iload_n X 1 dX4_warm_178 rfl rfl ?_
                    refine z_ialdN X (n := 12) (g := upd (u 8) j sp) 8 rfl rfl (by omega) (by decide) dX4_warm_179 ?_
                    refine z_top (v' := .int sp) (by simp [upd, vf_upd, vp_updL]) ?_
                    refine z_icmp_le X (tgt := 192) dX4_warm_180 (by decide) (fun c180 => ?_) (fun c180 => ?_)
                    · refine z_aload_n X 0 dX4_warm_192 rfl rfl ?_
                      refine z_get X (v := .ref (ad 8)) 0 8 wa_X4 rfl rfl rfl (by decide) q_567 rfl rfl dX4_warm_193 ?_
                      refine z_iload_n X 1 dX4_warm_196 rfl rfl ?_
                      refine z_ialdN X (n := 12) (g := upd (u 8) j sp) 8 rfl rfl (by omega) (by decide) dX4_warm_197 ?_
                      refine z_top (v' := .int sp) (by simp [upd, vf_upd, vp_updL]) ?_
                      refine z_iastN X (n := 12) (g := upd (u 8) j sp) 8 rfl rfl (by omega) (by decide) dX4_warm_198 ?_
                      refine z_f (MF_u 8 12 rfl (by decide) _) ?_
                      refine z_f (congrArg (fun z => MF cy ad cn z w (va_up x 7 (vf_upd (x 7) j r130))) (show va_up (va_up (va_up u 9 (upd (u 9) j (sk + (nI 1)))) 8 (upd (u 8) j sp)) 8 (upd (upd (u 8) j sp) j sp) = va_up (va_up u 9 (upd (u 9) j (sk + (nI 1)))) 8 (upd (u 8) j sp) from by (try simp only [upd_uu, vfu_uu, vpu_uu]); funext z9; simp only [va_up]; (repeat' split) <;> first | rfl | omega | simp_all)) ?_
                      refine z_iincN X 4 (k := 1) (lv' := [(5, .int (nI (i + 1))), (0, .ref (ad 0)), (1, .int (nI j)), (2, .int (nI n)), (3, .double o), (6, .double t), (8, .double gv), (10, .int (nI i2))]) dX4_warm_199 rfl (by decide) (by decide) rfl ?_
                      refine z_goto X (tgt := 50) dX4_warm_202 (by decide) ?_
                      refine z_lv (lv' := [(0, .ref (ad 0)), (1, .int (nI j)), (2, .int (nI n)), (3, .double o), (5, .int (nI (i + 1)))]) [1, 2, 3, 4, 0] rfl ?_
                      exact ih50 (i + 1) r130 (sk + (nI 1)) sp (by omega) (by exact ⟨t, sk, sp, hw, ⟨r121, r125, r129, by rw [← show gv = gainL (x 15) (x 16) t (cn 14) from by rw [hg]]; exact hr121, hr125, hr129, hr130⟩, (if_pos c146).symm, (if_neg (Int32.not_lt.mpr c180)).symm⟩) (by omega)
                    · refine z_aload_n X 0 dX4_warm_183 rfl rfl ?_
                      refine z_get X (v := .ref (ad 9)) 0 9 wa_X4 rfl rfl rfl (by decide) q_568 rfl rfl dX4_warm_184 ?_
                      refine z_iload_n X 1 dX4_warm_187 rfl rfl ?_
                      refine z_ialdN X (n := 12) (g := upd (u 9) j (sk + (nI 1))) 9 rfl rfl (by omega) (by decide) dX4_warm_188 ?_
                      refine z_top (v' := .int (sk + (nI 1))) (by simp [upd, vf_upd, vp_updL]) ?_
                      refine z_goto X (tgt := 198) dX4_warm_189 (by decide) ?_
                      refine z_iastN X (n := 12) (g := upd (u 8) j sp) 8 rfl rfl (by omega) (by decide) dX4_warm_198 ?_
                      refine z_f (MF_u 8 12 rfl (by decide) _) ?_
                      refine z_f (congrArg (fun z => MF cy ad cn z w (va_up x 7 (vf_upd (x 7) j r130))) (show va_up (va_up (va_up u 9 (upd (u 9) j (sk + (nI 1)))) 8 (upd (u 8) j sp)) 8 (upd (upd (u 8) j sp) j (sk + (nI 1))) = va_up (va_up u 9 (upd (u 9) j (sk + (nI 1)))) 8 (upd (u 8) j (sk + (nI 1))) from by (try simp only [upd_uu, vfu_uu, vpu_uu]); funext z9; simp only [va_up]; (repeat' split) <;> first | rfl | omega | simp_all)) ?_
                      refine z_iincN X 4 (k := 1) (lv' := [(5, .int (nI (i + 1))), (0, .ref (ad 0)), (1, .int (nI j)), (2, .int (nI n)), (3, .double o), (6, .double t), (8, .double gv), (10, .int (nI i2))]) dX4_warm_199 rfl (by decide) (by decide) rfl ?_
                      refine z_goto X (tgt := 50) dX4_warm_202 (by decide) ?_
                      refine z_lv (lv' := [(0, .ref (ad 0)), (1, .int (nI j)), (2, .int (nI n)), (3, .double o), (5, .int (nI (i + 1)))]) [1, 2, 3, 4, 0] rfl ?_
                      exact ih50 (i + 1) r130 (sk + (nI 1)) (sk + (nI 1)) (by omega) (by exact ⟨t, sk, sp, hw, ⟨r121, r125, r129, by rw [← show gv = gainL (x 15) (x 16) t (cn 14) from by rw [hg]]; exact hr121, hr125, hr129, hr130⟩, (if_pos c146).symm, (if_pos (Int32.not_le.mp c180)).symm⟩) (by omega)
                · refine z_aload_n X 0 dX4_warm_79 rfl rfl ?_
                  refine z_get X (v := .ref (ad 15)) 0 15 wa_X4 rfl rfl rfl (by decide) q_574 rfl rfl dX4_warm_80 ?_
                  refine z_iload X 7 dX4_warm_83 rfl ?_
                  refine z_daldN X (n := 6) (g := x 15) 15 rfl rfl (by omega) (by decide) dX4_warm_85 ?_
                  refine z_dload X 5 dX4_warm_86 rfl ?_
                  refine z_dcmp_gt X (tgt := 102) dX4_warm_88 dX4_warm_89 (by decide) (fun c88 => ?_) (fun c88 => ?_)
                  · refine z_dload X 6 dX4_warm_102 rfl ?_
                    refine z_dstore X (lv' := [(8, .double gv), (0, .ref (ad 0)), (1, .int (nI j)), (2, .int (nI n)), (3, .double o), (5, .int (nI i)), (6, .double t), (10, .int (nI i2))]) dX4_warm_104 (by decide) rfl ?_
                    refine z_iincN X 7 (k := 1) (lv' := [(10, .int (nI (i2 + 1))), (8, .double gv), (0, .ref (ad 0)), (1, .int (nI j)), (2, .int (nI n)), (3, .double o), (5, .int (nI i)), (6, .double t)]) dX4_warm_106 rfl (by decide) (by decide) rfl ?_
                    refine z_goto X (tgt := 70) dX4_warm_109 (by decide) ?_
                    refine z_lv (lv' := [(0, .ref (ad 0)), (1, .int (nI j)), (2, .int (nI n)), (3, .double o), (5, .int (nI i)), (6, .double t), (8, .double gv), (10, .int (nI (i2 + 1)))]) [2, 3, 4, 5, 6, 7, 1, 0] rfl ?_
                    exact ih70 (i2 + 1) gv (by omega) (by rw [hg]; exact (if_neg (by rw [c88]; exact Bool.false_ne_true)).symm) (by omega)
                  · refine z_aload_n X 0 dX4_warm_92 rfl rfl ?_
                    refine z_get X (v := .ref (ad 16)) 0 16 wa_X4 rfl rfl rfl (by decide) q_575 rfl rfl dX4_warm_93 ?_
                    refine z_iload X 7 dX4_warm_96 rfl ?_
                    refine z_daldN X (n := 6) (g := x 16) 16 rfl rfl (by omega) (by decide) dX4_warm_98 ?_
                    refine z_goto X (tgt := 104) dX4_warm_99 (by decide) ?_
                    refine z_dstore X (lv' := [(8, .double ((x 16) i2)), (0, .ref (ad 0)), (1, .int (nI j)), (2, .int (nI n)), (3, .double o), (5, .int (nI i)), (6, .double t), (10, .int (nI i2))]) dX4_warm_104 (by decide) rfl ?_
                    refine z_iincN X 7 (k := 1) (lv' := [(10, .int (nI (i2 + 1))), (8, .double ((x 16) i2)), (0, .ref (ad 0)), (1, .int (nI j)), (2, .int (nI n)), (3, .double o), (5, .int (nI i)), (6, .double t)]) dX4_warm_106 rfl (by decide) (by decide) rfl ?_
                    refine z_goto X (tgt := 70) dX4_warm_109 (by decide) ?_
                    refine z_lv (lv' := [(0, .ref (ad 0)), (1, .int (nI j)), (2, .int (nI n)), (3, .double o), (5, .int (nI i)), (6, .double t), (8, .double ((x 16) i2)), (10, .int (nI (i2 + 1)))]) [2, 3, 4, 5, 6, 7, 1, 0] rfl ?_
                    exact ih70 (i2 + 1) ((x 16) i2) (by omega) (by exact (if_pos c88).symm) (by omega)
            exact lp70 (cn 14 + 1) 0 0 (by omega) (by rfl) (by omega)
      refine z_f (show MF cy ad cn u w x = MF cy ad cn (va_up (va_up u 9 (upd (u 9) j (u 9 j))) 8 (upd (u 8) j (u 8 j))) w (va_up x 7 (vf_upd (x 7) j (x 7 j))) from by rw [upd_self, upd_self, vfu_self, up_self, up_self, up_self]) ?_
      exact lp50 (n + 1) 0 (x 7 j) (u 9 j) (u 8 j) (by omega) ⟨rfl, rfl, rfl⟩ (by omega)
    · refine z_ldc2d X dX4_warm_43 q_720 ?_
      refine z_dret X (Nat.le_of_ble_eq_true rfl) (Nat.le_of_ble_eq_true rfl) ?_ dX4_warm_46
      rw [if_neg (fun h => c40 h.2)]
      exact ⟨rfl, rfl, rfl⟩
set_option maxHeartbeats 4000000 in
set_option maxRecDepth 100000 in
theorem m_warm_x (l : Launch) (G : va_G) (cy : Nat → ClassId) (B : Nat) (ad : Nat → Nat) (cn : Nat → Nat) (u : Nat → Nat → Int32) (w : Nat → Nat → Int64) (x : Nat → Nat → UInt64) (hc5 : cn 5 ≤ 12) (j : Nat) (hj : j < cn 5) (h : Int32) (hh : ¬ (0 ≤ h.toInt64 ∧ h.toInt64 ≤ 100)) (o : UInt64) : Ct l G cy B yX4_warm cX4_warm 11 (some .double) ({ frames := 1, cells := 0, slots := 0, locals := 25 } : Room) ad (MF cy ad cn u w x) [.ref (ad 0), .int (nI j), .int h, .double o] (fun v ad' f' => v = some (.double 13875379345695965184) ∧ ad = ad' ∧ MF cy ad cn u w x = f') := by
  refine ct_of (by decide +kernel) (Nat.le_of_ble_eq_true rfl) ?_
  intro p e s m args below meth c X hnm
  refine z_lv (lv' := [(0, .ref (ad 0)), (1, .int (nI j)), (2, .int h), (3, .double o)]) [0, 1, 2, 3] rfl ?_
  refine z_aload_n X 0 dX4_warm_0 rfl rfl ?_
  refine z_iload_n X 1 dX4_warm_1 rfl rfl ?_
  refine z_callV X (n := 1) (As := [.int (nI j)]) (rest := []) 0 rfl rfl rfl (m_isBale l G cy B ad cn u w x (nI j)) q_668 q_669 q_14 q_29 q_670 (by decide +kernel) ⟨Nat.le_of_ble_eq_true rfl, Nat.le_of_ble_eq_true rfl⟩ rfl rfl (Nat.le_of_ble_eq_true rfl) dX4_warm_2 ⟨Nat.le_of_ble_eq_true rfl, Nat.le_of_ble_eq_true rfl⟩ (fun v ad' f' hp had => ?_)
  obtain ⟨rfl, rfl, rfl⟩ := hp
  refine z_st (st' := [.int (nI (if ¬ (nI j) < 0 ∧ ¬ nI (cn 5) ≤ (nI j) then 1 else 0))]) rfl ?_
  refine z_if_eqB X (tgt := 43) dX4_warm_5 (by decide) (fun c5 => by exfalso; exact c5 ⟨nI_pos (by omega), nI_ge (by omega) (by omega)⟩) (fun c5 => ?_)
  refine z_aload_n X 0 dX4_warm_8 rfl rfl ?_
  refine z_get X (v := .ref (ad 6)) 0 6 wa_X4 rfl rfl rfl (by decide) q_565 rfl rfl dX4_warm_9 ?_
  refine z_iload_n X 1 dX4_warm_12 rfl rfl ?_
  refine z_ialdN X (n := 12) (g := u 6) 6 rfl rfl (by omega) (by decide) dX4_warm_13 ?_
  refine z_iconst X (v := nI 2) dX4_warm_14 (by decide) ?_
  refine z_icmp_ge X (tgt := 43) dX4_warm_15 (by decide) (fun c15 => ?_) (fun c15 => ?_)
  · refine z_ldc2d X dX4_warm_43 q_720 ?_
    refine z_dret X (Nat.le_of_ble_eq_true rfl) (Nat.le_of_ble_eq_true rfl) ?_ dX4_warm_46
    exact ⟨rfl, rfl, rfl⟩
  · refine z_iload_n X 2 dX4_warm_18 rfl rfl ?_
    refine z_i2l X dX4_warm_19 ?_
    refine z_lconst X (v := 0) dX4_warm_20 rfl ?_
    refine z_ldc2 X dX4_warm_21 q_718 ?_
    refine z_callS X (n := 3) (As := [.long h.toInt64, .long 0, .long 100]) (rest := []) (c_X4_isIn l G cy B ad (MF cy ad cn u w x) h.toInt64 0 100) q_652 q_653 q_29 q_654 (by decide +kernel) ⟨Nat.le_of_ble_eq_true rfl, Nat.le_of_ble_eq_true rfl⟩ rfl rfl (Nat.le_of_ble_eq_true rfl) dX4_warm_24 ⟨Nat.le_of_ble_eq_true rfl, Nat.le_of_ble_eq_true rfl⟩ (fun v ad' f' hp had => ?_)
    obtain ⟨rfl, rfl, rfl⟩ := hp
    refine z_st (st' := [.int (nI (if 0 ≤ h.toInt64 ∧ h.toInt64 ≤ 100 then 1 else 0))]) rfl ?_
    refine z_if_eqB X (tgt := 43) dX4_warm_27 (by decide) (fun c27 => ?_) (fun c27 => by exfalso; exact hh c27)
    refine z_ldc2d X dX4_warm_43 q_720 ?_
    refine z_dret X (Nat.le_of_ble_eq_true rfl) (Nat.le_of_ble_eq_true rfl) ?_ dX4_warm_46
    exact ⟨rfl, rfl, rfl⟩
set_option maxHeartbeats 4000000 in
set_option maxRecDepth 100000 in
theorem m_warm_o (l : Launch) (G : va_G) (cy : Nat → ClassId) (B : Nat) (ad : Nat → Nat) (cn : Nat → Nat) (u : Nat → Nat → Int32) (w : Nat → Nat → Int64) (x : Nat → Nat → UInt64) (b : Int32) (hb : ¬ (¬ b < 0 ∧ ¬ nI (cn 5) ≤ b)) (h : Int32) (o : UInt64) : Ct l G cy B yX4_warm cX4_warm 11 (some .double) ({ frames := 1, cells := 0, slots := 0, locals := 21 } : Room) ad (MF cy ad cn u w x) [.ref (ad 0), .int b, .int h, .double o] (fun v ad' f' => v = some (.double 13875379345695965184) ∧ ad = ad' ∧ MF cy ad cn u w x = f') := by
  refine ct_of (by decide +kernel) (Nat.le_of_ble_eq_true rfl) ?_
  intro p e s m args below meth c X hnm
  refine z_lv (lv' := [(0, .ref (ad 0)), (1, .int b), (2, .int h), (3, .double o)]) [0, 1, 2, 3] rfl ?_
  refine z_aload_n X 0 dX4_warm_0 rfl rfl ?_
  refine z_iload_n X 1 dX4_warm_1 rfl rfl ?_
  refine z_callV X (n := 1) (As := [.int b]) (rest := []) 0 rfl rfl rfl (m_isBale l G cy B ad cn u w x b) q_668 q_669 q_14 q_29 q_670 (by decide +kernel) ⟨Nat.le_of_ble_eq_true rfl, Nat.le_of_ble_eq_true rfl⟩ rfl rfl (Nat.le_of_ble_eq_true rfl) dX4_warm_2 ⟨Nat.le_of_ble_eq_true rfl, Nat.le_of_ble_eq_true rfl⟩ (fun v ad' f' hp had => ?_)
  obtain ⟨rfl, rfl, rfl⟩ := hp
  refine z_st (st' := [.int (nI (if ¬ b < 0 ∧ ¬ nI (cn 5) ≤ b then 1 else 0))]) rfl ?_
  refine z_if_eqB X (tgt := 43) dX4_warm_5 (by decide) (fun c5 => ?_) (fun c5 => by exfalso; exact hb c5)
  refine z_ldc2d X dX4_warm_43 q_720 ?_
  refine z_dret X (Nat.le_of_ble_eq_true rfl) (Nat.le_of_ble_eq_true rfl) ?_ dX4_warm_46
  exact ⟨rfl, rfl, rfl⟩
set_option maxHeartbeats 4000000 in
set_option maxRecDepth 100000 in
theorem m_hold (l : Launch) (G : va_G) (cy : Nat → ClassId) (B : Nat) (ad : Nat → Nat) (cn : Nat → Nat) (u : Nat → Nat → Int32) (w : Nat → Nat → Int64) (x : Nat → Nat → UInt64) (h : Int32) : Ct l G cy B yX4_hold cX4_hold 2 (some .boolean) ({ frames := 1, cells := 0, slots := 0, locals := 25 } : Room) ad (MF cy ad cn u w x) [.ref (ad 0), .int h] (fun v ad' f' => v = some (.int (nI (if 1 ≤ h.toInt64 ∧ h.toInt64 ≤ 1000 then 1 else 0))) ∧ ad = ad' ∧ (if 1 ≤ h.toInt64 ∧ h.toInt64 ≤ 1000 then MF cy ad cn (va_up u 0 (upd (u 0) 17 h)) w x else MF cy ad cn u w x) = f') := by
  refine ct_of (by decide +kernel) (Nat.le_of_ble_eq_true rfl) ?_
  intro p e s m args below meth c X hnm
  refine z_lv (lv' := [(0, .ref (ad 0)), (1, .int h)]) [0, 1] rfl ?_
  refine z_iload_n X 1 dX4_hold_0 rfl rfl ?_
  refine z_i2l X dX4_hold_1 ?_
  refine z_lconst X (v := 1) dX4_hold_2 rfl ?_
  refine z_ldc2 X dX4_hold_3 q_725 ?_
  refine z_callS X (n := 3) (As := [.long h.toInt64, .long 1, .long 1000]) (rest := []) (c_X4_isIn l G cy B ad (MF cy ad cn u w x) h.toInt64 1 1000) q_652 q_653 q_29 q_654 (by decide +kernel) ⟨Nat.le_of_ble_eq_true rfl, Nat.le_of_ble_eq_true rfl⟩ rfl rfl (Nat.le_of_ble_eq_true rfl) dX4_hold_6 ⟨Nat.le_of_ble_eq_true rfl, Nat.le_of_ble_eq_true rfl⟩ (fun v ad' f' hp had => ?_)
  obtain ⟨rfl, rfl, rfl⟩ := hp
  refine z_st (st' := [.int (nI (if 1 ≤ h.toInt64 ∧ h.toInt64 ≤ 1000 then 1 else 0))]) rfl ?_
  refine z_if_neB X (tgt := 14) dX4_hold_9 (by decide) (fun c9 => ?_) (fun c9 => ?_)
  · refine z_aload_n X 0 dX4_hold_14 rfl rfl ?_
    refine z_iload_n X 1 dX4_hold_15 rfl rfl ?_
    refine z_put X (ty := .int) 0 17 wa_X4 tyX4 tyX4_ok nmX4 rfl rfl rfl (by decide) q_576 rfl rfl (by decide +kernel) rfl rfl (Nat.le_of_ble_eq_true rfl) dX4_hold_16 ?_
    refine z_f (MF_o (cn' := cn) (g := upd (u 0) 17 h) rfl) ?_
    refine z_iconst X (v := nI 1) dX4_hold_19 (by decide) ?_
    refine z_zret rfl X (Nat.le_of_ble_eq_true rfl) (Nat.le_of_ble_eq_true rfl) ?_ dX4_hold_20
    exact ⟨by rw [if_pos c9], rfl, by rw [if_pos c9]⟩
  · refine z_iconst X (v := nI 0) dX4_hold_12 (by decide) ?_
    refine z_zret rfl X (Nat.le_of_ble_eq_true rfl) (Nat.le_of_ble_eq_true rfl) ?_ dX4_hold_13
    exact ⟨by rw [if_neg c9], rfl, by rw [if_neg c9]⟩
set_option maxHeartbeats 4000000 in
set_option maxRecDepth 100000 in
theorem m_alarm (l : Launch) (G : va_G) (cy : Nat → ClassId) (B : Nat) (ad : Nat → Nat) (cn : Nat → Nat) (u : Nat → Nat → Int32) (w : Nat → Nat → Int64) (x : Nat → Nat → UInt64) (hc5 : cn 5 ≤ 12) (k : Int32) : Ct l G cy B yX4_alarm cX4_alarm 4 (some .int) ({ frames := 0, cells := 0, slots := 0, locals := 0 } : Room) ad (MF cy ad cn u w x) [.ref (ad 0), .int k] (fun v ad' f' => v = some (.int (scanK (fun b => decide (alarmP u b)) k (cn 5) 0 0)) ∧ ad = ad' ∧ MF cy ad cn u w x = f') := by
  refine ct_of (by decide +kernel) (Nat.le_of_ble_eq_true rfl) ?_
  intro p e s m args below meth c X hnm
  refine z_lv (lv' := [(0, .ref (ad 0)), (1, .int k)]) [0, 1] rfl ?_
  refine z_iconst X (v := nI 0) dX4_alarm_0 (by decide) ?_
  refine z_istore_n X (lv' := [(2, .int (nI 0)), (0, .ref (ad 0)), (1, .int k)]) dX4_alarm_1 rfl (by decide) rfl ?_
  refine z_iconst X (v := nI 0) dX4_alarm_2 (by decide) ?_
  refine z_istore_n X (lv' := [(3, .int (nI 0)), (2, .int (nI 0)), (0, .ref (ad 0)), (1, .int k)]) dX4_alarm_3 rfl (by decide) rfl ?_
  refine z_lv (lv' := [(0, .ref (ad 0)), (1, .int k), (2, .int (nI 0)), (3, .int (nI 0))]) [2, 3, 1, 0] rfl ?_
  have lp4 : ∀ (fu4 : Nat) (i sn : Nat), (i ≤ cn 5) → (sn ≤ i) → (scanK (fun b => decide (alarmP u b)) k (cn 5 - i) i sn = scanK (fun b => decide (alarmP u b)) k (cn 5) 0 0) → cn 5 + 1 ≤ i + fu4 → Z G B 4 ad (MF cy ad cn u w x) p l e ({ frames := 0, cells := 0, slots := 0, locals := 0 } : Room) s m args below meth c (zEnd G B ad (MF cy ad cn u w x) below args s ({ frames := 0, cells := 0, slots := 0, locals := 0 } : Room) (fun v ad' f' => v = some (.int (scanK (fun b => decide (alarmP u b)) k (cn 5) 0 0)) ∧ ad = ad' ∧ MF cy ad cn u w x = f')) ad (MF cy ad cn u w x) 0 0 4 [(0, .ref (ad 0)), (1, .int k), (2, .int (nI sn)), (3, .int (nI i))] [] := by
    intro fu4
    induction fu4 with
    | zero => intro i sn hi hsn hs hm4; exact absurd hm4 (by omega)
    | succ fu4 ih4 =>
      intro i sn hi hsn hs hm4
      refine z_iload_n X 3 dX4_alarm_4 rfl rfl ?_
      refine z_aload_n X 0 dX4_alarm_5 rfl rfl ?_
      refine z_get X (v := .int (nI (cn 5))) 0 5 wa_X4 rfl rfl rfl (by decide) q_564 rfl rfl dX4_alarm_6 ?_
      refine z_icmp_geN X (tgt := 51) (by omega) (by omega) dX4_alarm_9 (by decide) (fun c9 => ?_) (fun c9 => ?_)
      · refine z_iconst X (v := -1) dX4_alarm_51 (by decide) ?_
        refine z_iret X (Nat.le_of_ble_eq_true rfl) (Nat.le_of_ble_eq_true rfl) ?_ dX4_alarm_52
        exact ⟨by rw [← hs, show cn 5 - i = 0 by omega]; rfl, rfl, rfl⟩
      · refine z_aload_n X 0 dX4_alarm_12 rfl rfl ?_
        refine z_get X (v := .ref (ad 6)) 0 6 wa_X4 rfl rfl rfl (by decide) q_565 rfl rfl dX4_alarm_13 ?_
        refine z_iload_n X 3 dX4_alarm_16 rfl rfl ?_
        refine z_ialdN X (n := 12) (g := u 6) 6 rfl rfl (by omega) (by decide) dX4_alarm_17 ?_
        refine z_iconst X (v := nI 2) dX4_alarm_18 (by decide) ?_
        refine z_icmp_ge X (tgt := 45) dX4_alarm_19 (by decide) (fun c19 => ?_) (fun c19 => ?_)
        · refine z_iincN X 3 (k := 1) (lv' := [(3, .int (nI (i + 1))), (0, .ref (ad 0)), (1, .int k), (2, .int (nI sn))]) dX4_alarm_45 rfl (by decide) (by decide) rfl ?_
          refine z_goto X (tgt := 4) dX4_alarm_48 (by decide) ?_
          refine z_lv (lv' := [(0, .ref (ad 0)), (1, .int k), (2, .int (nI sn)), (3, .int (nI (i + 1)))]) [1, 2, 3, 0] rfl ?_
          exact ih4 (i + 1) sn (by omega) (by omega) (by rw [← hs]; exact scanK_f c9 (decide_eq_false (fun h => h.1 c19))) (by omega)
        · refine z_aload_n X 0 dX4_alarm_22 rfl rfl ?_
          refine z_get X (v := .ref (ad 8)) 0 8 wa_X4 rfl rfl rfl (by decide) q_567 rfl rfl dX4_alarm_23 ?_
          refine z_iload_n X 3 dX4_alarm_26 rfl rfl ?_
          refine z_ialdN X (n := 12) (g := u 8) 8 rfl rfl (by omega) (by decide) dX4_alarm_27 ?_
          refine z_aload_n X 0 dX4_alarm_28 rfl rfl ?_
          refine z_get X (v := .int (u 0 17)) 0 17 wa_X4 rfl rfl rfl (by decide) q_576 rfl rfl dX4_alarm_29 ?_
          refine z_icmp_lt X (tgt := 45) dX4_alarm_32 (by decide) (fun c32 => ?_) (fun c32 => ?_)
          · refine z_iincN X 3 (k := 1) (lv' := [(3, .int (nI (i + 1))), (0, .ref (ad 0)), (1, .int k), (2, .int (nI sn))]) dX4_alarm_45 rfl (by decide) (by decide) rfl ?_
            refine z_goto X (tgt := 4) dX4_alarm_48 (by decide) ?_
            refine z_lv (lv' := [(0, .ref (ad 0)), (1, .int k), (2, .int (nI sn)), (3, .int (nI (i + 1)))]) [1, 2, 3, 0] rfl ?_
            exact ih4 (i + 1) sn (by omega) (by omega) (by rw [← hs]; exact scanK_f c9 (decide_eq_false (fun h => h.2 c32))) (by omega)
          · refine z_iload_n X 2 dX4_alarm_35 rfl rfl ?_
            refine z_iload_n X 1 dX4_alarm_36 rfl rfl ?_
            refine z_icmp_ne X (tgt := 42) dX4_alarm_37 (by decide) (fun c37 => ?_) (fun c37 => ?_)
            · refine z_iincN X 2 (k := 1) (lv' := [(2, .int (nI (sn + 1))), (0, .ref (ad 0)), (1, .int k), (3, .int (nI i))]) dX4_alarm_42 rfl (by decide) (by decide) rfl ?_
              refine z_iincN X 3 (k := 1) (lv' := [(3, .int (nI (i + 1))), (2, .int (nI (sn + 1))), (0, .ref (ad 0)), (1, .int k)]) dX4_alarm_45 rfl (by decide) (by decide) rfl ?_
              refine z_goto X (tgt := 4) dX4_alarm_48 (by decide) ?_
              refine z_lv (lv' := [(0, .ref (ad 0)), (1, .int k), (2, .int (nI (sn + 1))), (3, .int (nI (i + 1)))]) [2, 3, 1, 0] rfl ?_
              exact ih4 (i + 1) (sn + 1) (by omega) (by omega) (by rw [← hs]; exact scanK_n c9 (decide_eq_true ⟨c19, c32⟩) c37) (by omega)
            · refine z_iload_n X 3 dX4_alarm_40 rfl rfl ?_
              refine z_iret X (Nat.le_of_ble_eq_true rfl) (Nat.le_of_ble_eq_true rfl) ?_ dX4_alarm_41
              exact ⟨by rw [← hs, ← scanK_y c9 (decide_eq_true ⟨c19, c32⟩) c37], rfl, rfl⟩
  exact lp4 (cn 5 + 1) 0 0 (by omega) (by omega) (by rfl) (by omega)
set_option maxHeartbeats 4000000 in
set_option maxRecDepth 100000 in
theorem m_stack (l : Launch) (G : va_G) (cy : Nat → ClassId) (B : Nat) (ad : Nat → Nat) (cn : Nat → Nat) (u : Nat → Nat → Int32) (w : Nat → Nat → Int64) (x : Nat → Nat → UInt64) (hc18 : cn 18 ≤ 4) (g h : Int32) : Ct l G cy B yX4_stack cX4_stack 3 (some .int) ({ frames := 1, cells := 0, slots := 0, locals := 25 } : Room) ad (MF cy ad cn u w x) [.ref (ad 0), .int g, .int h] (fun v ad' f' => v = some (.int (if okStackM cn g h then nI (cn 18) else -1)) ∧ ad = ad' ∧ (if okStackM cn g h then MF cy ad (va_up cn 18 (cn 18 + 1)) (va_up (va_up u 19 (upd (u 19) (cn 18) g)) 20 (upd (u 20) (cn 18) h)) w x else MF cy ad cn u w x) = f') := by
  refine ct_of (by decide +kernel) (Nat.le_of_ble_eq_true rfl) ?_
  intro p e s m args below meth c X hnm
  refine z_lv (lv' := [(0, .ref (ad 0)), (1, .int g), (2, .int h)]) [0, 1, 2] rfl ?_
  refine z_aload_n X 0 dX4_stack_0 rfl rfl ?_
  refine z_get X (v := .int (nI (cn 18))) 0 18 wa_X4 rfl rfl rfl (by decide) q_577 rfl rfl dX4_stack_1 ?_
  refine z_iconst X (v := nI 4) dX4_stack_4 (by decide) ?_
  refine z_icmp_eqN X (tgt := 32) (by omega) (by omega) dX4_stack_5 (by decide) (fun c5 => ?_) (fun c5 => ?_)
  · refine z_iconst X (v := -1) dX4_stack_32 (by decide) ?_
    refine z_iret X (Nat.le_of_ble_eq_true rfl) (Nat.le_of_ble_eq_true rfl) ?_ dX4_stack_33
    have h9 : ¬ okStackM cn g h := fun h9 => h9.1 c5
    exact ⟨by rw [if_neg h9], rfl, by rw [if_neg h9]⟩
  · refine z_iload_n X 1 dX4_stack_8 rfl rfl ?_
    refine z_i2l X dX4_stack_9 ?_
    refine z_lconst X (v := 0) dX4_stack_10 rfl ?_
    refine z_ldc2 X dX4_stack_11 q_691 ?_
    refine z_callS X (n := 3) (As := [.long g.toInt64, .long 0, .long 3]) (rest := []) (c_X4_isIn l G cy B ad (MF cy ad cn u w x) g.toInt64 0 3) q_652 q_653 q_29 q_654 (by decide +kernel) ⟨Nat.le_of_ble_eq_true rfl, Nat.le_of_ble_eq_true rfl⟩ rfl rfl (Nat.le_of_ble_eq_true rfl) dX4_stack_14 ⟨Nat.le_of_ble_eq_true rfl, Nat.le_of_ble_eq_true rfl⟩ (fun v ad' f' hp had => ?_)
    obtain ⟨rfl, rfl, rfl⟩ := hp
    refine z_st (st' := [.int (nI (if 0 ≤ g.toInt64 ∧ g.toInt64 ≤ 3 then 1 else 0))]) rfl ?_
    refine z_if_eqB X (tgt := 32) dX4_stack_17 (by decide) (fun c17 => ?_) (fun c17 => ?_)
    · refine z_iconst X (v := -1) dX4_stack_32 (by decide) ?_
      refine z_iret X (Nat.le_of_ble_eq_true rfl) (Nat.le_of_ble_eq_true rfl) ?_ dX4_stack_33
      have h9 : ¬ okStackM cn g h := fun h9 => c17 h9.2.1
      exact ⟨by rw [if_neg h9], rfl, by rw [if_neg h9]⟩
    · refine z_iload_n X 2 dX4_stack_20 rfl rfl ?_
      refine z_i2l X dX4_stack_21 ?_
      refine z_lconst X (v := 1) dX4_stack_22 rfl ?_
      refine z_ldc2 X dX4_stack_23 q_734 ?_
      refine z_callS X (n := 3) (As := [.long h.toInt64, .long 1, .long 6]) (rest := []) (c_X4_isIn l G cy B ad (MF cy ad cn u w x) h.toInt64 1 6) q_652 q_653 q_29 q_654 (by decide +kernel) ⟨Nat.le_of_ble_eq_true rfl, Nat.le_of_ble_eq_true rfl⟩ rfl rfl (Nat.le_of_ble_eq_true rfl) dX4_stack_26 ⟨Nat.le_of_ble_eq_true rfl, Nat.le_of_ble_eq_true rfl⟩ (fun v ad' f' hp had => ?_)
      obtain ⟨rfl, rfl, rfl⟩ := hp
      refine z_st (st' := [.int (nI (if 1 ≤ h.toInt64 ∧ h.toInt64 ≤ 6 then 1 else 0))]) rfl ?_
      refine z_if_neB X (tgt := 34) dX4_stack_29 (by decide) (fun c29 => ?_) (fun c29 => ?_)
      · refine z_aload_n X 0 dX4_stack_34 rfl rfl ?_
        refine z_get X (v := .ref (ad 19)) 0 19 wa_X4 rfl rfl rfl (by decide) q_578 rfl rfl dX4_stack_35 ?_
        refine z_aload_n X 0 dX4_stack_38 rfl rfl ?_
        refine z_get X (v := .int (nI (cn 18))) 0 18 wa_X4 rfl rfl rfl (by decide) q_577 rfl rfl dX4_stack_39 ?_
        refine z_iload_n X 1 dX4_stack_42 rfl rfl ?_
        refine z_iastN X (n := 4) (g := u 19) 19 rfl rfl (by omega) (by decide) dX4_stack_43 ?_
        refine z_f (MF_u 19 4 rfl (by decide) _) ?_
        refine z_aload_n X 0 dX4_stack_44 rfl rfl ?_
        refine z_get X (v := .ref (ad 20)) 0 20 wa_X4 rfl rfl rfl (by decide) q_579 rfl rfl dX4_stack_45 ?_
        refine z_aload_n X 0 dX4_stack_48 rfl rfl ?_
        refine z_get X (v := .int (nI (cn 18))) 0 18 wa_X4 rfl rfl rfl (by decide) q_577 rfl rfl dX4_stack_49 ?_
        refine z_iload_n X 2 dX4_stack_52 rfl rfl ?_
        refine z_iastN X (n := 4) (g := u 20) 20 rfl rfl (by omega) (by decide) dX4_stack_53 ?_
        refine z_f (MF_u 20 4 rfl (by decide) _) ?_
        refine z_aload_n X 0 dX4_stack_54 rfl rfl ?_
        refine z_dup X dX4_stack_55 rfl ?_
        refine z_get X (v := .int (nI (cn 18))) 0 18 wa_X4 rfl rfl rfl (by decide) q_577 rfl rfl dX4_stack_56 ?_
        refine z_iconst X (v := nI 1) dX4_stack_59 (by decide) ?_
        refine z_iaddN X dX4_stack_60 ?_
        refine z_put X (ty := .int) 0 18 wa_X4 tyX4 tyX4_ok nmX4 rfl rfl rfl (by decide) q_577 rfl rfl (by decide +kernel) rfl rfl (Nat.le_of_ble_eq_true rfl) dX4_stack_61 ?_
        refine z_f (MF_c (cn' := va_up cn 18 ((cn 18) + 1)) rfl) ?_
        refine z_aload_n X 0 dX4_stack_64 rfl rfl ?_
        refine z_get X (v := .int (nI ((cn 18) + 1))) 0 18 wa_X4 rfl rfl rfl (by decide) q_577 rfl rfl dX4_stack_65 ?_
        refine z_iconst X (v := nI 1) dX4_stack_68 (by decide) ?_
        refine z_isubN X (by omega) dX4_stack_69 ?_
        refine z_top (v' := .int (nI (cn 18))) (by rfl) ?_
        refine z_iret X (Nat.le_of_ble_eq_true rfl) (Nat.le_of_ble_eq_true rfl) ?_ dX4_stack_70
        have h9 : okStackM cn g h := ⟨c5, c17, c29⟩
        exact ⟨by rw [if_pos h9], rfl, by rw [if_pos h9]⟩
      · refine z_iconst X (v := -1) dX4_stack_32 (by decide) ?_
        refine z_iret X (Nat.le_of_ble_eq_true rfl) (Nat.le_of_ble_eq_true rfl) ?_ dX4_stack_33
        have h9 : ¬ okStackM cn g h := fun h9 => c29 h9.2.2
        exact ⟨by rw [if_neg h9], rfl, by rw [if_neg h9]⟩
set_option maxHeartbeats 4000000 in
set_option maxRecDepth 100000 in
theorem m_isClose (l : Launch) (G : va_G) (cy : Nat → ClassId) (B : Nat) (ad : Nat → Nat) (cn : Nat → Nat) (u : Nat → Nat → Int32) (w : Nat → Nat → Int64) (x : Nat → Nat → UInt64) (a b : Nat) (ha : a < 4) (hb : b < 4) : Ct l G cy B yX4_isClose cX4_isClose 5 (some .boolean) ({ frames := 0, cells := 0, slots := 0, locals := 0 } : Room) ad (MF cy ad cn u w x) [.ref (ad 0), .int (nI a), .int (nI b)] (fun v ad' f' => v = some (.int (nI (if closeM (u 19) a b then 1 else 0))) ∧ ad = ad' ∧ MF cy ad cn u w x = f') := by
  refine ct_of (by decide +kernel) (Nat.le_of_ble_eq_true rfl) ?_
  intro p e s m args below meth c X hnm
  refine z_lv (lv' := [(0, .ref (ad 0)), (1, .int (nI a)), (2, .int (nI b))]) [0, 1, 2] rfl ?_
  refine z_iload_n X 1 dX4_isClose_0 rfl rfl ?_
  refine z_iload_n X 2 dX4_isClose_1 rfl rfl ?_
  refine z_icmp_geN X (tgt := 9) (by omega) (by omega) dX4_isClose_2 (by decide) (fun c2 => ?_) (fun c2 => ?_)
  · refine z_iload_n X 2 dX4_isClose_9 rfl rfl ?_
    refine z_istore_n X (lv' := [(3, .int (nI b)), (0, .ref (ad 0)), (1, .int (nI a)), (2, .int (nI b))]) dX4_isClose_10 rfl (by decide) rfl ?_
    refine z_iload_n X 2 dX4_isClose_11 rfl rfl ?_
    refine z_iload_n X 3 dX4_isClose_12 rfl rfl ?_
    refine z_icmp_geN X (tgt := 20) (by omega) (by omega) dX4_isClose_13 (by decide) (fun c13 => ?_) (fun c13 => by exfalso; omega)
    refine z_iload_n X 2 dX4_isClose_20 rfl rfl ?_
    refine z_istore X (lv' := [(4, .int (nI a)), (3, .int (nI b)), (0, .ref (ad 0)), (1, .int (nI a)), (2, .int (nI b))]) dX4_isClose_21 (by decide) rfl ?_
    refine z_iload X 0 dX4_isClose_23 rfl ?_
    refine z_iload_n X 1 dX4_isClose_25 rfl rfl ?_
    refine z_icmp_eqN X (tgt := 43) (by omega) (by omega) dX4_isClose_26 (by decide) (fun c26 => ?_) (fun c26 => ?_)
    · refine z_iconst X (v := nI 1) dX4_isClose_43 (by decide) ?_
      refine z_goto X (tgt := 48) dX4_isClose_44 (by decide) ?_
      refine z_zret rfl X (Nat.le_of_ble_eq_true rfl) (Nat.le_of_ble_eq_true rfl) ?_ dX4_isClose_48
      have e1 : hiN a b = a := if_neg (by omega)
      have e2 : loN a b = b := if_neg (by omega)
      exact ⟨by rw [if_pos (Or.inl (by rw [e1, e2]; exact c26))], rfl, rfl⟩
    · refine z_iload X 0 dX4_isClose_29 rfl ?_
      refine z_iload_n X 1 dX4_isClose_31 rfl rfl ?_
      refine z_isubN X (by omega) dX4_isClose_32 ?_
      refine z_aload_n X 2 dX4_isClose_33 rfl rfl ?_
      refine z_get X (v := .ref (ad 19)) 0 19 wa_X4 rfl rfl rfl (by decide) q_578 rfl rfl dX4_isClose_34 ?_
      refine z_iload X 0 dX4_isClose_37 rfl ?_
      refine z_ialdN X (n := 4) (g := u 19) 19 rfl rfl (by omega) (by decide) dX4_isClose_39 ?_
      refine z_icmp_gt X (tgt := 47) dX4_isClose_40 (by decide) (fun c40 => ?_) (fun c40 => ?_)
      · refine z_iconst X (v := nI 0) dX4_isClose_47 (by decide) ?_
        refine z_zret rfl X (Nat.le_of_ble_eq_true rfl) (Nat.le_of_ble_eq_true rfl) ?_ dX4_isClose_48
        have e1 : hiN a b = a := if_neg (by omega)
        have e2 : loN a b = b := if_neg (by omega)
        exact ⟨by rw [if_neg (by rw [closeM, e1, e2]; exact fun h => h.elim (fun q => c26 q) (fun q => q c40))], rfl, rfl⟩
      · refine z_iconst X (v := nI 1) dX4_isClose_43 (by decide) ?_
        refine z_goto X (tgt := 48) dX4_isClose_44 (by decide) ?_
        refine z_zret rfl X (Nat.le_of_ble_eq_true rfl) (Nat.le_of_ble_eq_true rfl) ?_ dX4_isClose_48
        have e1 : hiN a b = a := if_neg (by omega)
        have e2 : loN a b = b := if_neg (by omega)
        exact ⟨by rw [if_pos (by rw [closeM, e1, e2]; exact Or.inr c40)], rfl, rfl⟩
  · refine z_iload_n X 1 dX4_isClose_5 rfl rfl ?_
    refine z_goto X (tgt := 10) dX4_isClose_6 (by decide) ?_
    refine z_istore_n X (lv' := [(3, .int (nI a)), (0, .ref (ad 0)), (1, .int (nI a)), (2, .int (nI b))]) dX4_isClose_10 rfl (by decide) rfl ?_
    refine z_iload_n X 2 dX4_isClose_11 rfl rfl ?_
    refine z_iload_n X 3 dX4_isClose_12 rfl rfl ?_
    refine z_icmp_geN X (tgt := 20) (by omega) (by omega) dX4_isClose_13 (by decide) (fun c13 => by exfalso; omega) (fun c13 => ?_)
    refine z_iload_n X 3 dX4_isClose_16 rfl rfl ?_
    refine z_goto X (tgt := 21) dX4_isClose_17 (by decide) ?_
    refine z_istore X (lv' := [(4, .int (nI b)), (3, .int (nI a)), (0, .ref (ad 0)), (1, .int (nI a)), (2, .int (nI b))]) dX4_isClose_21 (by decide) rfl ?_
    refine z_iload X 0 dX4_isClose_23 rfl ?_
    refine z_iload_n X 1 dX4_isClose_25 rfl rfl ?_
    refine z_icmp_eqN X (tgt := 43) (by omega) (by omega) dX4_isClose_26 (by decide) (fun c26 => ?_) (fun c26 => ?_)
    · refine z_iconst X (v := nI 1) dX4_isClose_43 (by decide) ?_
      refine z_goto X (tgt := 48) dX4_isClose_44 (by decide) ?_
      refine z_zret rfl X (Nat.le_of_ble_eq_true rfl) (Nat.le_of_ble_eq_true rfl) ?_ dX4_isClose_48
      have e1 : hiN a b = b := if_pos c2
      have e2 : loN a b = a := if_pos c2
      exact ⟨by rw [if_pos (Or.inl (by rw [e1, e2]; exact c26))], rfl, rfl⟩
    · refine z_iload X 0 dX4_isClose_29 rfl ?_
      refine z_iload_n X 1 dX4_isClose_31 rfl rfl ?_
      refine z_isubN X (by omega) dX4_isClose_32 ?_
      refine z_aload_n X 2 dX4_isClose_33 rfl rfl ?_
      refine z_get X (v := .ref (ad 19)) 0 19 wa_X4 rfl rfl rfl (by decide) q_578 rfl rfl dX4_isClose_34 ?_
      refine z_iload X 0 dX4_isClose_37 rfl ?_
      refine z_ialdN X (n := 4) (g := u 19) 19 rfl rfl (by omega) (by decide) dX4_isClose_39 ?_
      refine z_icmp_gt X (tgt := 47) dX4_isClose_40 (by decide) (fun c40 => ?_) (fun c40 => ?_)
      · refine z_iconst X (v := nI 0) dX4_isClose_47 (by decide) ?_
        refine z_zret rfl X (Nat.le_of_ble_eq_true rfl) (Nat.le_of_ble_eq_true rfl) ?_ dX4_isClose_48
        have e1 : hiN a b = b := if_pos c2
        have e2 : loN a b = a := if_pos c2
        exact ⟨by rw [if_neg (by rw [closeM, e1, e2]; exact fun h => h.elim (fun q => c26 q) (fun q => q c40))], rfl, rfl⟩
      · refine z_iconst X (v := nI 1) dX4_isClose_43 (by decide) ?_
        refine z_goto X (tgt := 48) dX4_isClose_44 (by decide) ?_
        refine z_zret rfl X (Nat.le_of_ble_eq_true rfl) (Nat.le_of_ble_eq_true rfl) ?_ dX4_isClose_48
        have e1 : hiN a b = b := if_pos c2
        have e2 : loN a b = a := if_pos c2
        exact ⟨by rw [if_pos (by rw [closeM, e1, e2]; exact Or.inr c40)], rfl, rfl⟩
set_option maxHeartbeats 4000000 in
set_option maxRecDepth 100000 in
theorem m_put_i (l : Launch) (G : va_G) (cy : Nat → ClassId) (B : Nat) (ad : Nat → Nat) (cn : Nat → Nat) (u : Nat → Nat → Int32) (w : Nat → Nat → Int64) (x : Nat → Nat → UInt64) (hc0 : cn 0 ≤ 200) (hc5 : cn 5 ≤ 12) (hc18 : cn 18 ≤ 4) (hst : ∀ b, b < cn 5 → u 6 b = nI 1 → ∃ s9, s9 < cn 18 ∧ u 10 b = nI s9) (j : Nat) (hj : j < cn 5) (st : Nat) (hs : st < cn 18) : Ct l G cy B yX4_put cX4_put 8 (some .int) ({ frames := 3, cells := 0, slots := 0, locals := 73 } : Room) ad (MF cy ad cn u w x) [.ref (ad 0), .int (nI j), .int (nI st)] (fun v ad' f' => v = some (.int (nI (putM cn u w x j st))) ∧ ad = ad' ∧ (if putM cn u w x j st = 0 then MF cy ad cn (va_up (va_up u 6 (upd (u 6) j (nI 1))) 10 (upd (u 10) j (nI st))) w x else MF cy ad cn u w x) = f') := by
  refine ct_of (by decide +kernel) (Nat.le_of_ble_eq_true rfl) ?_
  intro p e s m args below meth c X hnm
  refine z_lv (lv' := [(0, .ref (ad 0)), (1, .int (nI j)), (2, .int (nI st))]) [0, 1, 2] rfl ?_
  refine z_aload_n X 0 dX4_put_0 rfl rfl ?_
  refine z_iload_n X 1 dX4_put_1 rfl rfl ?_
  refine z_callV X (n := 1) (As := [.int (nI j)]) (rest := []) 0 rfl rfl rfl (m_isBale l G cy B ad cn u w x (nI j)) q_668 q_669 q_14 q_29 q_670 (by decide +kernel) ⟨Nat.le_of_ble_eq_true rfl, Nat.le_of_ble_eq_true rfl⟩ rfl rfl (Nat.le_of_ble_eq_true rfl) dX4_put_2 ⟨Nat.le_of_ble_eq_true rfl, Nat.le_of_ble_eq_true rfl⟩ (fun v ad' f' hp had => ?_)
  obtain ⟨rfl, rfl, rfl⟩ := hp
  refine z_st (st' := [.int (nI (if ¬ (nI j) < 0 ∧ ¬ nI (cn 5) ≤ (nI j) then 1 else 0))]) rfl ?_
  refine z_if_eqB X (tgt := 20) dX4_put_5 (by decide) (fun c5 => by exfalso; exact c5 ⟨nI_pos (by omega), nI_ge (by omega) (by omega)⟩) (fun c5 => ?_)
  refine z_iload_n X 2 dX4_put_8 rfl rfl ?_
  refine z_if_ltN X (tgt := 20) (by omega) dX4_put_9 (by decide) ?_
  refine z_iload_n X 2 dX4_put_12 rfl rfl ?_
  refine z_aload_n X 0 dX4_put_13 rfl rfl ?_
  refine z_get X (v := .int (nI (cn 18))) 0 18 wa_X4 rfl rfl rfl (by decide) q_577 rfl rfl dX4_put_14 ?_
  refine z_icmp_ltN X (tgt := 22) (by omega) (by omega) dX4_put_17 (by decide) (fun c17 => ?_) (fun c17 => by exfalso; omega)
  refine z_aload_n X 0 dX4_put_22 rfl rfl ?_
  refine z_get X (v := .ref (ad 6)) 0 6 wa_X4 rfl rfl rfl (by decide) q_565 rfl rfl dX4_put_23 ?_
  refine z_iload_n X 1 dX4_put_26 rfl rfl ?_
  refine z_ialdN X (n := 12) (g := u 6) 6 rfl rfl (by omega) (by decide) dX4_put_27 ?_
  refine z_if_eq X (tgt := 33) dX4_put_28 (by decide) (fun c28 => ?_) (fun c28 => ?_)
  · refine z_iconst X (v := nI 0) dX4_put_33 (by decide) ?_
    refine z_istore_n X (lv' := [(3, .int (nI 0)), (0, .ref (ad 0)), (1, .int (nI j)), (2, .int (nI st))]) dX4_put_34 rfl (by decide) rfl ?_
    refine z_iconst X (v := nI 0) dX4_put_35 (by decide) ?_
    refine z_istore X (lv' := [(4, .int (nI 0)), (3, .int (nI 0)), (0, .ref (ad 0)), (1, .int (nI j)), (2, .int (nI st))]) dX4_put_36 (by decide) rfl ?_
    refine z_aload_n X 2 dX4_put_38 rfl rfl ?_
    refine z_iload_n X 3 dX4_put_39 rfl rfl ?_
    refine z_callV X (n := 1) (As := [.int (nI j)]) (rest := []) 0 rfl rfl rfl (m_weight l G cy B ad cn u w x hc0 j (by omega)) q_686 q_687 q_17 q_29 q_688 (by decide +kernel) ⟨Nat.le_of_ble_eq_true rfl, Nat.le_of_ble_eq_true rfl⟩ rfl rfl (Nat.le_of_ble_eq_true rfl) dX4_put_40 ⟨Nat.le_of_ble_eq_true rfl, Nat.le_of_ble_eq_true rfl⟩ (fun v ad' f' hp had => ?_)
    obtain ⟨rfl, rfl, rfl⟩ := hp
    refine z_st (st' := [.long (weightM cn u w j)]) rfl ?_
    refine z_lstore X (lv' := [(5, .long (weightM cn u w j)), (4, .int (nI 0)), (3, .int (nI 0)), (0, .ref (ad 0)), (1, .int (nI j)), (2, .int (nI st))]) dX4_put_43 (by decide) rfl ?_
    refine z_iconst X (v := nI 0) dX4_put_45 (by decide) ?_
    refine z_istore X (lv' := [(7, .int (nI 0)), (5, .long (weightM cn u w j)), (4, .int (nI 0)), (3, .int (nI 0)), (0, .ref (ad 0)), (1, .int (nI j)), (2, .int (nI st))]) dX4_put_46 (by decide) rfl ?_
    refine z_lv (lv' := [(0, .ref (ad 0)), (1, .int (nI j)), (2, .int (nI st)), (3, .int (nI 0)), (4, .int (nI 0)), (5, .long (weightM cn u w j)), (7, .int (nI 0))]) [4, 5, 6, 3, 2, 1, 0] rfl ?_
    have lp48 : ∀ (fu48 : Nat) (i mn ot : Nat) (nv : Int64), (i ≤ cn 5) → (mn = cntN (fun b => decide (onM u (nI st) b)) i) → (ot = if anyB (fun b => decide (othM cn u w j (nI st) b)) i = true then 1 else 0) → (nv = nearM cn u w j st i) → cn 5 + 1 ≤ i + fu48 → Z G B 8 ad (MF cy ad cn u w x) p l e ({ frames := 3, cells := 0, slots := 0, locals := 73 } : Room) s m args below meth c (zEnd G B ad (MF cy ad cn u w x) below args s ({ frames := 3, cells := 0, slots := 0, locals := 73 } : Room) (fun v ad' f' => v = some (.int (nI (putM cn u w x j st))) ∧ ad = ad' ∧ (if putM cn u w x j st = 0 then MF cy ad cn (va_up (va_up u 6 (upd (u 6) j (nI 1))) 10 (upd (u 10) j (nI st))) w x else MF cy ad cn u w x) = f')) ad (MF cy ad cn u w x) 0 0 48 [(0, .ref (ad 0)), (1, .int (nI j)), (2, .int (nI st)), (3, .int (nI mn)), (4, .int (nI ot)), (5, .long nv), (7, .int (nI i))] [] := by
      intro fu48
      induction fu48 with
      | zero => intro i mn ot nv hi hm ho hn hm48; exact absurd hm48 (by omega)
      | succ fu48 ih48 =>
        intro i mn ot nv hi hm ho hn hm48
        refine z_iload X 6 dX4_put_48 rfl ?_
        refine z_aload_n X 0 dX4_put_50 rfl rfl ?_
        refine z_get X (v := .int (nI (cn 5))) 0 5 wa_X4 rfl rfl rfl (by decide) q_564 rfl rfl dX4_put_51 ?_
        refine z_icmp_geN X (tgt := 160) (by omega) (by omega) dX4_put_54 (by decide) (fun c54 => ?_) (fun c54 => ?_)
        · obtain rfl : i = cn 5 := by omega
          refine z_iload_n X 3 dX4_put_160 rfl rfl ?_
          refine z_aload_n X 0 dX4_put_161 rfl rfl ?_
          refine z_get X (v := .ref (ad 20)) 0 20 wa_X4 rfl rfl rfl (by decide) q_579 rfl rfl dX4_put_162 ?_
          refine z_iload_n X 2 dX4_put_165 rfl rfl ?_
          refine z_ialdN X (n := 4) (g := u 20) 20 rfl rfl (by omega) (by decide) dX4_put_166 ?_
          refine z_icmp_lt X (tgt := 172) dX4_put_167 (by decide) (fun c167 => ?_) (fun c167 => ?_)
          · refine z_aload_n X 0 dX4_put_172 rfl rfl ?_
            refine z_get X (v := .ref (ad 7)) 0 7 wa_X4 rfl rfl rfl (by decide) q_566 rfl rfl dX4_put_173 ?_
            refine z_iload_n X 1 dX4_put_176 rfl rfl ?_
            refine z_daldN X (n := 12) (g := x 7) 7 rfl rfl (by omega) (by decide) dX4_put_177 ?_
            refine z_ldc2d X dX4_put_178 q_719 ?_
            refine z_dcmp_lt X (tgt := 187) dX4_put_181 dX4_put_182 (by decide) (fun c181 => ?_) (fun c181 => ?_)
            · refine z_iload X 4 dX4_put_187 rfl ?_
              refine z_if_eqN X (tgt := 194) (by rw [ho]; exact b01_lt) dX4_put_189 (by decide) (fun c189 => ?_) (fun c189 => ?_)
              · refine z_lload X 5 dX4_put_194 rfl ?_
                refine z_ldc2 X dX4_put_196 q_655 ?_
                refine z_lcmp_le X (tgt := 206) dX4_put_199 dX4_put_200 (by decide) (fun c199 => ?_) (fun c199 => ?_)
                · refine z_aload_n X 0 dX4_put_206 rfl rfl ?_
                  refine z_get X (v := .ref (ad 6)) 0 6 wa_X4 rfl rfl rfl (by decide) q_565 rfl rfl dX4_put_207 ?_
                  refine z_iload_n X 1 dX4_put_210 rfl rfl ?_
                  refine z_iconst X (v := nI 1) dX4_put_211 (by decide) ?_
                  refine z_iastN X (n := 12) (g := u 6) 6 rfl rfl (by omega) (by decide) dX4_put_212 ?_
                  refine z_f (MF_u 6 12 rfl (by decide) _) ?_
                  refine z_aload_n X 0 dX4_put_213 rfl rfl ?_
                  refine z_get X (v := .ref (ad 10)) 0 10 wa_X4 rfl rfl rfl (by decide) q_569 rfl rfl dX4_put_214 ?_
                  refine z_iload_n X 1 dX4_put_217 rfl rfl ?_
                  refine z_iload_n X 2 dX4_put_218 rfl rfl ?_
                  refine z_iastN X (n := 12) (g := u 10) 10 rfl rfl (by omega) (by decide) dX4_put_219 ?_
                  refine z_f (MF_u 10 12 rfl (by decide) _) ?_
                  refine z_iconst X (v := nI 0) dX4_put_220 (by decide) ?_
                  refine z_iret X (Nat.le_of_ble_eq_true rfl) (Nat.le_of_ble_eq_true rfl) ?_ dX4_put_221
                  have h9 : putM cn u w x j st = 0 := by unfold putM; rw [if_neg (fun h => h c28), if_neg (fun h => h (by rw [← hm]; exact c167)), if_neg (by rw [c181]; exact Bool.false_ne_true), if_neg ((b01_0 (P := anyB (fun b => decide (othM cn u w j (nI st) b)) (cn 5) = true)).mp (by rw [← ho]; exact c189)), if_neg (fun h => h (by rw [← hn]; exact c199))]
                  exact ⟨by rw [h9], rfl, by rw [h9]; exact if_pos rfl⟩
                · refine z_bipush X (v := nI 6) dX4_put_203 (by decide) ?_
                  refine z_iret X (Nat.le_of_ble_eq_true rfl) (Nat.le_of_ble_eq_true rfl) ?_ dX4_put_205
                  have h9 : putM cn u w x j st = 6 := by unfold putM; rw [if_neg (fun h => h c28), if_neg (fun h => h (by rw [← hm]; exact c167)), if_neg (by rw [c181]; exact Bool.false_ne_true), if_neg ((b01_0 (P := anyB (fun b => decide (othM cn u w j (nI st) b)) (cn 5) = true)).mp (by rw [← ho]; exact c189)), if_pos (by rw [← hn]; exact c199)]
                  exact ⟨by rw [h9], rfl, by rw [h9]; exact if_neg (by decide)⟩
              · refine z_iconst X (v := nI 5) dX4_put_192 (by decide) ?_
                refine z_iret X (Nat.le_of_ble_eq_true rfl) (Nat.le_of_ble_eq_true rfl) ?_ dX4_put_193
                have h9 : putM cn u w x j st = 5 := by unfold putM; rw [if_neg (fun h => h c28), if_neg (fun h => h (by rw [← hm]; exact c167)), if_neg (by rw [c181]; exact Bool.false_ne_true), if_pos ((b01_n (P := anyB (fun b => decide (othM cn u w j (nI st) b)) (cn 5) = true)).mp (by rw [← ho]; exact c189))]
                exact ⟨by rw [h9], rfl, by rw [h9]; exact if_neg (by decide)⟩
            · refine z_iconst X (v := nI 4) dX4_put_185 (by decide) ?_
              refine z_iret X (Nat.le_of_ble_eq_true rfl) (Nat.le_of_ble_eq_true rfl) ?_ dX4_put_186
              have h9 : putM cn u w x j st = 4 := by unfold putM; rw [if_neg (fun h => h c28), if_neg (fun h => h (by rw [← hm]; exact c167)), if_pos c181]
              exact ⟨by rw [h9], rfl, by rw [h9]; exact if_neg (by decide)⟩
          · refine z_iconst X (v := nI 3) dX4_put_170 (by decide) ?_
            refine z_iret X (Nat.le_of_ble_eq_true rfl) (Nat.le_of_ble_eq_true rfl) ?_ dX4_put_171
            have h9 : putM cn u w x j st = 3 := by unfold putM; rw [if_neg (fun h => h c28), if_pos (by rw [← hm]; exact c167)]
            exact ⟨by rw [h9], rfl, by rw [h9]; exact if_neg (by decide)⟩
        · refine z_aload_n X 0 dX4_put_57 rfl rfl ?_
          refine z_get X (v := .ref (ad 6)) 0 6 wa_X4 rfl rfl rfl (by decide) q_565 rfl rfl dX4_put_58 ?_
          refine z_iload X 6 dX4_put_61 rfl ?_
          refine z_ialdN X (n := 12) (g := u 6) 6 rfl rfl (by omega) (by decide) dX4_put_63 ?_
          refine z_iconst X (v := nI 1) dX4_put_64 (by decide) ?_
          refine z_icmp_ne X (tgt := 154) dX4_put_65 (by decide) (fun c65 => ?_) (fun c65 => ?_)
          · refine z_iincN X 6 (k := 1) (lv' := [(7, .int (nI (i + 1))), (0, .ref (ad 0)), (1, .int (nI j)), (2, .int (nI st)), (3, .int (nI mn)), (4, .int (nI ot)), (5, .long nv)]) dX4_put_154 rfl (by decide) (by decide) rfl ?_
            refine z_goto X (tgt := 48) dX4_put_157 (by decide) ?_
            refine z_lv (lv' := [(0, .ref (ad 0)), (1, .int (nI j)), (2, .int (nI st)), (3, .int (nI mn)), (4, .int (nI ot)), (5, .long nv), (7, .int (nI (i + 1)))]) [1, 2, 3, 4, 5, 6, 0] rfl ?_
            exact ih48 (i + 1) mn ot nv (by omega) (by rw [hm]; exact (Nat.add_zero _).symm.trans (congrArg (fun z => cntN (fun b => decide (onM u (nI st) b)) i + z) (if_neg (fun h => c65 (of_decide_eq_true h).1)).symm)) (by rw [ho, anyB_s (fun h => c65 h.1.1)]) (by exact nearM_f hn (fun h => c65 h.1)) (by omega)
          · obtain ⟨s9, hs9, e9⟩ := hst i (by omega) c65
            refine z_iload_n X 3 dX4_put_68 rfl rfl ?_
            refine z_aload_n X 0 dX4_put_69 rfl rfl ?_
            refine z_get X (v := .ref (ad 10)) 0 10 wa_X4 rfl rfl rfl (by decide) q_569 rfl rfl dX4_put_70 ?_
            refine z_iload X 6 dX4_put_73 rfl ?_
            refine z_ialdN X (n := 12) (g := u 10) 10 rfl rfl (by omega) (by decide) dX4_put_75 ?_
            refine z_top (v' := .int (nI s9)) (by rw [e9]) ?_
            refine z_iload_n X 2 dX4_put_76 rfl rfl ?_
            refine z_icmp_neN X (tgt := 84) (by omega) (by omega) dX4_put_77 (by decide) (fun c77 => ?_) (fun c77 => ?_)
            · refine z_iconst X (v := nI 0) dX4_put_84 (by decide) ?_
              refine z_iaddN X dX4_put_85 ?_
              refine z_istore_n X (lv' := [(3, .int (nI (mn + 0))), (0, .ref (ad 0)), (1, .int (nI j)), (2, .int (nI st)), (4, .int (nI ot)), (5, .long nv), (7, .int (nI i))]) dX4_put_86 rfl (by decide) rfl ?_
              refine z_iload X 4 dX4_put_87 rfl ?_
              refine z_if_neN X (tgt := 117) (by rw [ho]; exact b01_lt) dX4_put_89 (by decide) (fun c89 => ?_) (fun c89 => ?_)
              · refine z_iconst X (v := nI 1) dX4_put_117 (by decide) ?_
                refine z_goto X (tgt := 122) dX4_put_118 (by decide) ?_
                refine z_istore X (lv' := [(4, .int (nI 1)), (3, .int (nI (mn + 0))), (0, .ref (ad 0)), (1, .int (nI j)), (2, .int (nI st)), (5, .long nv), (7, .int (nI i))]) dX4_put_122 (by decide) rfl ?_
                refine z_lload X 5 dX4_put_124 rfl ?_
                refine z_aload_n X 2 dX4_put_126 rfl rfl ?_
                refine z_aload_n X 2 dX4_put_127 rfl rfl ?_
                refine z_get X (v := .ref (ad 10)) 0 10 wa_X4 rfl rfl rfl (by decide) q_569 rfl rfl dX4_put_128 ?_
                refine z_iload X 6 dX4_put_131 rfl ?_
                refine z_ialdN X (n := 12) (g := u 10) 10 rfl rfl (by omega) (by decide) dX4_put_133 ?_
                refine z_top (v' := .int (nI s9)) (by rw [e9]) ?_
                refine z_iload_n X 4 dX4_put_134 rfl rfl ?_
                refine z_callV X (n := 2) (As := [.int (nI s9), .int (nI st)]) (rest := [.long nv]) 0 rfl rfl rfl (m_isClose l G cy B ad cn u w x s9 st (by omega) (by omega)) q_742 q_743 q_19 q_29 q_744 (by decide +kernel) ⟨Nat.le_of_ble_eq_true rfl, Nat.le_of_ble_eq_true rfl⟩ rfl rfl (Nat.le_of_ble_eq_true rfl) dX4_put_135 ⟨Nat.le_of_ble_eq_true rfl, Nat.le_of_ble_eq_true rfl⟩ (fun v ad' f' hp had => ?_)
                obtain ⟨rfl, rfl, rfl⟩ := hp
                refine z_st (st' := [.int (nI (if closeM (u 19) s9 st then 1 else 0)), .long nv]) rfl ?_
                refine z_if_eqB X (tgt := 150) dX4_put_138 (by decide) (fun c138 => ?_) (fun c138 => ?_)
                · refine z_lconst X (v := 0) dX4_put_150 rfl ?_
                  refine z_ladd X dX4_put_151 ?_
                  refine z_lstore X (lv' := [(5, .long (nv + 0)), (4, .int (nI 1)), (3, .int (nI (mn + 0))), (0, .ref (ad 0)), (1, .int (nI j)), (2, .int (nI st)), (7, .int (nI i))]) dX4_put_152 (by decide) rfl ?_
                  refine z_iincN X 6 (k := 1) (lv' := [(7, .int (nI (i + 1))), (5, .long (nv + 0)), (4, .int (nI 1)), (3, .int (nI (mn + 0))), (0, .ref (ad 0)), (1, .int (nI j)), (2, .int (nI st))]) dX4_put_154 rfl (by decide) (by decide) rfl ?_
                  refine z_goto X (tgt := 48) dX4_put_157 (by decide) ?_
                  refine z_lv (lv' := [(0, .ref (ad 0)), (1, .int (nI j)), (2, .int (nI st)), (3, .int (nI (mn + 0))), (4, .int (nI 1)), (5, .long (nv + 0)), (7, .int (nI (i + 1)))]) [4, 5, 6, 3, 2, 1, 0] rfl ?_
                  exact ih48 (i + 1) (mn + 0) 1 (nv + 0) (by omega) (by rw [hm]; exact congrArg (fun z => cntN (fun b => decide (onM u (nI st) b)) i + z) (if_neg (fun h => (fun h => c77 ((nI_eq (by omega) (by omega)).mp (e9.symm.trans h))) (of_decide_eq_true h).2)).symm) (by exact anyB_k ((b01_n (P := anyB (fun b => decide (othM cn u w j (nI st) b)) i = true)).mp (by rw [← ho]; exact c89))) (by rw [Int64.add_zero]; have e8 : (u 10 i).toNatClampNeg = s9 := (by rw [e9]; exact nI_clamp (by omega)); exact nearM_f hn (fun h => c138 (by rw [← e8]; exact h.2))) (by omega)
                · refine z_aload_n X 2 dX4_put_141 rfl rfl ?_
                  refine z_iload X 6 dX4_put_142 rfl ?_
                  refine z_callV X (n := 1) (As := [.int (nI i)]) (rest := [.long nv]) 0 rfl rfl rfl (m_weight l G cy B ad cn u w x hc0 i (by omega)) q_686 q_687 q_17 q_29 q_688 (by decide +kernel) ⟨Nat.le_of_ble_eq_true rfl, Nat.le_of_ble_eq_true rfl⟩ rfl rfl (Nat.le_of_ble_eq_true rfl) dX4_put_144 ⟨Nat.le_of_ble_eq_true rfl, Nat.le_of_ble_eq_true rfl⟩ (fun v ad' f' hp had => ?_)
                  obtain ⟨rfl, rfl, rfl⟩ := hp
                  refine z_st (st' := [.long (weightM cn u w i), .long nv]) rfl ?_
                  refine z_goto X (tgt := 151) dX4_put_147 (by decide) ?_
                  refine z_ladd X dX4_put_151 ?_
                  refine z_lstore X (lv' := [(5, .long (nv + (weightM cn u w i))), (4, .int (nI 1)), (3, .int (nI (mn + 0))), (0, .ref (ad 0)), (1, .int (nI j)), (2, .int (nI st)), (7, .int (nI i))]) dX4_put_152 (by decide) rfl ?_
                  refine z_iincN X 6 (k := 1) (lv' := [(7, .int (nI (i + 1))), (5, .long (nv + (weightM cn u w i))), (4, .int (nI 1)), (3, .int (nI (mn + 0))), (0, .ref (ad 0)), (1, .int (nI j)), (2, .int (nI st))]) dX4_put_154 rfl (by decide) (by decide) rfl ?_
                  refine z_goto X (tgt := 48) dX4_put_157 (by decide) ?_
                  refine z_lv (lv' := [(0, .ref (ad 0)), (1, .int (nI j)), (2, .int (nI st)), (3, .int (nI (mn + 0))), (4, .int (nI 1)), (5, .long (nv + (weightM cn u w i))), (7, .int (nI (i + 1)))]) [4, 5, 6, 3, 2, 1, 0] rfl ?_
                  exact ih48 (i + 1) (mn + 0) 1 (nv + (weightM cn u w i)) (by omega) (by rw [hm]; exact congrArg (fun z => cntN (fun b => decide (onM u (nI st) b)) i + z) (if_neg (fun h => (fun h => c77 ((nI_eq (by omega) (by omega)).mp (e9.symm.trans h))) (of_decide_eq_true h).2)).symm) (by exact anyB_k ((b01_n (P := anyB (fun b => decide (othM cn u w j (nI st) b)) i = true)).mp (by rw [← ho]; exact c89))) (by have e8 : (u 10 i).toNatClampNeg = s9 := (by rw [e9]; exact nI_clamp (by omega)); exact nearM_t hn ⟨c65, by rw [e8]; exact c138⟩) (by omega)
              · refine z_aload_n X 1 dX4_put_92 rfl rfl ?_
                refine z_get X (v := .ref (ad 10)) 0 10 wa_X4 rfl rfl rfl (by decide) q_569 rfl rfl dX4_put_93 ?_
                refine z_iload X 6 dX4_put_96 rfl ?_
                refine z_ialdN X (n := 12) (g := u 10) 10 rfl rfl (by omega) (by decide) dX4_put_98 ?_
                refine z_top (v' := .int (nI s9)) (by rw [e9]) ?_
                refine z_iload_n X 3 dX4_put_99 rfl rfl ?_
                refine z_icmp_neN X (tgt := 121) (by omega) (by omega) dX4_put_100 (by decide) (fun c100 => ?_) (fun c100 => ?_)
                · refine z_iconst X (v := nI 0) dX4_put_121 (by decide) ?_
                  refine z_istore X (lv' := [(4, .int (nI 0)), (3, .int (nI (mn + 0))), (0, .ref (ad 0)), (1, .int (nI j)), (2, .int (nI st)), (5, .long nv), (7, .int (nI i))]) dX4_put_122 (by decide) rfl ?_
                  refine z_lload X 5 dX4_put_124 rfl ?_
                  refine z_aload_n X 2 dX4_put_126 rfl rfl ?_
                  refine z_aload_n X 2 dX4_put_127 rfl rfl ?_
                  refine z_get X (v := .ref (ad 10)) 0 10 wa_X4 rfl rfl rfl (by decide) q_569 rfl rfl dX4_put_128 ?_
                  refine z_iload X 6 dX4_put_131 rfl ?_
                  refine z_ialdN X (n := 12) (g := u 10) 10 rfl rfl (by omega) (by decide) dX4_put_133 ?_
                  refine z_top (v' := .int (nI s9)) (by rw [e9]) ?_
                  refine z_iload_n X 4 dX4_put_134 rfl rfl ?_
                  refine z_callV X (n := 2) (As := [.int (nI s9), .int (nI st)]) (rest := [.long nv]) 0 rfl rfl rfl (m_isClose l G cy B ad cn u w x s9 st (by omega) (by omega)) q_742 q_743 q_19 q_29 q_744 (by decide +kernel) ⟨Nat.le_of_ble_eq_true rfl, Nat.le_of_ble_eq_true rfl⟩ rfl rfl (Nat.le_of_ble_eq_true rfl) dX4_put_135 ⟨Nat.le_of_ble_eq_true rfl, Nat.le_of_ble_eq_true rfl⟩ (fun v ad' f' hp had => ?_)
                  obtain ⟨rfl, rfl, rfl⟩ := hp
                  refine z_st (st' := [.int (nI (if closeM (u 19) s9 st then 1 else 0)), .long nv]) rfl ?_
                  refine z_if_eqB X (tgt := 150) dX4_put_138 (by decide) (fun c138 => ?_) (fun c138 => ?_)
                  · refine z_lconst X (v := 0) dX4_put_150 rfl ?_
                    refine z_ladd X dX4_put_151 ?_
                    refine z_lstore X (lv' := [(5, .long (nv + 0)), (4, .int (nI 0)), (3, .int (nI (mn + 0))), (0, .ref (ad 0)), (1, .int (nI j)), (2, .int (nI st)), (7, .int (nI i))]) dX4_put_152 (by decide) rfl ?_
                    refine z_iincN X 6 (k := 1) (lv' := [(7, .int (nI (i + 1))), (5, .long (nv + 0)), (4, .int (nI 0)), (3, .int (nI (mn + 0))), (0, .ref (ad 0)), (1, .int (nI j)), (2, .int (nI st))]) dX4_put_154 rfl (by decide) (by decide) rfl ?_
                    refine z_goto X (tgt := 48) dX4_put_157 (by decide) ?_
                    refine z_lv (lv' := [(0, .ref (ad 0)), (1, .int (nI j)), (2, .int (nI st)), (3, .int (nI (mn + 0))), (4, .int (nI 0)), (5, .long (nv + 0)), (7, .int (nI (i + 1)))]) [4, 5, 6, 3, 2, 1, 0] rfl ?_
                    exact ih48 (i + 1) (mn + 0) 0 (nv + 0) (by omega) (by rw [hm]; exact congrArg (fun z => cntN (fun b => decide (onM u (nI st) b)) i + z) (if_neg (fun h => (fun h => c77 ((nI_eq (by omega) (by omega)).mp (e9.symm.trans h))) (of_decide_eq_true h).2)).symm) (by exact anyB_f ((b01_0 (P := anyB (fun b => decide (othM cn u w j (nI st) b)) i = true)).mp (by rw [← ho]; exact c89)) (fun h => (fun h => c100 ((nI_eq (by omega) (by omega)).mp (e9.symm.trans h))) h.1.2)) (by rw [Int64.add_zero]; have e8 : (u 10 i).toNatClampNeg = s9 := (by rw [e9]; exact nI_clamp (by omega)); exact nearM_f hn (fun h => c138 (by rw [← e8]; exact h.2))) (by omega)
                  · refine z_aload_n X 2 dX4_put_141 rfl rfl ?_
                    refine z_iload X 6 dX4_put_142 rfl ?_
                    refine z_callV X (n := 1) (As := [.int (nI i)]) (rest := [.long nv]) 0 rfl rfl rfl (m_weight l G cy B ad cn u w x hc0 i (by omega)) q_686 q_687 q_17 q_29 q_688 (by decide +kernel) ⟨Nat.le_of_ble_eq_true rfl, Nat.le_of_ble_eq_true rfl⟩ rfl rfl (Nat.le_of_ble_eq_true rfl) dX4_put_144 ⟨Nat.le_of_ble_eq_true rfl, Nat.le_of_ble_eq_true rfl⟩ (fun v ad' f' hp had => ?_)
                    obtain ⟨rfl, rfl, rfl⟩ := hp
                    refine z_st (st' := [.long (weightM cn u w i), .long nv]) rfl ?_
                    refine z_goto X (tgt := 151) dX4_put_147 (by decide) ?_
                    refine z_ladd X dX4_put_151 ?_
                    refine z_lstore X (lv' := [(5, .long (nv + (weightM cn u w i))), (4, .int (nI 0)), (3, .int (nI (mn + 0))), (0, .ref (ad 0)), (1, .int (nI j)), (2, .int (nI st)), (7, .int (nI i))]) dX4_put_152 (by decide) rfl ?_
                    refine z_iincN X 6 (k := 1) (lv' := [(7, .int (nI (i + 1))), (5, .long (nv + (weightM cn u w i))), (4, .int (nI 0)), (3, .int (nI (mn + 0))), (0, .ref (ad 0)), (1, .int (nI j)), (2, .int (nI st))]) dX4_put_154 rfl (by decide) (by decide) rfl ?_
                    refine z_goto X (tgt := 48) dX4_put_157 (by decide) ?_
                    refine z_lv (lv' := [(0, .ref (ad 0)), (1, .int (nI j)), (2, .int (nI st)), (3, .int (nI (mn + 0))), (4, .int (nI 0)), (5, .long (nv + (weightM cn u w i))), (7, .int (nI (i + 1)))]) [4, 5, 6, 3, 2, 1, 0] rfl ?_
                    exact ih48 (i + 1) (mn + 0) 0 (nv + (weightM cn u w i)) (by omega) (by rw [hm]; exact congrArg (fun z => cntN (fun b => decide (onM u (nI st) b)) i + z) (if_neg (fun h => (fun h => c77 ((nI_eq (by omega) (by omega)).mp (e9.symm.trans h))) (of_decide_eq_true h).2)).symm) (by exact anyB_f ((b01_0 (P := anyB (fun b => decide (othM cn u w j (nI st) b)) i = true)).mp (by rw [← ho]; exact c89)) (fun h => (fun h => c100 ((nI_eq (by omega) (by omega)).mp (e9.symm.trans h))) h.1.2)) (by have e8 : (u 10 i).toNatClampNeg = s9 := (by rw [e9]; exact nI_clamp (by omega)); exact nearM_t hn ⟨c65, by rw [e8]; exact c138⟩) (by omega)
                · refine z_aload_n X 1 dX4_put_103 rfl rfl ?_
                  refine z_iload X 6 dX4_put_104 rfl ?_
                  refine z_callV X (n := 1) (As := [.int (nI i)]) (rest := []) 0 rfl rfl rfl (m_mainOf l G cy B ad cn u w x hc0 i (by omega)) q_739 q_740 q_18 q_29 q_741 (by decide +kernel) ⟨Nat.le_of_ble_eq_true rfl, Nat.le_of_ble_eq_true rfl⟩ rfl rfl (Nat.le_of_ble_eq_true rfl) dX4_put_106 ⟨Nat.le_of_ble_eq_true rfl, Nat.le_of_ble_eq_true rfl⟩ (fun v ad' f' hp had => ?_)
                  obtain ⟨rfl, rfl, rfl⟩ := hp
                  refine z_st (st' := [.int (nI (mainM cn u w i))]) rfl ?_
                  refine z_aload_n X 1 dX4_put_109 rfl rfl ?_
                  refine z_iload_n X 2 dX4_put_110 rfl rfl ?_
                  refine z_callV X (n := 1) (As := [.int (nI j)]) (rest := [.int (nI (mainM cn u w i))]) 0 rfl rfl rfl (m_mainOf l G cy B ad cn u w x hc0 j (by omega)) q_739 q_740 q_18 q_29 q_741 (by decide +kernel) ⟨Nat.le_of_ble_eq_true rfl, Nat.le_of_ble_eq_true rfl⟩ rfl rfl (Nat.le_of_ble_eq_true rfl) dX4_put_111 ⟨Nat.le_of_ble_eq_true rfl, Nat.le_of_ble_eq_true rfl⟩ (fun v ad' f' hp had => ?_)
                  obtain ⟨rfl, rfl, rfl⟩ := hp
                  refine z_st (st' := [.int (nI (mainM cn u w j)), .int (nI (mainM cn u w i))]) rfl ?_
                  refine z_icmp_eqN X (tgt := 121) (by first | exact Nat.lt_of_le_of_lt (mainL_le _ 3) (by decide) | omega) (by first | exact Nat.lt_of_le_of_lt (mainL_le _ 3) (by decide) | omega) dX4_put_114 (by decide) (fun c114 => ?_) (fun c114 => ?_)
                  · refine z_iconst X (v := nI 0) dX4_put_121 (by decide) ?_
                    refine z_istore X (lv' := [(4, .int (nI 0)), (3, .int (nI (mn + 0))), (0, .ref (ad 0)), (1, .int (nI j)), (2, .int (nI st)), (5, .long nv), (7, .int (nI i))]) dX4_put_122 (by decide) rfl ?_
                    refine z_lload X 5 dX4_put_124 rfl ?_
                    refine z_aload_n X 2 dX4_put_126 rfl rfl ?_
                    refine z_aload_n X 2 dX4_put_127 rfl rfl ?_
                    refine z_get X (v := .ref (ad 10)) 0 10 wa_X4 rfl rfl rfl (by decide) q_569 rfl rfl dX4_put_128 ?_
                    refine z_iload X 6 dX4_put_131 rfl ?_
                    refine z_ialdN X (n := 12) (g := u 10) 10 rfl rfl (by omega) (by decide) dX4_put_133 ?_
                    refine z_top (v' := .int (nI s9)) (by rw [e9]) ?_
                    refine z_iload_n X 4 dX4_put_134 rfl rfl ?_
                    refine z_callV X (n := 2) (As := [.int (nI s9), .int (nI st)]) (rest := [.long nv]) 0 rfl rfl rfl (m_isClose l G cy B ad cn u w x s9 st (by omega) (by omega)) q_742 q_743 q_19 q_29 q_744 (by decide +kernel) ⟨Nat.le_of_ble_eq_true rfl, Nat.le_of_ble_eq_true rfl⟩ rfl rfl (Nat.le_of_ble_eq_true rfl) dX4_put_135 ⟨Nat.le_of_ble_eq_true rfl, Nat.le_of_ble_eq_true rfl⟩ (fun v ad' f' hp had => ?_)
                    obtain ⟨rfl, rfl, rfl⟩ := hp
                    refine z_st (st' := [.int (nI (if closeM (u 19) s9 st then 1 else 0)), .long nv]) rfl ?_
                    refine z_if_eqB X (tgt := 150) dX4_put_138 (by decide) (fun c138 => ?_) (fun c138 => ?_)
                    · refine z_lconst X (v := 0) dX4_put_150 rfl ?_
                      refine z_ladd X dX4_put_151 ?_
                      refine z_lstore X (lv' := [(5, .long (nv + 0)), (4, .int (nI 0)), (3, .int (nI (mn + 0))), (0, .ref (ad 0)), (1, .int (nI j)), (2, .int (nI st)), (7, .int (nI i))]) dX4_put_152 (by decide) rfl ?_
                      refine z_iincN X 6 (k := 1) (lv' := [(7, .int (nI (i + 1))), (5, .long (nv + 0)), (4, .int (nI 0)), (3, .int (nI (mn + 0))), (0, .ref (ad 0)), (1, .int (nI j)), (2, .int (nI st))]) dX4_put_154 rfl (by decide) (by decide) rfl ?_
                      refine z_goto X (tgt := 48) dX4_put_157 (by decide) ?_
                      refine z_lv (lv' := [(0, .ref (ad 0)), (1, .int (nI j)), (2, .int (nI st)), (3, .int (nI (mn + 0))), (4, .int (nI 0)), (5, .long (nv + 0)), (7, .int (nI (i + 1)))]) [4, 5, 6, 3, 2, 1, 0] rfl ?_
                      exact ih48 (i + 1) (mn + 0) 0 (nv + 0) (by omega) (by rw [hm]; exact congrArg (fun z => cntN (fun b => decide (onM u (nI st) b)) i + z) (if_neg (fun h => (fun h => c77 ((nI_eq (by omega) (by omega)).mp (e9.symm.trans h))) (of_decide_eq_true h).2)).symm) (by exact anyB_f ((b01_0 (P := anyB (fun b => decide (othM cn u w j (nI st) b)) i = true)).mp (by rw [← ho]; exact c89)) (fun h => h.2 c114)) (by rw [Int64.add_zero]; have e8 : (u 10 i).toNatClampNeg = s9 := (by rw [e9]; exact nI_clamp (by omega)); exact nearM_f hn (fun h => c138 (by rw [← e8]; exact h.2))) (by omega)
                    · refine z_aload_n X 2 dX4_put_141 rfl rfl ?_
                      refine z_iload X 6 dX4_put_142 rfl ?_
                      refine z_callV X (n := 1) (As := [.int (nI i)]) (rest := [.long nv]) 0 rfl rfl rfl (m_weight l G cy B ad cn u w x hc0 i (by omega)) q_686 q_687 q_17 q_29 q_688 (by decide +kernel) ⟨Nat.le_of_ble_eq_true rfl, Nat.le_of_ble_eq_true rfl⟩ rfl rfl (Nat.le_of_ble_eq_true rfl) dX4_put_144 ⟨Nat.le_of_ble_eq_true rfl, Nat.le_of_ble_eq_true rfl⟩ (fun v ad' f' hp had => ?_)
                      obtain ⟨rfl, rfl, rfl⟩ := hp
                      refine z_st (st' := [.long (weightM cn u w i), .long nv]) rfl ?_
                      refine z_goto X (tgt := 151) dX4_put_147 (by decide) ?_
                      refine z_ladd X dX4_put_151 ?_
                      refine z_lstore X (lv' := [(5, .long (nv + (weightM cn u w i))), (4, .int (nI 0)), (3, .int (nI (mn + 0))), (0, .ref (ad 0)), (1, .int (nI j)), (2, .int (nI st)), (7, .int (nI i))]) dX4_put_152 (by decide) rfl ?_
                      refine z_iincN X 6 (k := 1) (lv' := [(7, .int (nI (i + 1))), (5, .long (nv + (weightM cn u w i))), (4, .int (nI 0)), (3, .int (nI (mn + 0))), (0, .ref (ad 0)), (1, .int (nI j)), (2, .int (nI st))]) dX4_put_154 rfl (by decide) (by decide) rfl ?_
                      refine z_goto X (tgt := 48) dX4_put_157 (by decide) ?_
                      refine z_lv (lv' := [(0, .ref (ad 0)), (1, .int (nI j)), (2, .int (nI st)), (3, .int (nI (mn + 0))), (4, .int (nI 0)), (5, .long (nv + (weightM cn u w i))), (7, .int (nI (i + 1)))]) [4, 5, 6, 3, 2, 1, 0] rfl ?_
                      exact ih48 (i + 1) (mn + 0) 0 (nv + (weightM cn u w i)) (by omega) (by rw [hm]; exact congrArg (fun z => cntN (fun b => decide (onM u (nI st) b)) i + z) (if_neg (fun h => (fun h => c77 ((nI_eq (by omega) (by omega)).mp (e9.symm.trans h))) (of_decide_eq_true h).2)).symm) (by exact anyB_f ((b01_0 (P := anyB (fun b => decide (othM cn u w j (nI st) b)) i = true)).mp (by rw [← ho]; exact c89)) (fun h => h.2 c114)) (by have e8 : (u 10 i).toNatClampNeg = s9 := (by rw [e9]; exact nI_clamp (by omega)); exact nearM_t hn ⟨c65, by rw [e8]; exact c138⟩) (by omega)
                  · refine z_iconst X (v := nI 1) dX4_put_117 (by decide) ?_
                    refine z_goto X (tgt := 122) dX4_put_118 (by decide) ?_
                    refine z_istore X (lv' := [(4, .int (nI 1)), (3, .int (nI (mn + 0))), (0, .ref (ad 0)), (1, .int (nI j)), (2, .int (nI st)), (5, .long nv), (7, .int (nI i))]) dX4_put_122 (by decide) rfl ?_
                    refine z_lload X 5 dX4_put_124 rfl ?_
                    refine z_aload_n X 2 dX4_put_126 rfl rfl ?_
                    refine z_aload_n X 2 dX4_put_127 rfl rfl ?_
                    refine z_get X (v := .ref (ad 10)) 0 10 wa_X4 rfl rfl rfl (by decide) q_569 rfl rfl dX4_put_128 ?_
                    refine z_iload X 6 dX4_put_131 rfl ?_
                    refine z_ialdN X (n := 12) (g := u 10) 10 rfl rfl (by omega) (by decide) dX4_put_133 ?_
                    refine z_top (v' := .int (nI s9)) (by rw [e9]) ?_
                    refine z_iload_n X 4 dX4_put_134 rfl rfl ?_
                    refine z_callV X (n := 2) (As := [.int (nI s9), .int (nI st)]) (rest := [.long nv]) 0 rfl rfl rfl (m_isClose l G cy B ad cn u w x s9 st (by omega) (by omega)) q_742 q_743 q_19 q_29 q_744 (by decide +kernel) ⟨Nat.le_of_ble_eq_true rfl, Nat.le_of_ble_eq_true rfl⟩ rfl rfl (Nat.le_of_ble_eq_true rfl) dX4_put_135 ⟨Nat.le_of_ble_eq_true rfl, Nat.le_of_ble_eq_true rfl⟩ (fun v ad' f' hp had => ?_)
                    obtain ⟨rfl, rfl, rfl⟩ := hp
                    refine z_st (st' := [.int (nI (if closeM (u 19) s9 st then 1 else 0)), .long nv]) rfl ?_
                    refine z_if_eqB X (tgt := 150) dX4_put_138 (by decide) (fun c138 => ?_) (fun c138 => ?_)
                    · refine z_lconst X (v := 0) dX4_put_150 rfl ?_
                      refine z_ladd X dX4_put_151 ?_
                      refine z_lstore X (lv' := [(5, .long (nv + 0)), (4, .int (nI 1)), (3, .int (nI (mn + 0))), (0, .ref (ad 0)), (1, .int (nI j)), (2, .int (nI st)), (7, .int (nI i))]) dX4_put_152 (by decide) rfl ?_
                      refine z_iincN X 6 (k := 1) (lv' := [(7, .int (nI (i + 1))), (5, .long (nv + 0)), (4, .int (nI 1)), (3, .int (nI (mn + 0))), (0, .ref (ad 0)), (1, .int (nI j)), (2, .int (nI st))]) dX4_put_154 rfl (by decide) (by decide) rfl ?_
                      refine z_goto X (tgt := 48) dX4_put_157 (by decide) ?_
                      refine z_lv (lv' := [(0, .ref (ad 0)), (1, .int (nI j)), (2, .int (nI st)), (3, .int (nI (mn + 0))), (4, .int (nI 1)), (5, .long (nv + 0)), (7, .int (nI (i + 1)))]) [4, 5, 6, 3, 2, 1, 0] rfl ?_
                      exact ih48 (i + 1) (mn + 0) 1 (nv + 0) (by omega) (by rw [hm]; exact congrArg (fun z => cntN (fun b => decide (onM u (nI st) b)) i + z) (if_neg (fun h => (fun h => c77 ((nI_eq (by omega) (by omega)).mp (e9.symm.trans h))) (of_decide_eq_true h).2)).symm) (by exact anyB_t ⟨⟨c65, e9.trans (congrArg nI c100)⟩, c114⟩) (by rw [Int64.add_zero]; have e8 : (u 10 i).toNatClampNeg = s9 := (by rw [e9]; exact nI_clamp (by omega)); exact nearM_f hn (fun h => c138 (by rw [← e8]; exact h.2))) (by omega)
                    · refine z_aload_n X 2 dX4_put_141 rfl rfl ?_
                      refine z_iload X 6 dX4_put_142 rfl ?_
                      refine z_callV X (n := 1) (As := [.int (nI i)]) (rest := [.long nv]) 0 rfl rfl rfl (m_weight l G cy B ad cn u w x hc0 i (by omega)) q_686 q_687 q_17 q_29 q_688 (by decide +kernel) ⟨Nat.le_of_ble_eq_true rfl, Nat.le_of_ble_eq_true rfl⟩ rfl rfl (Nat.le_of_ble_eq_true rfl) dX4_put_144 ⟨Nat.le_of_ble_eq_true rfl, Nat.le_of_ble_eq_true rfl⟩ (fun v ad' f' hp had => ?_)
                      obtain ⟨rfl, rfl, rfl⟩ := hp
                      refine z_st (st' := [.long (weightM cn u w i), .long nv]) rfl ?_
                      refine z_goto X (tgt := 151) dX4_put_147 (by decide) ?_
                      refine z_ladd X dX4_put_151 ?_
                      refine z_lstore X (lv' := [(5, .long (nv + (weightM cn u w i))), (4, .int (nI 1)), (3, .int (nI (mn + 0))), (0, .ref (ad 0)), (1, .int (nI j)), (2, .int (nI st)), (7, .int (nI i))]) dX4_put_152 (by decide) rfl ?_
                      refine z_iincN X 6 (k := 1) (lv' := [(7, .int (nI (i + 1))), (5, .long (nv + (weightM cn u w i))), (4, .int (nI 1)), (3, .int (nI (mn + 0))), (0, .ref (ad 0)), (1, .int (nI j)), (2, .int (nI st))]) dX4_put_154 rfl (by decide) (by decide) rfl ?_
                      refine z_goto X (tgt := 48) dX4_put_157 (by decide) ?_
                      refine z_lv (lv' := [(0, .ref (ad 0)), (1, .int (nI j)), (2, .int (nI st)), (3, .int (nI (mn + 0))), (4, .int (nI 1)), (5, .long (nv + (weightM cn u w i))), (7, .int (nI (i + 1)))]) [4, 5, 6, 3, 2, 1, 0] rfl ?_
                      exact ih48 (i + 1) (mn + 0) 1 (nv + (weightM cn u w i)) (by omega) (by rw [hm]; exact congrArg (fun z => cntN (fun b => decide (onM u (nI st) b)) i + z) (if_neg (fun h => (fun h => c77 ((nI_eq (by omega) (by omega)).mp (e9.symm.trans h))) (of_decide_eq_true h).2)).symm) (by exact anyB_t ⟨⟨c65, e9.trans (congrArg nI c100)⟩, c114⟩) (by have e8 : (u 10 i).toNatClampNeg = s9 := (by rw [e9]; exact nI_clamp (by omega)); exact nearM_t hn ⟨c65, by rw [e8]; exact c138⟩) (by omega)
            · refine z_iconst X (v := nI 1) dX4_put_80 (by decide) ?_
              refine z_goto X (tgt := 85) dX4_put_81 (by decide) ?_
              refine z_iaddN X dX4_put_85 ?_
              refine z_istore_n X (lv' := [(3, .int (nI (mn + 1))), (0, .ref (ad 0)), (1, .int (nI j)), (2, .int (nI st)), (4, .int (nI ot)), (5, .long nv), (7, .int (nI i))]) dX4_put_86 rfl (by decide) rfl ?_
              refine z_iload X 4 dX4_put_87 rfl ?_
              refine z_if_neN X (tgt := 117) (by rw [ho]; exact b01_lt) dX4_put_89 (by decide) (fun c89 => ?_) (fun c89 => ?_)
              · refine z_iconst X (v := nI 1) dX4_put_117 (by decide) ?_
                refine z_goto X (tgt := 122) dX4_put_118 (by decide) ?_
                refine z_istore X (lv' := [(4, .int (nI 1)), (3, .int (nI (mn + 1))), (0, .ref (ad 0)), (1, .int (nI j)), (2, .int (nI st)), (5, .long nv), (7, .int (nI i))]) dX4_put_122 (by decide) rfl ?_
                refine z_lload X 5 dX4_put_124 rfl ?_
                refine z_aload_n X 2 dX4_put_126 rfl rfl ?_
                refine z_aload_n X 2 dX4_put_127 rfl rfl ?_
                refine z_get X (v := .ref (ad 10)) 0 10 wa_X4 rfl rfl rfl (by decide) q_569 rfl rfl dX4_put_128 ?_
                refine z_iload X 6 dX4_put_131 rfl ?_
                refine z_ialdN X (n := 12) (g := u 10) 10 rfl rfl (by omega) (by decide) dX4_put_133 ?_
                refine z_top (v' := .int (nI s9)) (by rw [e9]) ?_
                refine z_iload_n X 4 dX4_put_134 rfl rfl ?_
                refine z_callV X (n := 2) (As := [.int (nI s9), .int (nI st)]) (rest := [.long nv]) 0 rfl rfl rfl (m_isClose l G cy B ad cn u w x s9 st (by omega) (by omega)) q_742 q_743 q_19 q_29 q_744 (by decide +kernel) ⟨Nat.le_of_ble_eq_true rfl, Nat.le_of_ble_eq_true rfl⟩ rfl rfl (Nat.le_of_ble_eq_true rfl) dX4_put_135 ⟨Nat.le_of_ble_eq_true rfl, Nat.le_of_ble_eq_true rfl⟩ (fun v ad' f' hp had => ?_)
                obtain ⟨rfl, rfl, rfl⟩ := hp
                refine z_st (st' := [.int (nI (if closeM (u 19) s9 st then 1 else 0)), .long nv]) rfl ?_
                refine z_if_eqB X (tgt := 150) dX4_put_138 (by decide) (fun c138 => ?_) (fun c138 => ?_)
                · refine z_lconst X (v := 0) dX4_put_150 rfl ?_
                  refine z_ladd X dX4_put_151 ?_
                  refine z_lstore X (lv' := [(5, .long (nv + 0)), (4, .int (nI 1)), (3, .int (nI (mn + 1))), (0, .ref (ad 0)), (1, .int (nI j)), (2, .int (nI st)), (7, .int (nI i))]) dX4_put_152 (by decide) rfl ?_
                  refine z_iincN X 6 (k := 1) (lv' := [(7, .int (nI (i + 1))), (5, .long (nv + 0)), (4, .int (nI 1)), (3, .int (nI (mn + 1))), (0, .ref (ad 0)), (1, .int (nI j)), (2, .int (nI st))]) dX4_put_154 rfl (by decide) (by decide) rfl ?_
                  refine z_goto X (tgt := 48) dX4_put_157 (by decide) ?_
                  refine z_lv (lv' := [(0, .ref (ad 0)), (1, .int (nI j)), (2, .int (nI st)), (3, .int (nI (mn + 1))), (4, .int (nI 1)), (5, .long (nv + 0)), (7, .int (nI (i + 1)))]) [4, 5, 6, 3, 2, 1, 0] rfl ?_
                  exact ih48 (i + 1) (mn + 1) 1 (nv + 0) (by omega) (by rw [hm]; exact congrArg (fun z => cntN (fun b => decide (onM u (nI st) b)) i + z) (if_pos (decide_eq_true (⟨c65, (e9.trans (congrArg nI c77))⟩ : onM u (nI st) i))).symm) (by exact anyB_k ((b01_n (P := anyB (fun b => decide (othM cn u w j (nI st) b)) i = true)).mp (by rw [← ho]; exact c89))) (by rw [Int64.add_zero]; have e8 : (u 10 i).toNatClampNeg = s9 := (by rw [e9]; exact nI_clamp (by omega)); exact nearM_f hn (fun h => c138 (by rw [← e8]; exact h.2))) (by omega)
                · refine z_aload_n X 2 dX4_put_141 rfl rfl ?_
                  refine z_iload X 6 dX4_put_142 rfl ?_
                  refine z_callV X (n := 1) (As := [.int (nI i)]) (rest := [.long nv]) 0 rfl rfl rfl (m_weight l G cy B ad cn u w x hc0 i (by omega)) q_686 q_687 q_17 q_29 q_688 (by decide +kernel) ⟨Nat.le_of_ble_eq_true rfl, Nat.le_of_ble_eq_true rfl⟩ rfl rfl (Nat.le_of_ble_eq_true rfl) dX4_put_144 ⟨Nat.le_of_ble_eq_true rfl, Nat.le_of_ble_eq_true rfl⟩ (fun v ad' f' hp had => ?_)
                  obtain ⟨rfl, rfl, rfl⟩ := hp
                  refine z_st (st' := [.long (weightM cn u w i), .long nv]) rfl ?_
                  refine z_goto X (tgt := 151) dX4_put_147 (by decide) ?_
                  refine z_ladd X dX4_put_151 ?_
                  refine z_lstore X (lv' := [(5, .long (nv + (weightM cn u w i))), (4, .int (nI 1)), (3, .int (nI (mn + 1))), (0, .ref (ad 0)), (1, .int (nI j)), (2, .int (nI st)), (7, .int (nI i))]) dX4_put_152 (by decide) rfl ?_
                  refine z_iincN X 6 (k := 1) (lv' := [(7, .int (nI (i + 1))), (5, .long (nv + (weightM cn u w i))), (4, .int (nI 1)), (3, .int (nI (mn + 1))), (0, .ref (ad 0)), (1, .int (nI j)), (2, .int (nI st))]) dX4_put_154 rfl (by decide) (by decide) rfl ?_
                  refine z_goto X (tgt := 48) dX4_put_157 (by decide) ?_
                  refine z_lv (lv' := [(0, .ref (ad 0)), (1, .int (nI j)), (2, .int (nI st)), (3, .int (nI (mn + 1))), (4, .int (nI 1)), (5, .long (nv + (weightM cn u w i))), (7, .int (nI (i + 1)))]) [4, 5, 6, 3, 2, 1, 0] rfl ?_
                  exact ih48 (i + 1) (mn + 1) 1 (nv + (weightM cn u w i)) (by omega) (by rw [hm]; exact congrArg (fun z => cntN (fun b => decide (onM u (nI st) b)) i + z) (if_pos (decide_eq_true (⟨c65, (e9.trans (congrArg nI c77))⟩ : onM u (nI st) i))).symm) (by exact anyB_k ((b01_n (P := anyB (fun b => decide (othM cn u w j (nI st) b)) i = true)).mp (by rw [← ho]; exact c89))) (by have e8 : (u 10 i).toNatClampNeg = s9 := (by rw [e9]; exact nI_clamp (by omega)); exact nearM_t hn ⟨c65, by rw [e8]; exact c138⟩) (by omega)
              · refine z_aload_n X 1 dX4_put_92 rfl rfl ?_
                refine z_get X (v := .ref (ad 10)) 0 10 wa_X4 rfl rfl rfl (by decide) q_569 rfl rfl dX4_put_93 ?_
                refine z_iload X 6 dX4_put_96 rfl ?_
                refine z_ialdN X (n := 12) (g := u 10) 10 rfl rfl (by omega) (by decide) dX4_put_98 ?_
                refine z_top (v' := .int (nI s9)) (by rw [e9]) ?_
                refine z_iload_n X 3 dX4_put_99 rfl rfl ?_
                refine z_icmp_neN X (tgt := 121) (by omega) (by omega) dX4_put_100 (by decide) (fun c100 => ?_) (fun c100 => ?_)
                · refine z_iconst X (v := nI 0) dX4_put_121 (by decide) ?_
                  refine z_istore X (lv' := [(4, .int (nI 0)), (3, .int (nI (mn + 1))), (0, .ref (ad 0)), (1, .int (nI j)), (2, .int (nI st)), (5, .long nv), (7, .int (nI i))]) dX4_put_122 (by decide) rfl ?_
                  refine z_lload X 5 dX4_put_124 rfl ?_
                  refine z_aload_n X 2 dX4_put_126 rfl rfl ?_
                  refine z_aload_n X 2 dX4_put_127 rfl rfl ?_
                  refine z_get X (v := .ref (ad 10)) 0 10 wa_X4 rfl rfl rfl (by decide) q_569 rfl rfl dX4_put_128 ?_
                  refine z_iload X 6 dX4_put_131 rfl ?_
                  refine z_ialdN X (n := 12) (g := u 10) 10 rfl rfl (by omega) (by decide) dX4_put_133 ?_
                  refine z_top (v' := .int (nI s9)) (by rw [e9]) ?_
                  refine z_iload_n X 4 dX4_put_134 rfl rfl ?_
                  refine z_callV X (n := 2) (As := [.int (nI s9), .int (nI st)]) (rest := [.long nv]) 0 rfl rfl rfl (m_isClose l G cy B ad cn u w x s9 st (by omega) (by omega)) q_742 q_743 q_19 q_29 q_744 (by decide +kernel) ⟨Nat.le_of_ble_eq_true rfl, Nat.le_of_ble_eq_true rfl⟩ rfl rfl (Nat.le_of_ble_eq_true rfl) dX4_put_135 ⟨Nat.le_of_ble_eq_true rfl, Nat.le_of_ble_eq_true rfl⟩ (fun v ad' f' hp had => ?_)
                  obtain ⟨rfl, rfl, rfl⟩ := hp
                  refine z_st (st' := [.int (nI (if closeM (u 19) s9 st then 1 else 0)), .long nv]) rfl ?_
                  refine z_if_eqB X (tgt := 150) dX4_put_138 (by decide) (fun c138 => ?_) (fun c138 => ?_)
                  · refine z_lconst X (v := 0) dX4_put_150 rfl ?_
                    refine z_ladd X dX4_put_151 ?_
                    refine z_lstore X (lv' := [(5, .long (nv + 0)), (4, .int (nI 0)), (3, .int (nI (mn + 1))), (0, .ref (ad 0)), (1, .int (nI j)), (2, .int (nI st)), (7, .int (nI i))]) dX4_put_152 (by decide) rfl ?_
                    refine z_iincN X 6 (k := 1) (lv' := [(7, .int (nI (i + 1))), (5, .long (nv + 0)), (4, .int (nI 0)), (3, .int (nI (mn + 1))), (0, .ref (ad 0)), (1, .int (nI j)), (2, .int (nI st))]) dX4_put_154 rfl (by decide) (by decide) rfl ?_
                    refine z_goto X (tgt := 48) dX4_put_157 (by decide) ?_
                    refine z_lv (lv' := [(0, .ref (ad 0)), (1, .int (nI j)), (2, .int (nI st)), (3, .int (nI (mn + 1))), (4, .int (nI 0)), (5, .long (nv + 0)), (7, .int (nI (i + 1)))]) [4, 5, 6, 3, 2, 1, 0] rfl ?_
                    exact ih48 (i + 1) (mn + 1) 0 (nv + 0) (by omega) (by rw [hm]; exact congrArg (fun z => cntN (fun b => decide (onM u (nI st) b)) i + z) (if_pos (decide_eq_true (⟨c65, (e9.trans (congrArg nI c77))⟩ : onM u (nI st) i))).symm) (by exact anyB_f ((b01_0 (P := anyB (fun b => decide (othM cn u w j (nI st) b)) i = true)).mp (by rw [← ho]; exact c89)) (fun h => (fun h => c100 ((nI_eq (by omega) (by omega)).mp (e9.symm.trans h))) h.1.2)) (by rw [Int64.add_zero]; have e8 : (u 10 i).toNatClampNeg = s9 := (by rw [e9]; exact nI_clamp (by omega)); exact nearM_f hn (fun h => c138 (by rw [← e8]; exact h.2))) (by omega)
                  · refine z_aload_n X 2 dX4_put_141 rfl rfl ?_
                    refine z_iload X 6 dX4_put_142 rfl ?_
                    refine z_callV X (n := 1) (As := [.int (nI i)]) (rest := [.long nv]) 0 rfl rfl rfl (m_weight l G cy B ad cn u w x hc0 i (by omega)) q_686 q_687 q_17 q_29 q_688 (by decide +kernel) ⟨Nat.le_of_ble_eq_true rfl, Nat.le_of_ble_eq_true rfl⟩ rfl rfl (Nat.le_of_ble_eq_true rfl) dX4_put_144 ⟨Nat.le_of_ble_eq_true rfl, Nat.le_of_ble_eq_true rfl⟩ (fun v ad' f' hp had => ?_)
                    obtain ⟨rfl, rfl, rfl⟩ := hp
                    refine z_st (st' := [.long (weightM cn u w i), .long nv]) rfl ?_
                    refine z_goto X (tgt := 151) dX4_put_147 (by decide) ?_
                    refine z_ladd X dX4_put_151 ?_
                    refine z_lstore X (lv' := [(5, .long (nv + (weightM cn u w i))), (4, .int (nI 0)), (3, .int (nI (mn + 1))), (0, .ref (ad 0)), (1, .int (nI j)), (2, .int (nI st)), (7, .int (nI i))]) dX4_put_152 (by decide) rfl ?_
                    refine z_iincN X 6 (k := 1) (lv' := [(7, .int (nI (i + 1))), (5, .long (nv + (weightM cn u w i))), (4, .int (nI 0)), (3, .int (nI (mn + 1))), (0, .ref (ad 0)), (1, .int (nI j)), (2, .int (nI st))]) dX4_put_154 rfl (by decide) (by decide) rfl ?_
                    refine z_goto X (tgt := 48) dX4_put_157 (by decide) ?_
                    refine z_lv (lv' := [(0, .ref (ad 0)), (1, .int (nI j)), (2, .int (nI st)), (3, .int (nI (mn + 1))), (4, .int (nI 0)), (5, .long (nv + (weightM cn u w i))), (7, .int (nI (i + 1)))]) [4, 5, 6, 3, 2, 1, 0] rfl ?_
                    exact ih48 (i + 1) (mn + 1) 0 (nv + (weightM cn u w i)) (by omega) (by rw [hm]; exact congrArg (fun z => cntN (fun b => decide (onM u (nI st) b)) i + z) (if_pos (decide_eq_true (⟨c65, (e9.trans (congrArg nI c77))⟩ : onM u (nI st) i))).symm) (by exact anyB_f ((b01_0 (P := anyB (fun b => decide (othM cn u w j (nI st) b)) i = true)).mp (by rw [← ho]; exact c89)) (fun h => (fun h => c100 ((nI_eq (by omega) (by omega)).mp (e9.symm.trans h))) h.1.2)) (by have e8 : (u 10 i).toNatClampNeg = s9 := (by rw [e9]; exact nI_clamp (by omega)); exact nearM_t hn ⟨c65, by rw [e8]; exact c138⟩) (by omega)
                · refine z_aload_n X 1 dX4_put_103 rfl rfl ?_
                  refine z_iload X 6 dX4_put_104 rfl ?_
                  refine z_callV X (n := 1) (As := [.int (nI i)]) (rest := []) 0 rfl rfl rfl (m_mainOf l G cy B ad cn u w x hc0 i (by omega)) q_739 q_740 q_18 q_29 q_741 (by decide +kernel) ⟨Nat.le_of_ble_eq_true rfl, Nat.le_of_ble_eq_true rfl⟩ rfl rfl (Nat.le_of_ble_eq_true rfl) dX4_put_106 ⟨Nat.le_of_ble_eq_true rfl, Nat.le_of_ble_eq_true rfl⟩ (fun v ad' f' hp had => ?_)
                  obtain ⟨rfl, rfl, rfl⟩ := hp
                  refine z_st (st' := [.int (nI (mainM cn u w i))]) rfl ?_
                  refine z_aload_n X 1 dX4_put_109 rfl rfl ?_
                  refine z_iload_n X 2 dX4_put_110 rfl rfl ?_
                  refine z_callV X (n := 1) (As := [.int (nI j)]) (rest := [.int (nI (mainM cn u w i))]) 0 rfl rfl rfl (m_mainOf l G cy B ad cn u w x hc0 j (by omega)) q_739 q_740 q_18 q_29 q_741 (by decide +kernel) ⟨Nat.le_of_ble_eq_true rfl, Nat.le_of_ble_eq_true rfl⟩ rfl rfl (Nat.le_of_ble_eq_true rfl) dX4_put_111 ⟨Nat.le_of_ble_eq_true rfl, Nat.le_of_ble_eq_true rfl⟩ (fun v ad' f' hp had => ?_)
                  obtain ⟨rfl, rfl, rfl⟩ := hp
                  refine z_st (st' := [.int (nI (mainM cn u w j)), .int (nI (mainM cn u w i))]) rfl ?_
                  refine z_icmp_eqN X (tgt := 121) (by first | exact Nat.lt_of_le_of_lt (mainL_le _ 3) (by decide) | omega) (by first | exact Nat.lt_of_le_of_lt (mainL_le _ 3) (by decide) | omega) dX4_put_114 (by decide) (fun c114 => ?_) (fun c114 => ?_)
                  · refine z_iconst X (v := nI 0) dX4_put_121 (by decide) ?_
                    refine z_istore X (lv' := [(4, .int (nI 0)), (3, .int (nI (mn + 1))), (0, .ref (ad 0)), (1, .int (nI j)), (2, .int (nI st)), (5, .long nv), (7, .int (nI i))]) dX4_put_122 (by decide) rfl ?_
                    refine z_lload X 5 dX4_put_124 rfl ?_
                    refine z_aload_n X 2 dX4_put_126 rfl rfl ?_
                    refine z_aload_n X 2 dX4_put_127 rfl rfl ?_
                    refine z_get X (v := .ref (ad 10)) 0 10 wa_X4 rfl rfl rfl (by decide) q_569 rfl rfl dX4_put_128 ?_
                    refine z_iload X 6 dX4_put_131 rfl ?_
                    refine z_ialdN X (n := 12) (g := u 10) 10 rfl rfl (by omega) (by decide) dX4_put_133 ?_
                    refine z_top (v' := .int (nI s9)) (by rw [e9]) ?_
                    refine z_iload_n X 4 dX4_put_134 rfl rfl ?_
                    refine z_callV X (n := 2) (As := [.int (nI s9), .int (nI st)]) (rest := [.long nv]) 0 rfl rfl rfl (m_isClose l G cy B ad cn u w x s9 st (by omega) (by omega)) q_742 q_743 q_19 q_29 q_744 (by decide +kernel) ⟨Nat.le_of_ble_eq_true rfl, Nat.le_of_ble_eq_true rfl⟩ rfl rfl (Nat.le_of_ble_eq_true rfl) dX4_put_135 ⟨Nat.le_of_ble_eq_true rfl, Nat.le_of_ble_eq_true rfl⟩ (fun v ad' f' hp had => ?_)
                    obtain ⟨rfl, rfl, rfl⟩ := hp
                    refine z_st (st' := [.int (nI (if closeM (u 19) s9 st then 1 else 0)), .long nv]) rfl ?_
                    refine z_if_eqB X (tgt := 150) dX4_put_138 (by decide) (fun c138 => ?_) (fun c138 => ?_)
                    · refine z_lconst X (v := 0) dX4_put_150 rfl ?_
                      refine z_ladd X dX4_put_151 ?_
                      refine z_lstore X (lv' := [(5, .long (nv + 0)), (4, .int (nI 0)), (3, .int (nI (mn + 1))), (0, .ref (ad 0)), (1, .int (nI j)), (2, .int (nI st)), (7, .int (nI i))]) dX4_put_152 (by decide) rfl ?_
                      refine z_iincN X 6 (k := 1) (lv' := [(7, .int (nI (i + 1))), (5, .long (nv + 0)), (4, .int (nI 0)), (3, .int (nI (mn + 1))), (0, .ref (ad 0)), (1, .int (nI j)), (2, .int (nI st))]) dX4_put_154 rfl (by decide) (by decide) rfl ?_
                      refine z_goto X (tgt := 48) dX4_put_157 (by decide) ?_
                      refine z_lv (lv' := [(0, .ref (ad 0)), (1, .int (nI j)), (2, .int (nI st)), (3, .int (nI (mn + 1))), (4, .int (nI 0)), (5, .long (nv + 0)), (7, .int (nI (i + 1)))]) [4, 5, 6, 3, 2, 1, 0] rfl ?_
                      exact ih48 (i + 1) (mn + 1) 0 (nv + 0) (by omega) (by rw [hm]; exact congrArg (fun z => cntN (fun b => decide (onM u (nI st) b)) i + z) (if_pos (decide_eq_true (⟨c65, (e9.trans (congrArg nI c77))⟩ : onM u (nI st) i))).symm) (by exact anyB_f ((b01_0 (P := anyB (fun b => decide (othM cn u w j (nI st) b)) i = true)).mp (by rw [← ho]; exact c89)) (fun h => h.2 c114)) (by rw [Int64.add_zero]; have e8 : (u 10 i).toNatClampNeg = s9 := (by rw [e9]; exact nI_clamp (by omega)); exact nearM_f hn (fun h => c138 (by rw [← e8]; exact h.2))) (by omega)
                    · refine z_aload_n X 2 dX4_put_141 rfl rfl ?_
                      refine z_iload X 6 dX4_put_142 rfl ?_
                      refine z_callV X (n := 1) (As := [.int (nI i)]) (rest := [.long nv]) 0 rfl rfl rfl (m_weight l G cy B ad cn u w x hc0 i (by omega)) q_686 q_687 q_17 q_29 q_688 (by decide +kernel) ⟨Nat.le_of_ble_eq_true rfl, Nat.le_of_ble_eq_true rfl⟩ rfl rfl (Nat.le_of_ble_eq_true rfl) dX4_put_144 ⟨Nat.le_of_ble_eq_true rfl, Nat.le_of_ble_eq_true rfl⟩ (fun v ad' f' hp had => ?_)
                      obtain ⟨rfl, rfl, rfl⟩ := hp
                      refine z_st (st' := [.long (weightM cn u w i), .long nv]) rfl ?_
                      refine z_goto X (tgt := 151) dX4_put_147 (by decide) ?_
                      refine z_ladd X dX4_put_151 ?_
                      refine z_lstore X (lv' := [(5, .long (nv + (weightM cn u w i))), (4, .int (nI 0)), (3, .int (nI (mn + 1))), (0, .ref (ad 0)), (1, .int (nI j)), (2, .int (nI st)), (7, .int (nI i))]) dX4_put_152 (by decide) rfl ?_
                      refine z_iincN X 6 (k := 1) (lv' := [(7, .int (nI (i + 1))), (5, .long (nv + (weightM cn u w i))), (4, .int (nI 0)), (3, .int (nI (mn + 1))), (0, .ref (ad 0)), (1, .int (nI j)), (2, .int (nI st))]) dX4_put_154 rfl (by decide) (by decide) rfl ?_
                      refine z_goto X (tgt := 48) dX4_put_157 (by decide) ?_
                      refine z_lv (lv' := [(0, .ref (ad 0)), (1, .int (nI j)), (2, .int (nI st)), (3, .int (nI (mn + 1))), (4, .int (nI 0)), (5, .long (nv + (weightM cn u w i))), (7, .int (nI (i + 1)))]) [4, 5, 6, 3, 2, 1, 0] rfl ?_
                      exact ih48 (i + 1) (mn + 1) 0 (nv + (weightM cn u w i)) (by omega) (by rw [hm]; exact congrArg (fun z => cntN (fun b => decide (onM u (nI st) b)) i + z) (if_pos (decide_eq_true (⟨c65, (e9.trans (congrArg nI c77))⟩ : onM u (nI st) i))).symm) (by exact anyB_f ((b01_0 (P := anyB (fun b => decide (othM cn u w j (nI st) b)) i = true)).mp (by rw [← ho]; exact c89)) (fun h => h.2 c114)) (by have e8 : (u 10 i).toNatClampNeg = s9 := (by rw [e9]; exact nI_clamp (by omega)); exact nearM_t hn ⟨c65, by rw [e8]; exact c138⟩) (by omega)
                  · refine z_iconst X (v := nI 1) dX4_put_117 (by decide) ?_
                    refine z_goto X (tgt := 122) dX4_put_118 (by decide) ?_
                    refine z_istore X (lv' := [(4, .int (nI 1)), (3, .int (nI (mn + 1))), (0, .ref (ad 0)), (1, .int (nI j)), (2, .int (nI st)), (5, .long nv), (7, .int (nI i))]) dX4_put_122 (by decide) rfl ?_
                    refine z_lload X 5 dX4_put_124 rfl ?_
                    refine z_aload_n X 2 dX4_put_126 rfl rfl ?_
                    refine z_aload_n X 2 dX4_put_127 rfl rfl ?_
                    refine z_get X (v := .ref (ad 10)) 0 10 wa_X4 rfl rfl rfl (by decide) q_569 rfl rfl dX4_put_128 ?_
                    refine z_iload X 6 dX4_put_131 rfl ?_
                    refine z_ialdN X (n := 12) (g := u 10) 10 rfl rfl (by omega) (by decide) dX4_put_133 ?_
                    refine z_top (v' := .int (nI s9)) (by rw [e9]) ?_
                    refine z_iload_n X 4 dX4_put_134 rfl rfl ?_
                    refine z_callV X (n := 2) (As := [.int (nI s9), .int (nI st)]) (rest := [.long nv]) 0 rfl rfl rfl (m_isClose l G cy B ad cn u w x s9 st (by omega) (by omega)) q_742 q_743 q_19 q_29 q_744 (by decide +kernel) ⟨Nat.le_of_ble_eq_true rfl, Nat.le_of_ble_eq_true rfl⟩ rfl rfl (Nat.le_of_ble_eq_true rfl) dX4_put_135 ⟨Nat.le_of_ble_eq_true rfl, Nat.le_of_ble_eq_true rfl⟩ (fun v ad' f' hp had => ?_)
                    obtain ⟨rfl, rfl, rfl⟩ := hp
                    refine z_st (st' := [.int (nI (if closeM (u 19) s9 st then 1 else 0)), .long nv]) rfl ?_
                    refine z_if_eqB X (tgt := 150) dX4_put_138 (by decide) (fun c138 => ?_) (fun c138 => ?_)
                    · refine z_lconst X (v := 0) dX4_put_150 rfl ?_
                      refine z_ladd X dX4_put_151 ?_
                      refine z_lstore X (lv' := [(5, .long (nv + 0)), (4, .int (nI 1)), (3, .int (nI (mn + 1))), (0, .ref (ad 0)), (1, .int (nI j)), (2, .int (nI st)), (7, .int (nI i))]) dX4_put_152 (by decide) rfl ?_
                      refine z_iincN X 6 (k := 1) (lv' := [(7, .int (nI (i + 1))), (5, .long (nv + 0)), (4, .int (nI 1)), (3, .int (nI (mn + 1))), (0, .ref (ad 0)), (1, .int (nI j)), (2, .int (nI st))]) dX4_put_154 rfl (by decide) (by decide) rfl ?_
                      refine z_goto X (tgt := 48) dX4_put_157 (by decide) ?_
                      refine z_lv (lv' := [(0, .ref (ad 0)), (1, .int (nI j)), (2, .int (nI st)), (3, .int (nI (mn + 1))), (4, .int (nI 1)), (5, .long (nv + 0)), (7, .int (nI (i + 1)))]) [4, 5, 6, 3, 2, 1, 0] rfl ?_
                      exact ih48 (i + 1) (mn + 1) 1 (nv + 0) (by omega) (by rw [hm]; exact congrArg (fun z => cntN (fun b => decide (onM u (nI st) b)) i + z) (if_pos (decide_eq_true (⟨c65, (e9.trans (congrArg nI c77))⟩ : onM u (nI st) i))).symm) (by exact anyB_t ⟨⟨c65, e9.trans (congrArg nI c100)⟩, c114⟩) (by rw [Int64.add_zero]; have e8 : (u 10 i).toNatClampNeg = s9 := (by rw [e9]; exact nI_clamp (by omega)); exact nearM_f hn (fun h => c138 (by rw [← e8]; exact h.2))) (by omega)
                    · refine z_aload_n X 2 dX4_put_141 rfl rfl ?_
                      refine z_iload X 6 dX4_put_142 rfl ?_
                      refine z_callV X (n := 1) (As := [.int (nI i)]) (rest := [.long nv]) 0 rfl rfl rfl (m_weight l G cy B ad cn u w x hc0 i (by omega)) q_686 q_687 q_17 q_29 q_688 (by decide +kernel) ⟨Nat.le_of_ble_eq_true rfl, Nat.le_of_ble_eq_true rfl⟩ rfl rfl (Nat.le_of_ble_eq_true rfl) dX4_put_144 ⟨Nat.le_of_ble_eq_true rfl, Nat.le_of_ble_eq_true rfl⟩ (fun v ad' f' hp had => ?_)
                      obtain ⟨rfl, rfl, rfl⟩ := hp
                      refine z_st (st' := [.long (weightM cn u w i), .long nv]) rfl ?_
                      refine z_goto X (tgt := 151) dX4_put_147 (by decide) ?_
                      refine z_ladd X dX4_put_151 ?_
                      refine z_lstore X (lv' := [(5, .long (nv + (weightM cn u w i))), (4, .int (nI 1)), (3, .int (nI (mn + 1))), (0, .ref (ad 0)), (1, .int (nI j)), (2, .int (nI st)), (7, .int (nI i))]) dX4_put_152 (by decide) rfl ?_
                      refine z_iincN X 6 (k := 1) (lv' := [(7, .int (nI (i + 1))), (5, .long (nv + (weightM cn u w i))), (4, .int (nI 1)), (3, .int (nI (mn + 1))), (0, .ref (ad 0)), (1, .int (nI j)), (2, .int (nI st))]) dX4_put_154 rfl (by decide) (by decide) rfl ?_
                      refine z_goto X (tgt := 48) dX4_put_157 (by decide) ?_
                      refine z_lv (lv' := [(0, .ref (ad 0)), (1, .int (nI j)), (2, .int (nI st)), (3, .int (nI (mn + 1))), (4, .int (nI 1)), (5, .long (nv + (weightM cn u w i))), (7, .int (nI (i + 1)))]) [4, 5, 6, 3, 2, 1, 0] rfl ?_
                      exact ih48 (i + 1) (mn + 1) 1 (nv + (weightM cn u w i)) (by omega) (by rw [hm]; exact congrArg (fun z => cntN (fun b => decide (onM u (nI st) b)) i + z) (if_pos (decide_eq_true (⟨c65, (e9.trans (congrArg nI c77))⟩ : onM u (nI st) i))).symm) (by exact anyB_t ⟨⟨c65, e9.trans (congrArg nI c100)⟩, c114⟩) (by have e8 : (u 10 i).toNatClampNeg = s9 := (by rw [e9]; exact nI_clamp (by omega)); exact nearM_t hn ⟨c65, by rw [e8]; exact c138⟩) (by omega)
    exact lp48 (cn 5 + 1) 0 0 0 (weightM cn u w j) (by omega) (by rfl) (by rfl) (by unfold nearM sumL; exact (Int64.add_zero _).symm) (by omega)
  · refine z_iconst X (v := nI 2) dX4_put_31 (by decide) ?_
    refine z_iret X (Nat.le_of_ble_eq_true rfl) (Nat.le_of_ble_eq_true rfl) ?_ dX4_put_32
    have h9 : putM cn u w x j st = 2 := by unfold putM; rw [if_pos c28]
    exact ⟨by rw [h9], rfl, by rw [h9]; exact if_neg (by decide)⟩
set_option maxHeartbeats 4000000 in
set_option maxRecDepth 100000 in
theorem m_put_o1 (l : Launch) (G : va_G) (cy : Nat → ClassId) (B : Nat) (ad : Nat → Nat) (cn : Nat → Nat) (u : Nat → Nat → Int32) (w : Nat → Nat → Int64) (x : Nat → Nat → UInt64) (b : Int32) (hb : ¬ (¬ b < 0 ∧ ¬ nI (cn 5) ≤ b)) (st : Int32) : Ct l G cy B yX4_put cX4_put 8 (some .int) ({ frames := 1, cells := 0, slots := 0, locals := 21 } : Room) ad (MF cy ad cn u w x) [.ref (ad 0), .int b, .int st] (fun v ad' f' => v = some (.int (nI 1)) ∧ ad = ad' ∧ MF cy ad cn u w x = f') := by
  refine ct_of (by decide +kernel) (Nat.le_of_ble_eq_true rfl) ?_
  intro p e s m args below meth c X hnm
  refine z_lv (lv' := [(0, .ref (ad 0)), (1, .int b), (2, .int st)]) [0, 1, 2] rfl ?_
  refine z_aload_n X 0 dX4_put_0 rfl rfl ?_
  refine z_iload_n X 1 dX4_put_1 rfl rfl ?_
  refine z_callV X (n := 1) (As := [.int b]) (rest := []) 0 rfl rfl rfl (m_isBale l G cy B ad cn u w x b) q_668 q_669 q_14 q_29 q_670 (by decide +kernel) ⟨Nat.le_of_ble_eq_true rfl, Nat.le_of_ble_eq_true rfl⟩ rfl rfl (Nat.le_of_ble_eq_true rfl) dX4_put_2 ⟨Nat.le_of_ble_eq_true rfl, Nat.le_of_ble_eq_true rfl⟩ (fun v ad' f' hp had => ?_)
  obtain ⟨rfl, rfl, rfl⟩ := hp
  refine z_st (st' := [.int (nI (if ¬ b < 0 ∧ ¬ nI (cn 5) ≤ b then 1 else 0))]) rfl ?_
  refine z_if_eqB X (tgt := 20) dX4_put_5 (by decide) (fun c5 => ?_) (fun c5 => by exfalso; exact hb c5)
  refine z_iconst X (v := nI 1) dX4_put_20 (by decide) ?_
  refine z_iret X (Nat.le_of_ble_eq_true rfl) (Nat.le_of_ble_eq_true rfl) ?_ dX4_put_21
  exact ⟨rfl, rfl, rfl⟩
set_option maxHeartbeats 4000000 in
set_option maxRecDepth 100000 in
theorem m_put_o2 (l : Launch) (G : va_G) (cy : Nat → ClassId) (B : Nat) (ad : Nat → Nat) (cn : Nat → Nat) (u : Nat → Nat → Int32) (w : Nat → Nat → Int64) (x : Nat → Nat → UInt64) (hc5 : cn 5 ≤ 12) (j : Nat) (hj : j < cn 5) (st : Int32) (hs : ¬ (¬ st < 0 ∧ ¬ nI (cn 18) ≤ st)) : Ct l G cy B yX4_put cX4_put 8 (some .int) ({ frames := 1, cells := 0, slots := 0, locals := 21 } : Room) ad (MF cy ad cn u w x) [.ref (ad 0), .int (nI j), .int st] (fun v ad' f' => v = some (.int (nI 1)) ∧ ad = ad' ∧ MF cy ad cn u w x = f') := by
  refine ct_of (by decide +kernel) (Nat.le_of_ble_eq_true rfl) ?_
  intro p e s m args below meth c X hnm
  refine z_lv (lv' := [(0, .ref (ad 0)), (1, .int (nI j)), (2, .int st)]) [0, 1, 2] rfl ?_
  refine z_aload_n X 0 dX4_put_0 rfl rfl ?_
  refine z_iload_n X 1 dX4_put_1 rfl rfl ?_
  refine z_callV X (n := 1) (As := [.int (nI j)]) (rest := []) 0 rfl rfl rfl (m_isBale l G cy B ad cn u w x (nI j)) q_668 q_669 q_14 q_29 q_670 (by decide +kernel) ⟨Nat.le_of_ble_eq_true rfl, Nat.le_of_ble_eq_true rfl⟩ rfl rfl (Nat.le_of_ble_eq_true rfl) dX4_put_2 ⟨Nat.le_of_ble_eq_true rfl, Nat.le_of_ble_eq_true rfl⟩ (fun v ad' f' hp had => ?_)
  obtain ⟨rfl, rfl, rfl⟩ := hp
  refine z_st (st' := [.int (nI (if ¬ (nI j) < 0 ∧ ¬ nI (cn 5) ≤ (nI j) then 1 else 0))]) rfl ?_
  refine z_if_eqB X (tgt := 20) dX4_put_5 (by decide) (fun c5 => by exfalso; exact c5 ⟨nI_pos (by omega), nI_ge (by omega) (by omega)⟩) (fun c5 => ?_)
  refine z_iload_n X 2 dX4_put_8 rfl rfl ?_
  refine z_if_lt X (tgt := 20) dX4_put_9 (by decide) (fun c9 => ?_) (fun c9 => ?_)
  · refine z_iconst X (v := nI 1) dX4_put_20 (by decide) ?_
    refine z_iret X (Nat.le_of_ble_eq_true rfl) (Nat.le_of_ble_eq_true rfl) ?_ dX4_put_21
    exact ⟨rfl, rfl, rfl⟩
  · refine z_iload_n X 2 dX4_put_12 rfl rfl ?_
    refine z_aload_n X 0 dX4_put_13 rfl rfl ?_
    refine z_get X (v := .int (nI (cn 18))) 0 18 wa_X4 rfl rfl rfl (by decide) q_577 rfl rfl dX4_put_14 ?_
    refine z_icmp_lt X (tgt := 22) dX4_put_17 (by decide) (fun c17 => by exfalso; exact hs ⟨c9, Int32.not_le.mpr c17⟩) (fun c17 => ?_)
    refine z_iconst X (v := nI 1) dX4_put_20 (by decide) ?_
    refine z_iret X (Nat.le_of_ble_eq_true rfl) (Nat.le_of_ble_eq_true rfl) ?_ dX4_put_21
    exact ⟨rfl, rfl, rfl⟩
set_option maxHeartbeats 4000000 in
set_option maxRecDepth 100000 in
theorem m_first (l : Launch) (G : va_G) (cy : Nat → ClassId) (B : Nat) (ad : Nat → Nat) (cn : Nat → Nat) (u : Nat → Nat → Int32) (w : Nat → Nat → Int64) (x : Nat → Nat → UInt64) (hc0 : cn 0 ≤ 200) (hc5 : cn 5 ≤ 12) (k : Int32) : Ct l G cy B yX4_first cX4_first 3 (some .int) ({ frames := 3, cells := 0, slots := 0, locals := 72 } : Room) ad (MF cy ad cn u w x) [.ref (ad 0), .int k] (fun v ad' f' => v = some (.int (if scanF (fun b => decide (firstP cn u w k b)) (cn 5) 0 < cn 5 then nI (scanF (fun b => decide (firstP cn u w k b)) (cn 5) 0) else -1)) ∧ ad = ad' ∧ (if scanF (fun b => decide (firstP cn u w k b)) (cn 5) 0 < cn 5 then MF cy ad cn (va_up u 6 (upd (u 6) (scanF (fun b => decide (firstP cn u w k b)) (cn 5) 0) (nI 2))) w x else MF cy ad cn u w x) = f') := by
  refine ct_of (by decide +kernel) (Nat.le_of_ble_eq_true rfl) ?_
  intro p e s m args below meth c X hnm
  refine z_lv (lv' := [(0, .ref (ad 0)), (1, .int k)]) [0, 1] rfl ?_
  refine z_iconst X (v := nI 0) dX4_first_0 (by decide) ?_
  refine z_istore_n X (lv' := [(2, .int (nI 0)), (0, .ref (ad 0)), (1, .int k)]) dX4_first_1 rfl (by decide) rfl ?_
  refine z_lv (lv' := [(0, .ref (ad 0)), (1, .int k), (2, .int (nI 0))]) [1, 2, 0] rfl ?_
  have lp2 : ∀ (fu2 : Nat) (i : Nat), (i ≤ cn 5) → (scanF (fun b => decide (firstP cn u w k b)) (cn 5 - i) i = scanF (fun b => decide (firstP cn u w k b)) (cn 5) 0) → cn 5 + 1 ≤ i + fu2 → Z G B 3 ad (MF cy ad cn u w x) p l e ({ frames := 3, cells := 0, slots := 0, locals := 72 } : Room) s m args below meth c (zEnd G B ad (MF cy ad cn u w x) below args s ({ frames := 3, cells := 0, slots := 0, locals := 72 } : Room) (fun v ad' f' => v = some (.int (if scanF (fun b => decide (firstP cn u w k b)) (cn 5) 0 < cn 5 then nI (scanF (fun b => decide (firstP cn u w k b)) (cn 5) 0) else -1)) ∧ ad = ad' ∧ (if scanF (fun b => decide (firstP cn u w k b)) (cn 5) 0 < cn 5 then MF cy ad cn (va_up u 6 (upd (u 6) (scanF (fun b => decide (firstP cn u w k b)) (cn 5) 0) (nI 2))) w x else MF cy ad cn u w x) = f')) ad (MF cy ad cn u w x) 0 0 2 [(0, .ref (ad 0)), (1, .int k), (2, .int (nI i))] [] := by
    intro fu2
    induction fu2 with
    | zero => intro i hi hs hm2; exact absurd hm2 (by omega)
    | succ fu2 ih2 =>
      intro i hi hs hm2
      refine z_iload_n X 2 dX4_first_2 rfl rfl ?_
      refine z_aload_n X 0 dX4_first_3 rfl rfl ?_
      refine z_get X (v := .int (nI (cn 5))) 0 5 wa_X4 rfl rfl rfl (by decide) q_564 rfl rfl dX4_first_4 ?_
      refine z_icmp_geN X (tgt := 44) (by omega) (by omega) dX4_first_7 (by decide) (fun c7 => ?_) (fun c7 => ?_)
      · refine z_iconst X (v := -1) dX4_first_44 (by decide) ?_
        refine z_iret X (Nat.le_of_ble_eq_true rfl) (Nat.le_of_ble_eq_true rfl) ?_ dX4_first_45
        have h9 : scanF (fun b => decide (firstP cn u w k b)) (cn 5) 0 = i := by rw [← hs, show cn 5 - i = 0 by omega]; rfl
        exact ⟨by rw [h9, if_neg (by omega)], rfl, by rw [h9, if_neg (by omega)]⟩
      · refine z_aload_n X 0 dX4_first_10 rfl rfl ?_
        refine z_get X (v := .ref (ad 6)) 0 6 wa_X4 rfl rfl rfl (by decide) q_565 rfl rfl dX4_first_11 ?_
        refine z_iload_n X 2 dX4_first_14 rfl rfl ?_
        refine z_ialdN X (n := 12) (g := u 6) 6 rfl rfl (by omega) (by decide) dX4_first_15 ?_
        refine z_iconst X (v := nI 1) dX4_first_16 (by decide) ?_
        refine z_icmp_ne X (tgt := 38) dX4_first_17 (by decide) (fun c17 => ?_) (fun c17 => ?_)
        · refine z_iincN X 2 (k := 1) (lv' := [(2, .int (nI (i + 1))), (0, .ref (ad 0)), (1, .int k)]) dX4_first_38 rfl (by decide) (by decide) rfl ?_
          refine z_goto X (tgt := 2) dX4_first_41 (by decide) ?_
          refine z_lv (lv' := [(0, .ref (ad 0)), (1, .int k), (2, .int (nI (i + 1)))]) [1, 2, 0] rfl ?_
          exact ih2 (i + 1) (by omega) (by rw [← hs]; exact scanF_n c7 (decide_eq_false (fun h => c17 h.1))) (by omega)
        · refine z_aload_n X 0 dX4_first_20 rfl rfl ?_
          refine z_iload_n X 2 dX4_first_21 rfl rfl ?_
          refine z_callV X (n := 1) (As := [.int (nI i)]) (rest := []) 0 rfl rfl rfl (m_mainOf l G cy B ad cn u w x hc0 i (by omega)) q_739 q_740 q_18 q_29 q_741 (by decide +kernel) ⟨Nat.le_of_ble_eq_true rfl, Nat.le_of_ble_eq_true rfl⟩ rfl rfl (Nat.le_of_ble_eq_true rfl) dX4_first_22 ⟨Nat.le_of_ble_eq_true rfl, Nat.le_of_ble_eq_true rfl⟩ (fun v ad' f' hp had => ?_)
          obtain ⟨rfl, rfl, rfl⟩ := hp
          refine z_st (st' := [.int (nI (mainM cn u w i))]) rfl ?_
          refine z_iload_n X 1 dX4_first_25 rfl rfl ?_
          refine z_icmp_ne X (tgt := 38) dX4_first_26 (by decide) (fun c26 => ?_) (fun c26 => ?_)
          · refine z_iincN X 2 (k := 1) (lv' := [(2, .int (nI (i + 1))), (0, .ref (ad 0)), (1, .int k)]) dX4_first_38 rfl (by decide) (by decide) rfl ?_
            refine z_goto X (tgt := 2) dX4_first_41 (by decide) ?_
            refine z_lv (lv' := [(0, .ref (ad 0)), (1, .int k), (2, .int (nI (i + 1)))]) [1, 2, 0] rfl ?_
            exact ih2 (i + 1) (by omega) (by rw [← hs]; exact scanF_n c7 (decide_eq_false (fun h => c26 h.2))) (by omega)
          · refine z_aload_n X 0 dX4_first_29 rfl rfl ?_
            refine z_get X (v := .ref (ad 6)) 0 6 wa_X4 rfl rfl rfl (by decide) q_565 rfl rfl dX4_first_30 ?_
            refine z_iload_n X 2 dX4_first_33 rfl rfl ?_
            refine z_iconst X (v := nI 2) dX4_first_34 (by decide) ?_
            refine z_iastN X (n := 12) (g := u 6) 6 rfl rfl (by omega) (by decide) dX4_first_35 ?_
            refine z_f (MF_u 6 12 rfl (by decide) _) ?_
            refine z_iload_n X 2 dX4_first_36 rfl rfl ?_
            refine z_iret X (Nat.le_of_ble_eq_true rfl) (Nat.le_of_ble_eq_true rfl) ?_ dX4_first_37
            have h9 : scanF (fun b => decide (firstP cn u w k b)) (cn 5) 0 = i := by rw [← hs]; exact scanF_y c7 (decide_eq_true ⟨c17, c26⟩)
            exact ⟨by rw [h9, if_pos c7], rfl, by rw [h9, if_pos c7]⟩
  exact lp2 (cn 5 + 1) 0 (by omega) (by rfl) (by omega)
set_option maxHeartbeats 4000000 in
set_option maxRecDepth 100000 in
theorem m_lorry (l : Launch) (G : va_G) (cy : Nat → ClassId) (B : Nat) (ad : Nat → Nat) (cn : Nat → Nat) (u : Nat → Nat → Int32) (w : Nat → Nat → Int64) (x : Nat → Nat → UInt64) (hc21 : cn 21 ≤ 3) (a b : Int64) : Ct l G cy B yX4_lorry cX4_lorry 5 (some .int) ({ frames := 1, cells := 0, slots := 0, locals := 25 } : Room) ad (MF cy ad cn u w x) [.ref (ad 0), .long a, .long b] (fun v ad' f' => v = some (.int (if okLorryM cn a b then nI (cn 21) else -1)) ∧ ad = ad' ∧ (if okLorryM cn a b then MF cy ad (va_up cn 21 (cn 21 + 1)) u (va_up (va_up w 22 (vp_updL (w 22) (cn 21) a)) 23 (vp_updL (w 23) (cn 21) b)) x else MF cy ad cn u w x) = f') := by
  refine ct_of (by decide +kernel) (Nat.le_of_ble_eq_true rfl) ?_
  intro p e s m args below meth c X hnm
  refine z_lv (lv' := [(0, .ref (ad 0)), (1, .long a), (3, .long b)]) [0, 1, 2] rfl ?_
  refine z_aload_n X 0 dX4_lorry_0 rfl rfl ?_
  refine z_get X (v := .int (nI (cn 21))) 0 21 wa_X4 rfl rfl rfl (by decide) q_580 rfl rfl dX4_lorry_1 ?_
  refine z_iconst X (v := nI 3) dX4_lorry_4 (by decide) ?_
  refine z_icmp_eqN X (tgt := 30) (by omega) (by omega) dX4_lorry_5 (by decide) (fun c5 => ?_) (fun c5 => ?_)
  · refine z_iconst X (v := -1) dX4_lorry_30 (by decide) ?_
    refine z_iret X (Nat.le_of_ble_eq_true rfl) (Nat.le_of_ble_eq_true rfl) ?_ dX4_lorry_31
    have h9 : ¬ okLorryM cn a b := fun h9 => h9.1 c5
    exact ⟨by rw [if_neg h9], rfl, by rw [if_neg h9]⟩
  · refine z_lload_n X 1 dX4_lorry_8 rfl rfl ?_
    refine z_lconst X (v := 0) dX4_lorry_9 rfl ?_
    refine z_ldc2 X dX4_lorry_10 q_753 ?_
    refine z_callS X (n := 3) (As := [.long a, .long 0, .long 100000000]) (rest := []) (c_X4_isIn l G cy B ad (MF cy ad cn u w x) a 0 100000000) q_652 q_653 q_29 q_654 (by decide +kernel) ⟨Nat.le_of_ble_eq_true rfl, Nat.le_of_ble_eq_true rfl⟩ rfl rfl (Nat.le_of_ble_eq_true rfl) dX4_lorry_13 ⟨Nat.le_of_ble_eq_true rfl, Nat.le_of_ble_eq_true rfl⟩ (fun v ad' f' hp had => ?_)
    obtain ⟨rfl, rfl, rfl⟩ := hp
    refine z_st (st' := [.int (nI (if 0 ≤ a ∧ a ≤ 100000000 then 1 else 0))]) rfl ?_
    refine z_if_eqB X (tgt := 30) dX4_lorry_16 (by decide) (fun c16 => ?_) (fun c16 => ?_)
    · refine z_iconst X (v := -1) dX4_lorry_30 (by decide) ?_
      refine z_iret X (Nat.le_of_ble_eq_true rfl) (Nat.le_of_ble_eq_true rfl) ?_ dX4_lorry_31
      have h9 : ¬ okLorryM cn a b := fun h9 => c16 h9.2.1
      exact ⟨by rw [if_neg h9], rfl, by rw [if_neg h9]⟩
    · refine z_lload_n X 2 dX4_lorry_19 rfl rfl ?_
      refine z_lconst X (v := 0) dX4_lorry_20 rfl ?_
      refine z_ldc2 X dX4_lorry_21 q_753 ?_
      refine z_callS X (n := 3) (As := [.long b, .long 0, .long 100000000]) (rest := []) (c_X4_isIn l G cy B ad (MF cy ad cn u w x) b 0 100000000) q_652 q_653 q_29 q_654 (by decide +kernel) ⟨Nat.le_of_ble_eq_true rfl, Nat.le_of_ble_eq_true rfl⟩ rfl rfl (Nat.le_of_ble_eq_true rfl) dX4_lorry_24 ⟨Nat.le_of_ble_eq_true rfl, Nat.le_of_ble_eq_true rfl⟩ (fun v ad' f' hp had => ?_)
      obtain ⟨rfl, rfl, rfl⟩ := hp
      refine z_st (st' := [.int (nI (if 0 ≤ b ∧ b ≤ 100000000 then 1 else 0))]) rfl ?_
      refine z_if_neB X (tgt := 32) dX4_lorry_27 (by decide) (fun c27 => ?_) (fun c27 => ?_)
      · refine z_aload_n X 0 dX4_lorry_32 rfl rfl ?_
        refine z_get X (v := .ref (ad 22)) 0 22 wa_X4 rfl rfl rfl (by decide) q_581 rfl rfl dX4_lorry_33 ?_
        refine z_aload_n X 0 dX4_lorry_36 rfl rfl ?_
        refine z_get X (v := .int (nI (cn 21))) 0 21 wa_X4 rfl rfl rfl (by decide) q_580 rfl rfl dX4_lorry_37 ?_
        refine z_lload_n X 1 dX4_lorry_40 rfl rfl ?_
        refine z_lastN X (n := 3) (g := w 22) 22 rfl rfl (by omega) (by decide) dX4_lorry_41 ?_
        refine z_f (MF_w 22 3 rfl (by decide) _) ?_
        refine z_aload_n X 0 dX4_lorry_42 rfl rfl ?_
        refine z_get X (v := .ref (ad 23)) 0 23 wa_X4 rfl rfl rfl (by decide) q_582 rfl rfl dX4_lorry_43 ?_
        refine z_aload_n X 0 dX4_lorry_46 rfl rfl ?_
        refine z_get X (v := .int (nI (cn 21))) 0 21 wa_X4 rfl rfl rfl (by decide) q_580 rfl rfl dX4_lorry_47 ?_
        refine z_lload_n X 2 dX4_lorry_50 rfl rfl ?_
        refine z_lastN X (n := 3) (g := w 23) 23 rfl rfl (by omega) (by decide) dX4_lorry_51 ?_
        refine z_f (MF_w 23 3 rfl (by decide) _) ?_
        refine z_aload_n X 0 dX4_lorry_52 rfl rfl ?_
        refine z_dup X dX4_lorry_53 rfl ?_
        refine z_get X (v := .int (nI (cn 21))) 0 21 wa_X4 rfl rfl rfl (by decide) q_580 rfl rfl dX4_lorry_54 ?_
        refine z_iconst X (v := nI 1) dX4_lorry_57 (by decide) ?_
        refine z_iaddN X dX4_lorry_58 ?_
        refine z_put X (ty := .int) 0 21 wa_X4 tyX4 tyX4_ok nmX4 rfl rfl rfl (by decide) q_580 rfl rfl (by decide +kernel) rfl rfl (Nat.le_of_ble_eq_true rfl) dX4_lorry_59 ?_
        refine z_f (MF_c (cn' := va_up cn 21 ((cn 21) + 1)) rfl) ?_
        refine z_aload_n X 0 dX4_lorry_62 rfl rfl ?_
        refine z_get X (v := .int (nI ((cn 21) + 1))) 0 21 wa_X4 rfl rfl rfl (by decide) q_580 rfl rfl dX4_lorry_63 ?_
        refine z_iconst X (v := nI 1) dX4_lorry_66 (by decide) ?_
        refine z_isubN X (by omega) dX4_lorry_67 ?_
        refine z_top (v' := .int (nI (cn 21))) (by rfl) ?_
        refine z_iret X (Nat.le_of_ble_eq_true rfl) (Nat.le_of_ble_eq_true rfl) ?_ dX4_lorry_68
        have h9 : okLorryM cn a b := ⟨c5, c16, c27⟩
        exact ⟨by rw [if_pos h9], rfl, by rw [if_pos h9]⟩
      · refine z_iconst X (v := -1) dX4_lorry_30 (by decide) ?_
        refine z_iret X (Nat.le_of_ble_eq_true rfl) (Nat.le_of_ble_eq_true rfl) ?_ dX4_lorry_31
        have h9 : ¬ okLorryM cn a b := fun h9 => c27 h9.2.2
        exact ⟨by rw [if_neg h9], rfl, by rw [if_neg h9]⟩
set_option maxHeartbeats 4000000 in
set_option maxRecDepth 100000 in
theorem m_loadOf_0 (l : Launch) (G : va_G) (cy : Nat → ClassId) (B : Nat) (ad : Nat → Nat) (cn : Nat → Nat) (u : Nat → Nat → Int32) (w : Nat → Nat → Int64) (x : Nat → Nat → UInt64) (hc0 : cn 0 ≤ 200) (li ct : Nat) (hli : li < 3) (hct : u 25 li = nI ct) (hc8 : ct ≤ 8) (hld : ∀ i, i < ct → ∃ b9, b9 < 12 ∧ u 24 (8 * li + i) = nI b9) : Ct l G cy B yX4_loadOf cX4_loadOf 6 (some .long) ({ frames := 3, cells := 0, slots := 0, locals := 73 } : Room) ad (MF cy ad cn u w x) [.ref (ad 0), .int (nI li), .int (nI 0)] (fun v ad' f' => v = some (.long (loadM cn u w li 0 ct)) ∧ ad = ad' ∧ MF cy ad cn u w x = f') := by
  refine ct_of (by decide +kernel) (Nat.le_of_ble_eq_true rfl) ?_
  intro p e s m args below meth c X hnm
  refine z_lv (lv' := [(0, .ref (ad 0)), (1, .int (nI li)), (2, .int (nI 0))]) [0, 1, 2] rfl ?_
  refine z_lconst X (v := 0) dX4_loadOf_0 rfl ?_
  refine z_lstore_n X (lv' := [(3, .long 0), (0, .ref (ad 0)), (1, .int (nI li)), (2, .int (nI 0))]) dX4_loadOf_1 rfl (by decide) rfl ?_
  refine z_iconst X (v := nI 0) dX4_loadOf_2 (by decide) ?_
  refine z_istore X (lv' := [(5, .int (nI 0)), (3, .long 0), (0, .ref (ad 0)), (1, .int (nI li)), (2, .int (nI 0))]) dX4_loadOf_3 (by decide) rfl ?_
  refine z_lv (lv' := [(0, .ref (ad 0)), (1, .int (nI li)), (2, .int (nI 0)), (3, .long 0), (5, .int (nI 0))]) [2, 3, 4, 1, 0] rfl ?_
  have lp5 : ∀ (fu5 : Nat) (i : Nat) (sv : Int64), (i ≤ ct) → (sv = loadM cn u w li 0 i) → ct + 1 ≤ i + fu5 → Z G B 6 ad (MF cy ad cn u w x) p l e ({ frames := 3, cells := 0, slots := 0, locals := 73 } : Room) s m args below meth c (zEnd G B ad (MF cy ad cn u w x) below args s ({ frames := 3, cells := 0, slots := 0, locals := 73 } : Room) (fun v ad' f' => v = some (.long (loadM cn u w li 0 ct)) ∧ ad = ad' ∧ MF cy ad cn u w x = f')) ad (MF cy ad cn u w x) 0 0 5 [(0, .ref (ad 0)), (1, .int (nI li)), (2, .int (nI 0)), (3, .long sv), (5, .int (nI i))] [] := by
    intro fu5
    induction fu5 with
    | zero => intro i sv hi hs hm5; exact absurd hm5 (by omega)
    | succ fu5 ih5 =>
      intro i sv hi hs hm5
      refine z_iload X 4 dX4_loadOf_5 rfl ?_
      refine z_aload_n X 0 dX4_loadOf_7 rfl rfl ?_
      refine z_get X (v := .ref (ad 25)) 0 25 wa_X4 rfl rfl rfl (by decide) q_584 rfl rfl dX4_loadOf_8 ?_
      refine z_iload_n X 1 dX4_loadOf_11 rfl rfl ?_
      refine z_ialdN X (n := 3) (g := u 25) 25 rfl rfl (by omega) (by decide) dX4_loadOf_12 ?_
      refine z_top (v' := .int (nI ct)) (by rw [hct]) ?_
      refine z_icmp_geN X (tgt := 55) (by omega) (by omega) dX4_loadOf_13 (by decide) (fun c13 => ?_) (fun c13 => ?_)
      · have e9 : i = ct := by omega
        rw [e9] at hs
        refine z_lload_n X 3 dX4_loadOf_55 rfl rfl ?_
        refine z_lret X (Nat.le_of_ble_eq_true rfl) (Nat.le_of_ble_eq_true rfl) ?_ dX4_loadOf_56
        exact ⟨by rw [hs], rfl, rfl⟩
      · obtain ⟨b9, hb9, e9⟩ := hld i (by omega)
        refine z_lload_n X 3 dX4_loadOf_16 rfl rfl ?_
        refine z_aload_n X 0 dX4_loadOf_17 rfl rfl ?_
        refine z_aload_n X 0 dX4_loadOf_18 rfl rfl ?_
        refine z_get X (v := .ref (ad 24)) 0 24 wa_X4 rfl rfl rfl (by decide) q_583 rfl rfl dX4_loadOf_19 ?_
        refine z_bipush X (v := nI 8) dX4_loadOf_22 (by decide) ?_
        refine z_iload_n X 1 dX4_loadOf_24 rfl rfl ?_
        refine z_imulN X dX4_loadOf_25 ?_
        refine z_iload X 4 dX4_loadOf_26 rfl ?_
        refine z_iaddN X dX4_loadOf_28 ?_
        refine z_ialdN X (n := 24) (g := u 24) 24 rfl rfl (by omega) (by decide) dX4_loadOf_29 ?_
        refine z_top (v' := .int (nI b9)) (by rw [e9]) ?_
        refine z_callV X (n := 1) (As := [.int (nI b9)]) (rest := [.long sv]) 0 rfl rfl rfl (m_weight l G cy B ad cn u w x hc0 b9 hb9) q_686 q_687 q_17 q_29 q_688 (by decide +kernel) ⟨Nat.le_of_ble_eq_true rfl, Nat.le_of_ble_eq_true rfl⟩ rfl rfl (Nat.le_of_ble_eq_true rfl) dX4_loadOf_30 ⟨Nat.le_of_ble_eq_true rfl, Nat.le_of_ble_eq_true rfl⟩ (fun v ad' f' hp had => ?_)
        obtain ⟨rfl, rfl, rfl⟩ := hp
        refine z_st (st' := [.long (weightM cn u w b9), .long sv]) rfl ?_
        refine z_iload_n X 2 dX4_loadOf_33 rfl rfl ?_
        refine z_if_eqN X (tgt := 44) (by omega) dX4_loadOf_34 (by decide) (fun c34 => ?_) (fun c34 => by exfalso; omega)
        refine z_iconst X (v := nI 1) dX4_loadOf_44 (by decide) ?_
        refine z_i2lN X (by omega) dX4_loadOf_45 ?_
        refine z_lmul X dX4_loadOf_46 ?_
        refine z_ladd X dX4_loadOf_47 ?_
        refine z_lstore_n X (lv' := [(3, .long (sv + ((weightM cn u w b9) * (lN 1)))), (0, .ref (ad 0)), (1, .int (nI li)), (2, .int (nI 0)), (5, .int (nI i))]) dX4_loadOf_48 rfl (by decide) rfl ?_
        refine z_iincN X 4 (k := 1) (lv' := [(5, .int (nI (i + 1))), (3, .long (sv + ((weightM cn u w b9) * (lN 1)))), (0, .ref (ad 0)), (1, .int (nI li)), (2, .int (nI 0))]) dX4_loadOf_49 rfl (by decide) (by decide) rfl ?_
        refine z_goto X (tgt := 5) dX4_loadOf_52 (by decide) ?_
        refine z_lv (lv' := [(0, .ref (ad 0)), (1, .int (nI li)), (2, .int (nI 0)), (3, .long (sv + ((weightM cn u w b9) * (lN 1)))), (5, .int (nI (i + 1)))]) [2, 3, 4, 1, 0] rfl ?_
        exact ih5 (i + 1) (sv + ((weightM cn u w b9) * (lN 1))) (by omega) (by rw [hs, ← show (u 24 (8 * li + i)).toNatClampNeg = b9 from by rw [e9]; exact nI_clamp (by omega)]; rfl) (by omega)
  exact lp5 (ct + 1) 0 0 (by omega) (by rfl) (by omega)
set_option maxHeartbeats 4000000 in
set_option maxRecDepth 100000 in
theorem m_loadOf_1 (l : Launch) (G : va_G) (cy : Nat → ClassId) (B : Nat) (ad : Nat → Nat) (cn : Nat → Nat) (u : Nat → Nat → Int32) (w : Nat → Nat → Int64) (x : Nat → Nat → UInt64) (hc0 : cn 0 ≤ 200) (li ct : Nat) (hli : li < 3) (hct : u 25 li = nI ct) (hc8 : ct ≤ 8) (hld : ∀ i, i < ct → ∃ b9, b9 < 12 ∧ u 24 (8 * li + i) = nI b9) : Ct l G cy B yX4_loadOf cX4_loadOf 6 (some .long) ({ frames := 3, cells := 0, slots := 0, locals := 73 } : Room) ad (MF cy ad cn u w x) [.ref (ad 0), .int (nI li), .int (nI 1)] (fun v ad' f' => v = some (.long (loadM cn u w li 1 ct)) ∧ ad = ad' ∧ MF cy ad cn u w x = f') := by
  refine ct_of (by decide +kernel) (Nat.le_of_ble_eq_true rfl) ?_
  intro p e s m args below meth c X hnm
  refine z_lv (lv' := [(0, .ref (ad 0)), (1, .int (nI li)), (2, .int (nI 1))]) [0, 1, 2] rfl ?_
  refine z_lconst X (v := 0) dX4_loadOf_0 rfl ?_
  refine z_lstore_n X (lv' := [(3, .long 0), (0, .ref (ad 0)), (1, .int (nI li)), (2, .int (nI 1))]) dX4_loadOf_1 rfl (by decide) rfl ?_
  refine z_iconst X (v := nI 0) dX4_loadOf_2 (by decide) ?_
  refine z_istore X (lv' := [(5, .int (nI 0)), (3, .long 0), (0, .ref (ad 0)), (1, .int (nI li)), (2, .int (nI 1))]) dX4_loadOf_3 (by decide) rfl ?_
  refine z_lv (lv' := [(0, .ref (ad 0)), (1, .int (nI li)), (2, .int (nI 1)), (3, .long 0), (5, .int (nI 0))]) [2, 3, 4, 1, 0] rfl ?_
  have lp5 : ∀ (fu5 : Nat) (i : Nat) (sv : Int64), (i ≤ ct) → (sv = loadM cn u w li 1 i) → ct + 1 ≤ i + fu5 → Z G B 6 ad (MF cy ad cn u w x) p l e ({ frames := 3, cells := 0, slots := 0, locals := 73 } : Room) s m args below meth c (zEnd G B ad (MF cy ad cn u w x) below args s ({ frames := 3, cells := 0, slots := 0, locals := 73 } : Room) (fun v ad' f' => v = some (.long (loadM cn u w li 1 ct)) ∧ ad = ad' ∧ MF cy ad cn u w x = f')) ad (MF cy ad cn u w x) 0 0 5 [(0, .ref (ad 0)), (1, .int (nI li)), (2, .int (nI 1)), (3, .long sv), (5, .int (nI i))] [] := by
    intro fu5
    induction fu5 with
    | zero => intro i sv hi hs hm5; exact absurd hm5 (by omega)
    | succ fu5 ih5 =>
      intro i sv hi hs hm5
      refine z_iload X 4 dX4_loadOf_5 rfl ?_
      refine z_aload_n X 0 dX4_loadOf_7 rfl rfl ?_
      refine z_get X (v := .ref (ad 25)) 0 25 wa_X4 rfl rfl rfl (by decide) q_584 rfl rfl dX4_loadOf_8 ?_
      refine z_iload_n X 1 dX4_loadOf_11 rfl rfl ?_
      refine z_ialdN X (n := 3) (g := u 25) 25 rfl rfl (by omega) (by decide) dX4_loadOf_12 ?_
      refine z_top (v' := .int (nI ct)) (by rw [hct]) ?_
      refine z_icmp_geN X (tgt := 55) (by omega) (by omega) dX4_loadOf_13 (by decide) (fun c13 => ?_) (fun c13 => ?_)
      · have e9 : i = ct := by omega
        rw [e9] at hs
        refine z_lload_n X 3 dX4_loadOf_55 rfl rfl ?_
        refine z_lret X (Nat.le_of_ble_eq_true rfl) (Nat.le_of_ble_eq_true rfl) ?_ dX4_loadOf_56
        exact ⟨by rw [hs], rfl, rfl⟩
      · obtain ⟨b9, hb9, e9⟩ := hld i (by omega)
        refine z_lload_n X 3 dX4_loadOf_16 rfl rfl ?_
        refine z_aload_n X 0 dX4_loadOf_17 rfl rfl ?_
        refine z_aload_n X 0 dX4_loadOf_18 rfl rfl ?_
        refine z_get X (v := .ref (ad 24)) 0 24 wa_X4 rfl rfl rfl (by decide) q_583 rfl rfl dX4_loadOf_19 ?_
        refine z_bipush X (v := nI 8) dX4_loadOf_22 (by decide) ?_
        refine z_iload_n X 1 dX4_loadOf_24 rfl rfl ?_
        refine z_imulN X dX4_loadOf_25 ?_
        refine z_iload X 4 dX4_loadOf_26 rfl ?_
        refine z_iaddN X dX4_loadOf_28 ?_
        refine z_ialdN X (n := 24) (g := u 24) 24 rfl rfl (by omega) (by decide) dX4_loadOf_29 ?_
        refine z_top (v' := .int (nI b9)) (by rw [e9]) ?_
        refine z_callV X (n := 1) (As := [.int (nI b9)]) (rest := [.long sv]) 0 rfl rfl rfl (m_weight l G cy B ad cn u w x hc0 b9 hb9) q_686 q_687 q_17 q_29 q_688 (by decide +kernel) ⟨Nat.le_of_ble_eq_true rfl, Nat.le_of_ble_eq_true rfl⟩ rfl rfl (Nat.le_of_ble_eq_true rfl) dX4_loadOf_30 ⟨Nat.le_of_ble_eq_true rfl, Nat.le_of_ble_eq_true rfl⟩ (fun v ad' f' hp had => ?_)
        obtain ⟨rfl, rfl, rfl⟩ := hp
        refine z_st (st' := [.long (weightM cn u w b9), .long sv]) rfl ?_
        refine z_iload_n X 2 dX4_loadOf_33 rfl rfl ?_
        refine z_if_eqN X (tgt := 44) (by omega) dX4_loadOf_34 (by decide) (fun c34 => by exfalso; omega) (fun c34 => ?_)
        refine z_iload X 4 dX4_loadOf_37 rfl ?_
        refine z_iconst X (v := nI 1) dX4_loadOf_39 (by decide) ?_
        refine z_iaddN X dX4_loadOf_40 ?_
        refine z_goto X (tgt := 45) dX4_loadOf_41 (by decide) ?_
        refine z_i2lN X (by omega) dX4_loadOf_45 ?_
        refine z_lmul X dX4_loadOf_46 ?_
        refine z_ladd X dX4_loadOf_47 ?_
        refine z_lstore_n X (lv' := [(3, .long (sv + ((weightM cn u w b9) * (lN (i + 1))))), (0, .ref (ad 0)), (1, .int (nI li)), (2, .int (nI 1)), (5, .int (nI i))]) dX4_loadOf_48 rfl (by decide) rfl ?_
        refine z_iincN X 4 (k := 1) (lv' := [(5, .int (nI (i + 1))), (3, .long (sv + ((weightM cn u w b9) * (lN (i + 1))))), (0, .ref (ad 0)), (1, .int (nI li)), (2, .int (nI 1))]) dX4_loadOf_49 rfl (by decide) (by decide) rfl ?_
        refine z_goto X (tgt := 5) dX4_loadOf_52 (by decide) ?_
        refine z_lv (lv' := [(0, .ref (ad 0)), (1, .int (nI li)), (2, .int (nI 1)), (3, .long (sv + ((weightM cn u w b9) * (lN (i + 1))))), (5, .int (nI (i + 1)))]) [2, 3, 4, 1, 0] rfl ?_
        exact ih5 (i + 1) (sv + ((weightM cn u w b9) * (lN (i + 1)))) (by omega) (by rw [hs, ← show (u 24 (8 * li + i)).toNatClampNeg = b9 from by rw [e9]; exact nI_clamp (by omega)]; rfl) (by omega)
  exact lp5 (ct + 1) 0 0 (by omega) (by rfl) (by omega)
end
section
/-! THE REFERENCE, third part -/
abbrev okLoadM (cn : Nat → Nat) (u : Nat → Nat → Int32) (w : Nat → Nat → Int64) (li ct j : Nat) : Prop := u 6 j = nI 2 ∧ u 11 j < 0 ∧ ct ≠ 8 ∧ loadM cn u w li 0 ct + weightM cn u w j ≤ w 22 li ∧ loadM cn u w li 1 ct + weightM cn u w j * lN (ct + 1) ≤ w 23 li
abbrev okPart (pt : Int32) : Prop := 0 ≤ pt.toInt64 ∧ pt.toInt64 ≤ 1
abbrev okRebM (cn : Nat → Nat) (u : Nat → Nat → Int32) (a b : Nat) : Prop := a ≠ b ∧ u 6 a = 0 ∧ u 6 b = 0 ∧ cn 5 ≠ 12
/-- what has been looked at when p letters of T are said -/
def lookS (T : Nat → Nat) (i p : Nat) : Int32 := if i < p then nI (T i) else -1
def sayU (u : Nat → Nat → Int32) (T : Nat → Nat) (i p : Nat) : Nat → Nat → Int32 := va_up u 0 (upd (upd (u 0) 27 (lookS T i p)) 26 (nI i - nI p))
theorem sayU_26 {u : Nat → Nat → Int32} {T : Nat → Nat} {i p : Nat} : sayU u T i p 0 26 = nI i - nI p := by simp [sayU, va_up, upd]
theorem sayU_27 {u : Nat → Nat → Int32} {T : Nat → Nat} {i p : Nat} : sayU u T i p 0 27 = lookS T i p := by simp [sayU, va_up, upd]
theorem say_0 {i p : Nat} (hi : i < 2 ^ 31) (hp : p < 2 ^ 31) : nI i - nI p = 0 ↔ i = p := by
  constructor
  · intro h
    exact (nI_eq hi hp).mp (by rw [← Int32.sub_add_cancel (nI i) (nI p), h, Int32.zero_add])
  · intro h
    rw [h, Int32.sub_self]
theorem sayU_next {u : Nat → Nat → Int32} {T : Nat → Nat} {i p : Nat} {ch : Int32} (hi : i < 2 ^ 31) (hp : p < 2 ^ 31) (h : ch = nI (T p)) : va_up (sayU u T i p) 0 (upd (upd (sayU u T i p 0) 27 (if sayU u T i p 0 26 = 0 then ch else sayU u T i p 0 27)) 26 (sayU u T i p 0 26 - nI 1)) = sayU u T i (p + 1) := by
  rw [sayU_26, sayU_27]
  have e1 : (if nI i - nI p = 0 then ch else lookS T i p) = lookS T i (p + 1) := by
    by_cases e : i = p
    · rw [if_pos ((say_0 hi hp).mpr e), h, lookS, if_pos (by omega), e]
    · rw [if_neg (fun q => e ((say_0 hi hp).mp q)), lookS, lookS]
      by_cases e2 : i < p
      · rw [if_pos e2, if_pos (by omega)]
      · rw [if_neg e2, if_neg (by omega)]
  have e2 : nI i - nI p - nI 1 = nI i - nI (p + 1) := by
    rw [← nI_add, Int32.sub_sub]
  rw [e1, e2]
  funext k
  unfold sayU va_up
  by_cases hk : k = 0
  · simp only [hk, if_true]
    funext y
    unfold upd
    by_cases h26 : y = 26
    · simp [h26]
    · by_cases h27 : y = 27
      · simp [h27]
      · simp [h26, h27]
  · simp [hk]
def byN (e : Nat) : Nat := if e = 0 then 0 else 10 ^ (e - 1)
theorem pw_lt {k : Nat} (h : k < 9) : 10 ^ k < 10 ^ 9 := Nat.pow_lt_pow_right (by decide) h
theorem dg_iff {n k : Nat} (hn : n < 10 ^ 9) (hk : k < 9) : n / 10 ^ k ≤ 9 ↔ sb_dg n ≤ k + 1 := by
  have hk' : k = 0 ∨ k = 1 ∨ k = 2 ∨ k = 3 ∨ k = 4 ∨ k = 5 ∨ k = 6 ∨ k = 7 ∨ k = 8 := by omega
  unfold sb_dg
  rcases hk' with rfl | rfl | rfl | rfl | rfl | rfl | rfl | rfl | rfl <;> (repeat' split) <;> omega
theorem dg_le9 {n : Nat} (hn : n < 10 ^ 9) : sb_dg n ≤ 9 := by
  unfold sb_dg
  (repeat' split) <;> omega
theorem lN_dv {n k : Nat} (hn : n < 10 ^ 9) (hk : k < 9) : lN n / lN (10 ^ k) = lN (n / 10 ^ k) := pk_lDiv (by omega) (Nat.pow_pos (by decide)) (Nat.lt_of_lt_of_le (pw_lt hk) (by decide))
theorem lN_pw {k : Nat} : lN (10 ^ k) * 10 = lN (10 ^ (k + 1)) := by rw [show (10 : Int64) = lN 10 from rfl, lN_mul, ← Nat.pow_succ]
theorem lN_pw0 {k : Nat} (hk : k < 9) : ¬ lN (10 ^ k) = 0 := fun h => by
  have h2 := (pk_lEQ (a := 10 ^ k) (b := 0) (Nat.lt_of_lt_of_le (pw_lt hk) (by decide)) (by decide)).mp h
  exact absurd h2 (Nat.ne_of_gt (Nat.pow_pos (by decide)))
theorem lN_9 {a : Nat} (ha : a < 2 ^ 63) : lN a ≤ 9 ↔ a ≤ 9 := by rw [show (9 : Int64) = lN 9 from rfl]; exact pk_lLE ha (by decide)
theorem byN_s (e : Nat) : byN (e + 1) = 10 ^ e := by simp [byN]
theorem byN_d {e : Nat} (he : e < 9) : lN (byN (e + 1)) / 10 = lN (byN e) := by
  rw [byN_s, show (10 : Int64) = lN 10 from rfl, pk_lDiv (Nat.lt_of_lt_of_le (pw_lt he) (by decide)) (by decide) (by decide)]
  cases e with
  | zero => rfl
  | succ e => rw [byN_s, Nat.pow_succ, Nat.mul_div_cancel _ (by decide)]
theorem dig_v {n e : Nat} (hn : n < 10 ^ 9) (he : e < 9) : (48 + (lN n / lN (byN (e + 1)) - lN n / lN (byN (e + 1)) / 10 * 10)).toInt32 = nI (48 + n / 10 ^ e % 10) := by
  have hd : n / 10 ^ e ≤ n := Nat.div_le_self _ _
  rw [byN_s, lN_dv hn he, show (10 : Int64) = lN 10 from rfl, pk_lRem (by omega) (by decide) (by decide), show (48 : Int64) = lN 48 from rfl, lN_add, lN_i]
theorem byN_0 {e : Nat} (h : 0 < e) (h9 : e ≤ 9) : ¬ lN (byN e) = 0 := by
  obtain ⟨k, rfl⟩ : ∃ k, e = k + 1 := ⟨e - 1, by omega⟩
  rw [byN_s]
  exact lN_pw0 (by omega)
theorem byN_n {e : Nat} (h : 0 < e) (h9 : e ≤ 9) : ¬ lN (byN e) ≤ 0 := by
  obtain ⟨k, rfl⟩ : ∃ k, e = k + 1 := ⟨e - 1, by omega⟩
  rw [byN_s]
  intro q
  have h2 := (pk_lLE (a := 10 ^ k) (b := 0) (Nat.lt_of_lt_of_le (pw_lt (by omega)) (by decide)) (by decide)).mp q
  exact absurd h2 (Nat.not_le.mpr (Nat.pow_pos (by decide)))
theorem byN_d' {e : Nat} (h : 0 < e) (h9 : e ≤ 9) : lN (byN e) / 10 = lN (byN (e - 1)) := by
  obtain ⟨k, rfl⟩ : ∃ k, e = k + 1 := ⟨e - 1, by omega⟩
  exact byN_d (by omega)
theorem dig_v' {n e : Nat} (hn : n < 10 ^ 9) (h : 0 < e) (h9 : e ≤ 9) : (48 + (lN n / lN (byN e) - lN n / lN (byN e) / 10 * 10)).toInt32 = nI (48 + n / 10 ^ (e - 1) % 10) := by
  obtain ⟨k, rfl⟩ : ∃ k, e = k + 1 := ⟨e - 1, by omega⟩
  exact dig_v hn (by omega)
theorem sayU_n0 {u : Nat → Nat → Int32} {T : Nat → Nat} {i p k : Nat} (h : k ≠ 0) : sayU u T i p k = u k := if_neg h
theorem gramsM_say {cn : Nat → Nat} {u : Nat → Nat → Int32} {w : Nat → Nat → Int64} {T : Nat → Nat} {i p j : Nat} {k : Int32} : gramsM cn (sayU u T i p) w j k = gramsM cn u w j k := by
  unfold gramsM
  rw [sayU_n0 (by decide), sayU_n0 (by decide), sayU_n0 (by decide), sayU_n0 (by decide)]
theorem weightM_say {cn : Nat → Nat} {u : Nat → Nat → Int32} {w : Nat → Nat → Int64} {T : Nat → Nat} {i p j : Nat} : weightM cn (sayU u T i p) w j = weightM cn u w j := by
  unfold weightM
  exact congrArg (fun g => sumL g 4) (funext fun k => gramsM_say)
theorem mainM_say {cn : Nat → Nat} {u : Nat → Nat → Int32} {w : Nat → Nat → Int64} {T : Nat → Nat} {i p j : Nat} : mainM cn (sayU u T i p) w j = mainM cn u w j := by
  unfold mainM
  exact congrArg (fun g => mainL g 3) (funext fun k => gramsM_say)
theorem sayU_start {u : Nat → Nat → Int32} {T : Nat → Nat} {i : Nat} : sayU u T i 0 = va_up u 0 (upd (upd (u 0) 26 (nI i)) 27 (-1)) := by
  have e1 : lookS T i 0 = -1 := if_neg (Nat.not_lt_zero i)
  have e2 : nI i - nI 0 = nI i := pk_sub (a := i) (b := 0) (Nat.zero_le i)
  unfold sayU
  rw [e1, e2]
  congr 1
  funext y
  unfold upd
  by_cases h26 : y = 26
  · simp [h26]
  · by_cases h27 : y = 27 <;> simp [h26, h27]
set_option maxHeartbeats 4000000 in
set_option maxRecDepth 100000 in
theorem m_load_i (l : Launch) (G : va_G) (cy : Nat → ClassId) (B : Nat) (ad : Nat → Nat) (cn : Nat → Nat) (u : Nat → Nat → Int32) (w : Nat → Nat → Int64) (x : Nat → Nat → UInt64) (hc0 : cn 0 ≤ 200) (hc5 : cn 5 ≤ 12) (hc21 : cn 21 ≤ 3) (li ct : Nat) (hli : li < cn 21) (hct : u 25 li = nI ct) (hc8 : ct ≤ 8) (hld : ∀ i, i < ct → ∃ b9, b9 < 12 ∧ u 24 (8 * li + i) = nI b9) (j : Nat) (hj : j < cn 5) : Ct l G cy B yX4_load cX4_load 6 (some .int) ({ frames := 4, cells := 0, slots := 0, locals := 98 } : Room) ad (MF cy ad cn u w x) [.ref (ad 0), .int (nI li), .int (nI j)] (fun v ad' f' => v = some (.int (if okLoadM cn u w li ct j then nI ct else -1)) ∧ ad = ad' ∧ (if okLoadM cn u w li ct j then MF cy ad cn (va_up (va_up (va_up u 24 (upd (u 24) (8 * li + ct) (nI j))) 25 (upd (u 25) li (nI (ct + 1)))) 11 (upd (u 11) j (nI li))) w x else MF cy ad cn u w x) = f') := by
  refine ct_of (by decide +kernel) (Nat.le_of_ble_eq_true rfl) ?_
  intro p e s m args below meth c X hnm
  refine z_lv (lv' := [(0, .ref (ad 0)), (1, .int (nI li)), (2, .int (nI j))]) [0, 1, 2] rfl ?_
  refine z_iload_n X 1 dX4_load_0 rfl rfl ?_
  refine z_if_ltN X (tgt := 50) (by omega) dX4_load_1 (by decide) ?_
  refine z_iload_n X 1 dX4_load_4 rfl rfl ?_
  refine z_aload_n X 0 dX4_load_5 rfl rfl ?_
  refine z_get X (v := .int (nI (cn 21))) 0 21 wa_X4 rfl rfl rfl (by decide) q_580 rfl rfl dX4_load_6 ?_
  refine z_icmp_geN X (tgt := 50) (by omega) (by omega) dX4_load_9 (by decide) (fun c9 => by exfalso; omega) (fun c9 => ?_)
  refine z_aload_n X 0 dX4_load_12 rfl rfl ?_
  refine z_iload_n X 2 dX4_load_13 rfl rfl ?_
  refine z_callV X (n := 1) (As := [.int (nI j)]) (rest := []) 0 rfl rfl rfl (m_isBale l G cy B ad cn u w x (nI j)) q_668 q_669 q_14 q_29 q_670 (by decide +kernel) ⟨Nat.le_of_ble_eq_true rfl, Nat.le_of_ble_eq_true rfl⟩ rfl rfl (Nat.le_of_ble_eq_true rfl) dX4_load_14 ⟨Nat.le_of_ble_eq_true rfl, Nat.le_of_ble_eq_true rfl⟩ (fun v ad' f' hp had => ?_)
  obtain ⟨rfl, rfl, rfl⟩ := hp
  refine z_st (st' := [.int (nI (if ¬ (nI j) < 0 ∧ ¬ nI (cn 5) ≤ (nI j) then 1 else 0))]) rfl ?_
  refine z_if_eqB X (tgt := 50) dX4_load_17 (by decide) (fun c17 => by exfalso; exact c17 ⟨nI_pos (by omega), nI_ge (by omega) (by omega)⟩) (fun c17 => ?_)
  refine z_aload_n X 0 dX4_load_20 rfl rfl ?_
  refine z_get X (v := .ref (ad 6)) 0 6 wa_X4 rfl rfl rfl (by decide) q_565 rfl rfl dX4_load_21 ?_
  refine z_iload_n X 2 dX4_load_24 rfl rfl ?_
  refine z_ialdN X (n := 12) (g := u 6) 6 rfl rfl (by omega) (by decide) dX4_load_25 ?_
  refine z_iconst X (v := nI 2) dX4_load_26 (by decide) ?_
  refine z_icmp_ne X (tgt := 50) dX4_load_27 (by decide) (fun c27 => ?_) (fun c27 => ?_)
  · refine z_iconst X (v := -1) dX4_load_50 (by decide) ?_
    refine z_iret X (Nat.le_of_ble_eq_true rfl) (Nat.le_of_ble_eq_true rfl) ?_ dX4_load_51
    have h9 : ¬ okLoadM cn u w li ct j := fun h9 => c27 h9.1
    exact ⟨by rw [if_neg h9], rfl, by rw [if_neg h9]⟩
  · refine z_aload_n X 0 dX4_load_30 rfl rfl ?_
    refine z_get X (v := .ref (ad 11)) 0 11 wa_X4 rfl rfl rfl (by decide) q_570 rfl rfl dX4_load_31 ?_
    refine z_iload_n X 2 dX4_load_34 rfl rfl ?_
    refine z_ialdN X (n := 12) (g := u 11) 11 rfl rfl (by omega) (by decide) dX4_load_35 ?_
    refine z_if_ge X (tgt := 50) dX4_load_36 (by decide) (fun c36 => ?_) (fun c36 => ?_)
    · refine z_iconst X (v := -1) dX4_load_50 (by decide) ?_
      refine z_iret X (Nat.le_of_ble_eq_true rfl) (Nat.le_of_ble_eq_true rfl) ?_ dX4_load_51
      have h9 : ¬ okLoadM cn u w li ct j := fun h9 => Int32.not_lt.mpr c36 h9.2.1
      exact ⟨by rw [if_neg h9], rfl, by rw [if_neg h9]⟩
    · refine z_aload_n X 0 dX4_load_39 rfl rfl ?_
      refine z_get X (v := .ref (ad 25)) 0 25 wa_X4 rfl rfl rfl (by decide) q_584 rfl rfl dX4_load_40 ?_
      refine z_iload_n X 1 dX4_load_43 rfl rfl ?_
      refine z_ialdN X (n := 3) (g := u 25) 25 rfl rfl (by omega) (by decide) dX4_load_44 ?_
      refine z_top (v' := .int (nI ct)) (by rw [hct]) ?_
      refine z_bipush X (v := nI 8) dX4_load_45 (by decide) ?_
      refine z_icmp_neN X (tgt := 52) (by omega) (by omega) dX4_load_47 (by decide) (fun c47 => ?_) (fun c47 => ?_)
      · refine z_aload_n X 0 dX4_load_52 rfl rfl ?_
        refine z_get X (v := .ref (ad 25)) 0 25 wa_X4 rfl rfl rfl (by decide) q_584 rfl rfl dX4_load_53 ?_
        refine z_iload_n X 1 dX4_load_56 rfl rfl ?_
        refine z_ialdN X (n := 3) (g := u 25) 25 rfl rfl (by omega) (by decide) dX4_load_57 ?_
        refine z_top (v' := .int (nI ct)) (by rw [hct]) ?_
        refine z_istore_n X (lv' := [(3, .int (nI ct)), (0, .ref (ad 0)), (1, .int (nI li)), (2, .int (nI j))]) dX4_load_58 rfl (by decide) rfl ?_
        refine z_aload_n X 1 dX4_load_59 rfl rfl ?_
        refine z_iload_n X 3 dX4_load_60 rfl rfl ?_
        refine z_callV X (n := 1) (As := [.int (nI j)]) (rest := []) 0 rfl rfl rfl (m_weight l G cy B ad cn u w x hc0 j (by omega)) q_686 q_687 q_17 q_29 q_688 (by decide +kernel) ⟨Nat.le_of_ble_eq_true rfl, Nat.le_of_ble_eq_true rfl⟩ rfl rfl (Nat.le_of_ble_eq_true rfl) dX4_load_61 ⟨Nat.le_of_ble_eq_true rfl, Nat.le_of_ble_eq_true rfl⟩ (fun v ad' f' hp had => ?_)
        obtain ⟨rfl, rfl, rfl⟩ := hp
        refine z_st (st' := [.long (weightM cn u w j)]) rfl ?_
        refine z_lstore X (lv' := [(4, .long (weightM cn u w j)), (3, .int (nI ct)), (0, .ref (ad 0)), (1, .int (nI li)), (2, .int (nI j))]) dX4_load_64 (by decide) rfl ?_
        refine z_aload_n X 2 dX4_load_66 rfl rfl ?_
        refine z_iload_n X 3 dX4_load_67 rfl rfl ?_
        refine z_iconst X (v := nI 0) dX4_load_68 (by decide) ?_
        refine z_callV X (n := 2) (As := [.int (nI li), .int (nI 0)]) (rest := []) 0 rfl rfl rfl (m_loadOf_0 l G cy B ad cn u w x hc0 li ct (by omega) hct hc8 hld) q_758 q_759 q_20 q_29 q_760 (by decide +kernel) ⟨Nat.le_of_ble_eq_true rfl, Nat.le_of_ble_eq_true rfl⟩ rfl rfl (Nat.le_of_ble_eq_true rfl) dX4_load_69 ⟨Nat.le_of_ble_eq_true rfl, Nat.le_of_ble_eq_true rfl⟩ (fun v ad' f' hp had => ?_)
        obtain ⟨rfl, rfl, rfl⟩ := hp
        refine z_st (st' := [.long (loadM cn u w li 0 ct)]) rfl ?_
        refine z_lload X 0 dX4_load_72 rfl ?_
        refine z_ladd X dX4_load_74 ?_
        refine z_aload_n X 2 dX4_load_75 rfl rfl ?_
        refine z_get X (v := .ref (ad 22)) 0 22 wa_X4 rfl rfl rfl (by decide) q_581 rfl rfl dX4_load_76 ?_
        refine z_iload_n X 3 dX4_load_79 rfl rfl ?_
        refine z_laldN X (n := 3) (g := w 22) 22 rfl rfl (by omega) (by decide) dX4_load_80 ?_
        refine z_lcmp_gt X (tgt := 109) dX4_load_81 dX4_load_82 (by decide) (fun c81 => ?_) (fun c81 => ?_)
        · refine z_iconst X (v := -1) dX4_load_109 (by decide) ?_
          refine z_iret X (Nat.le_of_ble_eq_true rfl) (Nat.le_of_ble_eq_true rfl) ?_ dX4_load_110
          have h9 : ¬ okLoadM cn u w li ct j := fun h9 => Int64.not_le.mpr c81 h9.2.2.2.1
          exact ⟨by rw [if_neg h9], rfl, by rw [if_neg h9]⟩
        · refine z_aload_n X 2 dX4_load_85 rfl rfl ?_
          refine z_iload_n X 3 dX4_load_86 rfl rfl ?_
          refine z_iconst X (v := nI 1) dX4_load_87 (by decide) ?_
          refine z_callV X (n := 2) (As := [.int (nI li), .int (nI 1)]) (rest := []) 0 rfl rfl rfl (m_loadOf_1 l G cy B ad cn u w x hc0 li ct (by omega) hct hc8 hld) q_758 q_759 q_20 q_29 q_760 (by decide +kernel) ⟨Nat.le_of_ble_eq_true rfl, Nat.le_of_ble_eq_true rfl⟩ rfl rfl (Nat.le_of_ble_eq_true rfl) dX4_load_88 ⟨Nat.le_of_ble_eq_true rfl, Nat.le_of_ble_eq_true rfl⟩ (fun v ad' f' hp had => ?_)
          obtain ⟨rfl, rfl, rfl⟩ := hp
          refine z_st (st' := [.long (loadM cn u w li 1 ct)]) rfl ?_
          refine z_lload X 0 dX4_load_91 rfl ?_
          refine z_iload_n X 1 dX4_load_93 rfl rfl ?_
          refine z_iconst X (v := nI 1) dX4_load_94 (by decide) ?_
          refine z_iaddN X dX4_load_95 ?_
          refine z_i2lN X (by omega) dX4_load_96 ?_
          refine z_lmul X dX4_load_97 ?_
          refine z_ladd X dX4_load_98 ?_
          refine z_aload_n X 2 dX4_load_99 rfl rfl ?_
          refine z_get X (v := .ref (ad 23)) 0 23 wa_X4 rfl rfl rfl (by decide) q_582 rfl rfl dX4_load_100 ?_
          refine z_iload_n X 3 dX4_load_103 rfl rfl ?_
          refine z_laldN X (n := 3) (g := w 23) 23 rfl rfl (by omega) (by decide) dX4_load_104 ?_
          refine z_lcmp_le X (tgt := 111) dX4_load_105 dX4_load_106 (by decide) (fun c105 => ?_) (fun c105 => ?_)
          · refine z_aload_n X 2 dX4_load_111 rfl rfl ?_
            refine z_get X (v := .ref (ad 24)) 0 24 wa_X4 rfl rfl rfl (by decide) q_583 rfl rfl dX4_load_112 ?_
            refine z_bipush X (v := nI 8) dX4_load_115 (by decide) ?_
            refine z_iload_n X 3 dX4_load_117 rfl rfl ?_
            refine z_imulN X dX4_load_118 ?_
            refine z_iload_n X 1 dX4_load_119 rfl rfl ?_
            refine z_iaddN X dX4_load_120 ?_
            refine z_iload_n X 4 dX4_load_121 rfl rfl ?_
            refine z_iastN X (n := 24) (g := u 24) 24 rfl rfl (by omega) (by decide) dX4_load_122 ?_
            refine z_f (MF_u 24 24 rfl (by decide) _) ?_
            refine z_aload_n X 2 dX4_load_123 rfl rfl ?_
            refine z_get X (v := .ref (ad 25)) 0 25 wa_X4 rfl rfl rfl (by decide) q_584 rfl rfl dX4_load_124 ?_
            refine z_iload_n X 3 dX4_load_127 rfl rfl ?_
            refine z_dup2_11 X dX4_load_128 rfl rfl ?_
            refine z_ialdN X (n := 3) (g := u 25) 25 rfl rfl (by omega) (by decide) dX4_load_129 ?_
            refine z_top (v' := .int (nI ct)) (by rw [hct]) ?_
            refine z_iconst X (v := nI 1) dX4_load_130 (by decide) ?_
            refine z_iaddN X dX4_load_131 ?_
            refine z_iastN X (n := 3) (g := u 25) 25 rfl rfl (by omega) (by decide) dX4_load_132 ?_
            refine z_f (MF_u 25 3 rfl (by decide) _) ?_
            refine z_aload_n X 2 dX4_load_133 rfl rfl ?_
            refine z_get X (v := .ref (ad 11)) 0 11 wa_X4 rfl rfl rfl (by decide) q_570 rfl rfl dX4_load_134 ?_
            refine z_iload_n X 4 dX4_load_137 rfl rfl ?_
            refine z_iload_n X 3 dX4_load_138 rfl rfl ?_
            refine z_iastN X (n := 12) (g := u 11) 11 rfl rfl (by omega) (by decide) dX4_load_139 ?_
            refine z_f (MF_u 11 12 rfl (by decide) _) ?_
            refine z_iload_n X 1 dX4_load_140 rfl rfl ?_
            refine z_iret X (Nat.le_of_ble_eq_true rfl) (Nat.le_of_ble_eq_true rfl) ?_ dX4_load_141
            have h9 : okLoadM cn u w li ct j := ⟨c27, Int32.not_le.mp c36, c47, Int64.not_lt.mp c81, c105⟩
            exact ⟨by rw [if_pos h9], rfl, by rw [if_pos h9]⟩
          · refine z_iconst X (v := -1) dX4_load_109 (by decide) ?_
            refine z_iret X (Nat.le_of_ble_eq_true rfl) (Nat.le_of_ble_eq_true rfl) ?_ dX4_load_110
            have h9 : ¬ okLoadM cn u w li ct j := fun h9 => c105 h9.2.2.2.2
            exact ⟨by rw [if_neg h9], rfl, by rw [if_neg h9]⟩
      · refine z_iconst X (v := -1) dX4_load_50 (by decide) ?_
        refine z_iret X (Nat.le_of_ble_eq_true rfl) (Nat.le_of_ble_eq_true rfl) ?_ dX4_load_51
        have h9 : ¬ okLoadM cn u w li ct j := fun h9 => h9.2.2.1 c47
        exact ⟨by rw [if_neg h9], rfl, by rw [if_neg h9]⟩
set_option maxHeartbeats 4000000 in
set_option maxRecDepth 100000 in
theorem m_load_o1 (l : Launch) (G : va_G) (cy : Nat → ClassId) (B : Nat) (ad : Nat → Nat) (cn : Nat → Nat) (u : Nat → Nat → Int32) (w : Nat → Nat → Int64) (x : Nat → Nat → UInt64) (b : Int32) (hb : ¬ (¬ b < 0 ∧ ¬ nI (cn 21) ≤ b)) (c2 : Int32) : Ct l G cy B yX4_load cX4_load 6 (some .int) ({ frames := 0, cells := 0, slots := 0, locals := 0 } : Room) ad (MF cy ad cn u w x) [.ref (ad 0), .int b, .int c2] (fun v ad' f' => v = some (.int (-1)) ∧ ad = ad' ∧ MF cy ad cn u w x = f') := by
  refine ct_of (by decide +kernel) (Nat.le_of_ble_eq_true rfl) ?_
  intro p e s m args below meth c X hnm
  refine z_lv (lv' := [(0, .ref (ad 0)), (1, .int b), (2, .int c2)]) [0, 1, 2] rfl ?_
  refine z_iload_n X 1 dX4_load_0 rfl rfl ?_
  refine z_if_lt X (tgt := 50) dX4_load_1 (by decide) (fun c1 => ?_) (fun c1 => ?_)
  · refine z_iconst X (v := -1) dX4_load_50 (by decide) ?_
    refine z_iret X (Nat.le_of_ble_eq_true rfl) (Nat.le_of_ble_eq_true rfl) ?_ dX4_load_51
    exact ⟨rfl, rfl, rfl⟩
  · refine z_iload_n X 1 dX4_load_4 rfl rfl ?_
    refine z_aload_n X 0 dX4_load_5 rfl rfl ?_
    refine z_get X (v := .int (nI (cn 21))) 0 21 wa_X4 rfl rfl rfl (by decide) q_580 rfl rfl dX4_load_6 ?_
    refine z_icmp_ge X (tgt := 50) dX4_load_9 (by decide) (fun c9 => ?_) (fun c9 => by exfalso; exact hb ⟨c1, c9⟩)
    refine z_iconst X (v := -1) dX4_load_50 (by decide) ?_
    refine z_iret X (Nat.le_of_ble_eq_true rfl) (Nat.le_of_ble_eq_true rfl) ?_ dX4_load_51
    exact ⟨rfl, rfl, rfl⟩
set_option maxHeartbeats 4000000 in
set_option maxRecDepth 100000 in
theorem m_load_o2 (l : Launch) (G : va_G) (cy : Nat → ClassId) (B : Nat) (ad : Nat → Nat) (cn : Nat → Nat) (u : Nat → Nat → Int32) (w : Nat → Nat → Int64) (x : Nat → Nat → UInt64) (hc21 : cn 21 ≤ 3) (li : Nat) (hli : li < cn 21) (b : Int32) (hb : ¬ (¬ b < 0 ∧ ¬ nI (cn 5) ≤ b)) : Ct l G cy B yX4_load cX4_load 6 (some .int) ({ frames := 1, cells := 0, slots := 0, locals := 21 } : Room) ad (MF cy ad cn u w x) [.ref (ad 0), .int (nI li), .int b] (fun v ad' f' => v = some (.int (-1)) ∧ ad = ad' ∧ MF cy ad cn u w x = f') := by
  refine ct_of (by decide +kernel) (Nat.le_of_ble_eq_true rfl) ?_
  intro p e s m args below meth c X hnm
  refine z_lv (lv' := [(0, .ref (ad 0)), (1, .int (nI li)), (2, .int b)]) [0, 1, 2] rfl ?_
  refine z_iload_n X 1 dX4_load_0 rfl rfl ?_
  refine z_if_ltN X (tgt := 50) (by omega) dX4_load_1 (by decide) ?_
  refine z_iload_n X 1 dX4_load_4 rfl rfl ?_
  refine z_aload_n X 0 dX4_load_5 rfl rfl ?_
  refine z_get X (v := .int (nI (cn 21))) 0 21 wa_X4 rfl rfl rfl (by decide) q_580 rfl rfl dX4_load_6 ?_
  refine z_icmp_geN X (tgt := 50) (by omega) (by omega) dX4_load_9 (by decide) (fun c9 => by exfalso; omega) (fun c9 => ?_)
  refine z_aload_n X 0 dX4_load_12 rfl rfl ?_
  refine z_iload_n X 2 dX4_load_13 rfl rfl ?_
  refine z_callV X (n := 1) (As := [.int b]) (rest := []) 0 rfl rfl rfl (m_isBale l G cy B ad cn u w x b) q_668 q_669 q_14 q_29 q_670 (by decide +kernel) ⟨Nat.le_of_ble_eq_true rfl, Nat.le_of_ble_eq_true rfl⟩ rfl rfl (Nat.le_of_ble_eq_true rfl) dX4_load_14 ⟨Nat.le_of_ble_eq_true rfl, Nat.le_of_ble_eq_true rfl⟩ (fun v ad' f' hp had => ?_)
  obtain ⟨rfl, rfl, rfl⟩ := hp
  refine z_st (st' := [.int (nI (if ¬ b < 0 ∧ ¬ nI (cn 5) ≤ b then 1 else 0))]) rfl ?_
  refine z_if_eqB X (tgt := 50) dX4_load_17 (by decide) (fun c17 => ?_) (fun c17 => by exfalso; exact hb c17)
  refine z_iconst X (v := -1) dX4_load_50 (by decide) ?_
  refine z_iret X (Nat.le_of_ble_eq_true rfl) (Nat.le_of_ble_eq_true rfl) ?_ dX4_load_51
  exact ⟨rfl, rfl, rfl⟩
set_option maxHeartbeats 4000000 in
set_option maxRecDepth 100000 in
theorem m_moment_i (l : Launch) (G : va_G) (cy : Nat → ClassId) (B : Nat) (ad : Nat → Nat) (cn : Nat → Nat) (u : Nat → Nat → Int32) (w : Nat → Nat → Int64) (x : Nat → Nat → UInt64) (hc0 : cn 0 ≤ 200) (hc21 : cn 21 ≤ 3) (li ct : Nat) (hli : li < cn 21) (hct : u 25 li = nI ct) (hc8 : ct ≤ 8) (hld : ∀ i, i < ct → ∃ b9, b9 < 12 ∧ u 24 (8 * li + i) = nI b9) (pt : Int32) : Ct l G cy B yX4_moment cX4_moment 3 (some .long) ({ frames := 4, cells := 0, slots := 0, locals := 98 } : Room) ad (MF cy ad cn u w x) [.ref (ad 0), .int (nI li), .int pt] (fun v ad' f' => v = some (.long (if okPart pt then (if pt = nI 1 then loadM cn u w li 1 ct else loadM cn u w li 0 ct) else -1)) ∧ ad = ad' ∧ MF cy ad cn u w x = f') := by
  refine ct_of (by decide +kernel) (Nat.le_of_ble_eq_true rfl) ?_
  intro p e s m args below meth c X hnm
  refine z_lv (lv' := [(0, .ref (ad 0)), (1, .int (nI li)), (2, .int pt)]) [0, 1, 2] rfl ?_
  refine z_iload_n X 1 dX4_moment_0 rfl rfl ?_
  refine z_if_ltN X (tgt := 40) (by omega) dX4_moment_1 (by decide) ?_
  refine z_iload_n X 1 dX4_moment_4 rfl rfl ?_
  refine z_aload_n X 0 dX4_moment_5 rfl rfl ?_
  refine z_get X (v := .int (nI (cn 21))) 0 21 wa_X4 rfl rfl rfl (by decide) q_580 rfl rfl dX4_moment_6 ?_
  refine z_icmp_geN X (tgt := 40) (by omega) (by omega) dX4_moment_9 (by decide) (fun c9 => by exfalso; omega) (fun c9 => ?_)
  refine z_iload_n X 2 dX4_moment_12 rfl rfl ?_
  refine z_i2l X dX4_moment_13 ?_
  refine z_lconst X (v := 0) dX4_moment_14 rfl ?_
  refine z_lconst X (v := 1) dX4_moment_15 rfl ?_
  refine z_callS X (n := 3) (As := [.long pt.toInt64, .long 0, .long 1]) (rest := []) (c_X4_isIn l G cy B ad (MF cy ad cn u w x) pt.toInt64 0 1) q_652 q_653 q_29 q_654 (by decide +kernel) ⟨Nat.le_of_ble_eq_true rfl, Nat.le_of_ble_eq_true rfl⟩ rfl rfl (Nat.le_of_ble_eq_true rfl) dX4_moment_16 ⟨Nat.le_of_ble_eq_true rfl, Nat.le_of_ble_eq_true rfl⟩ (fun v ad' f' hp had => ?_)
  obtain ⟨rfl, rfl, rfl⟩ := hp
  refine z_st (st' := [.int (nI (if 0 ≤ pt.toInt64 ∧ pt.toInt64 ≤ 1 then 1 else 0))]) rfl ?_
  refine z_if_eqB X (tgt := 40) dX4_moment_19 (by decide) (fun c19 => ?_) (fun c19 => ?_)
  · refine z_ldc2 X dX4_moment_40 q_677 ?_
    refine z_lret X (Nat.le_of_ble_eq_true rfl) (Nat.le_of_ble_eq_true rfl) ?_ dX4_moment_43
    exact ⟨by rw [if_neg c19], rfl, rfl⟩
  · refine z_aload_n X 0 dX4_moment_22 rfl rfl ?_
    refine z_iload_n X 1 dX4_moment_23 rfl rfl ?_
    refine z_iload_n X 2 dX4_moment_24 rfl rfl ?_
    refine z_iconst X (v := nI 1) dX4_moment_25 (by decide) ?_
    refine z_icmp_ne X (tgt := 33) dX4_moment_26 (by decide) (fun c26 => ?_) (fun c26 => ?_)
    · refine z_iconst X (v := nI 0) dX4_moment_33 (by decide) ?_
      refine z_callV X (n := 2) (As := [.int (nI li), .int (nI 0)]) (rest := []) 0 rfl rfl rfl (m_loadOf_0 l G cy B ad cn u w x hc0 li ct (by omega) hct hc8 hld) q_758 q_759 q_20 q_29 q_760 (by decide +kernel) ⟨Nat.le_of_ble_eq_true rfl, Nat.le_of_ble_eq_true rfl⟩ rfl rfl (Nat.le_of_ble_eq_true rfl) dX4_moment_34 ⟨Nat.le_of_ble_eq_true rfl, Nat.le_of_ble_eq_true rfl⟩ (fun v ad' f' hp had => ?_)
      obtain ⟨rfl, rfl, rfl⟩ := hp
      refine z_st (st' := [.long (loadM cn u w li 0 ct)]) rfl ?_
      refine z_goto X (tgt := 43) dX4_moment_37 (by decide) ?_
      refine z_lret X (Nat.le_of_ble_eq_true rfl) (Nat.le_of_ble_eq_true rfl) ?_ dX4_moment_43
      exact ⟨by rw [if_pos c19, if_neg c26], rfl, rfl⟩
    · refine z_iconst X (v := nI 1) dX4_moment_29 (by decide) ?_
      refine z_goto X (tgt := 34) dX4_moment_30 (by decide) ?_
      refine z_callV X (n := 2) (As := [.int (nI li), .int (nI 1)]) (rest := []) 0 rfl rfl rfl (m_loadOf_1 l G cy B ad cn u w x hc0 li ct (by omega) hct hc8 hld) q_758 q_759 q_20 q_29 q_760 (by decide +kernel) ⟨Nat.le_of_ble_eq_true rfl, Nat.le_of_ble_eq_true rfl⟩ rfl rfl (Nat.le_of_ble_eq_true rfl) dX4_moment_34 ⟨Nat.le_of_ble_eq_true rfl, Nat.le_of_ble_eq_true rfl⟩ (fun v ad' f' hp had => ?_)
      obtain ⟨rfl, rfl, rfl⟩ := hp
      refine z_st (st' := [.long (loadM cn u w li 1 ct)]) rfl ?_
      refine z_goto X (tgt := 43) dX4_moment_37 (by decide) ?_
      refine z_lret X (Nat.le_of_ble_eq_true rfl) (Nat.le_of_ble_eq_true rfl) ?_ dX4_moment_43
      exact ⟨by rw [if_pos c19, if_pos c26], rfl, rfl⟩
set_option maxHeartbeats 4000000 in
set_option maxRecDepth 100000 in
theorem m_moment_o (l : Launch) (G : va_G) (cy : Nat → ClassId) (B : Nat) (ad : Nat → Nat) (cn : Nat → Nat) (u : Nat → Nat → Int32) (w : Nat → Nat → Int64) (x : Nat → Nat → UInt64) (b : Int32) (hb : ¬ (¬ b < 0 ∧ ¬ nI (cn 21) ≤ b)) (pt : Int32) : Ct l G cy B yX4_moment cX4_moment 3 (some .long) ({ frames := 0, cells := 0, slots := 0, locals := 0 } : Room) ad (MF cy ad cn u w x) [.ref (ad 0), .int b, .int pt] (fun v ad' f' => v = some (.long (-1)) ∧ ad = ad' ∧ MF cy ad cn u w x = f') := by
  refine ct_of (by decide +kernel) (Nat.le_of_ble_eq_true rfl) ?_
  intro p e s m args below meth c X hnm
  refine z_lv (lv' := [(0, .ref (ad 0)), (1, .int b), (2, .int pt)]) [0, 1, 2] rfl ?_
  refine z_iload_n X 1 dX4_moment_0 rfl rfl ?_
  refine z_if_lt X (tgt := 40) dX4_moment_1 (by decide) (fun c1 => ?_) (fun c1 => ?_)
  · refine z_ldc2 X dX4_moment_40 q_677 ?_
    refine z_lret X (Nat.le_of_ble_eq_true rfl) (Nat.le_of_ble_eq_true rfl) ?_ dX4_moment_43
    exact ⟨rfl, rfl, rfl⟩
  · refine z_iload_n X 1 dX4_moment_4 rfl rfl ?_
    refine z_aload_n X 0 dX4_moment_5 rfl rfl ?_
    refine z_get X (v := .int (nI (cn 21))) 0 21 wa_X4 rfl rfl rfl (by decide) q_580 rfl rfl dX4_moment_6 ?_
    refine z_icmp_ge X (tgt := 40) dX4_moment_9 (by decide) (fun c9 => ?_) (fun c9 => by exfalso; exact hb ⟨c1, c9⟩)
    refine z_ldc2 X dX4_moment_40 q_677 ?_
    refine z_lret X (Nat.le_of_ble_eq_true rfl) (Nat.le_of_ble_eq_true rfl) ?_ dX4_moment_43
    exact ⟨rfl, rfl, rfl⟩
set_option maxHeartbeats 4000000 in
set_option maxRecDepth 100000 in
theorem m_rebale_i (l : Launch) (G : va_G) (cy : Nat → ClassId) (B : Nat) (ad : Nat → Nat) (cn : Nat → Nat) (u : Nat → Nat → Int32) (w : Nat → Nat → Int64) (x : Nat → Nat → UInt64) (hc5 : cn 5 ≤ 12) (a : Nat) (ha : a < cn 5) (b : Nat) (hb : b < cn 5) : Ct l G cy B yX4_rebale cX4_rebale 4 (some .int) ({ frames := 1, cells := 0, slots := 0, locals := 21 } : Room) ad (MF cy ad cn u w x) [.ref (ad 0), .int (nI a), .int (nI b)] (fun v ad' f' => v = some (.int (if okRebM cn u a b then nI (cn 5) else -1)) ∧ ad = ad' ∧ (if okRebM cn u a b then MF cy ad (va_up cn 5 (cn 5 + 1)) (va_up (va_up (va_up (va_up (va_up u 6 (upd (upd (upd (u 6) (cn 5) (nI 0)) a (nI 3)) b (nI 3))) 12 (upd (u 12) (cn 5) (nI a))) 13 (upd (u 13) (cn 5) (nI b))) 10 (upd (u 10) (cn 5) (-1))) 11 (upd (u 11) (cn 5) (-1))) w (va_up x 7 (vf_upd (x 7) (cn 5) (if dGt (x 7 a) (x 7 b) = true then x 7 a else x 7 b))) else MF cy ad cn u w x) = f') := by
  refine ct_of (by decide +kernel) (Nat.le_of_ble_eq_true rfl) ?_
  intro p e s m args below meth c X hnm
  refine z_lv (lv' := [(0, .ref (ad 0)), (1, .int (nI a)), (2, .int (nI b))]) [0, 1, 2] rfl ?_
  refine z_aload_n X 0 dX4_rebale_0 rfl rfl ?_
  refine z_iload_n X 1 dX4_rebale_1 rfl rfl ?_
  refine z_callV X (n := 1) (As := [.int (nI a)]) (rest := []) 0 rfl rfl rfl (m_isBale l G cy B ad cn u w x (nI a)) q_668 q_669 q_14 q_29 q_670 (by decide +kernel) ⟨Nat.le_of_ble_eq_true rfl, Nat.le_of_ble_eq_true rfl⟩ rfl rfl (Nat.le_of_ble_eq_true rfl) dX4_rebale_2 ⟨Nat.le_of_ble_eq_true rfl, Nat.le_of_ble_eq_true rfl⟩ (fun v ad' f' hp had => ?_)
  obtain ⟨rfl, rfl, rfl⟩ := hp
  refine z_st (st' := [.int (nI (if ¬ (nI a) < 0 ∧ ¬ nI (cn 5) ≤ (nI a) then 1 else 0))]) rfl ?_
  refine z_if_eqB X (tgt := 48) dX4_rebale_5 (by decide) (fun c5 => by exfalso; exact c5 ⟨nI_pos (by omega), nI_ge (by omega) (by omega)⟩) (fun c5 => ?_)
  refine z_aload_n X 0 dX4_rebale_8 rfl rfl ?_
  refine z_iload_n X 2 dX4_rebale_9 rfl rfl ?_
  refine z_callV X (n := 1) (As := [.int (nI b)]) (rest := []) 0 rfl rfl rfl (m_isBale l G cy B ad cn u w x (nI b)) q_668 q_669 q_14 q_29 q_670 (by decide +kernel) ⟨Nat.le_of_ble_eq_true rfl, Nat.le_of_ble_eq_true rfl⟩ rfl rfl (Nat.le_of_ble_eq_true rfl) dX4_rebale_10 ⟨Nat.le_of_ble_eq_true rfl, Nat.le_of_ble_eq_true rfl⟩ (fun v ad' f' hp had => ?_)
  obtain ⟨rfl, rfl, rfl⟩ := hp
  refine z_st (st' := [.int (nI (if ¬ (nI b) < 0 ∧ ¬ nI (cn 5) ≤ (nI b) then 1 else 0))]) rfl ?_
  refine z_if_eqB X (tgt := 48) dX4_rebale_13 (by decide) (fun c13 => by exfalso; exact c13 ⟨nI_pos (by omega), nI_ge (by omega) (by omega)⟩) (fun c13 => ?_)
  refine z_iload_n X 1 dX4_rebale_16 rfl rfl ?_
  refine z_iload_n X 2 dX4_rebale_17 rfl rfl ?_
  refine z_icmp_eqN X (tgt := 48) (by omega) (by omega) dX4_rebale_18 (by decide) (fun c18 => ?_) (fun c18 => ?_)
  · refine z_iconst X (v := -1) dX4_rebale_48 (by decide) ?_
    refine z_iret X (Nat.le_of_ble_eq_true rfl) (Nat.le_of_ble_eq_true rfl) ?_ dX4_rebale_49
    have h9 : ¬ okRebM cn u a b := fun h9 => h9.1 c18
    exact ⟨by rw [if_neg h9], rfl, by rw [if_neg h9]⟩
  · refine z_aload_n X 0 dX4_rebale_21 rfl rfl ?_
    refine z_get X (v := .ref (ad 6)) 0 6 wa_X4 rfl rfl rfl (by decide) q_565 rfl rfl dX4_rebale_22 ?_
    refine z_iload_n X 1 dX4_rebale_25 rfl rfl ?_
    refine z_ialdN X (n := 12) (g := u 6) 6 rfl rfl (by omega) (by decide) dX4_rebale_26 ?_
    refine z_if_ne X (tgt := 48) dX4_rebale_27 (by decide) (fun c27 => ?_) (fun c27 => ?_)
    · refine z_iconst X (v := -1) dX4_rebale_48 (by decide) ?_
      refine z_iret X (Nat.le_of_ble_eq_true rfl) (Nat.le_of_ble_eq_true rfl) ?_ dX4_rebale_49
      have h9 : ¬ okRebM cn u a b := fun h9 => c27 h9.2.1
      exact ⟨by rw [if_neg h9], rfl, by rw [if_neg h9]⟩
    · refine z_aload_n X 0 dX4_rebale_30 rfl rfl ?_
      refine z_get X (v := .ref (ad 6)) 0 6 wa_X4 rfl rfl rfl (by decide) q_565 rfl rfl dX4_rebale_31 ?_
      refine z_iload_n X 2 dX4_rebale_34 rfl rfl ?_
      refine z_ialdN X (n := 12) (g := u 6) 6 rfl rfl (by omega) (by decide) dX4_rebale_35 ?_
      refine z_if_ne X (tgt := 48) dX4_rebale_36 (by decide) (fun c36 => ?_) (fun c36 => ?_)
      · refine z_iconst X (v := -1) dX4_rebale_48 (by decide) ?_
        refine z_iret X (Nat.le_of_ble_eq_true rfl) (Nat.le_of_ble_eq_true rfl) ?_ dX4_rebale_49
        have h9 : ¬ okRebM cn u a b := fun h9 => c36 h9.2.2.1
        exact ⟨by rw [if_neg h9], rfl, by rw [if_neg h9]⟩
      · refine z_aload_n X 0 dX4_rebale_39 rfl rfl ?_
        refine z_get X (v := .int (nI (cn 5))) 0 5 wa_X4 rfl rfl rfl (by decide) q_564 rfl rfl dX4_rebale_40 ?_
        refine z_bipush X (v := nI 12) dX4_rebale_43 (by decide) ?_
        refine z_icmp_neN X (tgt := 50) (by omega) (by omega) dX4_rebale_45 (by decide) (fun c45 => ?_) (fun c45 => ?_)
        · refine z_aload_n X 0 dX4_rebale_50 rfl rfl ?_
          refine z_callV X (n := 0) (As := []) (rest := []) 0 rfl rfl rfl (m_make l G cy B ad cn u w x (by omega)) q_660 q_661 q_13 q_29 q_662 (by decide +kernel) ⟨Nat.le_of_ble_eq_true rfl, Nat.le_of_ble_eq_true rfl⟩ rfl rfl (Nat.le_of_ble_eq_true rfl) dX4_rebale_51 ⟨Nat.le_of_ble_eq_true rfl, Nat.le_of_ble_eq_true rfl⟩ (fun v ad' f' hp had => ?_)
          obtain ⟨rfl, rfl, rfl⟩ := hp
          refine z_st (st' := [.int (nI (cn 5))]) rfl ?_
          refine z_istore_n X (lv' := [(3, .int (nI (cn 5))), (0, .ref (ad 0)), (1, .int (nI a)), (2, .int (nI b))]) dX4_rebale_54 rfl (by decide) rfl ?_
          refine z_aload_n X 1 dX4_rebale_55 rfl rfl ?_
          refine z_get X (v := .ref (ad 12)) 0 12 wa_X4 rfl rfl rfl (by decide) q_571 rfl rfl dX4_rebale_56 ?_
          refine z_iload_n X 0 dX4_rebale_59 rfl rfl ?_
          refine z_iload_n X 2 dX4_rebale_60 rfl rfl ?_
          refine z_iastN X (n := 12) (g := upd (u 12) (cn 5) (-1)) 12 rfl rfl (by omega) (by decide) dX4_rebale_61 ?_
          refine z_f (MF_u 12 12 rfl (by decide) _) ?_
          refine z_f (congrArg (fun z => MF cy ad (va_up cn 5 (cn 5 + 1)) z w (va_up x 7 (vf_upd (x 7) (cn 5) 4626322717216342016))) (show va_up (va_up (va_up (va_up (va_up (va_up u 6 (upd (u 6) (cn 5) (nI 0))) 12 (upd (u 12) (cn 5) (-1))) 13 (upd (u 13) (cn 5) (-1))) 10 (upd (u 10) (cn 5) (-1))) 11 (upd (u 11) (cn 5) (-1))) 12 (upd (upd (u 12) (cn 5) (-1)) (cn 5) (nI a)) = va_up (va_up (va_up (va_up (va_up u 6 (upd (u 6) (cn 5) (nI 0))) 12 (upd (u 12) (cn 5) (nI a))) 13 (upd (u 13) (cn 5) (-1))) 10 (upd (u 10) (cn 5) (-1))) 11 (upd (u 11) (cn 5) (-1)) from by (try simp only [upd_uu, vfu_uu, vpu_uu]); funext z9; simp only [va_up]; (repeat' split) <;> first | rfl | omega | simp_all)) ?_
          refine z_aload_n X 1 dX4_rebale_62 rfl rfl ?_
          refine z_get X (v := .ref (ad 13)) 0 13 wa_X4 rfl rfl rfl (by decide) q_572 rfl rfl dX4_rebale_63 ?_
          refine z_iload_n X 0 dX4_rebale_66 rfl rfl ?_
          refine z_iload_n X 3 dX4_rebale_67 rfl rfl ?_
          refine z_iastN X (n := 12) (g := upd (u 13) (cn 5) (-1)) 13 rfl rfl (by omega) (by decide) dX4_rebale_68 ?_
          refine z_f (MF_u 13 12 rfl (by decide) _) ?_
          refine z_f (congrArg (fun z => MF cy ad (va_up cn 5 (cn 5 + 1)) z w (va_up x 7 (vf_upd (x 7) (cn 5) 4626322717216342016))) (show va_up (va_up (va_up (va_up (va_up (va_up u 6 (upd (u 6) (cn 5) (nI 0))) 12 (upd (u 12) (cn 5) (nI a))) 13 (upd (u 13) (cn 5) (-1))) 10 (upd (u 10) (cn 5) (-1))) 11 (upd (u 11) (cn 5) (-1))) 13 (upd (upd (u 13) (cn 5) (-1)) (cn 5) (nI b)) = va_up (va_up (va_up (va_up (va_up u 6 (upd (u 6) (cn 5) (nI 0))) 12 (upd (u 12) (cn 5) (nI a))) 13 (upd (u 13) (cn 5) (nI b))) 10 (upd (u 10) (cn 5) (-1))) 11 (upd (u 11) (cn 5) (-1)) from by (try simp only [upd_uu, vfu_uu, vpu_uu]); funext z9; simp only [va_up]; (repeat' split) <;> first | rfl | omega | simp_all)) ?_
          refine z_aload_n X 1 dX4_rebale_69 rfl rfl ?_
          refine z_get X (v := .ref (ad 7)) 0 7 wa_X4 rfl rfl rfl (by decide) q_566 rfl rfl dX4_rebale_70 ?_
          refine z_iload_n X 0 dX4_rebale_73 rfl rfl ?_
          refine z_aload_n X 1 dX4_rebale_74 rfl rfl ?_
          refine z_get X (v := .ref (ad 7)) 0 7 wa_X4 rfl rfl rfl (by decide) q_566 rfl rfl dX4_rebale_75 ?_
          refine z_iload_n X 2 dX4_rebale_78 rfl rfl ?_
          refine z_daldN X (n := 12) (g := vf_upd (x 7) (cn 5) 4626322717216342016) 7 rfl rfl (by omega) (by decide) dX4_rebale_79 ?_
          refine z_top (v' := .double (x 7 a)) (by exact congrArg Value.double (if_neg (by omega))) ?_
          refine z_aload_n X 1 dX4_rebale_80 rfl rfl ?_
          refine z_get X (v := .ref (ad 7)) 0 7 wa_X4 rfl rfl rfl (by decide) q_566 rfl rfl dX4_rebale_81 ?_
          refine z_iload_n X 3 dX4_rebale_84 rfl rfl ?_
          refine z_daldN X (n := 12) (g := vf_upd (x 7) (cn 5) 4626322717216342016) 7 rfl rfl (by omega) (by decide) dX4_rebale_85 ?_
          refine z_top (v' := .double (x 7 b)) (by exact congrArg Value.double (if_neg (by omega))) ?_
          refine z_dcmp_le X (tgt := 99) dX4_rebale_86 dX4_rebale_87 (by decide) (fun c86 => ?_) (fun c86 => ?_)
          · refine z_aload_n X 1 dX4_rebale_99 rfl rfl ?_
            refine z_get X (v := .ref (ad 7)) 0 7 wa_X4 rfl rfl rfl (by decide) q_566 rfl rfl dX4_rebale_100 ?_
            refine z_iload_n X 3 dX4_rebale_103 rfl rfl ?_
            refine z_daldN X (n := 12) (g := vf_upd (x 7) (cn 5) 4626322717216342016) 7 rfl rfl (by omega) (by decide) dX4_rebale_104 ?_
            refine z_top (v' := .double (x 7 b)) (by exact congrArg Value.double (if_neg (by omega))) ?_
            refine z_dastN X (n := 12) (g := vf_upd (x 7) (cn 5) 4626322717216342016) 7 rfl rfl (by omega) (by decide) dX4_rebale_105 ?_
            refine z_f (MF_x 7 12 rfl (by decide) _) ?_
            refine z_f (congrArg (fun z => MF cy ad (va_up cn 5 (cn 5 + 1)) (va_up (va_up (va_up (va_up (va_up u 6 (upd (u 6) (cn 5) (nI 0))) 12 (upd (u 12) (cn 5) (nI a))) 13 (upd (u 13) (cn 5) (nI b))) 10 (upd (u 10) (cn 5) (-1))) 11 (upd (u 11) (cn 5) (-1))) w z) (show va_up (va_up x 7 (vf_upd (x 7) (cn 5) 4626322717216342016)) 7 (vf_upd (vf_upd (x 7) (cn 5) 4626322717216342016) (cn 5) (x 7 b)) = va_up x 7 (vf_upd (x 7) (cn 5) (x 7 b)) from by (try simp only [upd_uu, vfu_uu, vpu_uu]); funext z9; simp only [va_up]; (repeat' split) <;> first | rfl | omega | simp_all)) ?_
            refine z_aload_n X 1 dX4_rebale_106 rfl rfl ?_
            refine z_get X (v := .ref (ad 6)) 0 6 wa_X4 rfl rfl rfl (by decide) q_565 rfl rfl dX4_rebale_107 ?_
            refine z_iload_n X 2 dX4_rebale_110 rfl rfl ?_
            refine z_iconst X (v := nI 3) dX4_rebale_111 (by decide) ?_
            refine z_iastN X (n := 12) (g := upd (u 6) (cn 5) (nI 0)) 6 rfl rfl (by omega) (by decide) dX4_rebale_112 ?_
            refine z_f (MF_u 6 12 rfl (by decide) _) ?_
            refine z_f (congrArg (fun z => MF cy ad (va_up cn 5 (cn 5 + 1)) z w (va_up x 7 (vf_upd (x 7) (cn 5) (x 7 b)))) (show va_up (va_up (va_up (va_up (va_up (va_up u 6 (upd (u 6) (cn 5) (nI 0))) 12 (upd (u 12) (cn 5) (nI a))) 13 (upd (u 13) (cn 5) (nI b))) 10 (upd (u 10) (cn 5) (-1))) 11 (upd (u 11) (cn 5) (-1))) 6 (upd (upd (u 6) (cn 5) (nI 0)) a (nI 3)) = va_up (va_up (va_up (va_up (va_up u 6 (upd (upd (u 6) (cn 5) (nI 0)) a (nI 3))) 12 (upd (u 12) (cn 5) (nI a))) 13 (upd (u 13) (cn 5) (nI b))) 10 (upd (u 10) (cn 5) (-1))) 11 (upd (u 11) (cn 5) (-1)) from by (try simp only [upd_uu, vfu_uu, vpu_uu]); funext z9; simp only [va_up]; (repeat' split) <;> first | rfl | omega | simp_all)) ?_
            refine z_aload_n X 1 dX4_rebale_113 rfl rfl ?_
            refine z_get X (v := .ref (ad 6)) 0 6 wa_X4 rfl rfl rfl (by decide) q_565 rfl rfl dX4_rebale_114 ?_
            refine z_iload_n X 3 dX4_rebale_117 rfl rfl ?_
            refine z_iconst X (v := nI 3) dX4_rebale_118 (by decide) ?_
            refine z_iastN X (n := 12) (g := upd (upd (u 6) (cn 5) (nI 0)) a (nI 3)) 6 rfl rfl (by omega) (by decide) dX4_rebale_119 ?_
            refine z_f (MF_u 6 12 rfl (by decide) _) ?_
            refine z_f (congrArg (fun z => MF cy ad (va_up cn 5 (cn 5 + 1)) z w (va_up x 7 (vf_upd (x 7) (cn 5) (x 7 b)))) (show va_up (va_up (va_up (va_up (va_up (va_up u 6 (upd (upd (u 6) (cn 5) (nI 0)) a (nI 3))) 12 (upd (u 12) (cn 5) (nI a))) 13 (upd (u 13) (cn 5) (nI b))) 10 (upd (u 10) (cn 5) (-1))) 11 (upd (u 11) (cn 5) (-1))) 6 (upd (upd (upd (u 6) (cn 5) (nI 0)) a (nI 3)) b (nI 3)) = va_up (va_up (va_up (va_up (va_up u 6 (upd (upd (upd (u 6) (cn 5) (nI 0)) a (nI 3)) b (nI 3))) 12 (upd (u 12) (cn 5) (nI a))) 13 (upd (u 13) (cn 5) (nI b))) 10 (upd (u 10) (cn 5) (-1))) 11 (upd (u 11) (cn 5) (-1)) from by (try simp only [upd_uu, vfu_uu, vpu_uu]); funext z9; simp only [va_up]; (repeat' split) <;> first | rfl | omega | simp_all)) ?_
            refine z_iload_n X 0 dX4_rebale_120 rfl rfl ?_
            refine z_iret X (Nat.le_of_ble_eq_true rfl) (Nat.le_of_ble_eq_true rfl) ?_ dX4_rebale_121
            have h9 : okRebM cn u a b := ⟨c18, by simpa using c27, by simpa using c36, c45⟩
            exact ⟨by rw [if_pos h9], rfl, by rw [if_pos h9, if_neg (by rw [c86]; exact Bool.false_ne_true)]⟩
          · refine z_aload_n X 1 dX4_rebale_90 rfl rfl ?_
            refine z_get X (v := .ref (ad 7)) 0 7 wa_X4 rfl rfl rfl (by decide) q_566 rfl rfl dX4_rebale_91 ?_
            refine z_iload_n X 2 dX4_rebale_94 rfl rfl ?_
            refine z_daldN X (n := 12) (g := vf_upd (x 7) (cn 5) 4626322717216342016) 7 rfl rfl (by omega) (by decide) dX4_rebale_95 ?_
            refine z_top (v' := .double (x 7 a)) (by exact congrArg Value.double (if_neg (by omega))) ?_
            refine z_goto X (tgt := 105) dX4_rebale_96 (by decide) ?_
            refine z_dastN X (n := 12) (g := vf_upd (x 7) (cn 5) 4626322717216342016) 7 rfl rfl (by omega) (by decide) dX4_rebale_105 ?_
            refine z_f (MF_x 7 12 rfl (by decide) _) ?_
            refine z_f (congrArg (fun z => MF cy ad (va_up cn 5 (cn 5 + 1)) (va_up (va_up (va_up (va_up (va_up u 6 (upd (u 6) (cn 5) (nI 0))) 12 (upd (u 12) (cn 5) (nI a))) 13 (upd (u 13) (cn 5) (nI b))) 10 (upd (u 10) (cn 5) (-1))) 11 (upd (u 11) (cn 5) (-1))) w z) (show va_up (va_up x 7 (vf_upd (x 7) (cn 5) 4626322717216342016)) 7 (vf_upd (vf_upd (x 7) (cn 5) 4626322717216342016) (cn 5) (x 7 a)) = va_up x 7 (vf_upd (x 7) (cn 5) (x 7 a)) from by (try simp only [upd_uu, vfu_uu, vpu_uu]); funext z9; simp only [va_up]; (repeat' split) <;> first | rfl | omega | simp_all)) ?_
            refine z_aload_n X 1 dX4_rebale_106 rfl rfl ?_
            refine z_get X (v := .ref (ad 6)) 0 6 wa_X4 rfl rfl rfl (by decide) q_565 rfl rfl dX4_rebale_107 ?_
            refine z_iload_n X 2 dX4_rebale_110 rfl rfl ?_
            refine z_iconst X (v := nI 3) dX4_rebale_111 (by decide) ?_
            refine z_iastN X (n := 12) (g := upd (u 6) (cn 5) (nI 0)) 6 rfl rfl (by omega) (by decide) dX4_rebale_112 ?_
            refine z_f (MF_u 6 12 rfl (by decide) _) ?_
            refine z_f (congrArg (fun z => MF cy ad (va_up cn 5 (cn 5 + 1)) z w (va_up x 7 (vf_upd (x 7) (cn 5) (x 7 a)))) (show va_up (va_up (va_up (va_up (va_up (va_up u 6 (upd (u 6) (cn 5) (nI 0))) 12 (upd (u 12) (cn 5) (nI a))) 13 (upd (u 13) (cn 5) (nI b))) 10 (upd (u 10) (cn 5) (-1))) 11 (upd (u 11) (cn 5) (-1))) 6 (upd (upd (u 6) (cn 5) (nI 0)) a (nI 3)) = va_up (va_up (va_up (va_up (va_up u 6 (upd (upd (u 6) (cn 5) (nI 0)) a (nI 3))) 12 (upd (u 12) (cn 5) (nI a))) 13 (upd (u 13) (cn 5) (nI b))) 10 (upd (u 10) (cn 5) (-1))) 11 (upd (u 11) (cn 5) (-1)) from by (try simp only [upd_uu, vfu_uu, vpu_uu]); funext z9; simp only [va_up]; (repeat' split) <;> first | rfl | omega | simp_all)) ?_
            refine z_aload_n X 1 dX4_rebale_113 rfl rfl ?_
            refine z_get X (v := .ref (ad 6)) 0 6 wa_X4 rfl rfl rfl (by decide) q_565 rfl rfl dX4_rebale_114 ?_
            refine z_iload_n X 3 dX4_rebale_117 rfl rfl ?_
            refine z_iconst X (v := nI 3) dX4_rebale_118 (by decide) ?_
            refine z_iastN X (n := 12) (g := upd (upd (u 6) (cn 5) (nI 0)) a (nI 3)) 6 rfl rfl (by omega) (by decide) dX4_rebale_119 ?_
            refine z_f (MF_u 6 12 rfl (by decide) _) ?_
            refine z_f (congrArg (fun z => MF cy ad (va_up cn 5 (cn 5 + 1)) z w (va_up x 7 (vf_upd (x 7) (cn 5) (x 7 a)))) (show va_up (va_up (va_up (va_up (va_up (va_up u 6 (upd (upd (u 6) (cn 5) (nI 0)) a (nI 3))) 12 (upd (u 12) (cn 5) (nI a))) 13 (upd (u 13) (cn 5) (nI b))) 10 (upd (u 10) (cn 5) (-1))) 11 (upd (u 11) (cn 5) (-1))) 6 (upd (upd (upd (u 6) (cn 5) (nI 0)) a (nI 3)) b (nI 3)) = va_up (va_up (va_up (va_up (va_up u 6 (upd (upd (upd (u 6) (cn 5) (nI 0)) a (nI 3)) b (nI 3))) 12 (upd (u 12) (cn 5) (nI a))) 13 (upd (u 13) (cn 5) (nI b))) 10 (upd (u 10) (cn 5) (-1))) 11 (upd (u 11) (cn 5) (-1)) from by (try simp only [upd_uu, vfu_uu, vpu_uu]); funext z9; simp only [va_up]; (repeat' split) <;> first | rfl | omega | simp_all)) ?_
            refine z_iload_n X 0 dX4_rebale_120 rfl rfl ?_
            refine z_iret X (Nat.le_of_ble_eq_true rfl) (Nat.le_of_ble_eq_true rfl) ?_ dX4_rebale_121
            have h9 : okRebM cn u a b := ⟨c18, by simpa using c27, by simpa using c36, c45⟩
            exact ⟨by rw [if_pos h9], rfl, by rw [if_pos h9, if_pos c86]⟩
        · refine z_iconst X (v := -1) dX4_rebale_48 (by decide) ?_
          refine z_iret X (Nat.le_of_ble_eq_true rfl) (Nat.le_of_ble_eq_true rfl) ?_ dX4_rebale_49
          have h9 : ¬ okRebM cn u a b := fun h9 => h9.2.2.2 c45
          exact ⟨by rw [if_neg h9], rfl, by rw [if_neg h9]⟩
set_option maxHeartbeats 4000000 in
set_option maxRecDepth 100000 in
theorem m_rebale_o1 (l : Launch) (G : va_G) (cy : Nat → ClassId) (B : Nat) (ad : Nat → Nat) (cn : Nat → Nat) (u : Nat → Nat → Int32) (w : Nat → Nat → Int64) (x : Nat → Nat → UInt64) (b : Int32) (hb : ¬ (¬ b < 0 ∧ ¬ nI (cn 5) ≤ b)) (c2 : Int32) : Ct l G cy B yX4_rebale cX4_rebale 4 (some .int) ({ frames := 1, cells := 0, slots := 0, locals := 21 } : Room) ad (MF cy ad cn u w x) [.ref (ad 0), .int b, .int c2] (fun v ad' f' => v = some (.int (-1)) ∧ ad = ad' ∧ MF cy ad cn u w x = f') := by
  refine ct_of (by decide +kernel) (Nat.le_of_ble_eq_true rfl) ?_
  intro p e s m args below meth c X hnm
  refine z_lv (lv' := [(0, .ref (ad 0)), (1, .int b), (2, .int c2)]) [0, 1, 2] rfl ?_
  refine z_aload_n X 0 dX4_rebale_0 rfl rfl ?_
  refine z_iload_n X 1 dX4_rebale_1 rfl rfl ?_
  refine z_callV X (n := 1) (As := [.int b]) (rest := []) 0 rfl rfl rfl (m_isBale l G cy B ad cn u w x b) q_668 q_669 q_14 q_29 q_670 (by decide +kernel) ⟨Nat.le_of_ble_eq_true rfl, Nat.le_of_ble_eq_true rfl⟩ rfl rfl (Nat.le_of_ble_eq_true rfl) dX4_rebale_2 ⟨Nat.le_of_ble_eq_true rfl, Nat.le_of_ble_eq_true rfl⟩ (fun v ad' f' hp had => ?_)
  obtain ⟨rfl, rfl, rfl⟩ := hp
  refine z_st (st' := [.int (nI (if ¬ b < 0 ∧ ¬ nI (cn 5) ≤ b then 1 else 0))]) rfl ?_
  refine z_if_eqB X (tgt := 48) dX4_rebale_5 (by decide) (fun c5 => ?_) (fun c5 => by exfalso; exact hb c5)
  refine z_iconst X (v := -1) dX4_rebale_48 (by decide) ?_
  refine z_iret X (Nat.le_of_ble_eq_true rfl) (Nat.le_of_ble_eq_true rfl) ?_ dX4_rebale_49
  exact ⟨rfl, rfl, rfl⟩
set_option maxHeartbeats 4000000 in
set_option maxRecDepth 100000 in
theorem m_rebale_o2 (l : Launch) (G : va_G) (cy : Nat → ClassId) (B : Nat) (ad : Nat → Nat) (cn : Nat → Nat) (u : Nat → Nat → Int32) (w : Nat → Nat → Int64) (x : Nat → Nat → UInt64) (hc5 : cn 5 ≤ 12) (a : Nat) (ha : a < cn 5) (b : Int32) (hb : ¬ (¬ b < 0 ∧ ¬ nI (cn 5) ≤ b)) : Ct l G cy B yX4_rebale cX4_rebale 4 (some .int) ({ frames := 1, cells := 0, slots := 0, locals := 21 } : Room) ad (MF cy ad cn u w x) [.ref (ad 0), .int (nI a), .int b] (fun v ad' f' => v = some (.int (-1)) ∧ ad = ad' ∧ MF cy ad cn u w x = f') := by
  refine ct_of (by decide +kernel) (Nat.le_of_ble_eq_true rfl) ?_
  intro p e s m args below meth c X hnm
  refine z_lv (lv' := [(0, .ref (ad 0)), (1, .int (nI a)), (2, .int b)]) [0, 1, 2] rfl ?_
  refine z_aload_n X 0 dX4_rebale_0 rfl rfl ?_
  refine z_iload_n X 1 dX4_rebale_1 rfl rfl ?_
  refine z_callV X (n := 1) (As := [.int (nI a)]) (rest := []) 0 rfl rfl rfl (m_isBale l G cy B ad cn u w x (nI a)) q_668 q_669 q_14 q_29 q_670 (by decide +kernel) ⟨Nat.le_of_ble_eq_true rfl, Nat.le_of_ble_eq_true rfl⟩ rfl rfl (Nat.le_of_ble_eq_true rfl) dX4_rebale_2 ⟨Nat.le_of_ble_eq_true rfl, Nat.le_of_ble_eq_true rfl⟩ (fun v ad' f' hp had => ?_)
  obtain ⟨rfl, rfl, rfl⟩ := hp
  refine z_st (st' := [.int (nI (if ¬ (nI a) < 0 ∧ ¬ nI (cn 5) ≤ (nI a) then 1 else 0))]) rfl ?_
  refine z_if_eqB X (tgt := 48) dX4_rebale_5 (by decide) (fun c5 => by exfalso; exact c5 ⟨nI_pos (by omega), nI_ge (by omega) (by omega)⟩) (fun c5 => ?_)
  refine z_aload_n X 0 dX4_rebale_8 rfl rfl ?_
  refine z_iload_n X 2 dX4_rebale_9 rfl rfl ?_
  refine z_callV X (n := 1) (As := [.int b]) (rest := []) 0 rfl rfl rfl (m_isBale l G cy B ad cn u w x b) q_668 q_669 q_14 q_29 q_670 (by decide +kernel) ⟨Nat.le_of_ble_eq_true rfl, Nat.le_of_ble_eq_true rfl⟩ rfl rfl (Nat.le_of_ble_eq_true rfl) dX4_rebale_10 ⟨Nat.le_of_ble_eq_true rfl, Nat.le_of_ble_eq_true rfl⟩ (fun v ad' f' hp had => ?_)
  obtain ⟨rfl, rfl, rfl⟩ := hp
  refine z_st (st' := [.int (nI (if ¬ b < 0 ∧ ¬ nI (cn 5) ≤ b then 1 else 0))]) rfl ?_
  refine z_if_eqB X (tgt := 48) dX4_rebale_13 (by decide) (fun c13 => ?_) (fun c13 => by exfalso; exact hb c13)
  refine z_iconst X (v := -1) dX4_rebale_48 (by decide) ?_
  refine z_iret X (Nat.le_of_ble_eq_true rfl) (Nat.le_of_ble_eq_true rfl) ?_ dX4_rebale_49
  exact ⟨rfl, rfl, rfl⟩
set_option maxHeartbeats 4000000 in
set_option maxRecDepth 100000 in
theorem m_brought_i (l : Launch) (G : va_G) (cy : Nat → ClassId) (B : Nat) (ad : Nat → Nat) (cn : Nat → Nat) (u : Nat → Nat → Int32) (w : Nat → Nat → Int64) (x : Nat → Nat → UInt64) (hc0 : cn 0 ≤ 200) (hc5 : cn 5 ≤ 12) (hfo : ∀ b, b < cn 5 → ¬ u 12 b < 0 → ∃ a1 a2, a1 < 12 ∧ a2 < 12 ∧ u 12 b = nI a1 ∧ u 13 b = nI a2) (j : Nat) (hj : j < cn 5) (k pt : Int32) : Ct l G cy B yX4_brought cX4_brought 4 (some .long) ({ frames := 2, cells := 0, slots := 0, locals := 49 } : Room) ad (MF cy ad cn u w x) [.ref (ad 0), .int (nI j), .int k, .int pt] (fun v ad' f' => v = some (.long (if okKind k ∧ okPart pt then (if u 12 j < 0 then 0 else if pt = 0 then gramsM cn u w (u 12 j).toNatClampNeg k else gramsM cn u w (u 13 j).toNatClampNeg k) else -1)) ∧ ad = ad' ∧ MF cy ad cn u w x = f') := by
  refine ct_of (by decide +kernel) (Nat.le_of_ble_eq_true rfl) ?_
  intro p e s m args below meth c X hnm
  refine z_lv (lv' := [(0, .ref (ad 0)), (1, .int (nI j)), (2, .int k), (3, .int pt)]) [0, 1, 2, 3] rfl ?_
  refine z_aload_n X 0 dX4_brought_0 rfl rfl ?_
  refine z_iload_n X 1 dX4_brought_1 rfl rfl ?_
  refine z_callV X (n := 1) (As := [.int (nI j)]) (rest := []) 0 rfl rfl rfl (m_isBale l G cy B ad cn u w x (nI j)) q_668 q_669 q_14 q_29 q_670 (by decide +kernel) ⟨Nat.le_of_ble_eq_true rfl, Nat.le_of_ble_eq_true rfl⟩ rfl rfl (Nat.le_of_ble_eq_true rfl) dX4_brought_2 ⟨Nat.le_of_ble_eq_true rfl, Nat.le_of_ble_eq_true rfl⟩ (fun v ad' f' hp had => ?_)
  obtain ⟨rfl, rfl, rfl⟩ := hp
  refine z_st (st' := [.int (nI (if ¬ (nI j) < 0 ∧ ¬ nI (cn 5) ≤ (nI j) then 1 else 0))]) rfl ?_
  refine z_if_eqB X (tgt := 25) dX4_brought_5 (by decide) (fun c5 => by exfalso; exact c5 ⟨nI_pos (by omega), nI_ge (by omega) (by omega)⟩) (fun c5 => ?_)
  refine z_iload_n X 2 dX4_brought_8 rfl rfl ?_
  refine z_callS X (n := 1) (As := [.int k]) (rest := []) (c_X4_isKind l G cy B ad (MF cy ad cn u w x) k) q_648 q_649 q_29 q_650 (by decide +kernel) ⟨Nat.le_of_ble_eq_true rfl, Nat.le_of_ble_eq_true rfl⟩ rfl rfl (Nat.le_of_ble_eq_true rfl) dX4_brought_9 ⟨Nat.le_of_ble_eq_true rfl, Nat.le_of_ble_eq_true rfl⟩ (fun v ad' f' hp had => ?_)
  obtain ⟨rfl, rfl, rfl⟩ := hp
  refine z_st (st' := [.int (nI (if okKind k then 1 else 0))]) rfl ?_
  refine z_if_eqB X (tgt := 25) dX4_brought_12 (by decide) (fun c12 => ?_) (fun c12 => ?_)
  · refine z_ldc2 X dX4_brought_25 q_677 ?_
    refine z_lret X (Nat.le_of_ble_eq_true rfl) (Nat.le_of_ble_eq_true rfl) ?_ dX4_brought_28
    exact ⟨by rw [if_neg (fun h => c12 h.1)], rfl, rfl⟩
  · refine z_iload_n X 3 dX4_brought_15 rfl rfl ?_
    refine z_i2l X dX4_brought_16 ?_
    refine z_lconst X (v := 0) dX4_brought_17 rfl ?_
    refine z_lconst X (v := 1) dX4_brought_18 rfl ?_
    refine z_callS X (n := 3) (As := [.long pt.toInt64, .long 0, .long 1]) (rest := []) (c_X4_isIn l G cy B ad (MF cy ad cn u w x) pt.toInt64 0 1) q_652 q_653 q_29 q_654 (by decide +kernel) ⟨Nat.le_of_ble_eq_true rfl, Nat.le_of_ble_eq_true rfl⟩ rfl rfl (Nat.le_of_ble_eq_true rfl) dX4_brought_19 ⟨Nat.le_of_ble_eq_true rfl, Nat.le_of_ble_eq_true rfl⟩ (fun v ad' f' hp had => ?_)
    obtain ⟨rfl, rfl, rfl⟩ := hp
    refine z_st (st' := [.int (nI (if 0 ≤ pt.toInt64 ∧ pt.toInt64 ≤ 1 then 1 else 0))]) rfl ?_
    refine z_if_neB X (tgt := 29) dX4_brought_22 (by decide) (fun c22 => ?_) (fun c22 => ?_)
    · refine z_aload_n X 0 dX4_brought_29 rfl rfl ?_
      refine z_get X (v := .ref (ad 12)) 0 12 wa_X4 rfl rfl rfl (by decide) q_571 rfl rfl dX4_brought_30 ?_
      refine z_iload_n X 1 dX4_brought_33 rfl rfl ?_
      refine z_ialdN X (n := 12) (g := u 12) 12 rfl rfl (by omega) (by decide) dX4_brought_34 ?_
      refine z_if_ge X (tgt := 40) dX4_brought_35 (by decide) (fun c35 => ?_) (fun c35 => ?_)
      · obtain ⟨a1, a2, ha1, ha2, e1, e2⟩ := hfo j hj (Int32.not_lt.mpr c35)
        refine z_aload_n X 0 dX4_brought_40 rfl rfl ?_
        refine z_iload_n X 3 dX4_brought_41 rfl rfl ?_
        refine z_if_ne X (tgt := 54) dX4_brought_42 (by decide) (fun c42 => ?_) (fun c42 => ?_)
        · refine z_aload_n X 0 dX4_brought_54 rfl rfl ?_
          refine z_get X (v := .ref (ad 13)) 0 13 wa_X4 rfl rfl rfl (by decide) q_572 rfl rfl dX4_brought_55 ?_
          refine z_iload_n X 1 dX4_brought_58 rfl rfl ?_
          refine z_ialdN X (n := 12) (g := u 13) 13 rfl rfl (by omega) (by decide) dX4_brought_59 ?_
          refine z_top (v' := .int (nI a2)) (by rw [e2]) ?_
          refine z_iload_n X 2 dX4_brought_60 rfl rfl ?_
          refine z_callV X (n := 2) (As := [.int (nI a2), .int k]) (rest := []) 0 rfl rfl rfl (m_gramsOf l G cy B ad cn u w x hc0 a2 (by omega) k) q_671 q_672 q_15 q_29 q_673 (by decide +kernel) ⟨Nat.le_of_ble_eq_true rfl, Nat.le_of_ble_eq_true rfl⟩ rfl rfl (Nat.le_of_ble_eq_true rfl) dX4_brought_61 ⟨Nat.le_of_ble_eq_true rfl, Nat.le_of_ble_eq_true rfl⟩ (fun v ad' f' hp had => ?_)
          obtain ⟨rfl, rfl, rfl⟩ := hp
          refine z_st (st' := [.long (gramsM cn u w a2 k)]) rfl ?_
          refine z_lret X (Nat.le_of_ble_eq_true rfl) (Nat.le_of_ble_eq_true rfl) ?_ dX4_brought_64
          exact ⟨by rw [if_pos ⟨c12, c22⟩, if_neg (Int32.not_lt.mpr c35), if_neg c42, e2, nI_clamp (by omega)], rfl, rfl⟩
        · refine z_aload_n X 0 dX4_brought_45 rfl rfl ?_
          refine z_get X (v := .ref (ad 12)) 0 12 wa_X4 rfl rfl rfl (by decide) q_571 rfl rfl dX4_brought_46 ?_
          refine z_iload_n X 1 dX4_brought_49 rfl rfl ?_
          refine z_ialdN X (n := 12) (g := u 12) 12 rfl rfl (by omega) (by decide) dX4_brought_50 ?_
          refine z_top (v' := .int (nI a1)) (by rw [e1]) ?_
          refine z_goto X (tgt := 60) dX4_brought_51 (by decide) ?_
          refine z_iload_n X 2 dX4_brought_60 rfl rfl ?_
          refine z_callV X (n := 2) (As := [.int (nI a1), .int k]) (rest := []) 0 rfl rfl rfl (m_gramsOf l G cy B ad cn u w x hc0 a1 (by omega) k) q_671 q_672 q_15 q_29 q_673 (by decide +kernel) ⟨Nat.le_of_ble_eq_true rfl, Nat.le_of_ble_eq_true rfl⟩ rfl rfl (Nat.le_of_ble_eq_true rfl) dX4_brought_61 ⟨Nat.le_of_ble_eq_true rfl, Nat.le_of_ble_eq_true rfl⟩ (fun v ad' f' hp had => ?_)
          obtain ⟨rfl, rfl, rfl⟩ := hp
          refine z_st (st' := [.long (gramsM cn u w a1 k)]) rfl ?_
          refine z_lret X (Nat.le_of_ble_eq_true rfl) (Nat.le_of_ble_eq_true rfl) ?_ dX4_brought_64
          exact ⟨by rw [if_pos ⟨c12, c22⟩, if_neg (Int32.not_lt.mpr c35), if_pos c42, e1, nI_clamp (by omega)], rfl, rfl⟩
      · refine z_lconst X (v := 0) dX4_brought_38 rfl ?_
        refine z_lret X (Nat.le_of_ble_eq_true rfl) (Nat.le_of_ble_eq_true rfl) ?_ dX4_brought_39
        exact ⟨by rw [if_pos ⟨c12, c22⟩, if_pos (Int32.not_le.mp c35)], rfl, rfl⟩
    · refine z_ldc2 X dX4_brought_25 q_677 ?_
      refine z_lret X (Nat.le_of_ble_eq_true rfl) (Nat.le_of_ble_eq_true rfl) ?_ dX4_brought_28
      exact ⟨by rw [if_neg (fun h => c22 h.2)], rfl, rfl⟩
set_option maxHeartbeats 4000000 in
set_option maxRecDepth 100000 in
theorem m_brought_o (l : Launch) (G : va_G) (cy : Nat → ClassId) (B : Nat) (ad : Nat → Nat) (cn : Nat → Nat) (u : Nat → Nat → Int32) (w : Nat → Nat → Int64) (x : Nat → Nat → UInt64) (b : Int32) (hb : ¬ (¬ b < 0 ∧ ¬ nI (cn 5) ≤ b)) (k pt : Int32) : Ct l G cy B yX4_brought cX4_brought 4 (some .long) ({ frames := 1, cells := 0, slots := 0, locals := 21 } : Room) ad (MF cy ad cn u w x) [.ref (ad 0), .int b, .int k, .int pt] (fun v ad' f' => v = some (.long (-1)) ∧ ad = ad' ∧ MF cy ad cn u w x = f') := by
  refine ct_of (by decide +kernel) (Nat.le_of_ble_eq_true rfl) ?_
  intro p e s m args below meth c X hnm
  refine z_lv (lv' := [(0, .ref (ad 0)), (1, .int b), (2, .int k), (3, .int pt)]) [0, 1, 2, 3] rfl ?_
  refine z_aload_n X 0 dX4_brought_0 rfl rfl ?_
  refine z_iload_n X 1 dX4_brought_1 rfl rfl ?_
  refine z_callV X (n := 1) (As := [.int b]) (rest := []) 0 rfl rfl rfl (m_isBale l G cy B ad cn u w x b) q_668 q_669 q_14 q_29 q_670 (by decide +kernel) ⟨Nat.le_of_ble_eq_true rfl, Nat.le_of_ble_eq_true rfl⟩ rfl rfl (Nat.le_of_ble_eq_true rfl) dX4_brought_2 ⟨Nat.le_of_ble_eq_true rfl, Nat.le_of_ble_eq_true rfl⟩ (fun v ad' f' hp had => ?_)
  obtain ⟨rfl, rfl, rfl⟩ := hp
  refine z_st (st' := [.int (nI (if ¬ b < 0 ∧ ¬ nI (cn 5) ≤ b then 1 else 0))]) rfl ?_
  refine z_if_eqB X (tgt := 25) dX4_brought_5 (by decide) (fun c5 => ?_) (fun c5 => by exfalso; exact hb c5)
  refine z_ldc2 X dX4_brought_25 q_677 ?_
  refine z_lret X (Nat.le_of_ble_eq_true rfl) (Nat.le_of_ble_eq_true rfl) ?_ dX4_brought_28
  exact ⟨rfl, rfl, rfl⟩
set_option maxHeartbeats 4000000 in
set_option maxRecDepth 100000 in
theorem m_say (l : Launch) (G : va_G) (cy : Nat → ClassId) (B : Nat) (ad : Nat → Nat) (cn : Nat → Nat) (u : Nat → Nat → Int32) (w : Nat → Nat → Int64) (x : Nat → Nat → UInt64) (ch : Int32) : Ct l G cy B yX4_say cX4_say 2 none ({ frames := 0, cells := 0, slots := 0, locals := 0 } : Room) ad (MF cy ad cn u w x) [.ref (ad 0), .int ch] (fun v ad' f' => v = none ∧ ad = ad' ∧ MF cy ad cn (va_up u 0 (upd (upd (u 0) 27 (if u 0 26 = 0 then ch else u 0 27)) 26 (u 0 26 - nI 1))) w x = f') := by
  refine ct_of (by decide +kernel) (Nat.le_of_ble_eq_true rfl) ?_
  intro p e s m args below meth c X hnm
  refine z_lv (lv' := [(0, .ref (ad 0)), (1, .int ch)]) [0, 1] rfl ?_
  refine z_aload_n X 0 dX4_say_0 rfl rfl ?_
  refine z_aload_n X 0 dX4_say_1 rfl rfl ?_
  refine z_get X (v := .int (u 0 26)) 0 26 wa_X4 rfl rfl rfl (by decide) q_585 rfl rfl dX4_say_2 ?_
  refine z_if_ne X (tgt := 12) dX4_say_5 (by decide) (fun c5 => ?_) (fun c5 => ?_)
  · refine z_aload_n X 0 dX4_say_12 rfl rfl ?_
    refine z_get X (v := .int (u 0 27)) 0 27 wa_X4 rfl rfl rfl (by decide) q_586 rfl rfl dX4_say_13 ?_
    refine z_put X (ty := .int) 0 27 wa_X4 tyX4 tyX4_ok nmX4 rfl rfl rfl (by decide) q_586 rfl rfl (by decide +kernel) rfl rfl (Nat.le_of_ble_eq_true rfl) dX4_say_16 ?_
    refine z_f (MF_o (cn' := cn) (g := upd (u 0) 27 (u 0 27)) rfl) ?_
    refine z_aload_n X 0 dX4_say_19 rfl rfl ?_
    refine z_dup X dX4_say_20 rfl ?_
    refine z_get X (v := .int (u 0 26)) 0 26 wa_X4 rfl rfl rfl (by decide) q_585 rfl rfl dX4_say_21 ?_
    refine z_iconst X (v := nI 1) dX4_say_24 (by decide) ?_
    refine z_isub X dX4_say_25 ?_
    refine z_put X (ty := .int) 0 26 wa_X4 tyX4 tyX4_ok nmX4 rfl rfl rfl (by decide) q_585 rfl rfl (by decide +kernel) rfl rfl (Nat.le_of_ble_eq_true rfl) dX4_say_26 ?_
    refine z_f (MF_o (cn' := cn) (g := upd (upd (u 0) 27 (u 0 27)) 26 ((u 0 26) - (nI 1))) rfl) ?_
    refine z_f (congrArg (fun z => MF cy ad cn z w x) (show va_up (va_up u 0 (upd (u 0) 27 (u 0 27))) 0 (upd (upd (u 0) 27 (u 0 27)) 26 ((u 0 26) - (nI 1))) = va_up u 0 (upd (upd (u 0) 27 (u 0 27)) 26 ((u 0 26) - (nI 1))) from by (try simp only [upd_uu, vfu_uu, vpu_uu]); funext z9; simp only [va_up]; (repeat' split) <;> first | rfl | omega | simp_all)) ?_
    refine z_vret X (Nat.le_of_ble_eq_true rfl) (Nat.le_of_ble_eq_true rfl) ?_ dX4_say_29
    exact ⟨rfl, rfl, by rw [if_neg c5]⟩
  · refine z_iload_n X 1 dX4_say_8 rfl rfl ?_
    refine z_goto X (tgt := 16) dX4_say_9 (by decide) ?_
    refine z_put X (ty := .int) 0 27 wa_X4 tyX4 tyX4_ok nmX4 rfl rfl rfl (by decide) q_586 rfl rfl (by decide +kernel) rfl rfl (Nat.le_of_ble_eq_true rfl) dX4_say_16 ?_
    refine z_f (MF_o (cn' := cn) (g := upd (u 0) 27 ch) rfl) ?_
    refine z_aload_n X 0 dX4_say_19 rfl rfl ?_
    refine z_dup X dX4_say_20 rfl ?_
    refine z_get X (v := .int (u 0 26)) 0 26 wa_X4 rfl rfl rfl (by decide) q_585 rfl rfl dX4_say_21 ?_
    refine z_iconst X (v := nI 1) dX4_say_24 (by decide) ?_
    refine z_isub X dX4_say_25 ?_
    refine z_put X (ty := .int) 0 26 wa_X4 tyX4 tyX4_ok nmX4 rfl rfl rfl (by decide) q_585 rfl rfl (by decide +kernel) rfl rfl (Nat.le_of_ble_eq_true rfl) dX4_say_26 ?_
    refine z_f (MF_o (cn' := cn) (g := upd (upd (u 0) 27 ch) 26 ((u 0 26) - (nI 1))) rfl) ?_
    refine z_f (congrArg (fun z => MF cy ad cn z w x) (show va_up (va_up u 0 (upd (u 0) 27 ch)) 0 (upd (upd (u 0) 27 ch) 26 ((u 0 26) - (nI 1))) = va_up u 0 (upd (upd (u 0) 27 ch) 26 ((u 0 26) - (nI 1))) from by (try simp only [upd_uu, vfu_uu, vpu_uu]); funext z9; simp only [va_up]; (repeat' split) <;> first | rfl | omega | simp_all)) ?_
    refine z_vret X (Nat.le_of_ble_eq_true rfl) (Nat.le_of_ble_eq_true rfl) ?_ dX4_say_29
    exact ⟨rfl, rfl, by rw [if_pos (by simpa using c5)]⟩
theorem m_sayT (l : Launch) (G : va_G) (cy : Nat → ClassId) (B : Nat) (ad : Nat → Nat) (cn : Nat → Nat) (u : Nat → Nat → Int32) (w : Nat → Nat → Int64) (x : Nat → Nat → UInt64) (T : Nat → Nat) (i p : Nat) (hi : i < 2 ^ 31) (hp : p < 2 ^ 31) (ch : Int32) (h : ch = nI (T p)) : Ct l G cy B yX4_say cX4_say 2 none ({ frames := 0, cells := 0, slots := 0, locals := 0 } : Room) ad (MF cy ad cn (sayU u T i p) w x) [.ref (ad 0), .int ch] (fun v ad' f' => v = none ∧ ad = ad' ∧ MF cy ad cn (sayU u T i (p + 1)) w x = f') := by
  have h9 := m_say l G cy B ad cn (sayU u T i p) w x ch
  rw [sayU_next hi hp h] at h9
  exact h9
set_option maxHeartbeats 4000000 in
set_option maxRecDepth 100000 in
theorem m_sayNumber (l : Launch) (G : va_G) (cy : Nat → ClassId) (B : Nat) (ad : Nat → Nat) (cn : Nat → Nat) (u : Nat → Nat → Int32) (w : Nat → Nat → Int64) (x : Nat → Nat → UInt64) (T : Nat → Nat) (i pp : Nat) (hi : i < 2 ^ 31) (hp : pp < 100) (n : Nat) (hn : n < 10 ^ 9) (hT : ∀ a, a < sb_dg n → T (pp + a) = sb_dec n a) : Ct l G cy B yX4_sayNumber cX4_sayNumber 5 none ({ frames := 1, cells := 0, slots := 0, locals := 21 } : Room) ad (MF cy ad cn (sayU u T i pp) w x) [.ref (ad 0), .long (lN n)] (fun v ad' f' => v = none ∧ ad = ad' ∧ MF cy ad cn (sayU u T i (pp + sb_dg n)) w x = f') := by
  refine ct_of (by decide +kernel) (Nat.le_of_ble_eq_true rfl) ?_
  intro p e s m args below meth c X hnm
  have hd9 := dg_le9 hn
  refine z_lv (lv' := [(0, .ref (ad 0)), (1, .long (lN n))]) [0, 1] rfl ?_
  refine z_lconst X (v := 1) dX4_sayNumber_0 rfl ?_
  refine z_lstore_n X (lv' := [(3, .long 1), (0, .ref (ad 0)), (1, .long (lN n))]) dX4_sayNumber_1 rfl (by decide) rfl ?_
  refine z_lv (lv' := [(0, .ref (ad 0)), (1, .long (lN n)), (3, .long 1)]) [1, 2, 0] rfl ?_
  have lp2 : ∀ (fu2 : Nat) (k : Nat), (k < 9) → (k + 1 ≤ sb_dg n) → 10 ≤ k + fu2 → Z G B 5 ad (MF cy ad cn (sayU u T i pp) w x) p l e ({ frames := 1, cells := 0, slots := 0, locals := 21 } : Room) s m args below meth c (zEnd G B ad (MF cy ad cn (sayU u T i pp) w x) below args s ({ frames := 1, cells := 0, slots := 0, locals := 21 } : Room) (fun v ad' f' => v = none ∧ ad = ad' ∧ MF cy ad cn (sayU u T i (pp + sb_dg n)) w x = f')) ad (MF cy ad cn (sayU u T i pp) w x) 0 0 2 [(0, .ref (ad 0)), (1, .long (lN n)), (3, .long (lN (10 ^ k)))] [] := by
    intro fu2
    induction fu2 with
    | zero => intro k hk hk2 hm2; exact absurd hm2 (by omega)
    | succ fu2 ih2 =>
      intro k hk hk2 hm2
      refine z_lload_n X 1 dX4_sayNumber_2 rfl rfl ?_
      refine z_lload_n X 2 dX4_sayNumber_3 rfl rfl ?_
      refine z_ldiv X dX4_sayNumber_4 (by exact lN_pw0 hk) ?_
      refine z_top (v' := .long (lN (n / 10 ^ k))) (by rw [lN_dv hn hk]) ?_
      refine z_ldc2 X dX4_sayNumber_5 q_783 ?_
      refine z_lcmp_le X (tgt := 21) dX4_sayNumber_8 dX4_sayNumber_9 (by decide) (fun c8 => ?_) (fun c8 => ?_)
      · refine z_lv (lv' := [(0, .ref (ad 0)), (1, .long (lN n)), (3, .long (lN (10 ^ k)))]) [0, 1, 2] rfl ?_
        have lp21 : ∀ (fu21 : Nat) (r : Nat), (r ≤ sb_dg n) → (r ≤ 9) → r < fu21 → Z G B 5 ad (MF cy ad cn (sayU u T i pp) w x) p l e ({ frames := 1, cells := 0, slots := 0, locals := 21 } : Room) s m args below meth c (zEnd G B ad (MF cy ad cn (sayU u T i pp) w x) below args s ({ frames := 1, cells := 0, slots := 0, locals := 21 } : Room) (fun v ad' f' => v = none ∧ ad = ad' ∧ MF cy ad cn (sayU u T i (pp + sb_dg n)) w x = f')) ad (MF cy ad cn (sayU u T i (pp + (sb_dg n - r))) w x) 0 0 21 [(0, .ref (ad 0)), (1, .long (lN n)), (3, .long (lN (byN r)))] [] := by
          intro fu21
          induction fu21 with
          | zero => intro r he he9 hm21; exact absurd hm21 (by omega)
          | succ fu21 ih21 =>
            intro r he he9 hm21
            refine z_lload_n X 2 dX4_sayNumber_21 rfl rfl ?_
            refine z_lconst X (v := 0) dX4_sayNumber_22 rfl ?_
            refine z_lcmp_le X (tgt := 52) dX4_sayNumber_23 dX4_sayNumber_24 (by decide) (fun c23 => ?_) (fun c23 => ?_)
            · refine z_vret X (Nat.le_of_ble_eq_true rfl) (Nat.le_of_ble_eq_true rfl) ?_ dX4_sayNumber_52
              have h8 : r = 0 := by
                rcases Nat.eq_zero_or_pos r with h | h
                · exact h
                · exact absurd c23 (byN_n h he9)
              exact ⟨rfl, rfl, by rw [show pp + (sb_dg n - r) = pp + sb_dg n by omega]⟩
            · have he0 : 0 < r := by
                  rcases Nat.eq_zero_or_pos r with h | h
                  · subst h; exact absurd (by decide) c23
                  · exact h
              refine z_aload_n X 0 dX4_sayNumber_27 rfl rfl ?_
              refine z_ldc2 X dX4_sayNumber_28 q_785 ?_
              refine z_lload_n X 1 dX4_sayNumber_31 rfl rfl ?_
              refine z_lload_n X 2 dX4_sayNumber_32 rfl rfl ?_
              refine z_ldiv X dX4_sayNumber_33 (by exact byN_0 he0 he9) ?_
              refine z_ldc2 X dX4_sayNumber_34 q_784 ?_
              refine z_lrem X dX4_sayNumber_37 (by decide) ?_
              refine z_ladd X dX4_sayNumber_38 ?_
              refine z_l2i X dX4_sayNumber_39 ?_
              refine z_top (v' := .int (nI (48 + n / 10 ^ (r - 1) % 10))) (by rw [dig_v' hn he0 he9]) ?_
              refine z_callV X (n := 1) (As := [.int (nI (48 + n / 10 ^ (r - 1) % 10))]) (rest := []) 0 rfl rfl rfl (m_sayT l G cy B ad cn u w x T i (pp + (sb_dg n - r)) hi (by omega) (nI (48 + n / 10 ^ (r - 1) % 10)) (by rw [hT (sb_dg n - r) (by omega)]; unfold sb_dec; rw [show sb_dg n - 1 - (sb_dg n - r) = r - 1 by omega])) q_777 q_778 q_21 q_29 q_779 (by decide +kernel) ⟨Nat.le_of_ble_eq_true rfl, Nat.le_of_ble_eq_true rfl⟩ rfl rfl (Nat.le_of_ble_eq_true rfl) dX4_sayNumber_40 ⟨Nat.le_of_ble_eq_true rfl, Nat.le_of_ble_eq_true rfl⟩ (fun v ad' f' hp had => ?_)
              obtain ⟨rfl, rfl, rfl⟩ := hp
              refine z_st (st' := []) rfl ?_
              refine z_lload_n X 2 dX4_sayNumber_43 rfl rfl ?_
              refine z_ldc2 X dX4_sayNumber_44 q_784 ?_
              refine z_ldiv X dX4_sayNumber_47 (by decide) ?_
              refine z_top (v' := .long (lN (byN (r - 1)))) (by rw [byN_d' he0 he9]) ?_
              refine z_lstore_n X (lv' := [(3, .long (lN (byN (r - 1)))), (0, .ref (ad 0)), (1, .long (lN n))]) dX4_sayNumber_48 rfl (by decide) rfl ?_
              refine z_goto X (tgt := 21) dX4_sayNumber_49 (by decide) ?_
              refine z_lv (lv' := [(0, .ref (ad 0)), (1, .long (lN n)), (3, .long (lN (byN (r - 1))))]) [1, 2, 0] rfl ?_
              refine z_f (show MF cy ad cn (sayU u T i (pp + (sb_dg n - r) + 1)) w x = MF cy ad cn (sayU u T i (pp + (sb_dg n - (r - 1)))) w x from by rw [show pp + (sb_dg n - (r - 1)) = pp + (sb_dg n - r) + 1 by omega]) ?_
              exact ih21 (r - 1) (by omega) (by omega) (by omega)
        have h8 : sb_dg n = k + 1 := by have h1 := (dg_iff hn hk).mp ((lN_9 (Nat.lt_of_le_of_lt (Nat.div_le_self _ _) (by omega))).mp c8); omega
        refine z_lv (lv' := [(0, .ref (ad 0)), (1, .long (lN n)), (3, .long (lN (byN (k + 1))))]) [0, 1, 2] (by rw [byN_s]; rfl) ?_
        refine z_f (show MF cy ad cn (sayU u T i pp) w x = MF cy ad cn (sayU u T i (pp + (sb_dg n - (k + 1)))) w x from by rw [show pp + (sb_dg n - (k + 1)) = pp by omega]) ?_
        exact lp21 10 (k + 1) (by omega) (by omega) (by omega)
      · refine z_lload_n X 2 dX4_sayNumber_12 rfl rfl ?_
        refine z_ldc2 X dX4_sayNumber_13 q_784 ?_
        refine z_lmul X dX4_sayNumber_16 ?_
        refine z_top (v' := .long (lN (10 ^ (k + 1)))) (by rw [lN_pw]) ?_
        refine z_lstore_n X (lv' := [(3, .long (lN (10 ^ (k + 1)))), (0, .ref (ad 0)), (1, .long (lN n))]) dX4_sayNumber_17 rfl (by decide) rfl ?_
        refine z_goto X (tgt := 2) dX4_sayNumber_18 (by decide) ?_
        refine z_lv (lv' := [(0, .ref (ad 0)), (1, .long (lN n)), (3, .long (lN (10 ^ (k + 1))))]) [1, 2, 0] rfl ?_
        exact ih2 (k + 1) (by have h1 : ¬ sb_dg n ≤ k + 1 := fun h => c8 ((lN_9 (Nat.lt_of_le_of_lt (Nat.div_le_self _ _) (by omega))).mpr ((dg_iff hn hk).mpr h)); have h2 := dg_le9 hn; omega) (by have h1 : ¬ sb_dg n ≤ k + 1 := fun h => c8 ((lN_9 (Nat.lt_of_le_of_lt (Nat.div_le_self _ _) (by omega))).mpr ((dg_iff hn hk).mpr h)); omega) (by omega)
  exact lp2 10 0 (by decide) (sb_dg_in n).1 (by decide)
set_option maxHeartbeats 4000000 in
set_option maxRecDepth 100000 in
theorem m_label_i (l : Launch) (G : va_G) (cy : Nat → ClassId) (B : Nat) (ad : Nat → Nat) (cn : Nat → Nat) (u : Nat → Nat → Int32) (w : Nat → Nat → Int64) (x : Nat → Nat → UInt64) (hc0 : cn 0 ≤ 200) (hc5 : cn 5 ≤ 12) (j : Nat) (hj : j < cn 5) (T : Nat → Nat) (W i : Nat) (hi : i < 2 ^ 31) (hW : weightM cn u w j = lN W) (hW9 : W < 10 ^ 9) (hT0 : T 0 = 66) (hT1 : ∀ a, a < sb_dg j → T (1 + a) = sb_dec j a) (hT2 : T (1 + sb_dg j) = 32) (hT3 : ∀ a, a < sb_dg W → T (1 + sb_dg j + 1 + a) = sb_dec W a) (hT4 : T (1 + sb_dg j + 1 + sb_dg W) = 32) (hT5 : ∀ a, a < sb_dg (mainM cn u w j) → T (1 + sb_dg j + 1 + sb_dg W + 1 + a) = sb_dec (mainM cn u w j) a) : Ct l G cy B yX4_label cX4_label 3 (some .int) ({ frames := 3, cells := 0, slots := 0, locals := 73 } : Room) ad (MF cy ad cn u w x) [.ref (ad 0), .int (nI j), .int (nI i)] (fun v ad' f' => v = some (.int (lookS T i (1 + sb_dg j + 1 + sb_dg W + 1 + sb_dg (mainM cn u w j)))) ∧ ad = ad' ∧ MF cy ad cn (sayU u T i (1 + sb_dg j + 1 + sb_dg W + 1 + sb_dg (mainM cn u w j))) w x = f') := by
  refine ct_of (by decide +kernel) (Nat.le_of_ble_eq_true rfl) ?_
  intro p e s m args below meth c X hnm
  have d1 := sb_dg_in j
  have d2 := sb_dg_in W
  have d3 := sb_dg_in (mainM cn u w j)
  have d4 : mainM cn u w j ≤ 3 := mainL_le _ 3
  refine z_lv (lv' := [(0, .ref (ad 0)), (1, .int (nI j)), (2, .int (nI i))]) [0, 1, 2] rfl ?_
  refine z_aload_n X 0 dX4_label_0 rfl rfl ?_
  refine z_iload_n X 1 dX4_label_1 rfl rfl ?_
  refine z_callV X (n := 1) (As := [.int (nI j)]) (rest := []) 0 rfl rfl rfl (m_isBale l G cy B ad cn u w x (nI j)) q_668 q_669 q_14 q_29 q_670 (by decide +kernel) ⟨Nat.le_of_ble_eq_true rfl, Nat.le_of_ble_eq_true rfl⟩ rfl rfl (Nat.le_of_ble_eq_true rfl) dX4_label_2 ⟨Nat.le_of_ble_eq_true rfl, Nat.le_of_ble_eq_true rfl⟩ (fun v ad' f' hp had => ?_)
  obtain ⟨rfl, rfl, rfl⟩ := hp
  refine z_st (st' := [.int (nI (if ¬ (nI j) < 0 ∧ ¬ nI (cn 5) ≤ (nI j) then 1 else 0))]) rfl ?_
  refine z_if_eqB X (tgt := 12) dX4_label_5 (by decide) (fun c5 => by exfalso; exact c5 ⟨nI_pos (by omega), nI_ge (by omega) (by omega)⟩) (fun c5 => ?_)
  refine z_iload_n X 2 dX4_label_8 rfl rfl ?_
  refine z_if_geN X (tgt := 14) (by omega) dX4_label_9 (by decide) ?_
  refine z_aload_n X 0 dX4_label_14 rfl rfl ?_
  refine z_iload_n X 2 dX4_label_15 rfl rfl ?_
  refine z_put X (ty := .int) 0 26 wa_X4 tyX4 tyX4_ok nmX4 rfl rfl rfl (by decide) q_585 rfl rfl (by decide +kernel) rfl rfl (Nat.le_of_ble_eq_true rfl) dX4_label_16 ?_
  refine z_f (MF_o (cn' := cn) (g := upd (u 0) 26 (nI i)) rfl) ?_
  refine z_aload_n X 0 dX4_label_19 rfl rfl ?_
  refine z_iconst X (v := -1) dX4_label_20 (by decide) ?_
  refine z_put X (ty := .int) 0 27 wa_X4 tyX4 tyX4_ok nmX4 rfl rfl rfl (by decide) q_586 rfl rfl (by decide +kernel) rfl rfl (Nat.le_of_ble_eq_true rfl) dX4_label_21 ?_
  refine z_f (MF_o (cn' := cn) (g := upd (upd (u 0) 26 (nI i)) 27 (-1)) rfl) ?_
  refine z_f (congrArg (fun z => MF cy ad cn z w x) (show va_up (va_up u 0 (upd (u 0) 26 (nI i))) 0 (upd (upd (u 0) 26 (nI i)) 27 (-1)) = va_up u 0 (upd (upd (u 0) 26 (nI i)) 27 (-1)) from by (try simp only [upd_uu, vfu_uu, vpu_uu]); funext z9; simp only [va_up]; (repeat' split) <;> first | rfl | omega | simp_all)) ?_
  refine z_f (show MF cy ad cn (va_up u 0 (upd (upd (u 0) 26 (nI i)) 27 (-1))) w x = MF cy ad cn (sayU u T i 0) w x from by rw [sayU_start]) ?_
  refine z_aload_n X 0 dX4_label_24 rfl rfl ?_
  refine z_bipush X (v := nI 66) dX4_label_25 (by decide) ?_
  refine z_callV X (n := 1) (As := [.int (nI 66)]) (rest := []) 0 rfl rfl rfl (m_sayT l G cy B ad cn u w x T i 0 hi (by omega) (nI 66) (by rw [hT0])) q_777 q_778 q_21 q_29 q_779 (by decide +kernel) ⟨Nat.le_of_ble_eq_true rfl, Nat.le_of_ble_eq_true rfl⟩ rfl rfl (Nat.le_of_ble_eq_true rfl) dX4_label_27 ⟨Nat.le_of_ble_eq_true rfl, Nat.le_of_ble_eq_true rfl⟩ (fun v ad' f' hp had => ?_)
  obtain ⟨rfl, rfl, rfl⟩ := hp
  refine z_st (st' := []) rfl ?_
  refine z_aload_n X 0 dX4_label_30 rfl rfl ?_
  refine z_iload_n X 1 dX4_label_31 rfl rfl ?_
  refine z_i2lN X (by omega) dX4_label_32 ?_
  refine z_callV X (n := 1) (As := [.long (lN j)]) (rest := []) 0 rfl rfl rfl (m_sayNumber l G cy B ad cn u w x T i 1 hi (by omega) j (by omega) hT1) q_780 q_781 q_22 q_29 q_782 (by decide +kernel) ⟨Nat.le_of_ble_eq_true rfl, Nat.le_of_ble_eq_true rfl⟩ rfl rfl (Nat.le_of_ble_eq_true rfl) dX4_label_33 ⟨Nat.le_of_ble_eq_true rfl, Nat.le_of_ble_eq_true rfl⟩ (fun v ad' f' hp had => ?_)
  obtain ⟨rfl, rfl, rfl⟩ := hp
  refine z_st (st' := []) rfl ?_
  refine z_aload_n X 0 dX4_label_36 rfl rfl ?_
  refine z_bipush X (v := nI 32) dX4_label_37 (by decide) ?_
  refine z_callV X (n := 1) (As := [.int (nI 32)]) (rest := []) 0 rfl rfl rfl (m_sayT l G cy B ad cn u w x T i (1 + sb_dg j) hi (by omega) (nI 32) (by rw [hT2])) q_777 q_778 q_21 q_29 q_779 (by decide +kernel) ⟨Nat.le_of_ble_eq_true rfl, Nat.le_of_ble_eq_true rfl⟩ rfl rfl (Nat.le_of_ble_eq_true rfl) dX4_label_39 ⟨Nat.le_of_ble_eq_true rfl, Nat.le_of_ble_eq_true rfl⟩ (fun v ad' f' hp had => ?_)
  obtain ⟨rfl, rfl, rfl⟩ := hp
  refine z_st (st' := []) rfl ?_
  refine z_aload_n X 0 dX4_label_42 rfl rfl ?_
  refine z_aload_n X 0 dX4_label_43 rfl rfl ?_
  refine z_iload_n X 1 dX4_label_44 rfl rfl ?_
  refine z_callV X (n := 1) (As := [.int (nI j)]) (rest := [.ref (ad 0)]) 0 rfl rfl rfl (m_weight l G cy B ad cn (sayU u T i (1 + sb_dg j + 1)) w x hc0 j (by omega)) q_686 q_687 q_17 q_29 q_688 (by decide +kernel) ⟨Nat.le_of_ble_eq_true rfl, Nat.le_of_ble_eq_true rfl⟩ rfl rfl (Nat.le_of_ble_eq_true rfl) dX4_label_45 ⟨Nat.le_of_ble_eq_true rfl, Nat.le_of_ble_eq_true rfl⟩ (fun v ad' f' hp had => ?_)
  obtain ⟨rfl, rfl, rfl⟩ := hp
  refine z_st (st' := [.long (weightM cn (sayU u T i (1 + sb_dg j + 1)) w j), .ref (ad 0)]) rfl ?_
  refine z_top (v' := .long (lN W)) (by rw [weightM_say, hW]) ?_
  refine z_callV X (n := 1) (As := [.long (lN W)]) (rest := []) 0 rfl rfl rfl (m_sayNumber l G cy B ad cn u w x T i (1 + sb_dg j + 1) hi (by omega) W hW9 hT3) q_780 q_781 q_22 q_29 q_782 (by decide +kernel) ⟨Nat.le_of_ble_eq_true rfl, Nat.le_of_ble_eq_true rfl⟩ rfl rfl (Nat.le_of_ble_eq_true rfl) dX4_label_48 ⟨Nat.le_of_ble_eq_true rfl, Nat.le_of_ble_eq_true rfl⟩ (fun v ad' f' hp had => ?_)
  obtain ⟨rfl, rfl, rfl⟩ := hp
  refine z_st (st' := []) rfl ?_
  refine z_aload_n X 0 dX4_label_51 rfl rfl ?_
  refine z_bipush X (v := nI 32) dX4_label_52 (by decide) ?_
  refine z_callV X (n := 1) (As := [.int (nI 32)]) (rest := []) 0 rfl rfl rfl (m_sayT l G cy B ad cn u w x T i (1 + sb_dg j + 1 + sb_dg W) hi (by omega) (nI 32) (by rw [hT4])) q_777 q_778 q_21 q_29 q_779 (by decide +kernel) ⟨Nat.le_of_ble_eq_true rfl, Nat.le_of_ble_eq_true rfl⟩ rfl rfl (Nat.le_of_ble_eq_true rfl) dX4_label_54 ⟨Nat.le_of_ble_eq_true rfl, Nat.le_of_ble_eq_true rfl⟩ (fun v ad' f' hp had => ?_)
  obtain ⟨rfl, rfl, rfl⟩ := hp
  refine z_st (st' := []) rfl ?_
  refine z_aload_n X 0 dX4_label_57 rfl rfl ?_
  refine z_aload_n X 0 dX4_label_58 rfl rfl ?_
  refine z_iload_n X 1 dX4_label_59 rfl rfl ?_
  refine z_callV X (n := 1) (As := [.int (nI j)]) (rest := [.ref (ad 0)]) 0 rfl rfl rfl (m_mainOf l G cy B ad cn (sayU u T i (1 + sb_dg j + 1 + sb_dg W + 1)) w x hc0 j (by omega)) q_739 q_740 q_18 q_29 q_741 (by decide +kernel) ⟨Nat.le_of_ble_eq_true rfl, Nat.le_of_ble_eq_true rfl⟩ rfl rfl (Nat.le_of_ble_eq_true rfl) dX4_label_60 ⟨Nat.le_of_ble_eq_true rfl, Nat.le_of_ble_eq_true rfl⟩ (fun v ad' f' hp had => ?_)
  obtain ⟨rfl, rfl, rfl⟩ := hp
  refine z_st (st' := [.int (nI (mainM cn (sayU u T i (1 + sb_dg j + 1 + sb_dg W + 1)) w j)), .ref (ad 0)]) rfl ?_
  refine z_top (v' := .int (nI (mainM cn u w j))) (by rw [mainM_say]) ?_
  refine z_i2lN X (by omega) dX4_label_63 ?_
  refine z_callV X (n := 1) (As := [.long (lN (mainM cn u w j))]) (rest := []) 0 rfl rfl rfl (m_sayNumber l G cy B ad cn u w x T i (1 + sb_dg j + 1 + sb_dg W + 1) hi (by omega) (mainM cn u w j) (by omega) hT5) q_780 q_781 q_22 q_29 q_782 (by decide +kernel) ⟨Nat.le_of_ble_eq_true rfl, Nat.le_of_ble_eq_true rfl⟩ rfl rfl (Nat.le_of_ble_eq_true rfl) dX4_label_64 ⟨Nat.le_of_ble_eq_true rfl, Nat.le_of_ble_eq_true rfl⟩ (fun v ad' f' hp had => ?_)
  obtain ⟨rfl, rfl, rfl⟩ := hp
  refine z_st (st' := []) rfl ?_
  refine z_aload_n X 0 dX4_label_67 rfl rfl ?_
  refine z_get X (v := .int (sayU u T i (1 + sb_dg j + 1 + sb_dg W + 1 + sb_dg (mainM cn u w j)) 0 27)) 0 27 wa_X4 rfl rfl rfl (by decide) q_586 rfl rfl dX4_label_68 ?_
  refine z_iret X (Nat.le_of_ble_eq_true rfl) (Nat.le_of_ble_eq_true rfl) ?_ dX4_label_71
  exact ⟨by rw [sayU_27], rfl, rfl⟩
set_option maxHeartbeats 4000000 in
set_option maxRecDepth 100000 in
theorem m_label_n (l : Launch) (G : va_G) (cy : Nat → ClassId) (B : Nat) (ad : Nat → Nat) (cn : Nat → Nat) (u : Nat → Nat → Int32) (w : Nat → Nat → Int64) (x : Nat → Nat → UInt64) (hc5 : cn 5 ≤ 12) (j : Nat) (hj : j < cn 5) (k : Int32) (hk : k < 0) : Ct l G cy B yX4_label cX4_label 3 (some .int) ({ frames := 1, cells := 0, slots := 0, locals := 21 } : Room) ad (MF cy ad cn u w x) [.ref (ad 0), .int (nI j), .int k] (fun v ad' f' => v = some (.int (-1)) ∧ ad = ad' ∧ MF cy ad cn u w x = f') := by
  refine ct_of (by decide +kernel) (Nat.le_of_ble_eq_true rfl) ?_
  intro p e s m args below meth c X hnm
  refine z_lv (lv' := [(0, .ref (ad 0)), (1, .int (nI j)), (2, .int k)]) [0, 1, 2] rfl ?_
  refine z_aload_n X 0 dX4_label_0 rfl rfl ?_
  refine z_iload_n X 1 dX4_label_1 rfl rfl ?_
  refine z_callV X (n := 1) (As := [.int (nI j)]) (rest := []) 0 rfl rfl rfl (m_isBale l G cy B ad cn u w x (nI j)) q_668 q_669 q_14 q_29 q_670 (by decide +kernel) ⟨Nat.le_of_ble_eq_true rfl, Nat.le_of_ble_eq_true rfl⟩ rfl rfl (Nat.le_of_ble_eq_true rfl) dX4_label_2 ⟨Nat.le_of_ble_eq_true rfl, Nat.le_of_ble_eq_true rfl⟩ (fun v ad' f' hp had => ?_)
  obtain ⟨rfl, rfl, rfl⟩ := hp
  refine z_st (st' := [.int (nI (if ¬ (nI j) < 0 ∧ ¬ nI (cn 5) ≤ (nI j) then 1 else 0))]) rfl ?_
  refine z_if_eqB X (tgt := 12) dX4_label_5 (by decide) (fun c5 => by exfalso; exact c5 ⟨nI_pos (by omega), nI_ge (by omega) (by omega)⟩) (fun c5 => ?_)
  refine z_iload_n X 2 dX4_label_8 rfl rfl ?_
  refine z_if_ge X (tgt := 14) dX4_label_9 (by decide) (fun c9 => by exfalso; exact absurd hk (Int32.not_lt.mpr c9)) (fun c9 => ?_)
  refine z_iconst X (v := -1) dX4_label_12 (by decide) ?_
  refine z_iret X (Nat.le_of_ble_eq_true rfl) (Nat.le_of_ble_eq_true rfl) ?_ dX4_label_13
  exact ⟨rfl, rfl, rfl⟩
set_option maxHeartbeats 4000000 in
set_option maxRecDepth 100000 in
theorem m_label_o (l : Launch) (G : va_G) (cy : Nat → ClassId) (B : Nat) (ad : Nat → Nat) (cn : Nat → Nat) (u : Nat → Nat → Int32) (w : Nat → Nat → Int64) (x : Nat → Nat → UInt64) (b : Int32) (hb : ¬ (¬ b < 0 ∧ ¬ nI (cn 5) ≤ b)) (k : Int32) : Ct l G cy B yX4_label cX4_label 3 (some .int) ({ frames := 1, cells := 0, slots := 0, locals := 21 } : Room) ad (MF cy ad cn u w x) [.ref (ad 0), .int b, .int k] (fun v ad' f' => v = some (.int (-1)) ∧ ad = ad' ∧ MF cy ad cn u w x = f') := by
  refine ct_of (by decide +kernel) (Nat.le_of_ble_eq_true rfl) ?_
  intro p e s m args below meth c X hnm
  refine z_lv (lv' := [(0, .ref (ad 0)), (1, .int b), (2, .int k)]) [0, 1, 2] rfl ?_
  refine z_aload_n X 0 dX4_label_0 rfl rfl ?_
  refine z_iload_n X 1 dX4_label_1 rfl rfl ?_
  refine z_callV X (n := 1) (As := [.int b]) (rest := []) 0 rfl rfl rfl (m_isBale l G cy B ad cn u w x b) q_668 q_669 q_14 q_29 q_670 (by decide +kernel) ⟨Nat.le_of_ble_eq_true rfl, Nat.le_of_ble_eq_true rfl⟩ rfl rfl (Nat.le_of_ble_eq_true rfl) dX4_label_2 ⟨Nat.le_of_ble_eq_true rfl, Nat.le_of_ble_eq_true rfl⟩ (fun v ad' f' hp had => ?_)
  obtain ⟨rfl, rfl, rfl⟩ := hp
  refine z_st (st' := [.int (nI (if ¬ b < 0 ∧ ¬ nI (cn 5) ≤ b then 1 else 0))]) rfl ?_
  refine z_if_eqB X (tgt := 12) dX4_label_5 (by decide) (fun c5 => ?_) (fun c5 => by exfalso; exact hb c5)
  refine z_iconst X (v := -1) dX4_label_12 (by decide) ?_
  refine z_iret X (Nat.le_of_ble_eq_true rfl) (Nat.le_of_ble_eq_true rfl) ?_ dX4_label_13
  exact ⟨rfl, rfl, rfl⟩
end
section
/-! THE CLASS'S WORLD. Codes: 0 the press, 1 .. 15 its arrays, 16 and 17 the text; i + 100 bale i, i + 200 its grams, i + 300 stack i, i + 400 lorry i. cn: counters (by the object's fields; 16 the text's length; 30, 31, 32 how many bales, stacks, lorries there are) -/
abbrev cObj (ad cn : Nat → Nat) (uj : Nat → Int32) : List Value := [.ref (ad 1), .ref (ad 2), .ref (ad 3), .int (nI (cn 3)), .int (nI (cn 4)), .ref (ad 6), .int (nI (cn 6)), .ref (ad 8), .ref (ad 9), .int (nI (cn 9)), .int (uj 10), .ref (ad 12), .int (nI (cn 12)), .ref (ad 14), .int (nI (cn 14)), .ref (ad 16)]
abbrev bObj (ad : Nat → Nat) (uj : Nat → Int32) (xj : Nat → UInt64) (rj : Nat → Option Nat) (j : Nat) : List Value := [.ref (ad (j + 100)), .double (xj 1), .int (uj 2), .int (uj 3), .int (uj 4), .int (uj 5), .int (uj 6), va_rf (rj 7), va_rf (rj 8)]
abbrev tObj (ad cn : Nat → Nat) (uj : Nat → Int32) : List Value := [.ref (ad 17), .int (uj 1), .int (uj 2), .int (nI (cn 16))]
abbrev sObj (uj : Nat → Int32) : List Value := [.int (uj 0), .int (uj 1)]
abbrev lObj (uj : Nat → Int32) (wj : Nat → Int64) : List Value := [.long (wj 0), .long (wj 1), .long (wj 2), .long (wj 3), .int (uj 4)]
def cBase (cy : Nat → ClassId) (ad cn : Nat → Nat) (uj : Nat → Int32) (wj : Nat → Int64) (xj : Nat → UInt64) (rj : Nat → Option Nat) : Nat → Option va_E
  | 0 => some (.inr (4, cObj ad cn uj))
  | 1 => some (.inl (cy 0, 200, .inr (.inl wj)))
  | 2 => some (.inl (cy 1, 200, .inl uj))
  | 3 => some (.inl (cy 0, 200, .inr (.inl wj)))
  | 6 => some (.inl (cy 4, 12, .inr (.inr (.inr (.inr rj)))))
  | 8 => some (.inl (cy 2, 6, .inr (.inr (.inr (.inl xj)))))
  | 9 => some (.inl (cy 2, 6, .inr (.inr (.inr (.inl xj)))))
  | 12 => some (.inl (cy 6, 4, .inr (.inr (.inr (.inr rj)))))
  | 14 => some (.inl (cy 5, 3, .inr (.inr (.inr (.inr rj)))))
  | 16 => some (.inr (0, tObj ad cn uj))
  | 17 => some (.inl (cy 3, 16, .inl uj))
  | _ => none
def cAt (cy : Nat → ClassId) (ad cn : Nat → Nat) (uj : Nat → Int32) (wj : Nat → Int64) (xj : Nat → UInt64) (rj : Nat → Option Nat) (j : Nat) : Option va_E :=
  if j < 100 then cBase cy ad cn uj wj xj rj j
  else if j < 200 then (if j < cn 30 + 100 then some (.inr (1, bObj ad uj xj rj j)) else none)
  else if j < 300 then (if j < cn 30 + 200 then some (.inl (cy 0, 4, .inr (.inl wj))) else none)
  else if j < 400 then (if j < cn 31 + 300 then some (.inr (3, sObj uj)) else none)
  else if j < 500 then (if j < cn 32 + 400 then some (.inr (2, lObj uj wj)) else none) else none
def CF (cy : Nat → ClassId) (ad cn : Nat → Nat) (u : Nat → Nat → Int32) (w : Nat → Nat → Int64) (x : Nat → Nat → UInt64) (r : Nat → Nat → Option Nat) : zW := fun j => cAt cy ad cn (u j) (w j) (x j) (r j) j
section CWL
variable {cy : Nat → ClassId} {ad cn : Nat → Nat} {u : Nat → Nat → Int32} {w : Nat → Nat → Int64} {x : Nat → Nat → UInt64} {r : Nat → Nat → Option Nat} {i k : Nat}
theorem cAt_b {uj : Nat → Int32} {wj : Nat → Int64} {xj : Nat → UInt64} {rj : Nat → Option Nat} (hi : i < cn 30) (hp : cn 30 ≤ 12) : cAt cy ad cn uj wj xj rj (i + 100) = some (.inr (1, bObj ad uj xj rj (i + 100))) := by
  rw [cAt, if_neg (by omega), if_pos (by omega), if_pos (by omega)]
theorem cAt_g {uj : Nat → Int32} {wj : Nat → Int64} {xj : Nat → UInt64} {rj : Nat → Option Nat} (hi : i < cn 30) (hp : cn 30 ≤ 12) : cAt cy ad cn uj wj xj rj (i + 200) = some (.inl (cy 0, 4, .inr (.inl wj))) := by
  rw [cAt, if_neg (by omega), if_neg (by omega), if_pos (by omega), if_pos (by omega)]
theorem cAt_s {uj : Nat → Int32} {wj : Nat → Int64} {xj : Nat → UInt64} {rj : Nat → Option Nat} (hi : i < cn 31) (hp : cn 31 ≤ 4) : cAt cy ad cn uj wj xj rj (i + 300) = some (.inr (3, sObj uj)) := by
  rw [cAt, if_neg (by omega), if_neg (by omega), if_neg (by omega), if_pos (by omega), if_pos (by omega)]
theorem cAt_l {uj : Nat → Int32} {wj : Nat → Int64} {xj : Nat → UInt64} {rj : Nat → Option Nat} (hi : i < cn 32) (hp : cn 32 ≤ 3) : cAt cy ad cn uj wj xj rj (i + 400) = some (.inr (2, lObj uj wj)) := by
  rw [cAt, if_neg (by omega), if_neg (by omega), if_neg (by omega), if_neg (by omega), if_pos (by omega), if_pos (by omega)]
theorem CF_b (hi : i < cn 30) (hp : cn 30 ≤ 12) : CF cy ad cn u w x r (i + 100) = some (.inr (1, bObj ad (u (i + 100)) (x (i + 100)) (r (i + 100)) (i + 100))) := cAt_b hi hp
theorem CF_g (hi : i < cn 30) (hp : cn 30 ≤ 12) : CF cy ad cn u w x r (i + 200) = some (.inl (cy 0, 4, .inr (.inl (w (i + 200))))) := cAt_g hi hp
theorem CF_s (hi : i < cn 31) (hp : cn 31 ≤ 4) : CF cy ad cn u w x r (i + 300) = some (.inr (3, sObj (u (i + 300)))) := cAt_s hi hp
theorem CF_l (hi : i < cn 32) (hp : cn 32 ≤ 3) : CF cy ad cn u w x r (i + 400) = some (.inr (2, lObj (u (i + 400)) (w (i + 400)))) := cAt_l hi hp
theorem CF_u {y : va_E} (g : Nat → Int32) (h : cAt cy ad cn g (w k) (x k) (r k) k = some y) : zup (CF cy ad cn u w x r) k y = CF cy ad cn (va_up u k g) w x r := by
  funext j
  by_cases e : j = k
  · subst e
    rw [zup_same, CF]
    simp only [va_up, if_true]
    exact h.symm
  · rw [zup_ne e, CF, CF]
    simp only [va_up, e, if_false]
theorem CF_w {y : va_E} (g : Nat → Int64) (h : cAt cy ad cn (u k) g (x k) (r k) k = some y) : zup (CF cy ad cn u w x r) k y = CF cy ad cn u (va_up w k g) x r := by
  funext j
  by_cases e : j = k
  · subst e
    rw [zup_same, CF]
    simp only [va_up, if_true]
    exact h.symm
  · rw [zup_ne e, CF, CF]
    simp only [va_up, e, if_false]
theorem CF_x {y : va_E} (g : Nat → UInt64) (h : cAt cy ad cn (u k) (w k) g (r k) k = some y) : zup (CF cy ad cn u w x r) k y = CF cy ad cn u w (va_up x k g) r := by
  funext j
  by_cases e : j = k
  · subst e
    rw [zup_same, CF]
    simp only [va_up, if_true]
    exact h.symm
  · rw [zup_ne e, CF, CF]
    simp only [va_up, e, if_false]
theorem CF_r {y : va_E} (g : Nat → Option Nat) (h : cAt cy ad cn (u k) (w k) (x k) g k = some y) : zup (CF cy ad cn u w x r) k y = CF cy ad cn u w x (va_up r k g) := by
  funext j
  by_cases e : j = k
  · subst e
    rw [zup_same, CF]
    simp only [va_up, if_true]
    exact h.symm
  · rw [zup_ne e, CF, CF]
    simp only [va_up, e, if_false]
/-- a counter of the press, or of the text -/
theorem CF_c {cn' : Nat → Nat} {y : va_E} (k : Nat) (hk : k = 0 ∨ k = 16) (h30 : cn' 30 = cn 30) (h31 : cn' 31 = cn 31) (h32 : cn' 32 = cn 32) (h : cAt cy ad cn' (u k) (w k) (x k) (r k) k = some y) (ho : k = 0 → cn' 16 = cn 16) (ht : k = 16 → cn' 3 = cn 3 ∧ cn' 4 = cn 4 ∧ cn' 6 = cn 6 ∧ cn' 9 = cn 9 ∧ cn' 12 = cn 12 ∧ cn' 14 = cn 14) : zup (CF cy ad cn u w x r) k y = CF cy ad cn' u w x r := by
  funext j
  by_cases e : j = k
  · subst e
    rw [zup_same]
    exact h.symm
  · rw [zup_ne e, CF, CF, cAt, cAt, h30, h31, h32]
    by_cases hj : j < 100
    · rw [if_pos hj, if_pos hj]
      unfold cBase
      split
      · rcases hk with rfl | rfl
        · exact absurd rfl e
        · obtain ⟨q1, q2, q3, q4, q5, q6⟩ := ht rfl
          simp only [cObj, q1, q2, q3, q4, q5, q6]
      all_goals first | rfl | (rcases hk with rfl | rfl; (simp only [tObj, ho rfl]); exact absurd rfl e)
    · rw [if_neg hj, if_neg hj]
end CWL
theorem zup_zup {f : zW} {k : Nat} {a b : va_E} : zup (zup f k a) k b = zup f k b := by
  funext j
  unfold zup
  by_cases h : j = k <;> simp [h]
theorem zup_id {f : zW} {k : Nat} {y : va_E} (h : f k = some y) : zup f k y = f := by
  funext j
  unfold zup
  by_cases e : j = k
  · rw [if_pos e, e, h]
  · rw [if_neg e]
theorem okK {i : Nat} (h : i < 4) : okKind (nI i) := ⟨nI_pos (by omega), nI_ge h (by decide)⟩
/-- the grams of a bale made of two, as far as i kinds -/
def mkG (g0 gy gz : Nat → Int64) (i : Nat) : Nat → Int64 := fun j => if j < i then g0 j + (gy j + gz j) else g0 j
theorem mkG_0 {g0 gy gz : Nat → Int64} : mkG g0 gy gz 0 = g0 := by
  funext j
  exact if_neg (Nat.not_lt_zero j)
theorem mkG_s {g0 gy gz : Nat → Int64} {i : Nat} : vp_updL (mkG g0 gy gz i) i (mkG g0 gy gz i i + (gy i + gz i)) = mkG g0 gy gz (i + 1) := by
  funext j
  unfold vp_updL mkG
  by_cases e : j = i
  · subst e
    simp
  · by_cases h : j < i
    · have : j < i + 1 := by omega
      simp [e, h, this]
    · have : ¬ j < i + 1 := by omega
      simp [e, h, this]
theorem kd_in {k : Int32} (h : okKind k) : vp_in k 4 := by
  obtain ⟨j, hj, e⟩ := nI_of h.1
  subst e
  exact vp_in_nI ((nI_ltI hj (by decide)).mp (Int32.not_le.mp h.2)) (by decide)
theorem kd_of {k : Int32} (h : okKind k) : ∃ j : Nat, j < 4 ∧ k = nI j := by
  obtain ⟨j, hj, e⟩ := nI_of h.1
  subst e
  exact ⟨j, (nI_ltI hj (by decide)).mp (Int32.not_le.mp h.2), rfl⟩
set_option maxHeartbeats 4000000 in
set_option maxRecDepth 100000 in
theorem b_gramsOf (l : Launch) (G : va_G) (cy : Nat → ClassId) (B : Nat) (ad : Nat → Nat) (f : zW) (k0 k1 : Nat) (t0 : UInt64) (a2 a3 a4 a5 a6 : Int32) (r7 r8 : Option Nat) (g0 : Nat → Int64) (hb : f k0 = some (.inr (1, [.ref (ad k1), .double t0, .int a2, .int a3, .int a4, .int a5, .int a6, va_rf r7, va_rf r8]))) (hg : f k1 = some (.inl (cy 0, 4, .inr (.inl g0)))) (kd : Int32) : Ct l G cy B yX0_gramsOf cX0_gramsOf 2 (some .long) ({ frames := 1, cells := 0, slots := 0, locals := 20 } : Room) ad f [.ref (ad k0), .int kd] (fun v ad' f' => v = some (.long (if okKind kd then g0 kd.toNatClampNeg else 0)) ∧ ad = ad' ∧ f = f') := by
  refine ct_of (by decide +kernel) (Nat.le_of_ble_eq_true rfl) ?_
  intro p e s m args below meth c X hnm
  refine z_lv (lv' := [(0, .ref (ad k0)), (1, .int kd)]) [0, 1] rfl ?_
  refine z_iload_n X 1 dX0_gramsOf_0 rfl rfl ?_
  refine z_callSN X (n := 1) (As := [.int kd]) (rest := []) (c_X3_isKind l G cy B ad f kd) (List.mem_of_getElem? (i := 11) rfl) q_139 q_24 q_140 (by decide +kernel) ⟨Nat.le_of_ble_eq_true rfl, Nat.le_of_ble_eq_true rfl⟩ rfl rfl (Nat.le_of_ble_eq_true rfl) dX0_gramsOf_1 ⟨Nat.le_of_ble_eq_true rfl, Nat.le_of_ble_eq_true rfl⟩ (fun v ad' f' hp had => ?_)
  obtain ⟨rfl, rfl, rfl⟩ := hp
  refine z_st (st' := [.int (nI (if okKind kd then 1 else 0))]) rfl ?_
  refine z_if_eqB X (tgt := 16) dX0_gramsOf_4 (by decide) (fun c4 => ?_) (fun c4 => ?_)
  · refine z_lconst X (v := 0) dX0_gramsOf_16 rfl ?_
    refine z_lret X (Nat.le_of_ble_eq_true rfl) (Nat.le_of_ble_eq_true rfl) ?_ dX0_gramsOf_17
    exact ⟨by first | rw [if_pos c4] | rw [if_neg c4], rfl, rfl⟩
  · refine z_aload_n X 0 dX0_gramsOf_7 rfl rfl ?_
    refine z_get X (v := .ref (ad k1)) k0 0 wa_X0 rfl rfl hb (by decide) q_156 rfl rfl dX0_gramsOf_8 ?_
    refine z_iload_n X 1 dX0_gramsOf_11 rfl rfl ?_
    refine z_lald X (n := 4) (g := g0) k1 rfl hg (kd_in c4) dX0_gramsOf_12 ?_
    refine z_goto X (tgt := 17) dX0_gramsOf_13 (by decide) ?_
    refine z_lret X (Nat.le_of_ble_eq_true rfl) (Nat.le_of_ble_eq_true rfl) ?_ dX0_gramsOf_17
    exact ⟨by first | rw [if_pos c4] | rw [if_neg c4], rfl, rfl⟩
set_option maxHeartbeats 4000000 in
set_option maxRecDepth 100000 in
theorem b_totalGrams (l : Launch) (G : va_G) (cy : Nat → ClassId) (B : Nat) (ad : Nat → Nat) (f : zW) (k0 k1 : Nat) (t0 : UInt64) (a2 a3 a4 a5 a6 : Int32) (r7 r8 : Option Nat) (g0 : Nat → Int64) (hb : f k0 = some (.inr (1, [.ref (ad k1), .double t0, .int a2, .int a3, .int a4, .int a5, .int a6, va_rf r7, va_rf r8]))) (hg : f k1 = some (.inl (cy 0, 4, .inr (.inl g0))))  : Ct l G cy B yX0_totalGrams cX0_totalGrams 4 (some .long) ({ frames := 0, cells := 0, slots := 0, locals := 0 } : Room) ad f [.ref (ad k0)] (fun v ad' f' => v = some (.long (sumL g0 4)) ∧ ad = ad' ∧ f = f') := by
  refine ct_of (by decide +kernel) (Nat.le_of_ble_eq_true rfl) ?_
  intro p e s m args below meth c X hnm
  refine z_lv (lv' := [(0, .ref (ad k0))]) [0] rfl ?_
  refine z_lconst X (v := 0) dX0_totalGrams_0 rfl ?_
  refine z_lstore_n X (lv' := [(1, .long 0), (0, .ref (ad k0))]) dX0_totalGrams_1 rfl (by decide) rfl ?_
  refine z_iconst X (v := nI 0) dX0_totalGrams_2 (by decide) ?_
  refine z_istore_n X (lv' := [(3, .int (nI 0)), (1, .long 0), (0, .ref (ad k0))]) dX0_totalGrams_3 rfl (by decide) rfl ?_
  refine z_lv (lv' := [(0, .ref (ad k0)), (1, .long 0), (3, .int (nI 0))]) [2, 1, 0] rfl ?_
  have lp4 : ∀ (fu4 : Nat) (i : Nat) (sv : Int64), (i ≤ 4) → (sv = sumL g0 i) → 5 ≤ i + fu4 → Z G B 4 ad f p l e ({ frames := 0, cells := 0, slots := 0, locals := 0 } : Room) s m args below meth c (zEnd G B ad f below args s ({ frames := 0, cells := 0, slots := 0, locals := 0 } : Room) (fun v ad' f' => v = some (.long (sumL g0 4)) ∧ ad = ad' ∧ f = f')) ad f 0 0 4 [(0, .ref (ad k0)), (1, .long sv), (3, .int (nI i))] [] := by
    intro fu4
    induction fu4 with
    | zero => intro i sv hi hs hm4; exact absurd hm4 (by omega)
    | succ fu4 ih4 =>
      intro i sv hi hs hm4
      refine z_iload_n X 2 dX0_totalGrams_4 rfl rfl ?_
      refine z_iconst X (v := nI 4) dX0_totalGrams_5 (by decide) ?_
      refine z_icmp_geN X (tgt := 24) (by omega) (by omega) dX0_totalGrams_6 (by decide) (fun c6 => ?_) (fun c6 => ?_)
      · have e9 : i = 4 := by omega
        rw [e9] at hs
        refine z_lload_n X 1 dX0_totalGrams_24 rfl rfl ?_
        refine z_lret X (Nat.le_of_ble_eq_true rfl) (Nat.le_of_ble_eq_true rfl) ?_ dX0_totalGrams_25
        exact ⟨by rw [hs], rfl, rfl⟩
      · refine z_lload_n X 1 dX0_totalGrams_9 rfl rfl ?_
        refine z_aload_n X 0 dX0_totalGrams_10 rfl rfl ?_
        refine z_get X (v := .ref (ad k1)) k0 0 wa_X0 rfl rfl hb (by decide) q_156 rfl rfl dX0_totalGrams_11 ?_
        refine z_iload_n X 2 dX0_totalGrams_14 rfl rfl ?_
        refine z_laldN X (n := 4) (g := g0) k1 rfl hg (by omega) (by decide) dX0_totalGrams_15 ?_
        refine z_ladd X dX0_totalGrams_16 ?_
        refine z_lstore_n X (lv' := [(1, .long (sv + (g0 i))), (0, .ref (ad k0)), (3, .int (nI i))]) dX0_totalGrams_17 rfl (by decide) rfl ?_
        refine z_iincN X 2 (k := 1) (lv' := [(3, .int (nI (i + 1))), (1, .long (sv + (g0 i))), (0, .ref (ad k0))]) dX0_totalGrams_18 rfl (by decide) (by decide) rfl ?_
        refine z_goto X (tgt := 4) dX0_totalGrams_21 (by decide) ?_
        refine z_lv (lv' := [(0, .ref (ad k0)), (1, .long (sv + (g0 i))), (3, .int (nI (i + 1)))]) [2, 1, 0] rfl ?_
        exact ih4 (i + 1) (sv + (g0 i)) (by omega) (by rw [hs]; rfl) (by omega)
  exact lp4 5 0 0 (by omega) (by rfl) (by omega)
set_option maxHeartbeats 4000000 in
set_option maxRecDepth 100000 in
theorem b_mainKind (l : Launch) (G : va_G) (cy : Nat → ClassId) (B : Nat) (ad : Nat → Nat) (f : zW) (k0 k1 : Nat) (t0 : UInt64) (a2 a3 a4 a5 a6 : Int32) (r7 r8 : Option Nat) (g0 : Nat → Int64) (hb : f k0 = some (.inr (1, [.ref (ad k1), .double t0, .int a2, .int a3, .int a4, .int a5, .int a6, va_rf r7, va_rf r8]))) (hg : f k1 = some (.inl (cy 0, 4, .inr (.inl g0))))  : Ct l G cy B yX0_mainKind cX0_mainKind 3 (some .int) ({ frames := 0, cells := 0, slots := 0, locals := 0 } : Room) ad f [.ref (ad k0)] (fun v ad' f' => v = some (.int (nI (mainL g0 3))) ∧ ad = ad' ∧ f = f') := by
  refine ct_of (by decide +kernel) (Nat.le_of_ble_eq_true rfl) ?_
  intro p e s m args below meth c X hnm
  refine z_lv (lv' := [(0, .ref (ad k0))]) [0] rfl ?_
  refine z_iconst X (v := nI 0) dX0_mainKind_0 (by decide) ?_
  refine z_istore_n X (lv' := [(1, .int (nI 0)), (0, .ref (ad k0))]) dX0_mainKind_1 rfl (by decide) rfl ?_
  refine z_iconst X (v := nI 1) dX0_mainKind_2 (by decide) ?_
  refine z_istore_n X (lv' := [(2, .int (nI 1)), (1, .int (nI 0)), (0, .ref (ad k0))]) dX0_mainKind_3 rfl (by decide) rfl ?_
  refine z_lv (lv' := [(0, .ref (ad k0)), (1, .int (nI 0)), (2, .int (nI 1))]) [2, 1, 0] rfl ?_
  have lp4 : ∀ (fu4 : Nat) (i mv : Nat), (i ≤ 3) → (mv ≤ i) → (mv = mainL g0 i) → 4 ≤ i + fu4 → Z G B 3 ad f p l e ({ frames := 0, cells := 0, slots := 0, locals := 0 } : Room) s m args below meth c (zEnd G B ad f below args s ({ frames := 0, cells := 0, slots := 0, locals := 0 } : Room) (fun v ad' f' => v = some (.int (nI (mainL g0 3))) ∧ ad = ad' ∧ f = f')) ad f 0 0 4 [(0, .ref (ad k0)), (1, .int (nI mv)), (2, .int (nI (i + 1)))] [] := by
    intro fu4
    induction fu4 with
    | zero => intro i mv hi hm hs hm4; exact absurd hm4 (by omega)
    | succ fu4 ih4 =>
      intro i mv hi hm hs hm4
      refine z_iload_n X 2 dX0_mainKind_4 rfl rfl ?_
      refine z_iconst X (v := nI 4) dX0_mainKind_5 (by decide) ?_
      refine z_icmp_geN X (tgt := 33) (by omega) (by omega) dX0_mainKind_6 (by decide) (fun c6 => ?_) (fun c6 => ?_)
      · have e9 : i = 3 := by omega
        rw [e9] at hs
        refine z_iload_n X 1 dX0_mainKind_33 rfl rfl ?_
        refine z_iret X (Nat.le_of_ble_eq_true rfl) (Nat.le_of_ble_eq_true rfl) ?_ dX0_mainKind_34
        exact ⟨by rw [hs], rfl, rfl⟩
      · refine z_aload_n X 0 dX0_mainKind_9 rfl rfl ?_
        refine z_get X (v := .ref (ad k1)) k0 0 wa_X0 rfl rfl hb (by decide) q_156 rfl rfl dX0_mainKind_10 ?_
        refine z_iload_n X 2 dX0_mainKind_13 rfl rfl ?_
        refine z_laldN X (n := 4) (g := g0) k1 rfl hg (by omega) (by decide) dX0_mainKind_14 ?_
        refine z_aload_n X 0 dX0_mainKind_15 rfl rfl ?_
        refine z_get X (v := .ref (ad k1)) k0 0 wa_X0 rfl rfl hb (by decide) q_156 rfl rfl dX0_mainKind_16 ?_
        refine z_iload_n X 1 dX0_mainKind_19 rfl rfl ?_
        refine z_laldN X (n := 4) (g := g0) k1 rfl hg (by omega) (by decide) dX0_mainKind_20 ?_
        refine z_lcmp_le X (tgt := 27) dX0_mainKind_21 dX0_mainKind_22 (by decide) (fun c21 => ?_) (fun c21 => ?_)
        · refine z_iincN X 2 (k := 1) (lv' := [(2, .int (nI (i + 1 + 1))), (0, .ref (ad k0)), (1, .int (nI mv))]) dX0_mainKind_27 rfl (by decide) (by decide) rfl ?_
          refine z_goto X (tgt := 4) dX0_mainKind_30 (by decide) ?_
          refine z_lv (lv' := [(0, .ref (ad k0)), (1, .int (nI mv)), (2, .int (nI (i + 1 + 1)))]) [1, 2, 0] rfl ?_
          exact ih4 (i + 1) mv (by omega) (by omega) (by subst hs; exact (if_neg (Int64.not_lt.mpr c21)).symm) (by omega)
        · refine z_iload_n X 2 dX0_mainKind_25 rfl rfl ?_
          refine z_istore_n X (lv' := [(1, .int (nI (i + 1))), (0, .ref (ad k0)), (2, .int (nI (i + 1)))]) dX0_mainKind_26 rfl (by decide) rfl ?_
          refine z_iincN X 2 (k := 1) (lv' := [(2, .int (nI (i + 1 + 1))), (1, .int (nI (i + 1))), (0, .ref (ad k0))]) dX0_mainKind_27 rfl (by decide) (by decide) rfl ?_
          refine z_goto X (tgt := 4) dX0_mainKind_30 (by decide) ?_
          refine z_lv (lv' := [(0, .ref (ad k0)), (1, .int (nI (i + 1))), (2, .int (nI (i + 1 + 1)))]) [2, 1, 0] rfl ?_
          exact ih4 (i + 1) (i + 1) (by omega) (by omega) (by subst hs; exact (if_pos (Int64.not_le.mp c21)).symm) (by omega)
  exact lp4 4 0 0 (by omega) (by omega) (by rfl) (by omega)
set_option maxHeartbeats 4000000 in
set_option maxRecDepth 100000 in
theorem b_isHot (l : Launch) (G : va_G) (cy : Nat → ClassId) (B : Nat) (ad : Nat → Nat) (f : zW) (k0 k1 : Nat) (t0 : UInt64) (a2 a3 a4 a5 a6 : Int32) (r7 r8 : Option Nat) (g0 : Nat → Int64) (hb : f k0 = some (.inr (1, [.ref (ad k1), .double t0, .int a2, .int a3, .int a4, .int a5, .int a6, va_rf r7, va_rf r8]))) (hg : f k1 = some (.inl (cy 0, 4, .inr (.inl g0))))  : Ct l G cy B yX0_isHot cX0_isHot 1 (some .boolean) ({ frames := 0, cells := 0, slots := 0, locals := 0 } : Room) ad f [.ref (ad k0)] (fun v ad' f' => v = some (.int (nI (if dGe t0 4633641066610819072 = true then 1 else 0))) ∧ ad = ad' ∧ f = f') := by
  refine ct_of (by decide +kernel) (Nat.le_of_ble_eq_true rfl) ?_
  intro p e s m args below meth c X hnm
  refine z_lv (lv' := [(0, .ref (ad k0))]) [0] rfl ?_
  refine z_aload_n X 0 dX0_isHot_0 rfl rfl ?_
  refine z_get X (v := .double t0) k0 1 wa_X0 rfl rfl hb (by decide) q_157 rfl rfl dX0_isHot_1 ?_
  refine z_ldc2d X dX0_isHot_4 q_257 ?_
  refine z_dcmp_lt X (tgt := 15) dX0_isHot_7 dX0_isHot_8 (by decide) (fun c7 => ?_) (fun c7 => ?_)
  · refine z_iconst X (v := nI 0) dX0_isHot_15 (by decide) ?_
    refine z_zret rfl X (Nat.le_of_ble_eq_true rfl) (Nat.le_of_ble_eq_true rfl) ?_ dX0_isHot_16
    exact ⟨by rw [c7]; rfl, rfl, rfl⟩
  · refine z_iconst X (v := nI 1) dX0_isHot_11 (by decide) ?_
    refine z_goto X (tgt := 16) dX0_isHot_12 (by decide) ?_
    refine z_zret rfl X (Nat.le_of_ble_eq_true rfl) (Nat.le_of_ble_eq_true rfl) ?_ dX0_isHot_16
    exact ⟨by rw [c7]; rfl, rfl, rfl⟩
set_option maxHeartbeats 4000000 in
set_option maxRecDepth 100000 in
theorem b_isGoneOrSold (l : Launch) (G : va_G) (cy : Nat → ClassId) (B : Nat) (ad : Nat → Nat) (f : zW) (k0 k1 : Nat) (t0 : UInt64) (a2 a3 a4 a5 a6 : Int32) (r7 r8 : Option Nat) (g0 : Nat → Int64) (hb : f k0 = some (.inr (1, [.ref (ad k1), .double t0, .int a2, .int a3, .int a4, .int a5, .int a6, va_rf r7, va_rf r8]))) (hg : f k1 = some (.inl (cy 0, 4, .inr (.inl g0))))  : Ct l G cy B yX0_isGoneOrSold cX0_isGoneOrSold 1 (some .boolean) ({ frames := 0, cells := 0, slots := 0, locals := 0 } : Room) ad f [.ref (ad k0)] (fun v ad' f' => v = some (.int (nI (if a4 = nI 3 ∨ a4 = nI 2 then 1 else 0))) ∧ ad = ad' ∧ f = f') := by
  refine ct_of (by decide +kernel) (Nat.le_of_ble_eq_true rfl) ?_
  intro p e s m args below meth c X hnm
  refine z_lv (lv' := [(0, .ref (ad k0))]) [0] rfl ?_
  refine z_aload_n X 0 dX0_isGoneOrSold_0 rfl rfl ?_
  refine z_get X (v := .int a4) k0 4 wa_X0 rfl rfl hb (by decide) q_160 rfl rfl dX0_isGoneOrSold_1 ?_
  refine z_iconst X (v := nI 3) dX0_isGoneOrSold_4 (by decide) ?_
  refine z_icmp_eq X (tgt := 16) dX0_isGoneOrSold_5 (by decide) (fun c5 => ?_) (fun c5 => ?_)
  · refine z_iconst X (v := nI 1) dX0_isGoneOrSold_16 (by decide) ?_
    refine z_goto X (tgt := 21) dX0_isGoneOrSold_17 (by decide) ?_
    refine z_zret rfl X (Nat.le_of_ble_eq_true rfl) (Nat.le_of_ble_eq_true rfl) ?_ dX0_isGoneOrSold_21
    exact ⟨by rw [if_pos (Or.inl c5)], rfl, rfl⟩
  · refine z_aload_n X 0 dX0_isGoneOrSold_8 rfl rfl ?_
    refine z_get X (v := .int a4) k0 4 wa_X0 rfl rfl hb (by decide) q_160 rfl rfl dX0_isGoneOrSold_9 ?_
    refine z_iconst X (v := nI 2) dX0_isGoneOrSold_12 (by decide) ?_
    refine z_icmp_ne X (tgt := 20) dX0_isGoneOrSold_13 (by decide) (fun c13 => ?_) (fun c13 => ?_)
    · refine z_iconst X (v := nI 0) dX0_isGoneOrSold_20 (by decide) ?_
      refine z_zret rfl X (Nat.le_of_ble_eq_true rfl) (Nat.le_of_ble_eq_true rfl) ?_ dX0_isGoneOrSold_21
      exact ⟨by rw [if_neg (fun h => h.elim c5 c13)], rfl, rfl⟩
    · refine z_iconst X (v := nI 1) dX0_isGoneOrSold_16 (by decide) ?_
      refine z_goto X (tgt := 21) dX0_isGoneOrSold_17 (by decide) ?_
      refine z_zret rfl X (Nat.le_of_ble_eq_true rfl) (Nat.le_of_ble_eq_true rfl) ?_ dX0_isGoneOrSold_21
      exact ⟨by rw [if_pos (Or.inr c13)], rfl, rfl⟩
set_option maxHeartbeats 4000000 in
set_option maxRecDepth 100000 in
theorem b_standsOn (l : Launch) (G : va_G) (cy : Nat → ClassId) (B : Nat) (ad : Nat → Nat) (f : zW) (k0 k1 : Nat) (t0 : UInt64) (a2 a3 a4 a5 a6 : Int32) (r7 r8 : Option Nat) (g0 : Nat → Int64) (hb : f k0 = some (.inr (1, [.ref (ad k1), .double t0, .int a2, .int a3, .int a4, .int a5, .int a6, va_rf r7, va_rf r8]))) (hg : f k1 = some (.inl (cy 0, 4, .inr (.inl g0)))) (sn : Int32) : Ct l G cy B yX0_standsOn cX0_standsOn 2 (some .boolean) ({ frames := 0, cells := 0, slots := 0, locals := 0 } : Room) ad f [.ref (ad k0), .int sn] (fun v ad' f' => v = some (.int (nI (if a4 = nI 1 ∧ a5 = sn then 1 else 0))) ∧ ad = ad' ∧ f = f') := by
  refine ct_of (by decide +kernel) (Nat.le_of_ble_eq_true rfl) ?_
  intro p e s m args below meth c X hnm
  refine z_lv (lv' := [(0, .ref (ad k0)), (1, .int sn)]) [0, 1] rfl ?_
  refine z_aload_n X 0 dX0_standsOn_0 rfl rfl ?_
  refine z_get X (v := .int a4) k0 4 wa_X0 rfl rfl hb (by decide) q_160 rfl rfl dX0_standsOn_1 ?_
  refine z_iconst X (v := nI 1) dX0_standsOn_4 (by decide) ?_
  refine z_icmp_ne X (tgt := 20) dX0_standsOn_5 (by decide) (fun c5 => ?_) (fun c5 => ?_)
  · refine z_iconst X (v := nI 0) dX0_standsOn_20 (by decide) ?_
    refine z_zret rfl X (Nat.le_of_ble_eq_true rfl) (Nat.le_of_ble_eq_true rfl) ?_ dX0_standsOn_21
    exact ⟨by rw [if_neg (fun h => c5 h.1)], rfl, rfl⟩
  · refine z_aload_n X 0 dX0_standsOn_8 rfl rfl ?_
    refine z_get X (v := .int a5) k0 5 wa_X0 rfl rfl hb (by decide) q_161 rfl rfl dX0_standsOn_9 ?_
    refine z_iload_n X 1 dX0_standsOn_12 rfl rfl ?_
    refine z_icmp_ne X (tgt := 20) dX0_standsOn_13 (by decide) (fun c13 => ?_) (fun c13 => ?_)
    · refine z_iconst X (v := nI 0) dX0_standsOn_20 (by decide) ?_
      refine z_zret rfl X (Nat.le_of_ble_eq_true rfl) (Nat.le_of_ble_eq_true rfl) ?_ dX0_standsOn_21
      exact ⟨by rw [if_neg (fun h => c13 h.2)], rfl, rfl⟩
    · refine z_iconst X (v := nI 1) dX0_standsOn_16 (by decide) ?_
      refine z_goto X (tgt := 21) dX0_standsOn_17 (by decide) ?_
      refine z_zret rfl X (Nat.le_of_ble_eq_true rfl) (Nat.le_of_ble_eq_true rfl) ?_ dX0_standsOn_21
      exact ⟨by rw [if_pos ⟨c5, c13⟩], rfl, rfl⟩
set_option maxHeartbeats 4000000 in
set_option maxRecDepth 100000 in
theorem b_addGrams (l : Launch) (G : va_G) (cy : Nat → ClassId) (B : Nat) (ad : Nat → Nat) (f : zW) (k0 k1 : Nat) (t0 : UInt64) (a2 a3 a4 a5 a6 : Int32) (r7 r8 : Option Nat) (g0 : Nat → Int64) (hb : f k0 = some (.inr (1, [.ref (ad k1), .double t0, .int a2, .int a3, .int a4, .int a5, .int a6, va_rf r7, va_rf r8]))) (hg : f k1 = some (.inl (cy 0, 4, .inr (.inl g0)))) (kd : Int32) (mg : Int64) (hk : okKind kd) : Ct l G cy B yX0_addGrams cX0_addGrams 4 none ({ frames := 1, cells := 0, slots := 0, locals := 20 } : Room) ad f [.ref (ad k0), .int kd, .long mg] (fun v ad' f' => v = none ∧ ad = ad' ∧ zup f k1 (.inl (cy 0, 4, .inr (.inl (vp_updL g0 kd.toNatClampNeg (g0 kd.toNatClampNeg + mg))))) = f') := by
  refine ct_of (by decide +kernel) (Nat.le_of_ble_eq_true rfl) ?_
  intro p e s m args below meth c X hnm
  refine z_lv (lv' := [(0, .ref (ad k0)), (1, .int kd), (2, .long mg)]) [0, 1, 2] rfl ?_
  refine z_iload_n X 1 dX0_addGrams_0 rfl rfl ?_
  refine z_callSN X (n := 1) (As := [.int kd]) (rest := []) (c_X3_isKind l G cy B ad f kd) (List.mem_of_getElem? (i := 11) rfl) q_139 q_24 q_140 (by decide +kernel) ⟨Nat.le_of_ble_eq_true rfl, Nat.le_of_ble_eq_true rfl⟩ rfl rfl (Nat.le_of_ble_eq_true rfl) dX0_addGrams_1 ⟨Nat.le_of_ble_eq_true rfl, Nat.le_of_ble_eq_true rfl⟩ (fun v ad' f' hp had => ?_)
  obtain ⟨rfl, rfl, rfl⟩ := hp
  refine z_st (st' := [.int (nI (if okKind kd then 1 else 0))]) rfl ?_
  refine z_if_eqB X (tgt := 17) dX0_addGrams_4 (by decide) (fun c4 => by exfalso; exact c4 hk) (fun c4 => ?_)
  refine z_aload_n X 0 dX0_addGrams_7 rfl rfl ?_
  refine z_get X (v := .ref (ad k1)) k0 0 wa_X0 rfl rfl hb (by decide) q_156 rfl rfl dX0_addGrams_8 ?_
  refine z_iload_n X 1 dX0_addGrams_11 rfl rfl ?_
  refine z_dup2_11 X dX0_addGrams_12 rfl rfl ?_
  refine z_lald X (n := 4) (g := g0) k1 rfl hg (kd_in hk) dX0_addGrams_13 ?_
  refine z_lload_n X 2 dX0_addGrams_14 rfl rfl ?_
  refine z_ladd X dX0_addGrams_15 ?_
  refine z_last X (n := 4) (g := g0) k1 rfl hg (kd_in hk) dX0_addGrams_16 ?_
  refine z_vret X (Nat.le_of_ble_eq_true rfl) (Nat.le_of_ble_eq_true rfl) ?_ dX0_addGrams_17
  exact ⟨rfl, rfl, rfl⟩
set_option maxHeartbeats 4000000 in
set_option maxRecDepth 100000 in
theorem b_passHour (l : Launch) (G : va_G) (cy : Nat → ClassId) (B : Nat) (ad : Nat → Nat) (f : zW) (k0 k1 : Nat) (t0 : UInt64) (a2 a3 a4 a5 a6 : Int32) (r7 r8 : Option Nat) (g0 : Nat → Int64) (hb : f k0 = some (.inr (1, [.ref (ad k1), .double t0, .int a2, .int a3, .int a4, .int a5, .int a6, va_rf r7, va_rf r8]))) (hg : f k1 = some (.inl (cy 0, 4, .inr (.inl g0)))) (hne : k0 ≠ k1) (gn o : UInt64) : Ct l G cy B yX0_passHour cX0_passHour 5 none ({ frames := 1, cells := 0, slots := 0, locals := 20 } : Room) ad f [.ref (ad k0), .double gn, .double o] (fun v ad' f' => v = none ∧ ad = ad' ∧ ∃ t9, stepR gn o t0 t9 ∧ zup f k0 (.inr (1, [.ref (ad k1), .double t9, .int (if dGe t9 4633641066610819072 = true then a2 + nI 1 else nI 0), .int (if a3 < (if dGe t9 4633641066610819072 = true then a2 + nI 1 else nI 0) then (if dGe t9 4633641066610819072 = true then a2 + nI 1 else nI 0) else a3), .int a4, .int a5, .int a6, va_rf r7, va_rf r8])) = f') := by
  refine ct_of (by decide +kernel) (Nat.le_of_ble_eq_true rfl) ?_
  intro p e s m args below meth c X hnm
  refine z_lv (lv' := [(0, .ref (ad k0)), (1, .double gn), (3, .double o)]) [0, 1, 2] rfl ?_
  refine z_aload_n X 0 dX0_passHour_0 rfl rfl ?_
  refine z_aload_n X 0 dX0_passHour_1 rfl rfl ?_
  refine z_get X (v := .double t0) k0 1 wa_X0 rfl rfl hb (by decide) q_157 rfl rfl dX0_passHour_2 ?_
  refine z_dload_n X 1 dX0_passHour_5 rfl rfl ?_
  refine z_dadd X dX0_passHour_6 (fun r6 hr6 => ?_)
  refine z_aload_n X 0 dX0_passHour_7 rfl rfl ?_
  refine z_get X (v := .double t0) k0 1 wa_X0 rfl rfl hb (by decide) q_157 rfl rfl dX0_passHour_8 ?_
  refine z_dload_n X 2 dX0_passHour_11 rfl rfl ?_
  refine z_dsub X dX0_passHour_12 (fun r12 hr12 => ?_)
  refine z_ldc2d X dX0_passHour_13 q_252 ?_
  refine z_dmul X dX0_passHour_16 (fun r16 hr16 => ?_)
  refine z_dsub X dX0_passHour_17 (fun r17 hr17 => ?_)
  refine z_put X (ty := .double) k0 1 wa_X0 tyX0 tyX0_ok nmX0 rfl rfl hb (by decide) q_157 rfl rfl (by decide +kernel) rfl rfl (Nat.le_of_ble_eq_true rfl) dX0_passHour_18 ?_
  refine z_aload_n X 0 dX0_passHour_21 rfl rfl ?_
  refine z_aload_n X 0 dX0_passHour_22 rfl rfl ?_
  refine z_callV X (n := 0) (As := []) (rest := [.ref (ad k0)]) k0 rfl zup_same rfl (b_isHot l G cy B ad (zup f k0 (.inr (1, [.ref (ad k1), .double r17, .int a2, .int a3, .int a4, .int a5, .int a6, va_rf r7, va_rf r8]))) k0 k1 r17 a2 a3 a4 a5 a6 r7 r8 g0 zup_same ((zup_ne hne.symm).trans hg)) q_253 q_254 q_255 q_30 q_256 (by decide +kernel) ⟨Nat.le_of_ble_eq_true rfl, Nat.le_of_ble_eq_true rfl⟩ rfl rfl (Nat.le_of_ble_eq_true rfl) dX0_passHour_23 ⟨Nat.le_of_ble_eq_true rfl, Nat.le_of_ble_eq_true rfl⟩ (fun v ad' f' hp had => ?_)
  obtain ⟨rfl, rfl, rfl⟩ := hp
  refine z_st (st' := [.int (nI (if dGe r17 4633641066610819072 = true then 1 else 0)), .ref (ad k0)]) rfl ?_
  refine z_if_eqB X (tgt := 38) dX0_passHour_26 (by decide) (fun c26 => ?_) (fun c26 => ?_)
  · refine z_iconst X (v := nI 0) dX0_passHour_38 (by decide) ?_
    refine z_put X (ty := .int) k0 2 wa_X0 tyX0 tyX0_ok nmX0 rfl rfl zup_same (by decide) q_158 rfl rfl (by decide +kernel) rfl rfl (Nat.le_of_ble_eq_true rfl) dX0_passHour_39 ?_
    refine z_f zup_zup ?_
    refine z_aload_n X 0 dX0_passHour_42 rfl rfl ?_
    refine z_aload_n X 0 dX0_passHour_43 rfl rfl ?_
    refine z_get X (v := .int a3) k0 3 wa_X0 rfl rfl zup_same (by decide) q_159 rfl rfl dX0_passHour_44 ?_
    refine z_aload_n X 0 dX0_passHour_47 rfl rfl ?_
    refine z_get X (v := .int (nI 0)) k0 2 wa_X0 rfl rfl zup_same (by decide) q_158 rfl rfl dX0_passHour_48 ?_
    refine z_mmax X q_258 q_259 q_31 q_260 (Nat.le_of_ble_eq_true rfl) (Nat.le_of_ble_eq_true rfl) (Nat.le_of_ble_eq_true rfl) (Nat.le_of_ble_eq_true rfl) dX0_passHour_51 ?_
    refine z_put X (ty := .int) k0 3 wa_X0 tyX0 tyX0_ok nmX0 rfl rfl zup_same (by decide) q_159 rfl rfl (by decide +kernel) rfl rfl (Nat.le_of_ble_eq_true rfl) dX0_passHour_54 ?_
    refine z_f zup_zup ?_
    refine z_vret X (Nat.le_of_ble_eq_true rfl) (Nat.le_of_ble_eq_true rfl) ?_ dX0_passHour_57
    refine ⟨rfl, rfl, r17, ⟨r6, r12, r16, hr6, hr12, hr16, hr17⟩, ?_⟩
    rw [if_neg c26]; rfl
  · refine z_aload_n X 0 dX0_passHour_29 rfl rfl ?_
    refine z_get X (v := .int a2) k0 2 wa_X0 rfl rfl zup_same (by decide) q_158 rfl rfl dX0_passHour_30 ?_
    refine z_iconst X (v := nI 1) dX0_passHour_33 (by decide) ?_
    refine z_iadd X dX0_passHour_34 ?_
    refine z_goto X (tgt := 39) dX0_passHour_35 (by decide) ?_
    refine z_put X (ty := .int) k0 2 wa_X0 tyX0 tyX0_ok nmX0 rfl rfl zup_same (by decide) q_158 rfl rfl (by decide +kernel) rfl rfl (Nat.le_of_ble_eq_true rfl) dX0_passHour_39 ?_
    refine z_f zup_zup ?_
    refine z_aload_n X 0 dX0_passHour_42 rfl rfl ?_
    refine z_aload_n X 0 dX0_passHour_43 rfl rfl ?_
    refine z_get X (v := .int a3) k0 3 wa_X0 rfl rfl zup_same (by decide) q_159 rfl rfl dX0_passHour_44 ?_
    refine z_aload_n X 0 dX0_passHour_47 rfl rfl ?_
    refine z_get X (v := .int (a2 + (nI 1))) k0 2 wa_X0 rfl rfl zup_same (by decide) q_158 rfl rfl dX0_passHour_48 ?_
    refine z_mmax X q_258 q_259 q_31 q_260 (Nat.le_of_ble_eq_true rfl) (Nat.le_of_ble_eq_true rfl) (Nat.le_of_ble_eq_true rfl) (Nat.le_of_ble_eq_true rfl) dX0_passHour_51 ?_
    refine z_put X (ty := .int) k0 3 wa_X0 tyX0 tyX0_ok nmX0 rfl rfl zup_same (by decide) q_159 rfl rfl (by decide +kernel) rfl rfl (Nat.le_of_ble_eq_true rfl) dX0_passHour_54 ?_
    refine z_f zup_zup ?_
    refine z_vret X (Nat.le_of_ble_eq_true rfl) (Nat.le_of_ble_eq_true rfl) ?_ dX0_passHour_57
    refine ⟨rfl, rfl, r17, ⟨r6, r12, r16, hr6, hr12, hr16, hr17⟩, ?_⟩
    rw [if_pos c26]; rfl
set_option maxHeartbeats 4000000 in
set_option maxRecDepth 100000 in
theorem b_makeOf (l : Launch) (G : va_G) (cy : Nat → ClassId) (B : Nat) (ad : Nat → Nat) (f : zW) (k0 k1 : Nat) (t0 : UInt64) (a2 a3 a4 a5 a6 : Int32) (r7 r8 : Option Nat) (g0 : Nat → Int64) (hb : f k0 = some (.inr (1, [.ref (ad k1), .double t0, .int a2, .int a3, .int a4, .int a5, .int a6, va_rf r7, va_rf r8]))) (hg : f k1 = some (.inl (cy 0, 4, .inr (.inl g0)))) (hne : k0 ≠ k1) (p0 p1 q0 q1 : Nat) (np0k0 : p0 ≠ k0) (np1k0 : p1 ≠ k0) (nq0k0 : q0 ≠ k0) (nq1k0 : q1 ≠ k0) (np0k1 : p0 ≠ k1) (np1k1 : p1 ≠ k1) (nq0k1 : q0 ≠ k1) (nq1k1 : q1 ≠ k1) (yt : UInt64) (y2 y3 y4 y5 y6 : Int32) (y7 y8 : Option Nat) (gy : Nat → Int64) (hy : f p0 = some (.inr (1, [.ref (ad p1), .double yt, .int y2, .int y3, .int y4, .int y5, .int y6, va_rf y7, va_rf y8]))) (hgy : f p1 = some (.inl (cy 0, 4, .inr (.inl gy)))) (zt : UInt64) (z2 z3 z4 z5 z6 : Int32) (z7 z8 : Option Nat) (gz : Nat → Int64) (hz : f q0 = some (.inr (1, [.ref (ad q1), .double zt, .int z2, .int z3, .int z4, .int z5, .int z6, va_rf z7, va_rf z8]))) (hgz : f q1 = some (.inl (cy 0, 4, .inr (.inl gz)))) : Ct l G cy B yX0_makeOf cX0_makeOf 4 none ({ frames := 2, cells := 0, slots := 0, locals := 43 } : Room) ad f [.ref (ad k0), .ref (ad p0), .ref (ad q0)] (fun v ad' f' => v = none ∧ ad = ad' ∧ zup (zup f k1 (.inl (cy 0, 4, .inr (.inl (mkG g0 gy gz 4))))) k0 (.inr (1, [.ref (ad k1), .double (if dGe yt zt = true then yt else zt), .int a2, .int a3, .int a4, .int a5, .int a6, .ref (ad p0), .ref (ad q0)])) = f') := by
  refine ct_of (by decide +kernel) (Nat.le_of_ble_eq_true rfl) ?_
  intro p e s m args below meth c X hnm
  refine z_lv (lv' := [(0, .ref (ad k0)), (1, .ref (ad p0)), (2, .ref (ad q0))]) [0, 1, 2] rfl ?_
  refine z_aload_n X 1 dX0_makeOf_0 rfl rfl ?_
  refine z_ifnull X dX0_makeOf_1 ?_
  refine z_aload_n X 2 dX0_makeOf_4 rfl rfl ?_
  refine z_ifnonnull X (tgt := 9) dX0_makeOf_5 (by decide) ?_
  refine z_iconst X (v := nI 0) dX0_makeOf_9 (by decide) ?_
  refine z_istore_n X (lv' := [(3, .int (nI 0)), (0, .ref (ad k0)), (1, .ref (ad p0)), (2, .ref (ad q0))]) dX0_makeOf_10 rfl (by decide) rfl ?_
  refine z_lv (lv' := [(0, .ref (ad k0)), (1, .ref (ad p0)), (2, .ref (ad q0)), (3, .int (nI 0))]) [1, 2, 3, 0] rfl ?_
  have lp11 : ∀ (fu11 : Nat) (i : Nat), (i ≤ 4) → 5 ≤ i + fu11 → Z G B 4 ad f p l e ({ frames := 2, cells := 0, slots := 0, locals := 43 } : Room) s m args below meth c (zEnd G B ad f below args s ({ frames := 2, cells := 0, slots := 0, locals := 43 } : Room) (fun v ad' f' => v = none ∧ ad = ad' ∧ zup (zup f k1 (.inl (cy 0, 4, .inr (.inl (mkG g0 gy gz 4))))) k0 (.inr (1, [.ref (ad k1), .double (if dGe yt zt = true then yt else zt), .int a2, .int a3, .int a4, .int a5, .int a6, .ref (ad p0), .ref (ad q0)])) = f')) ad (zup f k1 (.inl (cy 0, 4, .inr (.inl (mkG g0 gy gz i))))) 0 0 11 [(0, .ref (ad k0)), (1, .ref (ad p0)), (2, .ref (ad q0)), (3, .int (nI i))] [] := by
    intro fu11
    induction fu11 with
    | zero => intro i hi hm11; exact absurd hm11 (by omega)
    | succ fu11 ih11 =>
      intro i hi hm11
      refine z_iload_n X 3 dX0_makeOf_11 rfl rfl ?_
      refine z_iconst X (v := nI 4) dX0_makeOf_12 (by decide) ?_
      refine z_icmp_geN X (tgt := 38) (by omega) (by omega) dX0_makeOf_13 (by decide) (fun c13 => ?_) (fun c13 => ?_)
      · have e9 : i = 4 := by omega
        subst e9
        refine z_aload_n X 0 dX0_makeOf_38 rfl rfl ?_
        refine z_aload_n X 1 dX0_makeOf_39 rfl rfl ?_
        refine z_get X (v := .double yt) p0 1 wa_X0 rfl rfl ((zup_ne np0k1).trans hy) (by decide) q_157 rfl rfl dX0_makeOf_40 ?_
        refine z_aload_n X 2 dX0_makeOf_43 rfl rfl ?_
        refine z_get X (v := .double zt) q0 1 wa_X0 rfl rfl ((zup_ne nq0k1).trans hz) (by decide) q_157 rfl rfl dX0_makeOf_44 ?_
        refine z_dcmp_lt X (tgt := 58) dX0_makeOf_47 dX0_makeOf_48 (by decide) (fun c47 => ?_) (fun c47 => ?_)
        · refine z_aload_n X 2 dX0_makeOf_58 rfl rfl ?_
          refine z_get X (v := .double zt) q0 1 wa_X0 rfl rfl ((zup_ne nq0k1).trans hz) (by decide) q_157 rfl rfl dX0_makeOf_59 ?_
          refine z_put X (ty := .double) k0 1 wa_X0 tyX0 tyX0_ok nmX0 rfl rfl ((zup_ne hne).trans hb) (by decide) q_157 rfl rfl (by decide +kernel) rfl rfl (Nat.le_of_ble_eq_true rfl) dX0_makeOf_62 ?_
          refine z_aload_n X 0 dX0_makeOf_65 rfl rfl ?_
          refine z_aload_n X 1 dX0_makeOf_66 rfl rfl ?_
          refine z_put X (ty := .object "BalePress$Bale") k0 7 wa_X0 tyX0 tyX0_ok nmX0 rfl rfl zup_same (by decide) q_162 rfl rfl (by decide +kernel) rfl rfl (Nat.le_of_ble_eq_true rfl) dX0_makeOf_67 ?_
          refine z_f zup_zup ?_
          refine z_aload_n X 0 dX0_makeOf_70 rfl rfl ?_
          refine z_aload_n X 2 dX0_makeOf_71 rfl rfl ?_
          refine z_put X (ty := .object "BalePress$Bale") k0 8 wa_X0 tyX0 tyX0_ok nmX0 rfl rfl zup_same (by decide) q_163 rfl rfl (by decide +kernel) rfl rfl (Nat.le_of_ble_eq_true rfl) dX0_makeOf_72 ?_
          refine z_f zup_zup ?_
          refine z_vret X (Nat.le_of_ble_eq_true rfl) (Nat.le_of_ble_eq_true rfl) ?_ dX0_makeOf_75
          exact ⟨rfl, rfl, by rw [if_neg (by rw [c47]; exact Bool.false_ne_true)]; rfl⟩
        · refine z_aload_n X 1 dX0_makeOf_51 rfl rfl ?_
          refine z_get X (v := .double yt) p0 1 wa_X0 rfl rfl ((zup_ne np0k1).trans hy) (by decide) q_157 rfl rfl dX0_makeOf_52 ?_
          refine z_goto X (tgt := 62) dX0_makeOf_55 (by decide) ?_
          refine z_put X (ty := .double) k0 1 wa_X0 tyX0 tyX0_ok nmX0 rfl rfl ((zup_ne hne).trans hb) (by decide) q_157 rfl rfl (by decide +kernel) rfl rfl (Nat.le_of_ble_eq_true rfl) dX0_makeOf_62 ?_
          refine z_aload_n X 0 dX0_makeOf_65 rfl rfl ?_
          refine z_aload_n X 1 dX0_makeOf_66 rfl rfl ?_
          refine z_put X (ty := .object "BalePress$Bale") k0 7 wa_X0 tyX0 tyX0_ok nmX0 rfl rfl zup_same (by decide) q_162 rfl rfl (by decide +kernel) rfl rfl (Nat.le_of_ble_eq_true rfl) dX0_makeOf_67 ?_
          refine z_f zup_zup ?_
          refine z_aload_n X 0 dX0_makeOf_70 rfl rfl ?_
          refine z_aload_n X 2 dX0_makeOf_71 rfl rfl ?_
          refine z_put X (ty := .object "BalePress$Bale") k0 8 wa_X0 tyX0 tyX0_ok nmX0 rfl rfl zup_same (by decide) q_163 rfl rfl (by decide +kernel) rfl rfl (Nat.le_of_ble_eq_true rfl) dX0_makeOf_72 ?_
          refine z_f zup_zup ?_
          refine z_vret X (Nat.le_of_ble_eq_true rfl) (Nat.le_of_ble_eq_true rfl) ?_ dX0_makeOf_75
          exact ⟨rfl, rfl, by rw [if_pos c47]; rfl⟩
      · refine z_aload_n X 0 dX0_makeOf_16 rfl rfl ?_
        refine z_iload_n X 3 dX0_makeOf_17 rfl rfl ?_
        refine z_aload_n X 1 dX0_makeOf_18 rfl rfl ?_
        refine z_iload_n X 3 dX0_makeOf_19 rfl rfl ?_
        refine z_callV X (n := 1) (As := [.int (nI i)]) (rest := [.int (nI i), .ref (ad k0)]) p0 rfl ((zup_ne np0k1).trans hy) rfl (b_gramsOf l G cy B ad (zup f k1 (.inl (cy 0, 4, .inr (.inl (mkG g0 gy gz i))))) p0 p1 yt y2 y3 y4 y5 y6 y7 y8 gy ((zup_ne np0k1).trans hy) ((zup_ne np1k1).trans hgy) (nI i)) q_382 q_199 q_200 q_30 q_201 (by decide +kernel) ⟨Nat.le_of_ble_eq_true rfl, Nat.le_of_ble_eq_true rfl⟩ rfl rfl (Nat.le_of_ble_eq_true rfl) dX0_makeOf_20 ⟨Nat.le_of_ble_eq_true rfl, Nat.le_of_ble_eq_true rfl⟩ (fun v ad' f' hp had => ?_)
        obtain ⟨rfl, rfl, rfl⟩ := hp
        refine z_st (st' := [.long (if okKind (nI i) then gy (nI i).toNatClampNeg else 0), .int (nI i), .ref (ad k0)]) rfl ?_
        refine z_top (v' := .long (gy i)) (by rw [if_pos (okK (by omega)), nI_clamp (by omega)]) ?_
        refine z_aload_n X 2 dX0_makeOf_23 rfl rfl ?_
        refine z_iload_n X 3 dX0_makeOf_24 rfl rfl ?_
        refine z_callV X (n := 1) (As := [.int (nI i)]) (rest := [.long (gy i), .int (nI i), .ref (ad k0)]) q0 rfl ((zup_ne nq0k1).trans hz) rfl (b_gramsOf l G cy B ad (zup f k1 (.inl (cy 0, 4, .inr (.inl (mkG g0 gy gz i))))) q0 q1 zt z2 z3 z4 z5 z6 z7 z8 gz ((zup_ne nq0k1).trans hz) ((zup_ne nq1k1).trans hgz) (nI i)) q_382 q_199 q_200 q_30 q_201 (by decide +kernel) ⟨Nat.le_of_ble_eq_true rfl, Nat.le_of_ble_eq_true rfl⟩ rfl rfl (Nat.le_of_ble_eq_true rfl) dX0_makeOf_25 ⟨Nat.le_of_ble_eq_true rfl, Nat.le_of_ble_eq_true rfl⟩ (fun v ad' f' hp had => ?_)
        obtain ⟨rfl, rfl, rfl⟩ := hp
        refine z_st (st' := [.long (if okKind (nI i) then gz (nI i).toNatClampNeg else 0), .long (gy i), .int (nI i), .ref (ad k0)]) rfl ?_
        refine z_top (v' := .long (gz i)) (by rw [if_pos (okK (by omega)), nI_clamp (by omega)]) ?_
        refine z_ladd X dX0_makeOf_28 ?_
        refine z_callV X (n := 2) (As := [.int (nI i), .long ((gy i) + (gz i))]) (rest := []) k0 rfl ((zup_ne hne).trans hb) rfl (b_addGrams l G cy B ad (zup f k1 (.inl (cy 0, 4, .inr (.inl (mkG g0 gy gz i))))) k0 k1 t0 a2 a3 a4 a5 a6 r7 r8 (mkG g0 gy gz i) ((zup_ne hne).trans hb) zup_same (nI i) (gy i + gz i) (okK (by omega))) q_383 q_184 q_185 q_30 q_186 (by decide +kernel) ⟨Nat.le_of_ble_eq_true rfl, Nat.le_of_ble_eq_true rfl⟩ rfl rfl (Nat.le_of_ble_eq_true rfl) dX0_makeOf_29 ⟨Nat.le_of_ble_eq_true rfl, Nat.le_of_ble_eq_true rfl⟩ (fun v ad' f' hp had => ?_)
        obtain ⟨rfl, rfl, rfl⟩ := hp
        refine z_st (st' := []) rfl ?_
        refine z_f (show _ = zup f k1 (.inl (cy 0, 4, .inr (.inl (mkG g0 gy gz (i + 1))))) from by rw [zup_zup, nI_clamp (by omega), mkG_s]) ?_
        refine z_iincN X 3 (k := 1) (lv' := [(3, .int (nI (i + 1))), (0, .ref (ad k0)), (1, .ref (ad p0)), (2, .ref (ad q0))]) dX0_makeOf_32 rfl (by decide) (by decide) rfl ?_
        refine z_goto X (tgt := 11) dX0_makeOf_35 (by decide) ?_
        refine z_lv (lv' := [(0, .ref (ad k0)), (1, .ref (ad p0)), (2, .ref (ad q0)), (3, .int (nI (i + 1)))]) [1, 2, 3, 0] rfl ?_
        exact ih11 (i + 1) (by omega) (by omega)
  refine z_f (show f = zup f k1 (.inl (cy 0, 4, .inr (.inl (mkG g0 gy gz 0)))) from (by rw [mkG_0]; exact (zup_id hg).symm)) ?_
  exact lp11 5 0 (by omega) (by omega)
set_option maxHeartbeats 4000000 in
set_option maxRecDepth 100000 in
theorem b_init (l : Launch) (G : va_G) (cy : Nat → ClassId) (B : Nat) (ad : Nat → Nat) (f : zW) (k0 k1 : Nat) (hne : k0 ≠ k1) (hb : f k0 = some (.inr (1, [.null, .double 0, .int 0, .int 0, .int 0, .int 0, .int 0, .null, .null]))) (hn1 : f k1 = none) : Ct l G cy B yX0_init cX0_init 1 none ({ frames := 1, cells := 1, slots := 4, locals := 12 } : Room) ad f [.ref (ad k0)] (fun v ad' f' => v = none ∧ ∃ a9, zad ad k1 a9 = ad' ∧ zup (zup f k1 (.inl (cy 0, 4, .inr (.inl (fun _ => 0))))) k0 (.inr (1, [.ref a9, .double 4626322717216342016, .int 0, .int 0, .int (nI 0), .int (-1), .int 0, .null, .null])) = f') := by
  refine ct_of (by decide +kernel) (Nat.le_of_ble_eq_true rfl) ?_
  intro p e s m args below meth c X hnm
  refine z_lv (lv' := [(0, .ref (ad k0))]) [0] rfl ?_
  refine z_aload_n X 0 dX0_init_0 rfl rfl ?_
  refine z_objInit X q_154 q_46 q_47 dX0_init_1 (Nat.le_of_ble_eq_true rfl) (Nat.le_of_ble_eq_true rfl) ?_
  refine z_aload_n X 0 dX0_init_4 rfl rfl ?_
  refine z_iconst X (v := nI 4) dX0_init_5 (by decide) ?_
  refine z_newa X (atype := .long) (ty := .long) (N' := 4) (a0 := (4, .inr (.inl (fun _ => 0)))) k1 0 hn1 q_81 rfl rfl (fun _ => rfl) (by decide) (by decide) (by decide) (Nat.le_of_ble_eq_true rfl) (Nat.le_of_ble_eq_true rfl) dX0_init_6 (fun a6 => ?_)
  refine z_putF X (ty := .array .long) k0 0 wa_X0 tyX0 tyX0_ok nmX0 rfl (zad_ne hne) ((zup_ne hne).trans hb) (by decide) q_156 rfl rfl hnm rfl (by decide +kernel) rfl rfl (Nat.le_of_ble_eq_true rfl) dX0_init_8 ?_
  refine z_aload_n X 0 dX0_init_11 rfl rfl ?_
  refine z_ldc2d X dX0_init_12 q_155 ?_
  refine z_put X (ty := .double) k0 1 wa_X0 tyX0 tyX0_ok nmX0 rfl (zad_ne hne) zup_same (by decide) q_157 rfl rfl (by decide +kernel) rfl rfl (Nat.le_of_ble_eq_true rfl) dX0_init_15 ?_
  refine z_f zup_zup ?_
  refine z_aload_n X 0 dX0_init_18 rfl rfl ?_
  refine z_iconst X (v := nI 0) dX0_init_19 (by decide) ?_
  refine z_put X (ty := .int) k0 4 wa_X0 tyX0 tyX0_ok nmX0 rfl (zad_ne hne) zup_same (by decide) q_160 rfl rfl (by decide +kernel) rfl rfl (Nat.le_of_ble_eq_true rfl) dX0_init_20 ?_
  refine z_f zup_zup ?_
  refine z_aload_n X 0 dX0_init_23 rfl rfl ?_
  refine z_iconst X (v := -1) dX0_init_24 (by decide) ?_
  refine z_put X (ty := .int) k0 5 wa_X0 tyX0 tyX0_ok nmX0 rfl (zad_ne hne) zup_same (by decide) q_161 rfl rfl (by decide +kernel) rfl rfl (Nat.le_of_ble_eq_true rfl) dX0_init_25 ?_
  refine z_f zup_zup ?_
  refine z_vret X (Nat.le_of_ble_eq_true rfl) (Nat.le_of_ble_eq_true rfl) ?_ dX0_init_28
  exact ⟨rfl, a6, rfl, rfl⟩
set_option maxHeartbeats 4000000 in
set_option maxRecDepth 100000 in
theorem y_momentOfNext (l : Launch) (G : va_G) (cy : Nat → ClassId) (B : Nat) (ad : Nat → Nat) (f : zW) (k0 : Nat) (m1 m2 g1 g2 : Int64) (pt : Nat) (hpt : pt ≤ 8) (hb : f k0 = some (.inr (2, [.long m1, .long m2, .long g1, .long g2, .int (nI pt)]))) (gg : Int64) : Ct l G cy B yX1_momentOfNext cX1_momentOfNext 3 (some .long) ({ frames := 0, cells := 0, slots := 0, locals := 0 } : Room) ad f [.ref (ad k0), .long gg] (fun v ad' f' => v = some (.long (gg * lN (pt + 1))) ∧ ad = ad' ∧ f = f') := by
  refine ct_of (by decide +kernel) (Nat.le_of_ble_eq_true rfl) ?_
  intro p e s m args below meth c X hnm
  refine z_lv (lv' := [(0, .ref (ad k0)), (1, .long gg)]) [0, 1] rfl ?_
  refine z_lload_n X 1 dX1_momentOfNext_0 rfl rfl ?_
  refine z_aload_n X 0 dX1_momentOfNext_1 rfl rfl ?_
  refine z_get X (v := .int (nI pt)) k0 4 wa_X1 rfl rfl hb (by decide) q_340 rfl rfl dX1_momentOfNext_2 ?_
  refine z_iconst X (v := nI 1) dX1_momentOfNext_5 (by decide) ?_
  refine z_iaddN X dX1_momentOfNext_6 ?_
  refine z_i2lN X (by omega) dX1_momentOfNext_7 ?_
  refine z_lmul X dX1_momentOfNext_8 ?_
  refine z_lret X (Nat.le_of_ble_eq_true rfl) (Nat.le_of_ble_eq_true rfl) ?_ dX1_momentOfNext_9
  exact ⟨rfl, rfl, rfl⟩
set_option maxHeartbeats 4000000 in
set_option maxRecDepth 100000 in
theorem y_hasRoomFor (l : Launch) (G : va_G) (cy : Nat → ClassId) (B : Nat) (ad : Nat → Nat) (f : zW) (k0 : Nat) (m1 m2 g1 g2 : Int64) (pt : Nat) (hpt : pt ≤ 8) (hb : f k0 = some (.inr (2, [.long m1, .long m2, .long g1, .long g2, .int (nI pt)]))) (gg : Int64) : Ct l G cy B yX1_hasRoomFor cX1_hasRoomFor 3 (some .boolean) ({ frames := 1, cells := 0, slots := 0, locals := 22 } : Room) ad f [.ref (ad k0), .long gg] (fun v ad' f' => v = some (.int (nI (if pt < 8 ∧ g1 + gg ≤ m1 ∧ g2 + gg * lN (pt + 1) ≤ m2 then 1 else 0))) ∧ ad = ad' ∧ f = f') := by
  refine ct_of (by decide +kernel) (Nat.le_of_ble_eq_true rfl) ?_
  intro p e s m args below meth c X hnm
  refine z_lv (lv' := [(0, .ref (ad k0)), (1, .long gg)]) [0, 1] rfl ?_
  refine z_aload_n X 0 dX1_hasRoomFor_0 rfl rfl ?_
  refine z_get X (v := .int (nI pt)) k0 4 wa_X1 rfl rfl hb (by decide) q_340 rfl rfl dX1_hasRoomFor_1 ?_
  refine z_bipush X (v := nI 8) dX1_hasRoomFor_4 (by decide) ?_
  refine z_icmp_geN X (tgt := 45) (by omega) (by omega) dX1_hasRoomFor_6 (by decide) (fun c6 => ?_) (fun c6 => ?_)
  · refine z_iconst X (v := nI 0) dX1_hasRoomFor_45 (by decide) ?_
    refine z_zret rfl X (Nat.le_of_ble_eq_true rfl) (Nat.le_of_ble_eq_true rfl) ?_ dX1_hasRoomFor_46
    exact ⟨by rw [if_neg (fun h => absurd h.1 (by omega))], rfl, rfl⟩
  · refine z_aload_n X 0 dX1_hasRoomFor_9 rfl rfl ?_
    refine z_get X (v := .long g1) k0 2 wa_X1 rfl rfl hb (by decide) q_338 rfl rfl dX1_hasRoomFor_10 ?_
    refine z_lload_n X 1 dX1_hasRoomFor_13 rfl rfl ?_
    refine z_ladd X dX1_hasRoomFor_14 ?_
    refine z_aload_n X 0 dX1_hasRoomFor_15 rfl rfl ?_
    refine z_get X (v := .long m1) k0 0 wa_X1 rfl rfl hb (by decide) q_336 rfl rfl dX1_hasRoomFor_16 ?_
    refine z_lcmp_gt X (tgt := 45) dX1_hasRoomFor_19 dX1_hasRoomFor_20 (by decide) (fun c19 => ?_) (fun c19 => ?_)
    · refine z_iconst X (v := nI 0) dX1_hasRoomFor_45 (by decide) ?_
      refine z_zret rfl X (Nat.le_of_ble_eq_true rfl) (Nat.le_of_ble_eq_true rfl) ?_ dX1_hasRoomFor_46
      exact ⟨by rw [if_neg (fun h => absurd h.2.1 (Int64.not_le.mpr c19))], rfl, rfl⟩
    · refine z_aload_n X 0 dX1_hasRoomFor_23 rfl rfl ?_
      refine z_get X (v := .long g2) k0 3 wa_X1 rfl rfl hb (by decide) q_339 rfl rfl dX1_hasRoomFor_24 ?_
      refine z_aload_n X 0 dX1_hasRoomFor_27 rfl rfl ?_
      refine z_lload_n X 1 dX1_hasRoomFor_28 rfl rfl ?_
      refine z_callV X (n := 1) (As := [.long gg]) (rest := [.long g2]) k0 rfl hb rfl (y_momentOfNext l G cy B ad f k0 m1 m2 g1 g2 pt (by omega) hb gg) q_363 q_364 q_11 q_33 q_365 (by decide +kernel) ⟨Nat.le_of_ble_eq_true rfl, Nat.le_of_ble_eq_true rfl⟩ rfl rfl (Nat.le_of_ble_eq_true rfl) dX1_hasRoomFor_29 ⟨Nat.le_of_ble_eq_true rfl, Nat.le_of_ble_eq_true rfl⟩ (fun v ad' f' hp had => ?_)
      obtain ⟨rfl, rfl, rfl⟩ := hp
      refine z_st (st' := [.long (gg * lN (pt + 1)), .long g2]) rfl ?_
      refine z_ladd X dX1_hasRoomFor_32 ?_
      refine z_aload_n X 0 dX1_hasRoomFor_33 rfl rfl ?_
      refine z_get X (v := .long m2) k0 1 wa_X1 rfl rfl hb (by decide) q_337 rfl rfl dX1_hasRoomFor_34 ?_
      refine z_lcmp_gt X (tgt := 45) dX1_hasRoomFor_37 dX1_hasRoomFor_38 (by decide) (fun c37 => ?_) (fun c37 => ?_)
      · refine z_iconst X (v := nI 0) dX1_hasRoomFor_45 (by decide) ?_
        refine z_zret rfl X (Nat.le_of_ble_eq_true rfl) (Nat.le_of_ble_eq_true rfl) ?_ dX1_hasRoomFor_46
        exact ⟨by rw [if_neg (fun h => absurd h.2.2 (Int64.not_le.mpr c37))], rfl, rfl⟩
      · refine z_iconst X (v := nI 1) dX1_hasRoomFor_41 (by decide) ?_
        refine z_goto X (tgt := 46) dX1_hasRoomFor_42 (by decide) ?_
        refine z_zret rfl X (Nat.le_of_ble_eq_true rfl) (Nat.le_of_ble_eq_true rfl) ?_ dX1_hasRoomFor_46
        exact ⟨by rw [if_pos ⟨c6, Int64.not_lt.mp c19, Int64.not_lt.mp c37⟩], rfl, rfl⟩
set_option maxHeartbeats 4000000 in
set_option maxRecDepth 100000 in
theorem y_takeOn (l : Launch) (G : va_G) (cy : Nat → ClassId) (B : Nat) (ad : Nat → Nat) (f : zW) (k0 : Nat) (m1 m2 g1 g2 : Int64) (pt : Nat) (hpt : pt ≤ 8) (hb : f k0 = some (.inr (2, [.long m1, .long m2, .long g1, .long g2, .int (nI pt)]))) (gg : Int64) : Ct l G cy B yX1_takeOn cX1_takeOn 4 (some .int) ({ frames := 1, cells := 0, slots := 0, locals := 22 } : Room) ad f [.ref (ad k0), .long gg] (fun v ad' f' => v = some (.int (nI pt)) ∧ ad = ad' ∧ zup f k0 (.inr (2, [.long m1, .long m2, .long (g1 + gg), .long (g2 + gg * lN (pt + 1)), .int (nI (pt + 1))])) = f') := by
  refine ct_of (by decide +kernel) (Nat.le_of_ble_eq_true rfl) ?_
  intro p e s m args below meth c X hnm
  refine z_lv (lv' := [(0, .ref (ad k0)), (1, .long gg)]) [0, 1] rfl ?_
  refine z_aload_n X 0 dX1_takeOn_0 rfl rfl ?_
  refine z_get X (v := .int (nI pt)) k0 4 wa_X1 rfl rfl hb (by decide) q_340 rfl rfl dX1_takeOn_1 ?_
  refine z_istore_n X (lv' := [(3, .int (nI pt)), (0, .ref (ad k0)), (1, .long gg)]) dX1_takeOn_4 rfl (by decide) rfl ?_
  refine z_aload_n X 1 dX1_takeOn_5 rfl rfl ?_
  refine z_dup X dX1_takeOn_6 rfl ?_
  refine z_get X (v := .long g1) k0 2 wa_X1 rfl rfl hb (by decide) q_338 rfl rfl dX1_takeOn_7 ?_
  refine z_lload_n X 2 dX1_takeOn_10 rfl rfl ?_
  refine z_ladd X dX1_takeOn_11 ?_
  refine z_put X (ty := .long) k0 2 wa_X1 tyX1 tyX1_ok nmX1 rfl rfl hb (by decide) q_338 rfl rfl (by decide +kernel) rfl rfl (Nat.le_of_ble_eq_true rfl) dX1_takeOn_12 ?_
  refine z_aload_n X 1 dX1_takeOn_15 rfl rfl ?_
  refine z_dup X dX1_takeOn_16 rfl ?_
  refine z_get X (v := .long g2) k0 3 wa_X1 rfl rfl zup_same (by decide) q_339 rfl rfl dX1_takeOn_17 ?_
  refine z_aload_n X 1 dX1_takeOn_20 rfl rfl ?_
  refine z_lload_n X 2 dX1_takeOn_21 rfl rfl ?_
  refine z_callV X (n := 1) (As := [.long gg]) (rest := [.long g2, .ref (ad k0)]) k0 rfl zup_same rfl (y_momentOfNext l G cy B ad (zup f k0 (.inr (2, [.long m1, .long m2, .long (g1 + gg), .long g2, .int (nI pt)]))) k0 m1 m2 (g1 + gg) g2 pt (by omega) zup_same gg) q_363 q_364 q_11 q_33 q_365 (by decide +kernel) ⟨Nat.le_of_ble_eq_true rfl, Nat.le_of_ble_eq_true rfl⟩ rfl rfl (Nat.le_of_ble_eq_true rfl) dX1_takeOn_22 ⟨Nat.le_of_ble_eq_true rfl, Nat.le_of_ble_eq_true rfl⟩ (fun v ad' f' hp had => ?_)
  obtain ⟨rfl, rfl, rfl⟩ := hp
  refine z_st (st' := [.long (gg * lN (pt + 1)), .long g2, .ref (ad k0)]) rfl ?_
  refine z_ladd X dX1_takeOn_25 ?_
  refine z_put X (ty := .long) k0 3 wa_X1 tyX1 tyX1_ok nmX1 rfl rfl zup_same (by decide) q_339 rfl rfl (by decide +kernel) rfl rfl (Nat.le_of_ble_eq_true rfl) dX1_takeOn_26 ?_
  refine z_f zup_zup ?_
  refine z_aload_n X 1 dX1_takeOn_29 rfl rfl ?_
  refine z_dup X dX1_takeOn_30 rfl ?_
  refine z_get X (v := .int (nI pt)) k0 4 wa_X1 rfl rfl zup_same (by decide) q_340 rfl rfl dX1_takeOn_31 ?_
  refine z_iconst X (v := nI 1) dX1_takeOn_34 (by decide) ?_
  refine z_iaddN X dX1_takeOn_35 ?_
  refine z_put X (ty := .int) k0 4 wa_X1 tyX1 tyX1_ok nmX1 rfl rfl zup_same (by decide) q_340 rfl rfl (by decide +kernel) rfl rfl (Nat.le_of_ble_eq_true rfl) dX1_takeOn_36 ?_
  refine z_f zup_zup ?_
  refine z_iload_n X 0 dX1_takeOn_39 rfl rfl ?_
  refine z_iret X (Nat.le_of_ble_eq_true rfl) (Nat.le_of_ble_eq_true rfl) ?_ dX1_takeOn_40
  exact ⟨rfl, rfl, rfl⟩
set_option maxHeartbeats 4000000 in
set_option maxRecDepth 100000 in
theorem y_init (l : Launch) (G : va_G) (cy : Nat → ClassId) (B : Nat) (ad : Nat → Nat) (f : zW) (k0 : Nat) (hb : f k0 = some (.inr (2, [.long 0, .long 0, .long 0, .long 0, .int 0]))) (m1 m2 : Int64) : Ct l G cy B yX1_init cX1_init 5 none ({ frames := 1, cells := 0, slots := 0, locals := 12 } : Room) ad f [.ref (ad k0), .long m1, .long m2] (fun v ad' f' => v = none ∧ ad = ad' ∧ zup f k0 (.inr (2, [.long m1, .long m2, .long 0, .long 0, .int 0])) = f') := by
  refine ct_of (by decide +kernel) (Nat.le_of_ble_eq_true rfl) ?_
  intro p e s m args below meth c X hnm
  refine z_lv (lv' := [(0, .ref (ad k0)), (1, .long m1), (3, .long m2)]) [0, 1, 2] rfl ?_
  refine z_aload_n X 0 dX1_init_0 rfl rfl ?_
  refine z_objInit X q_335 q_46 q_47 dX1_init_1 (Nat.le_of_ble_eq_true rfl) (Nat.le_of_ble_eq_true rfl) ?_
  refine z_aload_n X 0 dX1_init_4 rfl rfl ?_
  refine z_lload_n X 1 dX1_init_5 rfl rfl ?_
  refine z_putF X (ty := .long) k0 0 wa_X1 tyX1 tyX1_ok nmX1 rfl rfl hb (by decide) q_336 rfl rfl hnm rfl (by decide +kernel) rfl rfl (Nat.le_of_ble_eq_true rfl) dX1_init_6 ?_
  refine z_aload_n X 0 dX1_init_9 rfl rfl ?_
  refine z_lload_n X 2 dX1_init_10 rfl rfl ?_
  refine z_putF X (ty := .long) k0 1 wa_X1 tyX1 tyX1_ok nmX1 rfl rfl zup_same (by decide) q_337 rfl rfl hnm rfl (by decide +kernel) rfl rfl (Nat.le_of_ble_eq_true rfl) dX1_init_11 ?_
  refine z_f zup_zup ?_
  refine z_vret X (Nat.le_of_ble_eq_true rfl) (Nat.le_of_ble_eq_true rfl) ?_ dX1_init_14
  exact ⟨rfl, rfl, rfl⟩
set_option maxHeartbeats 4000000 in
set_option maxRecDepth 100000 in
theorem s_init (l : Launch) (G : va_G) (cy : Nat → ClassId) (B : Nat) (ad : Nat → Nat) (f : zW) (k0 : Nat) (hb : f k0 = some (.inr (3, [.int 0, .int 0]))) (ga he : Int32) : Ct l G cy B yX2_init cX2_init 3 none ({ frames := 1, cells := 0, slots := 0, locals := 12 } : Room) ad f [.ref (ad k0), .int ga, .int he] (fun v ad' f' => v = none ∧ ad = ad' ∧ zup f k0 (.inr (3, [.int ga, .int he])) = f') := by
  refine ct_of (by decide +kernel) (Nat.le_of_ble_eq_true rfl) ?_
  intro p e s m args below meth c X hnm
  refine z_lv (lv' := [(0, .ref (ad k0)), (1, .int ga), (2, .int he)]) [0, 1, 2] rfl ?_
  refine z_aload_n X 0 dX2_init_0 rfl rfl ?_
  refine z_objInit X q_282 q_46 q_47 dX2_init_1 (Nat.le_of_ble_eq_true rfl) (Nat.le_of_ble_eq_true rfl) ?_
  refine z_aload_n X 0 dX2_init_4 rfl rfl ?_
  refine z_iload_n X 1 dX2_init_5 rfl rfl ?_
  refine z_putF X (ty := .int) k0 0 wa_X2 tyX2 tyX2_ok nmX2 rfl rfl hb (by decide) q_283 rfl rfl hnm rfl (by decide +kernel) rfl rfl (Nat.le_of_ble_eq_true rfl) dX2_init_6 ?_
  refine z_aload_n X 0 dX2_init_9 rfl rfl ?_
  refine z_iload_n X 2 dX2_init_10 rfl rfl ?_
  refine z_putF X (ty := .int) k0 1 wa_X2 tyX2 tyX2_ok nmX2 rfl rfl zup_same (by decide) q_284 rfl rfl hnm rfl (by decide +kernel) rfl rfl (Nat.le_of_ble_eq_true rfl) dX2_init_11 ?_
  refine z_f zup_zup ?_
  refine z_vret X (Nat.le_of_ble_eq_true rfl) (Nat.le_of_ble_eq_true rfl) ?_ dX2_init_14
  exact ⟨rfl, rfl, rfl⟩
end
