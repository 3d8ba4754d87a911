-- ===== PART A: goes FIRST, ahead of the names: the tables' words, and 'selects' of the private methods out of them =====
/-- a private method of a class that the tables say can be made, by its rows of tables_1 -/
def lw_okq (q : MethodName × Nat) : Prop := (q.1.cls ≠ "java/lang/invoke/MethodHandle" ∧ q.1.cls ≠ "java/lang/invoke/VarHandle") ∧ Cond.instantiable q.1.cls q.2 ∈ tables_1 ∧ Cond.privateMethod q.1 ∈ tables_1 ∧ Cond.instanceMethod q.1 ∈ tables_1
theorem lw_p0 : lw_okq (⟨"BalePress", "keepBale", "(LBalePress$Bale;)I"⟩, 16) := ⟨⟨by decide +kernel, by decide +kernel⟩, List.mem_of_getElem? (i := 18) (by decide +kernel), List.mem_of_getElem? (i := 177) (by decide +kernel), List.mem_of_getElem? (i := 178) (by decide +kernel)⟩
theorem lw_p1 : lw_okq (⟨"BalePress", "findBale", "(I)LBalePress$Bale;"⟩, 16) := ⟨⟨by decide +kernel, by decide +kernel⟩, List.mem_of_getElem? (i := 18) (by decide +kernel), List.mem_of_getElem? (i := 185) (by decide +kernel), List.mem_of_getElem? (i := 186) (by decide +kernel)⟩
theorem lw_p2 : lw_okq (⟨"BalePress", "gainAt", "(D)D"⟩, 16) := ⟨⟨by decide +kernel, by decide +kernel⟩, List.mem_of_getElem? (i := 18) (by decide +kernel), List.mem_of_getElem? (i := 237) (by decide +kernel), List.mem_of_getElem? (i := 238) (by decide +kernel)⟩
theorem lw_p3 : lw_okq (⟨"BalePress", "isAlarming", "(I)Z"⟩, 16) := ⟨⟨by decide +kernel, by decide +kernel⟩, List.mem_of_getElem? (i := 18) (by decide +kernel), List.mem_of_getElem? (i := 263) (by decide +kernel), List.mem_of_getElem? (i := 264) (by decide +kernel)⟩
theorem lw_p4 : lw_okq (⟨"BalePress", "findStack", "(I)LBalePress$Stack;"⟩, 16) := ⟨⟨by decide +kernel, by decide +kernel⟩, List.mem_of_getElem? (i := 18) (by decide +kernel), List.mem_of_getElem? (i := 290) (by decide +kernel), List.mem_of_getElem? (i := 291) (by decide +kernel)⟩
theorem lw_p5 : lw_okq (⟨"BalePress", "balesOn", "(I)I"⟩, 16) := ⟨⟨by decide +kernel, by decide +kernel⟩, List.mem_of_getElem? (i := 18) (by decide +kernel), List.mem_of_getElem? (i := 294) (by decide +kernel), List.mem_of_getElem? (i := 295) (by decide +kernel)⟩
theorem lw_p6 : lw_okq (⟨"BalePress", "bearsOtherMainKind", "(II)Z"⟩, 16) := ⟨⟨by decide +kernel, by decide +kernel⟩, List.mem_of_getElem? (i := 18) (by decide +kernel), List.mem_of_getElem? (i := 307) (by decide +kernel), List.mem_of_getElem? (i := 308) (by decide +kernel)⟩
theorem lw_p7 : lw_okq (⟨"BalePress", "gramsCloseTo", "(I)J"⟩, 16) := ⟨⟨by decide +kernel, by decide +kernel⟩, List.mem_of_getElem? (i := 18) (by decide +kernel), List.mem_of_getElem? (i := 311) (by decide +kernel), List.mem_of_getElem? (i := 312) (by decide +kernel)⟩
theorem lw_p8 : lw_okq (⟨"BalePress", "areClose", "(II)Z"⟩, 16) := ⟨⟨by decide +kernel, by decide +kernel⟩, List.mem_of_getElem? (i := 18) (by decide +kernel), List.mem_of_getElem? (i := 315) (by decide +kernel), List.mem_of_getElem? (i := 316) (by decide +kernel)⟩
theorem lw_p9 : lw_okq (⟨"BalePress", "findLorry", "(I)LBalePress$Lorry;"⟩, 16) := ⟨⟨by decide +kernel, by decide +kernel⟩, List.mem_of_getElem? (i := 18) (by decide +kernel), List.mem_of_getElem? (i := 359) (by decide +kernel), List.mem_of_getElem? (i := 360) (by decide +kernel)⟩
theorem lw_p10 : lw_okq (⟨"BalePress$Lorry", "momentOfNext", "(J)J"⟩, 5) := ⟨⟨by decide +kernel, by decide +kernel⟩, List.mem_of_getElem? (i := 331) (by decide +kernel), List.mem_of_getElem? (i := 367) (by decide +kernel), List.mem_of_getElem? (i := 368) (by decide +kernel)⟩
theorem lw_p11 : lw_okq (⟨"BalePress", "writeLabel", "(ILBalePress$Bale;)V"⟩, 16) := ⟨⟨by decide +kernel, by decide +kernel⟩, List.mem_of_getElem? (i := 18) (by decide +kernel), List.mem_of_getElem? (i := 397) (by decide +kernel), List.mem_of_getElem? (i := 398) (by decide +kernel)⟩
theorem lw_p12 : lw_okq (⟨"BalePressModel", "make", "()I"⟩, 28) := ⟨⟨by decide +kernel, by decide +kernel⟩, List.mem_of_getElem? (i := 569) (by decide +kernel), List.mem_of_getElem? (i := 676) (by decide +kernel), List.mem_of_getElem? (i := 677) (by decide +kernel)⟩
theorem lw_p13 : lw_okq (⟨"BalePressModel", "isBale", "(I)Z"⟩, 28) := ⟨⟨by decide +kernel, by decide +kernel⟩, List.mem_of_getElem? (i := 569) (by decide +kernel), List.mem_of_getElem? (i := 685) (by decide +kernel), List.mem_of_getElem? (i := 686) (by decide +kernel)⟩
theorem lw_p14 : lw_okq (⟨"BalePressModel", "gramsOf", "(II)J"⟩, 28) := ⟨⟨by decide +kernel, by decide +kernel⟩, List.mem_of_getElem? (i := 569) (by decide +kernel), List.mem_of_getElem? (i := 689) (by decide +kernel), List.mem_of_getElem? (i := 690) (by decide +kernel)⟩
theorem lw_p15 : lw_okq (⟨"BalePressModel", "has", "(II)Z"⟩, 28) := ⟨⟨by decide +kernel, by decide +kernel⟩, List.mem_of_getElem? (i := 569) (by decide +kernel), List.mem_of_getElem? (i := 693) (by decide +kernel), List.mem_of_getElem? (i := 694) (by decide +kernel)⟩
def lw_privs_1 : List (MethodName × Nat) := [(⟨"BalePress", "keepBale", "(LBalePress$Bale;)I"⟩, 16), (⟨"BalePress", "findBale", "(I)LBalePress$Bale;"⟩, 16), (⟨"BalePress", "gainAt", "(D)D"⟩, 16), (⟨"BalePress", "isAlarming", "(I)Z"⟩, 16), (⟨"BalePress", "findStack", "(I)LBalePress$Stack;"⟩, 16), (⟨"BalePress", "balesOn", "(I)I"⟩, 16), (⟨"BalePress", "bearsOtherMainKind", "(II)Z"⟩, 16), (⟨"BalePress", "gramsCloseTo", "(I)J"⟩, 16), (⟨"BalePress", "areClose", "(II)Z"⟩, 16), (⟨"BalePress", "findLorry", "(I)LBalePress$Lorry;"⟩, 16), (⟨"BalePress$Lorry", "momentOfNext", "(J)J"⟩, 5), (⟨"BalePress", "writeLabel", "(ILBalePress$Bale;)V"⟩, 16), (⟨"BalePressModel", "make", "()I"⟩, 28), (⟨"BalePressModel", "isBale", "(I)Z"⟩, 28), (⟨"BalePressModel", "gramsOf", "(II)J"⟩, 28), (⟨"BalePressModel", "has", "(II)Z"⟩, 28)]
theorem lw_r1 : ∀ q ∈ lw_privs_1, lw_okq q := List.forall_mem_cons.mpr ⟨lw_p0, List.forall_mem_cons.mpr ⟨lw_p1, List.forall_mem_cons.mpr ⟨lw_p2, List.forall_mem_cons.mpr ⟨lw_p3, List.forall_mem_cons.mpr ⟨lw_p4, List.forall_mem_cons.mpr ⟨lw_p5, List.forall_mem_cons.mpr ⟨lw_p6, List.forall_mem_cons.mpr ⟨lw_p7, List.forall_mem_cons.mpr ⟨lw_p8, List.forall_mem_cons.mpr ⟨lw_p9, List.forall_mem_cons.mpr ⟨lw_p10, List.forall_mem_cons.mpr ⟨lw_p11, List.forall_mem_cons.mpr ⟨lw_p12, List.forall_mem_cons.mpr ⟨lw_p13, List.forall_mem_cons.mpr ⟨lw_p14, List.forall_mem_cons.mpr ⟨lw_p15, fun _ h => absurd h List.not_mem_nil⟩⟩⟩⟩⟩⟩⟩⟩⟩⟩⟩⟩⟩⟩⟩⟩
theorem lw_p16 : lw_okq (⟨"BalePressModel", "weight", "(I)J"⟩, 28) := ⟨⟨by decide +kernel, by decide +kernel⟩, List.mem_of_getElem? (i := 569) (by decide +kernel), List.mem_of_getElem? (i := 706) (by decide +kernel), List.mem_of_getElem? (i := 707) (by decide +kernel)⟩
theorem lw_p17 : lw_okq (⟨"BalePressModel", "mainOf", "(I)I"⟩, 28) := ⟨⟨by decide +kernel, by decide +kernel⟩, List.mem_of_getElem? (i := 569) (by decide +kernel), List.mem_of_getElem? (i := 760) (by decide +kernel), List.mem_of_getElem? (i := 761) (by decide +kernel)⟩
theorem lw_p18 : lw_okq (⟨"BalePressModel", "isClose", "(II)Z"⟩, 28) := ⟨⟨by decide +kernel, by decide +kernel⟩, List.mem_of_getElem? (i := 569) (by decide +kernel), List.mem_of_getElem? (i := 764) (by decide +kernel), List.mem_of_getElem? (i := 765) (by decide +kernel)⟩
theorem lw_p19 : lw_okq (⟨"BalePressModel", "loadOf", "(IZ)J"⟩, 28) := ⟨⟨by decide +kernel, by decide +kernel⟩, List.mem_of_getElem? (i := 569) (by decide +kernel), List.mem_of_getElem? (i := 781) (by decide +kernel), List.mem_of_getElem? (i := 782) (by decide +kernel)⟩
theorem lw_p20 : lw_okq (⟨"BalePressModel", "say", "(I)V"⟩, 28) := ⟨⟨by decide +kernel, by decide +kernel⟩, List.mem_of_getElem? (i := 569) (by decide +kernel), List.mem_of_getElem? (i := 801) (by decide +kernel), List.mem_of_getElem? (i := 802) (by decide +kernel)⟩
theorem lw_p21 : lw_okq (⟨"BalePressModel", "sayNumber", "(J)V"⟩, 28) := ⟨⟨by decide +kernel, by decide +kernel⟩, List.mem_of_getElem? (i := 569) (by decide +kernel), List.mem_of_getElem? (i := 805) (by decide +kernel), List.mem_of_getElem? (i := 806) (by decide +kernel)⟩
def lw_privs_2 : List (MethodName × Nat) := [(⟨"BalePressModel", "weight", "(I)J"⟩, 28), (⟨"BalePressModel", "mainOf", "(I)I"⟩, 28), (⟨"BalePressModel", "isClose", "(II)Z"⟩, 28), (⟨"BalePressModel", "loadOf", "(IZ)J"⟩, 28), (⟨"BalePressModel", "say", "(I)V"⟩, 28), (⟨"BalePressModel", "sayNumber", "(J)V"⟩, 28)]
theorem lw_r2 : ∀ q ∈ lw_privs_2, lw_okq q := List.forall_mem_cons.mpr ⟨lw_p16, List.forall_mem_cons.mpr ⟨lw_p17, List.forall_mem_cons.mpr ⟨lw_p18, List.forall_mem_cons.mpr ⟨lw_p19, List.forall_mem_cons.mpr ⟨lw_p20, List.forall_mem_cons.mpr ⟨lw_p21, fun _ h => absurd h List.not_mem_nil⟩⟩⟩⟩⟩⟩
def lw_privs : List (MethodName × Nat) := lw_privs_1 ++ (lw_privs_2)
theorem lw_privs_ok : ∀ q ∈ lw_privs, lw_okq q := by
  show ∀ q ∈ lw_privs_1 ++ (lw_privs_2), lw_okq q
  exact List.forall_mem_append.mpr ⟨lw_r1, lw_r2⟩
def lw_tbl : List Cond := k2_sels lw_privs ++ tables_1
theorem lw_privs_ok2 : ∀ q ∈ lw_privs, lw_okq q := lw_privs_ok
/-- the streams that the claim lets the run draw from -/
abbrev lw_cs : List Choice := [Jvm.Choice.named "NaN.bits"]
theorem lw_bits : nanBits ∈ lw_cs := by first | decide | exact List.mem_cons_self | simp [lw_cs, nanBits]
def RX0 : String := "BalePress$Bale"
def TX0 : u_T := fun k => match k with
  | 0 => ("BalePress$Bale", "grams", "[J", true)
  | 1 => ("BalePress$Bale", "warmth", "D", false)
  | 2 => ("BalePress$Bale", "hotHoursOfLate", "I", false)
  | 3 => ("BalePress$Bale", "spell", "I", false)
  | 4 => ("BalePress$Bale", "condition", "I", false)
  | 5 => ("BalePress$Bale", "stackNumber", "I", false)
  | 6 => ("BalePress$Bale", "isLoaded", "Z", false)
  | 7 => ("BalePress$Bale", "firstPart", "LBalePress$Bale;", false)
  | _ => ("BalePress$Bale", "secondPart", "LBalePress$Bale;", false)
def tyX0 : Nat → FieldType := fun k => match k with
  | 0 => .array .long
  | 1 => .double
  | 2 => .int
  | 3 => .int
  | 4 => .int
  | 5 => .int
  | 6 => .boolean
  | 7 => .object "BalePress$Bale"
  | _ => .object "BalePress$Bale"
abbrev wsX00 : List Cond := u_ws RX0 TX0 9
theorem nmX0 : ∀ a, a < 9 → ∀ b, b < 9 → a ≠ b → (TX0 a).2.1 ≠ (TX0 b).2.1 := by decide +kernel
theorem tyX0_ok : ∀ k, k < 9 → parseFieldDescriptor (TX0 k).2.2.1 = some (tyX0 k) := by decide +kernel
abbrev cX0_init : ByteArray := prog_2_method_1_code
def yX0_init : MethodName := ⟨RX0, "<init>", "()V"⟩
abbrev cX0_addGrams : ByteArray := prog_2_method_2_code
def yX0_addGrams : MethodName := ⟨RX0, "addGrams", "(IJ)V"⟩
abbrev cX0_makeOf : ByteArray := prog_2_method_3_code
def yX0_makeOf : MethodName := ⟨RX0, "makeOf", "(LBalePress$Bale;LBalePress$Bale;)V"⟩
abbrev cX0_gramsOf : ByteArray := prog_2_method_4_code
def yX0_gramsOf : MethodName := ⟨RX0, "gramsOf", "(I)J"⟩
abbrev cX0_totalGrams : ByteArray := prog_2_method_5_code
def yX0_totalGrams : MethodName := ⟨RX0, "totalGrams", "()J"⟩
abbrev cX0_mainKind : ByteArray := prog_2_method_6_code
def yX0_mainKind : MethodName := ⟨RX0, "mainKind", "()I"⟩
abbrev cX0_isHot : ByteArray := prog_2_method_7_code
def yX0_isHot : MethodName := ⟨RX0, "isHot", "()Z"⟩
abbrev cX0_isGoneOrSold : ByteArray := prog_2_method_8_code
def yX0_isGoneOrSold : MethodName := ⟨RX0, "isGoneOrSold", "()Z"⟩
abbrev cX0_standsOn : ByteArray := prog_2_method_9_code
def yX0_standsOn : MethodName := ⟨RX0, "standsOn", "(I)Z"⟩
abbrev cX0_passHour : ByteArray := prog_2_method_10_code
def yX0_passHour : MethodName := ⟨RX0, "passHour", "(DD)V"⟩
def RX1 : String := "BalePress$Lorry"
def TX1 : u_T := fun k => match k with
  | 0 => ("BalePress$Lorry", "mostGrams", "J", true)
  | 1 => ("BalePress$Lorry", "mostMoment", "J", true)
  | 2 => ("BalePress$Lorry", "gramsOn", "J", false)
  | 3 => ("BalePress$Lorry", "momentOn", "J", false)
  | _ => ("BalePress$Lorry", "placesTaken", "I", false)
def tyX1 : Nat → FieldType := fun k => match k with
  | 0 => .long
  | 1 => .long
  | 2 => .long
  | 3 => .long
  | _ => .int
abbrev wsX10 : List Cond := u_ws RX1 TX1 5
theorem nmX1 : ∀ a, a < 5 → ∀ b, b < 5 → a ≠ b → (TX1 a).2.1 ≠ (TX1 b).2.1 := by decide +kernel
theorem tyX1_ok : ∀ k, k < 5 → parseFieldDescriptor (TX1 k).2.2.1 = some (tyX1 k) := by decide +kernel
abbrev cX1_init : ByteArray := prog_3_method_1_code
def yX1_init : MethodName := ⟨RX1, "<init>", "(JJ)V"⟩
abbrev cX1_hasRoomFor : ByteArray := prog_3_method_2_code
def yX1_hasRoomFor : MethodName := ⟨RX1, "hasRoomFor", "(J)Z"⟩
abbrev cX1_takeOn : ByteArray := prog_3_method_3_code
def yX1_takeOn : MethodName := ⟨RX1, "takeOn", "(J)I"⟩
abbrev cX1_momentOfNext : ByteArray := prog_3_method_4_code
def yX1_momentOfNext : MethodName := ⟨RX1, "momentOfNext", "(J)J"⟩
def RX2 : String := "BalePress$Stack"
def TX2 : u_T := fun k => match k with
  | 0 => ("BalePress$Stack", "gap", "I", true)
  | _ => ("BalePress$Stack", "height", "I", true)
def tyX2 : Nat → FieldType := fun k => match k with
  | 0 => .int
  | _ => .int
abbrev wsX20 : List Cond := u_ws RX2 TX2 2
theorem nmX2 : ∀ a, a < 2 → ∀ b, b < 2 → a ≠ b → (TX2 a).2.1 ≠ (TX2 b).2.1 := by decide +kernel
theorem tyX2_ok : ∀ k, k < 2 → parseFieldDescriptor (TX2 k).2.2.1 = some (tyX2 k) := by decide +kernel
abbrev cX2_init : ByteArray := prog_4_method_1_code
def yX2_init : MethodName := ⟨RX2, "<init>", "(II)V"⟩
def RX3 : String := "BalePress"
def TX3 : u_T := fun k => match k with
  | 0 => ("BalePress", "feedSeconds", "[J", true)
  | 1 => ("BalePress", "feedKinds", "[I", true)
  | 2 => ("BalePress", "feedGrams", "[J", true)
  | 3 => ("BalePress", "feedCount", "I", false)
  | 4 => ("BalePress", "feedsBaled", "I", false)
  | 5 => ("BalePress", "bales", "[LBalePress$Bale;", true)
  | 6 => ("BalePress", "baleCount", "I", false)
  | 7 => ("BalePress", "rowDegrees", "[D", true)
  | 8 => ("BalePress", "rowHeats", "[D", true)
  | 9 => ("BalePress", "rowCount", "I", false)
  | 10 => ("BalePress", "holdHours", "I", false)
  | 11 => ("BalePress", "stacks", "[LBalePress$Stack;", true)
  | 12 => ("BalePress", "stackCount", "I", false)
  | 13 => ("BalePress", "lorries", "[LBalePress$Lorry;", true)
  | 14 => ("BalePress", "lorryCount", "I", false)
  | _ => ("BalePress", "labelText", "Ljava/lang/StringBuilder;", true)
def tyX3 : Nat → FieldType := fun k => match k with
  | 0 => .array .long
  | 1 => .array .int
  | 2 => .array .long
  | 3 => .int
  | 4 => .int
  | 5 => .array (.object "BalePress$Bale")
  | 6 => .int
  | 7 => .array .double
  | 8 => .array .double
  | 9 => .int
  | 10 => .int
  | 11 => .array (.object "BalePress$Stack")
  | 12 => .int
  | 13 => .array (.object "BalePress$Lorry")
  | 14 => .int
  | _ => .object "java/lang/StringBuilder"
abbrev wsX30 : List Cond := u_ws RX3 TX3 16
theorem nmX3 : ∀ a, a < 16 → ∀ b, b < 16 → a ≠ b → (TX3 a).2.1 ≠ (TX3 b).2.1 := by decide +kernel
theorem tyX3_ok : ∀ k, k < 16 → parseFieldDescriptor (TX3 k).2.2.1 = some (tyX3 k) := by decide +kernel
abbrev cX3_init : ByteArray := prog_1_method_1_code
def yX3_init : MethodName := ⟨RX3, "<init>", "()V"⟩
abbrev cX3_feed : ByteArray := prog_1_method_2_code
def yX3_feed : MethodName := ⟨RX3, "feed", "(JIJ)Z"⟩
abbrev cX3_bale : ByteArray := prog_1_method_3_code
def yX3_bale : MethodName := ⟨RX3, "bale", "(J)I"⟩
abbrev cX3_in : ByteArray := prog_1_method_4_code
def yX3_in : MethodName := ⟨RX3, "in", "(II)J"⟩
abbrev cX3_count : ByteArray := prog_1_method_5_code
def yX3_count : MethodName := ⟨RX3, "count", "(I)J"⟩
abbrev cX3_wires : ByteArray := prog_1_method_6_code
def yX3_wires : MethodName := ⟨RX3, "wires", "(I)I"⟩
abbrev cX3_size : ByteArray := prog_1_method_7_code
def yX3_size : MethodName := ⟨RX3, "size", "(ID)D"⟩
abbrev cX3_row : ByteArray := prog_1_method_8_code
def yX3_row : MethodName := ⟨RX3, "row", "(DD)Z"⟩
abbrev cX3_warm : ByteArray := prog_1_method_9_code
def yX3_warm : MethodName := ⟨RX3, "warm", "(IID)D"⟩
abbrev cX3_hold : ByteArray := prog_1_method_10_code
def yX3_hold : MethodName := ⟨RX3, "hold", "(I)Z"⟩
abbrev cX3_alarm : ByteArray := prog_1_method_11_code
def yX3_alarm : MethodName := ⟨RX3, "alarm", "(I)I"⟩
abbrev cX3_stack : ByteArray := prog_1_method_12_code
def yX3_stack : MethodName := ⟨RX3, "stack", "(II)I"⟩
abbrev cX3_put : ByteArray := prog_1_method_13_code
def yX3_put : MethodName := ⟨RX3, "put", "(II)I"⟩
abbrev cX3_first : ByteArray := prog_1_method_14_code
def yX3_first : MethodName := ⟨RX3, "first", "(I)I"⟩
abbrev cX3_lorry : ByteArray := prog_1_method_15_code
def yX3_lorry : MethodName := ⟨RX3, "lorry", "(JJ)I"⟩
abbrev cX3_load : ByteArray := prog_1_method_16_code
def yX3_load : MethodName := ⟨RX3, "load", "(II)I"⟩
abbrev cX3_moment : ByteArray := prog_1_method_17_code
def yX3_moment : MethodName := ⟨RX3, "moment", "(II)J"⟩
abbrev cX3_rebale : ByteArray := prog_1_method_18_code
def yX3_rebale : MethodName := ⟨RX3, "rebale", "(II)I"⟩
abbrev cX3_brought : ByteArray := prog_1_method_19_code
def yX3_brought : MethodName := ⟨RX3, "brought", "(III)J"⟩
abbrev cX3_label : ByteArray := prog_1_method_20_code
def yX3_label : MethodName := ⟨RX3, "label", "(II)I"⟩
abbrev cX3_state : ByteArray := prog_1_method_21_code
def yX3_state : MethodName := ⟨RX3, "state", "(I)I"⟩
abbrev cX3_isKind : ByteArray := prog_1_method_22_code
def yX3_isKind : MethodName := ⟨RX3, "isKind", "(I)Z"⟩
abbrev cX3_isWithin : ByteArray := prog_1_method_23_code
def yX3_isWithin : MethodName := ⟨RX3, "isWithin", "(JJJ)Z"⟩
abbrev cX3_isBetween : ByteArray := prog_1_method_24_code
def yX3_isBetween : MethodName := ⟨RX3, "isBetween", "(DDD)Z"⟩
abbrev cX3_keepBale : ByteArray := prog_1_method_25_code
def yX3_keepBale : MethodName := ⟨RX3, "keepBale", "(LBalePress$Bale;)I"⟩
abbrev cX3_findBale : ByteArray := prog_1_method_26_code
def yX3_findBale : MethodName := ⟨RX3, "findBale", "(I)LBalePress$Bale;"⟩
abbrev cX3_findStack : ByteArray := prog_1_method_27_code
def yX3_findStack : MethodName := ⟨RX3, "findStack", "(I)LBalePress$Stack;"⟩
abbrev cX3_findLorry : ByteArray := prog_1_method_28_code
def yX3_findLorry : MethodName := ⟨RX3, "findLorry", "(I)LBalePress$Lorry;"⟩
abbrev cX3_gainAt : ByteArray := prog_1_method_29_code
def yX3_gainAt : MethodName := ⟨RX3, "gainAt", "(D)D"⟩
abbrev cX3_isAlarming : ByteArray := prog_1_method_30_code
def yX3_isAlarming : MethodName := ⟨RX3, "isAlarming", "(I)Z"⟩
abbrev cX3_balesOn : ByteArray := prog_1_method_31_code
def yX3_balesOn : MethodName := ⟨RX3, "balesOn", "(I)I"⟩
abbrev cX3_bearsOtherMainKind : ByteArray := prog_1_method_32_code
def yX3_bearsOtherMainKind : MethodName := ⟨RX3, "bearsOtherMainKind", "(II)Z"⟩
abbrev cX3_gramsCloseTo : ByteArray := prog_1_method_33_code
def yX3_gramsCloseTo : MethodName := ⟨RX3, "gramsCloseTo", "(I)J"⟩
abbrev cX3_areClose : ByteArray := prog_1_method_34_code
def yX3_areClose : MethodName := ⟨RX3, "areClose", "(II)Z"⟩
abbrev cX3_writeLabel : ByteArray := prog_1_method_35_code
def yX3_writeLabel : MethodName := ⟨RX3, "writeLabel", "(ILBalePress$Bale;)V"⟩
def RX4 : String := "BalePressModel"
def TX4 : u_T := fun k => match k with
  | 0 => ("BalePressModel", "feeds", "I", false)
  | 1 => ("BalePressModel", "seconds", "[J", true)
  | 2 => ("BalePressModel", "kinds", "[I", true)
  | 3 => ("BalePressModel", "grams", "[J", true)
  | 4 => ("BalePressModel", "into", "[I", true)
  | 5 => ("BalePressModel", "bales", "I", false)
  | 6 => ("BalePressModel", "states", "[I", true)
  | 7 => ("BalePressModel", "warmths", "[D", true)
  | 8 => ("BalePressModel", "spells", "[I", true)
  | 9 => ("BalePressModel", "streaks", "[I", true)
  | 10 => ("BalePressModel", "stackOf", "[I", true)
  | 11 => ("BalePressModel", "lorryOf", "[I", true)
  | 12 => ("BalePressModel", "firstOf", "[I", true)
  | 13 => ("BalePressModel", "secondOf", "[I", true)
  | 14 => ("BalePressModel", "rows", "I", false)
  | 15 => ("BalePressModel", "degrees", "[D", true)
  | 16 => ("BalePressModel", "heats", "[D", true)
  | 17 => ("BalePressModel", "hold", "I", false)
  | 18 => ("BalePressModel", "stacks", "I", false)
  | 19 => ("BalePressModel", "gaps", "[I", true)
  | 20 => ("BalePressModel", "heights", "[I", true)
  | 21 => ("BalePressModel", "lorries", "I", false)
  | 22 => ("BalePressModel", "mosts", "[J", true)
  | 23 => ("BalePressModel", "moments", "[J", true)
  | 24 => ("BalePressModel", "loads", "[I", true)
  | 25 => ("BalePressModel", "loadCounts", "[I", true)
  | 26 => ("BalePressModel", "left", "I", false)
  | _ => ("BalePressModel", "looked", "I", false)
def tyX4 : Nat → FieldType := fun k => match k with
  | 0 => .int
  | 1 => .array .long
  | 2 => .array .int
  | 3 => .array .long
  | 4 => .array .int
  | 5 => .int
  | 6 => .array .int
  | 7 => .array .double
  | 8 => .array .int
  | 9 => .array .int
  | 10 => .array .int
  | 11 => .array .int
  | 12 => .array .int
  | 13 => .array .int
  | 14 => .int
  | 15 => .array .double
  | 16 => .array .double
  | 17 => .int
  | 18 => .int
  | 19 => .array .int
  | 20 => .array .int
  | 21 => .int
  | 22 => .array .long
  | 23 => .array .long
  | 24 => .array .int
  | 25 => .array .int
  | 26 => .int
  | _ => .int
abbrev wsX40 : List Cond := u_ws RX4 TX4 28
theorem nmX4 : ∀ a, a < 28 → ∀ b, b < 28 → a ≠ b → (TX4 a).2.1 ≠ (TX4 b).2.1 := by decide +kernel
theorem tyX4_ok : ∀ k, k < 28 → parseFieldDescriptor (TX4 k).2.2.1 = some (tyX4 k) := by decide +kernel
abbrev cX4_init : ByteArray := prog_6_method_1_code
def yX4_init : MethodName := ⟨RX4, "<init>", "()V"⟩
abbrev cX4_isIn : ByteArray := prog_6_method_3_code
def yX4_isIn : MethodName := ⟨RX4, "isIn", "(JJJ)Z"⟩
abbrev cX4_isWithin : ByteArray := prog_6_method_4_code
def yX4_isWithin : MethodName := ⟨RX4, "isWithin", "(DDD)Z"⟩
abbrev cX4_isBale : ByteArray := prog_6_method_5_code
def yX4_isBale : MethodName := ⟨RX4, "isBale", "(I)Z"⟩
abbrev cX4_isKind : ByteArray := prog_6_method_6_code
def yX4_isKind : MethodName := ⟨RX4, "isKind", "(I)Z"⟩
abbrev cX4_feed : ByteArray := prog_6_method_7_code
def yX4_feed : MethodName := ⟨RX4, "feed", "(JIJ)Z"⟩
abbrev cX4_make : ByteArray := prog_6_method_8_code
def yX4_make : MethodName := ⟨RX4, "make", "()I"⟩
abbrev cX4_bale : ByteArray := prog_6_method_9_code
def yX4_bale : MethodName := ⟨RX4, "bale", "(J)I"⟩
abbrev cX4_has : ByteArray := prog_6_method_10_code
def yX4_has : MethodName := ⟨RX4, "has", "(II)Z"⟩
abbrev cX4_gramsOf : ByteArray := prog_6_method_11_code
def yX4_gramsOf : MethodName := ⟨RX4, "gramsOf", "(II)J"⟩
abbrev cX4_weight : ByteArray := prog_6_method_12_code
def yX4_weight : MethodName := ⟨RX4, "weight", "(I)J"⟩
abbrev cX4_mainOf : ByteArray := prog_6_method_13_code
def yX4_mainOf : MethodName := ⟨RX4, "mainOf", "(I)I"⟩
abbrev cX4_in : ByteArray := prog_6_method_14_code
def yX4_in : MethodName := ⟨RX4, "in", "(II)J"⟩
abbrev cX4_count : ByteArray := prog_6_method_15_code
def yX4_count : MethodName := ⟨RX4, "count", "(I)J"⟩
abbrev cX4_wires : ByteArray := prog_6_method_16_code
def yX4_wires : MethodName := ⟨RX4, "wires", "(I)I"⟩
abbrev cX4_size : ByteArray := prog_6_method_17_code
def yX4_size : MethodName := ⟨RX4, "size", "(ID)D"⟩
abbrev cX4_state : ByteArray := prog_6_method_18_code
def yX4_state : MethodName := ⟨RX4, "state", "(I)I"⟩
abbrev cX4_row : ByteArray := prog_6_method_19_code
def yX4_row : MethodName := ⟨RX4, "row", "(DD)Z"⟩
abbrev cX4_warm : ByteArray := prog_6_method_20_code
def yX4_warm : MethodName := ⟨RX4, "warm", "(IID)D"⟩
abbrev cX4_hold : ByteArray := prog_6_method_21_code
def yX4_hold : MethodName := ⟨RX4, "hold", "(I)Z"⟩
abbrev cX4_alarm : ByteArray := prog_6_method_22_code
def yX4_alarm : MethodName := ⟨RX4, "alarm", "(I)I"⟩
abbrev cX4_stack : ByteArray := prog_6_method_23_code
def yX4_stack : MethodName := ⟨RX4, "stack", "(II)I"⟩
abbrev cX4_isClose : ByteArray := prog_6_method_24_code
def yX4_isClose : MethodName := ⟨RX4, "isClose", "(II)Z"⟩
abbrev cX4_put : ByteArray := prog_6_method_25_code
def yX4_put : MethodName := ⟨RX4, "put", "(II)I"⟩
abbrev cX4_first : ByteArray := prog_6_method_26_code
def yX4_first : MethodName := ⟨RX4, "first", "(I)I"⟩
abbrev cX4_lorry : ByteArray := prog_6_method_27_code
def yX4_lorry : MethodName := ⟨RX4, "lorry", "(JJ)I"⟩
abbrev cX4_loadOf : ByteArray := prog_6_method_28_code
def yX4_loadOf : MethodName := ⟨RX4, "loadOf", "(IZ)J"⟩
abbrev cX4_load : ByteArray := prog_6_method_29_code
def yX4_load : MethodName := ⟨RX4, "load", "(II)I"⟩
abbrev cX4_moment : ByteArray := prog_6_method_30_code
def yX4_moment : MethodName := ⟨RX4, "moment", "(II)J"⟩
abbrev cX4_rebale : ByteArray := prog_6_method_31_code
def yX4_rebale : MethodName := ⟨RX4, "rebale", "(II)I"⟩
abbrev cX4_brought : ByteArray := prog_6_method_32_code
def yX4_brought : MethodName := ⟨RX4, "brought", "(III)J"⟩
abbrev cX4_say : ByteArray := prog_6_method_33_code
def yX4_say : MethodName := ⟨RX4, "say", "(I)V"⟩
abbrev cX4_sayNumber : ByteArray := prog_6_method_34_code
def yX4_sayNumber : MethodName := ⟨RX4, "sayNumber", "(J)V"⟩
abbrev cX4_label : ByteArray := prog_6_method_35_code
def yX4_label : MethodName := ⟨RX4, "label", "(II)I"⟩
def RJ5 : String := "java/lang/AbstractStringBuilder"
abbrev cJ5_init_d00df : ByteArray := prog_7_method_2_code
def yJ5_init_d00df : MethodName := ⟨RJ5, "<init>", "(I)V"⟩
abbrev cJ5_length_8abf5 : ByteArray := prog_7_method_6_code
def yJ5_length_8abf5 : MethodName := ⟨RJ5, "length", "()I"⟩
abbrev cJ5_ensureCapacityInternal_d00df : ByteArray := prog_7_method_9_code
def yJ5_ensureCapacityInternal_d00df : MethodName := ⟨RJ5, "ensureCapacityInternal", "(I)V"⟩
abbrev cJ5_newCapacity_0f7a4 : ByteArray := prog_7_method_10_code
def yJ5_newCapacity_0f7a4 : MethodName := ⟨RJ5, "newCapacity", "(I)I"⟩
abbrev cJ5_inflate_da8c8 : ByteArray := prog_7_method_11_code
def yJ5_inflate_da8c8 : MethodName := ⟨RJ5, "inflate", "()V"⟩
abbrev cJ5_setLength_d00df : ByteArray := prog_7_method_13_code
def yJ5_setLength_d00df : MethodName := ⟨RJ5, "setLength", "(I)V"⟩
abbrev cJ5_charAt_5068e : ByteArray := prog_7_method_14_code
def yJ5_charAt_5068e : MethodName := ⟨RJ5, "charAt", "(I)C"⟩
abbrev cJ5_append_3fe6f : ByteArray := prog_7_method_31_code
def yJ5_append_3fe6f : MethodName := ⟨RJ5, "append", "(C)Ljava/lang/AbstractStringBuilder;"⟩
abbrev cJ5_append_c97b9 : ByteArray := prog_7_method_32_code
def yJ5_append_c97b9 : MethodName := ⟨RJ5, "append", "(I)Ljava/lang/AbstractStringBuilder;"⟩
abbrev cJ5_isLatin1_aae02 : ByteArray := prog_7_method_68_code
def yJ5_isLatin1_aae02 : MethodName := ⟨RJ5, "isLatin1", "()Z"⟩
def RJx8e188 : String := "java/lang/Cloneable"
def RJ6 : String := "java/lang/Integer"
abbrev cJ6_getChars_ba4f3 : ByteArray := prog_9_method_12_code
def yJ6_getChars_ba4f3 : MethodName := ⟨RJ6, "getChars", "(II[B)I"⟩
abbrev cJ6_stringSize_0f7a4 : ByteArray := prog_9_method_13_code
def yJ6_stringSize_0f7a4 : MethodName := ⟨RJ6, "stringSize", "(I)I"⟩
def RJ9 : String := "java/lang/Math"
abbrev cJ9_max_7cf53 : ByteArray := prog_10_method_65_code
def yJ9_max_7cf53 : MethodName := ⟨RJ9, "max", "(II)I"⟩
abbrev cJ9_min_7cf53 : ByteArray := prog_10_method_69_code
def yJ9_min_7cf53 : MethodName := ⟨RJ9, "min", "(II)I"⟩
def RJ0 : String := "java/lang/String"
abbrev cJ0_checkIndex_df160 : ByteArray := prog_11_method_155_code
def yJ0_checkIndex_df160 : MethodName := ⟨RJ0, "checkIndex", "(II)V"⟩
abbrev cJ0_checkBoundsOffCount_cabcc : ByteArray := prog_11_method_157_code
def yJ0_checkBoundsOffCount_cabcc : MethodName := ⟨RJ0, "checkBoundsOffCount", "(III)I"⟩
abbrev cJ0_checkBoundsBeginEnd_23922 : ByteArray := prog_11_method_158_code
def yJ0_checkBoundsBeginEnd_23922 : MethodName := ⟨RJ0, "checkBoundsBeginEnd", "(III)V"⟩
def RJ4 : String := "java/lang/StringBuilder"
def TJ4 : u_T := fun k => match k with
  | 0 => ("java/lang/AbstractStringBuilder", "value", "[B", false)
  | 1 => ("java/lang/AbstractStringBuilder", "coder", "B", false)
  | 2 => ("java/lang/AbstractStringBuilder", "maybeLatin1", "Z", false)
  | _ => ("java/lang/AbstractStringBuilder", "count", "I", false)
def tyJ4 : Nat → FieldType := fun k => match k with
  | 0 => .array .byte
  | 1 => .byte
  | 2 => .boolean
  | _ => .int
abbrev wsJ40 : List Cond := u_ws RJ4 TJ4 4
theorem nmJ4 : ∀ a, a < 4 → ∀ b, b < 4 → a ≠ b → (TJ4 a).2.1 ≠ (TJ4 b).2.1 := by decide +kernel
theorem tyJ4_ok : ∀ k, k < 4 → parseFieldDescriptor (TJ4 k).2.2.1 = some (tyJ4 k) := by decide +kernel
abbrev cJ4_init_da8c8 : ByteArray := prog_12_method_1_code
def yJ4_init_da8c8 : MethodName := ⟨RJ4, "<init>", "()V"⟩
abbrev cJ4_append_cf468 : ByteArray := prog_12_method_14_code
def yJ4_append_cf468 : MethodName := ⟨RJ4, "append", "(C)Ljava/lang/StringBuilder;"⟩
abbrev cJ4_append_bf812 : ByteArray := prog_12_method_15_code
def yJ4_append_bf812 : MethodName := ⟨RJ4, "append", "(I)Ljava/lang/StringBuilder;"⟩
abbrev cJ4_charAt_5068e : ByteArray := prog_12_method_88_code
def yJ4_charAt_5068e : MethodName := ⟨RJ4, "charAt", "(I)C"⟩
abbrev cJ4_setLength_d00df : ByteArray := prog_12_method_89_code
def yJ4_setLength_d00df : MethodName := ⟨RJ4, "setLength", "(I)V"⟩
abbrev cJ4_length_8abf5 : ByteArray := prog_12_method_93_code
def yJ4_length_8abf5 : MethodName := ⟨RJ4, "length", "()I"⟩
def RJ1 : String := "java/lang/StringLatin1"
abbrev cJ1_canEncode_fc78d : ByteArray := prog_13_method_3_code
def yJ1_canEncode_fc78d : MethodName := ⟨RJ1, "canEncode", "(C)Z"⟩
abbrev cJ1_fillNull_b72d1 : ByteArray := prog_13_method_48_code
def yJ1_fillNull_b72d1 : MethodName := ⟨RJ1, "fillNull", "([BII)V"⟩
abbrev cJ1_inflate_0e8fd : ByteArray := prog_13_method_50_code
def yJ1_inflate_0e8fd : MethodName := ⟨RJ1, "inflate", "([BI[BII)V"⟩
def RJ2 : String := "java/lang/StringUTF16"
abbrev cJ2_newBytesFor_77867 : ByteArray := prog_14_method_2_code
def yJ2_newBytesFor_77867 : MethodName := ⟨RJ2, "newBytesFor", "(I)[B"⟩
abbrev cJ2_newBytesLength_0f7a4 : ByteArray := prog_14_method_3_code
def yJ2_newBytesLength_0f7a4 : MethodName := ⟨RJ2, "newBytesLength", "(I)I"⟩
abbrev cJ2_putChar_b72d1 : ByteArray := prog_14_method_4_code
def yJ2_putChar_b72d1 : MethodName := ⟨RJ2, "putChar", "([BII)V"⟩
abbrev cJ2_getChar_3b067 : ByteArray := prog_14_method_5_code
def yJ2_getChar_3b067 : MethodName := ⟨RJ2, "getChar", "([BI)C"⟩
abbrev cJ2_length_9d52b : ByteArray := prog_14_method_6_code
def yJ2_length_9d52b : MethodName := ⟨RJ2, "length", "([B)I"⟩
abbrev cJ2_fillNull_b72d1 : ByteArray := prog_14_method_70_code
def yJ2_fillNull_b72d1 : MethodName := ⟨RJ2, "fillNull", "([BII)V"⟩
abbrev cJ2_putCharSB_b72d1 : ByteArray := prog_14_method_71_code
def yJ2_putCharSB_b72d1 : MethodName := ⟨RJ2, "putCharSB", "([BII)V"⟩
abbrev cJ2_getChars_46870 : ByteArray := prog_14_method_77_code
def yJ2_getChars_46870 : MethodName := ⟨RJ2, "getChars", "(III[B)I"⟩
abbrev cJ2_inflate_0e8fd : ByteArray := prog_14_method_86_code
def yJ2_inflate_0e8fd : MethodName := ⟨RJ2, "inflate", "([BI[BII)V"⟩
abbrev cJ2_getChars_ba4f3 : ByteArray := prog_14_method_89_code
def yJ2_getChars_ba4f3 : MethodName := ⟨RJ2, "getChars", "(II[B)I"⟩
abbrev cJ2_checkIndex_2214a : ByteArray := prog_14_method_91_code
def yJ2_checkIndex_2214a : MethodName := ⟨RJ2, "checkIndex", "(I[B)V"⟩
abbrev cJ2_checkBoundsBeginEnd_d044e : ByteArray := prog_14_method_93_code
def yJ2_checkBoundsBeginEnd_d044e : MethodName := ⟨RJ2, "checkBoundsBeginEnd", "(II[B)V"⟩
abbrev cJ2_checkBoundsOffCount_d044e : ByteArray := prog_14_method_94_code
def yJ2_checkBoundsOffCount_d044e : MethodName := ⟨RJ2, "checkBoundsOffCount", "(II[B)V"⟩
def RJ10 : String := "java/lang/System"
def RJ7 : String := "java/util/Arrays"
abbrev cJ7_rangeCheck_23922 : ByteArray := prog_16_method_30_code
def yJ7_rangeCheck_23922 : MethodName := ⟨RJ7, "rangeCheck", "(III)V"⟩
abbrev cJ7_fill_eb02e : ByteArray := prog_16_method_110_code
def yJ7_fill_eb02e : MethodName := ⟨RJ7, "fill", "([BIIB)V"⟩
abbrev cJ7_copyOf_9075b : ByteArray := prog_16_method_121_code
def yJ7_copyOf_9075b : MethodName := ⟨RJ7, "copyOf", "([BI)[B"⟩
def RJ8 : String := "jdk/internal/util/ArraysSupport"
abbrev cJ8_newLength_cabcc : ByteArray := prog_17_method_27_code
def yJ8_newLength_cabcc : MethodName := ⟨RJ8, "newLength", "(III)I"⟩
abbrev cJ8_hugeLength_7cf53 : ByteArray := prog_17_method_28_code
def yJ8_hugeLength_7cf53 : MethodName := ⟨RJ8, "hugeLength", "(II)I"⟩
def RJ3 : String := "jdk/internal/util/Preconditions"
abbrev cJ3_checkIndex_8e157 : ByteArray := prog_18_method_11_code
def yJ3_checkIndex_8e157 : MethodName := ⟨RJ3, "checkIndex", "(IILjava/util/function/BiFunction;)I"⟩
abbrev cJ3_checkFromToIndex_8c36e : ByteArray := prog_18_method_12_code
def yJ3_checkFromToIndex_8c36e : MethodName := ⟨RJ3, "checkFromToIndex", "(IIILjava/util/function/BiFunction;)I"⟩
abbrev cJ3_checkFromIndexSize_8c36e : ByteArray := prog_18_method_13_code
def yJ3_checkFromIndexSize_8c36e : MethodName := ⟨RJ3, "checkFromIndexSize", "(IIILjava/util/function/BiFunction;)I"⟩
def RL : String := "BalePressLaw"
abbrev cL_law : ByteArray := code
def yL_law : MethodName := ⟨RL, "law", "([I)Z"⟩
abbrev vwCl : List vw_C := [(RJ4, TJ4, 4), (RX0, TX0, 9), (RX1, TX1, 5), (RX2, TX2, 2), (RX3, TX3, 16), (RX4, TX4, 28)]
/-- the words that every contract asks: all of the tables that keep -/
def lw_all : List Cond := (Cond.selects "java/lang/StringBuilder" ⟨"java/lang/AbstractStringBuilder", "ensureCapacityInternal", "(I)V"⟩ ⟨"java/lang/AbstractStringBuilder", "ensureCapacityInternal", "(I)V"⟩ :: lw_tbl).filter goodWord
