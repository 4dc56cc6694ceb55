-- ===== PART A: goes FIRST, ahead of the names: the tables' words, and 'selects' of the private methods out of them =====
/-- a private method of a class that the tables say can be made, by its rows of tables_1 -/
def lw_okq (q : MethodName × Nat) : Prop := (q.1.cls ≠ "java/lang/invoke/MethodHandle" ∧ q.1.cls ≠ "java/lang/invoke/VarHandle") ∧ Cond.instantiable q.1.cls q.2 ∈ tables_1 ∧ Cond.privateMethod q.1 ∈ tables_1 ∧ Cond.instanceMethod q.1 ∈ tables_1
theorem lw_p0 : lw_okq (⟨"HousesThatChange", "midnight", "(I)Z"⟩, 11) := ⟨⟨by decide +kernel, by decide +kernel⟩, List.mem_of_getElem? (i := 14) (by decide +kernel), List.mem_of_getElem? (i := 351) (by decide +kernel), List.mem_of_getElem? (i := 352) (by decide +kernel)⟩
theorem lw_p1 : lw_okq (⟨"HousesThatChange$Mayor", "lookAhead", "(II)V"⟩, 5) := ⟨⟨by decide +kernel, by decide +kernel⟩, List.mem_of_getElem? (i := 110) (by decide +kernel), List.mem_of_getElem? (i := 391) (by decide +kernel), List.mem_of_getElem? (i := 392) (by decide +kernel)⟩
theorem lw_p2 : lw_okq (⟨"HousesThatChange$Mayor", "leftBy", "(I)I"⟩, 5) := ⟨⟨by decide +kernel, by decide +kernel⟩, List.mem_of_getElem? (i := 110) (by decide +kernel), List.mem_of_getElem? (i := 401) (by decide +kernel), List.mem_of_getElem? (i := 402) (by decide +kernel)⟩
theorem lw_p3 : lw_okq (⟨"HousesThatChange", "number", "()I"⟩, 11) := ⟨⟨by decide +kernel, by decide +kernel⟩, List.mem_of_getElem? (i := 14) (by decide +kernel), List.mem_of_getElem? (i := 409) (by decide +kernel), List.mem_of_getElem? (i := 410) (by decide +kernel)⟩
theorem lw_p4 : lw_okq (⟨"HousesThatChange$Goal", "countFew", "()V"⟩, 9) := ⟨⟨by decide +kernel, by decide +kernel⟩, List.mem_of_getElem? (i := 132) (by decide +kernel), List.mem_of_getElem? (i := 442) (by decide +kernel), List.mem_of_getElem? (i := 443) (by decide +kernel)⟩
theorem lw_p5 : lw_okq (⟨"HousesThatChange$Goal", "countSure", "()V"⟩, 9) := ⟨⟨by decide +kernel, by decide +kernel⟩, List.mem_of_getElem? (i := 132) (by decide +kernel), List.mem_of_getElem? (i := 462) (by decide +kernel), List.mem_of_getElem? (i := 463) (by decide +kernel)⟩
theorem lw_p6 : lw_okq (⟨"HousesThatChange$Goal", "canForce", "(II)Z"⟩, 9) := ⟨⟨by decide +kernel, by decide +kernel⟩, List.mem_of_getElem? (i := 132) (by decide +kernel), List.mem_of_getElem? (i := 466) (by decide +kernel), List.mem_of_getElem? (i := 467) (by decide +kernel)⟩
theorem lw_p7 : lw_okq (⟨"HousesThatChange$Stroll", "placeAfter", "(II)I"⟩, 3) := ⟨⟨by decide +kernel, by decide +kernel⟩, List.mem_of_getElem? (i := 193) (by decide +kernel), List.mem_of_getElem? (i := 482) (by decide +kernel), List.mem_of_getElem? (i := 483) (by decide +kernel)⟩
theorem lw_p8 : lw_okq (⟨"HousesThatChange$Stroll", "add", "(II)V"⟩, 3) := ⟨⟨by decide +kernel, by decide +kernel⟩, List.mem_of_getElem? (i := 193) (by decide +kernel), List.mem_of_getElem? (i := 489) (by decide +kernel), List.mem_of_getElem? (i := 490) (by decide +kernel)⟩
theorem lw_p9 : lw_okq (⟨"HousesThatChange$Past", "spread", "(I)V"⟩, 6) := ⟨⟨by decide +kernel, by decide +kernel⟩, List.mem_of_getElem? (i := 167) (by decide +kernel), List.mem_of_getElem? (i := 513) (by decide +kernel), List.mem_of_getElem? (i := 514) (by decide +kernel)⟩
theorem lw_p10 : lw_okq (⟨"HousesThatChange$Page", "fitsFeuds", "(II)Z"⟩, 2) := ⟨⟨by decide +kernel, by decide +kernel⟩, List.mem_of_getElem? (i := 73) (by decide +kernel), List.mem_of_getElem? (i := 582) (by decide +kernel), List.mem_of_getElem? (i := 583) (by decide +kernel)⟩
theorem lw_p11 : lw_okq (⟨"HousesThatChange$Page", "isDigit", "(III)Z"⟩, 2) := ⟨⟨by decide +kernel, by decide +kernel⟩, List.mem_of_getElem? (i := 73) (by decide +kernel), List.mem_of_getElem? (i := 586) (by decide +kernel), List.mem_of_getElem? (i := 587) (by decide +kernel)⟩
theorem lw_p12 : lw_okq (⟨"HousesThatChange$Page", "fitsLetter", "(I)Z"⟩, 2) := ⟨⟨by decide +kernel, by decide +kernel⟩, List.mem_of_getElem? (i := 73) (by decide +kernel), List.mem_of_getElem? (i := 598) (by decide +kernel), List.mem_of_getElem? (i := 599) (by decide +kernel)⟩
theorem lw_p13 : lw_okq (⟨"HousesThatChange$Town", "setBars", "()V"⟩, 5) := ⟨⟨by decide +kernel, by decide +kernel⟩, List.mem_of_getElem? (i := 22) (by decide +kernel), List.mem_of_getElem? (i := 619) (by decide +kernel), List.mem_of_getElem? (i := 620) (by decide +kernel)⟩
theorem lw_p14 : lw_okq (⟨"HousesThatChange$Town", "quarrel", "(II)V"⟩, 5) := ⟨⟨by decide +kernel, by decide +kernel⟩, List.mem_of_getElem? (i := 22) (by decide +kernel), List.mem_of_getElem? (i := 625) (by decide +kernel), List.mem_of_getElem? (i := 626) (by decide +kernel)⟩
theorem lw_p15 : lw_okq (⟨"HousesThatChange$Orders", "change", "(II)V"⟩, 4) := ⟨⟨by decide +kernel, by decide +kernel⟩, List.mem_of_getElem? (i := 51) (by decide +kernel), List.mem_of_getElem? (i := 642) (by decide +kernel), List.mem_of_getElem? (i := 643) (by decide +kernel)⟩
def lw_privs_1 : List (MethodName × Nat) := [(⟨"HousesThatChange", "midnight", "(I)Z"⟩, 11), (⟨"HousesThatChange$Mayor", "lookAhead", "(II)V"⟩, 5), (⟨"HousesThatChange$Mayor", "leftBy", "(I)I"⟩, 5), (⟨"HousesThatChange", "number", "()I"⟩, 11), (⟨"HousesThatChange$Goal", "countFew", "()V"⟩, 9), (⟨"HousesThatChange$Goal", "countSure", "()V"⟩, 9), (⟨"HousesThatChange$Goal", "canForce", "(II)Z"⟩, 9), (⟨"HousesThatChange$Stroll", "placeAfter", "(II)I"⟩, 3), (⟨"HousesThatChange$Stroll", "add", "(II)V"⟩, 3), (⟨"HousesThatChange$Past", "spread", "(I)V"⟩, 6), (⟨"HousesThatChange$Page", "fitsFeuds", "(II)Z"⟩, 2), (⟨"HousesThatChange$Page", "isDigit", "(III)Z"⟩, 2), (⟨"HousesThatChange$Page", "fitsLetter", "(I)Z"⟩, 2), (⟨"HousesThatChange$Town", "setBars", "()V"⟩, 5), (⟨"HousesThatChange$Town", "quarrel", "(II)V"⟩, 5), (⟨"HousesThatChange$Orders", "change", "(II)V"⟩, 4)]
theorem lw_r1 : ∀ q ∈ lw_privs_1, lw_okq q := List.forall_mem_cons.mpr ⟨lw_p0, List.forall_mem_cons.mpr ⟨lw_p1, List.forall_mem_cons.mpr ⟨lw_p2, List.forall_mem_cons.mpr ⟨lw_p3, List.forall_mem_cons.mpr ⟨lw_p4, List.forall_mem_cons.mpr ⟨lw_p5, List.forall_mem_cons.mpr ⟨lw_p6, List.forall_mem_cons.mpr ⟨lw_p7, List.forall_mem_cons.mpr ⟨lw_p8, List.forall_mem_cons.mpr ⟨lw_p9, List.forall_mem_cons.mpr ⟨lw_p10, List.forall_mem_cons.mpr ⟨lw_p11, List.forall_mem_cons.mpr ⟨lw_p12, List.forall_mem_cons.mpr ⟨lw_p13, List.forall_mem_cons.mpr ⟨lw_p14, List.forall_mem_cons.mpr ⟨lw_p15, fun _ h => absurd h List.not_mem_nil⟩⟩⟩⟩⟩⟩⟩⟩⟩⟩⟩⟩⟩⟩⟩⟩
def lw_privs : List (MethodName × Nat) := lw_privs_1
def lw_tbl : List Cond := k2_sels lw_privs ++ tables_1
theorem lw_privs_ok : ∀ q ∈ lw_privs, lw_okq q := lw_r1
-- ===== end of PART A; then your names; then what follows =====
def RX0 : String := "HousesThatChange$Cells"
def TX0 : u_T := fun k => match k with
  | _ => ("", "", "", false)
def tyX0 : Nat → FieldType := fun k => match k with
  | _ => .int
abbrev wsX00 : List Cond := u_ws RX0 TX0 0
theorem nmX0 : ∀ a, a < 0 → ∀ b, b < 0 → a ≠ b → (TX0 a).2.1 ≠ (TX0 b).2.1 := by decide +kernel
theorem tyX0_ok : ∀ k, k < 0 → parseFieldDescriptor (TX0 k).2.2.1 = some (tyX0 k) := by decide +kernel
abbrev cX0_get : ByteArray := prog_2_method_2_code
def yX0_get : MethodName := ⟨RX0, "get", "([II)I"⟩
abbrev cX0_put : ByteArray := prog_2_method_3_code
def yX0_put : MethodName := ⟨RX0, "put", "([III)V"⟩
abbrev cX0_get_ : ByteArray := prog_2_method_4_code
def yX0_get_ : MethodName := ⟨RX0, "get", "([JI)J"⟩
abbrev cX0_put_ : ByteArray := prog_2_method_5_code
def yX0_put_ : MethodName := ⟨RX0, "put", "([JIJ)V"⟩
def RX1 : String := "HousesThatChange$Goal"
def TX1 : u_T := fun k => match k with
  | 0 => ("HousesThatChange$Goal", "town", "LHousesThatChange$Town;", true)
  | 1 => ("HousesThatChange$Goal", "orders", "LHousesThatChange$Orders;", true)
  | 2 => ("HousesThatChange$Goal", "order", "[I", true)
  | 3 => ("HousesThatChange$Goal", "few", "[I", true)
  | 4 => ("HousesThatChange$Goal", "sure", "[I", true)
  | 5 => ("HousesThatChange$Goal", "line", "[I", true)
  | 6 => ("HousesThatChange$Goal", "told", "Z", false)
  | 7 => ("HousesThatChange$Goal", "fewCounted", "Z", false)
  | _ => ("HousesThatChange$Goal", "sureCounted", "Z", false)
def tyX1 : Nat → FieldType := fun k => match k with
  | 0 => .object "HousesThatChange$Town"
  | 1 => .object "HousesThatChange$Orders"
  | 2 => .array .int
  | 3 => .array .int
  | 4 => .array .int
  | 5 => .array .int
  | 6 => .boolean
  | 7 => .boolean
  | _ => .boolean
abbrev wsX10 : List Cond := u_ws RX1 TX1 9
theorem nmX1 : ∀ a, a < 9 → ∀ b, b < 9 → a ≠ b → (TX1 a).2.1 ≠ (TX1 b).2.1 := by decide +kernel
theorem tyX1_ok : ∀ k, k < 9 → parseFieldDescriptor (TX1 k).2.2.1 = some (tyX1 k) := by decide +kernel
abbrev cX1_init : ByteArray := prog_3_method_1_code
def yX1_init : MethodName := ⟨RX1, "<init>", "(LHousesThatChange$Town;LHousesThatChange$Orders;)V"⟩
abbrev cX1_forget : ByteArray := prog_3_method_2_code
def yX1_forget : MethodName := ⟨RX1, "forget", "()V"⟩
abbrev cX1_placeOf : ByteArray := prog_3_method_4_code
def yX1_placeOf : MethodName := ⟨RX1, "placeOf", "(I)I"⟩
abbrev cX1_fewestFrom : ByteArray := prog_3_method_5_code
def yX1_fewestFrom : MethodName := ⟨RX1, "fewestFrom", "(I)I"⟩
abbrev cX1_countFew : ByteArray := prog_3_method_6_code
def yX1_countFew : MethodName := ⟨RX1, "countFew", "()V"⟩
abbrev cX1_surelyFrom : ByteArray := prog_3_method_7_code
def yX1_surelyFrom : MethodName := ⟨RX1, "surelyFrom", "(I)I"⟩
abbrev cX1_countSure : ByteArray := prog_3_method_8_code
def yX1_countSure : MethodName := ⟨RX1, "countSure", "()V"⟩
abbrev cX1_canForce : ByteArray := prog_3_method_9_code
def yX1_canForce : MethodName := ⟨RX1, "canForce", "(II)Z"⟩
def RX2 : String := "HousesThatChange$Mayor"
def TX2 : u_T := fun k => match k with
  | 0 => ("HousesThatChange$Mayor", "town", "LHousesThatChange$Town;", true)
  | 1 => ("HousesThatChange$Mayor", "orders", "LHousesThatChange$Orders;", true)
  | 2 => ("HousesThatChange$Mayor", "rolls", "[I", true)
  | 3 => ("HousesThatChange$Mayor", "left", "[I", true)
  | _ => ("HousesThatChange$Mayor", "known", "I", false)
def tyX2 : Nat → FieldType := fun k => match k with
  | 0 => .object "HousesThatChange$Town"
  | 1 => .object "HousesThatChange$Orders"
  | 2 => .array .int
  | 3 => .array .int
  | _ => .int
abbrev wsX20 : List Cond := u_ws RX2 TX2 5
theorem nmX2 : ∀ a, a < 5 → ∀ b, b < 5 → a ≠ b → (TX2 a).2.1 ≠ (TX2 b).2.1 := by decide +kernel
theorem tyX2_ok : ∀ k, k < 5 → parseFieldDescriptor (TX2 k).2.2.1 = some (tyX2 k) := by decide +kernel
abbrev cX2_init : ByteArray := prog_4_method_1_code
def yX2_init : MethodName := ⟨RX2, "<init>", "(LHousesThatChange$Town;LHousesThatChange$Orders;)V"⟩
abbrev cX2_forget : ByteArray := prog_4_method_2_code
def yX2_forget : MethodName := ⟨RX2, "forget", "()V"⟩
abbrev cX2_learn : ByteArray := prog_4_method_3_code
def yX2_learn : MethodName := ⟨RX2, "learn", "(I)V"⟩
abbrev cX2_rollsFor : ByteArray := prog_4_method_4_code
def yX2_rollsFor : MethodName := ⟨RX2, "rollsFor", "(II)I"⟩
abbrev cX2_choice : ByteArray := prog_4_method_5_code
def yX2_choice : MethodName := ⟨RX2, "choice", "(III)I"⟩
abbrev cX2_lookAhead : ByteArray := prog_4_method_6_code
def yX2_lookAhead : MethodName := ⟨RX2, "lookAhead", "(II)V"⟩
abbrev cX2_leftBy : ByteArray := prog_4_method_7_code
def yX2_leftBy : MethodName := ⟨RX2, "leftBy", "(I)I"⟩
def RX3 : String := "HousesThatChange$Moment"
def TX3 : u_T := fun k => match k with
  | 0 => ("HousesThatChange$Moment", "order", "[I", true)
  | 1 => ("HousesThatChange$Moment", "ahead", "[I", true)
  | 2 => ("HousesThatChange$Moment", "seed", "I", false)
  | _ => ("HousesThatChange$Moment", "nights", "I", false)
def tyX3 : Nat → FieldType := fun k => match k with
  | 0 => .array .int
  | 1 => .array .int
  | 2 => .int
  | _ => .int
abbrev wsX30 : List Cond := u_ws RX3 TX3 4
theorem nmX3 : ∀ a, a < 4 → ∀ b, b < 4 → a ≠ b → (TX3 a).2.1 ≠ (TX3 b).2.1 := by decide +kernel
theorem tyX3_ok : ∀ k, k < 4 → parseFieldDescriptor (TX3 k).2.2.1 = some (tyX3 k) := by decide +kernel
abbrev cX3_init : ByteArray := prog_5_method_1_code
def yX3_init : MethodName := ⟨RX3, "<init>", "()V"⟩
abbrev cX3_begin : ByteArray := prog_5_method_2_code
def yX3_begin : MethodName := ⟨RX3, "begin", "()V"⟩
abbrev cX3_houseIn : ByteArray := prog_5_method_4_code
def yX3_houseIn : MethodName := ⟨RX3, "houseIn", "(I)I"⟩
abbrev cX3_placeOf : ByteArray := prog_5_method_5_code
def yX3_placeOf : MethodName := ⟨RX3, "placeOf", "(II)I"⟩
abbrev cX3_placeAhead : ByteArray := prog_5_method_6_code
def yX3_placeAhead : MethodName := ⟨RX3, "placeAhead", "(II)I"⟩
abbrev cX3_placeIn : ByteArray := prog_5_method_7_code
def yX3_placeIn : MethodName := ⟨RX3, "placeIn", "([III)I"⟩
abbrev cX3_remember : ByteArray := prog_5_method_8_code
def yX3_remember : MethodName := ⟨RX3, "remember", "()V"⟩
abbrev cX3_change : ByteArray := prog_5_method_9_code
def yX3_change : MethodName := ⟨RX3, "change", "(II)V"⟩
def RX4 : String := "HousesThatChange$Orders"
def TX4 : u_T := fun k => match k with
  | 0 => ("HousesThatChange$Orders", "changed", "[I", true)
  | 1 => ("HousesThatChange$Orders", "row", "[I", true)
  | 2 => ("HousesThatChange$Orders", "places", "I", false)
  | _ => ("HousesThatChange$Orders", "size", "I", false)
def tyX4 : Nat → FieldType := fun k => match k with
  | 0 => .array .int
  | 1 => .array .int
  | 2 => .int
  | _ => .int
abbrev wsX40 : List Cond := u_ws RX4 TX4 4
theorem nmX4 : ∀ a, a < 4 → ∀ b, b < 4 → a ≠ b → (TX4 a).2.1 ≠ (TX4 b).2.1 := by decide +kernel
theorem tyX4_ok : ∀ k, k < 4 → parseFieldDescriptor (TX4 k).2.2.1 = some (tyX4 k) := by decide +kernel
abbrev cX4_init : ByteArray := prog_6_method_1_code
def yX4_init : MethodName := ⟨RX4, "<init>", "()V"⟩
abbrev cX4_prepare : ByteArray := prog_6_method_2_code
def yX4_prepare : MethodName := ⟨RX4, "prepare", "(I)V"⟩
abbrev cX4_change : ByteArray := prog_6_method_3_code
def yX4_change : MethodName := ⟨RX4, "change", "(II)V"⟩
abbrev cX4_numberOf : ByteArray := prog_6_method_4_code
def yX4_numberOf : MethodName := ⟨RX4, "numberOf", "([I)I"⟩
abbrev cX4_unfold : ByteArray := prog_6_method_5_code
def yX4_unfold : MethodName := ⟨RX4, "unfold", "(I)[I"⟩
abbrev cX4_after : ByteArray := prog_6_method_6_code
def yX4_after : MethodName := ⟨RX4, "after", "(II)I"⟩
def RX5 : String := "HousesThatChange$Page"
def TX5 : u_T := fun k => match k with
  | 0 => ("HousesThatChange$Page", "codes", "[I", true)
  | _ => ("HousesThatChange$Page", "size", "I", false)
def tyX5 : Nat → FieldType := fun k => match k with
  | 0 => .array .int
  | _ => .int
abbrev wsX50 : List Cond := u_ws RX5 TX5 2
theorem nmX5 : ∀ a, a < 2 → ∀ b, b < 2 → a ≠ b → (TX5 a).2.1 ≠ (TX5 b).2.1 := by decide +kernel
theorem tyX5_ok : ∀ k, k < 2 → parseFieldDescriptor (TX5 k).2.2.1 = some (tyX5 k) := by decide +kernel
abbrev cX5_init : ByteArray := prog_7_method_1_code
def yX5_init : MethodName := ⟨RX5, "<init>", "()V"⟩
abbrev cX5_told : ByteArray := prog_7_method_2_code
def yX5_told : MethodName := ⟨RX5, "told", "(J)I"⟩
abbrev cX5_codeIn : ByteArray := prog_7_method_3_code
def yX5_codeIn : MethodName := ⟨RX5, "codeIn", "(JI)I"⟩
abbrev cX5_append : ByteArray := prog_7_method_4_code
def yX5_append : MethodName := ⟨RX5, "append", "(JI)V"⟩
abbrev cX5_clear : ByteArray := prog_7_method_5_code
def yX5_clear : MethodName := ⟨RX5, "clear", "()I"⟩
abbrev cX5_code : ByteArray := prog_7_method_6_code
def yX5_code : MethodName := ⟨RX5, "code", "(I)I"⟩
abbrev cX5_digit : ByteArray := prog_7_method_7_code
def yX5_digit : MethodName := ⟨RX5, "digit", "(I)I"⟩
abbrev cX5_isDigit : ByteArray := prog_7_method_8_code
def yX5_isDigit : MethodName := ⟨RX5, "isDigit", "(III)Z"⟩
abbrev cX5_kindTold : ByteArray := prog_7_method_9_code
def yX5_kindTold : MethodName := ⟨RX5, "kindTold", "(I)I"⟩
abbrev cX5_housesTold : ByteArray := prog_7_method_10_code
def yX5_housesTold : MethodName := ⟨RX5, "housesTold", "()I"⟩
abbrev cX5_firstNoRing : ByteArray := prog_7_method_11_code
def yX5_firstNoRing : MethodName := ⟨RX5, "firstNoRing", "()I"⟩
abbrev cX5_fitsFeuds : ByteArray := prog_7_method_12_code
def yX5_fitsFeuds : MethodName := ⟨RX5, "fitsFeuds", "(II)Z"⟩
abbrev cX5_isRing : ByteArray := prog_7_method_13_code
def yX5_isRing : MethodName := ⟨RX5, "isRing", "()Z"⟩
abbrev cX5_firstNoLetter : ByteArray := prog_7_method_14_code
def yX5_firstNoLetter : MethodName := ⟨RX5, "firstNoLetter", "()I"⟩
abbrev cX5_fitsLetter : ByteArray := prog_7_method_15_code
def yX5_fitsLetter : MethodName := ⟨RX5, "fitsLetter", "(I)Z"⟩
def RX6 : String := "HousesThatChange$Past"
def TX6 : u_T := fun k => match k with
  | 0 => ("HousesThatChange$Past", "town", "LHousesThatChange$Town;", true)
  | 1 => ("HousesThatChange$Past", "orders", "LHousesThatChange$Orders;", true)
  | 2 => ("HousesThatChange$Past", "rows", "[J", true)
  | 3 => ("HousesThatChange$Past", "rowsThen", "[J", true)
  | 4 => ("HousesThatChange$Past", "shared", "[I", true)
  | _ => ("HousesThatChange$Past", "sharedThen", "[I", true)
def tyX6 : Nat → FieldType := fun k => match k with
  | 0 => .object "HousesThatChange$Town"
  | 1 => .object "HousesThatChange$Orders"
  | 2 => .array .long
  | 3 => .array .long
  | 4 => .array .int
  | _ => .array .int
abbrev wsX60 : List Cond := u_ws RX6 TX6 6
theorem nmX6 : ∀ a, a < 6 → ∀ b, b < 6 → a ≠ b → (TX6 a).2.1 ≠ (TX6 b).2.1 := by decide +kernel
theorem tyX6_ok : ∀ k, k < 6 → parseFieldDescriptor (TX6 k).2.2.1 = some (tyX6 k) := by decide +kernel
abbrev cX6_init : ByteArray := prog_8_method_1_code
def yX6_init : MethodName := ⟨RX6, "<init>", "(LHousesThatChange$Town;LHousesThatChange$Orders;)V"⟩
abbrev cX6_goBy : ByteArray := prog_8_method_2_code
def yX6_goBy : MethodName := ⟨RX6, "goBy", "(I)V"⟩
abbrev cX6_spread : ByteArray := prog_8_method_3_code
def yX6_spread : MethodName := ⟨RX6, "spread", "(I)V"⟩
abbrev cX6_rowsTo : ByteArray := prog_8_method_4_code
def yX6_rowsTo : MethodName := ⟨RX6, "rowsTo", "(I)J"⟩
abbrev cX6_sharedTo : ByteArray := prog_8_method_5_code
def yX6_sharedTo : MethodName := ⟨RX6, "sharedTo", "(I)I"⟩
def RX7 : String := "HousesThatChange$Stroll"
def TX7 : u_T := fun k => match k with
  | 0 => ("HousesThatChange$Stroll", "town", "LHousesThatChange$Town;", true)
  | 1 => ("HousesThatChange$Stroll", "rolls", "[I", true)
  | _ => ("HousesThatChange$Stroll", "rollsThen", "[I", true)
def tyX7 : Nat → FieldType := fun k => match k with
  | 0 => .object "HousesThatChange$Town"
  | 1 => .array .int
  | _ => .array .int
abbrev wsX70 : List Cond := u_ws RX7 TX7 3
theorem nmX7 : ∀ a, a < 3 → ∀ b, b < 3 → a ≠ b → (TX7 a).2.1 ≠ (TX7 b).2.1 := by decide +kernel
theorem tyX7_ok : ∀ k, k < 3 → parseFieldDescriptor (TX7 k).2.2.1 = some (tyX7 k) := by decide +kernel
abbrev cX7_init : ByteArray := prog_9_method_1_code
def yX7_init : MethodName := ⟨RX7, "<init>", "(LHousesThatChange$Town;)V"⟩
abbrev cX7_rolls : ByteArray := prog_9_method_2_code
def yX7_rolls : MethodName := ⟨RX7, "rolls", "(III)I"⟩
abbrev cX7_add : ByteArray := prog_9_method_3_code
def yX7_add : MethodName := ⟨RX7, "add", "(II)V"⟩
abbrev cX7_placeAfter : ByteArray := prog_9_method_4_code
def yX7_placeAfter : MethodName := ⟨RX7, "placeAfter", "(II)I"⟩
def RX8 : String := "HousesThatChange$Town"
def TX8 : u_T := fun k => match k with
  | 0 => ("HousesThatChange$Town", "kinds", "[I", true)
  | 1 => ("HousesThatChange$Town", "feuds", "[I", true)
  | 2 => ("HousesThatChange$Town", "houses", "I", false)
  | 3 => ("HousesThatChange$Town", "pairs", "I", false)
  | _ => ("HousesThatChange$Town", "bars", "I", false)
def tyX8 : Nat → FieldType := fun k => match k with
  | 0 => .array .int
  | 1 => .array .int
  | 2 => .int
  | 3 => .int
  | _ => .int
abbrev wsX80 : List Cond := u_ws RX8 TX8 5
theorem nmX8 : ∀ a, a < 5 → ∀ b, b < 5 → a ≠ b → (TX8 a).2.1 ≠ (TX8 b).2.1 := by decide +kernel
theorem tyX8_ok : ∀ k, k < 5 → parseFieldDescriptor (TX8 k).2.2.1 = some (tyX8 k) := by decide +kernel
abbrev cX8_init : ByteArray := prog_10_method_1_code
def yX8_init : MethodName := ⟨RX8, "<init>", "()V"⟩
abbrev cX8_read : ByteArray := prog_10_method_2_code
def yX8_read : MethodName := ⟨RX8, "read", "(LHousesThatChange$Page;)V"⟩
abbrev cX8_quarrel : ByteArray := prog_10_method_3_code
def yX8_quarrel : MethodName := ⟨RX8, "quarrel", "(II)V"⟩
abbrev cX8_stands : ByteArray := prog_10_method_4_code
def yX8_stands : MethodName := ⟨RX8, "stands", "()Z"⟩
abbrev cX8_has : ByteArray := prog_10_method_5_code
def yX8_has : MethodName := ⟨RX8, "has", "(I)Z"⟩
abbrev cX8_kind : ByteArray := prog_10_method_6_code
def yX8_kind : MethodName := ⟨RX8, "kind", "(I)I"⟩
abbrev cX8_is : ByteArray := prog_10_method_7_code
def yX8_is : MethodName := ⟨RX8, "is", "(II)Z"⟩
abbrev cX8_hate : ByteArray := prog_10_method_8_code
def yX8_hate : MethodName := ⟨RX8, "hate", "(II)Z"⟩
abbrev cX8_next : ByteArray := prog_10_method_9_code
def yX8_next : MethodName := ⟨RX8, "next", "(I)I"⟩
abbrev cX8_around : ByteArray := prog_10_method_10_code
def yX8_around : MethodName := ⟨RX8, "around", "(I)I"⟩
abbrev cX8_beside : ByteArray := prog_10_method_11_code
def yX8_beside : MethodName := ⟨RX8, "beside", "(II)Z"⟩
abbrev cX8_way : ByteArray := prog_10_method_12_code
def yX8_way : MethodName := ⟨RX8, "way", "(II)I"⟩
abbrev cX8_barred : ByteArray := prog_10_method_13_code
def yX8_barred : MethodName := ⟨RX8, "barred", "(I)Z"⟩
abbrev cX8_setBars : ByteArray := prog_10_method_14_code
def yX8_setBars : MethodName := ⟨RX8, "setBars", "()V"⟩
abbrev cX8_touching : ByteArray := prog_10_method_15_code
def yX8_touching : MethodName := ⟨RX8, "touching", "([I)I"⟩
abbrev cX8_rolls : ByteArray := prog_10_method_16_code
def yX8_rolls : MethodName := ⟨RX8, "rolls", "(I)I"⟩
def RX9 : String := "HousesThatChange"
def TX9 : u_T := fun k => match k with
  | 0 => ("HousesThatChange", "page", "LHousesThatChange$Page;", true)
  | 1 => ("HousesThatChange", "town", "LHousesThatChange$Town;", true)
  | 2 => ("HousesThatChange", "now", "LHousesThatChange$Moment;", true)
  | 3 => ("HousesThatChange", "kept", "LHousesThatChange$Moment;", true)
  | 4 => ("HousesThatChange", "orders", "LHousesThatChange$Orders;", true)
  | 5 => ("HousesThatChange", "mayor", "LHousesThatChange$Mayor;", true)
  | 6 => ("HousesThatChange", "goal", "LHousesThatChange$Goal;", true)
  | 7 => ("HousesThatChange", "past", "LHousesThatChange$Past;", true)
  | 8 => ("HousesThatChange", "stroll", "LHousesThatChange$Stroll;", true)
  | 9 => ("HousesThatChange", "keeps", "Z", false)
  | _ => ("HousesThatChange", "readings", "I", false)
def tyX9 : Nat → FieldType := fun k => match k with
  | 0 => .object "HousesThatChange$Page"
  | 1 => .object "HousesThatChange$Town"
  | 2 => .object "HousesThatChange$Moment"
  | 3 => .object "HousesThatChange$Moment"
  | 4 => .object "HousesThatChange$Orders"
  | 5 => .object "HousesThatChange$Mayor"
  | 6 => .object "HousesThatChange$Goal"
  | 7 => .object "HousesThatChange$Past"
  | 8 => .object "HousesThatChange$Stroll"
  | 9 => .boolean
  | _ => .int
abbrev wsX90 : List Cond := u_ws RX9 TX9 11
theorem nmX9 : ∀ a, a < 11 → ∀ b, b < 11 → a ≠ b → (TX9 a).2.1 ≠ (TX9 b).2.1 := by decide +kernel
theorem tyX9_ok : ∀ k, k < 11 → parseFieldDescriptor (TX9 k).2.2.1 = some (tyX9 k) := by decide +kernel
abbrev cX9_init : ByteArray := prog_1_method_1_code
def yX9_init : MethodName := ⟨RX9, "<init>", "()V"⟩
abbrev cX9_letters : ByteArray := prog_1_method_2_code
def yX9_letters : MethodName := ⟨RX9, "letters", "(J)I"⟩
abbrev cX9_fault : ByteArray := prog_1_method_4_code
def yX9_fault : MethodName := ⟨RX9, "fault", "(I)I"⟩
abbrev cX9_ring : ByteArray := prog_1_method_5_code
def yX9_ring : MethodName := ⟨RX9, "ring", "()I"⟩
abbrev cX9_house : ByteArray := prog_1_method_10_code
def yX9_house : MethodName := ⟨RX9, "house", "(II)I"⟩
abbrev cX9_as : ByteArray := prog_1_method_11_code
def yX9_as : MethodName := ⟨RX9, "as", "(II)I"⟩
abbrev cX9_at : ByteArray := prog_1_method_12_code
def yX9_at : MethodName := ⟨RX9, "at", "(I)I"⟩
abbrev cX9_feud : ByteArray := prog_1_method_13_code
def yX9_feud : MethodName := ⟨RX9, "feud", "(II)I"⟩
abbrev cX9_touch : ByteArray := prog_1_method_14_code
def yX9_touch : MethodName := ⟨RX9, "touch", "()I"⟩
abbrev cX9_joins : ByteArray := prog_1_method_15_code
def yX9_joins : MethodName := ⟨RX9, "joins", "()I"⟩
abbrev cX9_walk : ByteArray := prog_1_method_16_code
def yX9_walk : MethodName := ⟨RX9, "walk", "(I)I"⟩
abbrev cX9_night : ByteArray := prog_1_method_17_code
def yX9_night : MethodName := ⟨RX9, "night", "(II)I"⟩
abbrev cX9_midnight : ByteArray := prog_1_method_18_code
def yX9_midnight : MethodName := ⟨RX9, "midnight", "(I)Z"⟩
abbrev cX9_number : ByteArray := prog_1_method_20_code
def yX9_number : MethodName := ⟨RX9, "number", "()I"⟩
abbrev cX9_apart : ByteArray := prog_1_method_22_code
def yX9_apart : MethodName := ⟨RX9, "apart", "(II)I"⟩
abbrev cX9_choose : ByteArray := prog_1_method_23_code
def yX9_choose : MethodName := ⟨RX9, "choose", "(II)I"⟩
abbrev cX9_fewest : ByteArray := prog_1_method_24_code
def yX9_fewest : MethodName := ⟨RX9, "fewest", "()I"⟩
abbrev cX9_surely : ByteArray := prog_1_method_25_code
def yX9_surely : MethodName := ⟨RX9, "surely", "()I"⟩
abbrev cX9_odds : ByteArray := prog_1_method_26_code
def yX9_odds : MethodName := ⟨RX9, "odds", "(IIII)I"⟩
abbrev cX9_ways : ByteArray := prog_1_method_27_code
def yX9_ways : MethodName := ⟨RX9, "ways", "(I)J"⟩
abbrev cX9_must : ByteArray := prog_1_method_28_code
def yX9_must : MethodName := ⟨RX9, "must", "(I)I"⟩
abbrev cX9_lowest : ByteArray := prog_1_method_29_code
def yX9_lowest : MethodName := ⟨RX9, "lowest", "(III)I"⟩
abbrev cX9_count : ByteArray := prog_1_method_32_code
def yX9_count : MethodName := ⟨RX9, "count", "(I)I"⟩
def RX10 : String := "HousesThatChangeModel"
def TX10 : u_T := fun k => match k with
  | _ => ("", "", "", false)
def tyX10 : Nat → FieldType := fun k => match k with
  | _ => .int
abbrev wsX100 : List Cond := u_ws RX10 TX10 0
theorem nmX10 : ∀ a, a < 0 → ∀ b, b < 0 → a ≠ b → (TX10 a).2.1 ≠ (TX10 b).2.1 := by decide +kernel
theorem tyX10_ok : ∀ k, k < 0 → parseFieldDescriptor (TX10 k).2.2.1 = some (tyX10 k) := by decide +kernel
def RJ9 : String := "java/lang/Math"
def TJ9 : u_T := fun k => match k with
  | _ => ("", "", "", false)
def tyJ9 : Nat → FieldType := fun k => match k with
  | _ => .int
abbrev wsJ90 : List Cond := u_ws RJ9 TJ9 0
theorem nmJ9 : ∀ a, a < 0 → ∀ b, b < 0 → a ≠ b → (TJ9 a).2.1 ≠ (TJ9 b).2.1 := by decide +kernel
theorem tyJ9_ok : ∀ k, k < 0 → parseFieldDescriptor (TJ9 k).2.2.1 = some (tyJ9 k) := by decide +kernel
abbrev cJ9_floorMod_7cf53 : ByteArray := prog_13_method_50_code
def yJ9_floorMod_7cf53 : MethodName := ⟨RJ9, "floorMod", "(II)I"⟩
abbrev cJ9_abs_0f7a4 : ByteArray := prog_13_method_59_code
def yJ9_abs_0f7a4 : MethodName := ⟨RJ9, "abs", "(I)I"⟩
abbrev cJ9_max_7cf53 : ByteArray := prog_13_method_65_code
def yJ9_max_7cf53 : MethodName := ⟨RJ9, "max", "(II)I"⟩
abbrev cJ9_min_7cf53 : ByteArray := prog_13_method_69_code
def yJ9_min_7cf53 : MethodName := ⟨RJ9, "min", "(II)I"⟩
def RJ7 : String := "java/util/Arrays"
def TJ7 : u_T := fun k => match k with
  | _ => ("", "", "", false)
def tyJ7 : Nat → FieldType := fun k => match k with
  | _ => .int
abbrev wsJ70 : List Cond := u_ws RJ7 TJ7 0
theorem nmJ7 : ∀ a, a < 0 → ∀ b, b < 0 → a ≠ b → (TJ7 a).2.1 ≠ (TJ7 b).2.1 := by decide +kernel
theorem tyJ7_ok : ∀ k, k < 0 → parseFieldDescriptor (TJ7 k).2.2.1 = some (tyJ7 k) := by decide +kernel
abbrev cJ7_fill_d0a16 : ByteArray := prog_14_method_101_code
def yJ7_fill_d0a16 : MethodName := ⟨RJ7, "fill", "([JJ)V"⟩
abbrev cJ7_fill_53178 : ByteArray := prog_14_method_103_code
def yJ7_fill_53178 : MethodName := ⟨RJ7, "fill", "([II)V"⟩
def RL : String := "HousesThatChangeLaw"
abbrev cL_cell : ByteArray := method_2_code
def yL_cell : MethodName := ⟨RL, "cell", "([II)I"⟩
abbrev cL_put : ByteArray := method_3_code
def yL_put : MethodName := ⟨RL, "put", "(LHousesThatChange;I)Z"⟩
abbrev cL_ring : ByteArray := method_4_code
def yL_ring : MethodName := ⟨RL, "ring", "(LHousesThatChange;[III[I[I)I"⟩
abbrev cL_at : ByteArray := method_5_code
def yL_at : MethodName := ⟨RL, "at", "(II)I"⟩
abbrev cL_first : ByteArray := method_6_code
def yL_first : MethodName := ⟨RL, "first", "(I)I"⟩
abbrev cL_change : ByteArray := method_7_code
def yL_change : MethodName := ⟨RL, "change", "(I[III)I"⟩
abbrev cL_place : ByteArray := method_8_code
def yL_place : MethodName := ⟨RL, "place", "(III)I"⟩
abbrev cL_beside : ByteArray := method_9_code
def yL_beside : MethodName := ⟨RL, "beside", "(IIII)Z"⟩
abbrev cL_touch : ByteArray := method_10_code
def yL_touch : MethodName := ⟨RL, "touch", "(I[I[II)I"⟩
abbrev cL_round : ByteArray := method_11_code
def yL_round : MethodName := ⟨RL, "round", "(III)I"⟩
abbrev cL_terms : ByteArray := method_12_code
def yL_terms : MethodName := ⟨RL, "terms", "(JJJJ)Z"⟩
abbrev cL_law : ByteArray := code
def yL_law : MethodName := ⟨RL, "law", "([I)Z"⟩
def wsL_law_r1 : List Cond := [Cond.classLink RL 9 RX9, Cond.instantiable RX9 11, Cond.initialized RX9, Cond.arrayClass .int, Cond.constantLong RL 108 (-102), Cond.methodLink RL 47 yX9_init, Cond.instanceMethod yX9_init, Cond.code yX9_init cX9_init 3 none, Cond.methodLink RX9 1 objectInit, Cond.instanceMethod objectInit, Cond.code objectInit ⟨#[0xb1]⟩ 1 none, Cond.classLink RX9 7 RX8, Cond.instantiable RX8 5, Cond.initialized RX8, Cond.classLink RX9 10 RX4, Cond.instantiable RX4 4, Cond.initialized RX4, Cond.classLink RX9 13 RX5, Cond.instantiable RX5 2, Cond.initialized RX5, Cond.fieldLink RX9 16 "HousesThatChange" "page" "LHousesThatChange$Page;", Cond.fieldLink RX9 22 "HousesThatChange" "town" "LHousesThatChange$Town;", Cond.fieldLink RX9 26 "HousesThatChange" "orders" "LHousesThatChange$Orders;", Cond.classLink RX9 30 RX3]
def wsL_law_r2 : List Cond := [Cond.instantiable RX3 4, Cond.initialized RX3, Cond.fieldLink RX9 33 "HousesThatChange" "now" "LHousesThatChange$Moment;", Cond.fieldLink RX9 37 "HousesThatChange" "kept" "LHousesThatChange$Moment;", Cond.classLink RX9 40 RX2, Cond.instantiable RX2 5, Cond.initialized RX2, Cond.fieldLink RX9 45 "HousesThatChange" "mayor" "LHousesThatChange$Mayor;", Cond.classLink RX9 49 RX1, Cond.instantiable RX1 9, Cond.initialized RX1, Cond.fieldLink RX9 52 "HousesThatChange" "goal" "LHousesThatChange$Goal;", Cond.classLink RX9 56 RX6, Cond.instantiable RX6 6, Cond.initialized RX6, Cond.fieldLink RX9 59 "HousesThatChange" "past" "LHousesThatChange$Past;", Cond.classLink RX9 63 RX7, Cond.instantiable RX7 3, Cond.initialized RX7, Cond.fieldLink RX9 68 "HousesThatChange" "stroll" "LHousesThatChange$Stroll;", Cond.instanceMethod yX8_init, Cond.code yX8_init cX8_init 1 none, Cond.methodLink RX8 3 objectInit, Cond.fieldLink RX8 9 "HousesThatChange$Town" "kinds" "[I"]
def wsL_law_r3 : List Cond := [Cond.fieldLink RX8 15 "HousesThatChange$Town" "feuds" "[I", Cond.instanceMethod yX4_init, Cond.code yX4_init cX4_init 1 none, Cond.methodLink RX4 3 objectInit, Cond.fieldLink RX4 9 "HousesThatChange$Orders" "changed" "[I", Cond.fieldLink RX4 15 "HousesThatChange$Orders" "row" "[I", Cond.instanceMethod yX5_init, Cond.code yX5_init cX5_init 1 none, Cond.methodLink RX5 3 objectInit, Cond.fieldLink RX5 9 "HousesThatChange$Page" "codes" "[I", Cond.instanceMethod yX3_init, Cond.code yX3_init cX3_init 1 none, Cond.methodLink RX3 3 objectInit, Cond.fieldLink RX3 9 "HousesThatChange$Moment" "order" "[I", Cond.fieldLink RX3 15 "HousesThatChange$Moment" "ahead" "[I", Cond.fieldLink RX3 18 "HousesThatChange$Moment" "seed" "I", Cond.methodLink RX9 42 yX2_init, Cond.instanceMethod yX2_init, Cond.code yX2_init cX2_init 3 none, Cond.methodLink RX2 3 objectInit, Cond.fieldLink RX2 9 "HousesThatChange$Mayor" "rolls" "[I", Cond.fieldLink RX2 15 "HousesThatChange$Mayor" "left" "[I", Cond.fieldLink RX2 18 "HousesThatChange$Mayor" "town" "LHousesThatChange$Town;", Cond.fieldLink RX2 22 "HousesThatChange$Mayor" "orders" "LHousesThatChange$Orders;"]
def wsL_law_r4 : List Cond := [Cond.methodLink RX9 51 yX1_init, Cond.instanceMethod yX1_init, Cond.code yX1_init cX1_init 3 none, Cond.methodLink RX1 3 objectInit, Cond.fieldLink RX1 9 "HousesThatChange$Goal" "order" "[I", Cond.fieldLink RX1 15 "HousesThatChange$Goal" "few" "[I", Cond.fieldLink RX1 18 "HousesThatChange$Goal" "sure" "[I", Cond.fieldLink RX1 21 "HousesThatChange$Goal" "line" "[I", Cond.fieldLink RX1 24 "HousesThatChange$Goal" "town" "LHousesThatChange$Town;", Cond.fieldLink RX1 28 "HousesThatChange$Goal" "orders" "LHousesThatChange$Orders;", Cond.methodLink RX9 58 yX6_init, Cond.instanceMethod yX6_init, Cond.code yX6_init cX6_init 3 none, Cond.methodLink RX6 3 objectInit, Cond.arrayClass .long, Cond.fieldLink RX6 9 "HousesThatChange$Past" "rows" "[J", Cond.fieldLink RX6 15 "HousesThatChange$Past" "rowsThen" "[J", Cond.fieldLink RX6 18 "HousesThatChange$Past" "shared" "[I", Cond.fieldLink RX6 22 "HousesThatChange$Past" "sharedThen" "[I", Cond.fieldLink RX6 25 "HousesThatChange$Past" "town" "LHousesThatChange$Town;", Cond.fieldLink RX6 29 "HousesThatChange$Past" "orders" "LHousesThatChange$Orders;", Cond.methodLink RX9 65 yX7_init, Cond.instanceMethod yX7_init, Cond.code yX7_init cX7_init 2 none]
def wsL_law_r5 : List Cond := [Cond.methodLink RX7 3 objectInit, Cond.fieldLink RX7 9 "HousesThatChange$Stroll" "rolls" "[I", Cond.fieldLink RX7 15 "HousesThatChange$Stroll" "rollsThen" "[I", Cond.fieldLink RX7 18 "HousesThatChange$Stroll" "town" "LHousesThatChange$Town;", Cond.methodLink RL 48 yL_ring, Cond.static yL_ring, Cond.initialized RL, Cond.code yL_ring cL_ring 14 (some .int), Cond.methodLink RL 14 yL_cell, Cond.static yL_cell, Cond.code yL_cell cL_cell 2 (some .int), Cond.constant RL 7 (2147483647), Cond.methodLink RL 20 yL_put, Cond.static yL_put, Cond.code yL_put cL_put 2 (some .boolean), Cond.methodLink RL 8 yX9_letters, Cond.instanceMethod yX9_letters, Cond.selects RX9 yX9_letters yX9_letters, Cond.code yX9_letters cX9_letters 4 (some .int), Cond.methodLink RX9 72 yX5_told, Cond.static yX5_told, Cond.code yX5_told cX5_told 6 (some .int), Cond.methodLink RX5 15 yX5_codeIn, Cond.static yX5_codeIn]
def wsL_law_r6 : List Cond := [Cond.code yX5_codeIn cX5_codeIn 3 (some .int), Cond.methodLink RX9 80 yX5_append, Cond.instanceMethod yX5_append, Cond.selects RX5 yX5_append yX5_append, Cond.code yX5_append cX5_append 5 none, Cond.fieldLink RX5 19 "HousesThatChange$Page" "size" "I", Cond.methodLink RX5 23 yX0_put, Cond.static yX0_put, Cond.initialized RX0, Cond.code yX0_put cX0_put 3 none, Cond.methodLink RL 24 yX9_fault, Cond.instanceMethod yX9_fault, Cond.selects RX9 yX9_fault yX9_fault, Cond.code yX9_fault cX9_fault 2 (some .int), Cond.methodLink RX9 88 yX5_firstNoRing, Cond.instanceMethod yX5_firstNoRing, Cond.selects RX5 yX5_firstNoRing yX5_firstNoRing, Cond.code yX5_firstNoRing cX5_firstNoRing 3 (some .int), Cond.methodLink RX5 43 yX5_housesTold, Cond.instanceMethod yX5_housesTold, Cond.selects RX5 yX5_housesTold yX5_housesTold, Cond.code yX5_housesTold cX5_housesTold 2 (some .int), Cond.methodLink RX5 37 yX5_code, Cond.instanceMethod yX5_code]
def wsL_law_r7 : List Cond := [Cond.selects RX5 yX5_code yX5_code, Cond.code yX5_code cX5_code 2 (some .int), Cond.methodLink RX5 29 yX0_get, Cond.static yX0_get, Cond.code yX0_get cX0_get 2 (some .int), Cond.methodLink RX5 40 yX5_kindTold, Cond.static yX5_kindTold, Cond.code yX5_kindTold cX5_kindTold 1 (some .int), Cond.methodLink RX5 47 yX5_fitsFeuds, Cond.instanceMethod yX5_fitsFeuds, Cond.selects RX5 yX5_fitsFeuds yX5_fitsFeuds, Cond.code yX5_fitsFeuds cX5_fitsFeuds 4 (some .boolean), Cond.methodLink RX5 51 yX5_isDigit, Cond.instanceMethod yX5_isDigit, Cond.selects RX5 yX5_isDigit yX5_isDigit, Cond.code yX5_isDigit cX5_isDigit 4 (some .boolean), Cond.methodLink RX5 33 yX5_digit, Cond.instanceMethod yX5_digit, Cond.selects RX5 yX5_digit yX5_digit, Cond.code yX5_digit cX5_digit 2 (some .int), Cond.methodLink RX9 91 yX5_firstNoLetter, Cond.instanceMethod yX5_firstNoLetter, Cond.selects RX5 yX5_firstNoLetter yX5_firstNoLetter, Cond.code yX5_firstNoLetter cX5_firstNoLetter 2 (some .int)]
def wsL_law_r8 : List Cond := [Cond.methodLink RX5 58 yX5_fitsLetter, Cond.instanceMethod yX5_fitsLetter, Cond.selects RX5 yX5_fitsLetter yX5_fitsLetter, Cond.code yX5_fitsLetter cX5_fitsLetter 4 (some .boolean), Cond.methodLink RL 28 yX9_count, Cond.instanceMethod yX9_count, Cond.selects RX9 yX9_count yX9_count, Cond.code yX9_count cX9_count 2 (some .int), Cond.fieldLink RX9 120 "HousesThatChange" "readings" "I", Cond.methodLink RL 31 yX9_ring, Cond.instanceMethod yX9_ring, Cond.selects RX9 yX9_ring yX9_ring, Cond.code yX9_ring cX9_ring 1 (some .int), Cond.fieldLink RX9 116 "HousesThatChange" "keeps" "Z", Cond.methodLink RX9 94 yX5_isRing, Cond.instanceMethod yX5_isRing, Cond.selects RX5 yX5_isRing yX5_isRing, Cond.code yX5_isRing cX5_isRing 2 (some .boolean), Cond.methodLink RX5 55 yX5_firstNoRing, Cond.methodLink RX9 98 yX8_read, Cond.instanceMethod yX8_read, Cond.selects RX8 yX8_read yX8_read, Cond.code yX8_read cX8_read 3 none, Cond.fieldLink RX8 24 "HousesThatChange$Town" "houses" "I"]
def wsL_law_r9 : List Cond := [Cond.fieldLink RX8 50 "HousesThatChange$Town" "pairs" "I", Cond.methodLink RX8 18 yX5_housesTold, Cond.methodLink RX8 28 yX5_code, Cond.methodLink RX8 32 yX5_kindTold, Cond.methodLink RX8 35 yX0_put, Cond.methodLink RX8 41 yX8_setBars, Cond.instanceMethod yX8_setBars, Cond.selects RX8 yX8_setBars yX8_setBars, Cond.code yX8_setBars cX8_setBars 2 none, Cond.fieldLink RX8 86 "HousesThatChange$Town" "bars" "I", Cond.methodLink RX8 89 yX8_is, Cond.instanceMethod yX8_is, Cond.selects RX8 yX8_is yX8_is, Cond.code yX8_is cX8_is 4 (some .boolean), Cond.methodLink RX8 67 yX0_get, Cond.methodLink RX8 77 yX8_next, Cond.instanceMethod yX8_next, Cond.selects RX8 yX8_next yX8_next, Cond.code yX8_next cX8_next 2 (some .int), Cond.methodLink RX8 44 yJ7_fill_53178, Cond.static yJ7_fill_53178, Cond.initialized RJ7, Cond.code yJ7_fill_53178 cJ7_fill_53178 4 none, Cond.methodLink RX8 56 yX5_digit]
def wsL_law_r10 : List Cond := [Cond.methodLink RX8 59 yX8_quarrel, Cond.instanceMethod yX8_quarrel, Cond.selects RX8 yX8_quarrel yX8_quarrel, Cond.code yX8_quarrel cX8_quarrel 3 none, Cond.methodLink RX8 63 yX8_hate, Cond.instanceMethod yX8_hate, Cond.selects RX8 yX8_hate yX8_hate, Cond.code yX8_hate cX8_hate 3 (some .boolean), Cond.methodLink RX9 84 yX5_clear, Cond.instanceMethod yX5_clear, Cond.selects RX5 yX5_clear yX5_clear, Cond.code yX5_clear cX5_clear 2 (some .int), Cond.methodLink RX9 102 yX3_begin, Cond.instanceMethod yX3_begin, Cond.selects RX3 yX3_begin yX3_begin, Cond.code yX3_begin cX3_begin 2 none, Cond.fieldLink RX3 28 "HousesThatChange$Moment" "nights" "I", Cond.methodLink RX3 22 yX0_put, Cond.methodLink RX9 108 yX4_prepare, Cond.instanceMethod yX4_prepare, Cond.selects RX4 yX4_prepare yX4_prepare, Cond.code yX4_prepare cX4_prepare 5 none, Cond.fieldLink RX4 18 "HousesThatChange$Orders" "places" "I", Cond.fieldLink RX4 22 "HousesThatChange$Orders" "size" "I"]
def wsL_law_r11 : List Cond := [Cond.methodLink RX4 25 yX4_unfold, Cond.instanceMethod yX4_unfold, Cond.selects RX4 yX4_unfold yX4_unfold, Cond.code yX4_unfold cX4_unfold 8 (some (.array .int)), Cond.methodLink RX4 37 yX0_put, Cond.methodLink RX4 43 yX0_get, Cond.methodLink RX4 29 yX4_change, Cond.instanceMethod yX4_change, Cond.selects RX4 yX4_change yX4_change, Cond.code yX4_change cX4_change 4 none, Cond.methodLink RX4 33 yX4_numberOf, Cond.instanceMethod yX4_numberOf, Cond.selects RX4 yX4_numberOf yX4_numberOf, Cond.code yX4_numberOf cX4_numberOf 6 (some .int), Cond.methodLink RX9 112 yX2_forget, Cond.instanceMethod yX2_forget, Cond.selects RX2 yX2_forget yX2_forget, Cond.code yX2_forget cX2_forget 1 none, Cond.fieldLink RX2 26 "HousesThatChange$Mayor" "known" "I", Cond.methodLink RX9 115 yX1_forget, Cond.instanceMethod yX1_forget, Cond.selects RX1 yX1_forget yX1_forget, Cond.code yX1_forget cX1_forget 1 none, Cond.fieldLink RX1 32 "HousesThatChange$Goal" "told" "Z"]
def wsL_law_r12 : List Cond := [Cond.methodLink RL 51 yL_first, Cond.static yL_first, Cond.code yL_first cL_first 3 (some .int), Cond.methodLink RL 54 yX9_feud, Cond.instanceMethod yX9_feud, Cond.selects RX9 yX9_feud yX9_feud, Cond.code yX9_feud cX9_feud 3 (some .int), Cond.methodLink RX9 141 yX8_has, Cond.instanceMethod yX8_has, Cond.selects RX8 yX8_has yX8_has, Cond.code yX8_has cX8_has 2 (some .boolean), Cond.methodLink RX9 176 yX8_hate, Cond.methodLink RL 57 yX9_as, Cond.instanceMethod yX9_as, Cond.selects RX9 yX9_as yX9_as, Cond.code yX9_as cX9_as 3 (some .int), Cond.methodLink RX9 173 yX8_is, Cond.methodLink RL 60 yL_change, Cond.static yL_change, Cond.code yL_change cL_change 9 (some .int), Cond.methodLink RL 35 yL_at, Cond.static yL_at, Cond.code yL_at cL_at 2 (some .int), Cond.methodLink RL 64 yX9_night]
def wsL_law_r13 : List Cond := [Cond.instanceMethod yX9_night, Cond.selects RX9 yX9_night yX9_night, Cond.code yX9_night cX9_night 3 (some .int), Cond.methodLink RX9 152 yX8_around, Cond.instanceMethod yX8_around, Cond.selects RX8 yX8_around yX8_around, Cond.code yX8_around cX8_around 2 (some .int), Cond.methodLink RX8 71 yJ9_floorMod_7cf53, Cond.static yJ9_floorMod_7cf53, Cond.initialized RJ9, Cond.code yJ9_floorMod_7cf53 cJ9_floorMod_7cf53 3 (some .int), Cond.methodLink RX9 193 yX9_midnight, Cond.instanceMethod yX9_midnight, Cond.selects RX9 yX9_midnight yX9_midnight, Cond.code yX9_midnight cX9_midnight 2 (some .boolean), Cond.methodLink RX9 196 yX3_remember, Cond.instanceMethod yX3_remember, Cond.selects RX3 yX3_remember yX3_remember, Cond.code yX3_remember cX3_remember 2 none, Cond.methodLink RX3 31 yX0_get, Cond.methodLink RX9 199 yX8_barred, Cond.instanceMethod yX8_barred, Cond.selects RX8 yX8_barred yX8_barred, Cond.code yX8_barred cX8_barred 2 (some .boolean)]
def wsL_law_r14 : List Cond := [Cond.methodLink RX9 187 yX8_next, Cond.methodLink RX9 202 yX3_change, Cond.instanceMethod yX3_change, Cond.selects RX3 yX3_change yX3_change, Cond.code yX3_change cX3_change 4 none, Cond.methodLink RX3 39 yX3_houseIn, Cond.instanceMethod yX3_houseIn, Cond.selects RX3 yX3_houseIn yX3_houseIn, Cond.code yX3_houseIn cX3_houseIn 2 (some .int), Cond.methodLink RL 39 yL_place, Cond.static yL_place, Cond.code yL_place cL_place 5 (some .int), Cond.methodLink RL 67 yX9_house, Cond.instanceMethod yX9_house, Cond.selects RX9 yX9_house yX9_house, Cond.code yX9_house cX9_house 3 (some .int), Cond.methodLink RX9 165 yX8_kind, Cond.instanceMethod yX8_kind, Cond.selects RX8 yX8_kind yX8_kind, Cond.code yX8_kind cX8_kind 2 (some .int), Cond.methodLink RX9 148 yX3_placeOf, Cond.instanceMethod yX3_placeOf, Cond.selects RX3 yX3_placeOf yX3_placeOf, Cond.code yX3_placeOf cX3_placeOf 3 (some .int)]
def wsL_law_r15 : List Cond := [Cond.methodLink RX3 35 yX3_placeIn, Cond.static yX3_placeIn, Cond.code yX3_placeIn cX3_placeIn 4 (some .int), Cond.methodLink RX9 168 yX3_placeAhead, Cond.instanceMethod yX3_placeAhead, Cond.selects RX3 yX3_placeAhead yX3_placeAhead, Cond.code yX3_placeAhead cX3_placeAhead 3 (some .int), Cond.methodLink RX9 171 yX1_placeOf, Cond.instanceMethod yX1_placeOf, Cond.selects RX1 yX1_placeOf yX1_placeOf, Cond.code yX1_placeOf cX1_placeOf 2 (some .int), Cond.methodLink RX1 60 yX3_placeIn, Cond.methodLink RL 70 yX9_at, Cond.instanceMethod yX9_at, Cond.selects RX9 yX9_at yX9_at, Cond.code yX9_at cX9_at 2 (some .int), Cond.methodLink RX9 155 yX3_houseIn, Cond.methodLink RL 72 yX9_walk, Cond.instanceMethod yX9_walk, Cond.selects RX9 yX9_walk yX9_walk, Cond.code yX9_walk cX9_walk 3 (some .int), Cond.methodLink RX9 190 yX8_way, Cond.instanceMethod yX8_way, Cond.selects RX8 yX8_way yX8_way]
def wsL_law_r16 : List Cond := [Cond.code yX8_way cX8_way 4 (some .int), Cond.methodLink RX8 80 Lib.Math.abs.name, Cond.static Lib.Math.abs.name, Cond.initialized "java/lang/Math", Cond.code Lib.Math.abs.name Lib.Math.abs.code 1 (some .int), Cond.methodLink RX8 83 Lib.Math.min.name, Cond.static Lib.Math.min.name, Cond.code Lib.Math.min.name Lib.Math.min.code 2 (some .int), Cond.methodLink RL 75 yL_round, Cond.static yL_round, Cond.code yL_round cL_round 4 (some .int), Cond.methodLink RL 43 yL_beside, Cond.static yL_beside, Cond.code yL_beside cL_beside 6 (some .boolean), Cond.methodLink RL 78 yX9_touch, Cond.instanceMethod yX9_touch, Cond.selects RX9 yX9_touch yX9_touch, Cond.code yX9_touch cX9_touch 1 (some .int), Cond.methodLink RX9 123 yX8_stands, Cond.instanceMethod yX8_stands, Cond.selects RX8 yX8_stands yX8_stands, Cond.code yX8_stands cX8_stands 1 (some .boolean), Cond.methodLink RX9 183 yX8_touching, Cond.instanceMethod yX8_touching]
def wsL_law_r17 : List Cond := [Cond.selects RX8 yX8_touching yX8_touching, Cond.code yX8_touching cX8_touching 6 (some .int), Cond.methodLink RL 81 yL_touch, Cond.static yL_touch, Cond.code yL_touch cL_touch 7 (some .int), Cond.methodLink RL 84 yX9_joins, Cond.instanceMethod yX9_joins, Cond.selects RX9 yX9_joins yX9_joins, Cond.code yX9_joins cX9_joins 5 (some .int), Cond.methodLink RX9 161 yX8_beside, Cond.instanceMethod yX8_beside, Cond.selects RX8 yX8_beside yX8_beside, Cond.code yX8_beside cX8_beside 3 (some .boolean), Cond.methodLink RL 87 yX9_odds, Cond.instanceMethod yX9_odds, Cond.selects RX9 yX9_odds yX9_odds, Cond.code yX9_odds cX9_odds 6 (some .int), Cond.methodLink RX9 241 yX7_rolls, Cond.instanceMethod yX7_rolls, Cond.selects RX7 yX7_rolls yX7_rolls, Cond.code yX7_rolls cX7_rolls 7 (some .int), Cond.methodLink RX7 22 yJ7_fill_53178, Cond.methodLink RX7 28 yX0_put, Cond.methodLink RX7 40 yX7_placeAfter]
def wsL_law_r18 : List Cond := [Cond.instanceMethod yX7_placeAfter, Cond.selects RX7 yX7_placeAfter yX7_placeAfter, Cond.code yX7_placeAfter cX7_placeAfter 3 (some .int), Cond.methodLink RX7 52 yX8_barred, Cond.methodLink RX7 56 yX8_next, Cond.methodLink RX7 44 yX0_get, Cond.methodLink RX7 48 yX7_add, Cond.instanceMethod yX7_add, Cond.selects RX7 yX7_add yX7_add, Cond.code yX7_add cX7_add 3 none, Cond.methodLink RX9 227 yX8_rolls, Cond.instanceMethod yX8_rolls, Cond.selects RX8 yX8_rolls yX8_rolls, Cond.code yX8_rolls cX8_rolls 4 (some .int), Cond.methodLink RX9 230 yX9_lowest, Cond.static yX9_lowest, Cond.code yX9_lowest cX9_lowest 7 (some .int), Cond.methodLink RL 91 yL_terms, Cond.static yL_terms, Cond.code yL_terms cL_terms 14 (some .boolean), Cond.methodLink RL 95 yX9_ways, Cond.instanceMethod yX9_ways, Cond.selects RX9 yX9_ways yX9_ways, Cond.code yX9_ways cX9_ways 2 (some .long)]
def wsL_law_r19 : List Cond := [Cond.constantLong RX9 243 (-103), Cond.constantLong RX9 245 (-102), Cond.methodLink RX9 247 yX6_goBy, Cond.instanceMethod yX6_goBy, Cond.selects RX6 yX6_goBy yX6_goBy, Cond.code yX6_goBy cX6_goBy 4 none, Cond.methodLink RX6 33 yJ7_fill_d0a16, Cond.static yJ7_fill_d0a16, Cond.code yJ7_fill_d0a16 cJ7_fill_d0a16 5 none, Cond.methodLink RX6 39 yX0_put_, Cond.static yX0_put_, Cond.code yX0_put_ cX0_put_ 4 none, Cond.methodLink RX6 45 yX0_put, Cond.methodLink RX6 54 yX0_get_, Cond.static yX0_get_, Cond.code yX0_get_ cX0_get_ 2 (some .long), Cond.methodLink RX6 58 yX6_spread, Cond.instanceMethod yX6_spread, Cond.selects RX6 yX6_spread yX6_spread, Cond.code yX6_spread cX6_spread 6 none, Cond.methodLink RX6 70 yX8_barred, Cond.methodLink RX6 74 yX4_after, Cond.instanceMethod yX4_after, Cond.selects RX4 yX4_after yX4_after]
def wsL_law_r20 : List Cond := [Cond.code yX4_after cX4_after 3 (some .int), Cond.methodLink RX6 62 yX0_get, Cond.methodLink RX9 209 yX9_number, Cond.instanceMethod yX9_number, Cond.selects RX9 yX9_number yX9_number, Cond.code yX9_number cX9_number 1 (some .int), Cond.methodLink RX9 215 yX4_numberOf, Cond.methodLink RX9 250 yX6_rowsTo, Cond.instanceMethod yX6_rowsTo, Cond.selects RX6 yX6_rowsTo yX6_rowsTo, Cond.code yX6_rowsTo cX6_rowsTo 2 (some .long), Cond.methodLink RL 99 yX9_must, Cond.instanceMethod yX9_must, Cond.selects RX9 yX9_must yX9_must, Cond.code yX9_must cX9_must 2 (some .int), Cond.methodLink RX9 254 yX6_sharedTo, Cond.instanceMethod yX6_sharedTo, Cond.selects RX6 yX6_sharedTo yX6_sharedTo, Cond.code yX6_sharedTo cX6_sharedTo 2 (some .int), Cond.methodLink RX6 78 yX6_rowsTo, Cond.methodLink RL 102 yX9_apart, Cond.instanceMethod yX9_apart, Cond.selects RX9 yX9_apart yX9_apart, Cond.code yX9_apart cX9_apart 3 (some .int)]
def wsL_law_r21 : List Cond := [Cond.methodLink RX9 221 yX2_learn, Cond.instanceMethod yX2_learn, Cond.selects RX2 yX2_learn yX2_learn, Cond.code yX2_learn cX2_learn 3 none, Cond.methodLink RX2 35 yX2_rollsFor, Cond.instanceMethod yX2_rollsFor, Cond.selects RX2 yX2_rollsFor yX2_rollsFor, Cond.code yX2_rollsFor cX2_rollsFor 5 (some .int), Cond.methodLink RX2 70 Lib.Math.max.name, Cond.static Lib.Math.max.name, Cond.code Lib.Math.max.name Lib.Math.max.code 2 (some .int), Cond.methodLink RX2 45 yX4_unfold, Cond.methodLink RX2 49 yX8_touching, Cond.methodLink RX2 55 yX0_get, Cond.methodLink RX2 59 yX2_lookAhead, Cond.instanceMethod yX2_lookAhead, Cond.selects RX2 yX2_lookAhead yX2_lookAhead, Cond.code yX2_lookAhead cX2_lookAhead 5 none, Cond.methodLink RX2 79 yX8_barred, Cond.methodLink RX2 83 yX4_after, Cond.methodLink RX2 39 yX0_put, Cond.methodLink RX2 66 yX2_leftBy, Cond.instanceMethod yX2_leftBy, Cond.selects RX2 yX2_leftBy yX2_leftBy]
def wsL_law_r22 : List Cond := [Cond.code yX2_leftBy cX2_leftBy 2 (some .int), Cond.methodLink RX2 86 yX8_around, Cond.methodLink RX9 224 yX2_rollsFor, Cond.methodLink RL 105 yX9_choose, Cond.instanceMethod yX9_choose, Cond.selects RX9 yX9_choose yX9_choose, Cond.code yX9_choose cX9_choose 3 (some .int), Cond.methodLink RX9 212 yX2_choice, Cond.instanceMethod yX2_choice, Cond.selects RX2 yX2_choice yX2_choice, Cond.code yX2_choice cX2_choice 6 (some .int), Cond.methodLink RX2 75 yX2_learn, Cond.methodLink RL 110 yX9_fewest, Cond.instanceMethod yX9_fewest, Cond.selects RX9 yX9_fewest yX9_fewest, Cond.code yX9_fewest cX9_fewest 1 (some .int), Cond.methodLink RX9 235 yX1_fewestFrom, Cond.instanceMethod yX1_fewestFrom, Cond.selects RX1 yX1_fewestFrom yX1_fewestFrom, Cond.code yX1_fewestFrom cX1_fewestFrom 2 (some .int), Cond.fieldLink RX1 54 "HousesThatChange$Goal" "fewCounted" "Z", Cond.methodLink RX1 66 yX1_countFew, Cond.instanceMethod yX1_countFew, Cond.selects RX1 yX1_countFew yX1_countFew]
def wsL_law_r23 : List Cond := [Cond.code yX1_countFew cX1_countFew 7 none, Cond.methodLink RX1 73 yJ7_fill_53178, Cond.methodLink RX1 79 yX4_numberOf, Cond.methodLink RX1 48 yX0_put, Cond.methodLink RX1 69 yX0_get, Cond.methodLink RX1 85 yX4_after, Cond.methodLink RX1 89 yX8_barred, Cond.methodLink RL 113 yX9_surely, Cond.instanceMethod yX9_surely, Cond.selects RX9 yX9_surely yX9_surely, Cond.code yX9_surely cX9_surely 1 (some .int), Cond.methodLink RX9 238 yX1_surelyFrom, Cond.instanceMethod yX1_surelyFrom, Cond.selects RX1 yX1_surelyFrom yX1_surelyFrom, Cond.code yX1_surelyFrom cX1_surelyFrom 2 (some .int), Cond.fieldLink RX1 57 "HousesThatChange$Goal" "sureCounted" "Z", Cond.methodLink RX1 93 yX1_countSure, Cond.instanceMethod yX1_countSure, Cond.selects RX1 yX1_countSure yX1_countSure, Cond.code yX1_countSure cX1_countSure 4 none, Cond.methodLink RX1 99 yX1_canForce, Cond.instanceMethod yX1_canForce, Cond.selects RX1 yX1_canForce yX1_canForce, Cond.code yX1_canForce cX1_canForce 6 (some .boolean)]
def wsL_law_r24 : List Cond := [Cond.methodLink RX1 103 yX8_next, Cond.methodLink RX1 106 yX8_around]
def wsL_law : List Cond := (wsL_law_r1 ++ (wsL_law_r2 ++ (wsL_law_r3 ++ (wsL_law_r4 ++ (wsL_law_r5 ++ (wsL_law_r6 ++ (wsL_law_r7 ++ (wsL_law_r8 ++ (wsL_law_r9 ++ (wsL_law_r10 ++ (wsL_law_r11 ++ (wsL_law_r12 ++ (wsL_law_r13 ++ (wsL_law_r14 ++ (wsL_law_r15 ++ (wsL_law_r16 ++ (wsL_law_r17 ++ (wsL_law_r18 ++ (wsL_law_r19 ++ (wsL_law_r20 ++ (wsL_law_r21 ++ (wsL_law_r22 ++ (wsL_law_r23 ++ wsL_law_r24))))))))))))))))))))))) ++ wsX90 ++ wsX80 ++ wsX40 ++ wsX50 ++ wsX30 ++ wsX20 ++ wsX10 ++ wsX60 ++ wsX70 ++ ([] : List Cond)
theorem inlX1 : ∀ w ∈ wsX10, w ∈ wsL_law := fun _ h => List.mem_append_left _ (List.mem_append_left _ (List.mem_append_left _ (List.mem_append_right _ h)))
theorem inlX2 : ∀ w ∈ wsX20, w ∈ wsL_law := fun _ h => List.mem_append_left _ (List.mem_append_left _ (List.mem_append_left _ (List.mem_append_left _ (List.mem_append_right _ h))))
theorem inlX3 : ∀ w ∈ wsX30, w ∈ wsL_law := fun _ h => List.mem_append_left _ (List.mem_append_left _ (List.mem_append_left _ (List.mem_append_left _ (List.mem_append_left _ (List.mem_append_right _ h)))))
theorem inlX4 : ∀ w ∈ wsX40, w ∈ wsL_law := fun _ h => List.mem_append_left _ (List.mem_append_left _ (List.mem_append_left _ (List.mem_append_left _ (List.mem_append_left _ (List.mem_append_left _ (List.mem_append_left _ (List.mem_append_right _ h)))))))
theorem inlX5 : ∀ w ∈ wsX50, w ∈ wsL_law := fun _ h => List.mem_append_left _ (List.mem_append_left _ (List.mem_append_left _ (List.mem_append_left _ (List.mem_append_left _ (List.mem_append_left _ (List.mem_append_right _ h))))))
theorem inlX6 : ∀ w ∈ wsX60, w ∈ wsL_law := fun _ h => List.mem_append_left _ (List.mem_append_left _ (List.mem_append_right _ h))
theorem inlX7 : ∀ w ∈ wsX70, w ∈ wsL_law := fun _ h => List.mem_append_left _ (List.mem_append_right _ h)
theorem inlX8 : ∀ w ∈ wsX80, w ∈ wsL_law := fun _ h => List.mem_append_left _ (List.mem_append_left _ (List.mem_append_left _ (List.mem_append_left _ (List.mem_append_left _ (List.mem_append_left _ (List.mem_append_left _ (List.mem_append_left _ (List.mem_append_right _ h))))))))
theorem inlX9 : ∀ w ∈ wsX90, w ∈ wsL_law := fun _ h => List.mem_append_left _ (List.mem_append_left _ (List.mem_append_left _ (List.mem_append_left _ (List.mem_append_left _ (List.mem_append_left _ (List.mem_append_left _ (List.mem_append_left _ (List.mem_append_left _ (List.mem_append_right _ h)))))))))
abbrev vwCl : List vw_C := [(RX1, TX1, 9), (RX2, TX2, 5), (RX3, TX3, 4), (RX4, TX4, 4), (RX5, TX5, 2), (RX6, TX6, 6), (RX7, TX7, 3), (RX8, TX8, 5), (RX9, TX9, 11)]
