section
/-- a private method of a class that the tables say can be made, by its rows of tables_1 -/
def lw_okq (q : MethodName × Nat) : Prop := (q.1.cls ≠ "java/lang/invoke/MethodHandle" ∧ q.1.cls ≠ "java/lang/invoke/VarHandle") ∧ Cond.instantiable q.1.cls q.2 ∈ tables_1 ∧ Cond.privateMethod q.1 ∈ tables_1 ∧ Cond.instanceMethod q.1 ∈ tables_1
theorem lw_p0 : lw_okq (⟨"JumpOrder", "orderOf", "(I)LJumpOrder$Order;"⟩, 1) := ⟨⟨by decide +kernel, by decide +kernel⟩, List.mem_of_getElem? (i := 6) (by decide +kernel), List.mem_of_getElem? (i := 92) (by decide +kernel), List.mem_of_getElem? (i := 93) (by decide +kernel)⟩
theorem lw_p1 : lw_okq (⟨"JumpOrder$Order", "placeOf", "(I)LJumpOrder$Place;"⟩, 5) := ⟨⟨by decide +kernel, by decide +kernel⟩, List.mem_of_getElem? (i := 15) (by decide +kernel), List.mem_of_getElem? (i := 99) (by decide +kernel), List.mem_of_getElem? (i := 100) (by decide +kernel)⟩
theorem lw_p2 : lw_okq (⟨"JumpOrder$Order", "enter", "(IJ)V"⟩, 5) := ⟨⟨by decide +kernel, by decide +kernel⟩, List.mem_of_getElem? (i := 15) (by decide +kernel), List.mem_of_getElem? (i := 104) (by decide +kernel), List.mem_of_getElem? (i := 105) (by decide +kernel)⟩
theorem lw_p3 : lw_okq (⟨"JumpOrder$Order", "putIn", "(LJumpOrder$Place;)V"⟩, 5) := ⟨⟨by decide +kernel, by decide +kernel⟩, List.mem_of_getElem? (i := 15) (by decide +kernel), List.mem_of_getElem? (i := 112) (by decide +kernel), List.mem_of_getElem? (i := 113) (by decide +kernel)⟩
theorem lw_p4 : lw_okq (⟨"JumpOrder$Order", "countAheadOf", "(JI)I"⟩, 5) := ⟨⟨by decide +kernel, by decide +kernel⟩, List.mem_of_getElem? (i := 15) (by decide +kernel), List.mem_of_getElem? (i := 116) (by decide +kernel), List.mem_of_getElem? (i := 117) (by decide +kernel)⟩
theorem lw_p5 : lw_okq (⟨"JumpOrder$Order", "goToHead", "()V"⟩, 5) := ⟨⟨by decide +kernel, by decide +kernel⟩, List.mem_of_getElem? (i := 15) (by decide +kernel), List.mem_of_getElem? (i := 120) (by decide +kernel), List.mem_of_getElem? (i := 121) (by decide +kernel)⟩
theorem lw_p6 : lw_okq (⟨"JumpOrder$Place", "isAheadOf", "(JI)Z"⟩, 7) := ⟨⟨by decide +kernel, by decide +kernel⟩, List.mem_of_getElem? (i := 21) (by decide +kernel), List.mem_of_getElem? (i := 124) (by decide +kernel), List.mem_of_getElem? (i := 125) (by decide +kernel)⟩
theorem lw_p7 : lw_okq (⟨"JumpOrder$Order", "goAheadOf", "(II)V"⟩, 5) := ⟨⟨by decide +kernel, by decide +kernel⟩, List.mem_of_getElem? (i := 15) (by decide +kernel), List.mem_of_getElem? (i := 128) (by decide +kernel), List.mem_of_getElem? (i := 129) (by decide +kernel)⟩
theorem lw_p8 : lw_okq (⟨"JumpOrder$Order", "move", "(LJumpOrder$Place;J)V"⟩, 5) := ⟨⟨by decide +kernel, by decide +kernel⟩, List.mem_of_getElem? (i := 15) (by decide +kernel), List.mem_of_getElem? (i := 132) (by decide +kernel), List.mem_of_getElem? (i := 133) (by decide +kernel)⟩
theorem lw_p9 : lw_okq (⟨"JumpOrder$Order", "takeOut", "(LJumpOrder$Place;)V"⟩, 5) := ⟨⟨by decide +kernel, by decide +kernel⟩, List.mem_of_getElem? (i := 15) (by decide +kernel), List.mem_of_getElem? (i := 136) (by decide +kernel), List.mem_of_getElem? (i := 137) (by decide +kernel)⟩
theorem lw_p10 : lw_okq (⟨"JumpOrder$Order", "leave", "(LJumpOrder$Place;)V"⟩, 5) := ⟨⟨by decide +kernel, by decide +kernel⟩, List.mem_of_getElem? (i := 15) (by decide +kernel), List.mem_of_getElem? (i := 144) (by decide +kernel), List.mem_of_getElem? (i := 145) (by decide +kernel)⟩
theorem lw_p11 : lw_okq (⟨"JumpOrder$Order", "leaveAll", "()I"⟩, 5) := ⟨⟨by decide +kernel, by decide +kernel⟩, List.mem_of_getElem? (i := 15) (by decide +kernel), List.mem_of_getElem? (i := 152) (by decide +kernel), List.mem_of_getElem? (i := 153) (by decide +kernel)⟩
theorem lw_p12 : lw_okq (⟨"JumpOrder$Order", "placeOfRank", "(I)LJumpOrder$Place;"⟩, 5) := ⟨⟨by decide +kernel, by decide +kernel⟩, List.mem_of_getElem? (i := 15) (by decide +kernel), List.mem_of_getElem? (i := 170) (by decide +kernel), List.mem_of_getElem? (i := 171) (by decide +kernel)⟩
theorem lw_p13 : lw_okq (⟨"JumpOrderModel", "leave", "(II)V"⟩, 4) := ⟨⟨by decide +kernel, by decide +kernel⟩, List.mem_of_getElem? (i := 187) (by decide +kernel), List.mem_of_getElem? (i := 219) (by decide +kernel), List.mem_of_getElem? (i := 220) (by decide +kernel)⟩
theorem lw_p14 : lw_okq (⟨"JumpOrderModel", "place", "(IJI)I"⟩, 4) := ⟨⟨by decide +kernel, by decide +kernel⟩, List.mem_of_getElem? (i := 187) (by decide +kernel), List.mem_of_getElem? (i := 223) (by decide +kernel), List.mem_of_getElem? (i := 224) (by decide +kernel)⟩
theorem lw_p15 : lw_okq (⟨"JumpOrderModel", "isAhead", "(IIJI)Z"⟩, 4) := ⟨⟨by decide +kernel, by decide +kernel⟩, List.mem_of_getElem? (i := 187) (by decide +kernel), List.mem_of_getElem? (i := 227) (by decide +kernel), List.mem_of_getElem? (i := 228) (by decide +kernel)⟩
def lw_privs_1 : List (MethodName × Nat) := [(⟨"JumpOrder", "orderOf", "(I)LJumpOrder$Order;"⟩, 1), (⟨"JumpOrder$Order", "placeOf", "(I)LJumpOrder$Place;"⟩, 5), (⟨"JumpOrder$Order", "enter", "(IJ)V"⟩, 5), (⟨"JumpOrder$Order", "putIn", "(LJumpOrder$Place;)V"⟩, 5), (⟨"JumpOrder$Order", "countAheadOf", "(JI)I"⟩, 5), (⟨"JumpOrder$Order", "goToHead", "()V"⟩, 5), (⟨"JumpOrder$Place", "isAheadOf", "(JI)Z"⟩, 7), (⟨"JumpOrder$Order", "goAheadOf", "(II)V"⟩, 5), (⟨"JumpOrder$Order", "move", "(LJumpOrder$Place;J)V"⟩, 5), (⟨"JumpOrder$Order", "takeOut", "(LJumpOrder$Place;)V"⟩, 5), (⟨"JumpOrder$Order", "leave", "(LJumpOrder$Place;)V"⟩, 5), (⟨"JumpOrder$Order", "leaveAll", "()I"⟩, 5), (⟨"JumpOrder$Order", "placeOfRank", "(I)LJumpOrder$Place;"⟩, 5), (⟨"JumpOrderModel", "leave", "(II)V"⟩, 4), (⟨"JumpOrderModel", "place", "(IJI)I"⟩, 4), (⟨"JumpOrderModel", "isAhead", "(IIJI)Z"⟩, 4)]
theorem lw_r1 : ∀ q ∈ lw_privs_1, lw_okq q := List.forall_mem_cons.mpr ⟨lw_p0, List.forall_mem_cons.mpr ⟨lw_p1, List.forall_mem_cons.mpr ⟨lw_p2, List.forall_mem_cons.mpr ⟨lw_p3, List.forall_mem_cons.mpr ⟨lw_p4, List.forall_mem_cons.mpr ⟨lw_p5, List.forall_mem_cons.mpr ⟨lw_p6, List.forall_mem_cons.mpr ⟨lw_p7, List.forall_mem_cons.mpr ⟨lw_p8, List.forall_mem_cons.mpr ⟨lw_p9, List.forall_mem_cons.mpr ⟨lw_p10, List.forall_mem_cons.mpr ⟨lw_p11, List.forall_mem_cons.mpr ⟨lw_p12, List.forall_mem_cons.mpr ⟨lw_p13, List.forall_mem_cons.mpr ⟨lw_p14, List.forall_mem_cons.mpr ⟨lw_p15, fun _ h => absurd h List.not_mem_nil⟩⟩⟩⟩⟩⟩⟩⟩⟩⟩⟩⟩⟩⟩⟩⟩
def lw_privs : List (MethodName × Nat) := lw_privs_1
def lw_tbl : List Cond := k2_sels lw_privs ++ tables_1
theorem lw_privs_ok : ∀ q ∈ lw_privs, lw_okq q := lw_r1
def RX0 : String := "JumpOrder$Order"
def TX0 : u_T := fun k => match k with
  | 0 => ("JumpOrder$Order", "head", "LJumpOrder$Place;", true)
  | 1 => ("JumpOrder$Order", "places", "[LJumpOrder$Place;", true)
  | 2 => ("JumpOrder$Order", "count", "I", false)
  | 3 => ("JumpOrder$Order", "here", "LJumpOrder$Place;", false)
  | _ => ("JumpOrder$Order", "position", "I", false)
def tyX0 : Nat → FieldType := fun k => match k with
  | 0 => .object "JumpOrder$Place"
  | 1 => .array (.object "JumpOrder$Place")
  | 2 => .int
  | 3 => .object "JumpOrder$Place"
  | _ => .int
abbrev wsX00 : List Cond := u_ws RX0 TX0 5
theorem nmX0 : ∀ a, a < 5 → ∀ b, b < 5 → a ≠ b → (TX0 a).2.1 ≠ (TX0 b).2.1 := by decide +kernel
theorem tyX0_ok : ∀ k, k < 5 → parseFieldDescriptor (TX0 k).2.2.1 = some (tyX0 k) := by decide +kernel
abbrev cX0_init : ByteArray := prog_2_method_1_code
def yX0_init : MethodName := ⟨RX0, "<init>", "()V"⟩
abbrev cX0_placeOf : ByteArray := prog_2_method_2_code
def yX0_placeOf : MethodName := ⟨RX0, "placeOf", "(I)LJumpOrder$Place;"⟩
abbrev cX0_placeOfRank : ByteArray := prog_2_method_3_code
def yX0_placeOfRank : MethodName := ⟨RX0, "placeOfRank", "(I)LJumpOrder$Place;"⟩
abbrev cX0_countAheadOf : ByteArray := prog_2_method_4_code
def yX0_countAheadOf : MethodName := ⟨RX0, "countAheadOf", "(JI)I"⟩
abbrev cX0_enter : ByteArray := prog_2_method_5_code
def yX0_enter : MethodName := ⟨RX0, "enter", "(IJ)V"⟩
abbrev cX0_move : ByteArray := prog_2_method_6_code
def yX0_move : MethodName := ⟨RX0, "move", "(LJumpOrder$Place;J)V"⟩
abbrev cX0_leave : ByteArray := prog_2_method_7_code
def yX0_leave : MethodName := ⟨RX0, "leave", "(LJumpOrder$Place;)V"⟩
abbrev cX0_leaveAll : ByteArray := prog_2_method_8_code
def yX0_leaveAll : MethodName := ⟨RX0, "leaveAll", "()I"⟩
abbrev cX0_putIn : ByteArray := prog_2_method_9_code
def yX0_putIn : MethodName := ⟨RX0, "putIn", "(LJumpOrder$Place;)V"⟩
abbrev cX0_takeOut : ByteArray := prog_2_method_10_code
def yX0_takeOut : MethodName := ⟨RX0, "takeOut", "(LJumpOrder$Place;)V"⟩
abbrev cX0_goToHead : ByteArray := prog_2_method_11_code
def yX0_goToHead : MethodName := ⟨RX0, "goToHead", "()V"⟩
abbrev cX0_goAheadOf : ByteArray := prog_2_method_12_code
def yX0_goAheadOf : MethodName := ⟨RX0, "goAheadOf", "(II)V"⟩
abbrev cX0_makeBare : ByteArray := prog_2_method_13_code
def yX0_makeBare : MethodName := ⟨RX0, "makeBare", "(LJumpOrder$Place;)V"⟩
abbrev cX0_heightOf : ByteArray := prog_2_method_14_code
def yX0_heightOf : MethodName := ⟨RX0, "heightOf", "(I)I"⟩
def RX1 : String := "JumpOrder$Place"
def TX1 : u_T := fun k => match k with
  | 0 => ("JumpOrder$Place", "member", "I", true)
  | 1 => ("JumpOrder$Place", "word", "I", true)
  | 2 => ("JumpOrder$Place", "height", "I", true)
  | 3 => ("JumpOrder$Place", "next", "[LJumpOrder$Place;", true)
  | 4 => ("JumpOrder$Place", "far", "[I", true)
  | 5 => ("JumpOrder$Place", "score", "J", false)
  | _ => ("JumpOrder$Place", "isIn", "Z", false)
def tyX1 : Nat → FieldType := fun k => match k with
  | 0 => .int
  | 1 => .int
  | 2 => .int
  | 3 => .array (.object "JumpOrder$Place")
  | 4 => .array .int
  | 5 => .long
  | _ => .boolean
abbrev wsX10 : List Cond := u_ws RX1 TX1 7
theorem nmX1 : ∀ a, a < 7 → ∀ b, b < 7 → a ≠ b → (TX1 a).2.1 ≠ (TX1 b).2.1 := by decide +kernel
theorem tyX1_ok : ∀ k, k < 7 → parseFieldDescriptor (TX1 k).2.2.1 = some (tyX1 k) := by decide +kernel
abbrev cX1_init : ByteArray := prog_3_method_1_code
def yX1_init : MethodName := ⟨RX1, "<init>", "(II)V"⟩
abbrev cX1_isAheadOf : ByteArray := prog_3_method_2_code
def yX1_isAheadOf : MethodName := ⟨RX1, "isAheadOf", "(JI)Z"⟩
abbrev cX1_wordOf : ByteArray := prog_3_method_3_code
def yX1_wordOf : MethodName := ⟨RX1, "wordOf", "(I)I"⟩
def RX2 : String := "JumpOrder"
def TX2 : u_T := fun k => match k with
  | _ => ("JumpOrder", "orders", "[LJumpOrder$Order;", true)
def tyX2 : Nat → FieldType := fun k => match k with
  | _ => .array (.object "JumpOrder$Order")
abbrev wsX20 : List Cond := u_ws RX2 TX2 1
theorem nmX2 : ∀ a, a < 1 → ∀ b, b < 1 → a ≠ b → (TX2 a).2.1 ≠ (TX2 b).2.1 := by decide +kernel
theorem tyX2_ok : ∀ k, k < 1 → parseFieldDescriptor (TX2 k).2.2.1 = some (tyX2 k) := by decide +kernel
abbrev cX2_init : ByteArray := prog_1_method_1_code
def yX2_init : MethodName := ⟨RX2, "<init>", "()V"⟩
abbrev cX2_set : ByteArray := prog_1_method_2_code
def yX2_set : MethodName := ⟨RX2, "set", "(IIJ)I"⟩
abbrev cX2_remove : ByteArray := prog_1_method_3_code
def yX2_remove : MethodName := ⟨RX2, "remove", "(II)I"⟩
abbrev cX2_clear : ByteArray := prog_1_method_4_code
def yX2_clear : MethodName := ⟨RX2, "clear", "(I)I"⟩
abbrev cX2_score : ByteArray := prog_1_method_5_code
def yX2_score : MethodName := ⟨RX2, "score", "(II)J"⟩
abbrev cX2_rank : ByteArray := prog_1_method_6_code
def yX2_rank : MethodName := ⟨RX2, "rank", "(II)I"⟩
abbrev cX2_at : ByteArray := prog_1_method_7_code
def yX2_at : MethodName := ⟨RX2, "at", "(II)I"⟩
abbrev cX2_below : ByteArray := prog_1_method_8_code
def yX2_below : MethodName := ⟨RX2, "below", "(IJZ)I"⟩
abbrev cX2_size : ByteArray := prog_1_method_9_code
def yX2_size : MethodName := ⟨RX2, "size", "(I)I"⟩
abbrev cX2_walk : ByteArray := prog_1_method_10_code
def yX2_walk : MethodName := ⟨RX2, "walk", "(III)I"⟩
abbrev cX2_orderOf : ByteArray := prog_1_method_11_code
def yX2_orderOf : MethodName := ⟨RX2, "orderOf", "(I)LJumpOrder$Order;"⟩
abbrev cX2_isMember : ByteArray := prog_1_method_12_code
def yX2_isMember : MethodName := ⟨RX2, "isMember", "(I)Z"⟩
def RX3 : String := "JumpOrderModel"
def TX3 : u_T := fun k => match k with
  | 0 => ("JumpOrderModel", "row", "[S", true)
  | 1 => ("JumpOrderModel", "scores", "[J", true)
  | 2 => ("JumpOrderModel", "there", "[Z", true)
  | _ => ("JumpOrderModel", "size", "[I", true)
def tyX3 : Nat → FieldType := fun k => match k with
  | 0 => .array .short
  | 1 => .array .long
  | 2 => .array .boolean
  | _ => .array .int
abbrev wsX30 : List Cond := u_ws RX3 TX3 4
theorem nmX3 : ∀ a, a < 4 → ∀ b, b < 4 → a ≠ b → (TX3 a).2.1 ≠ (TX3 b).2.1 := by decide +kernel
theorem tyX3_ok : ∀ k, k < 4 → parseFieldDescriptor (TX3 k).2.2.1 = some (tyX3 k) := by decide +kernel
abbrev cX3_init : ByteArray := prog_5_method_1_code
def yX3_init : MethodName := ⟨RX3, "<init>", "()V"⟩
abbrev cX3_isOrder : ByteArray := prog_5_method_2_code
def yX3_isOrder : MethodName := ⟨RX3, "isOrder", "(I)Z"⟩
abbrev cX3_isGood : ByteArray := prog_5_method_3_code
def yX3_isGood : MethodName := ⟨RX3, "isGood", "(II)Z"⟩
abbrev cX3_word : ByteArray := prog_5_method_4_code
def yX3_word : MethodName := ⟨RX3, "word", "(I)I"⟩
abbrev cX3_isAhead : ByteArray := prog_5_method_5_code
def yX3_isAhead : MethodName := ⟨RX3, "isAhead", "(IIJI)Z"⟩
abbrev cX3_place : ByteArray := prog_5_method_6_code
def yX3_place : MethodName := ⟨RX3, "place", "(IJI)I"⟩
abbrev cX3_leave : ByteArray := prog_5_method_7_code
def yX3_leave : MethodName := ⟨RX3, "leave", "(II)V"⟩
abbrev cX3_set : ByteArray := prog_5_method_8_code
def yX3_set : MethodName := ⟨RX3, "set", "(IIJ)I"⟩
abbrev cX3_remove : ByteArray := prog_5_method_9_code
def yX3_remove : MethodName := ⟨RX3, "remove", "(II)I"⟩
def RL : String := "JumpOrderLaw"
abbrev cL_law : ByteArray := code
def yL_law : MethodName := ⟨RL, "law", "([I)Z"⟩
theorem dX0_init_0 : decode cX0_init 0 = .ok (.aload_n 0, 1) := by decide +kernel
theorem dX0_init_1 : decode cX0_init 1 = .ok (.invokespecial 3, 3) := by decide +kernel
theorem dX0_init_4 : decode cX0_init 4 = .ok (.aload_n 0, 1) := by decide +kernel
theorem dX0_init_5 : decode cX0_init 5 = .ok (.new 9, 3) := by decide +kernel
theorem dX0_init_8 : decode cX0_init 8 = .ok (.dup, 1) := by decide +kernel
theorem dX0_init_9 : decode cX0_init 9 = .ok (.iconst (-1), 1) := by decide +kernel
theorem dX0_init_10 : decode cX0_init 10 = .ok (.iconst 4, 1) := by decide +kernel
theorem dX0_init_11 : decode cX0_init 11 = .ok (.invokespecial 11, 3) := by decide +kernel
theorem dX0_init_14 : decode cX0_init 14 = .ok (.putfield 14, 3) := by decide +kernel
theorem dX0_init_17 : decode cX0_init 17 = .ok (.aload_n 0, 1) := by decide +kernel
theorem dX0_init_18 : decode cX0_init 18 = .ok (.sipush 1000, 3) := by decide +kernel
theorem dX0_init_21 : decode cX0_init 21 = .ok (.anewarray 9, 3) := by decide +kernel
theorem dX0_init_24 : decode cX0_init 24 = .ok (.putfield 20, 3) := by decide +kernel
theorem dX0_init_27 : decode cX0_init 27 = .ok (.aload_n 0, 1) := by decide +kernel
theorem dX0_init_28 : decode cX0_init 28 = .ok (.aload_n 0, 1) := by decide +kernel
theorem dX0_init_29 : decode cX0_init 29 = .ok (.getfield 14, 3) := by decide +kernel
theorem dX0_init_32 : decode cX0_init 32 = .ok (.putfield 24, 3) := by decide +kernel
theorem dX0_init_35 : decode cX0_init 35 = .ok (.aload_n 0, 1) := by decide +kernel
theorem dX0_init_36 : decode cX0_init 36 = .ok (.getfield 14, 3) := by decide +kernel
theorem dX0_init_39 : decode cX0_init 39 = .ok (.invokestatic 27, 3) := by decide +kernel
theorem dX0_init_42 : decode cX0_init 42 = .ok (.return_, 1) := by decide +kernel
theorem dX0_placeOf_0 : decode cX0_placeOf 0 = .ok (.iload_n 1, 1) := by decide +kernel
theorem dX0_placeOf_1 : decode cX0_placeOf 1 = .ok (.invokestatic 31, 3) := by decide +kernel
theorem dX0_placeOf_4 : decode cX0_placeOf 4 = .ok (.ifCond .eq 12, 3) := by decide +kernel
theorem dX0_placeOf_7 : decode cX0_placeOf 7 = .ok (.aload_n 0, 1) := by decide +kernel
theorem dX0_placeOf_8 : decode cX0_placeOf 8 = .ok (.getfield 20, 3) := by decide +kernel
theorem dX0_placeOf_11 : decode cX0_placeOf 11 = .ok (.iload_n 1, 1) := by decide +kernel
theorem dX0_placeOf_12 : decode cX0_placeOf 12 = .ok (.aaload, 1) := by decide +kernel
theorem dX0_placeOf_13 : decode cX0_placeOf 13 = .ok (.goto 4, 3) := by decide +kernel
theorem dX0_placeOf_16 : decode cX0_placeOf 16 = .ok (.aconst_null, 1) := by decide +kernel
theorem dX0_placeOf_17 : decode cX0_placeOf 17 = .ok (.astore_n 2, 1) := by decide +kernel
theorem dX0_placeOf_18 : decode cX0_placeOf 18 = .ok (.aload_n 2, 1) := by decide +kernel
theorem dX0_placeOf_19 : decode cX0_placeOf 19 = .ok (.ifnull 14, 3) := by decide +kernel
theorem dX0_placeOf_22 : decode cX0_placeOf 22 = .ok (.aload_n 2, 1) := by decide +kernel
theorem dX0_placeOf_23 : decode cX0_placeOf 23 = .ok (.getfield 35, 3) := by decide +kernel
theorem dX0_placeOf_26 : decode cX0_placeOf 26 = .ok (.ifCond .eq 7, 3) := by decide +kernel
theorem dX0_placeOf_29 : decode cX0_placeOf 29 = .ok (.aload_n 2, 1) := by decide +kernel
theorem dX0_placeOf_30 : decode cX0_placeOf 30 = .ok (.goto 4, 3) := by decide +kernel
theorem dX0_placeOf_33 : decode cX0_placeOf 33 = .ok (.aconst_null, 1) := by decide +kernel
theorem dX0_placeOf_34 : decode cX0_placeOf 34 = .ok (.areturn, 1) := by decide +kernel
theorem dX0_placeOfRank_0 : decode cX0_placeOfRank 0 = .ok (.iload_n 1, 1) := by decide +kernel
theorem dX0_placeOfRank_1 : decode cX0_placeOfRank 1 = .ok (.ifCond .lt 11, 3) := by decide +kernel
theorem dX0_placeOfRank_4 : decode cX0_placeOfRank 4 = .ok (.iload_n 1, 1) := by decide +kernel
theorem dX0_placeOfRank_5 : decode cX0_placeOfRank 5 = .ok (.aload_n 0, 1) := by decide +kernel
theorem dX0_placeOfRank_6 : decode cX0_placeOfRank 6 = .ok (.getfield 39, 3) := by decide +kernel
theorem dX0_placeOfRank_9 : decode cX0_placeOfRank 9 = .ok (.if_icmp .lt 5, 3) := by decide +kernel
theorem dX0_placeOfRank_12 : decode cX0_placeOfRank 12 = .ok (.aconst_null, 1) := by decide +kernel
theorem dX0_placeOfRank_13 : decode cX0_placeOfRank 13 = .ok (.areturn, 1) := by decide +kernel
theorem dX0_placeOfRank_14 : decode cX0_placeOfRank 14 = .ok (.aload_n 0, 1) := by decide +kernel
theorem dX0_placeOfRank_15 : decode cX0_placeOfRank 15 = .ok (.invokevirtual 43, 3) := by decide +kernel
theorem dX0_placeOfRank_18 : decode cX0_placeOfRank 18 = .ok (.iconst 3, 1) := by decide +kernel
theorem dX0_placeOfRank_19 : decode cX0_placeOfRank 19 = .ok (.istore_n 2, 1) := by decide +kernel
theorem dX0_placeOfRank_20 : decode cX0_placeOfRank 20 = .ok (.iload_n 2, 1) := by decide +kernel
theorem dX0_placeOfRank_21 : decode cX0_placeOfRank 21 = .ok (.ifCond .lt 17, 3) := by decide +kernel
theorem dX0_placeOfRank_24 : decode cX0_placeOfRank 24 = .ok (.aload_n 0, 1) := by decide +kernel
theorem dX0_placeOfRank_25 : decode cX0_placeOfRank 25 = .ok (.iload_n 2, 1) := by decide +kernel
theorem dX0_placeOfRank_26 : decode cX0_placeOfRank 26 = .ok (.iload_n 1, 1) := by decide +kernel
theorem dX0_placeOfRank_27 : decode cX0_placeOfRank 27 = .ok (.iconst 1, 1) := by decide +kernel
theorem dX0_placeOfRank_28 : decode cX0_placeOfRank 28 = .ok (.iadd, 1) := by decide +kernel
theorem dX0_placeOfRank_29 : decode cX0_placeOfRank 29 = .ok (.invokevirtual 46, 3) := by decide +kernel
theorem dX0_placeOfRank_32 : decode cX0_placeOfRank 32 = .ok (.iinc 2 (-1), 3) := by decide +kernel
theorem dX0_placeOfRank_35 : decode cX0_placeOfRank 35 = .ok (.goto (-15), 3) := by decide +kernel
theorem dX0_placeOfRank_38 : decode cX0_placeOfRank 38 = .ok (.aload_n 0, 1) := by decide +kernel
theorem dX0_placeOfRank_39 : decode cX0_placeOfRank 39 = .ok (.getfield 24, 3) := by decide +kernel
theorem dX0_placeOfRank_42 : decode cX0_placeOfRank 42 = .ok (.getfield 49, 3) := by decide +kernel
theorem dX0_placeOfRank_45 : decode cX0_placeOfRank 45 = .ok (.iconst 0, 1) := by decide +kernel
theorem dX0_placeOfRank_46 : decode cX0_placeOfRank 46 = .ok (.aaload, 1) := by decide +kernel
theorem dX0_placeOfRank_47 : decode cX0_placeOfRank 47 = .ok (.areturn, 1) := by decide +kernel
theorem dX0_countAheadOf_0 : decode cX0_countAheadOf 0 = .ok (.aload_n 0, 1) := by decide +kernel
theorem dX0_countAheadOf_1 : decode cX0_countAheadOf 1 = .ok (.invokevirtual 43, 3) := by decide +kernel
theorem dX0_countAheadOf_4 : decode cX0_countAheadOf 4 = .ok (.iconst 3, 1) := by decide +kernel
theorem dX0_countAheadOf_5 : decode cX0_countAheadOf 5 = .ok (.istore 4, 2) := by decide +kernel
theorem dX0_countAheadOf_7 : decode cX0_countAheadOf 7 = .ok (.iload 4, 2) := by decide +kernel
theorem dX0_countAheadOf_9 : decode cX0_countAheadOf 9 = .ok (.ifCond .lt 74, 3) := by decide +kernel
theorem dX0_countAheadOf_12 : decode cX0_countAheadOf 12 = .ok (.aload_n 0, 1) := by decide +kernel
theorem dX0_countAheadOf_13 : decode cX0_countAheadOf 13 = .ok (.getfield 24, 3) := by decide +kernel
theorem dX0_countAheadOf_16 : decode cX0_countAheadOf 16 = .ok (.getfield 49, 3) := by decide +kernel
theorem dX0_countAheadOf_19 : decode cX0_countAheadOf 19 = .ok (.iload 4, 2) := by decide +kernel
theorem dX0_countAheadOf_21 : decode cX0_countAheadOf 21 = .ok (.aaload, 1) := by decide +kernel
theorem dX0_countAheadOf_22 : decode cX0_countAheadOf 22 = .ok (.astore 5, 2) := by decide +kernel
theorem dX0_countAheadOf_24 : decode cX0_countAheadOf 24 = .ok (.aload 5, 2) := by decide +kernel
theorem dX0_countAheadOf_26 : decode cX0_countAheadOf 26 = .ok (.ifnull 51, 3) := by decide +kernel
theorem dX0_countAheadOf_29 : decode cX0_countAheadOf 29 = .ok (.aload 5, 2) := by decide +kernel
theorem dX0_countAheadOf_31 : decode cX0_countAheadOf 31 = .ok (.lload_n 1, 1) := by decide +kernel
theorem dX0_countAheadOf_32 : decode cX0_countAheadOf 32 = .ok (.iload_n 3, 1) := by decide +kernel
theorem dX0_countAheadOf_33 : decode cX0_countAheadOf 33 = .ok (.invokevirtual 52, 3) := by decide +kernel
theorem dX0_countAheadOf_36 : decode cX0_countAheadOf 36 = .ok (.ifCond .eq 41, 3) := by decide +kernel
theorem dX0_countAheadOf_39 : decode cX0_countAheadOf 39 = .ok (.aload_n 0, 1) := by decide +kernel
theorem dX0_countAheadOf_40 : decode cX0_countAheadOf 40 = .ok (.dup, 1) := by decide +kernel
theorem dX0_countAheadOf_41 : decode cX0_countAheadOf 41 = .ok (.getfield 56, 3) := by decide +kernel
theorem dX0_countAheadOf_44 : decode cX0_countAheadOf 44 = .ok (.aload_n 0, 1) := by decide +kernel
theorem dX0_countAheadOf_45 : decode cX0_countAheadOf 45 = .ok (.getfield 24, 3) := by decide +kernel
theorem dX0_countAheadOf_48 : decode cX0_countAheadOf 48 = .ok (.getfield 59, 3) := by decide +kernel
theorem dX0_countAheadOf_51 : decode cX0_countAheadOf 51 = .ok (.iload 4, 2) := by decide +kernel
theorem dX0_countAheadOf_53 : decode cX0_countAheadOf 53 = .ok (.iaload, 1) := by decide +kernel
theorem dX0_countAheadOf_54 : decode cX0_countAheadOf 54 = .ok (.iadd, 1) := by decide +kernel
theorem dX0_countAheadOf_55 : decode cX0_countAheadOf 55 = .ok (.putfield 56, 3) := by decide +kernel
theorem dX0_countAheadOf_58 : decode cX0_countAheadOf 58 = .ok (.aload_n 0, 1) := by decide +kernel
theorem dX0_countAheadOf_59 : decode cX0_countAheadOf 59 = .ok (.aload 5, 2) := by decide +kernel
theorem dX0_countAheadOf_61 : decode cX0_countAheadOf 61 = .ok (.putfield 24, 3) := by decide +kernel
theorem dX0_countAheadOf_64 : decode cX0_countAheadOf 64 = .ok (.aload 5, 2) := by decide +kernel
theorem dX0_countAheadOf_66 : decode cX0_countAheadOf 66 = .ok (.getfield 49, 3) := by decide +kernel
theorem dX0_countAheadOf_69 : decode cX0_countAheadOf 69 = .ok (.iload 4, 2) := by decide +kernel
theorem dX0_countAheadOf_71 : decode cX0_countAheadOf 71 = .ok (.aaload, 1) := by decide +kernel
theorem dX0_countAheadOf_72 : decode cX0_countAheadOf 72 = .ok (.astore 5, 2) := by decide +kernel
theorem dX0_countAheadOf_74 : decode cX0_countAheadOf 74 = .ok (.goto (-50), 3) := by decide +kernel
theorem dX0_countAheadOf_77 : decode cX0_countAheadOf 77 = .ok (.iinc 4 (-1), 3) := by decide +kernel
theorem dX0_countAheadOf_80 : decode cX0_countAheadOf 80 = .ok (.goto (-73), 3) := by decide +kernel
theorem dX0_countAheadOf_83 : decode cX0_countAheadOf 83 = .ok (.aload_n 0, 1) := by decide +kernel
theorem dX0_countAheadOf_84 : decode cX0_countAheadOf 84 = .ok (.getfield 56, 3) := by decide +kernel
theorem dX0_countAheadOf_87 : decode cX0_countAheadOf 87 = .ok (.ireturn, 1) := by decide +kernel
theorem dX0_enter_0 : decode cX0_enter 0 = .ok (.iload_n 1, 1) := by decide +kernel
theorem dX0_enter_1 : decode cX0_enter 1 = .ok (.invokestatic 31, 3) := by decide +kernel
theorem dX0_enter_4 : decode cX0_enter 4 = .ok (.ifCond .ne 4, 3) := by decide +kernel
theorem dX0_enter_7 : decode cX0_enter 7 = .ok (.return_, 1) := by decide +kernel
theorem dX0_enter_8 : decode cX0_enter 8 = .ok (.aload_n 0, 1) := by decide +kernel
theorem dX0_enter_9 : decode cX0_enter 9 = .ok (.getfield 20, 3) := by decide +kernel
theorem dX0_enter_12 : decode cX0_enter 12 = .ok (.iload_n 1, 1) := by decide +kernel
theorem dX0_enter_13 : decode cX0_enter 13 = .ok (.aaload, 1) := by decide +kernel
theorem dX0_enter_14 : decode cX0_enter 14 = .ok (.astore 4, 2) := by decide +kernel
theorem dX0_enter_16 : decode cX0_enter 16 = .ok (.aload 4, 2) := by decide +kernel
theorem dX0_enter_18 : decode cX0_enter 18 = .ok (.ifnonnull 25, 3) := by decide +kernel
theorem dX0_enter_21 : decode cX0_enter 21 = .ok (.new 9, 3) := by decide +kernel
theorem dX0_enter_24 : decode cX0_enter 24 = .ok (.dup, 1) := by decide +kernel
theorem dX0_enter_25 : decode cX0_enter 25 = .ok (.iload_n 1, 1) := by decide +kernel
theorem dX0_enter_26 : decode cX0_enter 26 = .ok (.iload_n 1, 1) := by decide +kernel
theorem dX0_enter_27 : decode cX0_enter 27 = .ok (.invokestatic 63, 3) := by decide +kernel
theorem dX0_enter_30 : decode cX0_enter 30 = .ok (.invokespecial 11, 3) := by decide +kernel
theorem dX0_enter_33 : decode cX0_enter 33 = .ok (.astore 4, 2) := by decide +kernel
theorem dX0_enter_35 : decode cX0_enter 35 = .ok (.aload_n 0, 1) := by decide +kernel
theorem dX0_enter_36 : decode cX0_enter 36 = .ok (.getfield 20, 3) := by decide +kernel
theorem dX0_enter_39 : decode cX0_enter 39 = .ok (.iload_n 1, 1) := by decide +kernel
theorem dX0_enter_40 : decode cX0_enter 40 = .ok (.aload 4, 2) := by decide +kernel
theorem dX0_enter_42 : decode cX0_enter 42 = .ok (.aastore, 1) := by decide +kernel
theorem dX0_enter_43 : decode cX0_enter 43 = .ok (.aload 4, 2) := by decide +kernel
theorem dX0_enter_45 : decode cX0_enter 45 = .ok (.lload_n 2, 1) := by decide +kernel
theorem dX0_enter_46 : decode cX0_enter 46 = .ok (.putfield 67, 3) := by decide +kernel
theorem dX0_enter_49 : decode cX0_enter 49 = .ok (.aload 4, 2) := by decide +kernel
theorem dX0_enter_51 : decode cX0_enter 51 = .ok (.iconst 1, 1) := by decide +kernel
theorem dX0_enter_52 : decode cX0_enter 52 = .ok (.putfield 35, 3) := by decide +kernel
theorem dX0_enter_55 : decode cX0_enter 55 = .ok (.aload_n 0, 1) := by decide +kernel
theorem dX0_enter_56 : decode cX0_enter 56 = .ok (.aload 4, 2) := by decide +kernel
theorem dX0_enter_58 : decode cX0_enter 58 = .ok (.invokevirtual 71, 3) := by decide +kernel
theorem dX0_enter_61 : decode cX0_enter 61 = .ok (.return_, 1) := by decide +kernel
theorem dX0_move_0 : decode cX0_move 0 = .ok (.aload_n 0, 1) := by decide +kernel
theorem dX0_move_1 : decode cX0_move 1 = .ok (.aload_n 1, 1) := by decide +kernel
theorem dX0_move_2 : decode cX0_move 2 = .ok (.invokevirtual 74, 3) := by decide +kernel
theorem dX0_move_5 : decode cX0_move 5 = .ok (.aload_n 1, 1) := by decide +kernel
theorem dX0_move_6 : decode cX0_move 6 = .ok (.lload_n 2, 1) := by decide +kernel
theorem dX0_move_7 : decode cX0_move 7 = .ok (.putfield 67, 3) := by decide +kernel
theorem dX0_move_10 : decode cX0_move 10 = .ok (.aload_n 0, 1) := by decide +kernel
theorem dX0_move_11 : decode cX0_move 11 = .ok (.aload_n 1, 1) := by decide +kernel
theorem dX0_move_12 : decode cX0_move 12 = .ok (.invokevirtual 71, 3) := by decide +kernel
theorem dX0_move_15 : decode cX0_move 15 = .ok (.return_, 1) := by decide +kernel
theorem dX0_leave_0 : decode cX0_leave 0 = .ok (.aload_n 0, 1) := by decide +kernel
theorem dX0_leave_1 : decode cX0_leave 1 = .ok (.aload_n 1, 1) := by decide +kernel
theorem dX0_leave_2 : decode cX0_leave 2 = .ok (.invokevirtual 74, 3) := by decide +kernel
theorem dX0_leave_5 : decode cX0_leave 5 = .ok (.aload_n 1, 1) := by decide +kernel
theorem dX0_leave_6 : decode cX0_leave 6 = .ok (.iconst 0, 1) := by decide +kernel
theorem dX0_leave_7 : decode cX0_leave 7 = .ok (.putfield 35, 3) := by decide +kernel
theorem dX0_leave_10 : decode cX0_leave 10 = .ok (.return_, 1) := by decide +kernel
theorem dX0_leaveAll_0 : decode cX0_leaveAll 0 = .ok (.aload_n 0, 1) := by decide +kernel
theorem dX0_leaveAll_1 : decode cX0_leaveAll 1 = .ok (.getfield 39, 3) := by decide +kernel
theorem dX0_leaveAll_4 : decode cX0_leaveAll 4 = .ok (.istore_n 1, 1) := by decide +kernel
theorem dX0_leaveAll_5 : decode cX0_leaveAll 5 = .ok (.aload_n 0, 1) := by decide +kernel
theorem dX0_leaveAll_6 : decode cX0_leaveAll 6 = .ok (.getfield 14, 3) := by decide +kernel
theorem dX0_leaveAll_9 : decode cX0_leaveAll 9 = .ok (.getfield 49, 3) := by decide +kernel
theorem dX0_leaveAll_12 : decode cX0_leaveAll 12 = .ok (.iconst 0, 1) := by decide +kernel
theorem dX0_leaveAll_13 : decode cX0_leaveAll 13 = .ok (.aaload, 1) := by decide +kernel
theorem dX0_leaveAll_14 : decode cX0_leaveAll 14 = .ok (.astore_n 2, 1) := by decide +kernel
theorem dX0_leaveAll_15 : decode cX0_leaveAll 15 = .ok (.aload_n 2, 1) := by decide +kernel
theorem dX0_leaveAll_16 : decode cX0_leaveAll 16 = .ok (.ifnull 18, 3) := by decide +kernel
theorem dX0_leaveAll_19 : decode cX0_leaveAll 19 = .ok (.aload_n 2, 1) := by decide +kernel
theorem dX0_leaveAll_20 : decode cX0_leaveAll 20 = .ok (.iconst 0, 1) := by decide +kernel
theorem dX0_leaveAll_21 : decode cX0_leaveAll 21 = .ok (.putfield 35, 3) := by decide +kernel
theorem dX0_leaveAll_24 : decode cX0_leaveAll 24 = .ok (.aload_n 2, 1) := by decide +kernel
theorem dX0_leaveAll_25 : decode cX0_leaveAll 25 = .ok (.getfield 49, 3) := by decide +kernel
theorem dX0_leaveAll_28 : decode cX0_leaveAll 28 = .ok (.iconst 0, 1) := by decide +kernel
theorem dX0_leaveAll_29 : decode cX0_leaveAll 29 = .ok (.aaload, 1) := by decide +kernel
theorem dX0_leaveAll_30 : decode cX0_leaveAll 30 = .ok (.astore_n 2, 1) := by decide +kernel
theorem dX0_leaveAll_31 : decode cX0_leaveAll 31 = .ok (.goto (-16), 3) := by decide +kernel
theorem dX0_leaveAll_34 : decode cX0_leaveAll 34 = .ok (.aload_n 0, 1) := by decide +kernel
theorem dX0_leaveAll_35 : decode cX0_leaveAll 35 = .ok (.getfield 14, 3) := by decide +kernel
theorem dX0_leaveAll_38 : decode cX0_leaveAll 38 = .ok (.invokestatic 27, 3) := by decide +kernel
theorem dX0_leaveAll_41 : decode cX0_leaveAll 41 = .ok (.aload_n 0, 1) := by decide +kernel
theorem dX0_leaveAll_42 : decode cX0_leaveAll 42 = .ok (.iconst 0, 1) := by decide +kernel
theorem dX0_leaveAll_43 : decode cX0_leaveAll 43 = .ok (.putfield 39, 3) := by decide +kernel
theorem dX0_leaveAll_46 : decode cX0_leaveAll 46 = .ok (.iload_n 1, 1) := by decide +kernel
theorem dX0_leaveAll_47 : decode cX0_leaveAll 47 = .ok (.ireturn, 1) := by decide +kernel
theorem dX0_putIn_0 : decode cX0_putIn 0 = .ok (.aload_n 0, 1) := by decide +kernel
theorem dX0_putIn_1 : decode cX0_putIn 1 = .ok (.aload_n 1, 1) := by decide +kernel
theorem dX0_putIn_2 : decode cX0_putIn 2 = .ok (.getfield 67, 3) := by decide +kernel
theorem dX0_putIn_5 : decode cX0_putIn 5 = .ok (.aload_n 1, 1) := by decide +kernel
theorem dX0_putIn_6 : decode cX0_putIn 6 = .ok (.getfield 77, 3) := by decide +kernel
theorem dX0_putIn_9 : decode cX0_putIn 9 = .ok (.invokevirtual 80, 3) := by decide +kernel
theorem dX0_putIn_12 : decode cX0_putIn 12 = .ok (.iconst 1, 1) := by decide +kernel
theorem dX0_putIn_13 : decode cX0_putIn 13 = .ok (.iadd, 1) := by decide +kernel
theorem dX0_putIn_14 : decode cX0_putIn 14 = .ok (.istore_n 2, 1) := by decide +kernel
theorem dX0_putIn_15 : decode cX0_putIn 15 = .ok (.aload_n 0, 1) := by decide +kernel
theorem dX0_putIn_16 : decode cX0_putIn 16 = .ok (.invokevirtual 43, 3) := by decide +kernel
theorem dX0_putIn_19 : decode cX0_putIn 19 = .ok (.iconst 3, 1) := by decide +kernel
theorem dX0_putIn_20 : decode cX0_putIn 20 = .ok (.istore_n 3, 1) := by decide +kernel
theorem dX0_putIn_21 : decode cX0_putIn 21 = .ok (.iload_n 3, 1) := by decide +kernel
theorem dX0_putIn_22 : decode cX0_putIn 22 = .ok (.ifCond .lt 103, 3) := by decide +kernel
theorem dX0_putIn_25 : decode cX0_putIn 25 = .ok (.aload_n 0, 1) := by decide +kernel
theorem dX0_putIn_26 : decode cX0_putIn 26 = .ok (.iload_n 3, 1) := by decide +kernel
theorem dX0_putIn_27 : decode cX0_putIn 27 = .ok (.iload_n 2, 1) := by decide +kernel
theorem dX0_putIn_28 : decode cX0_putIn 28 = .ok (.invokevirtual 46, 3) := by decide +kernel
theorem dX0_putIn_31 : decode cX0_putIn 31 = .ok (.iload_n 3, 1) := by decide +kernel
theorem dX0_putIn_32 : decode cX0_putIn 32 = .ok (.aload_n 1, 1) := by decide +kernel
theorem dX0_putIn_33 : decode cX0_putIn 33 = .ok (.getfield 84, 3) := by decide +kernel
theorem dX0_putIn_36 : decode cX0_putIn 36 = .ok (.if_icmp .ge 70, 3) := by decide +kernel
theorem dX0_putIn_39 : decode cX0_putIn 39 = .ok (.aload_n 1, 1) := by decide +kernel
theorem dX0_putIn_40 : decode cX0_putIn 40 = .ok (.getfield 49, 3) := by decide +kernel
theorem dX0_putIn_43 : decode cX0_putIn 43 = .ok (.iload_n 3, 1) := by decide +kernel
theorem dX0_putIn_44 : decode cX0_putIn 44 = .ok (.aload_n 0, 1) := by decide +kernel
theorem dX0_putIn_45 : decode cX0_putIn 45 = .ok (.getfield 24, 3) := by decide +kernel
theorem dX0_putIn_48 : decode cX0_putIn 48 = .ok (.getfield 49, 3) := by decide +kernel
theorem dX0_putIn_51 : decode cX0_putIn 51 = .ok (.iload_n 3, 1) := by decide +kernel
theorem dX0_putIn_52 : decode cX0_putIn 52 = .ok (.aaload, 1) := by decide +kernel
theorem dX0_putIn_53 : decode cX0_putIn 53 = .ok (.aastore, 1) := by decide +kernel
theorem dX0_putIn_54 : decode cX0_putIn 54 = .ok (.aload_n 1, 1) := by decide +kernel
theorem dX0_putIn_55 : decode cX0_putIn 55 = .ok (.getfield 59, 3) := by decide +kernel
theorem dX0_putIn_58 : decode cX0_putIn 58 = .ok (.iload_n 3, 1) := by decide +kernel
theorem dX0_putIn_59 : decode cX0_putIn 59 = .ok (.aload_n 0, 1) := by decide +kernel
theorem dX0_putIn_60 : decode cX0_putIn 60 = .ok (.getfield 56, 3) := by decide +kernel
theorem dX0_putIn_63 : decode cX0_putIn 63 = .ok (.aload_n 0, 1) := by decide +kernel
theorem dX0_putIn_64 : decode cX0_putIn 64 = .ok (.getfield 24, 3) := by decide +kernel
theorem dX0_putIn_67 : decode cX0_putIn 67 = .ok (.getfield 59, 3) := by decide +kernel
theorem dX0_putIn_70 : decode cX0_putIn 70 = .ok (.iload_n 3, 1) := by decide +kernel
theorem dX0_putIn_71 : decode cX0_putIn 71 = .ok (.iaload, 1) := by decide +kernel
theorem dX0_putIn_72 : decode cX0_putIn 72 = .ok (.iadd, 1) := by decide +kernel
theorem dX0_putIn_73 : decode cX0_putIn 73 = .ok (.iconst 1, 1) := by decide +kernel
theorem dX0_putIn_74 : decode cX0_putIn 74 = .ok (.iadd, 1) := by decide +kernel
theorem dX0_putIn_75 : decode cX0_putIn 75 = .ok (.iload_n 2, 1) := by decide +kernel
theorem dX0_putIn_76 : decode cX0_putIn 76 = .ok (.isub, 1) := by decide +kernel
theorem dX0_putIn_77 : decode cX0_putIn 77 = .ok (.iastore, 1) := by decide +kernel
theorem dX0_putIn_78 : decode cX0_putIn 78 = .ok (.aload_n 0, 1) := by decide +kernel
theorem dX0_putIn_79 : decode cX0_putIn 79 = .ok (.getfield 24, 3) := by decide +kernel
theorem dX0_putIn_82 : decode cX0_putIn 82 = .ok (.getfield 49, 3) := by decide +kernel
theorem dX0_putIn_85 : decode cX0_putIn 85 = .ok (.iload_n 3, 1) := by decide +kernel
theorem dX0_putIn_86 : decode cX0_putIn 86 = .ok (.aload_n 1, 1) := by decide +kernel
theorem dX0_putIn_87 : decode cX0_putIn 87 = .ok (.aastore, 1) := by decide +kernel
theorem dX0_putIn_88 : decode cX0_putIn 88 = .ok (.aload_n 0, 1) := by decide +kernel
theorem dX0_putIn_89 : decode cX0_putIn 89 = .ok (.getfield 24, 3) := by decide +kernel
theorem dX0_putIn_92 : decode cX0_putIn 92 = .ok (.getfield 59, 3) := by decide +kernel
theorem dX0_putIn_95 : decode cX0_putIn 95 = .ok (.iload_n 3, 1) := by decide +kernel
theorem dX0_putIn_96 : decode cX0_putIn 96 = .ok (.iload_n 2, 1) := by decide +kernel
theorem dX0_putIn_97 : decode cX0_putIn 97 = .ok (.aload_n 0, 1) := by decide +kernel
theorem dX0_putIn_98 : decode cX0_putIn 98 = .ok (.getfield 56, 3) := by decide +kernel
theorem dX0_putIn_101 : decode cX0_putIn 101 = .ok (.isub, 1) := by decide +kernel
theorem dX0_putIn_102 : decode cX0_putIn 102 = .ok (.iastore, 1) := by decide +kernel
theorem dX0_putIn_103 : decode cX0_putIn 103 = .ok (.goto 16, 3) := by decide +kernel
theorem dX0_putIn_106 : decode cX0_putIn 106 = .ok (.aload_n 0, 1) := by decide +kernel
theorem dX0_putIn_107 : decode cX0_putIn 107 = .ok (.getfield 24, 3) := by decide +kernel
theorem dX0_putIn_110 : decode cX0_putIn 110 = .ok (.getfield 59, 3) := by decide +kernel
theorem dX0_putIn_113 : decode cX0_putIn 113 = .ok (.iload_n 3, 1) := by decide +kernel
theorem dX0_putIn_114 : decode cX0_putIn 114 = .ok (.dup2, 1) := by decide +kernel
theorem dX0_putIn_115 : decode cX0_putIn 115 = .ok (.iaload, 1) := by decide +kernel
theorem dX0_putIn_116 : decode cX0_putIn 116 = .ok (.iconst 1, 1) := by decide +kernel
theorem dX0_putIn_117 : decode cX0_putIn 117 = .ok (.iadd, 1) := by decide +kernel
theorem dX0_putIn_118 : decode cX0_putIn 118 = .ok (.iastore, 1) := by decide +kernel
theorem dX0_putIn_119 : decode cX0_putIn 119 = .ok (.iinc 3 (-1), 3) := by decide +kernel
theorem dX0_putIn_122 : decode cX0_putIn 122 = .ok (.goto (-101), 3) := by decide +kernel
theorem dX0_putIn_125 : decode cX0_putIn 125 = .ok (.aload_n 0, 1) := by decide +kernel
theorem dX0_putIn_126 : decode cX0_putIn 126 = .ok (.dup, 1) := by decide +kernel
theorem dX0_putIn_127 : decode cX0_putIn 127 = .ok (.getfield 39, 3) := by decide +kernel
theorem dX0_putIn_130 : decode cX0_putIn 130 = .ok (.iconst 1, 1) := by decide +kernel
theorem dX0_putIn_131 : decode cX0_putIn 131 = .ok (.iadd, 1) := by decide +kernel
theorem dX0_putIn_132 : decode cX0_putIn 132 = .ok (.putfield 39, 3) := by decide +kernel
theorem dX0_putIn_135 : decode cX0_putIn 135 = .ok (.return_, 1) := by decide +kernel
theorem dX0_takeOut_0 : decode cX0_takeOut 0 = .ok (.aload_n 0, 1) := by decide +kernel
theorem dX0_takeOut_1 : decode cX0_takeOut 1 = .ok (.aload_n 1, 1) := by decide +kernel
theorem dX0_takeOut_2 : decode cX0_takeOut 2 = .ok (.getfield 67, 3) := by decide +kernel
theorem dX0_takeOut_5 : decode cX0_takeOut 5 = .ok (.aload_n 1, 1) := by decide +kernel
theorem dX0_takeOut_6 : decode cX0_takeOut 6 = .ok (.getfield 77, 3) := by decide +kernel
theorem dX0_takeOut_9 : decode cX0_takeOut 9 = .ok (.invokevirtual 80, 3) := by decide +kernel
theorem dX0_takeOut_12 : decode cX0_takeOut 12 = .ok (.iconst 1, 1) := by decide +kernel
theorem dX0_takeOut_13 : decode cX0_takeOut 13 = .ok (.iadd, 1) := by decide +kernel
theorem dX0_takeOut_14 : decode cX0_takeOut 14 = .ok (.istore_n 2, 1) := by decide +kernel
theorem dX0_takeOut_15 : decode cX0_takeOut 15 = .ok (.aload_n 0, 1) := by decide +kernel
theorem dX0_takeOut_16 : decode cX0_takeOut 16 = .ok (.invokevirtual 43, 3) := by decide +kernel
theorem dX0_takeOut_19 : decode cX0_takeOut 19 = .ok (.iconst 3, 1) := by decide +kernel
theorem dX0_takeOut_20 : decode cX0_takeOut 20 = .ok (.istore_n 3, 1) := by decide +kernel
theorem dX0_takeOut_21 : decode cX0_takeOut 21 = .ok (.iload_n 3, 1) := by decide +kernel
theorem dX0_takeOut_22 : decode cX0_takeOut 22 = .ok (.ifCond .lt 74, 3) := by decide +kernel
theorem dX0_takeOut_25 : decode cX0_takeOut 25 = .ok (.aload_n 0, 1) := by decide +kernel
theorem dX0_takeOut_26 : decode cX0_takeOut 26 = .ok (.iload_n 3, 1) := by decide +kernel
theorem dX0_takeOut_27 : decode cX0_takeOut 27 = .ok (.iload_n 2, 1) := by decide +kernel
theorem dX0_takeOut_28 : decode cX0_takeOut 28 = .ok (.invokevirtual 46, 3) := by decide +kernel
theorem dX0_takeOut_31 : decode cX0_takeOut 31 = .ok (.iload_n 3, 1) := by decide +kernel
theorem dX0_takeOut_32 : decode cX0_takeOut 32 = .ok (.aload_n 1, 1) := by decide +kernel
theorem dX0_takeOut_33 : decode cX0_takeOut 33 = .ok (.getfield 84, 3) := by decide +kernel
theorem dX0_takeOut_36 : decode cX0_takeOut 36 = .ok (.if_icmp .ge 41, 3) := by decide +kernel
theorem dX0_takeOut_39 : decode cX0_takeOut 39 = .ok (.aload_n 0, 1) := by decide +kernel
theorem dX0_takeOut_40 : decode cX0_takeOut 40 = .ok (.getfield 24, 3) := by decide +kernel
theorem dX0_takeOut_43 : decode cX0_takeOut 43 = .ok (.getfield 49, 3) := by decide +kernel
theorem dX0_takeOut_46 : decode cX0_takeOut 46 = .ok (.iload_n 3, 1) := by decide +kernel
theorem dX0_takeOut_47 : decode cX0_takeOut 47 = .ok (.aload_n 1, 1) := by decide +kernel
theorem dX0_takeOut_48 : decode cX0_takeOut 48 = .ok (.getfield 49, 3) := by decide +kernel
theorem dX0_takeOut_51 : decode cX0_takeOut 51 = .ok (.iload_n 3, 1) := by decide +kernel
theorem dX0_takeOut_52 : decode cX0_takeOut 52 = .ok (.aaload, 1) := by decide +kernel
theorem dX0_takeOut_53 : decode cX0_takeOut 53 = .ok (.aastore, 1) := by decide +kernel
theorem dX0_takeOut_54 : decode cX0_takeOut 54 = .ok (.aload_n 0, 1) := by decide +kernel
theorem dX0_takeOut_55 : decode cX0_takeOut 55 = .ok (.getfield 24, 3) := by decide +kernel
theorem dX0_takeOut_58 : decode cX0_takeOut 58 = .ok (.getfield 59, 3) := by decide +kernel
theorem dX0_takeOut_61 : decode cX0_takeOut 61 = .ok (.iload_n 3, 1) := by decide +kernel
theorem dX0_takeOut_62 : decode cX0_takeOut 62 = .ok (.dup2, 1) := by decide +kernel
theorem dX0_takeOut_63 : decode cX0_takeOut 63 = .ok (.iaload, 1) := by decide +kernel
theorem dX0_takeOut_64 : decode cX0_takeOut 64 = .ok (.aload_n 1, 1) := by decide +kernel
theorem dX0_takeOut_65 : decode cX0_takeOut 65 = .ok (.getfield 59, 3) := by decide +kernel
theorem dX0_takeOut_68 : decode cX0_takeOut 68 = .ok (.iload_n 3, 1) := by decide +kernel
theorem dX0_takeOut_69 : decode cX0_takeOut 69 = .ok (.iaload, 1) := by decide +kernel
theorem dX0_takeOut_70 : decode cX0_takeOut 70 = .ok (.iconst 1, 1) := by decide +kernel
theorem dX0_takeOut_71 : decode cX0_takeOut 71 = .ok (.isub, 1) := by decide +kernel
theorem dX0_takeOut_72 : decode cX0_takeOut 72 = .ok (.iadd, 1) := by decide +kernel
theorem dX0_takeOut_73 : decode cX0_takeOut 73 = .ok (.iastore, 1) := by decide +kernel
theorem dX0_takeOut_74 : decode cX0_takeOut 74 = .ok (.goto 16, 3) := by decide +kernel
theorem dX0_takeOut_77 : decode cX0_takeOut 77 = .ok (.aload_n 0, 1) := by decide +kernel
theorem dX0_takeOut_78 : decode cX0_takeOut 78 = .ok (.getfield 24, 3) := by decide +kernel
theorem dX0_takeOut_81 : decode cX0_takeOut 81 = .ok (.getfield 59, 3) := by decide +kernel
theorem dX0_takeOut_84 : decode cX0_takeOut 84 = .ok (.iload_n 3, 1) := by decide +kernel
theorem dX0_takeOut_85 : decode cX0_takeOut 85 = .ok (.dup2, 1) := by decide +kernel
theorem dX0_takeOut_86 : decode cX0_takeOut 86 = .ok (.iaload, 1) := by decide +kernel
theorem dX0_takeOut_87 : decode cX0_takeOut 87 = .ok (.iconst 1, 1) := by decide +kernel
theorem dX0_takeOut_88 : decode cX0_takeOut 88 = .ok (.isub, 1) := by decide +kernel
theorem dX0_takeOut_89 : decode cX0_takeOut 89 = .ok (.iastore, 1) := by decide +kernel
theorem dX0_takeOut_90 : decode cX0_takeOut 90 = .ok (.iinc 3 (-1), 3) := by decide +kernel
theorem dX0_takeOut_93 : decode cX0_takeOut 93 = .ok (.goto (-72), 3) := by decide +kernel
theorem dX0_takeOut_96 : decode cX0_takeOut 96 = .ok (.aload_n 0, 1) := by decide +kernel
theorem dX0_takeOut_97 : decode cX0_takeOut 97 = .ok (.dup, 1) := by decide +kernel
theorem dX0_takeOut_98 : decode cX0_takeOut 98 = .ok (.getfield 39, 3) := by decide +kernel
theorem dX0_takeOut_101 : decode cX0_takeOut 101 = .ok (.iconst 1, 1) := by decide +kernel
theorem dX0_takeOut_102 : decode cX0_takeOut 102 = .ok (.isub, 1) := by decide +kernel
theorem dX0_takeOut_103 : decode cX0_takeOut 103 = .ok (.putfield 39, 3) := by decide +kernel
theorem dX0_takeOut_106 : decode cX0_takeOut 106 = .ok (.return_, 1) := by decide +kernel
theorem dX0_goToHead_0 : decode cX0_goToHead 0 = .ok (.aload_n 0, 1) := by decide +kernel
theorem dX0_goToHead_1 : decode cX0_goToHead 1 = .ok (.aload_n 0, 1) := by decide +kernel
theorem dX0_goToHead_2 : decode cX0_goToHead 2 = .ok (.getfield 14, 3) := by decide +kernel
theorem dX0_goToHead_5 : decode cX0_goToHead 5 = .ok (.putfield 24, 3) := by decide +kernel
theorem dX0_goToHead_8 : decode cX0_goToHead 8 = .ok (.aload_n 0, 1) := by decide +kernel
theorem dX0_goToHead_9 : decode cX0_goToHead 9 = .ok (.iconst 0, 1) := by decide +kernel
theorem dX0_goToHead_10 : decode cX0_goToHead 10 = .ok (.putfield 56, 3) := by decide +kernel
theorem dX0_goToHead_13 : decode cX0_goToHead 13 = .ok (.return_, 1) := by decide +kernel
theorem dX0_goAheadOf_0 : decode cX0_goAheadOf 0 = .ok (.iload_n 1, 1) := by decide +kernel
theorem dX0_goAheadOf_1 : decode cX0_goAheadOf 1 = .ok (.ifCond .lt 8, 3) := by decide +kernel
theorem dX0_goAheadOf_4 : decode cX0_goAheadOf 4 = .ok (.iload_n 1, 1) := by decide +kernel
theorem dX0_goAheadOf_5 : decode cX0_goAheadOf 5 = .ok (.iconst 4, 1) := by decide +kernel
theorem dX0_goAheadOf_6 : decode cX0_goAheadOf 6 = .ok (.if_icmp .lt 4, 3) := by decide +kernel
theorem dX0_goAheadOf_9 : decode cX0_goAheadOf 9 = .ok (.return_, 1) := by decide +kernel
theorem dX0_goAheadOf_10 : decode cX0_goAheadOf 10 = .ok (.aload_n 0, 1) := by decide +kernel
theorem dX0_goAheadOf_11 : decode cX0_goAheadOf 11 = .ok (.getfield 24, 3) := by decide +kernel
theorem dX0_goAheadOf_14 : decode cX0_goAheadOf 14 = .ok (.getfield 49, 3) := by decide +kernel
theorem dX0_goAheadOf_17 : decode cX0_goAheadOf 17 = .ok (.iload_n 1, 1) := by decide +kernel
theorem dX0_goAheadOf_18 : decode cX0_goAheadOf 18 = .ok (.aaload, 1) := by decide +kernel
theorem dX0_goAheadOf_19 : decode cX0_goAheadOf 19 = .ok (.astore_n 3, 1) := by decide +kernel
theorem dX0_goAheadOf_20 : decode cX0_goAheadOf 20 = .ok (.aload_n 3, 1) := by decide +kernel
theorem dX0_goAheadOf_21 : decode cX0_goAheadOf 21 = .ok (.ifnull 54, 3) := by decide +kernel
theorem dX0_goAheadOf_24 : decode cX0_goAheadOf 24 = .ok (.aload_n 0, 1) := by decide +kernel
theorem dX0_goAheadOf_25 : decode cX0_goAheadOf 25 = .ok (.getfield 56, 3) := by decide +kernel
theorem dX0_goAheadOf_28 : decode cX0_goAheadOf 28 = .ok (.aload_n 0, 1) := by decide +kernel
theorem dX0_goAheadOf_29 : decode cX0_goAheadOf 29 = .ok (.getfield 24, 3) := by decide +kernel
theorem dX0_goAheadOf_32 : decode cX0_goAheadOf 32 = .ok (.getfield 59, 3) := by decide +kernel
theorem dX0_goAheadOf_35 : decode cX0_goAheadOf 35 = .ok (.iload_n 1, 1) := by decide +kernel
theorem dX0_goAheadOf_36 : decode cX0_goAheadOf 36 = .ok (.iaload, 1) := by decide +kernel
theorem dX0_goAheadOf_37 : decode cX0_goAheadOf 37 = .ok (.iadd, 1) := by decide +kernel
theorem dX0_goAheadOf_38 : decode cX0_goAheadOf 38 = .ok (.iload_n 2, 1) := by decide +kernel
theorem dX0_goAheadOf_39 : decode cX0_goAheadOf 39 = .ok (.if_icmp .ge 36, 3) := by decide +kernel
theorem dX0_goAheadOf_42 : decode cX0_goAheadOf 42 = .ok (.aload_n 0, 1) := by decide +kernel
theorem dX0_goAheadOf_43 : decode cX0_goAheadOf 43 = .ok (.dup, 1) := by decide +kernel
theorem dX0_goAheadOf_44 : decode cX0_goAheadOf 44 = .ok (.getfield 56, 3) := by decide +kernel
theorem dX0_goAheadOf_47 : decode cX0_goAheadOf 47 = .ok (.aload_n 0, 1) := by decide +kernel
theorem dX0_goAheadOf_48 : decode cX0_goAheadOf 48 = .ok (.getfield 24, 3) := by decide +kernel
theorem dX0_goAheadOf_51 : decode cX0_goAheadOf 51 = .ok (.getfield 59, 3) := by decide +kernel
theorem dX0_goAheadOf_54 : decode cX0_goAheadOf 54 = .ok (.iload_n 1, 1) := by decide +kernel
theorem dX0_goAheadOf_55 : decode cX0_goAheadOf 55 = .ok (.iaload, 1) := by decide +kernel
theorem dX0_goAheadOf_56 : decode cX0_goAheadOf 56 = .ok (.iadd, 1) := by decide +kernel
theorem dX0_goAheadOf_57 : decode cX0_goAheadOf 57 = .ok (.putfield 56, 3) := by decide +kernel
theorem dX0_goAheadOf_60 : decode cX0_goAheadOf 60 = .ok (.aload_n 0, 1) := by decide +kernel
theorem dX0_goAheadOf_61 : decode cX0_goAheadOf 61 = .ok (.aload_n 3, 1) := by decide +kernel
theorem dX0_goAheadOf_62 : decode cX0_goAheadOf 62 = .ok (.putfield 24, 3) := by decide +kernel
theorem dX0_goAheadOf_65 : decode cX0_goAheadOf 65 = .ok (.aload_n 3, 1) := by decide +kernel
theorem dX0_goAheadOf_66 : decode cX0_goAheadOf 66 = .ok (.getfield 49, 3) := by decide +kernel
theorem dX0_goAheadOf_69 : decode cX0_goAheadOf 69 = .ok (.iload_n 1, 1) := by decide +kernel
theorem dX0_goAheadOf_70 : decode cX0_goAheadOf 70 = .ok (.aaload, 1) := by decide +kernel
theorem dX0_goAheadOf_71 : decode cX0_goAheadOf 71 = .ok (.astore_n 3, 1) := by decide +kernel
theorem dX0_goAheadOf_72 : decode cX0_goAheadOf 72 = .ok (.goto (-52), 3) := by decide +kernel
theorem dX0_goAheadOf_75 : decode cX0_goAheadOf 75 = .ok (.return_, 1) := by decide +kernel
theorem dX0_makeBare_0 : decode cX0_makeBare 0 = .ok (.iconst 0, 1) := by decide +kernel
theorem dX0_makeBare_1 : decode cX0_makeBare 1 = .ok (.istore_n 1, 1) := by decide +kernel
theorem dX0_makeBare_2 : decode cX0_makeBare 2 = .ok (.iload_n 1, 1) := by decide +kernel
theorem dX0_makeBare_3 : decode cX0_makeBare 3 = .ok (.iconst 4, 1) := by decide +kernel
theorem dX0_makeBare_4 : decode cX0_makeBare 4 = .ok (.if_icmp .ge 23, 3) := by decide +kernel
theorem dX0_makeBare_7 : decode cX0_makeBare 7 = .ok (.aload_n 0, 1) := by decide +kernel
theorem dX0_makeBare_8 : decode cX0_makeBare 8 = .ok (.getfield 49, 3) := by decide +kernel
theorem dX0_makeBare_11 : decode cX0_makeBare 11 = .ok (.iload_n 1, 1) := by decide +kernel
theorem dX0_makeBare_12 : decode cX0_makeBare 12 = .ok (.aconst_null, 1) := by decide +kernel
theorem dX0_makeBare_13 : decode cX0_makeBare 13 = .ok (.aastore, 1) := by decide +kernel
theorem dX0_makeBare_14 : decode cX0_makeBare 14 = .ok (.aload_n 0, 1) := by decide +kernel
theorem dX0_makeBare_15 : decode cX0_makeBare 15 = .ok (.getfield 59, 3) := by decide +kernel
theorem dX0_makeBare_18 : decode cX0_makeBare 18 = .ok (.iload_n 1, 1) := by decide +kernel
theorem dX0_makeBare_19 : decode cX0_makeBare 19 = .ok (.iconst 1, 1) := by decide +kernel
theorem dX0_makeBare_20 : decode cX0_makeBare 20 = .ok (.iastore, 1) := by decide +kernel
theorem dX0_makeBare_21 : decode cX0_makeBare 21 = .ok (.iinc 1 1, 3) := by decide +kernel
theorem dX0_makeBare_24 : decode cX0_makeBare 24 = .ok (.goto (-22), 3) := by decide +kernel
theorem dX0_makeBare_27 : decode cX0_makeBare 27 = .ok (.return_, 1) := by decide +kernel
theorem dX0_heightOf_0 : decode cX0_heightOf 0 = .ok (.iload_n 0, 1) := by decide +kernel
theorem dX0_heightOf_1 : decode cX0_heightOf 1 = .ok (.ldc 87, 2) := by decide +kernel
theorem dX0_heightOf_3 : decode cX0_heightOf 3 = .ok (.imul, 1) := by decide +kernel
theorem dX0_heightOf_4 : decode cX0_heightOf 4 = .ok (.bipush 16, 2) := by decide +kernel
theorem dX0_heightOf_6 : decode cX0_heightOf 6 = .ok (.iushr, 1) := by decide +kernel
theorem dX0_heightOf_7 : decode cX0_heightOf 7 = .ok (.istore_n 1, 1) := by decide +kernel
theorem dX0_heightOf_8 : decode cX0_heightOf 8 = .ok (.iconst 1, 1) := by decide +kernel
theorem dX0_heightOf_9 : decode cX0_heightOf 9 = .ok (.istore_n 2, 1) := by decide +kernel
theorem dX0_heightOf_10 : decode cX0_heightOf 10 = .ok (.iload_n 2, 1) := by decide +kernel
theorem dX0_heightOf_11 : decode cX0_heightOf 11 = .ok (.iconst 4, 1) := by decide +kernel
theorem dX0_heightOf_12 : decode cX0_heightOf 12 = .ok (.if_icmp .ge 19, 3) := by decide +kernel
theorem dX0_heightOf_15 : decode cX0_heightOf 15 = .ok (.iload_n 1, 1) := by decide +kernel
theorem dX0_heightOf_16 : decode cX0_heightOf 16 = .ok (.iconst 3, 1) := by decide +kernel
theorem dX0_heightOf_17 : decode cX0_heightOf 17 = .ok (.iand, 1) := by decide +kernel
theorem dX0_heightOf_18 : decode cX0_heightOf 18 = .ok (.ifCond .ne 13, 3) := by decide +kernel
theorem dX0_heightOf_21 : decode cX0_heightOf 21 = .ok (.iload_n 1, 1) := by decide +kernel
theorem dX0_heightOf_22 : decode cX0_heightOf 22 = .ok (.iconst 2, 1) := by decide +kernel
theorem dX0_heightOf_23 : decode cX0_heightOf 23 = .ok (.iushr, 1) := by decide +kernel
theorem dX0_heightOf_24 : decode cX0_heightOf 24 = .ok (.istore_n 1, 1) := by decide +kernel
theorem dX0_heightOf_25 : decode cX0_heightOf 25 = .ok (.iinc 2 1, 3) := by decide +kernel
theorem dX0_heightOf_28 : decode cX0_heightOf 28 = .ok (.goto (-18), 3) := by decide +kernel
theorem dX0_heightOf_31 : decode cX0_heightOf 31 = .ok (.iload_n 2, 1) := by decide +kernel
theorem dX0_heightOf_32 : decode cX0_heightOf 32 = .ok (.ireturn, 1) := by decide +kernel
theorem dX1_init_0 : decode cX1_init 0 = .ok (.aload_n 0, 1) := by decide +kernel
theorem dX1_init_1 : decode cX1_init 1 = .ok (.invokespecial 3, 3) := by decide +kernel
theorem dX1_init_4 : decode cX1_init 4 = .ok (.aload_n 0, 1) := by decide +kernel
theorem dX1_init_5 : decode cX1_init 5 = .ok (.iload_n 1, 1) := by decide +kernel
theorem dX1_init_6 : decode cX1_init 6 = .ok (.putfield 9, 3) := by decide +kernel
theorem dX1_init_9 : decode cX1_init 9 = .ok (.aload_n 0, 1) := by decide +kernel
theorem dX1_init_10 : decode cX1_init 10 = .ok (.iload_n 1, 1) := by decide +kernel
theorem dX1_init_11 : decode cX1_init 11 = .ok (.invokestatic 15, 3) := by decide +kernel
theorem dX1_init_14 : decode cX1_init 14 = .ok (.putfield 19, 3) := by decide +kernel
theorem dX1_init_17 : decode cX1_init 17 = .ok (.aload_n 0, 1) := by decide +kernel
theorem dX1_init_18 : decode cX1_init 18 = .ok (.iload_n 2, 1) := by decide +kernel
theorem dX1_init_19 : decode cX1_init 19 = .ok (.putfield 22, 3) := by decide +kernel
theorem dX1_init_22 : decode cX1_init 22 = .ok (.aload_n 0, 1) := by decide +kernel
theorem dX1_init_23 : decode cX1_init 23 = .ok (.iconst 4, 1) := by decide +kernel
theorem dX1_init_24 : decode cX1_init 24 = .ok (.anewarray 10, 3) := by decide +kernel
theorem dX1_init_27 : decode cX1_init 27 = .ok (.putfield 25, 3) := by decide +kernel
theorem dX1_init_30 : decode cX1_init 30 = .ok (.aload_n 0, 1) := by decide +kernel
theorem dX1_init_31 : decode cX1_init 31 = .ok (.iconst 4, 1) := by decide +kernel
theorem dX1_init_32 : decode cX1_init 32 = .ok (.newarray .int, 2) := by decide +kernel
theorem dX1_init_34 : decode cX1_init 34 = .ok (.putfield 29, 3) := by decide +kernel
theorem dX1_init_37 : decode cX1_init 37 = .ok (.return_, 1) := by decide +kernel
theorem dX1_isAheadOf_0 : decode cX1_isAheadOf 0 = .ok (.aload_n 0, 1) := by decide +kernel
theorem dX1_isAheadOf_1 : decode cX1_isAheadOf 1 = .ok (.getfield 33, 3) := by decide +kernel
theorem dX1_isAheadOf_4 : decode cX1_isAheadOf 4 = .ok (.lload_n 1, 1) := by decide +kernel
theorem dX1_isAheadOf_5 : decode cX1_isAheadOf 5 = .ok (.lcmp, 1) := by decide +kernel
theorem dX1_isAheadOf_6 : decode cX1_isAheadOf 6 = .ok (.ifCond .lt 20, 3) := by decide +kernel
theorem dX1_isAheadOf_9 : decode cX1_isAheadOf 9 = .ok (.aload_n 0, 1) := by decide +kernel
theorem dX1_isAheadOf_10 : decode cX1_isAheadOf 10 = .ok (.getfield 33, 3) := by decide +kernel
theorem dX1_isAheadOf_13 : decode cX1_isAheadOf 13 = .ok (.lload_n 1, 1) := by decide +kernel
theorem dX1_isAheadOf_14 : decode cX1_isAheadOf 14 = .ok (.lcmp, 1) := by decide +kernel
theorem dX1_isAheadOf_15 : decode cX1_isAheadOf 15 = .ok (.ifCond .ne 15, 3) := by decide +kernel
theorem dX1_isAheadOf_18 : decode cX1_isAheadOf 18 = .ok (.aload_n 0, 1) := by decide +kernel
theorem dX1_isAheadOf_19 : decode cX1_isAheadOf 19 = .ok (.getfield 19, 3) := by decide +kernel
theorem dX1_isAheadOf_22 : decode cX1_isAheadOf 22 = .ok (.iload_n 3, 1) := by decide +kernel
theorem dX1_isAheadOf_23 : decode cX1_isAheadOf 23 = .ok (.if_icmp .ge 7, 3) := by decide +kernel
theorem dX1_isAheadOf_26 : decode cX1_isAheadOf 26 = .ok (.iconst 1, 1) := by decide +kernel
theorem dX1_isAheadOf_27 : decode cX1_isAheadOf 27 = .ok (.goto 4, 3) := by decide +kernel
theorem dX1_isAheadOf_30 : decode cX1_isAheadOf 30 = .ok (.iconst 0, 1) := by decide +kernel
theorem dX1_isAheadOf_31 : decode cX1_isAheadOf 31 = .ok (.ireturn, 1) := by decide +kernel
theorem dX1_wordOf_0 : decode cX1_wordOf 0 = .ok (.iload_n 0, 1) := by decide +kernel
theorem dX1_wordOf_1 : decode cX1_wordOf 1 = .ok (.bipush 10, 2) := by decide +kernel
theorem dX1_wordOf_3 : decode cX1_wordOf 3 = .ok (.if_icmp .ge 12, 3) := by decide +kernel
theorem dX1_wordOf_6 : decode cX1_wordOf 6 = .ok (.iload_n 0, 1) := by decide +kernel
theorem dX1_wordOf_7 : decode cX1_wordOf 7 = .ok (.bipush 100, 2) := by decide +kernel
theorem dX1_wordOf_9 : decode cX1_wordOf 9 = .ok (.imul, 1) := by decide +kernel
theorem dX1_wordOf_10 : decode cX1_wordOf 10 = .ok (.iconst 4, 1) := by decide +kernel
theorem dX1_wordOf_11 : decode cX1_wordOf 11 = .ok (.imul, 1) := by decide +kernel
theorem dX1_wordOf_12 : decode cX1_wordOf 12 = .ok (.iconst 1, 1) := by decide +kernel
theorem dX1_wordOf_13 : decode cX1_wordOf 13 = .ok (.iadd, 1) := by decide +kernel
theorem dX1_wordOf_14 : decode cX1_wordOf 14 = .ok (.ireturn, 1) := by decide +kernel
theorem dX1_wordOf_15 : decode cX1_wordOf 15 = .ok (.iload_n 0, 1) := by decide +kernel
theorem dX1_wordOf_16 : decode cX1_wordOf 16 = .ok (.bipush 100, 2) := by decide +kernel
theorem dX1_wordOf_18 : decode cX1_wordOf 18 = .ok (.if_icmp .ge 12, 3) := by decide +kernel
theorem dX1_wordOf_21 : decode cX1_wordOf 21 = .ok (.iload_n 0, 1) := by decide +kernel
theorem dX1_wordOf_22 : decode cX1_wordOf 22 = .ok (.bipush 10, 2) := by decide +kernel
theorem dX1_wordOf_24 : decode cX1_wordOf 24 = .ok (.imul, 1) := by decide +kernel
theorem dX1_wordOf_25 : decode cX1_wordOf 25 = .ok (.iconst 4, 1) := by decide +kernel
theorem dX1_wordOf_26 : decode cX1_wordOf 26 = .ok (.imul, 1) := by decide +kernel
theorem dX1_wordOf_27 : decode cX1_wordOf 27 = .ok (.iconst 2, 1) := by decide +kernel
theorem dX1_wordOf_28 : decode cX1_wordOf 28 = .ok (.iadd, 1) := by decide +kernel
theorem dX1_wordOf_29 : decode cX1_wordOf 29 = .ok (.ireturn, 1) := by decide +kernel
theorem dX1_wordOf_30 : decode cX1_wordOf 30 = .ok (.iload_n 0, 1) := by decide +kernel
theorem dX1_wordOf_31 : decode cX1_wordOf 31 = .ok (.iconst 4, 1) := by decide +kernel
theorem dX1_wordOf_32 : decode cX1_wordOf 32 = .ok (.imul, 1) := by decide +kernel
theorem dX1_wordOf_33 : decode cX1_wordOf 33 = .ok (.iconst 3, 1) := by decide +kernel
theorem dX1_wordOf_34 : decode cX1_wordOf 34 = .ok (.iadd, 1) := by decide +kernel
theorem dX1_wordOf_35 : decode cX1_wordOf 35 = .ok (.ireturn, 1) := by decide +kernel
theorem dX2_init_0 : decode cX2_init 0 = .ok (.aload_n 0, 1) := by decide +kernel
theorem dX2_init_1 : decode cX2_init 1 = .ok (.invokespecial 3, 3) := by decide +kernel
theorem dX2_init_4 : decode cX2_init 4 = .ok (.aload_n 0, 1) := by decide +kernel
theorem dX2_init_5 : decode cX2_init 5 = .ok (.iconst 4, 1) := by decide +kernel
theorem dX2_init_6 : decode cX2_init 6 = .ok (.anewarray 11, 3) := by decide +kernel
theorem dX2_init_9 : decode cX2_init 9 = .ok (.putfield 13, 3) := by decide +kernel
theorem dX2_init_12 : decode cX2_init 12 = .ok (.iconst 0, 1) := by decide +kernel
theorem dX2_init_13 : decode cX2_init 13 = .ok (.istore_n 1, 1) := by decide +kernel
theorem dX2_init_14 : decode cX2_init 14 = .ok (.iload_n 1, 1) := by decide +kernel
theorem dX2_init_15 : decode cX2_init 15 = .ok (.iconst 4, 1) := by decide +kernel
theorem dX2_init_16 : decode cX2_init 16 = .ok (.if_icmp .ge 22, 3) := by decide +kernel
theorem dX2_init_19 : decode cX2_init 19 = .ok (.aload_n 0, 1) := by decide +kernel
theorem dX2_init_20 : decode cX2_init 20 = .ok (.getfield 13, 3) := by decide +kernel
theorem dX2_init_23 : decode cX2_init 23 = .ok (.iload_n 1, 1) := by decide +kernel
theorem dX2_init_24 : decode cX2_init 24 = .ok (.new 11, 3) := by decide +kernel
theorem dX2_init_27 : decode cX2_init 27 = .ok (.dup, 1) := by decide +kernel
theorem dX2_init_28 : decode cX2_init 28 = .ok (.invokespecial 17, 3) := by decide +kernel
theorem dX2_init_31 : decode cX2_init 31 = .ok (.aastore, 1) := by decide +kernel
theorem dX2_init_32 : decode cX2_init 32 = .ok (.iinc 1 1, 3) := by decide +kernel
theorem dX2_init_35 : decode cX2_init 35 = .ok (.goto (-21), 3) := by decide +kernel
theorem dX2_init_38 : decode cX2_init 38 = .ok (.return_, 1) := by decide +kernel
theorem dX2_set_0 : decode cX2_set 0 = .ok (.aload_n 0, 1) := by decide +kernel
theorem dX2_set_1 : decode cX2_set 1 = .ok (.iload_n 1, 1) := by decide +kernel
theorem dX2_set_2 : decode cX2_set 2 = .ok (.invokevirtual 18, 3) := by decide +kernel
theorem dX2_set_5 : decode cX2_set 5 = .ok (.astore 5, 2) := by decide +kernel
theorem dX2_set_7 : decode cX2_set 7 = .ok (.aload 5, 2) := by decide +kernel
theorem dX2_set_9 : decode cX2_set 9 = .ok (.ifnull 10, 3) := by decide +kernel
theorem dX2_set_12 : decode cX2_set 12 = .ok (.iload_n 2, 1) := by decide +kernel
theorem dX2_set_13 : decode cX2_set 13 = .ok (.invokestatic 22, 3) := by decide +kernel
theorem dX2_set_16 : decode cX2_set 16 = .ok (.ifCond .ne 5, 3) := by decide +kernel
theorem dX2_set_19 : decode cX2_set 19 = .ok (.iconst (-1), 1) := by decide +kernel
theorem dX2_set_20 : decode cX2_set 20 = .ok (.ireturn, 1) := by decide +kernel
theorem dX2_set_21 : decode cX2_set 21 = .ok (.aload 5, 2) := by decide +kernel
theorem dX2_set_23 : decode cX2_set 23 = .ok (.iload_n 2, 1) := by decide +kernel
theorem dX2_set_24 : decode cX2_set 24 = .ok (.invokevirtual 26, 3) := by decide +kernel
theorem dX2_set_27 : decode cX2_set 27 = .ok (.astore 6, 2) := by decide +kernel
theorem dX2_set_29 : decode cX2_set 29 = .ok (.aload 6, 2) := by decide +kernel
theorem dX2_set_31 : decode cX2_set 31 = .ok (.ifnonnull 12, 3) := by decide +kernel
theorem dX2_set_34 : decode cX2_set 34 = .ok (.aload 5, 2) := by decide +kernel
theorem dX2_set_36 : decode cX2_set 36 = .ok (.iload_n 2, 1) := by decide +kernel
theorem dX2_set_37 : decode cX2_set 37 = .ok (.lload_n 3, 1) := by decide +kernel
theorem dX2_set_38 : decode cX2_set 38 = .ok (.invokevirtual 30, 3) := by decide +kernel
theorem dX2_set_41 : decode cX2_set 41 = .ok (.iconst 1, 1) := by decide +kernel
theorem dX2_set_42 : decode cX2_set 42 = .ok (.ireturn, 1) := by decide +kernel
theorem dX2_set_43 : decode cX2_set 43 = .ok (.aload 6, 2) := by decide +kernel
theorem dX2_set_45 : decode cX2_set 45 = .ok (.getfield 34, 3) := by decide +kernel
theorem dX2_set_48 : decode cX2_set 48 = .ok (.lload_n 3, 1) := by decide +kernel
theorem dX2_set_49 : decode cX2_set 49 = .ok (.lcmp, 1) := by decide +kernel
theorem dX2_set_50 : decode cX2_set 50 = .ok (.ifCond .ne 5, 3) := by decide +kernel
theorem dX2_set_53 : decode cX2_set 53 = .ok (.iconst 0, 1) := by decide +kernel
theorem dX2_set_54 : decode cX2_set 54 = .ok (.ireturn, 1) := by decide +kernel
theorem dX2_set_55 : decode cX2_set 55 = .ok (.aload 5, 2) := by decide +kernel
theorem dX2_set_57 : decode cX2_set 57 = .ok (.aload 6, 2) := by decide +kernel
theorem dX2_set_59 : decode cX2_set 59 = .ok (.lload_n 3, 1) := by decide +kernel
theorem dX2_set_60 : decode cX2_set 60 = .ok (.invokevirtual 40, 3) := by decide +kernel
theorem dX2_set_63 : decode cX2_set 63 = .ok (.iconst 2, 1) := by decide +kernel
theorem dX2_set_64 : decode cX2_set 64 = .ok (.ireturn, 1) := by decide +kernel
theorem dX2_remove_0 : decode cX2_remove 0 = .ok (.aload_n 0, 1) := by decide +kernel
theorem dX2_remove_1 : decode cX2_remove 1 = .ok (.iload_n 1, 1) := by decide +kernel
theorem dX2_remove_2 : decode cX2_remove 2 = .ok (.invokevirtual 18, 3) := by decide +kernel
theorem dX2_remove_5 : decode cX2_remove 5 = .ok (.astore_n 3, 1) := by decide +kernel
theorem dX2_remove_6 : decode cX2_remove 6 = .ok (.aload_n 3, 1) := by decide +kernel
theorem dX2_remove_7 : decode cX2_remove 7 = .ok (.ifnull 10, 3) := by decide +kernel
theorem dX2_remove_10 : decode cX2_remove 10 = .ok (.iload_n 2, 1) := by decide +kernel
theorem dX2_remove_11 : decode cX2_remove 11 = .ok (.invokestatic 22, 3) := by decide +kernel
theorem dX2_remove_14 : decode cX2_remove 14 = .ok (.ifCond .ne 5, 3) := by decide +kernel
theorem dX2_remove_17 : decode cX2_remove 17 = .ok (.iconst (-1), 1) := by decide +kernel
theorem dX2_remove_18 : decode cX2_remove 18 = .ok (.ireturn, 1) := by decide +kernel
theorem dX2_remove_19 : decode cX2_remove 19 = .ok (.aload_n 3, 1) := by decide +kernel
theorem dX2_remove_20 : decode cX2_remove 20 = .ok (.iload_n 2, 1) := by decide +kernel
theorem dX2_remove_21 : decode cX2_remove 21 = .ok (.invokevirtual 26, 3) := by decide +kernel
theorem dX2_remove_24 : decode cX2_remove 24 = .ok (.astore 4, 2) := by decide +kernel
theorem dX2_remove_26 : decode cX2_remove 26 = .ok (.aload 4, 2) := by decide +kernel
theorem dX2_remove_28 : decode cX2_remove 28 = .ok (.ifnonnull 5, 3) := by decide +kernel
theorem dX2_remove_31 : decode cX2_remove 31 = .ok (.iconst 0, 1) := by decide +kernel
theorem dX2_remove_32 : decode cX2_remove 32 = .ok (.ireturn, 1) := by decide +kernel
theorem dX2_remove_33 : decode cX2_remove 33 = .ok (.aload_n 3, 1) := by decide +kernel
theorem dX2_remove_34 : decode cX2_remove 34 = .ok (.aload 4, 2) := by decide +kernel
theorem dX2_remove_36 : decode cX2_remove 36 = .ok (.invokevirtual 44, 3) := by decide +kernel
theorem dX2_remove_39 : decode cX2_remove 39 = .ok (.iconst 1, 1) := by decide +kernel
theorem dX2_remove_40 : decode cX2_remove 40 = .ok (.ireturn, 1) := by decide +kernel
theorem dX2_clear_0 : decode cX2_clear 0 = .ok (.aload_n 0, 1) := by decide +kernel
theorem dX2_clear_1 : decode cX2_clear 1 = .ok (.iload_n 1, 1) := by decide +kernel
theorem dX2_clear_2 : decode cX2_clear 2 = .ok (.invokevirtual 18, 3) := by decide +kernel
theorem dX2_clear_5 : decode cX2_clear 5 = .ok (.astore_n 2, 1) := by decide +kernel
theorem dX2_clear_6 : decode cX2_clear 6 = .ok (.aload_n 2, 1) := by decide +kernel
theorem dX2_clear_7 : decode cX2_clear 7 = .ok (.ifnonnull 7, 3) := by decide +kernel
theorem dX2_clear_10 : decode cX2_clear 10 = .ok (.iconst (-1), 1) := by decide +kernel
theorem dX2_clear_11 : decode cX2_clear 11 = .ok (.goto 7, 3) := by decide +kernel
theorem dX2_clear_14 : decode cX2_clear 14 = .ok (.aload_n 2, 1) := by decide +kernel
theorem dX2_clear_15 : decode cX2_clear 15 = .ok (.invokevirtual 48, 3) := by decide +kernel
theorem dX2_clear_18 : decode cX2_clear 18 = .ok (.ireturn, 1) := by decide +kernel
theorem dX2_score_0 : decode cX2_score 0 = .ok (.aload_n 0, 1) := by decide +kernel
theorem dX2_score_1 : decode cX2_score 1 = .ok (.iload_n 1, 1) := by decide +kernel
theorem dX2_score_2 : decode cX2_score 2 = .ok (.invokevirtual 18, 3) := by decide +kernel
theorem dX2_score_5 : decode cX2_score 5 = .ok (.astore_n 3, 1) := by decide +kernel
theorem dX2_score_6 : decode cX2_score 6 = .ok (.aload_n 3, 1) := by decide +kernel
theorem dX2_score_7 : decode cX2_score 7 = .ok (.ifnull 10, 3) := by decide +kernel
theorem dX2_score_10 : decode cX2_score 10 = .ok (.iload_n 2, 1) := by decide +kernel
theorem dX2_score_11 : decode cX2_score 11 = .ok (.invokestatic 22, 3) := by decide +kernel
theorem dX2_score_14 : decode cX2_score 14 = .ok (.ifCond .ne 7, 3) := by decide +kernel
theorem dX2_score_17 : decode cX2_score 17 = .ok (.ldc2_w 52, 3) := by decide +kernel
theorem dX2_score_20 : decode cX2_score 20 = .ok (.lreturn, 1) := by decide +kernel
theorem dX2_score_21 : decode cX2_score 21 = .ok (.aload_n 3, 1) := by decide +kernel
theorem dX2_score_22 : decode cX2_score 22 = .ok (.iload_n 2, 1) := by decide +kernel
theorem dX2_score_23 : decode cX2_score 23 = .ok (.invokevirtual 26, 3) := by decide +kernel
theorem dX2_score_26 : decode cX2_score 26 = .ok (.astore 4, 2) := by decide +kernel
theorem dX2_score_28 : decode cX2_score 28 = .ok (.aload 4, 2) := by decide +kernel
theorem dX2_score_30 : decode cX2_score 30 = .ok (.ifnonnull 7, 3) := by decide +kernel
theorem dX2_score_33 : decode cX2_score 33 = .ok (.lconst 0, 1) := by decide +kernel
theorem dX2_score_34 : decode cX2_score 34 = .ok (.goto 8, 3) := by decide +kernel
theorem dX2_score_37 : decode cX2_score 37 = .ok (.aload 4, 2) := by decide +kernel
theorem dX2_score_39 : decode cX2_score 39 = .ok (.getfield 34, 3) := by decide +kernel
theorem dX2_score_42 : decode cX2_score 42 = .ok (.lreturn, 1) := by decide +kernel
theorem dX2_rank_0 : decode cX2_rank 0 = .ok (.aload_n 0, 1) := by decide +kernel
theorem dX2_rank_1 : decode cX2_rank 1 = .ok (.iload_n 1, 1) := by decide +kernel
theorem dX2_rank_2 : decode cX2_rank 2 = .ok (.invokevirtual 18, 3) := by decide +kernel
theorem dX2_rank_5 : decode cX2_rank 5 = .ok (.astore_n 3, 1) := by decide +kernel
theorem dX2_rank_6 : decode cX2_rank 6 = .ok (.aload_n 3, 1) := by decide +kernel
theorem dX2_rank_7 : decode cX2_rank 7 = .ok (.ifnull 10, 3) := by decide +kernel
theorem dX2_rank_10 : decode cX2_rank 10 = .ok (.iload_n 2, 1) := by decide +kernel
theorem dX2_rank_11 : decode cX2_rank 11 = .ok (.invokestatic 22, 3) := by decide +kernel
theorem dX2_rank_14 : decode cX2_rank 14 = .ok (.ifCond .ne 5, 3) := by decide +kernel
theorem dX2_rank_17 : decode cX2_rank 17 = .ok (.iconst (-1), 1) := by decide +kernel
theorem dX2_rank_18 : decode cX2_rank 18 = .ok (.ireturn, 1) := by decide +kernel
theorem dX2_rank_19 : decode cX2_rank 19 = .ok (.aload_n 3, 1) := by decide +kernel
theorem dX2_rank_20 : decode cX2_rank 20 = .ok (.iload_n 2, 1) := by decide +kernel
theorem dX2_rank_21 : decode cX2_rank 21 = .ok (.invokevirtual 26, 3) := by decide +kernel
theorem dX2_rank_24 : decode cX2_rank 24 = .ok (.astore 4, 2) := by decide +kernel
theorem dX2_rank_26 : decode cX2_rank 26 = .ok (.aload 4, 2) := by decide +kernel
theorem dX2_rank_28 : decode cX2_rank 28 = .ok (.ifnonnull 7, 3) := by decide +kernel
theorem dX2_rank_31 : decode cX2_rank 31 = .ok (.iconst (-1), 1) := by decide +kernel
theorem dX2_rank_32 : decode cX2_rank 32 = .ok (.goto 17, 3) := by decide +kernel
theorem dX2_rank_35 : decode cX2_rank 35 = .ok (.aload_n 3, 1) := by decide +kernel
theorem dX2_rank_36 : decode cX2_rank 36 = .ok (.aload 4, 2) := by decide +kernel
theorem dX2_rank_38 : decode cX2_rank 38 = .ok (.getfield 34, 3) := by decide +kernel
theorem dX2_rank_41 : decode cX2_rank 41 = .ok (.aload 4, 2) := by decide +kernel
theorem dX2_rank_43 : decode cX2_rank 43 = .ok (.getfield 54, 3) := by decide +kernel
theorem dX2_rank_46 : decode cX2_rank 46 = .ok (.invokevirtual 58, 3) := by decide +kernel
theorem dX2_rank_49 : decode cX2_rank 49 = .ok (.ireturn, 1) := by decide +kernel
theorem dX2_at_0 : decode cX2_at 0 = .ok (.aload_n 0, 1) := by decide +kernel
theorem dX2_at_1 : decode cX2_at 1 = .ok (.iload_n 1, 1) := by decide +kernel
theorem dX2_at_2 : decode cX2_at 2 = .ok (.invokevirtual 18, 3) := by decide +kernel
theorem dX2_at_5 : decode cX2_at 5 = .ok (.astore_n 3, 1) := by decide +kernel
theorem dX2_at_6 : decode cX2_at 6 = .ok (.aload_n 3, 1) := by decide +kernel
theorem dX2_at_7 : decode cX2_at 7 = .ok (.ifnonnull 5, 3) := by decide +kernel
theorem dX2_at_10 : decode cX2_at 10 = .ok (.iconst (-1), 1) := by decide +kernel
theorem dX2_at_11 : decode cX2_at 11 = .ok (.ireturn, 1) := by decide +kernel
theorem dX2_at_12 : decode cX2_at 12 = .ok (.aload_n 3, 1) := by decide +kernel
theorem dX2_at_13 : decode cX2_at 13 = .ok (.iload_n 2, 1) := by decide +kernel
theorem dX2_at_14 : decode cX2_at 14 = .ok (.invokevirtual 62, 3) := by decide +kernel
theorem dX2_at_17 : decode cX2_at 17 = .ok (.astore 4, 2) := by decide +kernel
theorem dX2_at_19 : decode cX2_at 19 = .ok (.aload 4, 2) := by decide +kernel
theorem dX2_at_21 : decode cX2_at 21 = .ok (.ifnonnull 7, 3) := by decide +kernel
theorem dX2_at_24 : decode cX2_at 24 = .ok (.iconst (-1), 1) := by decide +kernel
theorem dX2_at_25 : decode cX2_at 25 = .ok (.goto 8, 3) := by decide +kernel
theorem dX2_at_28 : decode cX2_at 28 = .ok (.aload 4, 2) := by decide +kernel
theorem dX2_at_30 : decode cX2_at 30 = .ok (.getfield 65, 3) := by decide +kernel
theorem dX2_at_33 : decode cX2_at 33 = .ok (.ireturn, 1) := by decide +kernel
theorem dX2_below_0 : decode cX2_below 0 = .ok (.aload_n 0, 1) := by decide +kernel
theorem dX2_below_1 : decode cX2_below 1 = .ok (.iload_n 1, 1) := by decide +kernel
theorem dX2_below_2 : decode cX2_below 2 = .ok (.invokevirtual 18, 3) := by decide +kernel
theorem dX2_below_5 : decode cX2_below 5 = .ok (.astore 5, 2) := by decide +kernel
theorem dX2_below_7 : decode cX2_below 7 = .ok (.aload 5, 2) := by decide +kernel
theorem dX2_below_9 : decode cX2_below 9 = .ok (.ifnonnull 5, 3) := by decide +kernel
theorem dX2_below_12 : decode cX2_below 12 = .ok (.iconst (-1), 1) := by decide +kernel
theorem dX2_below_13 : decode cX2_below 13 = .ok (.ireturn, 1) := by decide +kernel
theorem dX2_below_14 : decode cX2_below 14 = .ok (.aload 5, 2) := by decide +kernel
theorem dX2_below_16 : decode cX2_below 16 = .ok (.lload_n 2, 1) := by decide +kernel
theorem dX2_below_17 : decode cX2_below 17 = .ok (.iload 4, 2) := by decide +kernel
theorem dX2_below_19 : decode cX2_below 19 = .ok (.ifCond .eq 8, 3) := by decide +kernel
theorem dX2_below_22 : decode cX2_below 22 = .ok (.ldc 68, 2) := by decide +kernel
theorem dX2_below_24 : decode cX2_below 24 = .ok (.goto 4, 3) := by decide +kernel
theorem dX2_below_27 : decode cX2_below 27 = .ok (.iconst 0, 1) := by decide +kernel
theorem dX2_below_28 : decode cX2_below 28 = .ok (.invokevirtual 58, 3) := by decide +kernel
theorem dX2_below_31 : decode cX2_below 31 = .ok (.ireturn, 1) := by decide +kernel
theorem dX2_size_0 : decode cX2_size 0 = .ok (.aload_n 0, 1) := by decide +kernel
theorem dX2_size_1 : decode cX2_size 1 = .ok (.iload_n 1, 1) := by decide +kernel
theorem dX2_size_2 : decode cX2_size 2 = .ok (.invokevirtual 18, 3) := by decide +kernel
theorem dX2_size_5 : decode cX2_size 5 = .ok (.astore_n 2, 1) := by decide +kernel
theorem dX2_size_6 : decode cX2_size 6 = .ok (.aload_n 2, 1) := by decide +kernel
theorem dX2_size_7 : decode cX2_size 7 = .ok (.ifnonnull 7, 3) := by decide +kernel
theorem dX2_size_10 : decode cX2_size 10 = .ok (.iconst (-1), 1) := by decide +kernel
theorem dX2_size_11 : decode cX2_size 11 = .ok (.goto 7, 3) := by decide +kernel
theorem dX2_size_14 : decode cX2_size 14 = .ok (.aload_n 2, 1) := by decide +kernel
theorem dX2_size_15 : decode cX2_size 15 = .ok (.getfield 69, 3) := by decide +kernel
theorem dX2_size_18 : decode cX2_size 18 = .ok (.ireturn, 1) := by decide +kernel
theorem dX2_walk_0 : decode cX2_walk 0 = .ok (.aload_n 0, 1) := by decide +kernel
theorem dX2_walk_1 : decode cX2_walk 1 = .ok (.iload_n 1, 1) := by decide +kernel
theorem dX2_walk_2 : decode cX2_walk 2 = .ok (.invokevirtual 18, 3) := by decide +kernel
theorem dX2_walk_5 : decode cX2_walk 5 = .ok (.astore 4, 2) := by decide +kernel
theorem dX2_walk_7 : decode cX2_walk 7 = .ok (.aload 4, 2) := by decide +kernel
theorem dX2_walk_9 : decode cX2_walk 9 = .ok (.ifnull 18, 3) := by decide +kernel
theorem dX2_walk_12 : decode cX2_walk 12 = .ok (.iload_n 2, 1) := by decide +kernel
theorem dX2_walk_13 : decode cX2_walk 13 = .ok (.ifCond .lt 14, 3) := by decide +kernel
theorem dX2_walk_16 : decode cX2_walk 16 = .ok (.iload_n 3, 1) := by decide +kernel
theorem dX2_walk_17 : decode cX2_walk 17 = .ok (.ifCond .lt 10, 3) := by decide +kernel
theorem dX2_walk_20 : decode cX2_walk 20 = .ok (.iload_n 3, 1) := by decide +kernel
theorem dX2_walk_21 : decode cX2_walk 21 = .ok (.sipush 1000, 3) := by decide +kernel
theorem dX2_walk_24 : decode cX2_walk 24 = .ok (.if_icmp .le 5, 3) := by decide +kernel
theorem dX2_walk_27 : decode cX2_walk 27 = .ok (.iconst (-1), 1) := by decide +kernel
theorem dX2_walk_28 : decode cX2_walk 28 = .ok (.ireturn, 1) := by decide +kernel
theorem dX2_walk_29 : decode cX2_walk 29 = .ok (.bipush 7, 2) := by decide +kernel
theorem dX2_walk_31 : decode cX2_walk 31 = .ok (.istore 5, 2) := by decide +kernel
theorem dX2_walk_33 : decode cX2_walk 33 = .ok (.aload 4, 2) := by decide +kernel
theorem dX2_walk_35 : decode cX2_walk 35 = .ok (.iload_n 2, 1) := by decide +kernel
theorem dX2_walk_36 : decode cX2_walk 36 = .ok (.invokevirtual 62, 3) := by decide +kernel
theorem dX2_walk_39 : decode cX2_walk 39 = .ok (.astore 6, 2) := by decide +kernel
theorem dX2_walk_41 : decode cX2_walk 41 = .ok (.iconst 0, 1) := by decide +kernel
theorem dX2_walk_42 : decode cX2_walk 42 = .ok (.istore 7, 2) := by decide +kernel
theorem dX2_walk_44 : decode cX2_walk 44 = .ok (.iload 7, 2) := by decide +kernel
theorem dX2_walk_46 : decode cX2_walk 46 = .ok (.iload_n 3, 1) := by decide +kernel
theorem dX2_walk_47 : decode cX2_walk 47 = .ok (.if_icmp .ge 36, 3) := by decide +kernel
theorem dX2_walk_50 : decode cX2_walk 50 = .ok (.aload 6, 2) := by decide +kernel
theorem dX2_walk_52 : decode cX2_walk 52 = .ok (.ifnull 31, 3) := by decide +kernel
theorem dX2_walk_55 : decode cX2_walk 55 = .ok (.bipush 31, 2) := by decide +kernel
theorem dX2_walk_57 : decode cX2_walk 57 = .ok (.iload 5, 2) := by decide +kernel
theorem dX2_walk_59 : decode cX2_walk 59 = .ok (.imul, 1) := by decide +kernel
theorem dX2_walk_60 : decode cX2_walk 60 = .ok (.aload 6, 2) := by decide +kernel
theorem dX2_walk_62 : decode cX2_walk 62 = .ok (.getfield 65, 3) := by decide +kernel
theorem dX2_walk_65 : decode cX2_walk 65 = .ok (.iadd, 1) := by decide +kernel
theorem dX2_walk_66 : decode cX2_walk 66 = .ok (.istore 5, 2) := by decide +kernel
theorem dX2_walk_68 : decode cX2_walk 68 = .ok (.aload 6, 2) := by decide +kernel
theorem dX2_walk_70 : decode cX2_walk 70 = .ok (.getfield 72, 3) := by decide +kernel
theorem dX2_walk_73 : decode cX2_walk 73 = .ok (.iconst 0, 1) := by decide +kernel
theorem dX2_walk_74 : decode cX2_walk 74 = .ok (.aaload, 1) := by decide +kernel
theorem dX2_walk_75 : decode cX2_walk 75 = .ok (.astore 6, 2) := by decide +kernel
theorem dX2_walk_77 : decode cX2_walk 77 = .ok (.iinc 7 1, 3) := by decide +kernel
theorem dX2_walk_80 : decode cX2_walk 80 = .ok (.goto (-36), 3) := by decide +kernel
theorem dX2_walk_83 : decode cX2_walk 83 = .ok (.iload 5, 2) := by decide +kernel
theorem dX2_walk_85 : decode cX2_walk 85 = .ok (.ireturn, 1) := by decide +kernel
theorem dX2_orderOf_0 : decode cX2_orderOf 0 = .ok (.iload_n 1, 1) := by decide +kernel
theorem dX2_orderOf_1 : decode cX2_orderOf 1 = .ok (.ifCond .lt 17, 3) := by decide +kernel
theorem dX2_orderOf_4 : decode cX2_orderOf 4 = .ok (.iload_n 1, 1) := by decide +kernel
theorem dX2_orderOf_5 : decode cX2_orderOf 5 = .ok (.iconst 4, 1) := by decide +kernel
theorem dX2_orderOf_6 : decode cX2_orderOf 6 = .ok (.if_icmp .ge 12, 3) := by decide +kernel
theorem dX2_orderOf_9 : decode cX2_orderOf 9 = .ok (.aload_n 0, 1) := by decide +kernel
theorem dX2_orderOf_10 : decode cX2_orderOf 10 = .ok (.getfield 13, 3) := by decide +kernel
theorem dX2_orderOf_13 : decode cX2_orderOf 13 = .ok (.iload_n 1, 1) := by decide +kernel
theorem dX2_orderOf_14 : decode cX2_orderOf 14 = .ok (.aaload, 1) := by decide +kernel
theorem dX2_orderOf_15 : decode cX2_orderOf 15 = .ok (.goto 4, 3) := by decide +kernel
theorem dX2_orderOf_18 : decode cX2_orderOf 18 = .ok (.aconst_null, 1) := by decide +kernel
theorem dX2_orderOf_19 : decode cX2_orderOf 19 = .ok (.areturn, 1) := by decide +kernel
theorem dX2_isMember_0 : decode cX2_isMember 0 = .ok (.iload_n 0, 1) := by decide +kernel
theorem dX2_isMember_1 : decode cX2_isMember 1 = .ok (.ifCond .lt 14, 3) := by decide +kernel
theorem dX2_isMember_4 : decode cX2_isMember 4 = .ok (.iload_n 0, 1) := by decide +kernel
theorem dX2_isMember_5 : decode cX2_isMember 5 = .ok (.sipush 1000, 3) := by decide +kernel
theorem dX2_isMember_8 : decode cX2_isMember 8 = .ok (.if_icmp .ge 7, 3) := by decide +kernel
theorem dX2_isMember_11 : decode cX2_isMember 11 = .ok (.iconst 1, 1) := by decide +kernel
theorem dX2_isMember_12 : decode cX2_isMember 12 = .ok (.goto 4, 3) := by decide +kernel
theorem dX2_isMember_15 : decode cX2_isMember 15 = .ok (.iconst 0, 1) := by decide +kernel
theorem dX2_isMember_16 : decode cX2_isMember 16 = .ok (.ireturn, 1) := by decide +kernel
theorem dX3_init_0 : decode cX3_init 0 = .ok (.aload_n 0, 1) := by decide +kernel
theorem dX3_init_1 : decode cX3_init 1 = .ok (.invokespecial 1, 3) := by decide +kernel
theorem dX3_init_4 : decode cX3_init 4 = .ok (.aload_n 0, 1) := by decide +kernel
theorem dX3_init_5 : decode cX3_init 5 = .ok (.sipush 4000, 3) := by decide +kernel
theorem dX3_init_8 : decode cX3_init 8 = .ok (.newarray .short, 2) := by decide +kernel
theorem dX3_init_10 : decode cX3_init 10 = .ok (.putfield 7, 3) := by decide +kernel
theorem dX3_init_13 : decode cX3_init 13 = .ok (.aload_n 0, 1) := by decide +kernel
theorem dX3_init_14 : decode cX3_init 14 = .ok (.sipush 4000, 3) := by decide +kernel
theorem dX3_init_17 : decode cX3_init 17 = .ok (.newarray .long, 2) := by decide +kernel
theorem dX3_init_19 : decode cX3_init 19 = .ok (.putfield 13, 3) := by decide +kernel
theorem dX3_init_22 : decode cX3_init 22 = .ok (.aload_n 0, 1) := by decide +kernel
theorem dX3_init_23 : decode cX3_init 23 = .ok (.sipush 4000, 3) := by decide +kernel
theorem dX3_init_26 : decode cX3_init 26 = .ok (.newarray .boolean, 2) := by decide +kernel
theorem dX3_init_28 : decode cX3_init 28 = .ok (.putfield 17, 3) := by decide +kernel
theorem dX3_init_31 : decode cX3_init 31 = .ok (.aload_n 0, 1) := by decide +kernel
theorem dX3_init_32 : decode cX3_init 32 = .ok (.iconst 4, 1) := by decide +kernel
theorem dX3_init_33 : decode cX3_init 33 = .ok (.newarray .int, 2) := by decide +kernel
theorem dX3_init_35 : decode cX3_init 35 = .ok (.putfield 21, 3) := by decide +kernel
theorem dX3_init_38 : decode cX3_init 38 = .ok (.return_, 1) := by decide +kernel
theorem dX3_isOrder_0 : decode cX3_isOrder 0 = .ok (.iload_n 0, 1) := by decide +kernel
theorem dX3_isOrder_1 : decode cX3_isOrder 1 = .ok (.ifCond .lt 12, 3) := by decide +kernel
theorem dX3_isOrder_4 : decode cX3_isOrder 4 = .ok (.iload_n 0, 1) := by decide +kernel
theorem dX3_isOrder_5 : decode cX3_isOrder 5 = .ok (.iconst 4, 1) := by decide +kernel
theorem dX3_isOrder_6 : decode cX3_isOrder 6 = .ok (.if_icmp .ge 7, 3) := by decide +kernel
theorem dX3_isOrder_9 : decode cX3_isOrder 9 = .ok (.iconst 1, 1) := by decide +kernel
theorem dX3_isOrder_10 : decode cX3_isOrder 10 = .ok (.goto 4, 3) := by decide +kernel
theorem dX3_isOrder_13 : decode cX3_isOrder 13 = .ok (.iconst 0, 1) := by decide +kernel
theorem dX3_isOrder_14 : decode cX3_isOrder 14 = .ok (.ireturn, 1) := by decide +kernel
theorem dX3_isGood_0 : decode cX3_isGood 0 = .ok (.iload_n 0, 1) := by decide +kernel
theorem dX3_isGood_1 : decode cX3_isGood 1 = .ok (.invokestatic 25, 3) := by decide +kernel
theorem dX3_isGood_4 : decode cX3_isGood 4 = .ok (.ifCond .eq 18, 3) := by decide +kernel
theorem dX3_isGood_7 : decode cX3_isGood 7 = .ok (.iload_n 1, 1) := by decide +kernel
theorem dX3_isGood_8 : decode cX3_isGood 8 = .ok (.ifCond .lt 14, 3) := by decide +kernel
theorem dX3_isGood_11 : decode cX3_isGood 11 = .ok (.iload_n 1, 1) := by decide +kernel
theorem dX3_isGood_12 : decode cX3_isGood 12 = .ok (.sipush 1000, 3) := by decide +kernel
theorem dX3_isGood_15 : decode cX3_isGood 15 = .ok (.if_icmp .ge 7, 3) := by decide +kernel
theorem dX3_isGood_18 : decode cX3_isGood 18 = .ok (.iconst 1, 1) := by decide +kernel
theorem dX3_isGood_19 : decode cX3_isGood 19 = .ok (.goto 4, 3) := by decide +kernel
theorem dX3_isGood_22 : decode cX3_isGood 22 = .ok (.iconst 0, 1) := by decide +kernel
theorem dX3_isGood_23 : decode cX3_isGood 23 = .ok (.ireturn, 1) := by decide +kernel
theorem dX3_word_0 : decode cX3_word 0 = .ok (.iload_n 0, 1) := by decide +kernel
theorem dX3_word_1 : decode cX3_word 1 = .ok (.bipush 10, 2) := by decide +kernel
theorem dX3_word_3 : decode cX3_word 3 = .ok (.if_icmp .ge 10, 3) := by decide +kernel
theorem dX3_word_6 : decode cX3_word 6 = .ok (.bipush 121, 2) := by decide +kernel
theorem dX3_word_8 : decode cX3_word 8 = .ok (.iload_n 0, 1) := by decide +kernel
theorem dX3_word_9 : decode cX3_word 9 = .ok (.iconst 1, 1) := by decide +kernel
theorem dX3_word_10 : decode cX3_word 10 = .ok (.iadd, 1) := by decide +kernel
theorem dX3_word_11 : decode cX3_word 11 = .ok (.imul, 1) := by decide +kernel
theorem dX3_word_12 : decode cX3_word 12 = .ok (.ireturn, 1) := by decide +kernel
theorem dX3_word_13 : decode cX3_word 13 = .ok (.iload_n 0, 1) := by decide +kernel
theorem dX3_word_14 : decode cX3_word 14 = .ok (.bipush 100, 2) := by decide +kernel
theorem dX3_word_16 : decode cX3_word 16 = .ok (.if_icmp .ge 23, 3) := by decide +kernel
theorem dX3_word_19 : decode cX3_word 19 = .ok (.bipush 121, 2) := by decide +kernel
theorem dX3_word_21 : decode cX3_word 21 = .ok (.iload_n 0, 1) := by decide +kernel
theorem dX3_word_22 : decode cX3_word 22 = .ok (.bipush 10, 2) := by decide +kernel
theorem dX3_word_24 : decode cX3_word 24 = .ok (.idiv, 1) := by decide +kernel
theorem dX3_word_25 : decode cX3_word 25 = .ok (.iconst 1, 1) := by decide +kernel
theorem dX3_word_26 : decode cX3_word 26 = .ok (.iadd, 1) := by decide +kernel
theorem dX3_word_27 : decode cX3_word 27 = .ok (.imul, 1) := by decide +kernel
theorem dX3_word_28 : decode cX3_word 28 = .ok (.bipush 11, 2) := by decide +kernel
theorem dX3_word_30 : decode cX3_word 30 = .ok (.iload_n 0, 1) := by decide +kernel
theorem dX3_word_31 : decode cX3_word 31 = .ok (.bipush 10, 2) := by decide +kernel
theorem dX3_word_33 : decode cX3_word 33 = .ok (.irem, 1) := by decide +kernel
theorem dX3_word_34 : decode cX3_word 34 = .ok (.iconst 1, 1) := by decide +kernel
theorem dX3_word_35 : decode cX3_word 35 = .ok (.iadd, 1) := by decide +kernel
theorem dX3_word_36 : decode cX3_word 36 = .ok (.imul, 1) := by decide +kernel
theorem dX3_word_37 : decode cX3_word 37 = .ok (.iadd, 1) := by decide +kernel
theorem dX3_word_38 : decode cX3_word 38 = .ok (.ireturn, 1) := by decide +kernel
theorem dX3_word_39 : decode cX3_word 39 = .ok (.bipush 121, 2) := by decide +kernel
theorem dX3_word_41 : decode cX3_word 41 = .ok (.iload_n 0, 1) := by decide +kernel
theorem dX3_word_42 : decode cX3_word 42 = .ok (.bipush 100, 2) := by decide +kernel
theorem dX3_word_44 : decode cX3_word 44 = .ok (.idiv, 1) := by decide +kernel
theorem dX3_word_45 : decode cX3_word 45 = .ok (.iconst 1, 1) := by decide +kernel
theorem dX3_word_46 : decode cX3_word 46 = .ok (.iadd, 1) := by decide +kernel
theorem dX3_word_47 : decode cX3_word 47 = .ok (.imul, 1) := by decide +kernel
theorem dX3_word_48 : decode cX3_word 48 = .ok (.bipush 11, 2) := by decide +kernel
theorem dX3_word_50 : decode cX3_word 50 = .ok (.iload_n 0, 1) := by decide +kernel
theorem dX3_word_51 : decode cX3_word 51 = .ok (.bipush 10, 2) := by decide +kernel
theorem dX3_word_53 : decode cX3_word 53 = .ok (.idiv, 1) := by decide +kernel
theorem dX3_word_54 : decode cX3_word 54 = .ok (.bipush 10, 2) := by decide +kernel
theorem dX3_word_56 : decode cX3_word 56 = .ok (.irem, 1) := by decide +kernel
theorem dX3_word_57 : decode cX3_word 57 = .ok (.iconst 1, 1) := by decide +kernel
theorem dX3_word_58 : decode cX3_word 58 = .ok (.iadd, 1) := by decide +kernel
theorem dX3_word_59 : decode cX3_word 59 = .ok (.imul, 1) := by decide +kernel
theorem dX3_word_60 : decode cX3_word 60 = .ok (.iadd, 1) := by decide +kernel
theorem dX3_word_61 : decode cX3_word 61 = .ok (.iload_n 0, 1) := by decide +kernel
theorem dX3_word_62 : decode cX3_word 62 = .ok (.bipush 10, 2) := by decide +kernel
theorem dX3_word_64 : decode cX3_word 64 = .ok (.irem, 1) := by decide +kernel
theorem dX3_word_65 : decode cX3_word 65 = .ok (.iadd, 1) := by decide +kernel
theorem dX3_word_66 : decode cX3_word 66 = .ok (.iconst 1, 1) := by decide +kernel
theorem dX3_word_67 : decode cX3_word 67 = .ok (.iadd, 1) := by decide +kernel
theorem dX3_word_68 : decode cX3_word 68 = .ok (.ireturn, 1) := by decide +kernel
theorem dX3_isAhead_0 : decode cX3_isAhead 0 = .ok (.aload_n 0, 1) := by decide +kernel
theorem dX3_isAhead_1 : decode cX3_isAhead 1 = .ok (.getfield 13, 3) := by decide +kernel
theorem dX3_isAhead_4 : decode cX3_isAhead 4 = .ok (.sipush 1000, 3) := by decide +kernel
theorem dX3_isAhead_7 : decode cX3_isAhead 7 = .ok (.iload_n 1, 1) := by decide +kernel
theorem dX3_isAhead_8 : decode cX3_isAhead 8 = .ok (.imul, 1) := by decide +kernel
theorem dX3_isAhead_9 : decode cX3_isAhead 9 = .ok (.iload_n 2, 1) := by decide +kernel
theorem dX3_isAhead_10 : decode cX3_isAhead 10 = .ok (.iadd, 1) := by decide +kernel
theorem dX3_isAhead_11 : decode cX3_isAhead 11 = .ok (.laload, 1) := by decide +kernel
theorem dX3_isAhead_12 : decode cX3_isAhead 12 = .ok (.lstore 6, 2) := by decide +kernel
theorem dX3_isAhead_14 : decode cX3_isAhead 14 = .ok (.lload 6, 2) := by decide +kernel
theorem dX3_isAhead_16 : decode cX3_isAhead 16 = .ok (.lload_n 3, 1) := by decide +kernel
theorem dX3_isAhead_17 : decode cX3_isAhead 17 = .ok (.lcmp, 1) := by decide +kernel
theorem dX3_isAhead_18 : decode cX3_isAhead 18 = .ok (.ifCond .lt 22, 3) := by decide +kernel
theorem dX3_isAhead_21 : decode cX3_isAhead 21 = .ok (.lload 6, 2) := by decide +kernel
theorem dX3_isAhead_23 : decode cX3_isAhead 23 = .ok (.lload_n 3, 1) := by decide +kernel
theorem dX3_isAhead_24 : decode cX3_isAhead 24 = .ok (.lcmp, 1) := by decide +kernel
theorem dX3_isAhead_25 : decode cX3_isAhead 25 = .ok (.ifCond .ne 19, 3) := by decide +kernel
theorem dX3_isAhead_28 : decode cX3_isAhead 28 = .ok (.iload_n 2, 1) := by decide +kernel
theorem dX3_isAhead_29 : decode cX3_isAhead 29 = .ok (.invokestatic 29, 3) := by decide +kernel
theorem dX3_isAhead_32 : decode cX3_isAhead 32 = .ok (.iload 5, 2) := by decide +kernel
theorem dX3_isAhead_34 : decode cX3_isAhead 34 = .ok (.invokestatic 29, 3) := by decide +kernel
theorem dX3_isAhead_37 : decode cX3_isAhead 37 = .ok (.if_icmp .ge 7, 3) := by decide +kernel
theorem dX3_isAhead_40 : decode cX3_isAhead 40 = .ok (.iconst 1, 1) := by decide +kernel
theorem dX3_isAhead_41 : decode cX3_isAhead 41 = .ok (.goto 4, 3) := by decide +kernel
theorem dX3_isAhead_44 : decode cX3_isAhead 44 = .ok (.iconst 0, 1) := by decide +kernel
theorem dX3_isAhead_45 : decode cX3_isAhead 45 = .ok (.ireturn, 1) := by decide +kernel
theorem dX3_place_0 : decode cX3_place 0 = .ok (.iconst 0, 1) := by decide +kernel
theorem dX3_place_1 : decode cX3_place 1 = .ok (.istore 5, 2) := by decide +kernel
theorem dX3_place_3 : decode cX3_place 3 = .ok (.iload 5, 2) := by decide +kernel
theorem dX3_place_5 : decode cX3_place 5 = .ok (.aload_n 0, 1) := by decide +kernel
theorem dX3_place_6 : decode cX3_place 6 = .ok (.getfield 21, 3) := by decide +kernel
theorem dX3_place_9 : decode cX3_place 9 = .ok (.iload_n 1, 1) := by decide +kernel
theorem dX3_place_10 : decode cX3_place 10 = .ok (.iaload, 1) := by decide +kernel
theorem dX3_place_11 : decode cX3_place 11 = .ok (.if_icmp .ge 33, 3) := by decide +kernel
theorem dX3_place_14 : decode cX3_place 14 = .ok (.aload_n 0, 1) := by decide +kernel
theorem dX3_place_15 : decode cX3_place 15 = .ok (.iload_n 1, 1) := by decide +kernel
theorem dX3_place_16 : decode cX3_place 16 = .ok (.aload_n 0, 1) := by decide +kernel
theorem dX3_place_17 : decode cX3_place 17 = .ok (.getfield 7, 3) := by decide +kernel
theorem dX3_place_20 : decode cX3_place 20 = .ok (.sipush 1000, 3) := by decide +kernel
theorem dX3_place_23 : decode cX3_place 23 = .ok (.iload_n 1, 1) := by decide +kernel
theorem dX3_place_24 : decode cX3_place 24 = .ok (.imul, 1) := by decide +kernel
theorem dX3_place_25 : decode cX3_place 25 = .ok (.iload 5, 2) := by decide +kernel
theorem dX3_place_27 : decode cX3_place 27 = .ok (.iadd, 1) := by decide +kernel
theorem dX3_place_28 : decode cX3_place 28 = .ok (.saload, 1) := by decide +kernel
theorem dX3_place_29 : decode cX3_place 29 = .ok (.lload_n 2, 1) := by decide +kernel
theorem dX3_place_30 : decode cX3_place 30 = .ok (.iload 4, 2) := by decide +kernel
theorem dX3_place_32 : decode cX3_place 32 = .ok (.invokevirtual 33, 3) := by decide +kernel
theorem dX3_place_35 : decode cX3_place 35 = .ok (.ifCond .eq 9, 3) := by decide +kernel
theorem dX3_place_38 : decode cX3_place 38 = .ok (.iinc 5 1, 3) := by decide +kernel
theorem dX3_place_41 : decode cX3_place 41 = .ok (.goto (-38), 3) := by decide +kernel
theorem dX3_place_44 : decode cX3_place 44 = .ok (.iload 5, 2) := by decide +kernel
theorem dX3_place_46 : decode cX3_place 46 = .ok (.ireturn, 1) := by decide +kernel
theorem dX3_leave_0 : decode cX3_leave 0 = .ok (.sipush 1000, 3) := by decide +kernel
theorem dX3_leave_3 : decode cX3_leave 3 = .ok (.iload_n 1, 1) := by decide +kernel
theorem dX3_leave_4 : decode cX3_leave 4 = .ok (.imul, 1) := by decide +kernel
theorem dX3_leave_5 : decode cX3_leave 5 = .ok (.istore_n 3, 1) := by decide +kernel
theorem dX3_leave_6 : decode cX3_leave 6 = .ok (.aload_n 0, 1) := by decide +kernel
theorem dX3_leave_7 : decode cX3_leave 7 = .ok (.getfield 21, 3) := by decide +kernel
theorem dX3_leave_10 : decode cX3_leave 10 = .ok (.iload_n 1, 1) := by decide +kernel
theorem dX3_leave_11 : decode cX3_leave 11 = .ok (.dup2, 1) := by decide +kernel
theorem dX3_leave_12 : decode cX3_leave 12 = .ok (.iaload, 1) := by decide +kernel
theorem dX3_leave_13 : decode cX3_leave 13 = .ok (.iconst 1, 1) := by decide +kernel
theorem dX3_leave_14 : decode cX3_leave 14 = .ok (.isub, 1) := by decide +kernel
theorem dX3_leave_15 : decode cX3_leave 15 = .ok (.iastore, 1) := by decide +kernel
theorem dX3_leave_16 : decode cX3_leave 16 = .ok (.iconst 0, 1) := by decide +kernel
theorem dX3_leave_17 : decode cX3_leave 17 = .ok (.istore 4, 2) := by decide +kernel
theorem dX3_leave_19 : decode cX3_leave 19 = .ok (.aload_n 0, 1) := by decide +kernel
theorem dX3_leave_20 : decode cX3_leave 20 = .ok (.getfield 7, 3) := by decide +kernel
theorem dX3_leave_23 : decode cX3_leave 23 = .ok (.iload_n 3, 1) := by decide +kernel
theorem dX3_leave_24 : decode cX3_leave 24 = .ok (.iload 4, 2) := by decide +kernel
theorem dX3_leave_26 : decode cX3_leave 26 = .ok (.iadd, 1) := by decide +kernel
theorem dX3_leave_27 : decode cX3_leave 27 = .ok (.saload, 1) := by decide +kernel
theorem dX3_leave_28 : decode cX3_leave 28 = .ok (.iload_n 2, 1) := by decide +kernel
theorem dX3_leave_29 : decode cX3_leave 29 = .ok (.if_icmp .eq 9, 3) := by decide +kernel
theorem dX3_leave_32 : decode cX3_leave 32 = .ok (.iinc 4 1, 3) := by decide +kernel
theorem dX3_leave_35 : decode cX3_leave 35 = .ok (.goto (-16), 3) := by decide +kernel
theorem dX3_leave_38 : decode cX3_leave 38 = .ok (.iload 4, 2) := by decide +kernel
theorem dX3_leave_40 : decode cX3_leave 40 = .ok (.istore 5, 2) := by decide +kernel
theorem dX3_leave_42 : decode cX3_leave 42 = .ok (.iload 5, 2) := by decide +kernel
theorem dX3_leave_44 : decode cX3_leave 44 = .ok (.aload_n 0, 1) := by decide +kernel
theorem dX3_leave_45 : decode cX3_leave 45 = .ok (.getfield 21, 3) := by decide +kernel
theorem dX3_leave_48 : decode cX3_leave 48 = .ok (.iload_n 1, 1) := by decide +kernel
theorem dX3_leave_49 : decode cX3_leave 49 = .ok (.iaload, 1) := by decide +kernel
theorem dX3_leave_50 : decode cX3_leave 50 = .ok (.if_icmp .ge 29, 3) := by decide +kernel
theorem dX3_leave_53 : decode cX3_leave 53 = .ok (.aload_n 0, 1) := by decide +kernel
theorem dX3_leave_54 : decode cX3_leave 54 = .ok (.getfield 7, 3) := by decide +kernel
theorem dX3_leave_57 : decode cX3_leave 57 = .ok (.iload_n 3, 1) := by decide +kernel
theorem dX3_leave_58 : decode cX3_leave 58 = .ok (.iload 5, 2) := by decide +kernel
theorem dX3_leave_60 : decode cX3_leave 60 = .ok (.iadd, 1) := by decide +kernel
theorem dX3_leave_61 : decode cX3_leave 61 = .ok (.aload_n 0, 1) := by decide +kernel
theorem dX3_leave_62 : decode cX3_leave 62 = .ok (.getfield 7, 3) := by decide +kernel
theorem dX3_leave_65 : decode cX3_leave 65 = .ok (.iload_n 3, 1) := by decide +kernel
theorem dX3_leave_66 : decode cX3_leave 66 = .ok (.iload 5, 2) := by decide +kernel
theorem dX3_leave_68 : decode cX3_leave 68 = .ok (.iadd, 1) := by decide +kernel
theorem dX3_leave_69 : decode cX3_leave 69 = .ok (.iconst 1, 1) := by decide +kernel
theorem dX3_leave_70 : decode cX3_leave 70 = .ok (.iadd, 1) := by decide +kernel
theorem dX3_leave_71 : decode cX3_leave 71 = .ok (.saload, 1) := by decide +kernel
theorem dX3_leave_72 : decode cX3_leave 72 = .ok (.sastore, 1) := by decide +kernel
theorem dX3_leave_73 : decode cX3_leave 73 = .ok (.iinc 5 1, 3) := by decide +kernel
theorem dX3_leave_76 : decode cX3_leave 76 = .ok (.goto (-34), 3) := by decide +kernel
theorem dX3_leave_79 : decode cX3_leave 79 = .ok (.aload_n 0, 1) := by decide +kernel
theorem dX3_leave_80 : decode cX3_leave 80 = .ok (.getfield 17, 3) := by decide +kernel
theorem dX3_leave_83 : decode cX3_leave 83 = .ok (.iload_n 3, 1) := by decide +kernel
theorem dX3_leave_84 : decode cX3_leave 84 = .ok (.iload_n 2, 1) := by decide +kernel
theorem dX3_leave_85 : decode cX3_leave 85 = .ok (.iadd, 1) := by decide +kernel
theorem dX3_leave_86 : decode cX3_leave 86 = .ok (.iconst 0, 1) := by decide +kernel
theorem dX3_leave_87 : decode cX3_leave 87 = .ok (.bastore, 1) := by decide +kernel
theorem dX3_leave_88 : decode cX3_leave 88 = .ok (.return_, 1) := by decide +kernel
theorem dX3_set_0 : decode cX3_set 0 = .ok (.iload_n 1, 1) := by decide +kernel
theorem dX3_set_1 : decode cX3_set 1 = .ok (.iload_n 2, 1) := by decide +kernel
theorem dX3_set_2 : decode cX3_set 2 = .ok (.invokestatic 37, 3) := by decide +kernel
theorem dX3_set_5 : decode cX3_set 5 = .ok (.ifCond .ne 5, 3) := by decide +kernel
theorem dX3_set_8 : decode cX3_set 8 = .ok (.iconst (-1), 1) := by decide +kernel
theorem dX3_set_9 : decode cX3_set 9 = .ok (.ireturn, 1) := by decide +kernel
theorem dX3_set_10 : decode cX3_set 10 = .ok (.sipush 1000, 3) := by decide +kernel
theorem dX3_set_13 : decode cX3_set 13 = .ok (.iload_n 1, 1) := by decide +kernel
theorem dX3_set_14 : decode cX3_set 14 = .ok (.imul, 1) := by decide +kernel
theorem dX3_set_15 : decode cX3_set 15 = .ok (.istore 5, 2) := by decide +kernel
theorem dX3_set_17 : decode cX3_set 17 = .ok (.aload_n 0, 1) := by decide +kernel
theorem dX3_set_18 : decode cX3_set 18 = .ok (.getfield 17, 3) := by decide +kernel
theorem dX3_set_21 : decode cX3_set 21 = .ok (.iload 5, 2) := by decide +kernel
theorem dX3_set_23 : decode cX3_set 23 = .ok (.iload_n 2, 1) := by decide +kernel
theorem dX3_set_24 : decode cX3_set 24 = .ok (.iadd, 1) := by decide +kernel
theorem dX3_set_25 : decode cX3_set 25 = .ok (.baload, 1) := by decide +kernel
theorem dX3_set_26 : decode cX3_set 26 = .ok (.istore 6, 2) := by decide +kernel
theorem dX3_set_28 : decode cX3_set 28 = .ok (.iload 6, 2) := by decide +kernel
theorem dX3_set_30 : decode cX3_set 30 = .ok (.ifCond .eq 19, 3) := by decide +kernel
theorem dX3_set_33 : decode cX3_set 33 = .ok (.aload_n 0, 1) := by decide +kernel
theorem dX3_set_34 : decode cX3_set 34 = .ok (.getfield 13, 3) := by decide +kernel
theorem dX3_set_37 : decode cX3_set 37 = .ok (.iload 5, 2) := by decide +kernel
theorem dX3_set_39 : decode cX3_set 39 = .ok (.iload_n 2, 1) := by decide +kernel
theorem dX3_set_40 : decode cX3_set 40 = .ok (.iadd, 1) := by decide +kernel
theorem dX3_set_41 : decode cX3_set 41 = .ok (.laload, 1) := by decide +kernel
theorem dX3_set_42 : decode cX3_set 42 = .ok (.lload_n 3, 1) := by decide +kernel
theorem dX3_set_43 : decode cX3_set 43 = .ok (.lcmp, 1) := by decide +kernel
theorem dX3_set_44 : decode cX3_set 44 = .ok (.ifCond .ne 5, 3) := by decide +kernel
theorem dX3_set_47 : decode cX3_set 47 = .ok (.iconst 0, 1) := by decide +kernel
theorem dX3_set_48 : decode cX3_set 48 = .ok (.ireturn, 1) := by decide +kernel
theorem dX3_set_49 : decode cX3_set 49 = .ok (.iload 6, 2) := by decide +kernel
theorem dX3_set_51 : decode cX3_set 51 = .ok (.ifCond .eq 9, 3) := by decide +kernel
theorem dX3_set_54 : decode cX3_set 54 = .ok (.aload_n 0, 1) := by decide +kernel
theorem dX3_set_55 : decode cX3_set 55 = .ok (.iload_n 1, 1) := by decide +kernel
theorem dX3_set_56 : decode cX3_set 56 = .ok (.iload_n 2, 1) := by decide +kernel
theorem dX3_set_57 : decode cX3_set 57 = .ok (.invokevirtual 41, 3) := by decide +kernel
theorem dX3_set_60 : decode cX3_set 60 = .ok (.aload_n 0, 1) := by decide +kernel
theorem dX3_set_61 : decode cX3_set 61 = .ok (.iload_n 1, 1) := by decide +kernel
theorem dX3_set_62 : decode cX3_set 62 = .ok (.lload_n 3, 1) := by decide +kernel
theorem dX3_set_63 : decode cX3_set 63 = .ok (.iload_n 2, 1) := by decide +kernel
theorem dX3_set_64 : decode cX3_set 64 = .ok (.invokevirtual 45, 3) := by decide +kernel
theorem dX3_set_67 : decode cX3_set 67 = .ok (.istore 7, 2) := by decide +kernel
theorem dX3_set_69 : decode cX3_set 69 = .ok (.aload_n 0, 1) := by decide +kernel
theorem dX3_set_70 : decode cX3_set 70 = .ok (.getfield 21, 3) := by decide +kernel
theorem dX3_set_73 : decode cX3_set 73 = .ok (.iload_n 1, 1) := by decide +kernel
theorem dX3_set_74 : decode cX3_set 74 = .ok (.iaload, 1) := by decide +kernel
theorem dX3_set_75 : decode cX3_set 75 = .ok (.istore 8, 2) := by decide +kernel
theorem dX3_set_77 : decode cX3_set 77 = .ok (.iload 8, 2) := by decide +kernel
theorem dX3_set_79 : decode cX3_set 79 = .ok (.iload 7, 2) := by decide +kernel
theorem dX3_set_81 : decode cX3_set 81 = .ok (.if_icmp .le 31, 3) := by decide +kernel
theorem dX3_set_84 : decode cX3_set 84 = .ok (.aload_n 0, 1) := by decide +kernel
theorem dX3_set_85 : decode cX3_set 85 = .ok (.getfield 7, 3) := by decide +kernel
theorem dX3_set_88 : decode cX3_set 88 = .ok (.iload 5, 2) := by decide +kernel
theorem dX3_set_90 : decode cX3_set 90 = .ok (.iload 8, 2) := by decide +kernel
theorem dX3_set_92 : decode cX3_set 92 = .ok (.iadd, 1) := by decide +kernel
theorem dX3_set_93 : decode cX3_set 93 = .ok (.aload_n 0, 1) := by decide +kernel
theorem dX3_set_94 : decode cX3_set 94 = .ok (.getfield 7, 3) := by decide +kernel
theorem dX3_set_97 : decode cX3_set 97 = .ok (.iload 5, 2) := by decide +kernel
theorem dX3_set_99 : decode cX3_set 99 = .ok (.iload 8, 2) := by decide +kernel
theorem dX3_set_101 : decode cX3_set 101 = .ok (.iadd, 1) := by decide +kernel
theorem dX3_set_102 : decode cX3_set 102 = .ok (.iconst 1, 1) := by decide +kernel
theorem dX3_set_103 : decode cX3_set 103 = .ok (.isub, 1) := by decide +kernel
theorem dX3_set_104 : decode cX3_set 104 = .ok (.saload, 1) := by decide +kernel
theorem dX3_set_105 : decode cX3_set 105 = .ok (.sastore, 1) := by decide +kernel
theorem dX3_set_106 : decode cX3_set 106 = .ok (.iinc 8 (-1), 3) := by decide +kernel
theorem dX3_set_109 : decode cX3_set 109 = .ok (.goto (-32), 3) := by decide +kernel
theorem dX3_set_112 : decode cX3_set 112 = .ok (.aload_n 0, 1) := by decide +kernel
theorem dX3_set_113 : decode cX3_set 113 = .ok (.getfield 7, 3) := by decide +kernel
theorem dX3_set_116 : decode cX3_set 116 = .ok (.iload 5, 2) := by decide +kernel
theorem dX3_set_118 : decode cX3_set 118 = .ok (.iload 7, 2) := by decide +kernel
theorem dX3_set_120 : decode cX3_set 120 = .ok (.iadd, 1) := by decide +kernel
theorem dX3_set_121 : decode cX3_set 121 = .ok (.iload_n 2, 1) := by decide +kernel
theorem dX3_set_122 : decode cX3_set 122 = .ok (.i2s, 1) := by decide +kernel
theorem dX3_set_123 : decode cX3_set 123 = .ok (.sastore, 1) := by decide +kernel
theorem dX3_set_124 : decode cX3_set 124 = .ok (.aload_n 0, 1) := by decide +kernel
theorem dX3_set_125 : decode cX3_set 125 = .ok (.getfield 13, 3) := by decide +kernel
theorem dX3_set_128 : decode cX3_set 128 = .ok (.iload 5, 2) := by decide +kernel
theorem dX3_set_130 : decode cX3_set 130 = .ok (.iload_n 2, 1) := by decide +kernel
theorem dX3_set_131 : decode cX3_set 131 = .ok (.iadd, 1) := by decide +kernel
theorem dX3_set_132 : decode cX3_set 132 = .ok (.lload_n 3, 1) := by decide +kernel
theorem dX3_set_133 : decode cX3_set 133 = .ok (.lastore, 1) := by decide +kernel
theorem dX3_set_134 : decode cX3_set 134 = .ok (.aload_n 0, 1) := by decide +kernel
theorem dX3_set_135 : decode cX3_set 135 = .ok (.getfield 17, 3) := by decide +kernel
theorem dX3_set_138 : decode cX3_set 138 = .ok (.iload 5, 2) := by decide +kernel
theorem dX3_set_140 : decode cX3_set 140 = .ok (.iload_n 2, 1) := by decide +kernel
theorem dX3_set_141 : decode cX3_set 141 = .ok (.iadd, 1) := by decide +kernel
theorem dX3_set_142 : decode cX3_set 142 = .ok (.iconst 1, 1) := by decide +kernel
theorem dX3_set_143 : decode cX3_set 143 = .ok (.bastore, 1) := by decide +kernel
theorem dX3_set_144 : decode cX3_set 144 = .ok (.aload_n 0, 1) := by decide +kernel
theorem dX3_set_145 : decode cX3_set 145 = .ok (.getfield 21, 3) := by decide +kernel
theorem dX3_set_148 : decode cX3_set 148 = .ok (.iload_n 1, 1) := by decide +kernel
theorem dX3_set_149 : decode cX3_set 149 = .ok (.dup2, 1) := by decide +kernel
theorem dX3_set_150 : decode cX3_set 150 = .ok (.iaload, 1) := by decide +kernel
theorem dX3_set_151 : decode cX3_set 151 = .ok (.iconst 1, 1) := by decide +kernel
theorem dX3_set_152 : decode cX3_set 152 = .ok (.iadd, 1) := by decide +kernel
theorem dX3_set_153 : decode cX3_set 153 = .ok (.iastore, 1) := by decide +kernel
theorem dX3_set_154 : decode cX3_set 154 = .ok (.iload 6, 2) := by decide +kernel
theorem dX3_set_156 : decode cX3_set 156 = .ok (.ifCond .eq 7, 3) := by decide +kernel
theorem dX3_set_159 : decode cX3_set 159 = .ok (.iconst 2, 1) := by decide +kernel
theorem dX3_set_160 : decode cX3_set 160 = .ok (.goto 4, 3) := by decide +kernel
theorem dX3_set_163 : decode cX3_set 163 = .ok (.iconst 1, 1) := by decide +kernel
theorem dX3_set_164 : decode cX3_set 164 = .ok (.ireturn, 1) := by decide +kernel
theorem dX3_remove_0 : decode cX3_remove 0 = .ok (.iload_n 1, 1) := by decide +kernel
theorem dX3_remove_1 : decode cX3_remove 1 = .ok (.iload_n 2, 1) := by decide +kernel
theorem dX3_remove_2 : decode cX3_remove 2 = .ok (.invokestatic 37, 3) := by decide +kernel
theorem dX3_remove_5 : decode cX3_remove 5 = .ok (.ifCond .ne 5, 3) := by decide +kernel
theorem dX3_remove_8 : decode cX3_remove 8 = .ok (.iconst (-1), 1) := by decide +kernel
theorem dX3_remove_9 : decode cX3_remove 9 = .ok (.ireturn, 1) := by decide +kernel
theorem dX3_remove_10 : decode cX3_remove 10 = .ok (.aload_n 0, 1) := by decide +kernel
theorem dX3_remove_11 : decode cX3_remove 11 = .ok (.getfield 17, 3) := by decide +kernel
theorem dX3_remove_14 : decode cX3_remove 14 = .ok (.sipush 1000, 3) := by decide +kernel
theorem dX3_remove_17 : decode cX3_remove 17 = .ok (.iload_n 1, 1) := by decide +kernel
theorem dX3_remove_18 : decode cX3_remove 18 = .ok (.imul, 1) := by decide +kernel
theorem dX3_remove_19 : decode cX3_remove 19 = .ok (.iload_n 2, 1) := by decide +kernel
theorem dX3_remove_20 : decode cX3_remove 20 = .ok (.iadd, 1) := by decide +kernel
theorem dX3_remove_21 : decode cX3_remove 21 = .ok (.baload, 1) := by decide +kernel
theorem dX3_remove_22 : decode cX3_remove 22 = .ok (.ifCond .ne 5, 3) := by decide +kernel
theorem dX3_remove_25 : decode cX3_remove 25 = .ok (.iconst 0, 1) := by decide +kernel
theorem dX3_remove_26 : decode cX3_remove 26 = .ok (.ireturn, 1) := by decide +kernel
theorem dX3_remove_27 : decode cX3_remove 27 = .ok (.aload_n 0, 1) := by decide +kernel
theorem dX3_remove_28 : decode cX3_remove 28 = .ok (.iload_n 1, 1) := by decide +kernel
theorem dX3_remove_29 : decode cX3_remove 29 = .ok (.iload_n 2, 1) := by decide +kernel
theorem dX3_remove_30 : decode cX3_remove 30 = .ok (.invokevirtual 41, 3) := by decide +kernel
theorem dX3_remove_33 : decode cX3_remove 33 = .ok (.iconst 1, 1) := by decide +kernel
theorem dX3_remove_34 : decode cX3_remove 34 = .ok (.ireturn, 1) := by decide +kernel
theorem dL_law_0 : decode cL_law 0 = .ok (.new 7, 3) := by decide +kernel
theorem dL_law_3 : decode cL_law 3 = .ok (.dup, 1) := by decide +kernel
theorem dL_law_4 : decode cL_law 4 = .ok (.invokespecial 9, 3) := by decide +kernel
theorem dL_law_7 : decode cL_law 7 = .ok (.astore_n 1, 1) := by decide +kernel
theorem dL_law_8 : decode cL_law 8 = .ok (.new 10, 3) := by decide +kernel
theorem dL_law_11 : decode cL_law 11 = .ok (.dup, 1) := by decide +kernel
theorem dL_law_12 : decode cL_law 12 = .ok (.invokespecial 12, 3) := by decide +kernel
theorem dL_law_15 : decode cL_law 15 = .ok (.astore_n 2, 1) := by decide +kernel
theorem dL_law_16 : decode cL_law 16 = .ok (.iconst 0, 1) := by decide +kernel
theorem dL_law_17 : decode cL_law 17 = .ok (.istore_n 3, 1) := by decide +kernel
theorem dL_law_18 : decode cL_law 18 = .ok (.iload_n 3, 1) := by decide +kernel
theorem dL_law_19 : decode cL_law 19 = .ok (.aload_n 0, 1) := by decide +kernel
theorem dL_law_20 : decode cL_law 20 = .ok (.arraylength, 1) := by decide +kernel
theorem dL_law_21 : decode cL_law 21 = .ok (.iconst 5, 1) := by decide +kernel
theorem dL_law_22 : decode cL_law 22 = .ok (.isub, 1) := by decide +kernel
theorem dL_law_23 : decode cL_law 23 = .ok (.if_icmp .gt 451, 3) := by decide +kernel
theorem dL_law_26 : decode cL_law 26 = .ok (.aload_n 0, 1) := by decide +kernel
theorem dL_law_27 : decode cL_law 27 = .ok (.iload_n 3, 1) := by decide +kernel
theorem dL_law_28 : decode cL_law 28 = .ok (.iaload, 1) := by decide +kernel
theorem dL_law_29 : decode cL_law 29 = .ok (.bipush 15, 2) := by decide +kernel
theorem dL_law_31 : decode cL_law 31 = .ok (.iand, 1) := by decide +kernel
theorem dL_law_32 : decode cL_law 32 = .ok (.tableswitch 436 0 8 #[52, 125, 158, 181, 215, 248, 281, 370, 393], 52) := by decide +kernel
theorem dL_law_84 : decode cL_law 84 = .ok (.aload_n 1, 1) := by decide +kernel
theorem dL_law_85 : decode cL_law 85 = .ok (.aload_n 0, 1) := by decide +kernel
theorem dL_law_86 : decode cL_law 86 = .ok (.iload_n 3, 1) := by decide +kernel
theorem dL_law_87 : decode cL_law 87 = .ok (.iconst 1, 1) := by decide +kernel
theorem dL_law_88 : decode cL_law 88 = .ok (.iadd, 1) := by decide +kernel
theorem dL_law_89 : decode cL_law 89 = .ok (.iaload, 1) := by decide +kernel
theorem dL_law_90 : decode cL_law 90 = .ok (.aload_n 0, 1) := by decide +kernel
theorem dL_law_91 : decode cL_law 91 = .ok (.iload_n 3, 1) := by decide +kernel
theorem dL_law_92 : decode cL_law 92 = .ok (.iconst 2, 1) := by decide +kernel
theorem dL_law_93 : decode cL_law 93 = .ok (.iadd, 1) := by decide +kernel
theorem dL_law_94 : decode cL_law 94 = .ok (.iaload, 1) := by decide +kernel
theorem dL_law_95 : decode cL_law 95 = .ok (.aload_n 0, 1) := by decide +kernel
theorem dL_law_96 : decode cL_law 96 = .ok (.iload_n 3, 1) := by decide +kernel
theorem dL_law_97 : decode cL_law 97 = .ok (.iconst 3, 1) := by decide +kernel
theorem dL_law_98 : decode cL_law 98 = .ok (.iadd, 1) := by decide +kernel
theorem dL_law_99 : decode cL_law 99 = .ok (.iaload, 1) := by decide +kernel
theorem dL_law_100 : decode cL_law 100 = .ok (.i2l, 1) := by decide +kernel
theorem dL_law_101 : decode cL_law 101 = .ok (.bipush 32, 2) := by decide +kernel
theorem dL_law_103 : decode cL_law 103 = .ok (.lshl, 1) := by decide +kernel
theorem dL_law_104 : decode cL_law 104 = .ok (.aload_n 0, 1) := by decide +kernel
theorem dL_law_105 : decode cL_law 105 = .ok (.iload_n 3, 1) := by decide +kernel
theorem dL_law_106 : decode cL_law 106 = .ok (.iconst 4, 1) := by decide +kernel
theorem dL_law_107 : decode cL_law 107 = .ok (.iadd, 1) := by decide +kernel
theorem dL_law_108 : decode cL_law 108 = .ok (.iaload, 1) := by decide +kernel
theorem dL_law_109 : decode cL_law 109 = .ok (.i2l, 1) := by decide +kernel
theorem dL_law_110 : decode cL_law 110 = .ok (.ldc2_w 13, 3) := by decide +kernel
theorem dL_law_113 : decode cL_law 113 = .ok (.land, 1) := by decide +kernel
theorem dL_law_114 : decode cL_law 114 = .ok (.lor, 1) := by decide +kernel
theorem dL_law_115 : decode cL_law 115 = .ok (.invokevirtual 15, 3) := by decide +kernel
theorem dL_law_118 : decode cL_law 118 = .ok (.aload_n 2, 1) := by decide +kernel
theorem dL_law_119 : decode cL_law 119 = .ok (.aload_n 0, 1) := by decide +kernel
theorem dL_law_120 : decode cL_law 120 = .ok (.iload_n 3, 1) := by decide +kernel
theorem dL_law_121 : decode cL_law 121 = .ok (.iconst 1, 1) := by decide +kernel
theorem dL_law_122 : decode cL_law 122 = .ok (.iadd, 1) := by decide +kernel
theorem dL_law_123 : decode cL_law 123 = .ok (.iaload, 1) := by decide +kernel
theorem dL_law_124 : decode cL_law 124 = .ok (.aload_n 0, 1) := by decide +kernel
theorem dL_law_125 : decode cL_law 125 = .ok (.iload_n 3, 1) := by decide +kernel
theorem dL_law_126 : decode cL_law 126 = .ok (.iconst 2, 1) := by decide +kernel
theorem dL_law_127 : decode cL_law 127 = .ok (.iadd, 1) := by decide +kernel
theorem dL_law_128 : decode cL_law 128 = .ok (.iaload, 1) := by decide +kernel
theorem dL_law_129 : decode cL_law 129 = .ok (.aload_n 0, 1) := by decide +kernel
theorem dL_law_130 : decode cL_law 130 = .ok (.iload_n 3, 1) := by decide +kernel
theorem dL_law_131 : decode cL_law 131 = .ok (.iconst 3, 1) := by decide +kernel
theorem dL_law_132 : decode cL_law 132 = .ok (.iadd, 1) := by decide +kernel
theorem dL_law_133 : decode cL_law 133 = .ok (.iaload, 1) := by decide +kernel
theorem dL_law_134 : decode cL_law 134 = .ok (.i2l, 1) := by decide +kernel
theorem dL_law_135 : decode cL_law 135 = .ok (.bipush 32, 2) := by decide +kernel
theorem dL_law_137 : decode cL_law 137 = .ok (.lshl, 1) := by decide +kernel
theorem dL_law_138 : decode cL_law 138 = .ok (.aload_n 0, 1) := by decide +kernel
theorem dL_law_139 : decode cL_law 139 = .ok (.iload_n 3, 1) := by decide +kernel
theorem dL_law_140 : decode cL_law 140 = .ok (.iconst 4, 1) := by decide +kernel
theorem dL_law_141 : decode cL_law 141 = .ok (.iadd, 1) := by decide +kernel
theorem dL_law_142 : decode cL_law 142 = .ok (.iaload, 1) := by decide +kernel
theorem dL_law_143 : decode cL_law 143 = .ok (.i2l, 1) := by decide +kernel
theorem dL_law_144 : decode cL_law 144 = .ok (.ldc2_w 13, 3) := by decide +kernel
theorem dL_law_147 : decode cL_law 147 = .ok (.land, 1) := by decide +kernel
theorem dL_law_148 : decode cL_law 148 = .ok (.lor, 1) := by decide +kernel
theorem dL_law_149 : decode cL_law 149 = .ok (.invokevirtual 19, 3) := by decide +kernel
theorem dL_law_152 : decode cL_law 152 = .ok (.if_icmp .eq 316, 3) := by decide +kernel
theorem dL_law_155 : decode cL_law 155 = .ok (.iconst 0, 1) := by decide +kernel
theorem dL_law_156 : decode cL_law 156 = .ok (.ireturn, 1) := by decide +kernel
theorem dL_law_157 : decode cL_law 157 = .ok (.aload_n 1, 1) := by decide +kernel
theorem dL_law_158 : decode cL_law 158 = .ok (.aload_n 0, 1) := by decide +kernel
theorem dL_law_159 : decode cL_law 159 = .ok (.iload_n 3, 1) := by decide +kernel
theorem dL_law_160 : decode cL_law 160 = .ok (.iconst 1, 1) := by decide +kernel
theorem dL_law_161 : decode cL_law 161 = .ok (.iadd, 1) := by decide +kernel
theorem dL_law_162 : decode cL_law 162 = .ok (.iaload, 1) := by decide +kernel
theorem dL_law_163 : decode cL_law 163 = .ok (.aload_n 0, 1) := by decide +kernel
theorem dL_law_164 : decode cL_law 164 = .ok (.iload_n 3, 1) := by decide +kernel
theorem dL_law_165 : decode cL_law 165 = .ok (.iconst 2, 1) := by decide +kernel
theorem dL_law_166 : decode cL_law 166 = .ok (.iadd, 1) := by decide +kernel
theorem dL_law_167 : decode cL_law 167 = .ok (.iaload, 1) := by decide +kernel
theorem dL_law_168 : decode cL_law 168 = .ok (.invokevirtual 20, 3) := by decide +kernel
theorem dL_law_171 : decode cL_law 171 = .ok (.aload_n 2, 1) := by decide +kernel
theorem dL_law_172 : decode cL_law 172 = .ok (.aload_n 0, 1) := by decide +kernel
theorem dL_law_173 : decode cL_law 173 = .ok (.iload_n 3, 1) := by decide +kernel
theorem dL_law_174 : decode cL_law 174 = .ok (.iconst 1, 1) := by decide +kernel
theorem dL_law_175 : decode cL_law 175 = .ok (.iadd, 1) := by decide +kernel
theorem dL_law_176 : decode cL_law 176 = .ok (.iaload, 1) := by decide +kernel
theorem dL_law_177 : decode cL_law 177 = .ok (.aload_n 0, 1) := by decide +kernel
theorem dL_law_178 : decode cL_law 178 = .ok (.iload_n 3, 1) := by decide +kernel
theorem dL_law_179 : decode cL_law 179 = .ok (.iconst 2, 1) := by decide +kernel
theorem dL_law_180 : decode cL_law 180 = .ok (.iadd, 1) := by decide +kernel
theorem dL_law_181 : decode cL_law 181 = .ok (.iaload, 1) := by decide +kernel
theorem dL_law_182 : decode cL_law 182 = .ok (.invokevirtual 24, 3) := by decide +kernel
theorem dL_law_185 : decode cL_law 185 = .ok (.if_icmp .eq 283, 3) := by decide +kernel
theorem dL_law_188 : decode cL_law 188 = .ok (.iconst 0, 1) := by decide +kernel
theorem dL_law_189 : decode cL_law 189 = .ok (.ireturn, 1) := by decide +kernel
theorem dL_law_190 : decode cL_law 190 = .ok (.aload_n 1, 1) := by decide +kernel
theorem dL_law_191 : decode cL_law 191 = .ok (.aload_n 0, 1) := by decide +kernel
theorem dL_law_192 : decode cL_law 192 = .ok (.iload_n 3, 1) := by decide +kernel
theorem dL_law_193 : decode cL_law 193 = .ok (.iconst 1, 1) := by decide +kernel
theorem dL_law_194 : decode cL_law 194 = .ok (.iadd, 1) := by decide +kernel
theorem dL_law_195 : decode cL_law 195 = .ok (.iaload, 1) := by decide +kernel
theorem dL_law_196 : decode cL_law 196 = .ok (.invokevirtual 25, 3) := by decide +kernel
theorem dL_law_199 : decode cL_law 199 = .ok (.aload_n 2, 1) := by decide +kernel
theorem dL_law_200 : decode cL_law 200 = .ok (.aload_n 0, 1) := by decide +kernel
theorem dL_law_201 : decode cL_law 201 = .ok (.iload_n 3, 1) := by decide +kernel
theorem dL_law_202 : decode cL_law 202 = .ok (.iconst 1, 1) := by decide +kernel
theorem dL_law_203 : decode cL_law 203 = .ok (.iadd, 1) := by decide +kernel
theorem dL_law_204 : decode cL_law 204 = .ok (.iaload, 1) := by decide +kernel
theorem dL_law_205 : decode cL_law 205 = .ok (.invokevirtual 29, 3) := by decide +kernel
theorem dL_law_208 : decode cL_law 208 = .ok (.if_icmp .eq 260, 3) := by decide +kernel
theorem dL_law_211 : decode cL_law 211 = .ok (.iconst 0, 1) := by decide +kernel
theorem dL_law_212 : decode cL_law 212 = .ok (.ireturn, 1) := by decide +kernel
theorem dL_law_213 : decode cL_law 213 = .ok (.aload_n 1, 1) := by decide +kernel
theorem dL_law_214 : decode cL_law 214 = .ok (.aload_n 0, 1) := by decide +kernel
theorem dL_law_215 : decode cL_law 215 = .ok (.iload_n 3, 1) := by decide +kernel
theorem dL_law_216 : decode cL_law 216 = .ok (.iconst 1, 1) := by decide +kernel
theorem dL_law_217 : decode cL_law 217 = .ok (.iadd, 1) := by decide +kernel
theorem dL_law_218 : decode cL_law 218 = .ok (.iaload, 1) := by decide +kernel
theorem dL_law_219 : decode cL_law 219 = .ok (.aload_n 0, 1) := by decide +kernel
theorem dL_law_220 : decode cL_law 220 = .ok (.iload_n 3, 1) := by decide +kernel
theorem dL_law_221 : decode cL_law 221 = .ok (.iconst 2, 1) := by decide +kernel
theorem dL_law_222 : decode cL_law 222 = .ok (.iadd, 1) := by decide +kernel
theorem dL_law_223 : decode cL_law 223 = .ok (.iaload, 1) := by decide +kernel
theorem dL_law_224 : decode cL_law 224 = .ok (.invokevirtual 30, 3) := by decide +kernel
theorem dL_law_227 : decode cL_law 227 = .ok (.aload_n 2, 1) := by decide +kernel
theorem dL_law_228 : decode cL_law 228 = .ok (.aload_n 0, 1) := by decide +kernel
theorem dL_law_229 : decode cL_law 229 = .ok (.iload_n 3, 1) := by decide +kernel
theorem dL_law_230 : decode cL_law 230 = .ok (.iconst 1, 1) := by decide +kernel
theorem dL_law_231 : decode cL_law 231 = .ok (.iadd, 1) := by decide +kernel
theorem dL_law_232 : decode cL_law 232 = .ok (.iaload, 1) := by decide +kernel
theorem dL_law_233 : decode cL_law 233 = .ok (.aload_n 0, 1) := by decide +kernel
theorem dL_law_234 : decode cL_law 234 = .ok (.iload_n 3, 1) := by decide +kernel
theorem dL_law_235 : decode cL_law 235 = .ok (.iconst 2, 1) := by decide +kernel
theorem dL_law_236 : decode cL_law 236 = .ok (.iadd, 1) := by decide +kernel
theorem dL_law_237 : decode cL_law 237 = .ok (.iaload, 1) := by decide +kernel
theorem dL_law_238 : decode cL_law 238 = .ok (.invokevirtual 34, 3) := by decide +kernel
theorem dL_law_241 : decode cL_law 241 = .ok (.lcmp, 1) := by decide +kernel
theorem dL_law_242 : decode cL_law 242 = .ok (.ifCond .eq 226, 3) := by decide +kernel
theorem dL_law_245 : decode cL_law 245 = .ok (.iconst 0, 1) := by decide +kernel
theorem dL_law_246 : decode cL_law 246 = .ok (.ireturn, 1) := by decide +kernel
theorem dL_law_247 : decode cL_law 247 = .ok (.aload_n 1, 1) := by decide +kernel
theorem dL_law_248 : decode cL_law 248 = .ok (.aload_n 0, 1) := by decide +kernel
theorem dL_law_249 : decode cL_law 249 = .ok (.iload_n 3, 1) := by decide +kernel
theorem dL_law_250 : decode cL_law 250 = .ok (.iconst 1, 1) := by decide +kernel
theorem dL_law_251 : decode cL_law 251 = .ok (.iadd, 1) := by decide +kernel
theorem dL_law_252 : decode cL_law 252 = .ok (.iaload, 1) := by decide +kernel
theorem dL_law_253 : decode cL_law 253 = .ok (.aload_n 0, 1) := by decide +kernel
theorem dL_law_254 : decode cL_law 254 = .ok (.iload_n 3, 1) := by decide +kernel
theorem dL_law_255 : decode cL_law 255 = .ok (.iconst 2, 1) := by decide +kernel
theorem dL_law_256 : decode cL_law 256 = .ok (.iadd, 1) := by decide +kernel
theorem dL_law_257 : decode cL_law 257 = .ok (.iaload, 1) := by decide +kernel
theorem dL_law_258 : decode cL_law 258 = .ok (.invokevirtual 35, 3) := by decide +kernel
theorem dL_law_261 : decode cL_law 261 = .ok (.aload_n 2, 1) := by decide +kernel
theorem dL_law_262 : decode cL_law 262 = .ok (.aload_n 0, 1) := by decide +kernel
theorem dL_law_263 : decode cL_law 263 = .ok (.iload_n 3, 1) := by decide +kernel
theorem dL_law_264 : decode cL_law 264 = .ok (.iconst 1, 1) := by decide +kernel
theorem dL_law_265 : decode cL_law 265 = .ok (.iadd, 1) := by decide +kernel
theorem dL_law_266 : decode cL_law 266 = .ok (.iaload, 1) := by decide +kernel
theorem dL_law_267 : decode cL_law 267 = .ok (.aload_n 0, 1) := by decide +kernel
theorem dL_law_268 : decode cL_law 268 = .ok (.iload_n 3, 1) := by decide +kernel
theorem dL_law_269 : decode cL_law 269 = .ok (.iconst 2, 1) := by decide +kernel
theorem dL_law_270 : decode cL_law 270 = .ok (.iadd, 1) := by decide +kernel
theorem dL_law_271 : decode cL_law 271 = .ok (.iaload, 1) := by decide +kernel
theorem dL_law_272 : decode cL_law 272 = .ok (.invokevirtual 38, 3) := by decide +kernel
theorem dL_law_275 : decode cL_law 275 = .ok (.if_icmp .eq 193, 3) := by decide +kernel
theorem dL_law_278 : decode cL_law 278 = .ok (.iconst 0, 1) := by decide +kernel
theorem dL_law_279 : decode cL_law 279 = .ok (.ireturn, 1) := by decide +kernel
theorem dL_law_280 : decode cL_law 280 = .ok (.aload_n 1, 1) := by decide +kernel
theorem dL_law_281 : decode cL_law 281 = .ok (.aload_n 0, 1) := by decide +kernel
theorem dL_law_282 : decode cL_law 282 = .ok (.iload_n 3, 1) := by decide +kernel
theorem dL_law_283 : decode cL_law 283 = .ok (.iconst 1, 1) := by decide +kernel
theorem dL_law_284 : decode cL_law 284 = .ok (.iadd, 1) := by decide +kernel
theorem dL_law_285 : decode cL_law 285 = .ok (.iaload, 1) := by decide +kernel
theorem dL_law_286 : decode cL_law 286 = .ok (.aload_n 0, 1) := by decide +kernel
theorem dL_law_287 : decode cL_law 287 = .ok (.iload_n 3, 1) := by decide +kernel
theorem dL_law_288 : decode cL_law 288 = .ok (.iconst 2, 1) := by decide +kernel
theorem dL_law_289 : decode cL_law 289 = .ok (.iadd, 1) := by decide +kernel
theorem dL_law_290 : decode cL_law 290 = .ok (.iaload, 1) := by decide +kernel
theorem dL_law_291 : decode cL_law 291 = .ok (.invokevirtual 39, 3) := by decide +kernel
theorem dL_law_294 : decode cL_law 294 = .ok (.aload_n 2, 1) := by decide +kernel
theorem dL_law_295 : decode cL_law 295 = .ok (.aload_n 0, 1) := by decide +kernel
theorem dL_law_296 : decode cL_law 296 = .ok (.iload_n 3, 1) := by decide +kernel
theorem dL_law_297 : decode cL_law 297 = .ok (.iconst 1, 1) := by decide +kernel
theorem dL_law_298 : decode cL_law 298 = .ok (.iadd, 1) := by decide +kernel
theorem dL_law_299 : decode cL_law 299 = .ok (.iaload, 1) := by decide +kernel
theorem dL_law_300 : decode cL_law 300 = .ok (.aload_n 0, 1) := by decide +kernel
theorem dL_law_301 : decode cL_law 301 = .ok (.iload_n 3, 1) := by decide +kernel
theorem dL_law_302 : decode cL_law 302 = .ok (.iconst 2, 1) := by decide +kernel
theorem dL_law_303 : decode cL_law 303 = .ok (.iadd, 1) := by decide +kernel
theorem dL_law_304 : decode cL_law 304 = .ok (.iaload, 1) := by decide +kernel
theorem dL_law_305 : decode cL_law 305 = .ok (.invokevirtual 42, 3) := by decide +kernel
theorem dL_law_308 : decode cL_law 308 = .ok (.if_icmp .eq 160, 3) := by decide +kernel
theorem dL_law_311 : decode cL_law 311 = .ok (.iconst 0, 1) := by decide +kernel
theorem dL_law_312 : decode cL_law 312 = .ok (.ireturn, 1) := by decide +kernel
theorem dL_law_313 : decode cL_law 313 = .ok (.aload_n 1, 1) := by decide +kernel
theorem dL_law_314 : decode cL_law 314 = .ok (.aload_n 0, 1) := by decide +kernel
theorem dL_law_315 : decode cL_law 315 = .ok (.iload_n 3, 1) := by decide +kernel
theorem dL_law_316 : decode cL_law 316 = .ok (.iconst 1, 1) := by decide +kernel
theorem dL_law_317 : decode cL_law 317 = .ok (.iadd, 1) := by decide +kernel
theorem dL_law_318 : decode cL_law 318 = .ok (.iaload, 1) := by decide +kernel
theorem dL_law_319 : decode cL_law 319 = .ok (.aload_n 0, 1) := by decide +kernel
theorem dL_law_320 : decode cL_law 320 = .ok (.iload_n 3, 1) := by decide +kernel
theorem dL_law_321 : decode cL_law 321 = .ok (.iconst 2, 1) := by decide +kernel
theorem dL_law_322 : decode cL_law 322 = .ok (.iadd, 1) := by decide +kernel
theorem dL_law_323 : decode cL_law 323 = .ok (.iaload, 1) := by decide +kernel
theorem dL_law_324 : decode cL_law 324 = .ok (.i2l, 1) := by decide +kernel
theorem dL_law_325 : decode cL_law 325 = .ok (.bipush 32, 2) := by decide +kernel
theorem dL_law_327 : decode cL_law 327 = .ok (.lshl, 1) := by decide +kernel
theorem dL_law_328 : decode cL_law 328 = .ok (.aload_n 0, 1) := by decide +kernel
theorem dL_law_329 : decode cL_law 329 = .ok (.iload_n 3, 1) := by decide +kernel
theorem dL_law_330 : decode cL_law 330 = .ok (.iconst 3, 1) := by decide +kernel
theorem dL_law_331 : decode cL_law 331 = .ok (.iadd, 1) := by decide +kernel
theorem dL_law_332 : decode cL_law 332 = .ok (.iaload, 1) := by decide +kernel
theorem dL_law_333 : decode cL_law 333 = .ok (.i2l, 1) := by decide +kernel
theorem dL_law_334 : decode cL_law 334 = .ok (.ldc2_w 13, 3) := by decide +kernel
theorem dL_law_337 : decode cL_law 337 = .ok (.land, 1) := by decide +kernel
theorem dL_law_338 : decode cL_law 338 = .ok (.lor, 1) := by decide +kernel
theorem dL_law_339 : decode cL_law 339 = .ok (.aload_n 0, 1) := by decide +kernel
theorem dL_law_340 : decode cL_law 340 = .ok (.iload_n 3, 1) := by decide +kernel
theorem dL_law_341 : decode cL_law 341 = .ok (.iconst 4, 1) := by decide +kernel
theorem dL_law_342 : decode cL_law 342 = .ok (.iadd, 1) := by decide +kernel
theorem dL_law_343 : decode cL_law 343 = .ok (.iaload, 1) := by decide +kernel
theorem dL_law_344 : decode cL_law 344 = .ok (.ifCond .eq 7, 3) := by decide +kernel
theorem dL_law_347 : decode cL_law 347 = .ok (.iconst 1, 1) := by decide +kernel
theorem dL_law_348 : decode cL_law 348 = .ok (.goto 4, 3) := by decide +kernel
theorem dL_law_351 : decode cL_law 351 = .ok (.iconst 0, 1) := by decide +kernel
theorem dL_law_352 : decode cL_law 352 = .ok (.invokevirtual 43, 3) := by decide +kernel
theorem dL_law_355 : decode cL_law 355 = .ok (.aload_n 2, 1) := by decide +kernel
theorem dL_law_356 : decode cL_law 356 = .ok (.aload_n 0, 1) := by decide +kernel
theorem dL_law_357 : decode cL_law 357 = .ok (.iload_n 3, 1) := by decide +kernel
theorem dL_law_358 : decode cL_law 358 = .ok (.iconst 1, 1) := by decide +kernel
theorem dL_law_359 : decode cL_law 359 = .ok (.iadd, 1) := by decide +kernel
theorem dL_law_360 : decode cL_law 360 = .ok (.iaload, 1) := by decide +kernel
theorem dL_law_361 : decode cL_law 361 = .ok (.aload_n 0, 1) := by decide +kernel
theorem dL_law_362 : decode cL_law 362 = .ok (.iload_n 3, 1) := by decide +kernel
theorem dL_law_363 : decode cL_law 363 = .ok (.iconst 2, 1) := by decide +kernel
theorem dL_law_364 : decode cL_law 364 = .ok (.iadd, 1) := by decide +kernel
theorem dL_law_365 : decode cL_law 365 = .ok (.iaload, 1) := by decide +kernel
theorem dL_law_366 : decode cL_law 366 = .ok (.i2l, 1) := by decide +kernel
theorem dL_law_367 : decode cL_law 367 = .ok (.bipush 32, 2) := by decide +kernel
theorem dL_law_369 : decode cL_law 369 = .ok (.lshl, 1) := by decide +kernel
theorem dL_law_370 : decode cL_law 370 = .ok (.aload_n 0, 1) := by decide +kernel
theorem dL_law_371 : decode cL_law 371 = .ok (.iload_n 3, 1) := by decide +kernel
theorem dL_law_372 : decode cL_law 372 = .ok (.iconst 3, 1) := by decide +kernel
theorem dL_law_373 : decode cL_law 373 = .ok (.iadd, 1) := by decide +kernel
theorem dL_law_374 : decode cL_law 374 = .ok (.iaload, 1) := by decide +kernel
theorem dL_law_375 : decode cL_law 375 = .ok (.i2l, 1) := by decide +kernel
theorem dL_law_376 : decode cL_law 376 = .ok (.ldc2_w 13, 3) := by decide +kernel
theorem dL_law_379 : decode cL_law 379 = .ok (.land, 1) := by decide +kernel
theorem dL_law_380 : decode cL_law 380 = .ok (.lor, 1) := by decide +kernel
theorem dL_law_381 : decode cL_law 381 = .ok (.aload_n 0, 1) := by decide +kernel
theorem dL_law_382 : decode cL_law 382 = .ok (.iload_n 3, 1) := by decide +kernel
theorem dL_law_383 : decode cL_law 383 = .ok (.iconst 4, 1) := by decide +kernel
theorem dL_law_384 : decode cL_law 384 = .ok (.iadd, 1) := by decide +kernel
theorem dL_law_385 : decode cL_law 385 = .ok (.iaload, 1) := by decide +kernel
theorem dL_law_386 : decode cL_law 386 = .ok (.ifCond .eq 7, 3) := by decide +kernel
theorem dL_law_389 : decode cL_law 389 = .ok (.iconst 1, 1) := by decide +kernel
theorem dL_law_390 : decode cL_law 390 = .ok (.goto 4, 3) := by decide +kernel
theorem dL_law_393 : decode cL_law 393 = .ok (.iconst 0, 1) := by decide +kernel
theorem dL_law_394 : decode cL_law 394 = .ok (.invokevirtual 47, 3) := by decide +kernel
theorem dL_law_397 : decode cL_law 397 = .ok (.if_icmp .eq 71, 3) := by decide +kernel
theorem dL_law_400 : decode cL_law 400 = .ok (.iconst 0, 1) := by decide +kernel
theorem dL_law_401 : decode cL_law 401 = .ok (.ireturn, 1) := by decide +kernel
theorem dL_law_402 : decode cL_law 402 = .ok (.aload_n 1, 1) := by decide +kernel
theorem dL_law_403 : decode cL_law 403 = .ok (.aload_n 0, 1) := by decide +kernel
theorem dL_law_404 : decode cL_law 404 = .ok (.iload_n 3, 1) := by decide +kernel
theorem dL_law_405 : decode cL_law 405 = .ok (.iconst 1, 1) := by decide +kernel
theorem dL_law_406 : decode cL_law 406 = .ok (.iadd, 1) := by decide +kernel
theorem dL_law_407 : decode cL_law 407 = .ok (.iaload, 1) := by decide +kernel
theorem dL_law_408 : decode cL_law 408 = .ok (.invokevirtual 48, 3) := by decide +kernel
theorem dL_law_411 : decode cL_law 411 = .ok (.aload_n 2, 1) := by decide +kernel
theorem dL_law_412 : decode cL_law 412 = .ok (.aload_n 0, 1) := by decide +kernel
theorem dL_law_413 : decode cL_law 413 = .ok (.iload_n 3, 1) := by decide +kernel
theorem dL_law_414 : decode cL_law 414 = .ok (.iconst 1, 1) := by decide +kernel
theorem dL_law_415 : decode cL_law 415 = .ok (.iadd, 1) := by decide +kernel
theorem dL_law_416 : decode cL_law 416 = .ok (.iaload, 1) := by decide +kernel
theorem dL_law_417 : decode cL_law 417 = .ok (.invokevirtual 51, 3) := by decide +kernel
theorem dL_law_420 : decode cL_law 420 = .ok (.if_icmp .eq 48, 3) := by decide +kernel
theorem dL_law_423 : decode cL_law 423 = .ok (.iconst 0, 1) := by decide +kernel
theorem dL_law_424 : decode cL_law 424 = .ok (.ireturn, 1) := by decide +kernel
theorem dL_law_425 : decode cL_law 425 = .ok (.aload_n 1, 1) := by decide +kernel
theorem dL_law_426 : decode cL_law 426 = .ok (.aload_n 0, 1) := by decide +kernel
theorem dL_law_427 : decode cL_law 427 = .ok (.iload_n 3, 1) := by decide +kernel
theorem dL_law_428 : decode cL_law 428 = .ok (.iconst 1, 1) := by decide +kernel
theorem dL_law_429 : decode cL_law 429 = .ok (.iadd, 1) := by decide +kernel
theorem dL_law_430 : decode cL_law 430 = .ok (.iaload, 1) := by decide +kernel
theorem dL_law_431 : decode cL_law 431 = .ok (.aload_n 0, 1) := by decide +kernel
theorem dL_law_432 : decode cL_law 432 = .ok (.iload_n 3, 1) := by decide +kernel
theorem dL_law_433 : decode cL_law 433 = .ok (.iconst 2, 1) := by decide +kernel
theorem dL_law_434 : decode cL_law 434 = .ok (.iadd, 1) := by decide +kernel
theorem dL_law_435 : decode cL_law 435 = .ok (.iaload, 1) := by decide +kernel
theorem dL_law_436 : decode cL_law 436 = .ok (.aload_n 0, 1) := by decide +kernel
theorem dL_law_437 : decode cL_law 437 = .ok (.iload_n 3, 1) := by decide +kernel
theorem dL_law_438 : decode cL_law 438 = .ok (.iconst 3, 1) := by decide +kernel
theorem dL_law_439 : decode cL_law 439 = .ok (.iadd, 1) := by decide +kernel
theorem dL_law_440 : decode cL_law 440 = .ok (.iaload, 1) := by decide +kernel
theorem dL_law_441 : decode cL_law 441 = .ok (.invokevirtual 52, 3) := by decide +kernel
theorem dL_law_444 : decode cL_law 444 = .ok (.aload_n 2, 1) := by decide +kernel
theorem dL_law_445 : decode cL_law 445 = .ok (.aload_n 0, 1) := by decide +kernel
theorem dL_law_446 : decode cL_law 446 = .ok (.iload_n 3, 1) := by decide +kernel
theorem dL_law_447 : decode cL_law 447 = .ok (.iconst 1, 1) := by decide +kernel
theorem dL_law_448 : decode cL_law 448 = .ok (.iadd, 1) := by decide +kernel
theorem dL_law_449 : decode cL_law 449 = .ok (.iaload, 1) := by decide +kernel
theorem dL_law_450 : decode cL_law 450 = .ok (.aload_n 0, 1) := by decide +kernel
theorem dL_law_451 : decode cL_law 451 = .ok (.iload_n 3, 1) := by decide +kernel
theorem dL_law_452 : decode cL_law 452 = .ok (.iconst 2, 1) := by decide +kernel
theorem dL_law_453 : decode cL_law 453 = .ok (.iadd, 1) := by decide +kernel
theorem dL_law_454 : decode cL_law 454 = .ok (.iaload, 1) := by decide +kernel
theorem dL_law_455 : decode cL_law 455 = .ok (.aload_n 0, 1) := by decide +kernel
theorem dL_law_456 : decode cL_law 456 = .ok (.iload_n 3, 1) := by decide +kernel
theorem dL_law_457 : decode cL_law 457 = .ok (.iconst 3, 1) := by decide +kernel
theorem dL_law_458 : decode cL_law 458 = .ok (.iadd, 1) := by decide +kernel
theorem dL_law_459 : decode cL_law 459 = .ok (.iaload, 1) := by decide +kernel
theorem dL_law_460 : decode cL_law 460 = .ok (.invokevirtual 56, 3) := by decide +kernel
theorem dL_law_463 : decode cL_law 463 = .ok (.if_icmp .eq 5, 3) := by decide +kernel
theorem dL_law_466 : decode cL_law 466 = .ok (.iconst 0, 1) := by decide +kernel
theorem dL_law_467 : decode cL_law 467 = .ok (.ireturn, 1) := by decide +kernel
theorem dL_law_468 : decode cL_law 468 = .ok (.iinc 3 5, 3) := by decide +kernel
theorem dL_law_471 : decode cL_law 471 = .ok (.goto (-453), 3) := by decide +kernel
theorem dL_law_474 : decode cL_law 474 = .ok (.iconst 1, 1) := by decide +kernel
theorem dL_law_475 : decode cL_law 475 = .ok (.ireturn, 1) := by decide +kernel
abbrev cX3_clear : ByteArray := prog_5_method_10_code
def yX3_clear : MethodName := ⟨RX3, "clear", "(I)I"⟩
theorem dX3_clear_0 : decode cX3_clear 0 = .ok (.iload_n 1, 1) := by decide +kernel
theorem dX3_clear_1 : decode cX3_clear 1 = .ok (.invokestatic 25, 3) := by decide +kernel
theorem dX3_clear_4 : decode cX3_clear 4 = .ok (.ifCond .ne 5, 3) := by decide +kernel
theorem dX3_clear_7 : decode cX3_clear 7 = .ok (.iconst (-1), 1) := by decide +kernel
theorem dX3_clear_8 : decode cX3_clear 8 = .ok (.ireturn, 1) := by decide +kernel
theorem dX3_clear_9 : decode cX3_clear 9 = .ok (.aload_n 0, 1) := by decide +kernel
theorem dX3_clear_10 : decode cX3_clear 10 = .ok (.getfield 21, 3) := by decide +kernel
theorem dX3_clear_13 : decode cX3_clear 13 = .ok (.iload_n 1, 1) := by decide +kernel
theorem dX3_clear_14 : decode cX3_clear 14 = .ok (.iaload, 1) := by decide +kernel
theorem dX3_clear_15 : decode cX3_clear 15 = .ok (.istore_n 2, 1) := by decide +kernel
theorem dX3_clear_16 : decode cX3_clear 16 = .ok (.iconst 0, 1) := by decide +kernel
theorem dX3_clear_17 : decode cX3_clear 17 = .ok (.istore_n 3, 1) := by decide +kernel
theorem dX3_clear_18 : decode cX3_clear 18 = .ok (.iload_n 3, 1) := by decide +kernel
theorem dX3_clear_19 : decode cX3_clear 19 = .ok (.sipush 1000, 3) := by decide +kernel
theorem dX3_clear_22 : decode cX3_clear 22 = .ok (.if_icmp .ge 22, 3) := by decide +kernel
theorem dX3_clear_25 : decode cX3_clear 25 = .ok (.aload_n 0, 1) := by decide +kernel
theorem dX3_clear_26 : decode cX3_clear 26 = .ok (.getfield 17, 3) := by decide +kernel
theorem dX3_clear_29 : decode cX3_clear 29 = .ok (.sipush 1000, 3) := by decide +kernel
theorem dX3_clear_32 : decode cX3_clear 32 = .ok (.iload_n 1, 1) := by decide +kernel
theorem dX3_clear_33 : decode cX3_clear 33 = .ok (.imul, 1) := by decide +kernel
theorem dX3_clear_34 : decode cX3_clear 34 = .ok (.iload_n 3, 1) := by decide +kernel
theorem dX3_clear_35 : decode cX3_clear 35 = .ok (.iadd, 1) := by decide +kernel
theorem dX3_clear_36 : decode cX3_clear 36 = .ok (.iconst 0, 1) := by decide +kernel
theorem dX3_clear_37 : decode cX3_clear 37 = .ok (.bastore, 1) := by decide +kernel
theorem dX3_clear_38 : decode cX3_clear 38 = .ok (.iinc 3 1, 3) := by decide +kernel
theorem dX3_clear_41 : decode cX3_clear 41 = .ok (.goto (-23), 3) := by decide +kernel
theorem dX3_clear_44 : decode cX3_clear 44 = .ok (.aload_n 0, 1) := by decide +kernel
theorem dX3_clear_45 : decode cX3_clear 45 = .ok (.getfield 21, 3) := by decide +kernel
theorem dX3_clear_48 : decode cX3_clear 48 = .ok (.iload_n 1, 1) := by decide +kernel
theorem dX3_clear_49 : decode cX3_clear 49 = .ok (.iconst 0, 1) := by decide +kernel
theorem dX3_clear_50 : decode cX3_clear 50 = .ok (.iastore, 1) := by decide +kernel
theorem dX3_clear_51 : decode cX3_clear 51 = .ok (.iload_n 2, 1) := by decide +kernel
theorem dX3_clear_52 : decode cX3_clear 52 = .ok (.ireturn, 1) := by decide +kernel
abbrev cX3_score : ByteArray := prog_5_method_11_code
def yX3_score : MethodName := ⟨RX3, "score", "(II)J"⟩
theorem dX3_score_0 : decode cX3_score 0 = .ok (.iload_n 1, 1) := by decide +kernel
theorem dX3_score_1 : decode cX3_score 1 = .ok (.iload_n 2, 1) := by decide +kernel
theorem dX3_score_2 : decode cX3_score 2 = .ok (.invokestatic 37, 3) := by decide +kernel
theorem dX3_score_5 : decode cX3_score 5 = .ok (.ifCond .ne 7, 3) := by decide +kernel
theorem dX3_score_8 : decode cX3_score 8 = .ok (.ldc2_w 49, 3) := by decide +kernel
theorem dX3_score_11 : decode cX3_score 11 = .ok (.lreturn, 1) := by decide +kernel
theorem dX3_score_12 : decode cX3_score 12 = .ok (.aload_n 0, 1) := by decide +kernel
theorem dX3_score_13 : decode cX3_score 13 = .ok (.getfield 17, 3) := by decide +kernel
theorem dX3_score_16 : decode cX3_score 16 = .ok (.sipush 1000, 3) := by decide +kernel
theorem dX3_score_19 : decode cX3_score 19 = .ok (.iload_n 1, 1) := by decide +kernel
theorem dX3_score_20 : decode cX3_score 20 = .ok (.imul, 1) := by decide +kernel
theorem dX3_score_21 : decode cX3_score 21 = .ok (.iload_n 2, 1) := by decide +kernel
theorem dX3_score_22 : decode cX3_score 22 = .ok (.iadd, 1) := by decide +kernel
theorem dX3_score_23 : decode cX3_score 23 = .ok (.baload, 1) := by decide +kernel
theorem dX3_score_24 : decode cX3_score 24 = .ok (.ifCond .eq 18, 3) := by decide +kernel
theorem dX3_score_27 : decode cX3_score 27 = .ok (.aload_n 0, 1) := by decide +kernel
theorem dX3_score_28 : decode cX3_score 28 = .ok (.getfield 13, 3) := by decide +kernel
theorem dX3_score_31 : decode cX3_score 31 = .ok (.sipush 1000, 3) := by decide +kernel
theorem dX3_score_34 : decode cX3_score 34 = .ok (.iload_n 1, 1) := by decide +kernel
theorem dX3_score_35 : decode cX3_score 35 = .ok (.imul, 1) := by decide +kernel
theorem dX3_score_36 : decode cX3_score 36 = .ok (.iload_n 2, 1) := by decide +kernel
theorem dX3_score_37 : decode cX3_score 37 = .ok (.iadd, 1) := by decide +kernel
theorem dX3_score_38 : decode cX3_score 38 = .ok (.laload, 1) := by decide +kernel
theorem dX3_score_39 : decode cX3_score 39 = .ok (.goto 4, 3) := by decide +kernel
theorem dX3_score_42 : decode cX3_score 42 = .ok (.lconst 0, 1) := by decide +kernel
theorem dX3_score_43 : decode cX3_score 43 = .ok (.lreturn, 1) := by decide +kernel
abbrev cX3_rank : ByteArray := prog_5_method_12_code
def yX3_rank : MethodName := ⟨RX3, "rank", "(II)I"⟩
theorem dX3_rank_0 : decode cX3_rank 0 = .ok (.iload_n 1, 1) := by decide +kernel
theorem dX3_rank_1 : decode cX3_rank 1 = .ok (.iload_n 2, 1) := by decide +kernel
theorem dX3_rank_2 : decode cX3_rank 2 = .ok (.invokestatic 37, 3) := by decide +kernel
theorem dX3_rank_5 : decode cX3_rank 5 = .ok (.ifCond .eq 18, 3) := by decide +kernel
theorem dX3_rank_8 : decode cX3_rank 8 = .ok (.aload_n 0, 1) := by decide +kernel
theorem dX3_rank_9 : decode cX3_rank 9 = .ok (.getfield 17, 3) := by decide +kernel
theorem dX3_rank_12 : decode cX3_rank 12 = .ok (.sipush 1000, 3) := by decide +kernel
theorem dX3_rank_15 : decode cX3_rank 15 = .ok (.iload_n 1, 1) := by decide +kernel
theorem dX3_rank_16 : decode cX3_rank 16 = .ok (.imul, 1) := by decide +kernel
theorem dX3_rank_17 : decode cX3_rank 17 = .ok (.iload_n 2, 1) := by decide +kernel
theorem dX3_rank_18 : decode cX3_rank 18 = .ok (.iadd, 1) := by decide +kernel
theorem dX3_rank_19 : decode cX3_rank 19 = .ok (.baload, 1) := by decide +kernel
theorem dX3_rank_20 : decode cX3_rank 20 = .ok (.ifCond .ne 5, 3) := by decide +kernel
theorem dX3_rank_23 : decode cX3_rank 23 = .ok (.iconst (-1), 1) := by decide +kernel
theorem dX3_rank_24 : decode cX3_rank 24 = .ok (.ireturn, 1) := by decide +kernel
theorem dX3_rank_25 : decode cX3_rank 25 = .ok (.iconst 0, 1) := by decide +kernel
theorem dX3_rank_26 : decode cX3_rank 26 = .ok (.istore_n 3, 1) := by decide +kernel
theorem dX3_rank_27 : decode cX3_rank 27 = .ok (.aload_n 0, 1) := by decide +kernel
theorem dX3_rank_28 : decode cX3_rank 28 = .ok (.getfield 7, 3) := by decide +kernel
theorem dX3_rank_31 : decode cX3_rank 31 = .ok (.sipush 1000, 3) := by decide +kernel
theorem dX3_rank_34 : decode cX3_rank 34 = .ok (.iload_n 1, 1) := by decide +kernel
theorem dX3_rank_35 : decode cX3_rank 35 = .ok (.imul, 1) := by decide +kernel
theorem dX3_rank_36 : decode cX3_rank 36 = .ok (.iload_n 3, 1) := by decide +kernel
theorem dX3_rank_37 : decode cX3_rank 37 = .ok (.iadd, 1) := by decide +kernel
theorem dX3_rank_38 : decode cX3_rank 38 = .ok (.saload, 1) := by decide +kernel
theorem dX3_rank_39 : decode cX3_rank 39 = .ok (.iload_n 2, 1) := by decide +kernel
theorem dX3_rank_40 : decode cX3_rank 40 = .ok (.if_icmp .eq 9, 3) := by decide +kernel
theorem dX3_rank_43 : decode cX3_rank 43 = .ok (.iinc 3 1, 3) := by decide +kernel
theorem dX3_rank_46 : decode cX3_rank 46 = .ok (.goto (-19), 3) := by decide +kernel
theorem dX3_rank_49 : decode cX3_rank 49 = .ok (.iload_n 3, 1) := by decide +kernel
theorem dX3_rank_50 : decode cX3_rank 50 = .ok (.ireturn, 1) := by decide +kernel
abbrev cX3_at : ByteArray := prog_5_method_13_code
def yX3_at : MethodName := ⟨RX3, "at", "(II)I"⟩
theorem dX3_at_0 : decode cX3_at 0 = .ok (.iload_n 1, 1) := by decide +kernel
theorem dX3_at_1 : decode cX3_at 1 = .ok (.invokestatic 25, 3) := by decide +kernel
theorem dX3_at_4 : decode cX3_at 4 = .ok (.ifCond .eq 32, 3) := by decide +kernel
theorem dX3_at_7 : decode cX3_at 7 = .ok (.iload_n 2, 1) := by decide +kernel
theorem dX3_at_8 : decode cX3_at 8 = .ok (.ifCond .lt 28, 3) := by decide +kernel
theorem dX3_at_11 : decode cX3_at 11 = .ok (.iload_n 2, 1) := by decide +kernel
theorem dX3_at_12 : decode cX3_at 12 = .ok (.aload_n 0, 1) := by decide +kernel
theorem dX3_at_13 : decode cX3_at 13 = .ok (.getfield 21, 3) := by decide +kernel
theorem dX3_at_16 : decode cX3_at 16 = .ok (.iload_n 1, 1) := by decide +kernel
theorem dX3_at_17 : decode cX3_at 17 = .ok (.iaload, 1) := by decide +kernel
theorem dX3_at_18 : decode cX3_at 18 = .ok (.if_icmp .ge 18, 3) := by decide +kernel
theorem dX3_at_21 : decode cX3_at 21 = .ok (.aload_n 0, 1) := by decide +kernel
theorem dX3_at_22 : decode cX3_at 22 = .ok (.getfield 7, 3) := by decide +kernel
theorem dX3_at_25 : decode cX3_at 25 = .ok (.sipush 1000, 3) := by decide +kernel
theorem dX3_at_28 : decode cX3_at 28 = .ok (.iload_n 1, 1) := by decide +kernel
theorem dX3_at_29 : decode cX3_at 29 = .ok (.imul, 1) := by decide +kernel
theorem dX3_at_30 : decode cX3_at 30 = .ok (.iload_n 2, 1) := by decide +kernel
theorem dX3_at_31 : decode cX3_at 31 = .ok (.iadd, 1) := by decide +kernel
theorem dX3_at_32 : decode cX3_at 32 = .ok (.saload, 1) := by decide +kernel
theorem dX3_at_33 : decode cX3_at 33 = .ok (.goto 4, 3) := by decide +kernel
theorem dX3_at_36 : decode cX3_at 36 = .ok (.iconst (-1), 1) := by decide +kernel
theorem dX3_at_37 : decode cX3_at 37 = .ok (.ireturn, 1) := by decide +kernel
abbrev cX3_below : ByteArray := prog_5_method_14_code
def yX3_below : MethodName := ⟨RX3, "below", "(IJZ)I"⟩
theorem dX3_below_0 : decode cX3_below 0 = .ok (.iload_n 1, 1) := by decide +kernel
theorem dX3_below_1 : decode cX3_below 1 = .ok (.invokestatic 25, 3) := by decide +kernel
theorem dX3_below_4 : decode cX3_below 4 = .ok (.ifCond .ne 5, 3) := by decide +kernel
theorem dX3_below_7 : decode cX3_below 7 = .ok (.iconst (-1), 1) := by decide +kernel
theorem dX3_below_8 : decode cX3_below 8 = .ok (.ireturn, 1) := by decide +kernel
theorem dX3_below_9 : decode cX3_below 9 = .ok (.iconst 0, 1) := by decide +kernel
theorem dX3_below_10 : decode cX3_below 10 = .ok (.istore 5, 2) := by decide +kernel
theorem dX3_below_12 : decode cX3_below 12 = .ok (.iconst 0, 1) := by decide +kernel
theorem dX3_below_13 : decode cX3_below 13 = .ok (.istore 6, 2) := by decide +kernel
theorem dX3_below_15 : decode cX3_below 15 = .ok (.iload 6, 2) := by decide +kernel
theorem dX3_below_17 : decode cX3_below 17 = .ok (.aload_n 0, 1) := by decide +kernel
theorem dX3_below_18 : decode cX3_below 18 = .ok (.getfield 21, 3) := by decide +kernel
theorem dX3_below_21 : decode cX3_below 21 = .ok (.iload_n 1, 1) := by decide +kernel
theorem dX3_below_22 : decode cX3_below 22 = .ok (.iaload, 1) := by decide +kernel
theorem dX3_below_23 : decode cX3_below 23 = .ok (.if_icmp .ge 64, 3) := by decide +kernel
theorem dX3_below_26 : decode cX3_below 26 = .ok (.aload_n 0, 1) := by decide +kernel
theorem dX3_below_27 : decode cX3_below 27 = .ok (.getfield 13, 3) := by decide +kernel
theorem dX3_below_30 : decode cX3_below 30 = .ok (.sipush 1000, 3) := by decide +kernel
theorem dX3_below_33 : decode cX3_below 33 = .ok (.iload_n 1, 1) := by decide +kernel
theorem dX3_below_34 : decode cX3_below 34 = .ok (.imul, 1) := by decide +kernel
theorem dX3_below_35 : decode cX3_below 35 = .ok (.aload_n 0, 1) := by decide +kernel
theorem dX3_below_36 : decode cX3_below 36 = .ok (.getfield 7, 3) := by decide +kernel
theorem dX3_below_39 : decode cX3_below 39 = .ok (.sipush 1000, 3) := by decide +kernel
theorem dX3_below_42 : decode cX3_below 42 = .ok (.iload_n 1, 1) := by decide +kernel
theorem dX3_below_43 : decode cX3_below 43 = .ok (.imul, 1) := by decide +kernel
theorem dX3_below_44 : decode cX3_below 44 = .ok (.iload 6, 2) := by decide +kernel
theorem dX3_below_46 : decode cX3_below 46 = .ok (.iadd, 1) := by decide +kernel
theorem dX3_below_47 : decode cX3_below 47 = .ok (.saload, 1) := by decide +kernel
theorem dX3_below_48 : decode cX3_below 48 = .ok (.iadd, 1) := by decide +kernel
theorem dX3_below_49 : decode cX3_below 49 = .ok (.laload, 1) := by decide +kernel
theorem dX3_below_50 : decode cX3_below 50 = .ok (.lstore 7, 2) := by decide +kernel
theorem dX3_below_52 : decode cX3_below 52 = .ok (.iload 5, 2) := by decide +kernel
theorem dX3_below_54 : decode cX3_below 54 = .ok (.lload 7, 2) := by decide +kernel
theorem dX3_below_56 : decode cX3_below 56 = .ok (.lload_n 2, 1) := by decide +kernel
theorem dX3_below_57 : decode cX3_below 57 = .ok (.lcmp, 1) := by decide +kernel
theorem dX3_below_58 : decode cX3_below 58 = .ok (.ifCond .lt 15, 3) := by decide +kernel
theorem dX3_below_61 : decode cX3_below 61 = .ok (.iload 4, 2) := by decide +kernel
theorem dX3_below_63 : decode cX3_below 63 = .ok (.ifCond .eq 14, 3) := by decide +kernel
theorem dX3_below_66 : decode cX3_below 66 = .ok (.lload 7, 2) := by decide +kernel
theorem dX3_below_68 : decode cX3_below 68 = .ok (.lload_n 2, 1) := by decide +kernel
theorem dX3_below_69 : decode cX3_below 69 = .ok (.lcmp, 1) := by decide +kernel
theorem dX3_below_70 : decode cX3_below 70 = .ok (.ifCond .ne 7, 3) := by decide +kernel
theorem dX3_below_73 : decode cX3_below 73 = .ok (.iconst 1, 1) := by decide +kernel
theorem dX3_below_74 : decode cX3_below 74 = .ok (.goto 4, 3) := by decide +kernel
theorem dX3_below_77 : decode cX3_below 77 = .ok (.iconst 0, 1) := by decide +kernel
theorem dX3_below_78 : decode cX3_below 78 = .ok (.iadd, 1) := by decide +kernel
theorem dX3_below_79 : decode cX3_below 79 = .ok (.istore 5, 2) := by decide +kernel
theorem dX3_below_81 : decode cX3_below 81 = .ok (.iinc 6 1, 3) := by decide +kernel
theorem dX3_below_84 : decode cX3_below 84 = .ok (.goto (-69), 3) := by decide +kernel
theorem dX3_below_87 : decode cX3_below 87 = .ok (.iload 5, 2) := by decide +kernel
theorem dX3_below_89 : decode cX3_below 89 = .ok (.ireturn, 1) := by decide +kernel
abbrev cX3_size : ByteArray := prog_5_method_15_code
def yX3_size : MethodName := ⟨RX3, "size", "(I)I"⟩
theorem dX3_size_0 : decode cX3_size 0 = .ok (.iload_n 1, 1) := by decide +kernel
theorem dX3_size_1 : decode cX3_size 1 = .ok (.invokestatic 25, 3) := by decide +kernel
theorem dX3_size_4 : decode cX3_size 4 = .ok (.ifCond .eq 12, 3) := by decide +kernel
theorem dX3_size_7 : decode cX3_size 7 = .ok (.aload_n 0, 1) := by decide +kernel
theorem dX3_size_8 : decode cX3_size 8 = .ok (.getfield 21, 3) := by decide +kernel
theorem dX3_size_11 : decode cX3_size 11 = .ok (.iload_n 1, 1) := by decide +kernel
theorem dX3_size_12 : decode cX3_size 12 = .ok (.iaload, 1) := by decide +kernel
theorem dX3_size_13 : decode cX3_size 13 = .ok (.goto 4, 3) := by decide +kernel
theorem dX3_size_16 : decode cX3_size 16 = .ok (.iconst (-1), 1) := by decide +kernel
theorem dX3_size_17 : decode cX3_size 17 = .ok (.ireturn, 1) := by decide +kernel
abbrev cX3_walk : ByteArray := prog_5_method_16_code
def yX3_walk : MethodName := ⟨RX3, "walk", "(III)I"⟩
theorem dX3_walk_0 : decode cX3_walk 0 = .ok (.iload_n 1, 1) := by decide +kernel
theorem dX3_walk_1 : decode cX3_walk 1 = .ok (.invokestatic 25, 3) := by decide +kernel
theorem dX3_walk_4 : decode cX3_walk 4 = .ok (.ifCond .eq 18, 3) := by decide +kernel
theorem dX3_walk_7 : decode cX3_walk 7 = .ok (.iload_n 2, 1) := by decide +kernel
theorem dX3_walk_8 : decode cX3_walk 8 = .ok (.ifCond .lt 14, 3) := by decide +kernel
theorem dX3_walk_11 : decode cX3_walk 11 = .ok (.iload_n 3, 1) := by decide +kernel
theorem dX3_walk_12 : decode cX3_walk 12 = .ok (.ifCond .lt 10, 3) := by decide +kernel
theorem dX3_walk_15 : decode cX3_walk 15 = .ok (.iload_n 3, 1) := by decide +kernel
theorem dX3_walk_16 : decode cX3_walk 16 = .ok (.sipush 1000, 3) := by decide +kernel
theorem dX3_walk_19 : decode cX3_walk 19 = .ok (.if_icmp .le 5, 3) := by decide +kernel
theorem dX3_walk_22 : decode cX3_walk 22 = .ok (.iconst (-1), 1) := by decide +kernel
theorem dX3_walk_23 : decode cX3_walk 23 = .ok (.ireturn, 1) := by decide +kernel
theorem dX3_walk_24 : decode cX3_walk 24 = .ok (.bipush 7, 2) := by decide +kernel
theorem dX3_walk_26 : decode cX3_walk 26 = .ok (.istore 4, 2) := by decide +kernel
theorem dX3_walk_28 : decode cX3_walk 28 = .ok (.iload_n 2, 1) := by decide +kernel
theorem dX3_walk_29 : decode cX3_walk 29 = .ok (.istore 5, 2) := by decide +kernel
theorem dX3_walk_31 : decode cX3_walk 31 = .ok (.iload 5, 2) := by decide +kernel
theorem dX3_walk_33 : decode cX3_walk 33 = .ok (.aload_n 0, 1) := by decide +kernel
theorem dX3_walk_34 : decode cX3_walk 34 = .ok (.getfield 21, 3) := by decide +kernel
theorem dX3_walk_37 : decode cX3_walk 37 = .ok (.iload_n 1, 1) := by decide +kernel
theorem dX3_walk_38 : decode cX3_walk 38 = .ok (.iaload, 1) := by decide +kernel
theorem dX3_walk_39 : decode cX3_walk 39 = .ok (.if_icmp .ge 38, 3) := by decide +kernel
theorem dX3_walk_42 : decode cX3_walk 42 = .ok (.iload 5, 2) := by decide +kernel
theorem dX3_walk_44 : decode cX3_walk 44 = .ok (.iload_n 2, 1) := by decide +kernel
theorem dX3_walk_45 : decode cX3_walk 45 = .ok (.isub, 1) := by decide +kernel
theorem dX3_walk_46 : decode cX3_walk 46 = .ok (.iload_n 3, 1) := by decide +kernel
theorem dX3_walk_47 : decode cX3_walk 47 = .ok (.if_icmp .ge 30, 3) := by decide +kernel
theorem dX3_walk_50 : decode cX3_walk 50 = .ok (.bipush 31, 2) := by decide +kernel
theorem dX3_walk_52 : decode cX3_walk 52 = .ok (.iload 4, 2) := by decide +kernel
theorem dX3_walk_54 : decode cX3_walk 54 = .ok (.imul, 1) := by decide +kernel
theorem dX3_walk_55 : decode cX3_walk 55 = .ok (.aload_n 0, 1) := by decide +kernel
theorem dX3_walk_56 : decode cX3_walk 56 = .ok (.getfield 7, 3) := by decide +kernel
theorem dX3_walk_59 : decode cX3_walk 59 = .ok (.sipush 1000, 3) := by decide +kernel
theorem dX3_walk_62 : decode cX3_walk 62 = .ok (.iload_n 1, 1) := by decide +kernel
theorem dX3_walk_63 : decode cX3_walk 63 = .ok (.imul, 1) := by decide +kernel
theorem dX3_walk_64 : decode cX3_walk 64 = .ok (.iload 5, 2) := by decide +kernel
theorem dX3_walk_66 : decode cX3_walk 66 = .ok (.iadd, 1) := by decide +kernel
theorem dX3_walk_67 : decode cX3_walk 67 = .ok (.saload, 1) := by decide +kernel
theorem dX3_walk_68 : decode cX3_walk 68 = .ok (.iadd, 1) := by decide +kernel
theorem dX3_walk_69 : decode cX3_walk 69 = .ok (.istore 4, 2) := by decide +kernel
theorem dX3_walk_71 : decode cX3_walk 71 = .ok (.iinc 5 1, 3) := by decide +kernel
theorem dX3_walk_74 : decode cX3_walk 74 = .ok (.goto (-43), 3) := by decide +kernel
theorem dX3_walk_77 : decode cX3_walk 77 = .ok (.iload 4, 2) := by decide +kernel
theorem dX3_walk_79 : decode cX3_walk 79 = .ok (.ireturn, 1) := by decide +kernel
end
section
/-! the pool layer: a module's cells are ONE pool (L, f); a contract speaks of the pool before and behind -/
def jx_isN : Cond → Bool
  | .fieldLinkNest .. => true
  | .methodLinkNest .. => true
  | .arrayOver (.object _) => true
  | _ => false
theorem jx_N_same {w : Cond} (hw : jx_isN w = true) {u U : State} (h : u.vm = U.vm) (hZ : va_Nw w u) : va_Nw w U := by
  cases w <;> first | (simp [jx_isN] at hw; done) | exact va_Nw.same rfl h hZ | (rename_i ty; cases ty <;> first | (simp [jx_isN] at hw; done) | exact va_AO.moved (by rw [h]; exact Vm.Alike.refl _) hZ)
theorem jx_N_warm {w : Cond} (hw : jx_isN w = true) {s U : State} (hW : s.WarmedH U.vm) (hZ : va_Nw w s) : va_Nw w U := by
  cases w <;> first | (simp [jx_isN] at hw; done) | exact va_Nw.warmF hW hZ | exact va_Nw.warmM hW hZ | (rename_i ty; cases ty <;> first | (simp [jx_isN] at hw; done) | exact va_AO.moved hW.alike hZ)
def jx_G (D : va_G) (cl : List vw_C) (tys : List (ClassId × FieldType)) (NW : List Cond) (U : State) : Prop := va_K D cl tys U ∧ (∀ w ∈ NW, va_Nw w U) ∧ ∀ w ∈ NW, jx_isN w = true
theorem jx_G.same {D : va_G} {cl : List vw_C} {tys : List (ClassId × FieldType)} {NW : List Cond} {u U : State} (h : u.vm = U.vm) (hG : jx_G D cl tys NW u) : jx_G D cl tys NW U :=
  ⟨va_K.moved (by rw [h]; exact Vm.Alike.refl _) hG.1, fun w hw => jx_N_same (hG.2.2 w hw) h (hG.2.1 w hw), hG.2.2⟩
theorem jx_G.warm {D : va_G} {cl : List vw_C} {tys : List (ClassId × FieldType)} {NW : List Cond} {s U : State} (hW : s.WarmedH U.vm) (hG : jx_G D cl tys NW s) : jx_G D cl tys NW U :=
  ⟨va_K.moved hW.alike hG.1, fun w hw => jx_N_warm (hG.2.2 w hw) hW (hG.2.1 w hw), hG.2.2⟩
/-- the pool stands in the heap, within A; since H0 nothing outside A has changed -/
def jx_w (D : va_G) (cl : List vw_C) (A : Nat → Prop) (H0 : Heap) (L : List Nat) (f : Nat → va_E) (H : Heap) (locs : List Loc) : Prop :=
  va_P D cl (va_pl L f) H ∧ va_D A (va_pl L f) ∧ va_S A H0 H locs ∧ ∀ q : Nat, H0.size ≤ q → A q
def jx_Pre (D : va_G) (cl : List vw_C) (tys : List (ClassId × FieldType)) (NW : List Cond) (sz : Nat) (L : List Nat) (f : Nat → va_E) : State → Prop := fun U =>
  U.heap.size = sz ∧ va_P D cl (va_pl L f) U.heap ∧ jx_G D cl tys NW U ∧ va_D (fun _ => True) (va_pl L f)
def jx_Q (D : va_G) (cl : List vw_C) (sz : Nat) (L : List Nat) (f : Nat → va_E) (post : Option Value → List Nat → (Nat → va_E) → Prop) : Array Value → State → Outcome → State → Prop := fun _ st oc t =>
  (∃ (v : Option Value) (L' : List Nat) (f' : Nat → va_E), oc = .returned v ∧ post v L' f' ∧ va_P D cl (va_pl L' f') t.heap ∧ va_D (va_A (va_pl L f) sz) (va_pl L' f')) ∧ va_F (va_A (va_pl L f) sz) st t
/-- a contract over the pool -/
def jx_M (l : Launch) (D : va_G) (cl : List vw_C) (tys : List (ClassId × FieldType)) (NW TT : List Cond) (y : MethodName) (bytes : ByteArray) (n : Nat) (ret : Option FieldType) (rm : Room) (av : List Value) (L : List Nat) (f : Nat → va_E) (post : Option Value → List Nat → (Nat → va_E) → Prop) : Prop :=
  ∀ sz : Nat, Met l y (Cond.code y bytes n ret :: TT) rm (va_Pc av (jx_Pre D cl tys NW sz L f)) (jx_Q D cl sz L f post) rm.cells rm.slots (va_A (va_pl L f) sz)
theorem jx_pos {L : List Nat} {f : Nat → va_E} {a : Nat} {e : va_E} (ha : a ∈ L) (hfa : f a = e) : ∃ k : Nat, (va_pl L f)[k]? = some (a, e) := by
  obtain ⟨k, hk⟩ := va_pl_get (X := []) (f := f) ha
  exact ⟨k, by rw [← hfa]; exact hk⟩
theorem jx_set {A : Nat → Prop} {L : List Nat} {f : Nat → va_E} {a k : Nat} {e e' : va_E} (hD : va_D A (va_pl L f)) (ha : a ∈ L) (hfa : f a = e) (hk : (va_pl L f)[k]? = some (a, e)) : (va_pl L f).set k (a, e') = va_pl L (va_up f a e') := by
  subst hfa
  exact va_pl_set (X := []) hD ha hk
theorem jx_RA_inj {U : State} {c1 c2 : ClassId} {ty : FieldType} (h1 : va_RA U c1 ty) (h2 : va_RA U c2 ty) : c1 = c2 := by
  cases ty with
  | object C =>
    obtain ⟨_, _, _, _, _, a⟩ := h1
    obtain ⟨_, _, _, _, _, b⟩ := h2
    exact Option.some.inj (a.symm.trans b)
  | _ =>
    have a : U.vm.findClass _ = some c1 := h1
    have b : U.vm.findClass _ = some c2 := h2
    exact Option.some.inj (a.symm.trans b)
theorem jx_sub {D : va_G} {cl : List vw_C} {A : Nat → Prop} {H0 H : Heap} {L : List Nat} {f : Nat → va_E} {locs : List Loc} (hw : jx_w D cl A H0 L f H locs) : ∀ q, va_A (va_pl L f) H.size q → A q := by
  intro q h
  rcases h with ⟨k, e, h⟩ | h
  · exact hw.2.1.2 k (q, e) h
  · exact hw.2.2.2 q (Nat.le_trans hw.2.2.1.1 h)
section JXR
variable {p : Program} {l : Launch} {e : Env} {R : Room} {s : State} {m : MethodId} {args : Array Value} {below : List Frame} {meth : Method} {c : Code} {H : Heap} {locs : List Loc} {cells slots : Nat} {Q : State → Prop}
variable {cc : ByteArray} {pc : Nat} {ls : Array Slot} {rest : List Value} {D : va_G} {cl : List vw_C} {A : Nat → Prop} {a : Nat} {tys : List (ClassId × FieldType)} {NW TT : List Cond} {H0 : Heap} {L : List Nat} {f : Nat → va_E}
theorem jx_get (hexec : p.tables.exec = Jvm.exec) (hb : c.code = cc) {own ref C : String} {T : u_T} {N ci index : Nat} (hts : ∀ w ∈ TT, w.before args s = true) (hin : ∀ w ∈ u_ws C T N, w ∈ TT) (hown : s.vm.findClass own = some m.cls) (hG : jx_G D cl tys NW s) (hw : jx_w D cl A H0 L f H locs) (ha : a ∈ L) {fs : List Value} (hfa : f a = .inr (ci, fs)) (hc : cl[ci]? = some (C, T, N)) (k : Nat) (hk : k < N) (hlink : Cond.fieldLink own index ref (T k).2.1 (T k).2.2.1 ∈ TT) (hsame : ∀ x, s.fieldFound? (T k).1 (T k).2.1 (T k).2.2.1 = some x → s.fieldFound? ref (T k).2.1 (T k).2.2.1 = some x) {v : Value} (hv : fs[k]? = some v) (hdg : decode cc pc = .ok (.getfield index, 3))
    (kk : W p l e R s m args below meth c H locs cells slots Q (F0 m (pc + 3) ls (v :: rest))) : W p l e R s m args below meth c H locs cells slots Q (F0 m pc ls (.ref a :: rest)) := by
  obtain ⟨q0, hq0⟩ := jx_pos ha hfa
  exact va_get hexec hb hts hin hown hG.1 hw.1 q0 hq0 hc k hk (hts _ hlink) hsame hv hdg kk
theorem jx_getN (hexec : p.tables.exec = Jvm.exec) (hb : c.code = cc) {own ref C host : String} {T : u_T} {N ci index : Nat} (hts : ∀ w ∈ TT, w.before args s = true) (hin : ∀ w ∈ u_ws C T N, w ∈ TT) (hown : s.vm.findClass own = some m.cls) (hG : jx_G D cl tys NW s) (hw : jx_w D cl A H0 L f H locs) (ha : a ∈ L) {fs : List Value} (hfa : f a = .inr (ci, fs)) (hc : cl[ci]? = some (C, T, N)) (k : Nat) (hk : k < N) (hlink : Cond.fieldLinkNest own index ref (T k).2.1 (T k).2.2.1 host ∈ NW) (hsame : ∀ x, s.fieldFound? (T k).1 (T k).2.1 (T k).2.2.1 = some x → s.fieldFound? ref (T k).2.1 (T k).2.2.1 = some x) {v : Value} (hv : fs[k]? = some v) (hdg : decode cc pc = .ok (.getfield index, 3))
    (kk : W p l e R s m args below meth c H locs cells slots Q (F0 m (pc + 3) ls (v :: rest))) : W p l e R s m args below meth c H locs cells slots Q (F0 m pc ls (.ref a :: rest)) := by
  obtain ⟨q0, hq0⟩ := jx_pos ha hfa
  exact va_getN hexec hb hts hin hown hG.1 hw.1 q0 hq0 hc k hk (va_Nw.use rfl (hG.2.1 _ hlink)) hsame hv hdg kk
theorem jx_put (hexec : p.tables.exec = Jvm.exec) (hb : c.code = cc) {own ref C : String} {T : u_T} {N ci index : Nat} (hts : ∀ w ∈ TT, w.before args s = true) (hin : ∀ w ∈ u_ws C T N, w ∈ TT) (ty0 : Nat → FieldType) (hty : ∀ k, k < N → parseFieldDescriptor (T k).2.2.1 = some (ty0 k)) (hnm : ∀ a, a < N → ∀ b, b < N → a ≠ b → (T a).2.1 ≠ (T b).2.1) (hown : s.vm.findClass own = some m.cls) (hG : jx_G D cl tys NW s) (hw : jx_w D cl A H0 L f H locs) (ha : a ∈ L) {fs : List Value} (hfa : f a = .inr (ci, fs)) (hc : cl[ci]? = some (C, T, N)) (k : Nat) (hk : k < N) (hlink : Cond.fieldLink own index ref (T k).2.1 (T k).2.2.1 ∈ TT) (hsame : ∀ x, s.fieldFound? (T k).1 (T k).2.1 (T k).2.2.1 = some x → s.fieldFound? ref (T k).2.1 (T k).2.2.1 = some x) (hfin : (T k).2.2.2 = false) {ty : FieldType} {v : Value} (hd : parseFieldDescriptor (T k).2.2.1 = some ty) (hn : narrow ty v = v) (hfit : fits ty v = true) (hl : k < fs.length) (hdg : decode cc pc = .ok (.putfield index, 3))
    (kk : ∀ (H1 : Heap) (locs1 : List Loc), jx_w D cl A H0 L (va_up f a (.inr (ci, fs.set k v))) H1 locs1 → W p l e R s m args below meth c H1 locs1 cells slots Q (F0 m (pc + 3) ls rest)) : W p l e R s m args below meth c H locs cells slots Q (F0 m pc ls (v :: .ref a :: rest)) := by
  obtain ⟨q0, hq0⟩ := jx_pos ha hfa
  refine va_put hexec hb hts hin ty0 hty hnm hown hG.1 hw.1 hw.2.1 hw.2.2.1 q0 hq0 hc k hk (hts _ hlink) hsame hfin hd hn hfit hl hdg fun H1 locs1 h1 h2 h3 => ?_
  rw [jx_set hw.2.1 ha hfa hq0] at h1 h2
  exact kk H1 locs1 ⟨h1, h2, h3, hw.2.2.2⟩
theorem jx_putN (hexec : p.tables.exec = Jvm.exec) (hb : c.code = cc) {own ref C host : String} {T : u_T} {N ci index : Nat} (hts : ∀ w ∈ TT, w.before args s = true) (hin : ∀ w ∈ u_ws C T N, w ∈ TT) (ty0 : Nat → FieldType) (hty : ∀ k, k < N → parseFieldDescriptor (T k).2.2.1 = some (ty0 k)) (hnm : ∀ a, a < N → ∀ b, b < N → a ≠ b → (T a).2.1 ≠ (T b).2.1) (hown : s.vm.findClass own = some m.cls) (hG : jx_G D cl tys NW s) (hw : jx_w D cl A H0 L f H locs) (ha : a ∈ L) {fs : List Value} (hfa : f a = .inr (ci, fs)) (hc : cl[ci]? = some (C, T, N)) (k : Nat) (hk : k < N) (hlink : Cond.fieldLinkNest own index ref (T k).2.1 (T k).2.2.1 host ∈ NW) (hsame : ∀ x, s.fieldFound? (T k).1 (T k).2.1 (T k).2.2.1 = some x → s.fieldFound? ref (T k).2.1 (T k).2.2.1 = some x) (hfin : (T k).2.2.2 = false) {ty : FieldType} {v : Value} (hd : parseFieldDescriptor (T k).2.2.1 = some ty) (hn : narrow ty v = v) (hfit : fits ty v = true) (hl : k < fs.length) (hdg : decode cc pc = .ok (.putfield index, 3))
    (kk : ∀ (H1 : Heap) (locs1 : List Loc), jx_w D cl A H0 L (va_up f a (.inr (ci, fs.set k v))) H1 locs1 → W p l e R s m args below meth c H1 locs1 cells slots Q (F0 m (pc + 3) ls rest)) : W p l e R s m args below meth c H locs cells slots Q (F0 m pc ls (v :: .ref a :: rest)) := by
  obtain ⟨q0, hq0⟩ := jx_pos ha hfa
  refine va_putN hexec hb hts hin ty0 hty hnm hown hG.1 hw.1 hw.2.1 hw.2.2.1 q0 hq0 hc k hk (va_Nw.use rfl (hG.2.1 _ hlink)) hsame hfin hd hn hfit hl hdg fun H1 locs1 h1 h2 h3 => ?_
  rw [jx_set hw.2.1 ha hfa hq0] at h1 h2
  exact kk H1 locs1 ⟨h1, h2, h3, hw.2.2.2⟩
theorem jx_putF (hexec : p.tables.exec = Jvm.exec) (hb : c.code = cc) {own ref C : String} {T : u_T} {N ci index : Nat} (hts : ∀ w ∈ TT, w.before args s = true) (hin : ∀ w ∈ u_ws C T N, w ∈ TT) (ty0 : Nat → FieldType) (hty : ∀ k, k < N → parseFieldDescriptor (T k).2.2.1 = some (ty0 k)) (hnm : ∀ a, a < N → ∀ b, b < N → a ≠ b → (T a).2.1 ≠ (T b).2.1) (hown : s.vm.findClass own = some m.cls) (hG : jx_G D cl tys NW s) (hw : jx_w D cl A H0 L f H locs) (ha : a ∈ L) {fs : List Value} (hfa : f a = .inr (ci, fs)) (hc : cl[ci]? = some (C, T, N)) (k : Nat) (hk : k < N) (hlink : Cond.fieldLink own index ref (T k).2.1 (T k).2.2.1 ∈ TT) (hsame : ∀ x, s.fieldFound? (T k).1 (T k).2.1 (T k).2.2.1 = some x → s.fieldFound? ref (T k).2.1 (T k).2.2.1 = some x) (hfin : (T k).2.2.2 = true) (hin2 : meth.name = "<init>") (hdecl : (T k).1 = own) {ty : FieldType} {v : Value} (hd : parseFieldDescriptor (T k).2.2.1 = some ty) (hn : narrow ty v = v) (hfit : fits ty v = true) (hl : k < fs.length) (hdg : decode cc pc = .ok (.putfield index, 3))
    (kk : ∀ (H1 : Heap) (locs1 : List Loc), jx_w D cl A H0 L (va_up f a (.inr (ci, fs.set k v))) H1 locs1 → W p l e R s m args below meth c H1 locs1 cells slots Q (F0 m (pc + 3) ls rest)) : W p l e R s m args below meth c H locs cells slots Q (F0 m pc ls (v :: .ref a :: rest)) := by
  obtain ⟨q0, hq0⟩ := jx_pos ha hfa
  refine va_putF hexec hb hts hin ty0 hty hnm hown hG.1 hw.1 hw.2.1 hw.2.2.1 q0 hq0 hc k hk (hts _ hlink) hsame hfin hin2 hdecl hd hn hfit hl hdg fun H1 locs1 h1 h2 h3 => ?_
  rw [jx_set hw.2.1 ha hfa hq0] at h1 h2
  exact kk H1 locs1 ⟨h1, h2, h3, hw.2.2.2⟩
theorem jx_iald (hexec : p.tables.exec = Jvm.exec) (hb : c.code = cc) (hG : jx_G D cl tys NW s) (hw : jx_w D cl A H0 L f H locs) (ha : a ∈ L) (t0 : Nat) {cA : ClassId} {n : Nat} {g : Nat → Int32} (hfa : f a = .inl (cA, n, .inl g)) (ht : tys[t0]? = some (cA, .int)) {i : Int32} (hin : vp_in i n) (hdg : decode cc pc = .ok (.iaload, 1))
    (kk : W p l e R s m args below meth c H locs cells slots Q (F0 m (pc + 1) ls (.int (g i.toNatClampNeg) :: rest))) : W p l e R s m args below meth c H locs cells slots Q (F0 m pc ls (.int i :: .ref a :: rest)) := by
  obtain ⟨q0, hq0⟩ := jx_pos ha hfa
  exact va_iald hexec hb hG.1 hw.1 q0 t0 hq0 ht hin hdg kk
theorem jx_lald (hexec : p.tables.exec = Jvm.exec) (hb : c.code = cc) (hG : jx_G D cl tys NW s) (hw : jx_w D cl A H0 L f H locs) (ha : a ∈ L) (t0 : Nat) {cA : ClassId} {n : Nat} {g : Nat → Int64} (hfa : f a = .inl (cA, n, .inr (.inl g))) (ht : tys[t0]? = some (cA, .long)) {i : Int32} (hin : vp_in i n) (hdg : decode cc pc = .ok (.laload, 1))
    (kk : W p l e R s m args below meth c H locs cells slots Q (F0 m (pc + 1) ls (.long (g i.toNatClampNeg) :: rest))) : W p l e R s m args below meth c H locs cells slots Q (F0 m pc ls (.int i :: .ref a :: rest)) := by
  obtain ⟨q0, hq0⟩ := jx_pos ha hfa
  exact va_lald hexec hb hG.1 hw.1 q0 t0 hq0 ht hin hdg kk
theorem jx_zald (hexec : p.tables.exec = Jvm.exec) (hb : c.code = cc) (hG : jx_G D cl tys NW s) (hw : jx_w D cl A H0 L f H locs) (ha : a ∈ L) (t0 : Nat) {cA : ClassId} {n : Nat} {g : Nat → Int32} (hfa : f a = .inl (cA, n, .inl g)) (ht : tys[t0]? = some (cA, .boolean)) {i : Int32} (hin : vp_in i n) (hdg : decode cc pc = .ok (.baload, 1))
    (kk : W p l e R s m args below meth c H locs cells slots Q (F0 m (pc + 1) ls (.int (g i.toNatClampNeg) :: rest))) : W p l e R s m args below meth c H locs cells slots Q (F0 m pc ls (.int i :: .ref a :: rest)) := by
  obtain ⟨q0, hq0⟩ := jx_pos ha hfa
  exact va_zald hexec hb hG.1 hw.1 q0 t0 hq0 ht hin hdg kk
theorem jx_aldq (hexec : p.tables.exec = Jvm.exec) (hb : c.code = cc) (hG : jx_G D cl tys NW s) (hw : jx_w D cl A H0 L f H locs) (ha : a ∈ L) (t0 : Nat) {cA : ClassId} {C : String} {n : Nat} {g : Nat → Option Nat} (hfa : f a = .inl (cA, n, .inr (.inr (.inr (.inr g))))) (ht : tys[t0]? = some (cA, .object C)) {i : Int32} (hin : vp_in i n) (hdg : decode cc pc = .ok (.aaload, 1))
    (kk : W p l e R s m args below meth c H locs cells slots Q (F0 m (pc + 1) ls (va_rf (g i.toNatClampNeg) :: rest))) : W p l e R s m args below meth c H locs cells slots Q (F0 m pc ls (.int i :: .ref a :: rest)) := by
  obtain ⟨q0, hq0⟩ := jx_pos ha hfa
  exact va_aldq hexec hb hG.1 hw.1 q0 t0 hq0 ht hin hdg kk
theorem jx_iast (hexec : p.tables.exec = Jvm.exec) (hb : c.code = cc) (hG : jx_G D cl tys NW s) (hw : jx_w D cl A H0 L f H locs) (ha : a ∈ L) (t0 : Nat) {cA : ClassId} {n : Nat} {g : Nat → Int32} (hfa : f a = .inl (cA, n, .inl g)) (ht : tys[t0]? = some (cA, .int)) {i x : Int32} (hin : vp_in i n) (hdg : decode cc pc = .ok (.iastore, 1))
    (kk : ∀ (H1 : Heap) (locs1 : List Loc), jx_w D cl A H0 L (va_up f a (.inl (cA, n, .inl (upd g i.toNatClampNeg x)))) H1 locs1 → W p l e R s m args below meth c H1 locs1 cells slots Q (F0 m (pc + 1) ls rest)) : W p l e R s m args below meth c H locs cells slots Q (F0 m pc ls (.int x :: .int i :: .ref a :: rest)) := by
  obtain ⟨q0, hq0⟩ := jx_pos ha hfa
  refine va_iast hexec hb hG.1 hw.1 hw.2.1 hw.2.2.1 q0 t0 hq0 ht hin hdg fun H1 locs1 h1 h2 h3 => ?_
  rw [jx_set hw.2.1 ha hfa hq0] at h1 h2
  exact kk H1 locs1 ⟨h1, h2, h3, hw.2.2.2⟩
theorem jx_last (hexec : p.tables.exec = Jvm.exec) (hb : c.code = cc) (hG : jx_G D cl tys NW s) (hw : jx_w D cl A H0 L f H locs) (ha : a ∈ L) (t0 : Nat) {cA : ClassId} {n : Nat} {g : Nat → Int64} (hfa : f a = .inl (cA, n, .inr (.inl g))) (ht : tys[t0]? = some (cA, .long)) {i : Int32} {x : Int64} (hin : vp_in i n) (hdg : decode cc pc = .ok (.lastore, 1))
    (kk : ∀ (H1 : Heap) (locs1 : List Loc), jx_w D cl A H0 L (va_up f a (.inl (cA, n, .inr (.inl (vp_updL g i.toNatClampNeg x))))) H1 locs1 → W p l e R s m args below meth c H1 locs1 cells slots Q (F0 m (pc + 1) ls rest)) : W p l e R s m args below meth c H locs cells slots Q (F0 m pc ls (.long x :: .int i :: .ref a :: rest)) := by
  obtain ⟨q0, hq0⟩ := jx_pos ha hfa
  refine va_last hexec hb hG.1 hw.1 hw.2.1 hw.2.2.1 q0 t0 hq0 ht hin hdg fun H1 locs1 h1 h2 h3 => ?_
  rw [jx_set hw.2.1 ha hfa hq0] at h1 h2
  exact kk H1 locs1 ⟨h1, h2, h3, hw.2.2.2⟩
theorem jx_astq (hexec : p.tables.exec = Jvm.exec) (hb : c.code = cc) (hG : jx_G D cl tys NW s) (hw : jx_w D cl A H0 L f H locs) (ha : a ∈ L) (t0 ci : Nat) {cA : ClassId} {r : vw_C} {n v : Nat} {vs : List Value} {g : Nat → Option Nat} (hfa : f a = .inl (cA, n, .inr (.inr (.inr (.inr g))))) (ht : tys[t0]? = some (cA, .object r.1)) (hvL : v ∈ L) (hv : f v = .inr (ci, vs)) (hc : cl[ci]? = some r) {i : Int32} (hin : vp_in i n) (hdg : decode cc pc = .ok (.aastore, 1))
    (kk : ∀ (H1 : Heap) (locs1 : List Loc), jx_w D cl A H0 L (va_up f a (.inl (cA, n, .inr (.inr (.inr (.inr (va_up g i.toNatClampNeg (some v)))))))) H1 locs1 → W p l e R s m args below meth c H1 locs1 cells slots Q (F0 m (pc + 1) ls rest)) : W p l e R s m args below meth c H locs cells slots Q (F0 m pc ls (.ref v :: .int i :: .ref a :: rest)) := by
  obtain ⟨q0, hq0⟩ := jx_pos ha hfa
  obtain ⟨qk, hqk⟩ := jx_pos hvL hv
  refine va_astq hexec hb hG.1 hw.1 hw.2.1 hw.2.2.1 q0 t0 qk ci hq0 ht hqk hc hin hdg fun H1 locs1 h1 h2 h3 => ?_
  rw [jx_set hw.2.1 ha hfa hq0] at h1 h2
  exact kk H1 locs1 ⟨h1, h2, h3, hw.2.2.2⟩
theorem jx_astqN (hexec : p.tables.exec = Jvm.exec) (hb : c.code = cc) (hG : jx_G D cl tys NW s) (hw : jx_w D cl A H0 L f H locs) (ha : a ∈ L) (t0 : Nat) {cA : ClassId} {C : String} {n : Nat} {g : Nat → Option Nat} (hfa : f a = .inl (cA, n, .inr (.inr (.inr (.inr g))))) (ht : tys[t0]? = some (cA, .object C)) {i : Int32} (hin : vp_in i n) (hdg : decode cc pc = .ok (.aastore, 1))
    (kk : ∀ (H1 : Heap) (locs1 : List Loc), jx_w D cl A H0 L (va_up f a (.inl (cA, n, .inr (.inr (.inr (.inr (va_up g i.toNatClampNeg none))))))) H1 locs1 → W p l e R s m args below meth c H1 locs1 cells slots Q (F0 m (pc + 1) ls rest)) : W p l e R s m args below meth c H locs cells slots Q (F0 m pc ls (.null :: .int i :: .ref a :: rest)) := by
  obtain ⟨q0, hq0⟩ := jx_pos ha hfa
  refine va_astqN hexec hb hG.1 hw.1 hw.2.1 hw.2.2.1 q0 t0 hq0 ht hin hdg fun H1 locs1 h1 h2 h3 => ?_
  rw [jx_set hw.2.1 ha hfa hq0] at h1 h2
  exact kk H1 locs1 ⟨h1, h2, h3, hw.2.2.2⟩
theorem jx_pushw {q : Nat} {e0 : va_E} {H1 : Heap} (hw : jx_w D cl A H0 L f H locs) (h1 : va_P D cl (va_pl L f ++ [(q, e0)]) H1) (h2 : va_D A (va_pl L f ++ [(q, e0)])) (h3 : va_S A H0 H1 locs) : q ∉ L ∧ jx_w D cl A H0 (L ++ [q]) (va_up f q e0) H1 locs := by
  have hq : q ∉ L := va_pl_fresh2 (X := []) h2
  rw [va_pl_push hq] at h1 h2
  exact ⟨hq, h1, h2, h3, hw.2.2.2⟩
theorem jx_new (hexec : p.tables.exec = Jvm.exec) (hb : c.code = cc) {own C : String} {T : u_T} {N ci index : Nat} (hts : ∀ w ∈ TT, w.before args s = true) (hin : ∀ w ∈ u_ws C T N, w ∈ TT) (ty : Nat → FieldType) (hty : ∀ k, k < N → parseFieldDescriptor (T k).2.2.1 = some (ty k)) (hown : s.vm.findClass own = some m.cls) (hcl : Cond.classLink own index C ∈ TT) (hinst : Cond.instantiable C N ∈ TT) (hini : Cond.initialized C ∈ TT)
    (hG : jx_G D cl tys NW s) (hw : jx_w D cl A H0 L f H locs) (hc : cl[ci]? = some (C, T, N)) {fs : List Value} (hfs : ∀ j, j < N → defaultValue (ty j) = vp_V fs j) (hcells : cells + 1 ≤ R.cells) (hslots : slots + N ≤ R.slots) (hdg : decode cc pc = .ok (.new index, 3))
    (kk : ∀ (q : Nat) (H1 : Heap), q ∉ L → jx_w D cl A H0 (L ++ [q]) (va_up f q (.inr (ci, fs))) H1 locs → W p l e R s m args below meth c H1 locs (cells + 1) (slots + N) Q (F0 m (pc + 3) ls (.ref q :: rest))) : W p l e R s m args below meth c H locs cells slots Q (F0 m pc ls rest) := by
  refine va_new hexec hb hts hin ty hty hown (hts _ hcl) (hts _ hinst) (hts _ hini) hG.1 hw.1 hw.2.1 hw.2.2.1 hw.2.2.2 hc hfs hcells hslots hdg fun q H1 h1 h2 h3 => ?_
  obtain ⟨hq, hw1⟩ := jx_pushw hw h1 h2 h3
  exact kk q H1 hq hw1
theorem jx_last1 {tys : List (ClassId × FieldType)} {x : ClassId × FieldType} : (tys ++ [x])[tys.length]? = some x := by simp
theorem jx_newa (hexec : p.tables.exec = Jvm.exec) (hb : c.code = cc) {atype : ArrayType} (hts : ∀ w ∈ TT, w.before args s = true) (harr : Cond.arrayClass (newarray.typeOf atype) ∈ TT) {ty : FieldType} (hty : newarray.typeOf atype = ty) (hG : jx_G D cl tys NW s) (hw : jx_w D cl A H0 L f H locs) (t0 : Nat) {cA : ClassId} (ht : tys[t0]? = some (cA, ty))
    {n : Int32} {N' : Nat} {a0 : vp_A} (ha : ∀ cA : ClassId, vp_cell cA a0 = arrV cA N' (fun _ => defaultValue ty)) (hn : ¬ n < 0) (hN : n.toNatClampNeg = N') (hbytes : N' * componentBytes ty ≤ 536870912) (hcells : cells + 1 ≤ R.cells) (hslots : slots + N' ≤ R.slots) (hdg : decode cc pc = .ok (.newarray atype, 2))
    (kk : ∀ (q : Nat) (H1 : Heap), q ∉ L → jx_w D cl A H0 (L ++ [q]) (va_up f q (.inl (cA, a0))) H1 locs → W p l e R s m args below meth c H1 locs (cells + 1) (slots + N') Q (F0 m (pc + 2) ls (.ref q :: rest))) : W p l e R s m args below meth c H locs cells slots Q (F0 m pc ls (.int n :: rest)) := by
  refine va_newa hexec hb (hts _ harr) hty hG.1 hw.1 hw.2.1 hw.2.2.1 hw.2.2.2 ha hn hN hbytes hcells hslots hdg fun q cA' H1 hK1 h1 h2 h3 => ?_
  have e1 : cA' = cA := jx_RA_inj (hK1.2 _ _ jx_last1).2 (hG.1.2 t0 _ ht).2
  subst e1
  obtain ⟨hq, hw1⟩ := jx_pushw hw h1 h2 h3
  exact kk q H1 hq hw1
theorem jx_newq (hexec : p.tables.exec = Jvm.exec) (hb : c.code = cc) {own C : String} {index : Nat} (hts : ∀ w ∈ TT, w.before args s = true) (hown : s.vm.findClass own = some m.cls) (hclink : Cond.classLink own index C ∈ TT) (hover : Cond.arrayOver (.object C) ∈ NW) (hG : jx_G D cl tys NW s) (hw : jx_w D cl A H0 L f H locs) (t0 : Nat) {cA : ClassId} (ht : tys[t0]? = some (cA, .object C))
    {n : Int32} {N' : Nat} (hn : ¬ n < 0) (hN : n.toNatClampNeg = N') (hbytes : N' * 4 ≤ 536870912) (hcells : cells + 1 ≤ R.cells) (hslots : slots + N' ≤ R.slots) (hdg : decode cc pc = .ok (.anewarray index, 3))
    (kk : ∀ (q : Nat) (H1 : Heap), q ∉ L → jx_w D cl A H0 (L ++ [q]) (va_up f q (.inl (cA, N', .inr (.inr (.inr (.inr (fun _ => none))))))) H1 locs → W p l e R s m args below meth c H1 locs (cells + 1) (slots + N') Q (F0 m (pc + 3) ls (.ref q :: rest))) : W p l e R s m args below meth c H locs cells slots Q (F0 m pc ls (.int n :: rest)) := by
  refine va_newq hexec hb hown (hts _ hclink) (hG.2.1 _ hover) hG.1 hw.1 hw.2.1 hw.2.2.1 hw.2.2.2 hn hN hbytes hcells hslots hdg fun q cA' H1 hK1 h1 h2 h3 => ?_
  have e1 : cA' = cA := jx_RA_inj (hK1.2 _ _ jx_last1).2 (hG.1.2 t0 _ ht).2
  subst e1
  obtain ⟨hq, hw1⟩ := jx_pushw hw h1 h2 h3
  exact kk q H1 hq hw1
/-! an index that is a Nat; references that may be null -/
theorem jx_ialdI (hexec : p.tables.exec = Jvm.exec) (hb : c.code = cc) (hG : jx_G D cl tys NW s) (hw : jx_w D cl A H0 L f H locs) (ha : a ∈ L) (t0 : Nat) {cA : ClassId} {n : Nat} {g : Nat → Int32} (hfa : f a = .inl (cA, n, .inl g)) (ht : tys[t0]? = some (cA, .int)) {j : Nat} (hj : j < n) (hn : n < 2 ^ 31) (hdg : decode cc pc = .ok (.iaload, 1))
    (kk : W p l e R s m args below meth c H locs cells slots Q (F0 m (pc + 1) ls (.int (g j) :: rest))) : W p l e R s m args below meth c H locs cells slots Q (F0 m pc ls (.int (nI j) :: .ref a :: rest)) := by
  refine jx_iald hexec hb hG hw ha t0 hfa ht (vp_in_nI hj hn) hdg ?_
  rw [nI_clamp (Nat.lt_trans hj hn)]
  exact kk
theorem jx_laldI (hexec : p.tables.exec = Jvm.exec) (hb : c.code = cc) (hG : jx_G D cl tys NW s) (hw : jx_w D cl A H0 L f H locs) (ha : a ∈ L) (t0 : Nat) {cA : ClassId} {n : Nat} {g : Nat → Int64} (hfa : f a = .inl (cA, n, .inr (.inl g))) (ht : tys[t0]? = some (cA, .long)) {j : Nat} (hj : j < n) (hn : n < 2 ^ 31) (hdg : decode cc pc = .ok (.laload, 1))
    (kk : W p l e R s m args below meth c H locs cells slots Q (F0 m (pc + 1) ls (.long (g j) :: rest))) : W p l e R s m args below meth c H locs cells slots Q (F0 m pc ls (.int (nI j) :: .ref a :: rest)) := by
  refine jx_lald hexec hb hG hw ha t0 hfa ht (vp_in_nI hj hn) hdg ?_
  rw [nI_clamp (Nat.lt_trans hj hn)]
  exact kk
theorem jx_aldqI (hexec : p.tables.exec = Jvm.exec) (hb : c.code = cc) (hG : jx_G D cl tys NW s) (hw : jx_w D cl A H0 L f H locs) (ha : a ∈ L) (t0 : Nat) {cA : ClassId} {C : String} {n : Nat} {g : Nat → Option Nat} (hfa : f a = .inl (cA, n, .inr (.inr (.inr (.inr g))))) (ht : tys[t0]? = some (cA, .object C)) {j : Nat} (hj : j < n) (hn : n < 2 ^ 31) (hdg : decode cc pc = .ok (.aaload, 1))
    (kk : W p l e R s m args below meth c H locs cells slots Q (F0 m (pc + 1) ls (va_rf (g j) :: rest))) : W p l e R s m args below meth c H locs cells slots Q (F0 m pc ls (.int (nI j) :: .ref a :: rest)) := by
  refine jx_aldq hexec hb hG hw ha t0 hfa ht (vp_in_nI hj hn) hdg ?_
  rw [nI_clamp (Nat.lt_trans hj hn)]
  exact kk
theorem jx_iastI (hexec : p.tables.exec = Jvm.exec) (hb : c.code = cc) (hG : jx_G D cl tys NW s) (hw : jx_w D cl A H0 L f H locs) (ha : a ∈ L) (t0 : Nat) {cA : ClassId} {n : Nat} {g : Nat → Int32} (hfa : f a = .inl (cA, n, .inl g)) (ht : tys[t0]? = some (cA, .int)) {j : Nat} {x : Int32} (hj : j < n) (hn : n < 2 ^ 31) (hdg : decode cc pc = .ok (.iastore, 1))
    (kk : ∀ (H1 : Heap) (locs1 : List Loc), jx_w D cl A H0 L (va_up f a (.inl (cA, n, .inl (upd g j x)))) H1 locs1 → W p l e R s m args below meth c H1 locs1 cells slots Q (F0 m (pc + 1) ls rest)) : W p l e R s m args below meth c H locs cells slots Q (F0 m pc ls (.int x :: .int (nI j) :: .ref a :: rest)) := by
  refine jx_iast hexec hb hG hw ha t0 hfa ht (vp_in_nI hj hn) hdg ?_
  rw [nI_clamp (Nat.lt_trans hj hn)]
  exact kk
theorem jx_lastI (hexec : p.tables.exec = Jvm.exec) (hb : c.code = cc) (hG : jx_G D cl tys NW s) (hw : jx_w D cl A H0 L f H locs) (ha : a ∈ L) (t0 : Nat) {cA : ClassId} {n : Nat} {g : Nat → Int64} (hfa : f a = .inl (cA, n, .inr (.inl g))) (ht : tys[t0]? = some (cA, .long)) {j : Nat} {x : Int64} (hj : j < n) (hn : n < 2 ^ 31) (hdg : decode cc pc = .ok (.lastore, 1))
    (kk : ∀ (H1 : Heap) (locs1 : List Loc), jx_w D cl A H0 L (va_up f a (.inl (cA, n, .inr (.inl (vp_updL g j x))))) H1 locs1 → W p l e R s m args below meth c H1 locs1 cells slots Q (F0 m (pc + 1) ls rest)) : W p l e R s m args below meth c H locs cells slots Q (F0 m pc ls (.long x :: .int (nI j) :: .ref a :: rest)) := by
  refine jx_last hexec hb hG hw ha t0 hfa ht (vp_in_nI hj hn) hdg ?_
  rw [nI_clamp (Nat.lt_trans hj hn)]
  exact kk
/-- any reference of a kind goes into an array of that kind -/
theorem jx_astqI (hexec : p.tables.exec = Jvm.exec) (hb : c.code = cc) (hG : jx_G D cl tys NW s) (hw : jx_w D cl A H0 L f H locs) (ha : a ∈ L) (t0 ci : Nat) {cA : ClassId} {r : vw_C} {n : Nat} {v : Option Nat} {g : Nat → Option Nat} (hfa : f a = .inl (cA, n, .inr (.inr (.inr (.inr g))))) (ht : tys[t0]? = some (cA, .object r.1)) (hv : ∀ x, v = some x → x ∈ L ∧ ∃ vs, f x = .inr (ci, vs)) (hc : cl[ci]? = some r) {j : Nat} (hj : j < n) (hn : n < 2 ^ 31) (hdg : decode cc pc = .ok (.aastore, 1))
    (kk : ∀ (H1 : Heap) (locs1 : List Loc), jx_w D cl A H0 L (va_up f a (.inl (cA, n, .inr (.inr (.inr (.inr (va_up g j v))))))) H1 locs1 → W p l e R s m args below meth c H1 locs1 cells slots Q (F0 m (pc + 1) ls rest)) : W p l e R s m args below meth c H locs cells slots Q (F0 m pc ls (va_rf v :: .int (nI j) :: .ref a :: rest)) := by
  cases v with
  | none =>
    refine jx_astqN hexec hb hG hw ha t0 hfa ht (vp_in_nI hj hn) hdg ?_
    rw [nI_clamp (Nat.lt_trans hj hn)]
    exact kk
  | some x =>
    obtain ⟨h1, vs, h2⟩ := hv x rfl
    refine jx_astq hexec hb hG hw ha t0 ci hfa ht h1 h2 hc (vp_in_nI hj hn) hdg ?_
    rw [nI_clamp (Nat.lt_trans hj hn)]
    exact kk
theorem jx_aload_nq (hexec : p.tables.exec = Jvm.exec) (hb : c.code = cc) {k : Fin 4} {i : Nat} {r : Option Nat} (hdg : decode cc pc = .ok (.aload_n k, 1)) (hi : (k : Nat) = i) (hl : ls[i]? = some (.val (va_rf r)))
    (kk : W p l e R s m args below meth c H locs cells slots Q (F0 m (pc + 1) ls (va_rf r :: rest))) : W p l e R s m args below meth c H locs cells slots Q (F0 m pc ls rest) := by
  cases r with
  | none => exact lv_aload_nN hexec hb hdg hi hl kk
  | some x => exact lv_aload_n hexec hb hdg hi hl kk
theorem jx_aloadq (hexec : p.tables.exec = Jvm.exec) (hb : c.code = cc) {i : Nat} {r : Option Nat} (hdg : decode cc pc = .ok (.aload i, 2)) (hl : ls[i]? = some (.val (va_rf r)))
    (kk : W p l e R s m args below meth c H locs cells slots Q (F0 m (pc + 2) ls (va_rf r :: rest))) : W p l e R s m args below meth c H locs cells slots Q (F0 m pc ls rest) := by
  cases r with
  | none => exact lv_aloadN hexec hb hdg hl kk
  | some x => exact lv_aload hexec hb hdg hl kk
theorem jx_astore_nq (hexec : p.tables.exec = Jvm.exec) (hb : c.code = cc) {k : Fin 4} {i nL : Nat} {r : Option Nat} {lv lv' : List (Nat × Value)} (hdg : decode cc pc = .ok (.astore_n k, 1)) (hi : (k : Nat) = i) (h : lv_has ls nL lv) (hn : i < nL) (hl : (i, va_rf r) :: lv.filter (fun q => !(q.1 == i) && !(q.1 + 1 == i && q.2.category == 2)) = lv')
    (kk : ∀ ls' : Array Slot, lv_has ls' nL lv' → W p l e R s m args below meth c H locs cells slots Q (F0 m (pc + 1) ls' rest)) : W p l e R s m args below meth c H locs cells slots Q (F0 m pc ls (va_rf r :: rest)) := by
  cases r with
  | none => exact lv_astore_nN hexec hb hdg hi h hn hl kk
  | some x => exact lv_astore_n hexec hb hdg hi h hn hl kk
theorem jx_astoreq (hexec : p.tables.exec = Jvm.exec) (hb : c.code = cc) {i nL : Nat} {r : Option Nat} {lv lv' : List (Nat × Value)} (hdg : decode cc pc = .ok (.astore i, 2)) (h : lv_has ls nL lv) (hn : i < nL) (hl : (i, va_rf r) :: lv.filter (fun q => !(q.1 == i) && !(q.1 + 1 == i && q.2.category == 2)) = lv')
    (kk : ∀ ls' : Array Slot, lv_has ls' nL lv' → W p l e R s m args below meth c H locs cells slots Q (F0 m (pc + 2) ls' rest)) : W p l e R s m args below meth c H locs cells slots Q (F0 m pc ls (va_rf r :: rest)) := by
  cases r with
  | none => exact lv_astoreN hexec hb hdg h hn hl kk
  | some x => exact lv_astore hexec hb hdg h hn hl kk
theorem jx_ifnullq (hexec : p.tables.exec = Jvm.exec) (hb : c.code = cc) {r : Option Nat} {off : Int} {tgt : Nat} (hdg : decode cc pc = .ok (.ifnull off, 3)) (ht : (pc : Int) + off = (tgt : Int)) (kn : r = none → W p l e R s m args below meth c H locs cells slots Q (F0 m tgt ls rest)) (ks : ∀ x, r = some x → W p l e R s m args below meth c H locs cells slots Q (F0 m (pc + 3) ls rest)) : W p l e R s m args below meth c H locs cells slots Q (F0 m pc ls (va_rf r :: rest)) := by
  cases r with
  | none => exact lv_ifnullN hexec hb hdg ht (kn rfl)
  | some x => exact lv_ifnull hexec hb hdg (ks x rfl)
theorem jx_ifnonnullq (hexec : p.tables.exec = Jvm.exec) (hb : c.code = cc) {r : Option Nat} {off : Int} {tgt : Nat} (hdg : decode cc pc = .ok (.ifnonnull off, 3)) (ht : (pc : Int) + off = (tgt : Int)) (kn : r = none → W p l e R s m args below meth c H locs cells slots Q (F0 m (pc + 3) ls rest)) (ks : ∀ x, r = some x → W p l e R s m args below meth c H locs cells slots Q (F0 m tgt ls rest)) : W p l e R s m args below meth c H locs cells slots Q (F0 m pc ls (va_rf r :: rest)) := by
  cases r with
  | none => exact lv_ifnonnullN hexec hb hdg (kn rfl)
  | some x => exact lv_ifnonnull hexec hb hdg ht (ks x rfl)
/-! ends -/
theorem jx_iret {L0 : List Nat} {f0 : Nat → va_E} {post : Option Value → List Nat → (Nat → va_E) → Prop} {mc ms : Nat} {v : Int32} (hexec : p.tables.exec = Jvm.exec) (hb : c.code = cc) (hr : meth.sig.returnType = some .int) (hlk : meth.locks = false) (hw : jx_w D cl (va_A (va_pl L0 f0) s.heap.size) s.heap L f H locs) (hcl : cells ≤ mc) (hsl : slots ≤ ms) (hdg : decode cc pc = .ok (.ireturn, 1)) (hp : post (some (.int v)) L f) :
    W p l e R s m args below meth c H locs cells slots (MQ below (jx_Q D cl s.heap.size L0 f0 post) args s mc ms (va_A (va_pl L0 f0) s.heap.size)) (F0 m pc ls [.int v]) :=
  W.widen hcl hsl (W.iret hexec hb hr (fun t ht _ => ⟨⟨some (.int v), L, f, rfl, hp, by rw [ht]; exact hw.1, hw.2.1⟩, hw.2.2.1.F ht⟩) (fun q hq => hw.2.2.1.2.2 q hq) hdg hlk)
theorem jx_zret {L0 : List Nat} {f0 : Nat → va_E} {post : Option Value → List Nat → (Nat → va_E) → Prop} {mc ms : Nat} {v : Int32} (hexec : p.tables.exec = Jvm.exec) (hb : c.code = cc) (hr : meth.sig.returnType = some .boolean) (hn : narrow .boolean (.int v) = .int v) (hlk : meth.locks = false) (hw : jx_w D cl (va_A (va_pl L0 f0) s.heap.size) s.heap L f H locs) (hcl : cells ≤ mc) (hsl : slots ≤ ms) (hdg : decode cc pc = .ok (.ireturn, 1)) (hp : post (some (.int v)) L f) :
    W p l e R s m args below meth c H locs cells slots (MQ below (jx_Q D cl s.heap.size L0 f0 post) args s mc ms (va_A (va_pl L0 f0) s.heap.size)) (F0 m pc ls [.int v]) :=
  W.widen hcl hsl (W.zret hexec hb hr hn (fun t ht _ => ⟨⟨some (.int v), L, f, rfl, hp, by rw [ht]; exact hw.1, hw.2.1⟩, hw.2.2.1.F ht⟩) (fun q hq => hw.2.2.1.2.2 q hq) hdg hlk)
theorem jx_lret {L0 : List Nat} {f0 : Nat → va_E} {post : Option Value → List Nat → (Nat → va_E) → Prop} {mc ms : Nat} {v : Int64} (hexec : p.tables.exec = Jvm.exec) (hb : c.code = cc) (hr : meth.sig.returnType = some .long) (hlk : meth.locks = false) (hw : jx_w D cl (va_A (va_pl L0 f0) s.heap.size) s.heap L f H locs) (hcl : cells ≤ mc) (hsl : slots ≤ ms) (hdg : decode cc pc = .ok (.lreturn, 1)) (hp : post (some (.long v)) L f) :
    W p l e R s m args below meth c H locs cells slots (MQ below (jx_Q D cl s.heap.size L0 f0 post) args s mc ms (va_A (va_pl L0 f0) s.heap.size)) (F0 m pc ls [.long v]) :=
  W.widen hcl hsl (W.lret hexec hb hr (fun t ht _ => ⟨⟨some (.long v), L, f, rfl, hp, by rw [ht]; exact hw.1, hw.2.1⟩, hw.2.2.1.F ht⟩) (fun q hq => hw.2.2.1.2.2 q hq) hdg hlk)
theorem jx_vret {L0 : List Nat} {f0 : Nat → va_E} {post : Option Value → List Nat → (Nat → va_E) → Prop} {mc ms : Nat} (hexec : p.tables.exec = Jvm.exec) (hb : c.code = cc) (hr : meth.sig.returnType = none) (hlk : meth.locks = false) (hw : jx_w D cl (va_A (va_pl L0 f0) s.heap.size) s.heap L f H locs) (hcl : cells ≤ mc) (hsl : slots ≤ ms) (hdg : decode cc pc = .ok (.return_, 1)) (hp : post none L f) :
    W p l e R s m args below meth c H locs cells slots (MQ below (jx_Q D cl s.heap.size L0 f0 post) args s mc ms (va_A (va_pl L0 f0) s.heap.size)) (F0 m pc ls []) :=
  W.widen hcl hsl (W.vret hexec hb hr (fun t ht _ => ⟨⟨none, L, f, rfl, hp, by rw [ht]; exact hw.1, hw.2.1⟩, hw.2.2.1.F ht⟩) (fun q hq => hw.2.2.1.2.2 q hq) hdg hlk)
theorem jx_aret {L0 : List Nat} {f0 : Nat → va_E} {post : Option Value → List Nat → (Nat → va_E) → Prop} {mc ms : Nat} {v : Value} {rn : String} (hexec : p.tables.exec = Jvm.exec) (hb : c.code = cc) (hr : meth.sig.returnType = some (.object rn)) (hv : v = .null ∨ ∃ a, v = .ref a) (hlk : meth.locks = false) (hw : jx_w D cl (va_A (va_pl L0 f0) s.heap.size) s.heap L f H locs) (hcl : cells ≤ mc) (hsl : slots ≤ ms) (hdg : decode cc pc = .ok (.areturn, 1)) (hp : post (some v) L f) :
    W p l e R s m args below meth c H locs cells slots (MQ below (jx_Q D cl s.heap.size L0 f0 post) args s mc ms (va_A (va_pl L0 f0) s.heap.size)) (F0 m pc ls [v]) :=
  W.widen hcl hsl (W.aret hexec hb hr (Or.inl ⟨rn, rfl⟩) hv (fun t ht _ => ⟨⟨some v, L, f, rfl, hp, by rw [ht]; exact hw.1, hw.2.1⟩, hw.2.2.1.F ht⟩) (fun q hq => hw.2.2.1.2.2 q hq) hdg hlk)
/-! calls -/
theorem jx_call {mc ms : Nat} {st0 : List Value} {av : Array Value} {post : Option Value → List Nat → (Nat → va_E) → Prop} (hr : va_Run p l e R s m args below meth c H locs cells slots mc ms (F0 m pc ls st0) rest (jx_Q D cl H.size L f post av) (va_A (va_pl L f) H.size)) (hw : jx_w D cl A H0 L f H locs)
    (kk : ∀ (v : Option Value) (L' : List Nat) (f' : Nat → va_E) (H1 : Heap) (locs1 : List Loc), post v L' f' → jx_w D cl A H0 L' f' H1 locs1 → (H.size ≤ H1.size ∧ (∀ q : Nat, q < H.size → ¬ va_A (va_pl L f) H.size q → H1[q]? = H[q]?) ∧ va_D (va_A (va_pl L f) H.size) (va_pl L' f')) → W p l e R s m args below meth c H1 locs1 (cells + mc) (slots + ms) Q (F0 m (pc + 3) ls (v.toList ++ rest))) : W p l e R s m args below meth c H locs cells slots Q (F0 m pc ls st0) := by
  intro T hT X
  obtain ⟨v, st₀, t, T', Lo, h0, X', hL, e1, e2, ⟨⟨v', L', f', hv, hp, hP1, hD1⟩, hz, hk⟩, st⟩ := hr T hT X
  cases hv
  rw [h0] at hz hk
  have hAs := jx_sub hw
  have hS := hw.2.2.1
  obtain ⟨t2, a1, b1⟩ := kk v L' f' T'.heap (locs ++ Lo) hp ⟨by rw [e1]; exact hP1, hD1.weaken (fun k q _ h => hAs q.1 h), ⟨Nat.le_trans hS.1 (by rw [e1]; exact hz), fun q h1 h2 => by rw [e1, hk q (Nat.lt_of_lt_of_le h1 hS.1) (fun z => h2 (hAs q z))]; exact hS.2.1 q h1 h2, fun q hq => by
      rcases List.mem_append.mp hq with h | h
      · exact hS.2.2 q h
      · exact hAs _ (hL q h)⟩, hw.2.2.2⟩ ⟨by rw [e1]; exact hz, fun q h1 h2 => by rw [e1]; exact hk q h1 h2, hD1⟩ T' rfl X'
  exact ⟨t2, st t2 a1, b1⟩
theorem jx_blind {sz : Nat} {av : List Value} : FrameBlind (va_Pc av (jx_Pre D cl tys NW sz L f)) := fun a U g mk q => ⟨q.1, q.2.1, q.2.2.1, jx_G.same (u := U) (U := U.calling g mk a) rfl q.2.2.2.1, q.2.2.2.2⟩
theorem jx_pre {av : List Value} (hG : jx_G D cl tys NW s) (hw : jx_w D cl A H0 L f H locs) : ∀ U : State, U.heap = H → s.WarmedH U.vm → va_Pc av (jx_Pre D cl tys NW H.size L f) av.toArray U := fun U hU hW => ⟨rfl, by rw [hU], by rw [hU]; exact hw.1, hG.warm hW, hw.2.1.weaken (fun _ _ _ _ => trivial)⟩
theorem jx_recv {b ci : Nat} {fs : List Value} {r : vw_C} (hG : jx_G D cl tys NW s) (hw : jx_w D cl A H0 L f H locs) (hbL : b ∈ L) (hfb : f b = .inr (ci, fs)) (hc : cl[ci]? = some r) : ∃ cell : Cell, H[b]? = some cell ∧ cell.vm.isStatics = false ∧ s.vm.findClass r.1 = some cell.cls := by
  obtain ⟨q0, hq0⟩ := jx_pos hbL hfb
  exact va_recv hG.1 hw.1 hc hq0
theorem jx_goodV {own : String} {index : Nat} {y : MethodName} {bytes : ByteArray} {n : Nat} {ret : Option FieldType} {C : String} (hTT : GoodIn TT TT) (hcode : Cond.code y bytes n ret ∈ TT) (hl : Cond.methodLink own index y ∈ TT) (hi : Cond.instanceMethod y ∈ TT) (hse : Cond.selects C y y ∈ TT) (hini : Cond.initialized C ∈ TT) : GoodIn TT (wsV own index C y (Cond.code y bytes n ret :: TT)) := by
  intro w h
  simp only [wsV, List.mem_append, List.mem_cons, List.not_mem_nil, or_false] at h
  rcases h with (h | h | h | h) | h | h
  · exact h ▸ hTT _ hl
  · exact h ▸ hTT _ hi
  · exact h ▸ hTT _ hse
  · exact h ▸ hTT _ hini
  · exact h ▸ hTT _ hcode
  · exact hTT _ h
theorem jx_goodC {y : MethodName} {bytes : ByteArray} {n : Nat} {ret : Option FieldType} (hTT : GoodIn TT TT) (hcode : Cond.code y bytes n ret ∈ TT) : GoodIn TT (Cond.code y bytes n ret :: TT) := by
  intro w h
  rcases List.mem_cons.mp h with h | h
  · exact h ▸ hTT _ hcode
  · exact hTT _ h
theorem jx_callV {own C : String} {y : MethodName} {bytes : ByteArray} {n index nL b ci : Nat} {ret : Option FieldType} {rm : Room} {As st0 fs : List Value} {r : vw_C} {post : Option Value → List Nat → (Nat → va_E) → Prop} (hx : p.tables.exec = Jvm.exec) (hb : c.code = cc) (hml : c.maxLocals = nL) (hown : s.vm.findClass own = some m.cls) (hts : ∀ w ∈ TT, w.before args s = true) (hTT : GoodIn TT TT) (hG : jx_G D cl tys NW s) (hw : jx_w D cl A H0 L f H locs)
    (hM : jx_M l D cl tys NW TT y bytes n ret rm (.ref b :: As) L f post) (hcode : Cond.code y bytes n ret ∈ TT) (hl : Cond.methodLink own index y ∈ TT) (hi : Cond.instanceMethod y ∈ TT) (hse : Cond.selects C y y ∈ TT) (hini : Cond.initialized C ∈ TT)
    (hd : y.cls = C ∧ y.cls ≠ "java/lang/invoke/MethodHandle" ∧ y.cls ≠ "java/lang/invoke/VarHandle" ∧ (parseMethodDescriptor y.desc).map (fun d => d.parameters.length) = some As.length) (hR : rm.frames + 1 ≤ R.frames ∧ 8 + (n + 11) + rm.locals ≤ R.locals)
    (hbL : b ∈ L) (hfb : f b = .inr (ci, fs)) (hc : cl[ci]? = some r) (hrC : r.1 = C) (hsize : ls.size = nL) (hstack : st0 = As.reverse ++ .ref b :: rest) (hst : (rest.map fun v => v.category).sum ≤ 8) (hdg : decode cc pc = .ok (.invokevirtual index, 3)) (hf : cells + rm.cells ≤ R.cells ∧ slots + rm.slots ≤ R.slots)
    (kk : ∀ (v : Option Value) (L' : List Nat) (f' : Nat → va_E) (H1 : Heap) (locs1 : List Loc), post v L' f' → jx_w D cl A H0 L' f' H1 locs1 → (H.size ≤ H1.size ∧ (∀ q : Nat, q < H.size → ¬ va_A (va_pl L f) H.size q → H1[q]? = H[q]?) ∧ va_D (va_A (va_pl L f) H.size) (va_pl L' f')) → W p l e R s m args below meth c H1 locs1 (cells + rm.cells) (slots + rm.slots) Q (F0 m (pc + 3) ls (v.toList ++ rest))) : W p l e R s m args below meth c H locs cells slots Q (F0 m pc ls st0) := by
  subst hrC
  exact jx_call (va_runV (As := As) (rest := rest) (C := r.1) ⟨hx, hb, hml, hown, hts⟩ (hM H.size) (cwV As.length hts (jx_goodV hTT hcode hl hi hse hini) rfl rfl rfl hd hR) ⟨jx_blind, jx_recv hG hw hbL hfb hc, jx_pre hG hw⟩ rfl rfl hsize hstack (lv_room hst) hdg hf) hw kk
theorem jx_callVN {own C host : String} {y : MethodName} {bytes : ByteArray} {n index nL b ci : Nat} {ret : Option FieldType} {rm : Room} {As st0 fs : List Value} {r : vw_C} {post : Option Value → List Nat → (Nat → va_E) → Prop} (hx : p.tables.exec = Jvm.exec) (hb : c.code = cc) (hml : c.maxLocals = nL) (hown : s.vm.findClass own = some m.cls) (hts : ∀ w ∈ TT, w.before args s = true) (hTT : GoodIn TT TT) (hG : jx_G D cl tys NW s) (hw : jx_w D cl A H0 L f H locs)
    (hM : jx_M l D cl tys NW TT y bytes n ret rm (.ref b :: As) L f post) (hcode : Cond.code y bytes n ret ∈ TT) (hl : Cond.methodLinkNest own index y host ∈ NW) (hi : Cond.instanceMethod y ∈ TT) (hse : Cond.selects C y y ∈ TT) (hini : Cond.initialized y.cls ∈ TT)
    (hd : y.cls ≠ "java/lang/invoke/MethodHandle" ∧ y.cls ≠ "java/lang/invoke/VarHandle" ∧ (parseMethodDescriptor y.desc).map (fun d => d.parameters.length) = some As.length) (hR : rm.frames + 1 ≤ R.frames ∧ 8 + (n + 11) + rm.locals ≤ R.locals)
    (hbL : b ∈ L) (hfb : f b = .inr (ci, fs)) (hc : cl[ci]? = some r) (hrC : r.1 = C) (hsize : ls.size = nL) (hstack : st0 = As.reverse ++ .ref b :: rest) (hst : (rest.map fun v => v.category).sum ≤ 8) (hdg : decode cc pc = .ok (.invokevirtual index, 3)) (hf : cells + rm.cells ≤ R.cells ∧ slots + rm.slots ≤ R.slots)
    (kk : ∀ (v : Option Value) (L' : List Nat) (f' : Nat → va_E) (H1 : Heap) (locs1 : List Loc), post v L' f' → jx_w D cl A H0 L' f' H1 locs1 → (H.size ≤ H1.size ∧ (∀ q : Nat, q < H.size → ¬ va_A (va_pl L f) H.size q → H1[q]? = H[q]?) ∧ va_D (va_A (va_pl L f) H.size) (va_pl L' f')) → W p l e R s m args below meth c H1 locs1 (cells + rm.cells) (slots + rm.slots) Q (F0 m (pc + 3) ls (v.toList ++ rest))) : W p l e R s m args below meth c H locs cells slots Q (F0 m pc ls st0) := by
  subst hrC
  exact jx_call (va_runVN (As := As) (rest := rest) (C := r.1) ⟨hx, hb, hml, hown, hts⟩ (hM H.size) ⟨va_cnB As.length hts (jx_goodC hTT hcode) rfl rfl rfl (hG.2.1 _ hl) (hts _ hini) hd hR, hts _ hi, hts _ hse⟩ ⟨jx_blind, jx_recv hG hw hbL hfb hc, jx_pre hG hw⟩ rfl rfl hsize hstack (lv_room hst) hdg hf) hw kk
theorem jx_callS {own : String} {y : MethodName} {bytes : ByteArray} {n index nL : Nat} {ret : Option FieldType} {rm : Room} {As st0 : List Value} {post : Option Value → List Nat → (Nat → va_E) → Prop} (hx : p.tables.exec = Jvm.exec) (hb : c.code = cc) (hml : c.maxLocals = nL) (hown : s.vm.findClass own = some m.cls) (hts : ∀ w ∈ TT, w.before args s = true) (hTT : GoodIn TT TT) (hG : jx_G D cl tys NW s) (hw : jx_w D cl A H0 L f H locs)
    (hM : jx_M l D cl tys NW TT y bytes n ret rm As L f post) (hcode : Cond.code y bytes n ret ∈ TT) (hl : Cond.methodLink own index y ∈ TT) (hsta : Cond.static y ∈ TT) (hini : Cond.initialized y.cls ∈ TT)
    (hd : y.cls ≠ "java/lang/invoke/MethodHandle" ∧ y.cls ≠ "java/lang/invoke/VarHandle" ∧ (parseMethodDescriptor y.desc).map (fun d => d.parameters.length) = some As.length) (hR : rm.frames + 1 ≤ R.frames ∧ 8 + (n + 11) + rm.locals ≤ R.locals)
    (hsize : ls.size = nL) (hstack : st0 = As.reverse ++ rest) (hst : (rest.map fun v => v.category).sum ≤ 8) (hdg : decode cc pc = .ok (.invokestatic index, 3)) (hf : cells + rm.cells ≤ R.cells ∧ slots + rm.slots ≤ R.slots)
    (kk : ∀ (v : Option Value) (L' : List Nat) (f' : Nat → va_E) (H1 : Heap) (locs1 : List Loc), post v L' f' → jx_w D cl A H0 L' f' H1 locs1 → (H.size ≤ H1.size ∧ (∀ q : Nat, q < H.size → ¬ va_A (va_pl L f) H.size q → H1[q]? = H[q]?) ∧ va_D (va_A (va_pl L f) H.size) (va_pl L' f')) → W p l e R s m args below meth c H1 locs1 (cells + rm.cells) (slots + rm.slots) Q (F0 m (pc + 3) ls (v.toList ++ rest))) : W p l e R s m args below meth c H locs cells slots Q (F0 m pc ls st0) :=
  jx_call (va_runS (As := As) (rest := rest) ⟨hx, hb, hml, hown, hts⟩ (hM H.size) ⟨callB_of As.length hts (jx_goodC hTT hcode) rfl rfl rfl (hts _ hini) (hts _ hl) hd hR, hts _ hsta⟩ ⟨jx_blind, jx_pre hG hw⟩ rfl rfl hsize hstack (lv_room hst) hdg hf) hw kk
theorem jx_callSN {own host : String} {y : MethodName} {bytes : ByteArray} {n index nL : Nat} {ret : Option FieldType} {rm : Room} {As st0 : List Value} {post : Option Value → List Nat → (Nat → va_E) → Prop} (hx : p.tables.exec = Jvm.exec) (hb : c.code = cc) (hml : c.maxLocals = nL) (hown : s.vm.findClass own = some m.cls) (hts : ∀ w ∈ TT, w.before args s = true) (hTT : GoodIn TT TT) (hG : jx_G D cl tys NW s) (hw : jx_w D cl A H0 L f H locs)
    (hM : jx_M l D cl tys NW TT y bytes n ret rm As L f post) (hcode : Cond.code y bytes n ret ∈ TT) (hl : Cond.methodLinkNest own index y host ∈ NW) (hsta : Cond.static y ∈ TT) (hini : Cond.initialized y.cls ∈ TT)
    (hd : y.cls ≠ "java/lang/invoke/MethodHandle" ∧ y.cls ≠ "java/lang/invoke/VarHandle" ∧ (parseMethodDescriptor y.desc).map (fun d => d.parameters.length) = some As.length) (hR : rm.frames + 1 ≤ R.frames ∧ 8 + (n + 11) + rm.locals ≤ R.locals)
    (hsize : ls.size = nL) (hstack : st0 = As.reverse ++ rest) (hst : (rest.map fun v => v.category).sum ≤ 8) (hdg : decode cc pc = .ok (.invokestatic index, 3)) (hf : cells + rm.cells ≤ R.cells ∧ slots + rm.slots ≤ R.slots)
    (kk : ∀ (v : Option Value) (L' : List Nat) (f' : Nat → va_E) (H1 : Heap) (locs1 : List Loc), post v L' f' → jx_w D cl A H0 L' f' H1 locs1 → (H.size ≤ H1.size ∧ (∀ q : Nat, q < H.size → ¬ va_A (va_pl L f) H.size q → H1[q]? = H[q]?) ∧ va_D (va_A (va_pl L f) H.size) (va_pl L' f')) → W p l e R s m args below meth c H1 locs1 (cells + rm.cells) (slots + rm.slots) Q (F0 m (pc + 3) ls (v.toList ++ rest))) : W p l e R s m args below meth c H locs cells slots Q (F0 m pc ls st0) :=
  jx_call (va_runSN (As := As) (rest := rest) ⟨hx, hb, hml, hown, hts⟩ (hM H.size) ⟨va_cnB As.length hts (jx_goodC hTT hcode) rfl rfl rfl (hG.2.1 _ hl) (hts _ hini) hd hR, hts _ hsta, trivial⟩ ⟨jx_blind, jx_pre hG hw⟩ rfl rfl hsize hstack (lv_room hst) hdg hf) hw kk
theorem jx_callI {own : String} {y : MethodName} {bytes : ByteArray} {n index nL b : Nat} {rm : Room} {As st0 : List Value} {post : Option Value → List Nat → (Nat → va_E) → Prop} (hx : p.tables.exec = Jvm.exec) (hb : c.code = cc) (hml : c.maxLocals = nL) (hown : s.vm.findClass own = some m.cls) (hts : ∀ w ∈ TT, w.before args s = true) (hTT : GoodIn TT TT) (hG : jx_G D cl tys NW s) (hw : jx_w D cl A H0 L f H locs)
    (hM : jx_M l D cl tys NW TT y bytes n none rm (.ref b :: As) L f post) (hcode : Cond.code y bytes n none ∈ TT) (hl : Cond.methodLink own index y ∈ TT) (hi : Cond.instanceMethod y ∈ TT) (hini : Cond.initialized y.cls ∈ TT) (hy1 : y.name = "<init>")
    (hd : y.cls ≠ "java/lang/invoke/MethodHandle" ∧ y.cls ≠ "java/lang/invoke/VarHandle" ∧ (parseMethodDescriptor y.desc).map (fun d => d.parameters.length) = some As.length) (hR : rm.frames + 1 ≤ R.frames ∧ 8 + (n + 11) + rm.locals ≤ R.locals)
    (hsize : ls.size = nL) (hstack : st0 = As.reverse ++ .ref b :: rest) (hst : (rest.map fun v => v.category).sum ≤ 8) (hdg : decode cc pc = .ok (.invokespecial index, 3)) (hf : cells + rm.cells ≤ R.cells ∧ slots + rm.slots ≤ R.slots)
    (kk : ∀ (v : Option Value) (L' : List Nat) (f' : Nat → va_E) (H1 : Heap) (locs1 : List Loc), post v L' f' → jx_w D cl A H0 L' f' H1 locs1 → (H.size ≤ H1.size ∧ (∀ q : Nat, q < H.size → ¬ va_A (va_pl L f) H.size q → H1[q]? = H[q]?) ∧ va_D (va_A (va_pl L f) H.size) (va_pl L' f')) → W p l e R s m args below meth c H1 locs1 (cells + rm.cells) (slots + rm.slots) Q (F0 m (pc + 3) ls (v.toList ++ rest))) : W p l e R s m args below meth c H locs cells slots Q (F0 m pc ls st0) :=
  jx_call (va_runI (As := As) (rest := rest) ⟨hx, hb, hml, hown, hts⟩ (hM H.size) ⟨callB_of As.length hts (jx_goodC hTT hcode) rfl rfl rfl (hts _ hini) (hts _ hl) hd hR, hy1, hts _ hi⟩ ⟨jx_blind, jx_pre hG hw⟩ rfl rfl hsize hstack (lv_room hst) hdg hf) hw kk
theorem jx_callIN {own host : String} {y : MethodName} {bytes : ByteArray} {n index nL b : Nat} {rm : Room} {As st0 : List Value} {post : Option Value → List Nat → (Nat → va_E) → Prop} (hx : p.tables.exec = Jvm.exec) (hb : c.code = cc) (hml : c.maxLocals = nL) (hown : s.vm.findClass own = some m.cls) (hts : ∀ w ∈ TT, w.before args s = true) (hTT : GoodIn TT TT) (hG : jx_G D cl tys NW s) (hw : jx_w D cl A H0 L f H locs)
    (hM : jx_M l D cl tys NW TT y bytes n none rm (.ref b :: As) L f post) (hcode : Cond.code y bytes n none ∈ TT) (hl : Cond.methodLinkNest own index y host ∈ NW) (hi : Cond.instanceMethod y ∈ TT) (hini : Cond.initialized y.cls ∈ TT) (hy1 : y.name = "<init>")
    (hd : y.cls ≠ "java/lang/invoke/MethodHandle" ∧ y.cls ≠ "java/lang/invoke/VarHandle" ∧ (parseMethodDescriptor y.desc).map (fun d => d.parameters.length) = some As.length) (hR : rm.frames + 1 ≤ R.frames ∧ 8 + (n + 11) + rm.locals ≤ R.locals)
    (hsize : ls.size = nL) (hstack : st0 = As.reverse ++ .ref b :: rest) (hst : (rest.map fun v => v.category).sum ≤ 8) (hdg : decode cc pc = .ok (.invokespecial index, 3)) (hf : cells + rm.cells ≤ R.cells ∧ slots + rm.slots ≤ R.slots)
    (kk : ∀ (v : Option Value) (L' : List Nat) (f' : Nat → va_E) (H1 : Heap) (locs1 : List Loc), post v L' f' → jx_w D cl A H0 L' f' H1 locs1 → (H.size ≤ H1.size ∧ (∀ q : Nat, q < H.size → ¬ va_A (va_pl L f) H.size q → H1[q]? = H[q]?) ∧ va_D (va_A (va_pl L f) H.size) (va_pl L' f')) → W p l e R s m args below meth c H1 locs1 (cells + rm.cells) (slots + rm.slots) Q (F0 m (pc + 3) ls (v.toList ++ rest))) : W p l e R s m args below meth c H locs cells slots Q (F0 m pc ls st0) :=
  jx_call (va_runIN (As := As) (rest := rest) ⟨hx, hb, hml, hown, hts⟩ (hM H.size) ⟨va_cnB As.length hts (jx_goodC hTT hcode) rfl rfl rfl (hG.2.1 _ hl) (hts _ hini) hd hR, hy1, hts _ hi⟩ ⟨jx_blind, jx_pre hG hw⟩ rfl rfl hsize hstack (lv_room hst) hdg hf) hw kk
end JXR
/-- what a method's body may use -/
def jx_C (D : va_G) (cl : List vw_C) (tys : List (ClassId × FieldType)) (NW TT : List Cond) (p : Program) (s : State) (m : MethodId) (args : Array Value) (meth : Method) (c : Code) (y : MethodName) (cc : ByteArray) (n : Nat) (ret : Option FieldType) : Prop :=
  p.tables.exec = Jvm.exec ∧ c.code = cc ∧ meth.sig.returnType = ret ∧ meth.locks = false ∧ meth.name = y.name ∧ c.maxLocals = n ∧ s.vm.findClass y.cls = some m.cls ∧ (∀ w ∈ TT, w.before args s = true) ∧ jx_G D cl tys NW s
theorem jx_enter {l : Launch} {D : va_G} {cl : List vw_C} {tys : List (ClassId × FieldType)} {NW TT : List Cond} {y : MethodName} {bytes : ByteArray} {n : Nat} {ret : Option FieldType} {rm : Room} {av : List Value} {L : List Nat} {f : Nat → va_E} {post : Option Value → List Nat → (Nat → va_E) → Prop} (hy : plainName y.cls = true) (hn : (lg_sl av).length ≤ n)
    (body : ∀ (p : Program) (e : Env) (s : State) (m : MethodId) (below : List Frame) (meth : Method) (c : Code), jx_C D cl tys NW TT p s m av.toArray meth c y bytes n ret → jx_w D cl (va_A (va_pl L f) s.heap.size) s.heap L f s.heap [] → ∀ ls : Array Slot, lv_has ls n (lv_args 0 av) →
      W p l e rm s m av.toArray below meth c s.heap [] 0 0 (MQ below (jx_Q D cl s.heap.size L f post) av.toArray s rm.cells rm.slots (va_A (va_pl L f) s.heap.size)) (F0 m 0 ls [])) : jx_M l D cl tys NW TT y bytes n ret rm av L f post := by
  intro sz
  refine Met.ofW (cc := bytes) (maxL := n) (ret := ret) hy rfl ?_
  intro p e s m args below meth c s₁ B hml hv
  obtain ⟨rfl, hsz, hP, hG, hD0⟩ := hv
  subst hsz
  have hts := atoms_spec (ws := Cond.code y bytes n ret :: TT) B.pre
  have hl := lv_entry av (n := n) hn
  rw [lg_entry_eq]
  exact body p e s m below meth c ⟨B.exec, B.bytes, B.returns, B.notSynchronized, (name_of_methodNamed B.named B.method).1, hml, findClass_of_methodNamed B.named, fun w h => hts w (List.mem_cons_of_mem _ h), hG⟩ ⟨hP, hD0.self (sz := s.heap.size), va_S.rf, fun q h => Or.inr h⟩ _ hl
end
section
abbrev RO : String := RX0
abbrev jz_cl : List vw_C := [(RX2, TX2, 1), (RX0, TX0, 5), (RX1, TX1, 7), (RX3, TX3, 4)]
abbrev jz_tys (ct : Nat → ClassId) : List (ClassId × FieldType) := [(ct 0, .int), (ct 1, .object "JumpOrder$Place"), (ct 2, .object "JumpOrder$Order"), (ct 3, .short), (ct 4, .long), (ct 5, .boolean)]
def jz_TT : List Cond := lw_tbl.filter goodWord
def jz_NW : List Cond := lw_tbl.filter jx_isN
theorem jz_TTok : GoodIn jz_TT jz_TT := fun w h => ⟨h, good_of_word (List.mem_filter.mp h).2⟩
abbrev jz_G (D : va_G) (ct : Nat → ClassId) (U : State) : Prop := jx_G D jz_cl (jz_tys ct) jz_NW U
abbrev jz_w (D : va_G) (A : Nat → Prop) (H0 : Heap) (L : List Nat) (f : Nat → va_E) (H : Heap) (locs : List Loc) : Prop := jx_w D jz_cl A H0 L f H locs
abbrev jz_M (l : Launch) (D : va_G) (ct : Nat → ClassId) (y : MethodName) (bytes : ByteArray) (n : Nat) (ret : Option FieldType) (rm : Room) (av : List Value) (L : List Nat) (f : Nat → va_E) (post : Option Value → List Nat → (Nat → va_E) → Prop) : Prop := jx_M l D jz_cl (jz_tys ct) jz_NW jz_TT y bytes n ret rm av L f post
theorem jz_inX : ∀ w ∈ u_ws RX2 TX2 1, w ∈ jz_TT := by decide +kernel
theorem jz_inO : ∀ w ∈ u_ws RX0 TX0 5, w ∈ jz_TT := by decide +kernel
theorem jz_inP : ∀ w ∈ u_ws RX1 TX1 7, w ∈ jz_TT := by decide +kernel
theorem jz_inM : ∀ w ∈ u_ws RX3 TX3 4, w ∈ jz_TT := by decide +kernel
theorem jz_c_X_init : Cond.code yX2_init cX2_init 2 none ∈ jz_TT := List.mem_filter.mpr ⟨List.mem_of_getElem? (i := 25) rfl, rfl⟩
theorem jz_objc : Cond.code objectInit ⟨#[0xb1]⟩ 1 none ∈ jz_TT := List.mem_filter.mpr ⟨List.mem_of_getElem? (i := 28) rfl, rfl⟩
theorem jz_c_O_init : Cond.code yX0_init cX0_init 1 none ∈ jz_TT := List.mem_filter.mpr ⟨List.mem_of_getElem? (i := 34) rfl, rfl⟩
theorem jz_c_P_init : Cond.code yX1_init cX1_init 3 none ∈ jz_TT := List.mem_filter.mpr ⟨List.mem_of_getElem? (i := 40) rfl, rfl⟩
theorem jz_c_P_wordOf : Cond.code yX1_wordOf cX1_wordOf 1 (some .int) ∈ jz_TT := List.mem_filter.mpr ⟨List.mem_of_getElem? (i := 44) rfl, rfl⟩
theorem jz_c_O_makeBare : Cond.code yX0_makeBare cX0_makeBare 2 none ∈ jz_TT := List.mem_filter.mpr ⟨List.mem_of_getElem? (i := 81) rfl, rfl⟩
theorem jz_c_X_set : Cond.code yX2_set cX2_set 7 (some .int) ∈ jz_TT := List.mem_filter.mpr ⟨List.mem_of_getElem? (i := 106) rfl, rfl⟩
theorem jz_c_X_orderOf : Cond.code yX2_orderOf cX2_orderOf 2 (some (.object "JumpOrder$Order")) ∈ jz_TT := List.mem_filter.mpr ⟨List.mem_of_getElem? (i := 110) rfl, rfl⟩
theorem jz_c_X_isMember : Cond.code yX2_isMember cX2_isMember 1 (some .boolean) ∈ jz_TT := List.mem_filter.mpr ⟨List.mem_of_getElem? (i := 113) rfl, rfl⟩
theorem jz_c_O_placeOf : Cond.code yX0_placeOf cX0_placeOf 3 (some (.object "JumpOrder$Place")) ∈ jz_TT := List.mem_filter.mpr ⟨List.mem_of_getElem? (i := 117) rfl, rfl⟩
theorem jz_c_O_enter : Cond.code yX0_enter cX0_enter 5 none ∈ jz_TT := List.mem_filter.mpr ⟨List.mem_of_getElem? (i := 122) rfl, rfl⟩
theorem jz_c_O_heightOf : Cond.code yX0_heightOf cX0_heightOf 3 (some .int) ∈ jz_TT := List.mem_filter.mpr ⟨List.mem_of_getElem? (i := 125) rfl, rfl⟩
theorem jz_c_O_putIn : Cond.code yX0_putIn cX0_putIn 4 none ∈ jz_TT := List.mem_filter.mpr ⟨List.mem_of_getElem? (i := 130) rfl, rfl⟩
theorem jz_c_O_countAheadOf : Cond.code yX0_countAheadOf cX0_countAheadOf 6 (some .int) ∈ jz_TT := List.mem_filter.mpr ⟨List.mem_of_getElem? (i := 134) rfl, rfl⟩
theorem jz_c_O_goToHead : Cond.code yX0_goToHead cX0_goToHead 1 none ∈ jz_TT := List.mem_filter.mpr ⟨List.mem_of_getElem? (i := 138) rfl, rfl⟩
theorem jz_c_P_isAheadOf : Cond.code yX1_isAheadOf cX1_isAheadOf 4 (some .boolean) ∈ jz_TT := List.mem_filter.mpr ⟨List.mem_of_getElem? (i := 142) rfl, rfl⟩
theorem jz_c_O_goAheadOf : Cond.code yX0_goAheadOf cX0_goAheadOf 4 none ∈ jz_TT := List.mem_filter.mpr ⟨List.mem_of_getElem? (i := 146) rfl, rfl⟩
theorem jz_c_O_move : Cond.code yX0_move cX0_move 4 none ∈ jz_TT := List.mem_filter.mpr ⟨List.mem_of_getElem? (i := 150) rfl, rfl⟩
theorem jz_c_O_takeOut : Cond.code yX0_takeOut cX0_takeOut 4 none ∈ jz_TT := List.mem_filter.mpr ⟨List.mem_of_getElem? (i := 154) rfl, rfl⟩
theorem jz_c_X_remove : Cond.code yX2_remove cX2_remove 5 (some .int) ∈ jz_TT := List.mem_filter.mpr ⟨List.mem_of_getElem? (i := 158) rfl, rfl⟩
theorem jz_c_O_leave : Cond.code yX0_leave cX0_leave 2 none ∈ jz_TT := List.mem_filter.mpr ⟨List.mem_of_getElem? (i := 162) rfl, rfl⟩
theorem jz_c_X_clear : Cond.code yX2_clear cX2_clear 3 (some .int) ∈ jz_TT := List.mem_filter.mpr ⟨List.mem_of_getElem? (i := 166) rfl, rfl⟩
theorem jz_c_O_leaveAll : Cond.code yX0_leaveAll cX0_leaveAll 3 (some .int) ∈ jz_TT := List.mem_filter.mpr ⟨List.mem_of_getElem? (i := 170) rfl, rfl⟩
theorem jz_c_X_score : Cond.code yX2_score cX2_score 5 (some .long) ∈ jz_TT := List.mem_filter.mpr ⟨List.mem_of_getElem? (i := 174) rfl, rfl⟩
theorem jz_c_X_rank : Cond.code yX2_rank cX2_rank 5 (some .int) ∈ jz_TT := List.mem_filter.mpr ⟨List.mem_of_getElem? (i := 179) rfl, rfl⟩
theorem jz_c_X_at : Cond.code yX2_at cX2_at 5 (some .int) ∈ jz_TT := List.mem_filter.mpr ⟨List.mem_of_getElem? (i := 184) rfl, rfl⟩
theorem jz_c_O_placeOfRank : Cond.code yX0_placeOfRank cX0_placeOfRank 3 (some (.object "JumpOrder$Place")) ∈ jz_TT := List.mem_filter.mpr ⟨List.mem_of_getElem? (i := 188) rfl, rfl⟩
theorem jz_c_X_below : Cond.code yX2_below cX2_below 6 (some .int) ∈ jz_TT := List.mem_filter.mpr ⟨List.mem_of_getElem? (i := 192) rfl, rfl⟩
theorem jz_c_X_size : Cond.code yX2_size cX2_size 3 (some .int) ∈ jz_TT := List.mem_filter.mpr ⟨List.mem_of_getElem? (i := 197) rfl, rfl⟩
theorem jz_c_X_walk : Cond.code yX2_walk cX2_walk 8 (some .int) ∈ jz_TT := List.mem_filter.mpr ⟨List.mem_of_getElem? (i := 201) rfl, rfl⟩
theorem jz_c_M_init : Cond.code yX3_init cX3_init 1 none ∈ jz_TT := List.mem_filter.mpr ⟨List.mem_of_getElem? (i := 206) rfl, rfl⟩
theorem jz_c_M_set : Cond.code yX3_set cX3_set 9 (some .int) ∈ jz_TT := List.mem_filter.mpr ⟨List.mem_of_getElem? (i := 227) rfl, rfl⟩
theorem jz_c_M_isGood : Cond.code yX3_isGood cX3_isGood 2 (some .boolean) ∈ jz_TT := List.mem_filter.mpr ⟨List.mem_of_getElem? (i := 230) rfl, rfl⟩
theorem jz_c_M_isOrder : Cond.code yX3_isOrder cX3_isOrder 1 (some .boolean) ∈ jz_TT := List.mem_filter.mpr ⟨List.mem_of_getElem? (i := 233) rfl, rfl⟩
theorem jz_c_M_leave : Cond.code yX3_leave cX3_leave 6 none ∈ jz_TT := List.mem_filter.mpr ⟨List.mem_of_getElem? (i := 237) rfl, rfl⟩
theorem jz_c_M_place : Cond.code yX3_place cX3_place 6 (some .int) ∈ jz_TT := List.mem_filter.mpr ⟨List.mem_of_getElem? (i := 241) rfl, rfl⟩
theorem jz_c_M_isAhead : Cond.code yX3_isAhead cX3_isAhead 8 (some .boolean) ∈ jz_TT := List.mem_filter.mpr ⟨List.mem_of_getElem? (i := 245) rfl, rfl⟩
theorem jz_c_M_word : Cond.code yX3_word cX3_word 1 (some .int) ∈ jz_TT := List.mem_filter.mpr ⟨List.mem_of_getElem? (i := 248) rfl, rfl⟩
theorem jz_c_M_remove : Cond.code yX3_remove cX3_remove 3 (some .int) ∈ jz_TT := List.mem_filter.mpr ⟨List.mem_of_getElem? (i := 252) rfl, rfl⟩
theorem jz_c_M_clear : Cond.code yX3_clear cX3_clear 4 (some .int) ∈ jz_TT := List.mem_filter.mpr ⟨List.mem_of_getElem? (i := 256) rfl, rfl⟩
theorem jz_c_M_score : Cond.code yX3_score cX3_score 3 (some .long) ∈ jz_TT := List.mem_filter.mpr ⟨List.mem_of_getElem? (i := 260) rfl, rfl⟩
theorem jz_c_M_rank : Cond.code yX3_rank cX3_rank 4 (some .int) ∈ jz_TT := List.mem_filter.mpr ⟨List.mem_of_getElem? (i := 265) rfl, rfl⟩
theorem jz_c_M_at : Cond.code yX3_at cX3_at 3 (some .int) ∈ jz_TT := List.mem_filter.mpr ⟨List.mem_of_getElem? (i := 269) rfl, rfl⟩
theorem jz_c_M_below : Cond.code yX3_below cX3_below 9 (some .int) ∈ jz_TT := List.mem_filter.mpr ⟨List.mem_of_getElem? (i := 273) rfl, rfl⟩
theorem jz_c_M_size : Cond.code yX3_size cX3_size 2 (some .int) ∈ jz_TT := List.mem_filter.mpr ⟨List.mem_of_getElem? (i := 277) rfl, rfl⟩
theorem jz_c_M_walk : Cond.code yX3_walk cX3_walk 6 (some .int) ∈ jz_TT := List.mem_filter.mpr ⟨List.mem_of_getElem? (i := 281) rfl, rfl⟩
section JZ
variable {p : Program} {l : Launch} {e : Env} {R : Room} {s : State} {m : MethodId} {args : Array Value} {below : List Frame} {meth : Method} {c : Code} {H : Heap} {locs : List Loc} {cells slots : Nat} {Q : State → Prop}
variable {cc : ByteArray} {pc : Nat} {ls : Array Slot} {rest : List Value} {D : va_G} {ct : Nat → ClassId} {A : Nat → Prop} {a : Nat} {H0 : Heap} {L : List Nat} {f : Nat → va_E}
theorem pf_X_13 (hx : p.tables.exec = Jvm.exec) (hb : c.code = cc) (hown : s.vm.findClass RX2 = some m.cls) (hts : ∀ w ∈ jz_TT, w.before args s = true) (hG : jz_G D ct s) (hw : jz_w D A H0 L f H locs) (ha : a ∈ L) {v0 : Value} (hfa : f a = .inr (0, [v0])) (hin2 : meth.name = "<init>") {y : Nat} (hdg : decode cc pc = .ok (.putfield 13, 3)) (kk : ∀ (H1 : Heap) (locs1 : List Loc), jz_w D A H0 L (va_up f a (.inr (0, [.ref y]))) H1 locs1 → W p l e R s m args below meth c H1 locs1 cells slots Q (F0 m (pc + 3) ls rest)) : W p l e R s m args below meth c H locs cells slots Q (F0 m pc ls (.ref y :: .ref a :: rest)) :=
  jx_putF (own := RX2) (ref := "JumpOrder") (C := RX2) (T := TX2) (N := 1) hx hb hts jz_inX tyX2 tyX2_ok nmX2 hown hG hw ha hfa rfl 0 (by decide) (by decide +kernel) (fun _ h => h) rfl hin2 rfl (ty := .array (.object "JumpOrder$Order")) (by decide +kernel) rfl rfl (Nat.le_of_ble_eq_true rfl) hdg kk
theorem gf_X_13 (hx : p.tables.exec = Jvm.exec) (hb : c.code = cc) (hown : s.vm.findClass RX2 = some m.cls) (hts : ∀ w ∈ jz_TT, w.before args s = true) (hG : jz_G D ct s) (hw : jz_w D A H0 L f H locs) (ha : a ∈ L) {v0 : Value} (hfa : f a = .inr (0, [v0])) (hdg : decode cc pc = .ok (.getfield 13, 3)) (kk : W p l e R s m args below meth c H locs cells slots Q (F0 m (pc + 3) ls (v0 :: rest))) : W p l e R s m args below meth c H locs cells slots Q (F0 m pc ls (.ref a :: rest)) :=
  jx_get (own := RX2) (ref := "JumpOrder") (C := RX2) (T := TX2) (N := 1) hx hb hts jz_inX hown hG hw ha hfa rfl 0 (by decide) (by decide +kernel) (fun _ h => h) rfl hdg kk
theorem cl_X_17 {nL b : Nat} {rm : Room} {As st0 : List Value} {post : Option Value → List Nat → (Nat → va_E) → Prop} (hx : p.tables.exec = Jvm.exec) (hb : c.code = cc) (hml : c.maxLocals = nL) (hown : s.vm.findClass RX2 = some m.cls) (hts : ∀ w ∈ jz_TT, w.before args s = true) (hG : jz_G D ct s) (hw : jz_w D A H0 L f H locs) (hM : jz_M l D ct yX0_init cX0_init 1 none rm (.ref b :: As) L f post) (hAs : As.length = 0) (hR : rm.frames + 1 ≤ R.frames ∧ 8 + (1 + 11) + rm.locals ≤ R.locals) (hsize : ls.size = nL) (hstack : st0 = As.reverse ++ .ref b :: rest) (hst : (rest.map fun v => v.category).sum ≤ 8) (hdg : decode cc pc = .ok (.invokespecial 17, 3)) (hf : cells + rm.cells ≤ R.cells ∧ slots + rm.slots ≤ R.slots) (kk : ∀ (v : Option Value) (L' : List Nat) (f' : Nat → va_E) (H1 : Heap) (locs1 : List Loc), post v L' f' → jz_w D A H0 L' f' H1 locs1 → (H.size ≤ H1.size ∧ (∀ q : Nat, q < H.size → ¬ va_A (va_pl L f) H.size q → H1[q]? = H[q]?) ∧ va_D (va_A (va_pl L f) H.size) (va_pl L' f')) → W p l e R s m args below meth c H1 locs1 (cells + rm.cells) (slots + rm.slots) Q (F0 m (pc + 3) ls (v.toList ++ rest))) : W p l e R s m args below meth c H locs cells slots Q (F0 m pc ls st0) :=
  jx_callIN (own := RX2) (host := "JumpOrder") hx hb hml hown hts jz_TTok hG hw hM jz_c_O_init (by decide +kernel) (by decide +kernel) (by decide +kernel) rfl ⟨by decide, by decide, by rw [hAs]; decide +kernel⟩ hR hsize hstack hst hdg hf kk
theorem cl_X_18 {nL b : Nat} {rm : Room} {As st0 fs : List Value} {post : Option Value → List Nat → (Nat → va_E) → Prop} (hx : p.tables.exec = Jvm.exec) (hb : c.code = cc) (hml : c.maxLocals = nL) (hown : s.vm.findClass RX2 = some m.cls) (hts : ∀ w ∈ jz_TT, w.before args s = true) (hG : jz_G D ct s) (hw : jz_w D A H0 L f H locs) (hM : jz_M l D ct yX2_orderOf cX2_orderOf 2 (some (.object "JumpOrder$Order")) rm (.ref b :: As) L f post) (hAs : As.length = 1) (hR : rm.frames + 1 ≤ R.frames ∧ 8 + (2 + 11) + rm.locals ≤ R.locals) (hbL : b ∈ L) (hfb : f b = .inr (0, fs)) (hsize : ls.size = nL) (hstack : st0 = As.reverse ++ .ref b :: rest) (hst : (rest.map fun v => v.category).sum ≤ 8) (hdg : decode cc pc = .ok (.invokevirtual 18, 3)) (hf : cells + rm.cells ≤ R.cells ∧ slots + rm.slots ≤ R.slots) (kk : ∀ (v : Option Value) (L' : List Nat) (f' : Nat → va_E) (H1 : Heap) (locs1 : List Loc), post v L' f' → jz_w D A H0 L' f' H1 locs1 → (H.size ≤ H1.size ∧ (∀ q : Nat, q < H.size → ¬ va_A (va_pl L f) H.size q → H1[q]? = H[q]?) ∧ va_D (va_A (va_pl L f) H.size) (va_pl L' f')) → W p l e R s m args below meth c H1 locs1 (cells + rm.cells) (slots + rm.slots) Q (F0 m (pc + 3) ls (v.toList ++ rest))) : W p l e R s m args below meth c H locs cells slots Q (F0 m pc ls st0) :=
  jx_callV (own := RX2) (C := RX2) hx hb hml hown hts jz_TTok hG hw hM jz_c_X_orderOf (by decide +kernel) (by decide +kernel) (by decide +kernel) (by decide +kernel) ⟨rfl, by decide, by decide, by rw [hAs]; decide +kernel⟩ hR hbL hfb rfl rfl hsize hstack hst hdg hf kk
theorem cl_X_22 {nL : Nat} {rm : Room} {As st0 : List Value} {post : Option Value → List Nat → (Nat → va_E) → Prop} (hx : p.tables.exec = Jvm.exec) (hb : c.code = cc) (hml : c.maxLocals = nL) (hown : s.vm.findClass RX2 = some m.cls) (hts : ∀ w ∈ jz_TT, w.before args s = true) (hG : jz_G D ct s) (hw : jz_w D A H0 L f H locs) (hM : jz_M l D ct yX2_isMember cX2_isMember 1 (some .boolean) rm As L f post) (hAs : As.length = 1) (hR : rm.frames + 1 ≤ R.frames ∧ 8 + (1 + 11) + rm.locals ≤ R.locals) (hsize : ls.size = nL) (hstack : st0 = As.reverse ++ rest) (hst : (rest.map fun v => v.category).sum ≤ 8) (hdg : decode cc pc = .ok (.invokestatic 22, 3)) (hf : cells + rm.cells ≤ R.cells ∧ slots + rm.slots ≤ R.slots) (kk : ∀ (v : Option Value) (L' : List Nat) (f' : Nat → va_E) (H1 : Heap) (locs1 : List Loc), post v L' f' → jz_w D A H0 L' f' H1 locs1 → (H.size ≤ H1.size ∧ (∀ q : Nat, q < H.size → ¬ va_A (va_pl L f) H.size q → H1[q]? = H[q]?) ∧ va_D (va_A (va_pl L f) H.size) (va_pl L' f')) → W p l e R s m args below meth c H1 locs1 (cells + rm.cells) (slots + rm.slots) Q (F0 m (pc + 3) ls (v.toList ++ rest))) : W p l e R s m args below meth c H locs cells slots Q (F0 m pc ls st0) :=
  jx_callS (own := RX2) hx hb hml hown hts jz_TTok hG hw hM jz_c_X_isMember (by decide +kernel) (by decide +kernel) (by decide +kernel) ⟨by decide, by decide, by rw [hAs]; decide +kernel⟩ hR hsize hstack hst hdg hf kk
theorem cl_X_26 {nL b : Nat} {rm : Room} {As st0 fs : List Value} {post : Option Value → List Nat → (Nat → va_E) → Prop} (hx : p.tables.exec = Jvm.exec) (hb : c.code = cc) (hml : c.maxLocals = nL) (hown : s.vm.findClass RX2 = some m.cls) (hts : ∀ w ∈ jz_TT, w.before args s = true) (hG : jz_G D ct s) (hw : jz_w D A H0 L f H locs) (hM : jz_M l D ct yX0_placeOf cX0_placeOf 3 (some (.object "JumpOrder$Place")) rm (.ref b :: As) L f post) (hAs : As.length = 1) (hR : rm.frames + 1 ≤ R.frames ∧ 8 + (3 + 11) + rm.locals ≤ R.locals) (hbL : b ∈ L) (hfb : f b = .inr (1, fs)) (hsize : ls.size = nL) (hstack : st0 = As.reverse ++ .ref b :: rest) (hst : (rest.map fun v => v.category).sum ≤ 8) (hdg : decode cc pc = .ok (.invokevirtual 26, 3)) (hf : cells + rm.cells ≤ R.cells ∧ slots + rm.slots ≤ R.slots) (kk : ∀ (v : Option Value) (L' : List Nat) (f' : Nat → va_E) (H1 : Heap) (locs1 : List Loc), post v L' f' → jz_w D A H0 L' f' H1 locs1 → (H.size ≤ H1.size ∧ (∀ q : Nat, q < H.size → ¬ va_A (va_pl L f) H.size q → H1[q]? = H[q]?) ∧ va_D (va_A (va_pl L f) H.size) (va_pl L' f')) → W p l e R s m args below meth c H1 locs1 (cells + rm.cells) (slots + rm.slots) Q (F0 m (pc + 3) ls (v.toList ++ rest))) : W p l e R s m args below meth c H locs cells slots Q (F0 m pc ls st0) :=
  jx_callVN (own := RX2) (C := RX0) (host := "JumpOrder") hx hb hml hown hts jz_TTok hG hw hM jz_c_O_placeOf (by decide +kernel) (by decide +kernel) (by decide +kernel) (by decide +kernel) ⟨by decide, by decide, by rw [hAs]; decide +kernel⟩ hR hbL hfb rfl rfl hsize hstack hst hdg hf kk
theorem cl_X_30 {nL b : Nat} {rm : Room} {As st0 fs : List Value} {post : Option Value → List Nat → (Nat → va_E) → Prop} (hx : p.tables.exec = Jvm.exec) (hb : c.code = cc) (hml : c.maxLocals = nL) (hown : s.vm.findClass RX2 = some m.cls) (hts : ∀ w ∈ jz_TT, w.before args s = true) (hG : jz_G D ct s) (hw : jz_w D A H0 L f H locs) (hM : jz_M l D ct yX0_enter cX0_enter 5 none rm (.ref b :: As) L f post) (hAs : As.length = 2) (hR : rm.frames + 1 ≤ R.frames ∧ 8 + (5 + 11) + rm.locals ≤ R.locals) (hbL : b ∈ L) (hfb : f b = .inr (1, fs)) (hsize : ls.size = nL) (hstack : st0 = As.reverse ++ .ref b :: rest) (hst : (rest.map fun v => v.category).sum ≤ 8) (hdg : decode cc pc = .ok (.invokevirtual 30, 3)) (hf : cells + rm.cells ≤ R.cells ∧ slots + rm.slots ≤ R.slots) (kk : ∀ (v : Option Value) (L' : List Nat) (f' : Nat → va_E) (H1 : Heap) (locs1 : List Loc), post v L' f' → jz_w D A H0 L' f' H1 locs1 → (H.size ≤ H1.size ∧ (∀ q : Nat, q < H.size → ¬ va_A (va_pl L f) H.size q → H1[q]? = H[q]?) ∧ va_D (va_A (va_pl L f) H.size) (va_pl L' f')) → W p l e R s m args below meth c H1 locs1 (cells + rm.cells) (slots + rm.slots) Q (F0 m (pc + 3) ls (v.toList ++ rest))) : W p l e R s m args below meth c H locs cells slots Q (F0 m pc ls st0) :=
  jx_callVN (own := RX2) (C := RX0) (host := "JumpOrder") hx hb hml hown hts jz_TTok hG hw hM jz_c_O_enter (by decide +kernel) (by decide +kernel) (by decide +kernel) (by decide +kernel) ⟨by decide, by decide, by rw [hAs]; decide +kernel⟩ hR hbL hfb rfl rfl hsize hstack hst hdg hf kk
theorem gf_X_34 (hx : p.tables.exec = Jvm.exec) (hb : c.code = cc) (hown : s.vm.findClass RX2 = some m.cls) (hts : ∀ w ∈ jz_TT, w.before args s = true) (hG : jz_G D ct s) (hw : jz_w D A H0 L f H locs) (ha : a ∈ L) {v0 v1 v2 v3 v4 v5 v6 : Value} (hfa : f a = .inr (2, [v0, v1, v2, v3, v4, v5, v6])) (hdg : decode cc pc = .ok (.getfield 34, 3)) (kk : W p l e R s m args below meth c H locs cells slots Q (F0 m (pc + 3) ls (v5 :: rest))) : W p l e R s m args below meth c H locs cells slots Q (F0 m pc ls (.ref a :: rest)) :=
  jx_getN (own := RX2) (ref := "JumpOrder$Place") (host := "JumpOrder") (C := RX1) (T := TX1) (N := 7) hx hb hts jz_inP hown hG hw ha hfa rfl 5 (by decide) (by decide +kernel) (fun _ h => h) rfl hdg kk
theorem cl_X_40 {nL b : Nat} {rm : Room} {As st0 fs : List Value} {post : Option Value → List Nat → (Nat → va_E) → Prop} (hx : p.tables.exec = Jvm.exec) (hb : c.code = cc) (hml : c.maxLocals = nL) (hown : s.vm.findClass RX2 = some m.cls) (hts : ∀ w ∈ jz_TT, w.before args s = true) (hG : jz_G D ct s) (hw : jz_w D A H0 L f H locs) (hM : jz_M l D ct yX0_move cX0_move 4 none rm (.ref b :: As) L f post) (hAs : As.length = 2) (hR : rm.frames + 1 ≤ R.frames ∧ 8 + (4 + 11) + rm.locals ≤ R.locals) (hbL : b ∈ L) (hfb : f b = .inr (1, fs)) (hsize : ls.size = nL) (hstack : st0 = As.reverse ++ .ref b :: rest) (hst : (rest.map fun v => v.category).sum ≤ 8) (hdg : decode cc pc = .ok (.invokevirtual 40, 3)) (hf : cells + rm.cells ≤ R.cells ∧ slots + rm.slots ≤ R.slots) (kk : ∀ (v : Option Value) (L' : List Nat) (f' : Nat → va_E) (H1 : Heap) (locs1 : List Loc), post v L' f' → jz_w D A H0 L' f' H1 locs1 → (H.size ≤ H1.size ∧ (∀ q : Nat, q < H.size → ¬ va_A (va_pl L f) H.size q → H1[q]? = H[q]?) ∧ va_D (va_A (va_pl L f) H.size) (va_pl L' f')) → W p l e R s m args below meth c H1 locs1 (cells + rm.cells) (slots + rm.slots) Q (F0 m (pc + 3) ls (v.toList ++ rest))) : W p l e R s m args below meth c H locs cells slots Q (F0 m pc ls st0) :=
  jx_callVN (own := RX2) (C := RX0) (host := "JumpOrder") hx hb hml hown hts jz_TTok hG hw hM jz_c_O_move (by decide +kernel) (by decide +kernel) (by decide +kernel) (by decide +kernel) ⟨by decide, by decide, by rw [hAs]; decide +kernel⟩ hR hbL hfb rfl rfl hsize hstack hst hdg hf kk
theorem cl_X_44 {nL b : Nat} {rm : Room} {As st0 fs : List Value} {post : Option Value → List Nat → (Nat → va_E) → Prop} (hx : p.tables.exec = Jvm.exec) (hb : c.code = cc) (hml : c.maxLocals = nL) (hown : s.vm.findClass RX2 = some m.cls) (hts : ∀ w ∈ jz_TT, w.before args s = true) (hG : jz_G D ct s) (hw : jz_w D A H0 L f H locs) (hM : jz_M l D ct yX0_leave cX0_leave 2 none rm (.ref b :: As) L f post) (hAs : As.length = 1) (hR : rm.frames + 1 ≤ R.frames ∧ 8 + (2 + 11) + rm.locals ≤ R.locals) (hbL : b ∈ L) (hfb : f b = .inr (1, fs)) (hsize : ls.size = nL) (hstack : st0 = As.reverse ++ .ref b :: rest) (hst : (rest.map fun v => v.category).sum ≤ 8) (hdg : decode cc pc = .ok (.invokevirtual 44, 3)) (hf : cells + rm.cells ≤ R.cells ∧ slots + rm.slots ≤ R.slots) (kk : ∀ (v : Option Value) (L' : List Nat) (f' : Nat → va_E) (H1 : Heap) (locs1 : List Loc), post v L' f' → jz_w D A H0 L' f' H1 locs1 → (H.size ≤ H1.size ∧ (∀ q : Nat, q < H.size → ¬ va_A (va_pl L f) H.size q → H1[q]? = H[q]?) ∧ va_D (va_A (va_pl L f) H.size) (va_pl L' f')) → W p l e R s m args below meth c H1 locs1 (cells + rm.cells) (slots + rm.slots) Q (F0 m (pc + 3) ls (v.toList ++ rest))) : W p l e R s m args below meth c H locs cells slots Q (F0 m pc ls st0) :=
  jx_callVN (own := RX2) (C := RX0) (host := "JumpOrder") hx hb hml hown hts jz_TTok hG hw hM jz_c_O_leave (by decide +kernel) (by decide +kernel) (by decide +kernel) (by decide +kernel) ⟨by decide, by decide, by rw [hAs]; decide +kernel⟩ hR hbL hfb rfl rfl hsize hstack hst hdg hf kk
theorem cl_X_48 {nL b : Nat} {rm : Room} {As st0 fs : List Value} {post : Option Value → List Nat → (Nat → va_E) → Prop} (hx : p.tables.exec = Jvm.exec) (hb : c.code = cc) (hml : c.maxLocals = nL) (hown : s.vm.findClass RX2 = some m.cls) (hts : ∀ w ∈ jz_TT, w.before args s = true) (hG : jz_G D ct s) (hw : jz_w D A H0 L f H locs) (hM : jz_M l D ct yX0_leaveAll cX0_leaveAll 3 (some .int) rm (.ref b :: As) L f post) (hAs : As.length = 0) (hR : rm.frames + 1 ≤ R.frames ∧ 8 + (3 + 11) + rm.locals ≤ R.locals) (hbL : b ∈ L) (hfb : f b = .inr (1, fs)) (hsize : ls.size = nL) (hstack : st0 = As.reverse ++ .ref b :: rest) (hst : (rest.map fun v => v.category).sum ≤ 8) (hdg : decode cc pc = .ok (.invokevirtual 48, 3)) (hf : cells + rm.cells ≤ R.cells ∧ slots + rm.slots ≤ R.slots) (kk : ∀ (v : Option Value) (L' : List Nat) (f' : Nat → va_E) (H1 : Heap) (locs1 : List Loc), post v L' f' → jz_w D A H0 L' f' H1 locs1 → (H.size ≤ H1.size ∧ (∀ q : Nat, q < H.size → ¬ va_A (va_pl L f) H.size q → H1[q]? = H[q]?) ∧ va_D (va_A (va_pl L f) H.size) (va_pl L' f')) → W p l e R s m args below meth c H1 locs1 (cells + rm.cells) (slots + rm.slots) Q (F0 m (pc + 3) ls (v.toList ++ rest))) : W p l e R s m args below meth c H locs cells slots Q (F0 m pc ls st0) :=
  jx_callVN (own := RX2) (C := RX0) (host := "JumpOrder") hx hb hml hown hts jz_TTok hG hw hM jz_c_O_leaveAll (by decide +kernel) (by decide +kernel) (by decide +kernel) (by decide +kernel) ⟨by decide, by decide, by rw [hAs]; decide +kernel⟩ hR hbL hfb rfl rfl hsize hstack hst hdg hf kk
theorem gf_X_54 (hx : p.tables.exec = Jvm.exec) (hb : c.code = cc) (hown : s.vm.findClass RX2 = some m.cls) (hts : ∀ w ∈ jz_TT, w.before args s = true) (hG : jz_G D ct s) (hw : jz_w D A H0 L f H locs) (ha : a ∈ L) {v0 v1 v2 v3 v4 v5 v6 : Value} (hfa : f a = .inr (2, [v0, v1, v2, v3, v4, v5, v6])) (hdg : decode cc pc = .ok (.getfield 54, 3)) (kk : W p l e R s m args below meth c H locs cells slots Q (F0 m (pc + 3) ls (v1 :: rest))) : W p l e R s m args below meth c H locs cells slots Q (F0 m pc ls (.ref a :: rest)) :=
  jx_getN (own := RX2) (ref := "JumpOrder$Place") (host := "JumpOrder") (C := RX1) (T := TX1) (N := 7) hx hb hts jz_inP hown hG hw ha hfa rfl 1 (by decide) (by decide +kernel) (fun _ h => h) rfl hdg kk
theorem cl_X_58 {nL b : Nat} {rm : Room} {As st0 fs : List Value} {post : Option Value → List Nat → (Nat → va_E) → Prop} (hx : p.tables.exec = Jvm.exec) (hb : c.code = cc) (hml : c.maxLocals = nL) (hown : s.vm.findClass RX2 = some m.cls) (hts : ∀ w ∈ jz_TT, w.before args s = true) (hG : jz_G D ct s) (hw : jz_w D A H0 L f H locs) (hM : jz_M l D ct yX0_countAheadOf cX0_countAheadOf 6 (some .int) rm (.ref b :: As) L f post) (hAs : As.length = 2) (hR : rm.frames + 1 ≤ R.frames ∧ 8 + (6 + 11) + rm.locals ≤ R.locals) (hbL : b ∈ L) (hfb : f b = .inr (1, fs)) (hsize : ls.size = nL) (hstack : st0 = As.reverse ++ .ref b :: rest) (hst : (rest.map fun v => v.category).sum ≤ 8) (hdg : decode cc pc = .ok (.invokevirtual 58, 3)) (hf : cells + rm.cells ≤ R.cells ∧ slots + rm.slots ≤ R.slots) (kk : ∀ (v : Option Value) (L' : List Nat) (f' : Nat → va_E) (H1 : Heap) (locs1 : List Loc), post v L' f' → jz_w D A H0 L' f' H1 locs1 → (H.size ≤ H1.size ∧ (∀ q : Nat, q < H.size → ¬ va_A (va_pl L f) H.size q → H1[q]? = H[q]?) ∧ va_D (va_A (va_pl L f) H.size) (va_pl L' f')) → W p l e R s m args below meth c H1 locs1 (cells + rm.cells) (slots + rm.slots) Q (F0 m (pc + 3) ls (v.toList ++ rest))) : W p l e R s m args below meth c H locs cells slots Q (F0 m pc ls st0) :=
  jx_callVN (own := RX2) (C := RX0) (host := "JumpOrder") hx hb hml hown hts jz_TTok hG hw hM jz_c_O_countAheadOf (by decide +kernel) (by decide +kernel) (by decide +kernel) (by decide +kernel) ⟨by decide, by decide, by rw [hAs]; decide +kernel⟩ hR hbL hfb rfl rfl hsize hstack hst hdg hf kk
theorem cl_X_62 {nL b : Nat} {rm : Room} {As st0 fs : List Value} {post : Option Value → List Nat → (Nat → va_E) → Prop} (hx : p.tables.exec = Jvm.exec) (hb : c.code = cc) (hml : c.maxLocals = nL) (hown : s.vm.findClass RX2 = some m.cls) (hts : ∀ w ∈ jz_TT, w.before args s = true) (hG : jz_G D ct s) (hw : jz_w D A H0 L f H locs) (hM : jz_M l D ct yX0_placeOfRank cX0_placeOfRank 3 (some (.object "JumpOrder$Place")) rm (.ref b :: As) L f post) (hAs : As.length = 1) (hR : rm.frames + 1 ≤ R.frames ∧ 8 + (3 + 11) + rm.locals ≤ R.locals) (hbL : b ∈ L) (hfb : f b = .inr (1, fs)) (hsize : ls.size = nL) (hstack : st0 = As.reverse ++ .ref b :: rest) (hst : (rest.map fun v => v.category).sum ≤ 8) (hdg : decode cc pc = .ok (.invokevirtual 62, 3)) (hf : cells + rm.cells ≤ R.cells ∧ slots + rm.slots ≤ R.slots) (kk : ∀ (v : Option Value) (L' : List Nat) (f' : Nat → va_E) (H1 : Heap) (locs1 : List Loc), post v L' f' → jz_w D A H0 L' f' H1 locs1 → (H.size ≤ H1.size ∧ (∀ q : Nat, q < H.size → ¬ va_A (va_pl L f) H.size q → H1[q]? = H[q]?) ∧ va_D (va_A (va_pl L f) H.size) (va_pl L' f')) → W p l e R s m args below meth c H1 locs1 (cells + rm.cells) (slots + rm.slots) Q (F0 m (pc + 3) ls (v.toList ++ rest))) : W p l e R s m args below meth c H locs cells slots Q (F0 m pc ls st0) :=
  jx_callVN (own := RX2) (C := RX0) (host := "JumpOrder") hx hb hml hown hts jz_TTok hG hw hM jz_c_O_placeOfRank (by decide +kernel) (by decide +kernel) (by decide +kernel) (by decide +kernel) ⟨by decide, by decide, by rw [hAs]; decide +kernel⟩ hR hbL hfb rfl rfl hsize hstack hst hdg hf kk
theorem gf_X_65 (hx : p.tables.exec = Jvm.exec) (hb : c.code = cc) (hown : s.vm.findClass RX2 = some m.cls) (hts : ∀ w ∈ jz_TT, w.before args s = true) (hG : jz_G D ct s) (hw : jz_w D A H0 L f H locs) (ha : a ∈ L) {v0 v1 v2 v3 v4 v5 v6 : Value} (hfa : f a = .inr (2, [v0, v1, v2, v3, v4, v5, v6])) (hdg : decode cc pc = .ok (.getfield 65, 3)) (kk : W p l e R s m args below meth c H locs cells slots Q (F0 m (pc + 3) ls (v0 :: rest))) : W p l e R s m args below meth c H locs cells slots Q (F0 m pc ls (.ref a :: rest)) :=
  jx_getN (own := RX2) (ref := "JumpOrder$Place") (host := "JumpOrder") (C := RX1) (T := TX1) (N := 7) hx hb hts jz_inP hown hG hw ha hfa rfl 0 (by decide) (by decide +kernel) (fun _ h => h) rfl hdg kk
theorem gf_X_69 (hx : p.tables.exec = Jvm.exec) (hb : c.code = cc) (hown : s.vm.findClass RX2 = some m.cls) (hts : ∀ w ∈ jz_TT, w.before args s = true) (hG : jz_G D ct s) (hw : jz_w D A H0 L f H locs) (ha : a ∈ L) {v0 v1 v2 v3 v4 : Value} (hfa : f a = .inr (1, [v0, v1, v2, v3, v4])) (hdg : decode cc pc = .ok (.getfield 69, 3)) (kk : W p l e R s m args below meth c H locs cells slots Q (F0 m (pc + 3) ls (v2 :: rest))) : W p l e R s m args below meth c H locs cells slots Q (F0 m pc ls (.ref a :: rest)) :=
  jx_getN (own := RX2) (ref := "JumpOrder$Order") (host := "JumpOrder") (C := RX0) (T := TX0) (N := 5) hx hb hts jz_inO hown hG hw ha hfa rfl 2 (by decide) (by decide +kernel) (fun _ h => h) rfl hdg kk
theorem gf_X_72 (hx : p.tables.exec = Jvm.exec) (hb : c.code = cc) (hown : s.vm.findClass RX2 = some m.cls) (hts : ∀ w ∈ jz_TT, w.before args s = true) (hG : jz_G D ct s) (hw : jz_w D A H0 L f H locs) (ha : a ∈ L) {v0 v1 v2 v3 v4 v5 v6 : Value} (hfa : f a = .inr (2, [v0, v1, v2, v3, v4, v5, v6])) (hdg : decode cc pc = .ok (.getfield 72, 3)) (kk : W p l e R s m args below meth c H locs cells slots Q (F0 m (pc + 3) ls (v3 :: rest))) : W p l e R s m args below meth c H locs cells slots Q (F0 m pc ls (.ref a :: rest)) :=
  jx_getN (own := RX2) (ref := "JumpOrder$Place") (host := "JumpOrder") (C := RX1) (T := TX1) (N := 7) hx hb hts jz_inP hown hG hw ha hfa rfl 3 (by decide) (by decide +kernel) (fun _ h => h) rfl hdg kk
theorem pf_M_7 (hx : p.tables.exec = Jvm.exec) (hb : c.code = cc) (hown : s.vm.findClass RX3 = some m.cls) (hts : ∀ w ∈ jz_TT, w.before args s = true) (hG : jz_G D ct s) (hw : jz_w D A H0 L f H locs) (ha : a ∈ L) {v0 v1 v2 v3 : Value} (hfa : f a = .inr (3, [v0, v1, v2, v3])) (hin2 : meth.name = "<init>") {y : Nat} (hdg : decode cc pc = .ok (.putfield 7, 3)) (kk : ∀ (H1 : Heap) (locs1 : List Loc), jz_w D A H0 L (va_up f a (.inr (3, [.ref y, v1, v2, v3]))) H1 locs1 → W p l e R s m args below meth c H1 locs1 cells slots Q (F0 m (pc + 3) ls rest)) : W p l e R s m args below meth c H locs cells slots Q (F0 m pc ls (.ref y :: .ref a :: rest)) :=
  jx_putF (own := RX3) (ref := "JumpOrderModel") (C := RX3) (T := TX3) (N := 4) hx hb hts jz_inM tyX3 tyX3_ok nmX3 hown hG hw ha hfa rfl 0 (by decide) (by decide +kernel) (fun _ h => h) rfl hin2 rfl (ty := .array .short) (by decide +kernel) rfl rfl (Nat.le_of_ble_eq_true rfl) hdg kk
theorem pf_M_13 (hx : p.tables.exec = Jvm.exec) (hb : c.code = cc) (hown : s.vm.findClass RX3 = some m.cls) (hts : ∀ w ∈ jz_TT, w.before args s = true) (hG : jz_G D ct s) (hw : jz_w D A H0 L f H locs) (ha : a ∈ L) {v0 v1 v2 v3 : Value} (hfa : f a = .inr (3, [v0, v1, v2, v3])) (hin2 : meth.name = "<init>") {y : Nat} (hdg : decode cc pc = .ok (.putfield 13, 3)) (kk : ∀ (H1 : Heap) (locs1 : List Loc), jz_w D A H0 L (va_up f a (.inr (3, [v0, .ref y, v2, v3]))) H1 locs1 → W p l e R s m args below meth c H1 locs1 cells slots Q (F0 m (pc + 3) ls rest)) : W p l e R s m args below meth c H locs cells slots Q (F0 m pc ls (.ref y :: .ref a :: rest)) :=
  jx_putF (own := RX3) (ref := "JumpOrderModel") (C := RX3) (T := TX3) (N := 4) hx hb hts jz_inM tyX3 tyX3_ok nmX3 hown hG hw ha hfa rfl 1 (by decide) (by decide +kernel) (fun _ h => h) rfl hin2 rfl (ty := .array .long) (by decide +kernel) rfl rfl (Nat.le_of_ble_eq_true rfl) hdg kk
theorem pf_M_17 (hx : p.tables.exec = Jvm.exec) (hb : c.code = cc) (hown : s.vm.findClass RX3 = some m.cls) (hts : ∀ w ∈ jz_TT, w.before args s = true) (hG : jz_G D ct s) (hw : jz_w D A H0 L f H locs) (ha : a ∈ L) {v0 v1 v2 v3 : Value} (hfa : f a = .inr (3, [v0, v1, v2, v3])) (hin2 : meth.name = "<init>") {y : Nat} (hdg : decode cc pc = .ok (.putfield 17, 3)) (kk : ∀ (H1 : Heap) (locs1 : List Loc), jz_w D A H0 L (va_up f a (.inr (3, [v0, v1, .ref y, v3]))) H1 locs1 → W p l e R s m args below meth c H1 locs1 cells slots Q (F0 m (pc + 3) ls rest)) : W p l e R s m args below meth c H locs cells slots Q (F0 m pc ls (.ref y :: .ref a :: rest)) :=
  jx_putF (own := RX3) (ref := "JumpOrderModel") (C := RX3) (T := TX3) (N := 4) hx hb hts jz_inM tyX3 tyX3_ok nmX3 hown hG hw ha hfa rfl 2 (by decide) (by decide +kernel) (fun _ h => h) rfl hin2 rfl (ty := .array .boolean) (by decide +kernel) rfl rfl (Nat.le_of_ble_eq_true rfl) hdg kk
theorem pf_M_21 (hx : p.tables.exec = Jvm.exec) (hb : c.code = cc) (hown : s.vm.findClass RX3 = some m.cls) (hts : ∀ w ∈ jz_TT, w.before args s = true) (hG : jz_G D ct s) (hw : jz_w D A H0 L f H locs) (ha : a ∈ L) {v0 v1 v2 v3 : Value} (hfa : f a = .inr (3, [v0, v1, v2, v3])) (hin2 : meth.name = "<init>") {y : Nat} (hdg : decode cc pc = .ok (.putfield 21, 3)) (kk : ∀ (H1 : Heap) (locs1 : List Loc), jz_w D A H0 L (va_up f a (.inr (3, [v0, v1, v2, .ref y]))) H1 locs1 → W p l e R s m args below meth c H1 locs1 cells slots Q (F0 m (pc + 3) ls rest)) : W p l e R s m args below meth c H locs cells slots Q (F0 m pc ls (.ref y :: .ref a :: rest)) :=
  jx_putF (own := RX3) (ref := "JumpOrderModel") (C := RX3) (T := TX3) (N := 4) hx hb hts jz_inM tyX3 tyX3_ok nmX3 hown hG hw ha hfa rfl 3 (by decide) (by decide +kernel) (fun _ h => h) rfl hin2 rfl (ty := .array .int) (by decide +kernel) rfl rfl (Nat.le_of_ble_eq_true rfl) hdg kk
theorem cl_M_25 {nL : Nat} {rm : Room} {As st0 : List Value} {post : Option Value → List Nat → (Nat → va_E) → Prop} (hx : p.tables.exec = Jvm.exec) (hb : c.code = cc) (hml : c.maxLocals = nL) (hown : s.vm.findClass RX3 = some m.cls) (hts : ∀ w ∈ jz_TT, w.before args s = true) (hG : jz_G D ct s) (hw : jz_w D A H0 L f H locs) (hM : jz_M l D ct yX3_isOrder cX3_isOrder 1 (some .boolean) rm As L f post) (hAs : As.length = 1) (hR : rm.frames + 1 ≤ R.frames ∧ 8 + (1 + 11) + rm.locals ≤ R.locals) (hsize : ls.size = nL) (hstack : st0 = As.reverse ++ rest) (hst : (rest.map fun v => v.category).sum ≤ 8) (hdg : decode cc pc = .ok (.invokestatic 25, 3)) (hf : cells + rm.cells ≤ R.cells ∧ slots + rm.slots ≤ R.slots) (kk : ∀ (v : Option Value) (L' : List Nat) (f' : Nat → va_E) (H1 : Heap) (locs1 : List Loc), post v L' f' → jz_w D A H0 L' f' H1 locs1 → (H.size ≤ H1.size ∧ (∀ q : Nat, q < H.size → ¬ va_A (va_pl L f) H.size q → H1[q]? = H[q]?) ∧ va_D (va_A (va_pl L f) H.size) (va_pl L' f')) → W p l e R s m args below meth c H1 locs1 (cells + rm.cells) (slots + rm.slots) Q (F0 m (pc + 3) ls (v.toList ++ rest))) : W p l e R s m args below meth c H locs cells slots Q (F0 m pc ls st0) :=
  jx_callS (own := RX3) hx hb hml hown hts jz_TTok hG hw hM jz_c_M_isOrder (by decide +kernel) (by decide +kernel) (by decide +kernel) ⟨by decide, by decide, by rw [hAs]; decide +kernel⟩ hR hsize hstack hst hdg hf kk
theorem gf_M_13 (hx : p.tables.exec = Jvm.exec) (hb : c.code = cc) (hown : s.vm.findClass RX3 = some m.cls) (hts : ∀ w ∈ jz_TT, w.before args s = true) (hG : jz_G D ct s) (hw : jz_w D A H0 L f H locs) (ha : a ∈ L) {v0 v1 v2 v3 : Value} (hfa : f a = .inr (3, [v0, v1, v2, v3])) (hdg : decode cc pc = .ok (.getfield 13, 3)) (kk : W p l e R s m args below meth c H locs cells slots Q (F0 m (pc + 3) ls (v1 :: rest))) : W p l e R s m args below meth c H locs cells slots Q (F0 m pc ls (.ref a :: rest)) :=
  jx_get (own := RX3) (ref := "JumpOrderModel") (C := RX3) (T := TX3) (N := 4) hx hb hts jz_inM hown hG hw ha hfa rfl 1 (by decide) (by decide +kernel) (fun _ h => h) rfl hdg kk
theorem cl_M_29 {nL : Nat} {rm : Room} {As st0 : List Value} {post : Option Value → List Nat → (Nat → va_E) → Prop} (hx : p.tables.exec = Jvm.exec) (hb : c.code = cc) (hml : c.maxLocals = nL) (hown : s.vm.findClass RX3 = some m.cls) (hts : ∀ w ∈ jz_TT, w.before args s = true) (hG : jz_G D ct s) (hw : jz_w D A H0 L f H locs) (hM : jz_M l D ct yX3_word cX3_word 1 (some .int) rm As L f post) (hAs : As.length = 1) (hR : rm.frames + 1 ≤ R.frames ∧ 8 + (1 + 11) + rm.locals ≤ R.locals) (hsize : ls.size = nL) (hstack : st0 = As.reverse ++ rest) (hst : (rest.map fun v => v.category).sum ≤ 8) (hdg : decode cc pc = .ok (.invokestatic 29, 3)) (hf : cells + rm.cells ≤ R.cells ∧ slots + rm.slots ≤ R.slots) (kk : ∀ (v : Option Value) (L' : List Nat) (f' : Nat → va_E) (H1 : Heap) (locs1 : List Loc), post v L' f' → jz_w D A H0 L' f' H1 locs1 → (H.size ≤ H1.size ∧ (∀ q : Nat, q < H.size → ¬ va_A (va_pl L f) H.size q → H1[q]? = H[q]?) ∧ va_D (va_A (va_pl L f) H.size) (va_pl L' f')) → W p l e R s m args below meth c H1 locs1 (cells + rm.cells) (slots + rm.slots) Q (F0 m (pc + 3) ls (v.toList ++ rest))) : W p l e R s m args below meth c H locs cells slots Q (F0 m pc ls st0) :=
  jx_callS (own := RX3) hx hb hml hown hts jz_TTok hG hw hM jz_c_M_word (by decide +kernel) (by decide +kernel) (by decide +kernel) ⟨by decide, by decide, by rw [hAs]; decide +kernel⟩ hR hsize hstack hst hdg hf kk
theorem gf_M_21 (hx : p.tables.exec = Jvm.exec) (hb : c.code = cc) (hown : s.vm.findClass RX3 = some m.cls) (hts : ∀ w ∈ jz_TT, w.before args s = true) (hG : jz_G D ct s) (hw : jz_w D A H0 L f H locs) (ha : a ∈ L) {v0 v1 v2 v3 : Value} (hfa : f a = .inr (3, [v0, v1, v2, v3])) (hdg : decode cc pc = .ok (.getfield 21, 3)) (kk : W p l e R s m args below meth c H locs cells slots Q (F0 m (pc + 3) ls (v3 :: rest))) : W p l e R s m args below meth c H locs cells slots Q (F0 m pc ls (.ref a :: rest)) :=
  jx_get (own := RX3) (ref := "JumpOrderModel") (C := RX3) (T := TX3) (N := 4) hx hb hts jz_inM hown hG hw ha hfa rfl 3 (by decide) (by decide +kernel) (fun _ h => h) rfl hdg kk
theorem gf_M_7 (hx : p.tables.exec = Jvm.exec) (hb : c.code = cc) (hown : s.vm.findClass RX3 = some m.cls) (hts : ∀ w ∈ jz_TT, w.before args s = true) (hG : jz_G D ct s) (hw : jz_w D A H0 L f H locs) (ha : a ∈ L) {v0 v1 v2 v3 : Value} (hfa : f a = .inr (3, [v0, v1, v2, v3])) (hdg : decode cc pc = .ok (.getfield 7, 3)) (kk : W p l e R s m args below meth c H locs cells slots Q (F0 m (pc + 3) ls (v0 :: rest))) : W p l e R s m args below meth c H locs cells slots Q (F0 m pc ls (.ref a :: rest)) :=
  jx_get (own := RX3) (ref := "JumpOrderModel") (C := RX3) (T := TX3) (N := 4) hx hb hts jz_inM hown hG hw ha hfa rfl 0 (by decide) (by decide +kernel) (fun _ h => h) rfl hdg kk
theorem cl_M_33 {nL b : Nat} {rm : Room} {As st0 fs : List Value} {post : Option Value → List Nat → (Nat → va_E) → Prop} (hx : p.tables.exec = Jvm.exec) (hb : c.code = cc) (hml : c.maxLocals = nL) (hown : s.vm.findClass RX3 = some m.cls) (hts : ∀ w ∈ jz_TT, w.before args s = true) (hG : jz_G D ct s) (hw : jz_w D A H0 L f H locs) (hM : jz_M l D ct yX3_isAhead cX3_isAhead 8 (some .boolean) rm (.ref b :: As) L f post) (hAs : As.length = 4) (hR : rm.frames + 1 ≤ R.frames ∧ 8 + (8 + 11) + rm.locals ≤ R.locals) (hbL : b ∈ L) (hfb : f b = .inr (3, fs)) (hsize : ls.size = nL) (hstack : st0 = As.reverse ++ .ref b :: rest) (hst : (rest.map fun v => v.category).sum ≤ 8) (hdg : decode cc pc = .ok (.invokevirtual 33, 3)) (hf : cells + rm.cells ≤ R.cells ∧ slots + rm.slots ≤ R.slots) (kk : ∀ (v : Option Value) (L' : List Nat) (f' : Nat → va_E) (H1 : Heap) (locs1 : List Loc), post v L' f' → jz_w D A H0 L' f' H1 locs1 → (H.size ≤ H1.size ∧ (∀ q : Nat, q < H.size → ¬ va_A (va_pl L f) H.size q → H1[q]? = H[q]?) ∧ va_D (va_A (va_pl L f) H.size) (va_pl L' f')) → W p l e R s m args below meth c H1 locs1 (cells + rm.cells) (slots + rm.slots) Q (F0 m (pc + 3) ls (v.toList ++ rest))) : W p l e R s m args below meth c H locs cells slots Q (F0 m pc ls st0) :=
  jx_callV (own := RX3) (C := RX3) hx hb hml hown hts jz_TTok hG hw hM jz_c_M_isAhead (by decide +kernel) (by decide +kernel) (by decide +kernel) (by decide +kernel) ⟨rfl, by decide, by decide, by rw [hAs]; decide +kernel⟩ hR hbL hfb rfl rfl hsize hstack hst hdg hf kk
theorem gf_M_17 (hx : p.tables.exec = Jvm.exec) (hb : c.code = cc) (hown : s.vm.findClass RX3 = some m.cls) (hts : ∀ w ∈ jz_TT, w.before args s = true) (hG : jz_G D ct s) (hw : jz_w D A H0 L f H locs) (ha : a ∈ L) {v0 v1 v2 v3 : Value} (hfa : f a = .inr (3, [v0, v1, v2, v3])) (hdg : decode cc pc = .ok (.getfield 17, 3)) (kk : W p l e R s m args below meth c H locs cells slots Q (F0 m (pc + 3) ls (v2 :: rest))) : W p l e R s m args below meth c H locs cells slots Q (F0 m pc ls (.ref a :: rest)) :=
  jx_get (own := RX3) (ref := "JumpOrderModel") (C := RX3) (T := TX3) (N := 4) hx hb hts jz_inM hown hG hw ha hfa rfl 2 (by decide) (by decide +kernel) (fun _ h => h) rfl hdg kk
theorem cl_M_37 {nL : Nat} {rm : Room} {As st0 : List Value} {post : Option Value → List Nat → (Nat → va_E) → Prop} (hx : p.tables.exec = Jvm.exec) (hb : c.code = cc) (hml : c.maxLocals = nL) (hown : s.vm.findClass RX3 = some m.cls) (hts : ∀ w ∈ jz_TT, w.before args s = true) (hG : jz_G D ct s) (hw : jz_w D A H0 L f H locs) (hM : jz_M l D ct yX3_isGood cX3_isGood 2 (some .boolean) rm As L f post) (hAs : As.length = 2) (hR : rm.frames + 1 ≤ R.frames ∧ 8 + (2 + 11) + rm.locals ≤ R.locals) (hsize : ls.size = nL) (hstack : st0 = As.reverse ++ rest) (hst : (rest.map fun v => v.category).sum ≤ 8) (hdg : decode cc pc = .ok (.invokestatic 37, 3)) (hf : cells + rm.cells ≤ R.cells ∧ slots + rm.slots ≤ R.slots) (kk : ∀ (v : Option Value) (L' : List Nat) (f' : Nat → va_E) (H1 : Heap) (locs1 : List Loc), post v L' f' → jz_w D A H0 L' f' H1 locs1 → (H.size ≤ H1.size ∧ (∀ q : Nat, q < H.size → ¬ va_A (va_pl L f) H.size q → H1[q]? = H[q]?) ∧ va_D (va_A (va_pl L f) H.size) (va_pl L' f')) → W p l e R s m args below meth c H1 locs1 (cells + rm.cells) (slots + rm.slots) Q (F0 m (pc + 3) ls (v.toList ++ rest))) : W p l e R s m args below meth c H locs cells slots Q (F0 m pc ls st0) :=
  jx_callS (own := RX3) hx hb hml hown hts jz_TTok hG hw hM jz_c_M_isGood (by decide +kernel) (by decide +kernel) (by decide +kernel) ⟨by decide, by decide, by rw [hAs]; decide +kernel⟩ hR hsize hstack hst hdg hf kk
theorem cl_M_41 {nL b : Nat} {rm : Room} {As st0 fs : List Value} {post : Option Value → List Nat → (Nat → va_E) → Prop} (hx : p.tables.exec = Jvm.exec) (hb : c.code = cc) (hml : c.maxLocals = nL) (hown : s.vm.findClass RX3 = some m.cls) (hts : ∀ w ∈ jz_TT, w.before args s = true) (hG : jz_G D ct s) (hw : jz_w D A H0 L f H locs) (hM : jz_M l D ct yX3_leave cX3_leave 6 none rm (.ref b :: As) L f post) (hAs : As.length = 2) (hR : rm.frames + 1 ≤ R.frames ∧ 8 + (6 + 11) + rm.locals ≤ R.locals) (hbL : b ∈ L) (hfb : f b = .inr (3, fs)) (hsize : ls.size = nL) (hstack : st0 = As.reverse ++ .ref b :: rest) (hst : (rest.map fun v => v.category).sum ≤ 8) (hdg : decode cc pc = .ok (.invokevirtual 41, 3)) (hf : cells + rm.cells ≤ R.cells ∧ slots + rm.slots ≤ R.slots) (kk : ∀ (v : Option Value) (L' : List Nat) (f' : Nat → va_E) (H1 : Heap) (locs1 : List Loc), post v L' f' → jz_w D A H0 L' f' H1 locs1 → (H.size ≤ H1.size ∧ (∀ q : Nat, q < H.size → ¬ va_A (va_pl L f) H.size q → H1[q]? = H[q]?) ∧ va_D (va_A (va_pl L f) H.size) (va_pl L' f')) → W p l e R s m args below meth c H1 locs1 (cells + rm.cells) (slots + rm.slots) Q (F0 m (pc + 3) ls (v.toList ++ rest))) : W p l e R s m args below meth c H locs cells slots Q (F0 m pc ls st0) :=
  jx_callV (own := RX3) (C := RX3) hx hb hml hown hts jz_TTok hG hw hM jz_c_M_leave (by decide +kernel) (by decide +kernel) (by decide +kernel) (by decide +kernel) ⟨rfl, by decide, by decide, by rw [hAs]; decide +kernel⟩ hR hbL hfb rfl rfl hsize hstack hst hdg hf kk
theorem cl_M_45 {nL b : Nat} {rm : Room} {As st0 fs : List Value} {post : Option Value → List Nat → (Nat → va_E) → Prop} (hx : p.tables.exec = Jvm.exec) (hb : c.code = cc) (hml : c.maxLocals = nL) (hown : s.vm.findClass RX3 = some m.cls) (hts : ∀ w ∈ jz_TT, w.before args s = true) (hG : jz_G D ct s) (hw : jz_w D A H0 L f H locs) (hM : jz_M l D ct yX3_place cX3_place 6 (some .int) rm (.ref b :: As) L f post) (hAs : As.length = 3) (hR : rm.frames + 1 ≤ R.frames ∧ 8 + (6 + 11) + rm.locals ≤ R.locals) (hbL : b ∈ L) (hfb : f b = .inr (3, fs)) (hsize : ls.size = nL) (hstack : st0 = As.reverse ++ .ref b :: rest) (hst : (rest.map fun v => v.category).sum ≤ 8) (hdg : decode cc pc = .ok (.invokevirtual 45, 3)) (hf : cells + rm.cells ≤ R.cells ∧ slots + rm.slots ≤ R.slots) (kk : ∀ (v : Option Value) (L' : List Nat) (f' : Nat → va_E) (H1 : Heap) (locs1 : List Loc), post v L' f' → jz_w D A H0 L' f' H1 locs1 → (H.size ≤ H1.size ∧ (∀ q : Nat, q < H.size → ¬ va_A (va_pl L f) H.size q → H1[q]? = H[q]?) ∧ va_D (va_A (va_pl L f) H.size) (va_pl L' f')) → W p l e R s m args below meth c H1 locs1 (cells + rm.cells) (slots + rm.slots) Q (F0 m (pc + 3) ls (v.toList ++ rest))) : W p l e R s m args below meth c H locs cells slots Q (F0 m pc ls st0) :=
  jx_callV (own := RX3) (C := RX3) hx hb hml hown hts jz_TTok hG hw hM jz_c_M_place (by decide +kernel) (by decide +kernel) (by decide +kernel) (by decide +kernel) ⟨rfl, by decide, by decide, by rw [hAs]; decide +kernel⟩ hR hbL hfb rfl rfl hsize hstack hst hdg hf kk
theorem cl_O_11 {nL b : Nat} {rm : Room} {As st0 : List Value} {post : Option Value → List Nat → (Nat → va_E) → Prop} (hx : p.tables.exec = Jvm.exec) (hb : c.code = cc) (hml : c.maxLocals = nL) (hown : s.vm.findClass RX0 = some m.cls) (hts : ∀ w ∈ jz_TT, w.before args s = true) (hG : jz_G D ct s) (hw : jz_w D A H0 L f H locs) (hM : jz_M l D ct yX1_init cX1_init 3 none rm (.ref b :: As) L f post) (hAs : As.length = 2) (hR : rm.frames + 1 ≤ R.frames ∧ 8 + (3 + 11) + rm.locals ≤ R.locals) (hsize : ls.size = nL) (hstack : st0 = As.reverse ++ .ref b :: rest) (hst : (rest.map fun v => v.category).sum ≤ 8) (hdg : decode cc pc = .ok (.invokespecial 11, 3)) (hf : cells + rm.cells ≤ R.cells ∧ slots + rm.slots ≤ R.slots) (kk : ∀ (v : Option Value) (L' : List Nat) (f' : Nat → va_E) (H1 : Heap) (locs1 : List Loc), post v L' f' → jz_w D A H0 L' f' H1 locs1 → (H.size ≤ H1.size ∧ (∀ q : Nat, q < H.size → ¬ va_A (va_pl L f) H.size q → H1[q]? = H[q]?) ∧ va_D (va_A (va_pl L f) H.size) (va_pl L' f')) → W p l e R s m args below meth c H1 locs1 (cells + rm.cells) (slots + rm.slots) Q (F0 m (pc + 3) ls (v.toList ++ rest))) : W p l e R s m args below meth c H locs cells slots Q (F0 m pc ls st0) :=
  jx_callIN (own := RX0) (host := "JumpOrder") hx hb hml hown hts jz_TTok hG hw hM jz_c_P_init (by decide +kernel) (by decide +kernel) (by decide +kernel) rfl ⟨by decide, by decide, by rw [hAs]; decide +kernel⟩ hR hsize hstack hst hdg hf kk
theorem pf_O_14 (hx : p.tables.exec = Jvm.exec) (hb : c.code = cc) (hown : s.vm.findClass RX0 = some m.cls) (hts : ∀ w ∈ jz_TT, w.before args s = true) (hG : jz_G D ct s) (hw : jz_w D A H0 L f H locs) (ha : a ∈ L) {v0 v1 v2 v3 v4 : Value} (hfa : f a = .inr (1, [v0, v1, v2, v3, v4])) (hin2 : meth.name = "<init>") {y : Nat} (hdg : decode cc pc = .ok (.putfield 14, 3)) (kk : ∀ (H1 : Heap) (locs1 : List Loc), jz_w D A H0 L (va_up f a (.inr (1, [.ref y, v1, v2, v3, v4]))) H1 locs1 → W p l e R s m args below meth c H1 locs1 cells slots Q (F0 m (pc + 3) ls rest)) : W p l e R s m args below meth c H locs cells slots Q (F0 m pc ls (.ref y :: .ref a :: rest)) :=
  jx_putF (own := RX0) (ref := "JumpOrder$Order") (C := RX0) (T := TX0) (N := 5) hx hb hts jz_inO tyX0 tyX0_ok nmX0 hown hG hw ha hfa rfl 0 (by decide) (by decide +kernel) (fun _ h => h) rfl hin2 rfl (ty := .object "JumpOrder$Place") (by decide +kernel) rfl rfl (Nat.le_of_ble_eq_true rfl) hdg kk
theorem pf_O_20 (hx : p.tables.exec = Jvm.exec) (hb : c.code = cc) (hown : s.vm.findClass RX0 = some m.cls) (hts : ∀ w ∈ jz_TT, w.before args s = true) (hG : jz_G D ct s) (hw : jz_w D A H0 L f H locs) (ha : a ∈ L) {v0 v1 v2 v3 v4 : Value} (hfa : f a = .inr (1, [v0, v1, v2, v3, v4])) (hin2 : meth.name = "<init>") {y : Nat} (hdg : decode cc pc = .ok (.putfield 20, 3)) (kk : ∀ (H1 : Heap) (locs1 : List Loc), jz_w D A H0 L (va_up f a (.inr (1, [v0, .ref y, v2, v3, v4]))) H1 locs1 → W p l e R s m args below meth c H1 locs1 cells slots Q (F0 m (pc + 3) ls rest)) : W p l e R s m args below meth c H locs cells slots Q (F0 m pc ls (.ref y :: .ref a :: rest)) :=
  jx_putF (own := RX0) (ref := "JumpOrder$Order") (C := RX0) (T := TX0) (N := 5) hx hb hts jz_inO tyX0 tyX0_ok nmX0 hown hG hw ha hfa rfl 1 (by decide) (by decide +kernel) (fun _ h => h) rfl hin2 rfl (ty := .array (.object "JumpOrder$Place")) (by decide +kernel) rfl rfl (Nat.le_of_ble_eq_true rfl) hdg kk
theorem gf_O_14 (hx : p.tables.exec = Jvm.exec) (hb : c.code = cc) (hown : s.vm.findClass RX0 = some m.cls) (hts : ∀ w ∈ jz_TT, w.before args s = true) (hG : jz_G D ct s) (hw : jz_w D A H0 L f H locs) (ha : a ∈ L) {v0 v1 v2 v3 v4 : Value} (hfa : f a = .inr (1, [v0, v1, v2, v3, v4])) (hdg : decode cc pc = .ok (.getfield 14, 3)) (kk : W p l e R s m args below meth c H locs cells slots Q (F0 m (pc + 3) ls (v0 :: rest))) : W p l e R s m args below meth c H locs cells slots Q (F0 m pc ls (.ref a :: rest)) :=
  jx_get (own := RX0) (ref := "JumpOrder$Order") (C := RX0) (T := TX0) (N := 5) hx hb hts jz_inO hown hG hw ha hfa rfl 0 (by decide) (by decide +kernel) (fun _ h => h) rfl hdg kk
theorem pf_O_24 (hx : p.tables.exec = Jvm.exec) (hb : c.code = cc) (hown : s.vm.findClass RX0 = some m.cls) (hts : ∀ w ∈ jz_TT, w.before args s = true) (hG : jz_G D ct s) (hw : jz_w D A H0 L f H locs) (ha : a ∈ L) {v0 v1 v2 v3 v4 : Value} (hfa : f a = .inr (1, [v0, v1, v2, v3, v4])) {y : Nat} (hdg : decode cc pc = .ok (.putfield 24, 3)) (kk : ∀ (H1 : Heap) (locs1 : List Loc), jz_w D A H0 L (va_up f a (.inr (1, [v0, v1, v2, .ref y, v4]))) H1 locs1 → W p l e R s m args below meth c H1 locs1 cells slots Q (F0 m (pc + 3) ls rest)) : W p l e R s m args below meth c H locs cells slots Q (F0 m pc ls (.ref y :: .ref a :: rest)) :=
  jx_put (own := RX0) (ref := "JumpOrder$Order") (C := RX0) (T := TX0) (N := 5) hx hb hts jz_inO tyX0 tyX0_ok nmX0 hown hG hw ha hfa rfl 3 (by decide) (by decide +kernel) (fun _ h => h) rfl (ty := .object "JumpOrder$Place") (by decide +kernel) rfl rfl (Nat.le_of_ble_eq_true rfl) hdg kk
theorem cl_O_27 {nL : Nat} {rm : Room} {As st0 : List Value} {post : Option Value → List Nat → (Nat → va_E) → Prop} (hx : p.tables.exec = Jvm.exec) (hb : c.code = cc) (hml : c.maxLocals = nL) (hown : s.vm.findClass RX0 = some m.cls) (hts : ∀ w ∈ jz_TT, w.before args s = true) (hG : jz_G D ct s) (hw : jz_w D A H0 L f H locs) (hM : jz_M l D ct yX0_makeBare cX0_makeBare 2 none rm As L f post) (hAs : As.length = 1) (hR : rm.frames + 1 ≤ R.frames ∧ 8 + (2 + 11) + rm.locals ≤ R.locals) (hsize : ls.size = nL) (hstack : st0 = As.reverse ++ rest) (hst : (rest.map fun v => v.category).sum ≤ 8) (hdg : decode cc pc = .ok (.invokestatic 27, 3)) (hf : cells + rm.cells ≤ R.cells ∧ slots + rm.slots ≤ R.slots) (kk : ∀ (v : Option Value) (L' : List Nat) (f' : Nat → va_E) (H1 : Heap) (locs1 : List Loc), post v L' f' → jz_w D A H0 L' f' H1 locs1 → (H.size ≤ H1.size ∧ (∀ q : Nat, q < H.size → ¬ va_A (va_pl L f) H.size q → H1[q]? = H[q]?) ∧ va_D (va_A (va_pl L f) H.size) (va_pl L' f')) → W p l e R s m args below meth c H1 locs1 (cells + rm.cells) (slots + rm.slots) Q (F0 m (pc + 3) ls (v.toList ++ rest))) : W p l e R s m args below meth c H locs cells slots Q (F0 m pc ls st0) :=
  jx_callS (own := RX0) hx hb hml hown hts jz_TTok hG hw hM jz_c_O_makeBare (by decide +kernel) (by decide +kernel) (by decide +kernel) ⟨by decide, by decide, by rw [hAs]; decide +kernel⟩ hR hsize hstack hst hdg hf kk
theorem cl_O_31 {nL : Nat} {rm : Room} {As st0 : List Value} {post : Option Value → List Nat → (Nat → va_E) → Prop} (hx : p.tables.exec = Jvm.exec) (hb : c.code = cc) (hml : c.maxLocals = nL) (hown : s.vm.findClass RX0 = some m.cls) (hts : ∀ w ∈ jz_TT, w.before args s = true) (hG : jz_G D ct s) (hw : jz_w D A H0 L f H locs) (hM : jz_M l D ct yX2_isMember cX2_isMember 1 (some .boolean) rm As L f post) (hAs : As.length = 1) (hR : rm.frames + 1 ≤ R.frames ∧ 8 + (1 + 11) + rm.locals ≤ R.locals) (hsize : ls.size = nL) (hstack : st0 = As.reverse ++ rest) (hst : (rest.map fun v => v.category).sum ≤ 8) (hdg : decode cc pc = .ok (.invokestatic 31, 3)) (hf : cells + rm.cells ≤ R.cells ∧ slots + rm.slots ≤ R.slots) (kk : ∀ (v : Option Value) (L' : List Nat) (f' : Nat → va_E) (H1 : Heap) (locs1 : List Loc), post v L' f' → jz_w D A H0 L' f' H1 locs1 → (H.size ≤ H1.size ∧ (∀ q : Nat, q < H.size → ¬ va_A (va_pl L f) H.size q → H1[q]? = H[q]?) ∧ va_D (va_A (va_pl L f) H.size) (va_pl L' f')) → W p l e R s m args below meth c H1 locs1 (cells + rm.cells) (slots + rm.slots) Q (F0 m (pc + 3) ls (v.toList ++ rest))) : W p l e R s m args below meth c H locs cells slots Q (F0 m pc ls st0) :=
  jx_callSN (own := RX0) (host := "JumpOrder") hx hb hml hown hts jz_TTok hG hw hM jz_c_X_isMember (by decide +kernel) (by decide +kernel) (by decide +kernel) ⟨by decide, by decide, by rw [hAs]; decide +kernel⟩ hR hsize hstack hst hdg hf kk
theorem gf_O_20 (hx : p.tables.exec = Jvm.exec) (hb : c.code = cc) (hown : s.vm.findClass RX0 = some m.cls) (hts : ∀ w ∈ jz_TT, w.before args s = true) (hG : jz_G D ct s) (hw : jz_w D A H0 L f H locs) (ha : a ∈ L) {v0 v1 v2 v3 v4 : Value} (hfa : f a = .inr (1, [v0, v1, v2, v3, v4])) (hdg : decode cc pc = .ok (.getfield 20, 3)) (kk : W p l e R s m args below meth c H locs cells slots Q (F0 m (pc + 3) ls (v1 :: rest))) : W p l e R s m args below meth c H locs cells slots Q (F0 m pc ls (.ref a :: rest)) :=
  jx_get (own := RX0) (ref := "JumpOrder$Order") (C := RX0) (T := TX0) (N := 5) hx hb hts jz_inO hown hG hw ha hfa rfl 1 (by decide) (by decide +kernel) (fun _ h => h) rfl hdg kk
theorem gf_O_35 (hx : p.tables.exec = Jvm.exec) (hb : c.code = cc) (hown : s.vm.findClass RX0 = some m.cls) (hts : ∀ w ∈ jz_TT, w.before args s = true) (hG : jz_G D ct s) (hw : jz_w D A H0 L f H locs) (ha : a ∈ L) {v0 v1 v2 v3 v4 v5 v6 : Value} (hfa : f a = .inr (2, [v0, v1, v2, v3, v4, v5, v6])) (hdg : decode cc pc = .ok (.getfield 35, 3)) (kk : W p l e R s m args below meth c H locs cells slots Q (F0 m (pc + 3) ls (v6 :: rest))) : W p l e R s m args below meth c H locs cells slots Q (F0 m pc ls (.ref a :: rest)) :=
  jx_getN (own := RX0) (ref := "JumpOrder$Place") (host := "JumpOrder") (C := RX1) (T := TX1) (N := 7) hx hb hts jz_inP hown hG hw ha hfa rfl 6 (by decide) (by decide +kernel) (fun _ h => h) rfl hdg kk
theorem gf_O_39 (hx : p.tables.exec = Jvm.exec) (hb : c.code = cc) (hown : s.vm.findClass RX0 = some m.cls) (hts : ∀ w ∈ jz_TT, w.before args s = true) (hG : jz_G D ct s) (hw : jz_w D A H0 L f H locs) (ha : a ∈ L) {v0 v1 v2 v3 v4 : Value} (hfa : f a = .inr (1, [v0, v1, v2, v3, v4])) (hdg : decode cc pc = .ok (.getfield 39, 3)) (kk : W p l e R s m args below meth c H locs cells slots Q (F0 m (pc + 3) ls (v2 :: rest))) : W p l e R s m args below meth c H locs cells slots Q (F0 m pc ls (.ref a :: rest)) :=
  jx_get (own := RX0) (ref := "JumpOrder$Order") (C := RX0) (T := TX0) (N := 5) hx hb hts jz_inO hown hG hw ha hfa rfl 2 (by decide) (by decide +kernel) (fun _ h => h) rfl hdg kk
theorem cl_O_43 {nL b : Nat} {rm : Room} {As st0 fs : List Value} {post : Option Value → List Nat → (Nat → va_E) → Prop} (hx : p.tables.exec = Jvm.exec) (hb : c.code = cc) (hml : c.maxLocals = nL) (hown : s.vm.findClass RX0 = some m.cls) (hts : ∀ w ∈ jz_TT, w.before args s = true) (hG : jz_G D ct s) (hw : jz_w D A H0 L f H locs) (hM : jz_M l D ct yX0_goToHead cX0_goToHead 1 none rm (.ref b :: As) L f post) (hAs : As.length = 0) (hR : rm.frames + 1 ≤ R.frames ∧ 8 + (1 + 11) + rm.locals ≤ R.locals) (hbL : b ∈ L) (hfb : f b = .inr (1, fs)) (hsize : ls.size = nL) (hstack : st0 = As.reverse ++ .ref b :: rest) (hst : (rest.map fun v => v.category).sum ≤ 8) (hdg : decode cc pc = .ok (.invokevirtual 43, 3)) (hf : cells + rm.cells ≤ R.cells ∧ slots + rm.slots ≤ R.slots) (kk : ∀ (v : Option Value) (L' : List Nat) (f' : Nat → va_E) (H1 : Heap) (locs1 : List Loc), post v L' f' → jz_w D A H0 L' f' H1 locs1 → (H.size ≤ H1.size ∧ (∀ q : Nat, q < H.size → ¬ va_A (va_pl L f) H.size q → H1[q]? = H[q]?) ∧ va_D (va_A (va_pl L f) H.size) (va_pl L' f')) → W p l e R s m args below meth c H1 locs1 (cells + rm.cells) (slots + rm.slots) Q (F0 m (pc + 3) ls (v.toList ++ rest))) : W p l e R s m args below meth c H locs cells slots Q (F0 m pc ls st0) :=
  jx_callV (own := RX0) (C := RX0) hx hb hml hown hts jz_TTok hG hw hM jz_c_O_goToHead (by decide +kernel) (by decide +kernel) (by decide +kernel) (by decide +kernel) ⟨rfl, by decide, by decide, by rw [hAs]; decide +kernel⟩ hR hbL hfb rfl rfl hsize hstack hst hdg hf kk
theorem cl_O_46 {nL b : Nat} {rm : Room} {As st0 fs : List Value} {post : Option Value → List Nat → (Nat → va_E) → Prop} (hx : p.tables.exec = Jvm.exec) (hb : c.code = cc) (hml : c.maxLocals = nL) (hown : s.vm.findClass RX0 = some m.cls) (hts : ∀ w ∈ jz_TT, w.before args s = true) (hG : jz_G D ct s) (hw : jz_w D A H0 L f H locs) (hM : jz_M l D ct yX0_goAheadOf cX0_goAheadOf 4 none rm (.ref b :: As) L f post) (hAs : As.length = 2) (hR : rm.frames + 1 ≤ R.frames ∧ 8 + (4 + 11) + rm.locals ≤ R.locals) (hbL : b ∈ L) (hfb : f b = .inr (1, fs)) (hsize : ls.size = nL) (hstack : st0 = As.reverse ++ .ref b :: rest) (hst : (rest.map fun v => v.category).sum ≤ 8) (hdg : decode cc pc = .ok (.invokevirtual 46, 3)) (hf : cells + rm.cells ≤ R.cells ∧ slots + rm.slots ≤ R.slots) (kk : ∀ (v : Option Value) (L' : List Nat) (f' : Nat → va_E) (H1 : Heap) (locs1 : List Loc), post v L' f' → jz_w D A H0 L' f' H1 locs1 → (H.size ≤ H1.size ∧ (∀ q : Nat, q < H.size → ¬ va_A (va_pl L f) H.size q → H1[q]? = H[q]?) ∧ va_D (va_A (va_pl L f) H.size) (va_pl L' f')) → W p l e R s m args below meth c H1 locs1 (cells + rm.cells) (slots + rm.slots) Q (F0 m (pc + 3) ls (v.toList ++ rest))) : W p l e R s m args below meth c H locs cells slots Q (F0 m pc ls st0) :=
  jx_callV (own := RX0) (C := RX0) hx hb hml hown hts jz_TTok hG hw hM jz_c_O_goAheadOf (by decide +kernel) (by decide +kernel) (by decide +kernel) (by decide +kernel) ⟨rfl, by decide, by decide, by rw [hAs]; decide +kernel⟩ hR hbL hfb rfl rfl hsize hstack hst hdg hf kk
theorem gf_O_24 (hx : p.tables.exec = Jvm.exec) (hb : c.code = cc) (hown : s.vm.findClass RX0 = some m.cls) (hts : ∀ w ∈ jz_TT, w.before args s = true) (hG : jz_G D ct s) (hw : jz_w D A H0 L f H locs) (ha : a ∈ L) {v0 v1 v2 v3 v4 : Value} (hfa : f a = .inr (1, [v0, v1, v2, v3, v4])) (hdg : decode cc pc = .ok (.getfield 24, 3)) (kk : W p l e R s m args below meth c H locs cells slots Q (F0 m (pc + 3) ls (v3 :: rest))) : W p l e R s m args below meth c H locs cells slots Q (F0 m pc ls (.ref a :: rest)) :=
  jx_get (own := RX0) (ref := "JumpOrder$Order") (C := RX0) (T := TX0) (N := 5) hx hb hts jz_inO hown hG hw ha hfa rfl 3 (by decide) (by decide +kernel) (fun _ h => h) rfl hdg kk
theorem gf_O_49 (hx : p.tables.exec = Jvm.exec) (hb : c.code = cc) (hown : s.vm.findClass RX0 = some m.cls) (hts : ∀ w ∈ jz_TT, w.before args s = true) (hG : jz_G D ct s) (hw : jz_w D A H0 L f H locs) (ha : a ∈ L) {v0 v1 v2 v3 v4 v5 v6 : Value} (hfa : f a = .inr (2, [v0, v1, v2, v3, v4, v5, v6])) (hdg : decode cc pc = .ok (.getfield 49, 3)) (kk : W p l e R s m args below meth c H locs cells slots Q (F0 m (pc + 3) ls (v3 :: rest))) : W p l e R s m args below meth c H locs cells slots Q (F0 m pc ls (.ref a :: rest)) :=
  jx_getN (own := RX0) (ref := "JumpOrder$Place") (host := "JumpOrder") (C := RX1) (T := TX1) (N := 7) hx hb hts jz_inP hown hG hw ha hfa rfl 3 (by decide) (by decide +kernel) (fun _ h => h) rfl hdg kk
theorem cl_O_52 {nL b : Nat} {rm : Room} {As st0 fs : List Value} {post : Option Value → List Nat → (Nat → va_E) → Prop} (hx : p.tables.exec = Jvm.exec) (hb : c.code = cc) (hml : c.maxLocals = nL) (hown : s.vm.findClass RX0 = some m.cls) (hts : ∀ w ∈ jz_TT, w.before args s = true) (hG : jz_G D ct s) (hw : jz_w D A H0 L f H locs) (hM : jz_M l D ct yX1_isAheadOf cX1_isAheadOf 4 (some .boolean) rm (.ref b :: As) L f post) (hAs : As.length = 2) (hR : rm.frames + 1 ≤ R.frames ∧ 8 + (4 + 11) + rm.locals ≤ R.locals) (hbL : b ∈ L) (hfb : f b = .inr (2, fs)) (hsize : ls.size = nL) (hstack : st0 = As.reverse ++ .ref b :: rest) (hst : (rest.map fun v => v.category).sum ≤ 8) (hdg : decode cc pc = .ok (.invokevirtual 52, 3)) (hf : cells + rm.cells ≤ R.cells ∧ slots + rm.slots ≤ R.slots) (kk : ∀ (v : Option Value) (L' : List Nat) (f' : Nat → va_E) (H1 : Heap) (locs1 : List Loc), post v L' f' → jz_w D A H0 L' f' H1 locs1 → (H.size ≤ H1.size ∧ (∀ q : Nat, q < H.size → ¬ va_A (va_pl L f) H.size q → H1[q]? = H[q]?) ∧ va_D (va_A (va_pl L f) H.size) (va_pl L' f')) → W p l e R s m args below meth c H1 locs1 (cells + rm.cells) (slots + rm.slots) Q (F0 m (pc + 3) ls (v.toList ++ rest))) : W p l e R s m args below meth c H locs cells slots Q (F0 m pc ls st0) :=
  jx_callVN (own := RX0) (C := RX1) (host := "JumpOrder") hx hb hml hown hts jz_TTok hG hw hM jz_c_P_isAheadOf (by decide +kernel) (by decide +kernel) (by decide +kernel) (by decide +kernel) ⟨by decide, by decide, by rw [hAs]; decide +kernel⟩ hR hbL hfb rfl rfl hsize hstack hst hdg hf kk
theorem gf_O_56 (hx : p.tables.exec = Jvm.exec) (hb : c.code = cc) (hown : s.vm.findClass RX0 = some m.cls) (hts : ∀ w ∈ jz_TT, w.before args s = true) (hG : jz_G D ct s) (hw : jz_w D A H0 L f H locs) (ha : a ∈ L) {v0 v1 v2 v3 v4 : Value} (hfa : f a = .inr (1, [v0, v1, v2, v3, v4])) (hdg : decode cc pc = .ok (.getfield 56, 3)) (kk : W p l e R s m args below meth c H locs cells slots Q (F0 m (pc + 3) ls (v4 :: rest))) : W p l e R s m args below meth c H locs cells slots Q (F0 m pc ls (.ref a :: rest)) :=
  jx_get (own := RX0) (ref := "JumpOrder$Order") (C := RX0) (T := TX0) (N := 5) hx hb hts jz_inO hown hG hw ha hfa rfl 4 (by decide) (by decide +kernel) (fun _ h => h) rfl hdg kk
theorem gf_O_59 (hx : p.tables.exec = Jvm.exec) (hb : c.code = cc) (hown : s.vm.findClass RX0 = some m.cls) (hts : ∀ w ∈ jz_TT, w.before args s = true) (hG : jz_G D ct s) (hw : jz_w D A H0 L f H locs) (ha : a ∈ L) {v0 v1 v2 v3 v4 v5 v6 : Value} (hfa : f a = .inr (2, [v0, v1, v2, v3, v4, v5, v6])) (hdg : decode cc pc = .ok (.getfield 59, 3)) (kk : W p l e R s m args below meth c H locs cells slots Q (F0 m (pc + 3) ls (v4 :: rest))) : W p l e R s m args below meth c H locs cells slots Q (F0 m pc ls (.ref a :: rest)) :=
  jx_getN (own := RX0) (ref := "JumpOrder$Place") (host := "JumpOrder") (C := RX1) (T := TX1) (N := 7) hx hb hts jz_inP hown hG hw ha hfa rfl 4 (by decide) (by decide +kernel) (fun _ h => h) rfl hdg kk
theorem pf_O_56 (hx : p.tables.exec = Jvm.exec) (hb : c.code = cc) (hown : s.vm.findClass RX0 = some m.cls) (hts : ∀ w ∈ jz_TT, w.before args s = true) (hG : jz_G D ct s) (hw : jz_w D A H0 L f H locs) (ha : a ∈ L) {v0 v1 v2 v3 v4 : Value} (hfa : f a = .inr (1, [v0, v1, v2, v3, v4])) {y : Int32} (hdg : decode cc pc = .ok (.putfield 56, 3)) (kk : ∀ (H1 : Heap) (locs1 : List Loc), jz_w D A H0 L (va_up f a (.inr (1, [v0, v1, v2, v3, .int y]))) H1 locs1 → W p l e R s m args below meth c H1 locs1 cells slots Q (F0 m (pc + 3) ls rest)) : W p l e R s m args below meth c H locs cells slots Q (F0 m pc ls (.int y :: .ref a :: rest)) :=
  jx_put (own := RX0) (ref := "JumpOrder$Order") (C := RX0) (T := TX0) (N := 5) hx hb hts jz_inO tyX0 tyX0_ok nmX0 hown hG hw ha hfa rfl 4 (by decide) (by decide +kernel) (fun _ h => h) rfl (ty := .int) (by decide +kernel) rfl rfl (Nat.le_of_ble_eq_true rfl) hdg kk
theorem cl_O_63 {nL : Nat} {rm : Room} {As st0 : List Value} {post : Option Value → List Nat → (Nat → va_E) → Prop} (hx : p.tables.exec = Jvm.exec) (hb : c.code = cc) (hml : c.maxLocals = nL) (hown : s.vm.findClass RX0 = some m.cls) (hts : ∀ w ∈ jz_TT, w.before args s = true) (hG : jz_G D ct s) (hw : jz_w D A H0 L f H locs) (hM : jz_M l D ct yX0_heightOf cX0_heightOf 3 (some .int) rm As L f post) (hAs : As.length = 1) (hR : rm.frames + 1 ≤ R.frames ∧ 8 + (3 + 11) + rm.locals ≤ R.locals) (hsize : ls.size = nL) (hstack : st0 = As.reverse ++ rest) (hst : (rest.map fun v => v.category).sum ≤ 8) (hdg : decode cc pc = .ok (.invokestatic 63, 3)) (hf : cells + rm.cells ≤ R.cells ∧ slots + rm.slots ≤ R.slots) (kk : ∀ (v : Option Value) (L' : List Nat) (f' : Nat → va_E) (H1 : Heap) (locs1 : List Loc), post v L' f' → jz_w D A H0 L' f' H1 locs1 → (H.size ≤ H1.size ∧ (∀ q : Nat, q < H.size → ¬ va_A (va_pl L f) H.size q → H1[q]? = H[q]?) ∧ va_D (va_A (va_pl L f) H.size) (va_pl L' f')) → W p l e R s m args below meth c H1 locs1 (cells + rm.cells) (slots + rm.slots) Q (F0 m (pc + 3) ls (v.toList ++ rest))) : W p l e R s m args below meth c H locs cells slots Q (F0 m pc ls st0) :=
  jx_callS (own := RX0) hx hb hml hown hts jz_TTok hG hw hM jz_c_O_heightOf (by decide +kernel) (by decide +kernel) (by decide +kernel) ⟨by decide, by decide, by rw [hAs]; decide +kernel⟩ hR hsize hstack hst hdg hf kk
theorem pf_O_67 (hx : p.tables.exec = Jvm.exec) (hb : c.code = cc) (hown : s.vm.findClass RX0 = some m.cls) (hts : ∀ w ∈ jz_TT, w.before args s = true) (hG : jz_G D ct s) (hw : jz_w D A H0 L f H locs) (ha : a ∈ L) {v0 v1 v2 v3 v4 v5 v6 : Value} (hfa : f a = .inr (2, [v0, v1, v2, v3, v4, v5, v6])) {y : Int64} (hdg : decode cc pc = .ok (.putfield 67, 3)) (kk : ∀ (H1 : Heap) (locs1 : List Loc), jz_w D A H0 L (va_up f a (.inr (2, [v0, v1, v2, v3, v4, .long y, v6]))) H1 locs1 → W p l e R s m args below meth c H1 locs1 cells slots Q (F0 m (pc + 3) ls rest)) : W p l e R s m args below meth c H locs cells slots Q (F0 m pc ls (.long y :: .ref a :: rest)) :=
  jx_putN (own := RX0) (ref := "JumpOrder$Place") (host := "JumpOrder") (C := RX1) (T := TX1) (N := 7) hx hb hts jz_inP tyX1 tyX1_ok nmX1 hown hG hw ha hfa rfl 5 (by decide) (by decide +kernel) (fun _ h => h) rfl (ty := .long) (by decide +kernel) rfl rfl (Nat.le_of_ble_eq_true rfl) hdg kk
theorem pf_O_35 (hx : p.tables.exec = Jvm.exec) (hb : c.code = cc) (hown : s.vm.findClass RX0 = some m.cls) (hts : ∀ w ∈ jz_TT, w.before args s = true) (hG : jz_G D ct s) (hw : jz_w D A H0 L f H locs) (ha : a ∈ L) {v0 v1 v2 v3 v4 v5 v6 : Value} (hfa : f a = .inr (2, [v0, v1, v2, v3, v4, v5, v6])) {y : Int32} (hn : narrow .boolean (.int y) = .int y) (hfit : fits .boolean (.int y) = true) (hdg : decode cc pc = .ok (.putfield 35, 3)) (kk : ∀ (H1 : Heap) (locs1 : List Loc), jz_w D A H0 L (va_up f a (.inr (2, [v0, v1, v2, v3, v4, v5, .int y]))) H1 locs1 → W p l e R s m args below meth c H1 locs1 cells slots Q (F0 m (pc + 3) ls rest)) : W p l e R s m args below meth c H locs cells slots Q (F0 m pc ls (.int y :: .ref a :: rest)) :=
  jx_putN (own := RX0) (ref := "JumpOrder$Place") (host := "JumpOrder") (C := RX1) (T := TX1) (N := 7) hx hb hts jz_inP tyX1 tyX1_ok nmX1 hown hG hw ha hfa rfl 6 (by decide) (by decide +kernel) (fun _ h => h) rfl (ty := .boolean) (by decide +kernel) hn hfit (Nat.le_of_ble_eq_true rfl) hdg kk
theorem cl_O_71 {nL b : Nat} {rm : Room} {As st0 fs : List Value} {post : Option Value → List Nat → (Nat → va_E) → Prop} (hx : p.tables.exec = Jvm.exec) (hb : c.code = cc) (hml : c.maxLocals = nL) (hown : s.vm.findClass RX0 = some m.cls) (hts : ∀ w ∈ jz_TT, w.before args s = true) (hG : jz_G D ct s) (hw : jz_w D A H0 L f H locs) (hM : jz_M l D ct yX0_putIn cX0_putIn 4 none rm (.ref b :: As) L f post) (hAs : As.length = 1) (hR : rm.frames + 1 ≤ R.frames ∧ 8 + (4 + 11) + rm.locals ≤ R.locals) (hbL : b ∈ L) (hfb : f b = .inr (1, fs)) (hsize : ls.size = nL) (hstack : st0 = As.reverse ++ .ref b :: rest) (hst : (rest.map fun v => v.category).sum ≤ 8) (hdg : decode cc pc = .ok (.invokevirtual 71, 3)) (hf : cells + rm.cells ≤ R.cells ∧ slots + rm.slots ≤ R.slots) (kk : ∀ (v : Option Value) (L' : List Nat) (f' : Nat → va_E) (H1 : Heap) (locs1 : List Loc), post v L' f' → jz_w D A H0 L' f' H1 locs1 → (H.size ≤ H1.size ∧ (∀ q : Nat, q < H.size → ¬ va_A (va_pl L f) H.size q → H1[q]? = H[q]?) ∧ va_D (va_A (va_pl L f) H.size) (va_pl L' f')) → W p l e R s m args below meth c H1 locs1 (cells + rm.cells) (slots + rm.slots) Q (F0 m (pc + 3) ls (v.toList ++ rest))) : W p l e R s m args below meth c H locs cells slots Q (F0 m pc ls st0) :=
  jx_callV (own := RX0) (C := RX0) hx hb hml hown hts jz_TTok hG hw hM jz_c_O_putIn (by decide +kernel) (by decide +kernel) (by decide +kernel) (by decide +kernel) ⟨rfl, by decide, by decide, by rw [hAs]; decide +kernel⟩ hR hbL hfb rfl rfl hsize hstack hst hdg hf kk
theorem cl_O_74 {nL b : Nat} {rm : Room} {As st0 fs : List Value} {post : Option Value → List Nat → (Nat → va_E) → Prop} (hx : p.tables.exec = Jvm.exec) (hb : c.code = cc) (hml : c.maxLocals = nL) (hown : s.vm.findClass RX0 = some m.cls) (hts : ∀ w ∈ jz_TT, w.before args s = true) (hG : jz_G D ct s) (hw : jz_w D A H0 L f H locs) (hM : jz_M l D ct yX0_takeOut cX0_takeOut 4 none rm (.ref b :: As) L f post) (hAs : As.length = 1) (hR : rm.frames + 1 ≤ R.frames ∧ 8 + (4 + 11) + rm.locals ≤ R.locals) (hbL : b ∈ L) (hfb : f b = .inr (1, fs)) (hsize : ls.size = nL) (hstack : st0 = As.reverse ++ .ref b :: rest) (hst : (rest.map fun v => v.category).sum ≤ 8) (hdg : decode cc pc = .ok (.invokevirtual 74, 3)) (hf : cells + rm.cells ≤ R.cells ∧ slots + rm.slots ≤ R.slots) (kk : ∀ (v : Option Value) (L' : List Nat) (f' : Nat → va_E) (H1 : Heap) (locs1 : List Loc), post v L' f' → jz_w D A H0 L' f' H1 locs1 → (H.size ≤ H1.size ∧ (∀ q : Nat, q < H.size → ¬ va_A (va_pl L f) H.size q → H1[q]? = H[q]?) ∧ va_D (va_A (va_pl L f) H.size) (va_pl L' f')) → W p l e R s m args below meth c H1 locs1 (cells + rm.cells) (slots + rm.slots) Q (F0 m (pc + 3) ls (v.toList ++ rest))) : W p l e R s m args below meth c H locs cells slots Q (F0 m pc ls st0) :=
  jx_callV (own := RX0) (C := RX0) hx hb hml hown hts jz_TTok hG hw hM jz_c_O_takeOut (by decide +kernel) (by decide +kernel) (by decide +kernel) (by decide +kernel) ⟨rfl, by decide, by decide, by rw [hAs]; decide +kernel⟩ hR hbL hfb rfl rfl hsize hstack hst hdg hf kk
theorem pf_O_39 (hx : p.tables.exec = Jvm.exec) (hb : c.code = cc) (hown : s.vm.findClass RX0 = some m.cls) (hts : ∀ w ∈ jz_TT, w.before args s = true) (hG : jz_G D ct s) (hw : jz_w D A H0 L f H locs) (ha : a ∈ L) {v0 v1 v2 v3 v4 : Value} (hfa : f a = .inr (1, [v0, v1, v2, v3, v4])) {y : Int32} (hdg : decode cc pc = .ok (.putfield 39, 3)) (kk : ∀ (H1 : Heap) (locs1 : List Loc), jz_w D A H0 L (va_up f a (.inr (1, [v0, v1, .int y, v3, v4]))) H1 locs1 → W p l e R s m args below meth c H1 locs1 cells slots Q (F0 m (pc + 3) ls rest)) : W p l e R s m args below meth c H locs cells slots Q (F0 m pc ls (.int y :: .ref a :: rest)) :=
  jx_put (own := RX0) (ref := "JumpOrder$Order") (C := RX0) (T := TX0) (N := 5) hx hb hts jz_inO tyX0 tyX0_ok nmX0 hown hG hw ha hfa rfl 2 (by decide) (by decide +kernel) (fun _ h => h) rfl (ty := .int) (by decide +kernel) rfl rfl (Nat.le_of_ble_eq_true rfl) hdg kk
theorem gf_O_67 (hx : p.tables.exec = Jvm.exec) (hb : c.code = cc) (hown : s.vm.findClass RX0 = some m.cls) (hts : ∀ w ∈ jz_TT, w.before args s = true) (hG : jz_G D ct s) (hw : jz_w D A H0 L f H locs) (ha : a ∈ L) {v0 v1 v2 v3 v4 v5 v6 : Value} (hfa : f a = .inr (2, [v0, v1, v2, v3, v4, v5, v6])) (hdg : decode cc pc = .ok (.getfield 67, 3)) (kk : W p l e R s m args below meth c H locs cells slots Q (F0 m (pc + 3) ls (v5 :: rest))) : W p l e R s m args below meth c H locs cells slots Q (F0 m pc ls (.ref a :: rest)) :=
  jx_getN (own := RX0) (ref := "JumpOrder$Place") (host := "JumpOrder") (C := RX1) (T := TX1) (N := 7) hx hb hts jz_inP hown hG hw ha hfa rfl 5 (by decide) (by decide +kernel) (fun _ h => h) rfl hdg kk
theorem gf_O_77 (hx : p.tables.exec = Jvm.exec) (hb : c.code = cc) (hown : s.vm.findClass RX0 = some m.cls) (hts : ∀ w ∈ jz_TT, w.before args s = true) (hG : jz_G D ct s) (hw : jz_w D A H0 L f H locs) (ha : a ∈ L) {v0 v1 v2 v3 v4 v5 v6 : Value} (hfa : f a = .inr (2, [v0, v1, v2, v3, v4, v5, v6])) (hdg : decode cc pc = .ok (.getfield 77, 3)) (kk : W p l e R s m args below meth c H locs cells slots Q (F0 m (pc + 3) ls (v1 :: rest))) : W p l e R s m args below meth c H locs cells slots Q (F0 m pc ls (.ref a :: rest)) :=
  jx_getN (own := RX0) (ref := "JumpOrder$Place") (host := "JumpOrder") (C := RX1) (T := TX1) (N := 7) hx hb hts jz_inP hown hG hw ha hfa rfl 1 (by decide) (by decide +kernel) (fun _ h => h) rfl hdg kk
theorem cl_O_80 {nL b : Nat} {rm : Room} {As st0 fs : List Value} {post : Option Value → List Nat → (Nat → va_E) → Prop} (hx : p.tables.exec = Jvm.exec) (hb : c.code = cc) (hml : c.maxLocals = nL) (hown : s.vm.findClass RX0 = some m.cls) (hts : ∀ w ∈ jz_TT, w.before args s = true) (hG : jz_G D ct s) (hw : jz_w D A H0 L f H locs) (hM : jz_M l D ct yX0_countAheadOf cX0_countAheadOf 6 (some .int) rm (.ref b :: As) L f post) (hAs : As.length = 2) (hR : rm.frames + 1 ≤ R.frames ∧ 8 + (6 + 11) + rm.locals ≤ R.locals) (hbL : b ∈ L) (hfb : f b = .inr (1, fs)) (hsize : ls.size = nL) (hstack : st0 = As.reverse ++ .ref b :: rest) (hst : (rest.map fun v => v.category).sum ≤ 8) (hdg : decode cc pc = .ok (.invokevirtual 80, 3)) (hf : cells + rm.cells ≤ R.cells ∧ slots + rm.slots ≤ R.slots) (kk : ∀ (v : Option Value) (L' : List Nat) (f' : Nat → va_E) (H1 : Heap) (locs1 : List Loc), post v L' f' → jz_w D A H0 L' f' H1 locs1 → (H.size ≤ H1.size ∧ (∀ q : Nat, q < H.size → ¬ va_A (va_pl L f) H.size q → H1[q]? = H[q]?) ∧ va_D (va_A (va_pl L f) H.size) (va_pl L' f')) → W p l e R s m args below meth c H1 locs1 (cells + rm.cells) (slots + rm.slots) Q (F0 m (pc + 3) ls (v.toList ++ rest))) : W p l e R s m args below meth c H locs cells slots Q (F0 m pc ls st0) :=
  jx_callV (own := RX0) (C := RX0) hx hb hml hown hts jz_TTok hG hw hM jz_c_O_countAheadOf (by decide +kernel) (by decide +kernel) (by decide +kernel) (by decide +kernel) ⟨rfl, by decide, by decide, by rw [hAs]; decide +kernel⟩ hR hbL hfb rfl rfl hsize hstack hst hdg hf kk
theorem gf_O_84 (hx : p.tables.exec = Jvm.exec) (hb : c.code = cc) (hown : s.vm.findClass RX0 = some m.cls) (hts : ∀ w ∈ jz_TT, w.before args s = true) (hG : jz_G D ct s) (hw : jz_w D A H0 L f H locs) (ha : a ∈ L) {v0 v1 v2 v3 v4 v5 v6 : Value} (hfa : f a = .inr (2, [v0, v1, v2, v3, v4, v5, v6])) (hdg : decode cc pc = .ok (.getfield 84, 3)) (kk : W p l e R s m args below meth c H locs cells slots Q (F0 m (pc + 3) ls (v2 :: rest))) : W p l e R s m args below meth c H locs cells slots Q (F0 m pc ls (.ref a :: rest)) :=
  jx_getN (own := RX0) (ref := "JumpOrder$Place") (host := "JumpOrder") (C := RX1) (T := TX1) (N := 7) hx hb hts jz_inP hown hG hw ha hfa rfl 2 (by decide) (by decide +kernel) (fun _ h => h) rfl hdg kk
theorem pf_P_9 (hx : p.tables.exec = Jvm.exec) (hb : c.code = cc) (hown : s.vm.findClass RX1 = some m.cls) (hts : ∀ w ∈ jz_TT, w.before args s = true) (hG : jz_G D ct s) (hw : jz_w D A H0 L f H locs) (ha : a ∈ L) {v0 v1 v2 v3 v4 v5 v6 : Value} (hfa : f a = .inr (2, [v0, v1, v2, v3, v4, v5, v6])) (hin2 : meth.name = "<init>") {y : Int32} (hdg : decode cc pc = .ok (.putfield 9, 3)) (kk : ∀ (H1 : Heap) (locs1 : List Loc), jz_w D A H0 L (va_up f a (.inr (2, [.int y, v1, v2, v3, v4, v5, v6]))) H1 locs1 → W p l e R s m args below meth c H1 locs1 cells slots Q (F0 m (pc + 3) ls rest)) : W p l e R s m args below meth c H locs cells slots Q (F0 m pc ls (.int y :: .ref a :: rest)) :=
  jx_putF (own := RX1) (ref := "JumpOrder$Place") (C := RX1) (T := TX1) (N := 7) hx hb hts jz_inP tyX1 tyX1_ok nmX1 hown hG hw ha hfa rfl 0 (by decide) (by decide +kernel) (fun _ h => h) rfl hin2 rfl (ty := .int) (by decide +kernel) rfl rfl (Nat.le_of_ble_eq_true rfl) hdg kk
theorem cl_P_15 {nL : Nat} {rm : Room} {As st0 : List Value} {post : Option Value → List Nat → (Nat → va_E) → Prop} (hx : p.tables.exec = Jvm.exec) (hb : c.code = cc) (hml : c.maxLocals = nL) (hown : s.vm.findClass RX1 = some m.cls) (hts : ∀ w ∈ jz_TT, w.before args s = true) (hG : jz_G D ct s) (hw : jz_w D A H0 L f H locs) (hM : jz_M l D ct yX1_wordOf cX1_wordOf 1 (some .int) rm As L f post) (hAs : As.length = 1) (hR : rm.frames + 1 ≤ R.frames ∧ 8 + (1 + 11) + rm.locals ≤ R.locals) (hsize : ls.size = nL) (hstack : st0 = As.reverse ++ rest) (hst : (rest.map fun v => v.category).sum ≤ 8) (hdg : decode cc pc = .ok (.invokestatic 15, 3)) (hf : cells + rm.cells ≤ R.cells ∧ slots + rm.slots ≤ R.slots) (kk : ∀ (v : Option Value) (L' : List Nat) (f' : Nat → va_E) (H1 : Heap) (locs1 : List Loc), post v L' f' → jz_w D A H0 L' f' H1 locs1 → (H.size ≤ H1.size ∧ (∀ q : Nat, q < H.size → ¬ va_A (va_pl L f) H.size q → H1[q]? = H[q]?) ∧ va_D (va_A (va_pl L f) H.size) (va_pl L' f')) → W p l e R s m args below meth c H1 locs1 (cells + rm.cells) (slots + rm.slots) Q (F0 m (pc + 3) ls (v.toList ++ rest))) : W p l e R s m args below meth c H locs cells slots Q (F0 m pc ls st0) :=
  jx_callS (own := RX1) hx hb hml hown hts jz_TTok hG hw hM jz_c_P_wordOf (by decide +kernel) (by decide +kernel) (by decide +kernel) ⟨by decide, by decide, by rw [hAs]; decide +kernel⟩ hR hsize hstack hst hdg hf kk
theorem pf_P_19 (hx : p.tables.exec = Jvm.exec) (hb : c.code = cc) (hown : s.vm.findClass RX1 = some m.cls) (hts : ∀ w ∈ jz_TT, w.before args s = true) (hG : jz_G D ct s) (hw : jz_w D A H0 L f H locs) (ha : a ∈ L) {v0 v1 v2 v3 v4 v5 v6 : Value} (hfa : f a = .inr (2, [v0, v1, v2, v3, v4, v5, v6])) (hin2 : meth.name = "<init>") {y : Int32} (hdg : decode cc pc = .ok (.putfield 19, 3)) (kk : ∀ (H1 : Heap) (locs1 : List Loc), jz_w D A H0 L (va_up f a (.inr (2, [v0, .int y, v2, v3, v4, v5, v6]))) H1 locs1 → W p l e R s m args below meth c H1 locs1 cells slots Q (F0 m (pc + 3) ls rest)) : W p l e R s m args below meth c H locs cells slots Q (F0 m pc ls (.int y :: .ref a :: rest)) :=
  jx_putF (own := RX1) (ref := "JumpOrder$Place") (C := RX1) (T := TX1) (N := 7) hx hb hts jz_inP tyX1 tyX1_ok nmX1 hown hG hw ha hfa rfl 1 (by decide) (by decide +kernel) (fun _ h => h) rfl hin2 rfl (ty := .int) (by decide +kernel) rfl rfl (Nat.le_of_ble_eq_true rfl) hdg kk
theorem pf_P_22 (hx : p.tables.exec = Jvm.exec) (hb : c.code = cc) (hown : s.vm.findClass RX1 = some m.cls) (hts : ∀ w ∈ jz_TT, w.before args s = true) (hG : jz_G D ct s) (hw : jz_w D A H0 L f H locs) (ha : a ∈ L) {v0 v1 v2 v3 v4 v5 v6 : Value} (hfa : f a = .inr (2, [v0, v1, v2, v3, v4, v5, v6])) (hin2 : meth.name = "<init>") {y : Int32} (hdg : decode cc pc = .ok (.putfield 22, 3)) (kk : ∀ (H1 : Heap) (locs1 : List Loc), jz_w D A H0 L (va_up f a (.inr (2, [v0, v1, .int y, v3, v4, v5, v6]))) H1 locs1 → W p l e R s m args below meth c H1 locs1 cells slots Q (F0 m (pc + 3) ls rest)) : W p l e R s m args below meth c H locs cells slots Q (F0 m pc ls (.int y :: .ref a :: rest)) :=
  jx_putF (own := RX1) (ref := "JumpOrder$Place") (C := RX1) (T := TX1) (N := 7) hx hb hts jz_inP tyX1 tyX1_ok nmX1 hown hG hw ha hfa rfl 2 (by decide) (by decide +kernel) (fun _ h => h) rfl hin2 rfl (ty := .int) (by decide +kernel) rfl rfl (Nat.le_of_ble_eq_true rfl) hdg kk
theorem pf_P_25 (hx : p.tables.exec = Jvm.exec) (hb : c.code = cc) (hown : s.vm.findClass RX1 = some m.cls) (hts : ∀ w ∈ jz_TT, w.before args s = true) (hG : jz_G D ct s) (hw : jz_w D A H0 L f H locs) (ha : a ∈ L) {v0 v1 v2 v3 v4 v5 v6 : Value} (hfa : f a = .inr (2, [v0, v1, v2, v3, v4, v5, v6])) (hin2 : meth.name = "<init>") {y : Nat} (hdg : decode cc pc = .ok (.putfield 25, 3)) (kk : ∀ (H1 : Heap) (locs1 : List Loc), jz_w D A H0 L (va_up f a (.inr (2, [v0, v1, v2, .ref y, v4, v5, v6]))) H1 locs1 → W p l e R s m args below meth c H1 locs1 cells slots Q (F0 m (pc + 3) ls rest)) : W p l e R s m args below meth c H locs cells slots Q (F0 m pc ls (.ref y :: .ref a :: rest)) :=
  jx_putF (own := RX1) (ref := "JumpOrder$Place") (C := RX1) (T := TX1) (N := 7) hx hb hts jz_inP tyX1 tyX1_ok nmX1 hown hG hw ha hfa rfl 3 (by decide) (by decide +kernel) (fun _ h => h) rfl hin2 rfl (ty := .array (.object "JumpOrder$Place")) (by decide +kernel) rfl rfl (Nat.le_of_ble_eq_true rfl) hdg kk
theorem pf_P_29 (hx : p.tables.exec = Jvm.exec) (hb : c.code = cc) (hown : s.vm.findClass RX1 = some m.cls) (hts : ∀ w ∈ jz_TT, w.before args s = true) (hG : jz_G D ct s) (hw : jz_w D A H0 L f H locs) (ha : a ∈ L) {v0 v1 v2 v3 v4 v5 v6 : Value} (hfa : f a = .inr (2, [v0, v1, v2, v3, v4, v5, v6])) (hin2 : meth.name = "<init>") {y : Nat} (hdg : decode cc pc = .ok (.putfield 29, 3)) (kk : ∀ (H1 : Heap) (locs1 : List Loc), jz_w D A H0 L (va_up f a (.inr (2, [v0, v1, v2, v3, .ref y, v5, v6]))) H1 locs1 → W p l e R s m args below meth c H1 locs1 cells slots Q (F0 m (pc + 3) ls rest)) : W p l e R s m args below meth c H locs cells slots Q (F0 m pc ls (.ref y :: .ref a :: rest)) :=
  jx_putF (own := RX1) (ref := "JumpOrder$Place") (C := RX1) (T := TX1) (N := 7) hx hb hts jz_inP tyX1 tyX1_ok nmX1 hown hG hw ha hfa rfl 4 (by decide) (by decide +kernel) (fun _ h => h) rfl hin2 rfl (ty := .array .int) (by decide +kernel) rfl rfl (Nat.le_of_ble_eq_true rfl) hdg kk
theorem gf_P_33 (hx : p.tables.exec = Jvm.exec) (hb : c.code = cc) (hown : s.vm.findClass RX1 = some m.cls) (hts : ∀ w ∈ jz_TT, w.before args s = true) (hG : jz_G D ct s) (hw : jz_w D A H0 L f H locs) (ha : a ∈ L) {v0 v1 v2 v3 v4 v5 v6 : Value} (hfa : f a = .inr (2, [v0, v1, v2, v3, v4, v5, v6])) (hdg : decode cc pc = .ok (.getfield 33, 3)) (kk : W p l e R s m args below meth c H locs cells slots Q (F0 m (pc + 3) ls (v5 :: rest))) : W p l e R s m args below meth c H locs cells slots Q (F0 m pc ls (.ref a :: rest)) :=
  jx_get (own := RX1) (ref := "JumpOrder$Place") (C := RX1) (T := TX1) (N := 7) hx hb hts jz_inP hown hG hw ha hfa rfl 5 (by decide) (by decide +kernel) (fun _ h => h) rfl hdg kk
theorem gf_P_19 (hx : p.tables.exec = Jvm.exec) (hb : c.code = cc) (hown : s.vm.findClass RX1 = some m.cls) (hts : ∀ w ∈ jz_TT, w.before args s = true) (hG : jz_G D ct s) (hw : jz_w D A H0 L f H locs) (ha : a ∈ L) {v0 v1 v2 v3 v4 v5 v6 : Value} (hfa : f a = .inr (2, [v0, v1, v2, v3, v4, v5, v6])) (hdg : decode cc pc = .ok (.getfield 19, 3)) (kk : W p l e R s m args below meth c H locs cells slots Q (F0 m (pc + 3) ls (v1 :: rest))) : W p l e R s m args below meth c H locs cells slots Q (F0 m pc ls (.ref a :: rest)) :=
  jx_get (own := RX1) (ref := "JumpOrder$Place") (C := RX1) (T := TX1) (N := 7) hx hb hts jz_inP hown hG hw ha hfa rfl 1 (by decide) (by decide +kernel) (fun _ h => h) rfl hdg kk
theorem cl_L_9 {nL b : Nat} {rm : Room} {As st0 : List Value} {post : Option Value → List Nat → (Nat → va_E) → Prop} (hx : p.tables.exec = Jvm.exec) (hb : c.code = cc) (hml : c.maxLocals = nL) (hown : s.vm.findClass RL = some m.cls) (hts : ∀ w ∈ jz_TT, w.before args s = true) (hG : jz_G D ct s) (hw : jz_w D A H0 L f H locs) (hM : jz_M l D ct yX2_init cX2_init 2 none rm (.ref b :: As) L f post) (hAs : As.length = 0) (hR : rm.frames + 1 ≤ R.frames ∧ 8 + (2 + 11) + rm.locals ≤ R.locals) (hsize : ls.size = nL) (hstack : st0 = As.reverse ++ .ref b :: rest) (hst : (rest.map fun v => v.category).sum ≤ 8) (hdg : decode cc pc = .ok (.invokespecial 9, 3)) (hf : cells + rm.cells ≤ R.cells ∧ slots + rm.slots ≤ R.slots) (kk : ∀ (v : Option Value) (L' : List Nat) (f' : Nat → va_E) (H1 : Heap) (locs1 : List Loc), post v L' f' → jz_w D A H0 L' f' H1 locs1 → (H.size ≤ H1.size ∧ (∀ q : Nat, q < H.size → ¬ va_A (va_pl L f) H.size q → H1[q]? = H[q]?) ∧ va_D (va_A (va_pl L f) H.size) (va_pl L' f')) → W p l e R s m args below meth c H1 locs1 (cells + rm.cells) (slots + rm.slots) Q (F0 m (pc + 3) ls (v.toList ++ rest))) : W p l e R s m args below meth c H locs cells slots Q (F0 m pc ls st0) :=
  jx_callI (own := RL) hx hb hml hown hts jz_TTok hG hw hM jz_c_X_init (by decide +kernel) (by decide +kernel) (by decide +kernel) rfl ⟨by decide, by decide, by rw [hAs]; decide +kernel⟩ hR hsize hstack hst hdg hf kk
theorem cl_L_12 {nL b : Nat} {rm : Room} {As st0 : List Value} {post : Option Value → List Nat → (Nat → va_E) → Prop} (hx : p.tables.exec = Jvm.exec) (hb : c.code = cc) (hml : c.maxLocals = nL) (hown : s.vm.findClass RL = some m.cls) (hts : ∀ w ∈ jz_TT, w.before args s = true) (hG : jz_G D ct s) (hw : jz_w D A H0 L f H locs) (hM : jz_M l D ct yX3_init cX3_init 1 none rm (.ref b :: As) L f post) (hAs : As.length = 0) (hR : rm.frames + 1 ≤ R.frames ∧ 8 + (1 + 11) + rm.locals ≤ R.locals) (hsize : ls.size = nL) (hstack : st0 = As.reverse ++ .ref b :: rest) (hst : (rest.map fun v => v.category).sum ≤ 8) (hdg : decode cc pc = .ok (.invokespecial 12, 3)) (hf : cells + rm.cells ≤ R.cells ∧ slots + rm.slots ≤ R.slots) (kk : ∀ (v : Option Value) (L' : List Nat) (f' : Nat → va_E) (H1 : Heap) (locs1 : List Loc), post v L' f' → jz_w D A H0 L' f' H1 locs1 → (H.size ≤ H1.size ∧ (∀ q : Nat, q < H.size → ¬ va_A (va_pl L f) H.size q → H1[q]? = H[q]?) ∧ va_D (va_A (va_pl L f) H.size) (va_pl L' f')) → W p l e R s m args below meth c H1 locs1 (cells + rm.cells) (slots + rm.slots) Q (F0 m (pc + 3) ls (v.toList ++ rest))) : W p l e R s m args below meth c H locs cells slots Q (F0 m pc ls st0) :=
  jx_callI (own := RL) hx hb hml hown hts jz_TTok hG hw hM jz_c_M_init (by decide +kernel) (by decide +kernel) (by decide +kernel) rfl ⟨by decide, by decide, by rw [hAs]; decide +kernel⟩ hR hsize hstack hst hdg hf kk
theorem cl_L_15 {nL b : Nat} {rm : Room} {As st0 fs : List Value} {post : Option Value → List Nat → (Nat → va_E) → Prop} (hx : p.tables.exec = Jvm.exec) (hb : c.code = cc) (hml : c.maxLocals = nL) (hown : s.vm.findClass RL = some m.cls) (hts : ∀ w ∈ jz_TT, w.before args s = true) (hG : jz_G D ct s) (hw : jz_w D A H0 L f H locs) (hM : jz_M l D ct yX2_set cX2_set 7 (some .int) rm (.ref b :: As) L f post) (hAs : As.length = 3) (hR : rm.frames + 1 ≤ R.frames ∧ 8 + (7 + 11) + rm.locals ≤ R.locals) (hbL : b ∈ L) (hfb : f b = .inr (0, fs)) (hsize : ls.size = nL) (hstack : st0 = As.reverse ++ .ref b :: rest) (hst : (rest.map fun v => v.category).sum ≤ 8) (hdg : decode cc pc = .ok (.invokevirtual 15, 3)) (hf : cells + rm.cells ≤ R.cells ∧ slots + rm.slots ≤ R.slots) (kk : ∀ (v : Option Value) (L' : List Nat) (f' : Nat → va_E) (H1 : Heap) (locs1 : List Loc), post v L' f' → jz_w D A H0 L' f' H1 locs1 → (H.size ≤ H1.size ∧ (∀ q : Nat, q < H.size → ¬ va_A (va_pl L f) H.size q → H1[q]? = H[q]?) ∧ va_D (va_A (va_pl L f) H.size) (va_pl L' f')) → W p l e R s m args below meth c H1 locs1 (cells + rm.cells) (slots + rm.slots) Q (F0 m (pc + 3) ls (v.toList ++ rest))) : W p l e R s m args below meth c H locs cells slots Q (F0 m pc ls st0) :=
  jx_callV (own := RL) (C := RX2) hx hb hml hown hts jz_TTok hG hw hM jz_c_X_set (by decide +kernel) (by decide +kernel) (by decide +kernel) (by decide +kernel) ⟨rfl, by decide, by decide, by rw [hAs]; decide +kernel⟩ hR hbL hfb rfl rfl hsize hstack hst hdg hf kk
theorem cl_L_19 {nL b : Nat} {rm : Room} {As st0 fs : List Value} {post : Option Value → List Nat → (Nat → va_E) → Prop} (hx : p.tables.exec = Jvm.exec) (hb : c.code = cc) (hml : c.maxLocals = nL) (hown : s.vm.findClass RL = some m.cls) (hts : ∀ w ∈ jz_TT, w.before args s = true) (hG : jz_G D ct s) (hw : jz_w D A H0 L f H locs) (hM : jz_M l D ct yX3_set cX3_set 9 (some .int) rm (.ref b :: As) L f post) (hAs : As.length = 3) (hR : rm.frames + 1 ≤ R.frames ∧ 8 + (9 + 11) + rm.locals ≤ R.locals) (hbL : b ∈ L) (hfb : f b = .inr (3, fs)) (hsize : ls.size = nL) (hstack : st0 = As.reverse ++ .ref b :: rest) (hst : (rest.map fun v => v.category).sum ≤ 8) (hdg : decode cc pc = .ok (.invokevirtual 19, 3)) (hf : cells + rm.cells ≤ R.cells ∧ slots + rm.slots ≤ R.slots) (kk : ∀ (v : Option Value) (L' : List Nat) (f' : Nat → va_E) (H1 : Heap) (locs1 : List Loc), post v L' f' → jz_w D A H0 L' f' H1 locs1 → (H.size ≤ H1.size ∧ (∀ q : Nat, q < H.size → ¬ va_A (va_pl L f) H.size q → H1[q]? = H[q]?) ∧ va_D (va_A (va_pl L f) H.size) (va_pl L' f')) → W p l e R s m args below meth c H1 locs1 (cells + rm.cells) (slots + rm.slots) Q (F0 m (pc + 3) ls (v.toList ++ rest))) : W p l e R s m args below meth c H locs cells slots Q (F0 m pc ls st0) :=
  jx_callV (own := RL) (C := RX3) hx hb hml hown hts jz_TTok hG hw hM jz_c_M_set (by decide +kernel) (by decide +kernel) (by decide +kernel) (by decide +kernel) ⟨rfl, by decide, by decide, by rw [hAs]; decide +kernel⟩ hR hbL hfb rfl rfl hsize hstack hst hdg hf kk
theorem cl_L_20 {nL b : Nat} {rm : Room} {As st0 fs : List Value} {post : Option Value → List Nat → (Nat → va_E) → Prop} (hx : p.tables.exec = Jvm.exec) (hb : c.code = cc) (hml : c.maxLocals = nL) (hown : s.vm.findClass RL = some m.cls) (hts : ∀ w ∈ jz_TT, w.before args s = true) (hG : jz_G D ct s) (hw : jz_w D A H0 L f H locs) (hM : jz_M l D ct yX2_remove cX2_remove 5 (some .int) rm (.ref b :: As) L f post) (hAs : As.length = 2) (hR : rm.frames + 1 ≤ R.frames ∧ 8 + (5 + 11) + rm.locals ≤ R.locals) (hbL : b ∈ L) (hfb : f b = .inr (0, fs)) (hsize : ls.size = nL) (hstack : st0 = As.reverse ++ .ref b :: rest) (hst : (rest.map fun v => v.category).sum ≤ 8) (hdg : decode cc pc = .ok (.invokevirtual 20, 3)) (hf : cells + rm.cells ≤ R.cells ∧ slots + rm.slots ≤ R.slots) (kk : ∀ (v : Option Value) (L' : List Nat) (f' : Nat → va_E) (H1 : Heap) (locs1 : List Loc), post v L' f' → jz_w D A H0 L' f' H1 locs1 → (H.size ≤ H1.size ∧ (∀ q : Nat, q < H.size → ¬ va_A (va_pl L f) H.size q → H1[q]? = H[q]?) ∧ va_D (va_A (va_pl L f) H.size) (va_pl L' f')) → W p l e R s m args below meth c H1 locs1 (cells + rm.cells) (slots + rm.slots) Q (F0 m (pc + 3) ls (v.toList ++ rest))) : W p l e R s m args below meth c H locs cells slots Q (F0 m pc ls st0) :=
  jx_callV (own := RL) (C := RX2) hx hb hml hown hts jz_TTok hG hw hM jz_c_X_remove (by decide +kernel) (by decide +kernel) (by decide +kernel) (by decide +kernel) ⟨rfl, by decide, by decide, by rw [hAs]; decide +kernel⟩ hR hbL hfb rfl rfl hsize hstack hst hdg hf kk
theorem cl_L_24 {nL b : Nat} {rm : Room} {As st0 fs : List Value} {post : Option Value → List Nat → (Nat → va_E) → Prop} (hx : p.tables.exec = Jvm.exec) (hb : c.code = cc) (hml : c.maxLocals = nL) (hown : s.vm.findClass RL = some m.cls) (hts : ∀ w ∈ jz_TT, w.before args s = true) (hG : jz_G D ct s) (hw : jz_w D A H0 L f H locs) (hM : jz_M l D ct yX3_remove cX3_remove 3 (some .int) rm (.ref b :: As) L f post) (hAs : As.length = 2) (hR : rm.frames + 1 ≤ R.frames ∧ 8 + (3 + 11) + rm.locals ≤ R.locals) (hbL : b ∈ L) (hfb : f b = .inr (3, fs)) (hsize : ls.size = nL) (hstack : st0 = As.reverse ++ .ref b :: rest) (hst : (rest.map fun v => v.category).sum ≤ 8) (hdg : decode cc pc = .ok (.invokevirtual 24, 3)) (hf : cells + rm.cells ≤ R.cells ∧ slots + rm.slots ≤ R.slots) (kk : ∀ (v : Option Value) (L' : List Nat) (f' : Nat → va_E) (H1 : Heap) (locs1 : List Loc), post v L' f' → jz_w D A H0 L' f' H1 locs1 → (H.size ≤ H1.size ∧ (∀ q : Nat, q < H.size → ¬ va_A (va_pl L f) H.size q → H1[q]? = H[q]?) ∧ va_D (va_A (va_pl L f) H.size) (va_pl L' f')) → W p l e R s m args below meth c H1 locs1 (cells + rm.cells) (slots + rm.slots) Q (F0 m (pc + 3) ls (v.toList ++ rest))) : W p l e R s m args below meth c H locs cells slots Q (F0 m pc ls st0) :=
  jx_callV (own := RL) (C := RX3) hx hb hml hown hts jz_TTok hG hw hM jz_c_M_remove (by decide +kernel) (by decide +kernel) (by decide +kernel) (by decide +kernel) ⟨rfl, by decide, by decide, by rw [hAs]; decide +kernel⟩ hR hbL hfb rfl rfl hsize hstack hst hdg hf kk
theorem cl_L_25 {nL b : Nat} {rm : Room} {As st0 fs : List Value} {post : Option Value → List Nat → (Nat → va_E) → Prop} (hx : p.tables.exec = Jvm.exec) (hb : c.code = cc) (hml : c.maxLocals = nL) (hown : s.vm.findClass RL = some m.cls) (hts : ∀ w ∈ jz_TT, w.before args s = true) (hG : jz_G D ct s) (hw : jz_w D A H0 L f H locs) (hM : jz_M l D ct yX2_clear cX2_clear 3 (some .int) rm (.ref b :: As) L f post) (hAs : As.length = 1) (hR : rm.frames + 1 ≤ R.frames ∧ 8 + (3 + 11) + rm.locals ≤ R.locals) (hbL : b ∈ L) (hfb : f b = .inr (0, fs)) (hsize : ls.size = nL) (hstack : st0 = As.reverse ++ .ref b :: rest) (hst : (rest.map fun v => v.category).sum ≤ 8) (hdg : decode cc pc = .ok (.invokevirtual 25, 3)) (hf : cells + rm.cells ≤ R.cells ∧ slots + rm.slots ≤ R.slots) (kk : ∀ (v : Option Value) (L' : List Nat) (f' : Nat → va_E) (H1 : Heap) (locs1 : List Loc), post v L' f' → jz_w D A H0 L' f' H1 locs1 → (H.size ≤ H1.size ∧ (∀ q : Nat, q < H.size → ¬ va_A (va_pl L f) H.size q → H1[q]? = H[q]?) ∧ va_D (va_A (va_pl L f) H.size) (va_pl L' f')) → W p l e R s m args below meth c H1 locs1 (cells + rm.cells) (slots + rm.slots) Q (F0 m (pc + 3) ls (v.toList ++ rest))) : W p l e R s m args below meth c H locs cells slots Q (F0 m pc ls st0) :=
  jx_callV (own := RL) (C := RX2) hx hb hml hown hts jz_TTok hG hw hM jz_c_X_clear (by decide +kernel) (by decide +kernel) (by decide +kernel) (by decide +kernel) ⟨rfl, by decide, by decide, by rw [hAs]; decide +kernel⟩ hR hbL hfb rfl rfl hsize hstack hst hdg hf kk
theorem cl_L_29 {nL b : Nat} {rm : Room} {As st0 fs : List Value} {post : Option Value → List Nat → (Nat → va_E) → Prop} (hx : p.tables.exec = Jvm.exec) (hb : c.code = cc) (hml : c.maxLocals = nL) (hown : s.vm.findClass RL = some m.cls) (hts : ∀ w ∈ jz_TT, w.before args s = true) (hG : jz_G D ct s) (hw : jz_w D A H0 L f H locs) (hM : jz_M l D ct yX3_clear cX3_clear 4 (some .int) rm (.ref b :: As) L f post) (hAs : As.length = 1) (hR : rm.frames + 1 ≤ R.frames ∧ 8 + (4 + 11) + rm.locals ≤ R.locals) (hbL : b ∈ L) (hfb : f b = .inr (3, fs)) (hsize : ls.size = nL) (hstack : st0 = As.reverse ++ .ref b :: rest) (hst : (rest.map fun v => v.category).sum ≤ 8) (hdg : decode cc pc = .ok (.invokevirtual 29, 3)) (hf : cells + rm.cells ≤ R.cells ∧ slots + rm.slots ≤ R.slots) (kk : ∀ (v : Option Value) (L' : List Nat) (f' : Nat → va_E) (H1 : Heap) (locs1 : List Loc), post v L' f' → jz_w D A H0 L' f' H1 locs1 → (H.size ≤ H1.size ∧ (∀ q : Nat, q < H.size → ¬ va_A (va_pl L f) H.size q → H1[q]? = H[q]?) ∧ va_D (va_A (va_pl L f) H.size) (va_pl L' f')) → W p l e R s m args below meth c H1 locs1 (cells + rm.cells) (slots + rm.slots) Q (F0 m (pc + 3) ls (v.toList ++ rest))) : W p l e R s m args below meth c H locs cells slots Q (F0 m pc ls st0) :=
  jx_callV (own := RL) (C := RX3) hx hb hml hown hts jz_TTok hG hw hM jz_c_M_clear (by decide +kernel) (by decide +kernel) (by decide +kernel) (by decide +kernel) ⟨rfl, by decide, by decide, by rw [hAs]; decide +kernel⟩ hR hbL hfb rfl rfl hsize hstack hst hdg hf kk
theorem cl_L_30 {nL b : Nat} {rm : Room} {As st0 fs : List Value} {post : Option Value → List Nat → (Nat → va_E) → Prop} (hx : p.tables.exec = Jvm.exec) (hb : c.code = cc) (hml : c.maxLocals = nL) (hown : s.vm.findClass RL = some m.cls) (hts : ∀ w ∈ jz_TT, w.before args s = true) (hG : jz_G D ct s) (hw : jz_w D A H0 L f H locs) (hM : jz_M l D ct yX2_score cX2_score 5 (some .long) rm (.ref b :: As) L f post) (hAs : As.length = 2) (hR : rm.frames + 1 ≤ R.frames ∧ 8 + (5 + 11) + rm.locals ≤ R.locals) (hbL : b ∈ L) (hfb : f b = .inr (0, fs)) (hsize : ls.size = nL) (hstack : st0 = As.reverse ++ .ref b :: rest) (hst : (rest.map fun v => v.category).sum ≤ 8) (hdg : decode cc pc = .ok (.invokevirtual 30, 3)) (hf : cells + rm.cells ≤ R.cells ∧ slots + rm.slots ≤ R.slots) (kk : ∀ (v : Option Value) (L' : List Nat) (f' : Nat → va_E) (H1 : Heap) (locs1 : List Loc), post v L' f' → jz_w D A H0 L' f' H1 locs1 → (H.size ≤ H1.size ∧ (∀ q : Nat, q < H.size → ¬ va_A (va_pl L f) H.size q → H1[q]? = H[q]?) ∧ va_D (va_A (va_pl L f) H.size) (va_pl L' f')) → W p l e R s m args below meth c H1 locs1 (cells + rm.cells) (slots + rm.slots) Q (F0 m (pc + 3) ls (v.toList ++ rest))) : W p l e R s m args below meth c H locs cells slots Q (F0 m pc ls st0) :=
  jx_callV (own := RL) (C := RX2) hx hb hml hown hts jz_TTok hG hw hM jz_c_X_score (by decide +kernel) (by decide +kernel) (by decide +kernel) (by decide +kernel) ⟨rfl, by decide, by decide, by rw [hAs]; decide +kernel⟩ hR hbL hfb rfl rfl hsize hstack hst hdg hf kk
theorem cl_L_34 {nL b : Nat} {rm : Room} {As st0 fs : List Value} {post : Option Value → List Nat → (Nat → va_E) → Prop} (hx : p.tables.exec = Jvm.exec) (hb : c.code = cc) (hml : c.maxLocals = nL) (hown : s.vm.findClass RL = some m.cls) (hts : ∀ w ∈ jz_TT, w.before args s = true) (hG : jz_G D ct s) (hw : jz_w D A H0 L f H locs) (hM : jz_M l D ct yX3_score cX3_score 3 (some .long) rm (.ref b :: As) L f post) (hAs : As.length = 2) (hR : rm.frames + 1 ≤ R.frames ∧ 8 + (3 + 11) + rm.locals ≤ R.locals) (hbL : b ∈ L) (hfb : f b = .inr (3, fs)) (hsize : ls.size = nL) (hstack : st0 = As.reverse ++ .ref b :: rest) (hst : (rest.map fun v => v.category).sum ≤ 8) (hdg : decode cc pc = .ok (.invokevirtual 34, 3)) (hf : cells + rm.cells ≤ R.cells ∧ slots + rm.slots ≤ R.slots) (kk : ∀ (v : Option Value) (L' : List Nat) (f' : Nat → va_E) (H1 : Heap) (locs1 : List Loc), post v L' f' → jz_w D A H0 L' f' H1 locs1 → (H.size ≤ H1.size ∧ (∀ q : Nat, q < H.size → ¬ va_A (va_pl L f) H.size q → H1[q]? = H[q]?) ∧ va_D (va_A (va_pl L f) H.size) (va_pl L' f')) → W p l e R s m args below meth c H1 locs1 (cells + rm.cells) (slots + rm.slots) Q (F0 m (pc + 3) ls (v.toList ++ rest))) : W p l e R s m args below meth c H locs cells slots Q (F0 m pc ls st0) :=
  jx_callV (own := RL) (C := RX3) hx hb hml hown hts jz_TTok hG hw hM jz_c_M_score (by decide +kernel) (by decide +kernel) (by decide +kernel) (by decide +kernel) ⟨rfl, by decide, by decide, by rw [hAs]; decide +kernel⟩ hR hbL hfb rfl rfl hsize hstack hst hdg hf kk
theorem cl_L_35 {nL b : Nat} {rm : Room} {As st0 fs : List Value} {post : Option Value → List Nat → (Nat → va_E) → Prop} (hx : p.tables.exec = Jvm.exec) (hb : c.code = cc) (hml : c.maxLocals = nL) (hown : s.vm.findClass RL = some m.cls) (hts : ∀ w ∈ jz_TT, w.before args s = true) (hG : jz_G D ct s) (hw : jz_w D A H0 L f H locs) (hM : jz_M l D ct yX2_rank cX2_rank 5 (some .int) rm (.ref b :: As) L f post) (hAs : As.length = 2) (hR : rm.frames + 1 ≤ R.frames ∧ 8 + (5 + 11) + rm.locals ≤ R.locals) (hbL : b ∈ L) (hfb : f b = .inr (0, fs)) (hsize : ls.size = nL) (hstack : st0 = As.reverse ++ .ref b :: rest) (hst : (rest.map fun v => v.category).sum ≤ 8) (hdg : decode cc pc = .ok (.invokevirtual 35, 3)) (hf : cells + rm.cells ≤ R.cells ∧ slots + rm.slots ≤ R.slots) (kk : ∀ (v : Option Value) (L' : List Nat) (f' : Nat → va_E) (H1 : Heap) (locs1 : List Loc), post v L' f' → jz_w D A H0 L' f' H1 locs1 → (H.size ≤ H1.size ∧ (∀ q : Nat, q < H.size → ¬ va_A (va_pl L f) H.size q → H1[q]? = H[q]?) ∧ va_D (va_A (va_pl L f) H.size) (va_pl L' f')) → W p l e R s m args below meth c H1 locs1 (cells + rm.cells) (slots + rm.slots) Q (F0 m (pc + 3) ls (v.toList ++ rest))) : W p l e R s m args below meth c H locs cells slots Q (F0 m pc ls st0) :=
  jx_callV (own := RL) (C := RX2) hx hb hml hown hts jz_TTok hG hw hM jz_c_X_rank (by decide +kernel) (by decide +kernel) (by decide +kernel) (by decide +kernel) ⟨rfl, by decide, by decide, by rw [hAs]; decide +kernel⟩ hR hbL hfb rfl rfl hsize hstack hst hdg hf kk
theorem cl_L_38 {nL b : Nat} {rm : Room} {As st0 fs : List Value} {post : Option Value → List Nat → (Nat → va_E) → Prop} (hx : p.tables.exec = Jvm.exec) (hb : c.code = cc) (hml : c.maxLocals = nL) (hown : s.vm.findClass RL = some m.cls) (hts : ∀ w ∈ jz_TT, w.before args s = true) (hG : jz_G D ct s) (hw : jz_w D A H0 L f H locs) (hM : jz_M l D ct yX3_rank cX3_rank 4 (some .int) rm (.ref b :: As) L f post) (hAs : As.length = 2) (hR : rm.frames + 1 ≤ R.frames ∧ 8 + (4 + 11) + rm.locals ≤ R.locals) (hbL : b ∈ L) (hfb : f b = .inr (3, fs)) (hsize : ls.size = nL) (hstack : st0 = As.reverse ++ .ref b :: rest) (hst : (rest.map fun v => v.category).sum ≤ 8) (hdg : decode cc pc = .ok (.invokevirtual 38, 3)) (hf : cells + rm.cells ≤ R.cells ∧ slots + rm.slots ≤ R.slots) (kk : ∀ (v : Option Value) (L' : List Nat) (f' : Nat → va_E) (H1 : Heap) (locs1 : List Loc), post v L' f' → jz_w D A H0 L' f' H1 locs1 → (H.size ≤ H1.size ∧ (∀ q : Nat, q < H.size → ¬ va_A (va_pl L f) H.size q → H1[q]? = H[q]?) ∧ va_D (va_A (va_pl L f) H.size) (va_pl L' f')) → W p l e R s m args below meth c H1 locs1 (cells + rm.cells) (slots + rm.slots) Q (F0 m (pc + 3) ls (v.toList ++ rest))) : W p l e R s m args below meth c H locs cells slots Q (F0 m pc ls st0) :=
  jx_callV (own := RL) (C := RX3) hx hb hml hown hts jz_TTok hG hw hM jz_c_M_rank (by decide +kernel) (by decide +kernel) (by decide +kernel) (by decide +kernel) ⟨rfl, by decide, by decide, by rw [hAs]; decide +kernel⟩ hR hbL hfb rfl rfl hsize hstack hst hdg hf kk
theorem cl_L_39 {nL b : Nat} {rm : Room} {As st0 fs : List Value} {post : Option Value → List Nat → (Nat → va_E) → Prop} (hx : p.tables.exec = Jvm.exec) (hb : c.code = cc) (hml : c.maxLocals = nL) (hown : s.vm.findClass RL = some m.cls) (hts : ∀ w ∈ jz_TT, w.before args s = true) (hG : jz_G D ct s) (hw : jz_w D A H0 L f H locs) (hM : jz_M l D ct yX2_at cX2_at 5 (some .int) rm (.ref b :: As) L f post) (hAs : As.length = 2) (hR : rm.frames + 1 ≤ R.frames ∧ 8 + (5 + 11) + rm.locals ≤ R.locals) (hbL : b ∈ L) (hfb : f b = .inr (0, fs)) (hsize : ls.size = nL) (hstack : st0 = As.reverse ++ .ref b :: rest) (hst : (rest.map fun v => v.category).sum ≤ 8) (hdg : decode cc pc = .ok (.invokevirtual 39, 3)) (hf : cells + rm.cells ≤ R.cells ∧ slots + rm.slots ≤ R.slots) (kk : ∀ (v : Option Value) (L' : List Nat) (f' : Nat → va_E) (H1 : Heap) (locs1 : List Loc), post v L' f' → jz_w D A H0 L' f' H1 locs1 → (H.size ≤ H1.size ∧ (∀ q : Nat, q < H.size → ¬ va_A (va_pl L f) H.size q → H1[q]? = H[q]?) ∧ va_D (va_A (va_pl L f) H.size) (va_pl L' f')) → W p l e R s m args below meth c H1 locs1 (cells + rm.cells) (slots + rm.slots) Q (F0 m (pc + 3) ls (v.toList ++ rest))) : W p l e R s m args below meth c H locs cells slots Q (F0 m pc ls st0) :=
  jx_callV (own := RL) (C := RX2) hx hb hml hown hts jz_TTok hG hw hM jz_c_X_at (by decide +kernel) (by decide +kernel) (by decide +kernel) (by decide +kernel) ⟨rfl, by decide, by decide, by rw [hAs]; decide +kernel⟩ hR hbL hfb rfl rfl hsize hstack hst hdg hf kk
theorem cl_L_42 {nL b : Nat} {rm : Room} {As st0 fs : List Value} {post : Option Value → List Nat → (Nat → va_E) → Prop} (hx : p.tables.exec = Jvm.exec) (hb : c.code = cc) (hml : c.maxLocals = nL) (hown : s.vm.findClass RL = some m.cls) (hts : ∀ w ∈ jz_TT, w.before args s = true) (hG : jz_G D ct s) (hw : jz_w D A H0 L f H locs) (hM : jz_M l D ct yX3_at cX3_at 3 (some .int) rm (.ref b :: As) L f post) (hAs : As.length = 2) (hR : rm.frames + 1 ≤ R.frames ∧ 8 + (3 + 11) + rm.locals ≤ R.locals) (hbL : b ∈ L) (hfb : f b = .inr (3, fs)) (hsize : ls.size = nL) (hstack : st0 = As.reverse ++ .ref b :: rest) (hst : (rest.map fun v => v.category).sum ≤ 8) (hdg : decode cc pc = .ok (.invokevirtual 42, 3)) (hf : cells + rm.cells ≤ R.cells ∧ slots + rm.slots ≤ R.slots) (kk : ∀ (v : Option Value) (L' : List Nat) (f' : Nat → va_E) (H1 : Heap) (locs1 : List Loc), post v L' f' → jz_w D A H0 L' f' H1 locs1 → (H.size ≤ H1.size ∧ (∀ q : Nat, q < H.size → ¬ va_A (va_pl L f) H.size q → H1[q]? = H[q]?) ∧ va_D (va_A (va_pl L f) H.size) (va_pl L' f')) → W p l e R s m args below meth c H1 locs1 (cells + rm.cells) (slots + rm.slots) Q (F0 m (pc + 3) ls (v.toList ++ rest))) : W p l e R s m args below meth c H locs cells slots Q (F0 m pc ls st0) :=
  jx_callV (own := RL) (C := RX3) hx hb hml hown hts jz_TTok hG hw hM jz_c_M_at (by decide +kernel) (by decide +kernel) (by decide +kernel) (by decide +kernel) ⟨rfl, by decide, by decide, by rw [hAs]; decide +kernel⟩ hR hbL hfb rfl rfl hsize hstack hst hdg hf kk
theorem cl_L_43 {nL b : Nat} {rm : Room} {As st0 fs : List Value} {post : Option Value → List Nat → (Nat → va_E) → Prop} (hx : p.tables.exec = Jvm.exec) (hb : c.code = cc) (hml : c.maxLocals = nL) (hown : s.vm.findClass RL = some m.cls) (hts : ∀ w ∈ jz_TT, w.before args s = true) (hG : jz_G D ct s) (hw : jz_w D A H0 L f H locs) (hM : jz_M l D ct yX2_below cX2_below 6 (some .int) rm (.ref b :: As) L f post) (hAs : As.length = 3) (hR : rm.frames + 1 ≤ R.frames ∧ 8 + (6 + 11) + rm.locals ≤ R.locals) (hbL : b ∈ L) (hfb : f b = .inr (0, fs)) (hsize : ls.size = nL) (hstack : st0 = As.reverse ++ .ref b :: rest) (hst : (rest.map fun v => v.category).sum ≤ 8) (hdg : decode cc pc = .ok (.invokevirtual 43, 3)) (hf : cells + rm.cells ≤ R.cells ∧ slots + rm.slots ≤ R.slots) (kk : ∀ (v : Option Value) (L' : List Nat) (f' : Nat → va_E) (H1 : Heap) (locs1 : List Loc), post v L' f' → jz_w D A H0 L' f' H1 locs1 → (H.size ≤ H1.size ∧ (∀ q : Nat, q < H.size → ¬ va_A (va_pl L f) H.size q → H1[q]? = H[q]?) ∧ va_D (va_A (va_pl L f) H.size) (va_pl L' f')) → W p l e R s m args below meth c H1 locs1 (cells + rm.cells) (slots + rm.slots) Q (F0 m (pc + 3) ls (v.toList ++ rest))) : W p l e R s m args below meth c H locs cells slots Q (F0 m pc ls st0) :=
  jx_callV (own := RL) (C := RX2) hx hb hml hown hts jz_TTok hG hw hM jz_c_X_below (by decide +kernel) (by decide +kernel) (by decide +kernel) (by decide +kernel) ⟨rfl, by decide, by decide, by rw [hAs]; decide +kernel⟩ hR hbL hfb rfl rfl hsize hstack hst hdg hf kk
theorem cl_L_47 {nL b : Nat} {rm : Room} {As st0 fs : List Value} {post : Option Value → List Nat → (Nat → va_E) → Prop} (hx : p.tables.exec = Jvm.exec) (hb : c.code = cc) (hml : c.maxLocals = nL) (hown : s.vm.findClass RL = some m.cls) (hts : ∀ w ∈ jz_TT, w.before args s = true) (hG : jz_G D ct s) (hw : jz_w D A H0 L f H locs) (hM : jz_M l D ct yX3_below cX3_below 9 (some .int) rm (.ref b :: As) L f post) (hAs : As.length = 3) (hR : rm.frames + 1 ≤ R.frames ∧ 8 + (9 + 11) + rm.locals ≤ R.locals) (hbL : b ∈ L) (hfb : f b = .inr (3, fs)) (hsize : ls.size = nL) (hstack : st0 = As.reverse ++ .ref b :: rest) (hst : (rest.map fun v => v.category).sum ≤ 8) (hdg : decode cc pc = .ok (.invokevirtual 47, 3)) (hf : cells + rm.cells ≤ R.cells ∧ slots + rm.slots ≤ R.slots) (kk : ∀ (v : Option Value) (L' : List Nat) (f' : Nat → va_E) (H1 : Heap) (locs1 : List Loc), post v L' f' → jz_w D A H0 L' f' H1 locs1 → (H.size ≤ H1.size ∧ (∀ q : Nat, q < H.size → ¬ va_A (va_pl L f) H.size q → H1[q]? = H[q]?) ∧ va_D (va_A (va_pl L f) H.size) (va_pl L' f')) → W p l e R s m args below meth c H1 locs1 (cells + rm.cells) (slots + rm.slots) Q (F0 m (pc + 3) ls (v.toList ++ rest))) : W p l e R s m args below meth c H locs cells slots Q (F0 m pc ls st0) :=
  jx_callV (own := RL) (C := RX3) hx hb hml hown hts jz_TTok hG hw hM jz_c_M_below (by decide +kernel) (by decide +kernel) (by decide +kernel) (by decide +kernel) ⟨rfl, by decide, by decide, by rw [hAs]; decide +kernel⟩ hR hbL hfb rfl rfl hsize hstack hst hdg hf kk
theorem cl_L_48 {nL b : Nat} {rm : Room} {As st0 fs : List Value} {post : Option Value → List Nat → (Nat → va_E) → Prop} (hx : p.tables.exec = Jvm.exec) (hb : c.code = cc) (hml : c.maxLocals = nL) (hown : s.vm.findClass RL = some m.cls) (hts : ∀ w ∈ jz_TT, w.before args s = true) (hG : jz_G D ct s) (hw : jz_w D A H0 L f H locs) (hM : jz_M l D ct yX2_size cX2_size 3 (some .int) rm (.ref b :: As) L f post) (hAs : As.length = 1) (hR : rm.frames + 1 ≤ R.frames ∧ 8 + (3 + 11) + rm.locals ≤ R.locals) (hbL : b ∈ L) (hfb : f b = .inr (0, fs)) (hsize : ls.size = nL) (hstack : st0 = As.reverse ++ .ref b :: rest) (hst : (rest.map fun v => v.category).sum ≤ 8) (hdg : decode cc pc = .ok (.invokevirtual 48, 3)) (hf : cells + rm.cells ≤ R.cells ∧ slots + rm.slots ≤ R.slots) (kk : ∀ (v : Option Value) (L' : List Nat) (f' : Nat → va_E) (H1 : Heap) (locs1 : List Loc), post v L' f' → jz_w D A H0 L' f' H1 locs1 → (H.size ≤ H1.size ∧ (∀ q : Nat, q < H.size → ¬ va_A (va_pl L f) H.size q → H1[q]? = H[q]?) ∧ va_D (va_A (va_pl L f) H.size) (va_pl L' f')) → W p l e R s m args below meth c H1 locs1 (cells + rm.cells) (slots + rm.slots) Q (F0 m (pc + 3) ls (v.toList ++ rest))) : W p l e R s m args below meth c H locs cells slots Q (F0 m pc ls st0) :=
  jx_callV (own := RL) (C := RX2) hx hb hml hown hts jz_TTok hG hw hM jz_c_X_size (by decide +kernel) (by decide +kernel) (by decide +kernel) (by decide +kernel) ⟨rfl, by decide, by decide, by rw [hAs]; decide +kernel⟩ hR hbL hfb rfl rfl hsize hstack hst hdg hf kk
theorem cl_L_51 {nL b : Nat} {rm : Room} {As st0 fs : List Value} {post : Option Value → List Nat → (Nat → va_E) → Prop} (hx : p.tables.exec = Jvm.exec) (hb : c.code = cc) (hml : c.maxLocals = nL) (hown : s.vm.findClass RL = some m.cls) (hts : ∀ w ∈ jz_TT, w.before args s = true) (hG : jz_G D ct s) (hw : jz_w D A H0 L f H locs) (hM : jz_M l D ct yX3_size cX3_size 2 (some .int) rm (.ref b :: As) L f post) (hAs : As.length = 1) (hR : rm.frames + 1 ≤ R.frames ∧ 8 + (2 + 11) + rm.locals ≤ R.locals) (hbL : b ∈ L) (hfb : f b = .inr (3, fs)) (hsize : ls.size = nL) (hstack : st0 = As.reverse ++ .ref b :: rest) (hst : (rest.map fun v => v.category).sum ≤ 8) (hdg : decode cc pc = .ok (.invokevirtual 51, 3)) (hf : cells + rm.cells ≤ R.cells ∧ slots + rm.slots ≤ R.slots) (kk : ∀ (v : Option Value) (L' : List Nat) (f' : Nat → va_E) (H1 : Heap) (locs1 : List Loc), post v L' f' → jz_w D A H0 L' f' H1 locs1 → (H.size ≤ H1.size ∧ (∀ q : Nat, q < H.size → ¬ va_A (va_pl L f) H.size q → H1[q]? = H[q]?) ∧ va_D (va_A (va_pl L f) H.size) (va_pl L' f')) → W p l e R s m args below meth c H1 locs1 (cells + rm.cells) (slots + rm.slots) Q (F0 m (pc + 3) ls (v.toList ++ rest))) : W p l e R s m args below meth c H locs cells slots Q (F0 m pc ls st0) :=
  jx_callV (own := RL) (C := RX3) hx hb hml hown hts jz_TTok hG hw hM jz_c_M_size (by decide +kernel) (by decide +kernel) (by decide +kernel) (by decide +kernel) ⟨rfl, by decide, by decide, by rw [hAs]; decide +kernel⟩ hR hbL hfb rfl rfl hsize hstack hst hdg hf kk
theorem cl_L_52 {nL b : Nat} {rm : Room} {As st0 fs : List Value} {post : Option Value → List Nat → (Nat → va_E) → Prop} (hx : p.tables.exec = Jvm.exec) (hb : c.code = cc) (hml : c.maxLocals = nL) (hown : s.vm.findClass RL = some m.cls) (hts : ∀ w ∈ jz_TT, w.before args s = true) (hG : jz_G D ct s) (hw : jz_w D A H0 L f H locs) (hM : jz_M l D ct yX2_walk cX2_walk 8 (some .int) rm (.ref b :: As) L f post) (hAs : As.length = 3) (hR : rm.frames + 1 ≤ R.frames ∧ 8 + (8 + 11) + rm.locals ≤ R.locals) (hbL : b ∈ L) (hfb : f b = .inr (0, fs)) (hsize : ls.size = nL) (hstack : st0 = As.reverse ++ .ref b :: rest) (hst : (rest.map fun v => v.category).sum ≤ 8) (hdg : decode cc pc = .ok (.invokevirtual 52, 3)) (hf : cells + rm.cells ≤ R.cells ∧ slots + rm.slots ≤ R.slots) (kk : ∀ (v : Option Value) (L' : List Nat) (f' : Nat → va_E) (H1 : Heap) (locs1 : List Loc), post v L' f' → jz_w D A H0 L' f' H1 locs1 → (H.size ≤ H1.size ∧ (∀ q : Nat, q < H.size → ¬ va_A (va_pl L f) H.size q → H1[q]? = H[q]?) ∧ va_D (va_A (va_pl L f) H.size) (va_pl L' f')) → W p l e R s m args below meth c H1 locs1 (cells + rm.cells) (slots + rm.slots) Q (F0 m (pc + 3) ls (v.toList ++ rest))) : W p l e R s m args below meth c H locs cells slots Q (F0 m pc ls st0) :=
  jx_callV (own := RL) (C := RX2) hx hb hml hown hts jz_TTok hG hw hM jz_c_X_walk (by decide +kernel) (by decide +kernel) (by decide +kernel) (by decide +kernel) ⟨rfl, by decide, by decide, by rw [hAs]; decide +kernel⟩ hR hbL hfb rfl rfl hsize hstack hst hdg hf kk
theorem cl_L_56 {nL b : Nat} {rm : Room} {As st0 fs : List Value} {post : Option Value → List Nat → (Nat → va_E) → Prop} (hx : p.tables.exec = Jvm.exec) (hb : c.code = cc) (hml : c.maxLocals = nL) (hown : s.vm.findClass RL = some m.cls) (hts : ∀ w ∈ jz_TT, w.before args s = true) (hG : jz_G D ct s) (hw : jz_w D A H0 L f H locs) (hM : jz_M l D ct yX3_walk cX3_walk 6 (some .int) rm (.ref b :: As) L f post) (hAs : As.length = 3) (hR : rm.frames + 1 ≤ R.frames ∧ 8 + (6 + 11) + rm.locals ≤ R.locals) (hbL : b ∈ L) (hfb : f b = .inr (3, fs)) (hsize : ls.size = nL) (hstack : st0 = As.reverse ++ .ref b :: rest) (hst : (rest.map fun v => v.category).sum ≤ 8) (hdg : decode cc pc = .ok (.invokevirtual 56, 3)) (hf : cells + rm.cells ≤ R.cells ∧ slots + rm.slots ≤ R.slots) (kk : ∀ (v : Option Value) (L' : List Nat) (f' : Nat → va_E) (H1 : Heap) (locs1 : List Loc), post v L' f' → jz_w D A H0 L' f' H1 locs1 → (H.size ≤ H1.size ∧ (∀ q : Nat, q < H.size → ¬ va_A (va_pl L f) H.size q → H1[q]? = H[q]?) ∧ va_D (va_A (va_pl L f) H.size) (va_pl L' f')) → W p l e R s m args below meth c H1 locs1 (cells + rm.cells) (slots + rm.slots) Q (F0 m (pc + 3) ls (v.toList ++ rest))) : W p l e R s m args below meth c H locs cells slots Q (F0 m pc ls st0) :=
  jx_callV (own := RL) (C := RX3) hx hb hml hown hts jz_TTok hG hw hM jz_c_M_walk (by decide +kernel) (by decide +kernel) (by decide +kernel) (by decide +kernel) ⟨rfl, by decide, by decide, by rw [hAs]; decide +kernel⟩ hR hbL hfb rfl rfl hsize hstack hst hdg hf kk
end JZ
end
section
/-! rows of steps, purely: of a list of places, the first that is higher than r, and how far it is -/
def jr_fst (ht : Nat → Nat) (r : Nat) : List Nat → Option Nat
  | [] => none
  | b :: t => if r < ht b then some b else jr_fst ht r t
def jr_dst (ht : Nat → Nat) (r : Nat) : List Nat → Nat
  | [] => 1
  | b :: t => if r < ht b then 1 else jr_dst ht r t + 1
/-- row r is right for the list: each place's step goes to the next that is higher than r -/
def jr_ok (ht : Nat → Nat) (NX : Nat → Nat → Option Nat) (FR : Nat → Nat → Int32) (r : Nat) : List Nat → Prop
  | [] => True
  | a :: t => (r < ht a → NX a r = jr_fst ht r t ∧ FR a r = nI (jr_dst ht r t)) ∧ jr_ok ht NX FR r t
theorem jr_fst_low {ht : Nat → Nat} {r : Nat} {s t : List Nat} (h : ∀ x ∈ s, ht x ≤ r) : jr_fst ht r (s ++ t) = jr_fst ht r t := by
  induction s with
  | nil => rfl
  | cons b u ih =>
    have hb : ¬ r < ht b := Nat.not_lt.mpr (h b List.mem_cons_self)
    show (if r < ht b then some b else jr_fst ht r (u ++ t)) = _
    rw [if_neg hb]
    exact ih (fun x hx => h x (List.mem_cons_of_mem _ hx))
theorem jr_dst_low {ht : Nat → Nat} {r : Nat} {s t : List Nat} (h : ∀ x ∈ s, ht x ≤ r) : jr_dst ht r (s ++ t) = s.length + jr_dst ht r t := by
  induction s with
  | nil => simp
  | cons b u ih =>
    have hb : ¬ r < ht b := Nat.not_lt.mpr (h b List.mem_cons_self)
    show (if r < ht b then 1 else jr_dst ht r (u ++ t) + 1) = _
    rw [if_neg hb, ih (fun x hx => h x (List.mem_cons_of_mem _ hx))]
    simp only [List.length_cons]
    omega
theorem jr_fst_at {ht : Nat → Nat} {r b : Nat} {t : List Nat} (h : r < ht b) : jr_fst ht r (b :: t) = some b := by
  show (if r < ht b then some b else jr_fst ht r t) = _
  rw [if_pos h]
theorem jr_dst_at {ht : Nat → Nat} {r b : Nat} {t : List Nat} (h : r < ht b) : jr_dst ht r (b :: t) = 1 := by
  show (if r < ht b then 1 else jr_dst ht r t + 1) = _
  rw [if_pos h]
theorem jr_dst_pos {ht : Nat → Nat} {r : Nat} {t : List Nat} : 1 ≤ jr_dst ht r t := by
  cases t with
  | nil => exact Nat.le_refl 1
  | cons b u =>
    show 1 ≤ (if r < ht b then 1 else jr_dst ht r u + 1)
    split <;> omega
theorem jr_dst_le {ht : Nat → Nat} {r : Nat} {t : List Nat} : jr_dst ht r t ≤ t.length + 1 := by
  induction t with
  | nil => exact Nat.le_refl 1
  | cons b u ih =>
    show (if r < ht b then 1 else jr_dst ht r u + 1) ≤ _
    simp only [List.length_cons]
    split <;> omega
/-- the first that is higher, with what lies between -/
theorem jr_split {ht : Nat → Nat} {r b : Nat} {t : List Nat} (h : jr_fst ht r t = some b) : ∃ (mid suf : List Nat), t = mid ++ b :: suf ∧ (∀ x ∈ mid, ht x ≤ r) ∧ r < ht b ∧ jr_dst ht r t = mid.length + 1 := by
  induction t with
  | nil => cases h
  | cons y u ih =>
    by_cases hy : r < ht y
    · rw [jr_fst_at hy] at h
      cases h
      exact ⟨[], u, rfl, fun x hx => absurd hx List.not_mem_nil, hy, jr_dst_at hy⟩
    · have h1 : jr_fst ht r u = some b := by
        have h0 : (if r < ht y then some y else jr_fst ht r u) = some b := h
        rwa [if_neg hy] at h0
      obtain ⟨mid, suf, e1, e2, e3, e4⟩ := ih h1
      refine ⟨y :: mid, suf, by rw [e1]; rfl, ?_, e3, ?_⟩
      · intro x hx
        rcases List.mem_cons.mp hx with h | h
        · rw [h]; exact Nat.not_lt.mp hy
        · exact e2 x h
      · show (if r < ht y then 1 else jr_dst ht r u + 1) = _
        rw [if_neg hy, e4]
        rfl
theorem jr_none {ht : Nat → Nat} {r : Nat} {t : List Nat} (h : jr_fst ht r t = none) : (∀ x ∈ t, ht x ≤ r) ∧ jr_dst ht r t = t.length + 1 := by
  induction t with
  | nil => exact ⟨fun x hx => absurd hx List.not_mem_nil, rfl⟩
  | cons y u ih =>
    by_cases hy : r < ht y
    · rw [jr_fst_at hy] at h
      cases h
    · have h1 : jr_fst ht r u = none := by
        have h0 : (if r < ht y then some y else jr_fst ht r u) = none := h
        rwa [if_neg hy] at h0
      obtain ⟨e1, e2⟩ := ih h1
      refine ⟨fun x hx => ?_, ?_⟩
      · rcases List.mem_cons.mp hx with h | h
        · rw [h]; exact Nat.not_lt.mp hy
        · exact e1 x h
      · show (if r < ht y then 1 else jr_dst ht r u + 1) = _
        rw [if_neg hy, e2]
        rfl
/-- what lies nearer than the step goes is low -/
theorem jr_lowBy {ht : Nat → Nat} {r : Nat} {s t : List Nat} (h : s.length < jr_dst ht r (s ++ t)) : ∀ x ∈ s, ht x ≤ r := by
  induction s with
  | nil => exact fun x hx => absurd hx List.not_mem_nil
  | cons y u ih =>
    by_cases hy : r < ht y
    · have h1 : jr_dst ht r (y :: (u ++ t)) = 1 := jr_dst_at hy
      have h2 : (y :: u).length < 1 := by rw [← h1]; exact h
      simp at h2
    · have h1 : jr_dst ht r (y :: (u ++ t)) = jr_dst ht r (u ++ t) + 1 := by
        show (if r < ht y then 1 else jr_dst ht r (u ++ t) + 1) = _
        rw [if_neg hy]
      have h2 : (y :: u).length < jr_dst ht r (y :: (u ++ t)) := h
      rw [h1] at h2
      simp only [List.length_cons] at h2
      intro x hx
      rcases List.mem_cons.mp hx with h | h
      · rw [h]; exact Nat.not_lt.mp hy
      · exact ih (by omega) x h
theorem jr_ok_at {ht : Nat → Nat} {NX : Nat → Nat → Option Nat} {FR : Nat → Nat → Int32} {r a : Nat} {pre suf : List Nat} (h : jr_ok ht NX FR r (pre ++ a :: suf)) (ha : r < ht a) : NX a r = jr_fst ht r suf ∧ FR a r = nI (jr_dst ht r suf) := by
  induction pre with
  | nil => exact h.1 ha
  | cons y u ih => exact ih h.2
theorem jr_ok_congr {ht : Nat → Nat} {NX NX' : Nat → Nat → Option Nat} {FR FR' : Nat → Nat → Int32} {r : Nat} {ns : List Nat} (h : jr_ok ht NX FR r ns) (e : ∀ a ∈ ns, r < ht a → NX' a r = NX a r ∧ FR' a r = FR a r) : jr_ok ht NX' FR' r ns := by
  induction ns with
  | nil => trivial
  | cons y u ih =>
    refine ⟨fun hy => ?_, ih h.2 (fun a ha => e a (List.mem_cons_of_mem _ ha))⟩
    obtain ⟨e1, e2⟩ := e y List.mem_cons_self hy
    rw [e1, e2]
    exact h.1 hy
theorem jr_ok_app {ht : Nat → Nat} {NX : Nat → Nat → Option Nat} {FR : Nat → Nat → Int32} {r : Nat} {s t : List Nat} (h : jr_ok ht NX FR r (s ++ t)) : jr_ok ht NX FR r t := by
  induction s with
  | nil => exact h
  | cons y u ih => exact ih h.2
/-- beyond a place that is higher than r, a step before it doesn't see -/
theorem jr_fst_cut {ht : Nat → Nat} {r a : Nat} {x t t' : List Nat} (ha : r < ht a) : jr_fst ht r (x ++ a :: t) = jr_fst ht r (x ++ a :: t') := by
  induction x with
  | nil => show jr_fst ht r (a :: t) = jr_fst ht r (a :: t'); rw [jr_fst_at ha, jr_fst_at ha]
  | cons y u ih =>
    show (if r < ht y then some y else jr_fst ht r (u ++ a :: t)) = (if r < ht y then some y else jr_fst ht r (u ++ a :: t'))
    rw [ih]
theorem jr_dst_cut {ht : Nat → Nat} {r a : Nat} {x t t' : List Nat} (ha : r < ht a) : jr_dst ht r (x ++ a :: t) = jr_dst ht r (x ++ a :: t') := by
  induction x with
  | nil => show jr_dst ht r (a :: t) = jr_dst ht r (a :: t'); rw [jr_dst_at ha, jr_dst_at ha]
  | cons y u ih =>
    show (if r < ht y then 1 else jr_dst ht r (u ++ a :: t) + 1) = (if r < ht y then 1 else jr_dst ht r (u ++ a :: t') + 1)
    rw [ih]
/-- another tail behind a: the row is right if it is right from a on, and nothing ahead of a has changed -/
theorem jr_ok_tail {ht : Nat → Nat} {NX NX' : Nat → Nat → Option Nat} {FR FR' : Nat → Nat → Int32} {r a : Nat} {pre t t' : List Nat} (ha : r < ht a) (h : jr_ok ht NX FR r (pre ++ a :: t)) (e : ∀ b ∈ pre, NX' b r = NX b r ∧ FR' b r = FR b r) (h' : jr_ok ht NX' FR' r (a :: t')) : jr_ok ht NX' FR' r (pre ++ a :: t') := by
  induction pre with
  | nil => exact h'
  | cons y u ih =>
    refine ⟨fun hy => ?_, ih h.2 (fun b hb => e b (List.mem_cons_of_mem _ hb))⟩
    obtain ⟨e1, e2⟩ := e y List.mem_cons_self
    have h0 : NX y r = jr_fst ht r (u ++ a :: t) ∧ FR y r = nI (jr_dst ht r (u ++ a :: t)) := h.1 hy
    show NX' y r = jr_fst ht r (u ++ a :: t') ∧ FR' y r = nI (jr_dst ht r (u ++ a :: t'))
    rw [e1, e2, h0.1, h0.2, jr_fst_cut (t' := t') ha, jr_dst_cut (t' := t') ha]
    exact ⟨rfl, rfl⟩
theorem jr_ok_lows {ht : Nat → Nat} {NX : Nat → Nat → Option Nat} {FR : Nat → Nat → Int32} {r : Nat} {s t : List Nat} (hs : ∀ x ∈ s, ht x ≤ r) (h : jr_ok ht NX FR r t) : jr_ok ht NX FR r (s ++ t) := by
  induction s with
  | nil => exact h
  | cons y u ih => exact ⟨fun hy => absurd hy (Nat.not_lt.mpr (hs y List.mem_cons_self)), ih (fun x hx => hs x (List.mem_cons_of_mem _ hx))⟩
/-- a place comes in behind the low ones s1 behind a -/
theorem jr_ins {ht : Nat → Nat} {NX NX' : Nat → Nat → Option Nat} {FR FR' : Nat → Nat → Int32} {r a b : Nat} {pre s1 p2 : List Nat} (h : jr_ok ht NX FR r (pre ++ a :: (s1 ++ p2))) (ha : r < ht a) (hs : ∀ x ∈ s1, ht x ≤ r)
    (e1 : ∀ x ∈ pre, NX' x r = NX x r ∧ FR' x r = FR x r) (e2 : ∀ x ∈ p2, NX' x r = NX x r ∧ FR' x r = FR x r)
    (hb : r < ht b → NX' b r = jr_fst ht r p2 ∧ FR' b r = nI (jr_dst ht r p2) ∧ NX' a r = some b ∧ FR' a r = nI (s1.length + 1))
    (hn : ¬ r < ht b → NX' a r = jr_fst ht r p2 ∧ FR' a r = nI (s1.length + 1 + jr_dst ht r p2)) : jr_ok ht NX' FR' r (pre ++ a :: (s1 ++ b :: p2)) := by
  have h2 : jr_ok ht NX FR r p2 := jr_ok_app (s := s1) (jr_ok_app (s := pre) h).2
  have h2' : jr_ok ht NX' FR' r p2 := jr_ok_congr h2 (fun x hx _ => e2 x hx)
  refine jr_ok_tail ha h e1 ⟨fun _ => ?_, jr_ok_lows hs ⟨fun hy => ⟨(hb hy).1, (hb hy).2.1⟩, h2'⟩⟩
  by_cases hy : r < ht b
  · rw [jr_fst_low hs, jr_fst_at hy, jr_dst_low hs, jr_dst_at hy]
    exact (hb hy).2.2
  · have f1 : jr_fst ht r (s1 ++ b :: p2) = jr_fst ht r p2 := by
      rw [jr_fst_low hs]
      show (if r < ht b then some b else jr_fst ht r p2) = _
      rw [if_neg hy]
    have f2 : jr_dst ht r (s1 ++ b :: p2) = s1.length + 1 + jr_dst ht r p2 := by
      rw [jr_dst_low hs]
      show s1.length + (if r < ht b then 1 else jr_dst ht r p2 + 1) = _
      rw [if_neg hy]
      omega
    rw [f1, f2]
    exact hn hy
/-- a place goes out behind the low ones s1 behind a -/
theorem jr_del {ht : Nat → Nat} {NX NX' : Nat → Nat → Option Nat} {FR FR' : Nat → Nat → Int32} {r a b : Nat} {pre s1 p2 : List Nat} (h : jr_ok ht NX FR r (pre ++ a :: (s1 ++ b :: p2))) (ha : r < ht a) (hs : ∀ x ∈ s1, ht x ≤ r)
    (e1 : ∀ x ∈ pre, NX' x r = NX x r ∧ FR' x r = FR x r) (e2 : ∀ x ∈ p2, NX' x r = NX x r ∧ FR' x r = FR x r)
    (h3 : NX' a r = jr_fst ht r p2 ∧ FR' a r = nI (s1.length + jr_dst ht r p2)) : jr_ok ht NX' FR' r (pre ++ a :: (s1 ++ p2)) := by
  have h2 : jr_ok ht NX FR r p2 := (jr_ok_app (s := s1) (jr_ok_app (s := pre) h).2).2
  have h2' : jr_ok ht NX' FR' r p2 := jr_ok_congr h2 (fun x hx _ => e2 x hx)
  refine jr_ok_tail ha h e1 ⟨fun _ => ?_, jr_ok_lows hs h2'⟩
  rw [jr_fst_low hs, jr_dst_low hs]
  exact h3
theorem jr_atE {ht : Nat → Nat} {NX : Nat → Nat → Option Nat} {FR : Nat → Nat → Int32} {r a : Nat} {ns pre suf : List Nat} (h : jr_ok ht NX FR r ns) (e : ns = pre ++ a :: suf) (ha : r < ht a) : NX a r = jr_fst ht r suf ∧ FR a r = nI (jr_dst ht r suf) := by
  subst e
  exact jr_ok_at h ha
/-! an order's cells: k = (member, word, height, the address of next, of far), u = (score, isIn, next, far), by the place's address -/
abbrev jK : Type := (Nat → Int32) × (Nat → Int32) × (Nat → Nat) × (Nat → Nat) × (Nat → Nat)
abbrev jS : Type := (Nat → Int64) × (Nat → Int32) × (Nat → Nat → Option Nat) × (Nat → Nat → Int32)
abbrev jo_eP (k : jK) (u : jS) (a : Nat) : va_E := .inr (2, [.int (k.1 a), .int (k.2.1 a), .int (nI (k.2.2.1 a)), .ref (k.2.2.2.1 a), .ref (k.2.2.2.2 a), .long (u.1 a), .int (u.2.1 a)])
abbrev jo_eN (cP : ClassId) (g : Nat → Option Nat) : va_E := .inl (cP, 4, .inr (.inr (.inr (.inr g))))
abbrev jo_eF (cI : ClassId) (g : Nat → Int32) : va_E := .inl (cI, 4, .inl g)
abbrev jo_eT (cP : ClassId) (g : Nat → Option Nat) : va_E := .inl (cP, 1000, .inr (.inr (.inr (.inr g))))
abbrev jo_eO (hd pa : Nat) (cnt : Int32) (hr : Nat) (ps : Int32) : va_E := .inr (1, [.ref hd, .ref pa, .int cnt, .ref hr, .int ps])
/-- the places PS stand in the pool -/
def jo_V (cI cP : ClassId) (L : List Nat) (f : Nat → va_E) (k : jK) (u : jS) (PS : List Nat) : Prop :=
  (∀ a ∈ PS, a ∈ L ∧ k.2.2.2.1 a ∈ L ∧ k.2.2.2.2 a ∈ L ∧ f a = jo_eP k u a ∧ f (k.2.2.2.1 a) = jo_eN cP (u.2.2.1 a) ∧ f (k.2.2.2.2 a) = jo_eF cI (u.2.2.2 a)) ∧
  (∀ a ∈ PS, ∀ b ∈ PS, k.2.2.2.1 a = k.2.2.2.1 b → a = b) ∧ (∀ a ∈ PS, ∀ b ∈ PS, k.2.2.2.2 a = k.2.2.2.2 b → a = b)
/-- q is none of the cells of the places PS -/
def jo_N (k : jK) (PS : List Nat) (q : Nat) : Prop := ∀ a ∈ PS, q ≠ a ∧ q ≠ k.2.2.2.1 a ∧ q ≠ k.2.2.2.2 a
theorem jo_ne {f : Nat → va_E} {q a : Nat} {e1 e2 : va_E} (h1 : f q = e1) (h2 : f a = e2) (h : e1 ≠ e2) : q ≠ a := fun e => h (by rw [← h1, e, h2])
section JO
variable {cI cP : ClassId} {L L' : List Nat} {f f' : Nat → va_E} {k : jK} {u : jS} {PS : List Nat}
theorem jo_V.aL (h : jo_V cI cP L f k u PS) {a : Nat} (ha : a ∈ PS) : a ∈ L := (h.1 a ha).1
theorem jo_V.nL (h : jo_V cI cP L f k u PS) {a : Nat} (ha : a ∈ PS) : k.2.2.2.1 a ∈ L := (h.1 a ha).2.1
theorem jo_V.fL (h : jo_V cI cP L f k u PS) {a : Nat} (ha : a ∈ PS) : k.2.2.2.2 a ∈ L := (h.1 a ha).2.2.1
theorem jo_V.a (h : jo_V cI cP L f k u PS) {a : Nat} (ha : a ∈ PS) : f a = jo_eP k u a := (h.1 a ha).2.2.2.1
theorem jo_V.n (h : jo_V cI cP L f k u PS) {a : Nat} (ha : a ∈ PS) : f (k.2.2.2.1 a) = jo_eN cP (u.2.2.1 a) := (h.1 a ha).2.2.2.2.1
theorem jo_V.r (h : jo_V cI cP L f k u PS) {a : Nat} (ha : a ∈ PS) : f (k.2.2.2.2 a) = jo_eF cI (u.2.2.2 a) := (h.1 a ha).2.2.2.2.2
theorem jo_V.keep (h : jo_V cI cP L f k u PS) (hL : ∀ q ∈ L, q ∈ L') (e : ∀ q, ¬ jo_N k PS q → f' q = f q) : jo_V cI cP L' f' k u PS := by
  refine ⟨fun a ha => ?_, h.2⟩
  have h1 := h.1 a ha
  refine ⟨hL _ h1.1, hL _ h1.2.1, hL _ h1.2.2.1, ?_, ?_, ?_⟩
  · rw [e a (fun n => (n a ha).1 rfl)]; exact h1.2.2.2.1
  · rw [e _ (fun n => (n a ha).2.1 rfl)]; exact h1.2.2.2.2.1
  · rw [e _ (fun n => (n a ha).2.2 rfl)]; exact h1.2.2.2.2.2
theorem jo_V.up (h : jo_V cI cP L f k u PS) {q : Nat} {e : va_E} (hq : jo_N k PS q) : jo_V cI cP L (va_up f q e) k u PS :=
  h.keep (fun _ hq => hq) (fun x hx => va_up_ne _ _ (fun ex => hx (ex ▸ hq)))
/-- an order's own cell, a table, are no cells of places -/
theorem jo_V.nO (h : jo_V cI cP L f k u PS) {q : Nat} {vs : List Value} {ci : Nat} (hc : ci ≠ 2) (hq : f q = .inr (ci, vs)) : jo_N k PS q := fun a ha =>
  ⟨jo_ne hq (h.a ha) (fun e => hc (by injection e with e; injection e)), jo_ne hq (h.n ha) (fun e => by cases e), jo_ne hq (h.r ha) (fun e => by cases e)⟩
theorem jo_V.nT (h : jo_V cI cP L f k u PS) {q n : Nat} {cA : ClassId} {g : (Nat → Int32) ⊕ (Nat → Int64) ⊕ (Nat → UInt32) ⊕ (Nat → UInt64) ⊕ (Nat → Option Nat)} (hn : n ≠ 4) (hq : f q = .inl (cA, n, g)) : jo_N k PS q := fun a ha =>
  ⟨jo_ne hq (h.a ha) (fun e => by cases e), jo_ne hq (h.n ha) (fun e => hn (by injection e with e; injection e with _ e; injection e)), jo_ne hq (h.r ha) (fun e => hn (by injection e with e; injection e with _ e; injection e))⟩
theorem jo_V.an (h : jo_V cI cP L f k u PS) {a b : Nat} (ha : a ∈ PS) (hb : b ∈ PS) : a ≠ k.2.2.2.1 b ∧ a ≠ k.2.2.2.2 b ∧ k.2.2.2.1 a ≠ k.2.2.2.2 b :=
  ⟨jo_ne (h.a ha) (h.n hb) (fun e => by cases e), jo_ne (h.a ha) (h.r hb) (fun e => by cases e), jo_ne (h.n ha) (h.r hb) (fun e => by injection e with e; injection e with _ e; injection e with _ e; cases e)⟩
/-- a write into far -/
theorem jo_V.putF (h : jo_V cI cP L f k u PS) {a : Nat} (ha : a ∈ PS) (g : Nat → Int32) : jo_V cI cP L (va_up f (k.2.2.2.2 a) (jo_eF cI g)) k (u.1, u.2.1, u.2.2.1, va_up u.2.2.2 a g) PS := by
  refine ⟨fun b hb => ?_, h.2⟩
  refine ⟨h.aL hb, h.nL hb, h.fL hb, ?_, ?_, ?_⟩
  · rw [va_up_ne _ _ (h.an hb ha).2.1]; exact h.a hb
  · rw [va_up_ne _ _ (h.an hb ha).2.2]; exact h.n hb
  · by_cases e : b = a
    · subst e
      rw [va_up_self]
      show _ = jo_eF cI (va_up u.2.2.2 b g b)
      rw [va_up_self]
    · rw [va_up_ne _ _ (fun q => e (h.2.2 b hb a ha q))]
      show _ = jo_eF cI (va_up u.2.2.2 a g b)
      rw [va_up_ne _ _ e]
      exact h.r hb
/-- a write into next -/
theorem jo_V.putX (h : jo_V cI cP L f k u PS) {a : Nat} (ha : a ∈ PS) (g : Nat → Option Nat) : jo_V cI cP L (va_up f (k.2.2.2.1 a) (jo_eN cP g)) k (u.1, u.2.1, va_up u.2.2.1 a g, u.2.2.2) PS := by
  refine ⟨fun b hb => ?_, h.2⟩
  refine ⟨h.aL hb, h.nL hb, h.fL hb, ?_, ?_, ?_⟩
  · rw [va_up_ne _ _ (h.an hb ha).1]; exact h.a hb
  · by_cases e : b = a
    · subst e
      rw [va_up_self]
      show _ = jo_eN cP (va_up u.2.2.1 b g b)
      rw [va_up_self]
    · rw [va_up_ne _ _ (fun q => e (h.2.1 b hb a ha q))]
      show _ = jo_eN cP (va_up u.2.2.1 a g b)
      rw [va_up_ne _ _ e]
      exact h.n hb
  · rw [va_up_ne _ _ (h.an ha hb).2.2.symm]; exact h.r hb
/-- a write of the score -/
theorem jo_V.putS (h : jo_V cI cP L f k u PS) {a : Nat} (ha : a ∈ PS) (v : Int64) : jo_V cI cP L (va_up f a (jo_eP k (va_up u.1 a v, u.2) a)) k (va_up u.1 a v, u.2) PS := by
  refine ⟨fun b hb => ?_, h.2⟩
  refine ⟨h.aL hb, h.nL hb, h.fL hb, ?_, ?_, ?_⟩
  · by_cases e : b = a
    · subst e
      rw [va_up_self]
    · rw [va_up_ne _ _ e, h.a hb]
      simp [va_up, e]
  · rw [va_up_ne _ _ (h.an ha hb).1.symm]; exact h.n hb
  · rw [va_up_ne _ _ (h.an ha hb).2.1.symm]; exact h.r hb
/-- a write of isIn -/
theorem jo_V.putI (h : jo_V cI cP L f k u PS) {a : Nat} (ha : a ∈ PS) (v : Int32) : jo_V cI cP L (va_up f a (jo_eP k (u.1, va_up u.2.1 a v, u.2.2) a)) k (u.1, va_up u.2.1 a v, u.2.2) PS := by
  refine ⟨fun b hb => ?_, h.2⟩
  refine ⟨h.aL hb, h.nL hb, h.fL hb, ?_, ?_, ?_⟩
  · by_cases e : b = a
    · subst e
      rw [va_up_self]
    · rw [va_up_ne _ _ e, h.a hb]
      simp [va_up, e]
  · rw [va_up_ne _ _ (h.an ha hb).1.symm]; exact h.n hb
  · rw [va_up_ne _ _ (h.an ha hb).2.1.symm]; exact h.r hb
end JO
end
section
def jz_word (x : Int32) : Int32 := if x < 10 then x * 100 * 4 + 1 else if x < 100 then x * 10 * 4 + 2 else x * 4 + 3
set_option maxHeartbeats 4000000 in
set_option maxRecDepth 100000 in
theorem c_wordOf (l : Launch) (D : va_G) (ct : Nat → ClassId) (L : List Nat) (f : Nat → va_E) (x : Int32) : jz_M l D ct yX1_wordOf cX1_wordOf 1 (some .int) ({ frames := 0, cells := 0, slots := 0, locals := 0 } : Room) [.int x] L f (fun v L' f' => v = some (.int (jz_word x)) ∧ L' = L ∧ f' = f) := by
  refine jx_enter (by decide) (Nat.le_of_ble_eq_true rfl) ?_
  intro p e s m below meth c C hw ls hl
  obtain ⟨hx, hb, hrt, hlk, hnm, hml, hown, hts, hG⟩ := C
  have hl : lv_has ls 1 [(0, .int x)] := hl
  refine lv_iload_n hx hb dX1_wordOf_0 rfl (lv_at hl 0 rfl) ?_
  refine lv_bipush (v := 10) hx hb dX1_wordOf_1 (by decide) ?_
  refine lv_icmp_ge (tgt := 15) hx hb dX1_wordOf_3 (by decide) (fun h1x => ?_) (fun h1x => ?_)
  · refine lv_iload_n hx hb dX1_wordOf_15 rfl (lv_at hl 0 rfl) ?_
    refine lv_bipush (v := 100) hx hb dX1_wordOf_16 (by decide) ?_
    have h1 : ¬ x < 10 := Int32.not_lt.mpr h1x
    refine lv_icmp_ge (tgt := 30) hx hb dX1_wordOf_18 (by decide) (fun h2x => ?_) (fun h2x => ?_)
    · have h2 : ¬ x < 100 := Int32.not_lt.mpr h2x
      refine lv_iload_n hx hb dX1_wordOf_30 rfl (lv_at hl 0 rfl) ?_
      refine lv_iconst (v := 4) hx hb dX1_wordOf_31 (by decide) ?_
      refine lv_imul hx hb dX1_wordOf_32 ?_
      refine lv_iconst (v := 3) hx hb dX1_wordOf_33 (by decide) ?_
      refine lv_iadd hx hb dX1_wordOf_34 ?_
      exact jx_iret hx hb hrt hlk hw (Nat.zero_le _) (Nat.zero_le _) dX1_wordOf_35 ⟨by simp [jz_word, h1, h2], rfl, rfl⟩
    · have h2 : x < 100 := Int32.not_le.mp h2x
      refine lv_iload_n hx hb dX1_wordOf_21 rfl (lv_at hl 0 rfl) ?_
      refine lv_bipush (v := 10) hx hb dX1_wordOf_22 (by decide) ?_
      refine lv_imul hx hb dX1_wordOf_24 ?_
      refine lv_iconst (v := 4) hx hb dX1_wordOf_25 (by decide) ?_
      refine lv_imul hx hb dX1_wordOf_26 ?_
      refine lv_iconst (v := 2) hx hb dX1_wordOf_27 (by decide) ?_
      refine lv_iadd hx hb dX1_wordOf_28 ?_
      exact jx_iret hx hb hrt hlk hw (Nat.zero_le _) (Nat.zero_le _) dX1_wordOf_29 ⟨by simp [jz_word, h1, h2], rfl, rfl⟩
  · have h1 : x < 10 := Int32.not_le.mp h1x
    refine lv_iload_n hx hb dX1_wordOf_6 rfl (lv_at hl 0 rfl) ?_
    refine lv_bipush (v := 100) hx hb dX1_wordOf_7 (by decide) ?_
    refine lv_imul hx hb dX1_wordOf_9 ?_
    refine lv_iconst (v := 4) hx hb dX1_wordOf_10 (by decide) ?_
    refine lv_imul hx hb dX1_wordOf_11 ?_
    refine lv_iconst (v := 1) hx hb dX1_wordOf_12 (by decide) ?_
    refine lv_iadd hx hb dX1_wordOf_13 ?_
    exact jx_iret hx hb hrt hlk hw (Nat.zero_le _) (Nat.zero_le _) dX1_wordOf_14 ⟨by simp [jz_word, h1], rfl, rfl⟩
def jz_mem (x : Int32) : Prop := 0 ≤ x ∧ x < 1000
set_option maxHeartbeats 4000000 in
set_option maxRecDepth 100000 in
theorem c_isMember (l : Launch) (D : va_G) (ct : Nat → ClassId) (L : List Nat) (f : Nat → va_E) (x : Int32) : jz_M l D ct yX2_isMember cX2_isMember 1 (some .boolean) ({ frames := 0, cells := 0, slots := 0, locals := 0 } : Room) [.int x] L f (fun v L' f' => (jz_mem x ∧ v = some (.int 1) ∨ ¬ jz_mem x ∧ v = some (.int 0)) ∧ L' = L ∧ f' = f) := by
  refine jx_enter (by decide) (Nat.le_of_ble_eq_true rfl) ?_
  intro p e s m below meth c C hw ls hl
  obtain ⟨hx, hb, hrt, hlk, hnm, hml, hown, hts, hG⟩ := C
  have hl : lv_has ls 1 [(0, .int x)] := hl
  refine lv_iload_n hx hb dX2_isMember_0 rfl (lv_at hl 0 rfl) ?_
  refine lv_if_lt (tgt := 15) hx hb dX2_isMember_1 (by decide) (fun h1 => ?_) (fun h1 => ?_)
  · refine lv_iconst (v := 0) hx hb dX2_isMember_15 (by decide) ?_
    exact jx_zret hx hb hrt rfl hlk hw (Nat.zero_le _) (Nat.zero_le _) dX2_isMember_16 ⟨Or.inr ⟨fun q => absurd h1 (Int32.not_lt.mpr q.1), rfl⟩, rfl, rfl⟩
  · refine lv_iload_n hx hb dX2_isMember_4 rfl (lv_at hl 0 rfl) ?_
    refine lv_sipush (v := 1000) hx hb dX2_isMember_5 (by decide) ?_
    refine lv_icmp_ge (tgt := 15) hx hb dX2_isMember_8 (by decide) (fun h2 => ?_) (fun h2 => ?_)
    · refine lv_iconst (v := 0) hx hb dX2_isMember_15 (by decide) ?_
      exact jx_zret hx hb hrt rfl hlk hw (Nat.zero_le _) (Nat.zero_le _) dX2_isMember_16 ⟨Or.inr ⟨fun q => absurd q.2 (Int32.not_lt.mpr h2), rfl⟩, rfl, rfl⟩
    · refine lv_iconst (v := 1) hx hb dX2_isMember_11 (by decide) ?_
      refine lv_goto (tgt := 16) hx hb dX2_isMember_12 (by decide) ?_
      exact jx_zret hx hb hrt rfl hlk hw (Nat.zero_le _) (Nat.zero_le _) dX2_isMember_16 ⟨Or.inl ⟨⟨Int32.not_lt.mp h1, Int32.not_le.mp h2⟩, rfl⟩, rfl, rfl⟩
def jz_ah (sv : Int64) (wv : Int32) (sc : Int64) (wd : Int32) : Prop := sv < sc ∨ (sv = sc ∧ wv < wd)
set_option maxHeartbeats 4000000 in
set_option maxRecDepth 100000 in
theorem c_isAheadOf (l : Launch) (D : va_G) (ct : Nat → ClassId) (L : List Nat) (f : Nat → va_E) (a : Nat) (sv sc : Int64) (wv wd : Int32) (v0 v2 v3 v4 v6 : Value) (haL : a ∈ L) (hfa : f a = .inr (2, [v0, .int wv, v2, v3, v4, .long sv, v6])) : jz_M l D ct yX1_isAheadOf cX1_isAheadOf 4 (some .boolean) ({ frames := 0, cells := 0, slots := 0, locals := 0 } : Room) [.ref a, .long sc, .int wd] L f (fun v L' f' => (jz_ah sv wv sc wd ∧ v = some (.int 1) ∨ ¬ jz_ah sv wv sc wd ∧ v = some (.int 0)) ∧ L' = L ∧ f' = f) := by
  refine jx_enter (by decide) (Nat.le_of_ble_eq_true rfl) ?_
  intro p e s m below meth c C hw ls hl
  obtain ⟨hx, hb, hrt, hlk, hnm, hml, hown, hts, hG⟩ := C
  have hl : lv_has ls 4 [(0, .ref a), (1, .long sc), (3, .int wd)] := hl
  refine lv_aload_n hx hb dX1_isAheadOf_0 rfl (lv_at hl 0 rfl) ?_
  refine gf_P_33 hx hb hown hts hG hw haL hfa dX1_isAheadOf_1 ?_
  refine lv_lload_n hx hb dX1_isAheadOf_4 rfl (lv_at hl 1 rfl) ?_
  refine W.lcmp hx hb dX1_isAheadOf_5 ?_
  refine lv_if_lt (tgt := 26) hx hb dX1_isAheadOf_6 (by decide) (fun h1x => ?_) (fun h1x => ?_)
  · have h1 : sv < sc := (lg_cmp_lt sv sc).mp h1x
    refine lv_iconst (v := 1) hx hb dX1_isAheadOf_26 (by decide) ?_
    refine lv_goto (tgt := 31) hx hb dX1_isAheadOf_27 (by decide) ?_
    exact jx_zret hx hb hrt rfl hlk hw (Nat.zero_le _) (Nat.zero_le _) dX1_isAheadOf_31 ⟨Or.inl ⟨Or.inl h1, rfl⟩, rfl, rfl⟩
  · have h1 : ¬ sv < sc := fun q => h1x ((lg_cmp_lt sv sc).mpr q)
    refine lv_aload_n hx hb dX1_isAheadOf_9 rfl (lv_at hl 0 rfl) ?_
    refine gf_P_33 hx hb hown hts hG hw haL hfa dX1_isAheadOf_10 ?_
    refine lv_lload_n hx hb dX1_isAheadOf_13 rfl (lv_at hl 1 rfl) ?_
    refine W.lcmp hx hb dX1_isAheadOf_14 ?_
    refine lv_if_ne (tgt := 30) hx hb dX1_isAheadOf_15 (by decide) (fun h2x => ?_) (fun h2x => ?_)
    · have h2 : ¬ sv = sc := fun q => h2x ((lg_cmp_eq sv sc).mpr q)
      refine lv_iconst (v := 0) hx hb dX1_isAheadOf_30 (by decide) ?_
      exact jx_zret hx hb hrt rfl hlk hw (Nat.zero_le _) (Nat.zero_le _) dX1_isAheadOf_31 ⟨Or.inr ⟨fun q => q.elim h1 (fun q => h2 q.1), rfl⟩, rfl, rfl⟩
    · have h2 : sv = sc := (lg_cmp_eq sv sc).mp h2x
      refine lv_aload_n hx hb dX1_isAheadOf_18 rfl (lv_at hl 0 rfl) ?_
      refine gf_P_19 hx hb hown hts hG hw haL hfa dX1_isAheadOf_19 ?_
      refine lv_iload_n hx hb dX1_isAheadOf_22 rfl (lv_at hl 2 rfl) ?_
      refine lv_icmp_ge (tgt := 30) hx hb dX1_isAheadOf_23 (by decide) (fun h3 => ?_) (fun h3 => ?_)
      · refine lv_iconst (v := 0) hx hb dX1_isAheadOf_30 (by decide) ?_
        exact jx_zret hx hb hrt rfl hlk hw (Nat.zero_le _) (Nat.zero_le _) dX1_isAheadOf_31 ⟨Or.inr ⟨fun q => q.elim h1 (fun q => absurd q.2 (Int32.not_lt.mpr h3)), rfl⟩, rfl, rfl⟩
      · refine lv_iconst (v := 1) hx hb dX1_isAheadOf_26 (by decide) ?_
        refine lv_goto (tgt := 31) hx hb dX1_isAheadOf_27 (by decide) ?_
        exact jx_zret hx hb hrt rfl hlk hw (Nat.zero_le _) (Nat.zero_le _) dX1_isAheadOf_31 ⟨Or.inl ⟨Or.inr ⟨h2, Int32.not_le.mp h3⟩, rfl⟩, rfl, rfl⟩
section HT
variable {p : Program} {l : Launch} {e : Env} {R : Room} {s : State} {m : MethodId} {args : Array Value} {below : List Frame} {meth : Method} {c : Code} {H : Heap} {locs : List Loc} {cells slots : Nat} {Q : State → Prop} {D : va_G} {ct : Nat → ClassId} {A : Nat → Prop} {H0 : Heap} {L : List Nat}
set_option maxHeartbeats 4000000 in
set_option maxRecDepth 100000 in
theorem lp_heightOf (hx : p.tables.exec = Jvm.exec) (hb : c.code = cX0_heightOf) (x : Int32) (kk : ∀ (h : Nat) (b : Int32) (ls : Array Slot), 1 ≤ h → h ≤ 4 → lv_has ls 3 [(0, .int x), (1, .int b), (2, .int (nI h))] → W p l e R s m args below meth c H locs cells slots Q (F0 m 31 ls [])) :
    ∀ (t h : Nat) (b : Int32) (ls : Array Slot), 4 - h < t → 1 ≤ h → h ≤ 4 → lv_has ls 3 [(0, .int x), (1, .int b), (2, .int (nI h))] → W p l e R s m args below meth c H locs cells slots Q (F0 m 10 ls []) := by
  intro t
  induction t with
  | zero => intro h b ls ht; exact absurd ht (Nat.not_lt_zero _)
  | succ t ih =>
    intro h b ls ht h1 h4 hl
    refine lv_iload_n hx hb dX0_heightOf_10 rfl (lv_at hl 2 rfl) ?_
    refine lv_iconst (v := nI 4) hx hb dX0_heightOf_11 (by decide) ?_
    refine lv_icmp_ge (tgt := 31) hx hb dX0_heightOf_12 (by decide) (fun hc => ?_) (fun hc => ?_)
    · exact kk h b ls h1 h4 (lv_sub hl [0, 1, 2] rfl)
    · have h5 : h < 4 := by
        rcases Nat.lt_or_ge h 4 with q | q
        · exact q
        · exact absurd (nI_le q (by omega)) hc
      refine lv_iload_n hx hb dX0_heightOf_15 rfl (lv_at hl 1 rfl) ?_
      refine lv_iconst (v := 3) hx hb dX0_heightOf_16 (by decide) ?_
      refine lv_iand hx hb dX0_heightOf_17 ?_
      refine lv_if_ne (tgt := 31) hx hb dX0_heightOf_18 (by decide) (fun hd => ?_) (fun hd => ?_)
      · exact kk h b ls h1 h4 (lv_sub hl [0, 1, 2] rfl)
      · refine lv_iload_n hx hb dX0_heightOf_21 rfl (lv_at hl 1 rfl) ?_
        refine lv_iconst (v := 2) hx hb dX0_heightOf_22 (by decide) ?_
        refine lv_iushr (v := (b.toUInt32 >>> ((2 : Int32).toUInt32 &&& Int32.toUInt32 31)).toInt32) hx hb dX0_heightOf_23 rfl ?_
        refine lv_topi (fun b2 _ => ?_)
        refine lv_istore_n (lv' := [(1, .int b2), (0, .int x), (2, .int (nI h))]) hx hb dX0_heightOf_24 rfl hl (by decide) rfl (fun ls hl => ?_)
        refine lv_iinc (v := nI (h + 1)) (lv' := [(2, .int (nI (h + 1))), (1, .int b2), (0, .int x)]) hx hb dX0_heightOf_25 hl (k := 2) rfl (nI_succ h).symm (by decide) rfl (fun ls hl => ?_)
        refine lv_goto (tgt := 10) hx hb dX0_heightOf_28 (by decide) ?_
        exact ih (h + 1) b2 ls (by omega) (by omega) (by omega) (lv_sub hl [2, 1, 0] rfl)
end HT
set_option maxHeartbeats 4000000 in
set_option maxRecDepth 100000 in
theorem c_heightOf (l : Launch) (D : va_G) (ct : Nat → ClassId) (L : List Nat) (f : Nat → va_E) (x : Int32) : jz_M l D ct yX0_heightOf cX0_heightOf 3 (some .int) ({ frames := 0, cells := 0, slots := 0, locals := 0 } : Room) [.int x] L f (fun v L' f' => (∃ h : Nat, 1 ≤ h ∧ h ≤ 4 ∧ v = some (.int (nI h))) ∧ L' = L ∧ f' = f) := by
  refine jx_enter (by decide) (Nat.le_of_ble_eq_true rfl) ?_
  intro p e s m below meth c C hw ls hl
  obtain ⟨hx, hb, hrt, hlk, hnm, hml, hown, hts, hG⟩ := C
  have hl : lv_has ls 3 [(0, .int x)] := hl
  refine lv_iload_n hx hb dX0_heightOf_0 rfl (lv_at hl 0 rfl) ?_
  refine lv_ldc (own := RX0) (v := -1640531535) hx hb hown (hts (.constant RX0 87 (-1640531535)) (by decide +kernel)) dX0_heightOf_1 ?_
  refine lv_imul hx hb dX0_heightOf_3 ?_
  refine lv_bipush (v := 16) hx hb dX0_heightOf_4 (by decide) ?_
  refine lv_iushr (v := ((x * (-1640531535)).toUInt32 >>> ((16 : Int32).toUInt32 &&& Int32.toUInt32 31)).toInt32) hx hb dX0_heightOf_6 rfl ?_
  refine lv_topi (fun b _ => ?_)
  refine lv_istore_n (lv' := [(1, .int b), (0, .int x)]) hx hb dX0_heightOf_7 rfl hl (by decide) rfl (fun ls hl => ?_)
  refine lv_iconst (v := nI 1) hx hb dX0_heightOf_8 (by decide) ?_
  refine lv_istore_n (lv' := [(2, .int (nI 1)), (1, .int b), (0, .int x)]) hx hb dX0_heightOf_9 rfl hl (by decide) rfl (fun ls hl => ?_)
  refine lp_heightOf hx hb x (fun h b ls h1 h4 hl => ?_) 5 1 b ls (by decide) (by decide) (by decide) (lv_sub hl [2, 1, 0] rfl)
  refine lv_iload_n hx hb dX0_heightOf_31 rfl (lv_at hl 2 rfl) ?_
  exact jx_iret hx hb hrt hlk hw (Nat.zero_le _) (Nat.zero_le _) dX0_heightOf_32 ⟨⟨h, h1, h4, rfl⟩, rfl, rfl⟩
end
section
set_option maxHeartbeats 4000000 in
set_option maxRecDepth 100000 in
theorem c_goToHead (l : Launch) (D : va_G) (ct : Nat → ClassId) {L : List Nat} {f : Nat → va_E} {cnt ps : Int32} {o hd pa hr : Nat} (hoL : o ∈ L) (hfo : f o = jo_eO hd pa cnt hr ps) : jz_M l D ct yX0_goToHead cX0_goToHead 1 none ({ frames := 0, cells := 0, slots := 0, locals := 0 } : Room) [.ref o] L f (fun v L' f' => v = none ∧ L' = L ∧ f' = va_up f o (jo_eO hd pa cnt hd (nI 0))) := by
  refine jx_enter (by decide) (Nat.le_of_ble_eq_true rfl) ?_
  intro p e s m below meth c C hw ls hl
  obtain ⟨hx, hb, hrt, hlk, hnm, hml, hown, hts, hG⟩ := C
  have hl : lv_has ls 1 [(0, .ref o)] := hl
  refine lv_aload_n hx hb dX0_goToHead_0 rfl (lv_at hl 0 rfl) ?_
  refine lv_aload_n hx hb dX0_goToHead_1 rfl (lv_at hl 0 rfl) ?_
  refine gf_O_14 hx hb hown hts hG hw hoL hfo dX0_goToHead_2 ?_
  refine pf_O_24 hx hb hown hts hG hw hoL hfo dX0_goToHead_5 (fun H locs hw => ?_)
  refine lv_aload_n hx hb dX0_goToHead_8 rfl (lv_at hl 0 rfl) ?_
  refine lv_iconst (v := nI 0) hx hb dX0_goToHead_9 (by decide) ?_
  refine pf_O_56 hx hb hown hts hG hw hoL (va_up_self _ _ _) dX0_goToHead_10 (fun H locs hw => ?_)
  rw [bx_uu] at hw
  exact jx_vret hx hb hrt hlk hw (Nat.zero_le _) (Nat.zero_le _) dX0_goToHead_13 ⟨rfl, rfl, rfl⟩
section GA
variable {p : Program} {l : Launch} {e : Env} {R : Room} {s : State} {m : MethodId} {args : Array Value} {below : List Frame} {meth : Method} {c : Code} {H : Heap} {locs : List Loc} {cells slots : Nat} {Q : State → Prop} {D : va_G} {ct : Nat → ClassId} {A : Nat → Prop} {H0 : Heap} {L : List Nat}
variable {f0 : Nat → va_E} {k : jK} {u : jS} {PS ns : List Nat} {cnt : Int32} {o hd pa r tg : Nat}
set_option maxHeartbeats 4000000 in
set_option maxRecDepth 100000 in
theorem lp_goAheadOf (hx : p.tables.exec = Jvm.exec) (hb : c.code = cX0_goAheadOf) (hown : s.vm.findClass RO = some m.cls) (hts : ∀ w ∈ jz_TT, w.before args s = true) (hG : jz_G D ct s) (hV0 : jo_V (ct 0) (ct 1) L f0 k u PS) (hN : jo_N k PS o) (hoL : o ∈ L) (hr4 : r < 4) (hPS : ∀ x ∈ ns, x ∈ PS) (hns : ns.length < 2 ^ 30) (htg : tg ≤ ns.length) (hrow : jr_ok k.2.2.1 u.2.2.1 u.2.2.2 r ns)
    (kk : ∀ (pre suf : List Nat) (hr : Nat) (H : Heap) (locs : List Loc) (ls : Array Slot), ns = pre ++ hr :: suf → r < k.2.2.1 hr → pre.length < tg → tg ≤ pre.length + jr_dst k.2.2.1 r suf → jz_w D A H0 L (va_up f0 o (jo_eO hd pa cnt hr (nI pre.length))) H locs → ls.size = 4 → W p l e R s m args below meth c H locs cells slots Q (F0 m 75 ls [])) :
    ∀ (t : Nat) (pre suf : List Nat) (hr : Nat) (H : Heap) (locs : List Loc) (ls : Array Slot), suf.length < t → ns = pre ++ hr :: suf → r < k.2.2.1 hr → pre.length < tg → jz_w D A H0 L (va_up f0 o (jo_eO hd pa cnt hr (nI pre.length))) H locs → lv_has ls 4 [(0, .ref o), (1, .int (nI r)), (2, .int (nI tg)), (3, va_rf (jr_fst k.2.2.1 r suf))] → W p l e R s m args below meth c H locs cells slots Q (F0 m 20 ls []) := by
  intro t
  induction t with
  | zero => intro pre suf hr H locs ls ht; exact absurd ht (Nat.not_lt_zero _)
  | succ t ih =>
    intro pre suf hr H locs ls ht ens hh hpl hw hl
    have hhr : hr ∈ PS := hPS _ (by rw [ens]; simp)
    have hlen : pre.length + suf.length + 1 = ns.length := by rw [ens]; simp; omega
    obtain ⟨e1, e2⟩ := jr_atE hrow ens hh
    obtain ⟨f, hf⟩ : ∃ f, f = va_up f0 o (jo_eO hd pa cnt hr (nI pre.length)) := ⟨_, rfl⟩
    rw [← hf] at hw
    have hV : jo_V (ct 0) (ct 1) L f k u PS := by rw [hf]; exact hV0.up hN
    have hfo : f o = jo_eO hd pa cnt hr (nI pre.length) := by rw [hf, va_up_self]
    refine jx_aload_nq hx hb dX0_goAheadOf_20 rfl (lv_at hl 3 rfl) ?_
    refine jx_ifnullq (tgt := 75) hx hb dX0_goAheadOf_21 (by decide) (fun hnone => ?_) (fun b hb1 => ?_)
    · obtain ⟨hn1, hn2⟩ := jr_none hnone
      rw [hf] at hw
      exact kk pre suf hr H locs ls ens hh hpl (by rw [hn2]; omega) hw hl.1
    · obtain ⟨mid, suf2, es, hlow, hbh, hdst⟩ := jr_split hb1
      have hbP : b ∈ PS := hPS _ (by rw [ens, es]; simp)
      have hlen2 : mid.length + suf2.length + 1 = suf.length := by rw [es]; simp; omega
      refine lv_aload_n hx hb dX0_goAheadOf_24 rfl (lv_at hl 0 rfl) ?_
      refine gf_O_56 hx hb hown hts hG hw hoL hfo dX0_goAheadOf_25 ?_
      refine lv_aload_n hx hb dX0_goAheadOf_28 rfl (lv_at hl 0 rfl) ?_
      refine gf_O_24 hx hb hown hts hG hw hoL hfo dX0_goAheadOf_29 ?_
      refine gf_O_59 hx hb hown hts hG hw (hV.aL hhr) (hV.a hhr) dX0_goAheadOf_32 ?_
      refine lv_iload_n hx hb dX0_goAheadOf_35 rfl (lv_at hl 1 rfl) ?_
      refine jx_ialdI hx hb hG hw (hV.fL hhr) 0 (hV.r hhr) rfl hr4 (by decide) dX0_goAheadOf_36 ?_
      refine lv_iadd hx hb dX0_goAheadOf_37 ?_
      rw [e2, hdst, nI_add]
      refine lv_iload_n hx hb dX0_goAheadOf_38 rfl (lv_at hl 2 rfl) ?_
      refine lv_icmp_ge (tgt := 75) hx hb dX0_goAheadOf_39 (by decide) (fun hc => ?_) (fun hc => ?_)
      · rw [hf] at hw
        refine kk pre suf hr H locs ls ens hh hpl ?_ hw hl.1
        rw [hdst]
        rcases Nat.lt_or_ge (pre.length + (mid.length + 1)) tg with q | q
        · exact absurd (nI_lt q (by omega)) (Int32.not_lt.mpr hc)
        · exact q
      · have hlt : pre.length + (mid.length + 1) < tg := by
          rcases Nat.lt_or_ge (pre.length + (mid.length + 1)) tg with q | q
          · exact q
          · exact absurd (nI_le q (by omega)) hc
        refine lv_aload_n hx hb dX0_goAheadOf_42 rfl (lv_at hl 0 rfl) ?_
        refine lv_dup hx hb dX0_goAheadOf_43 rfl ?_
        refine gf_O_56 hx hb hown hts hG hw hoL hfo dX0_goAheadOf_44 ?_
        refine lv_aload_n hx hb dX0_goAheadOf_47 rfl (lv_at hl 0 rfl) ?_
        refine gf_O_24 hx hb hown hts hG hw hoL hfo dX0_goAheadOf_48 ?_
        refine gf_O_59 hx hb hown hts hG hw (hV.aL hhr) (hV.a hhr) dX0_goAheadOf_51 ?_
        refine lv_iload_n hx hb dX0_goAheadOf_54 rfl (lv_at hl 1 rfl) ?_
        refine jx_ialdI hx hb hG hw (hV.fL hhr) 0 (hV.r hhr) rfl hr4 (by decide) dX0_goAheadOf_55 ?_
        refine lv_iadd hx hb dX0_goAheadOf_56 ?_
        rw [e2, hdst, nI_add]
        refine pf_O_56 hx hb hown hts hG hw hoL hfo dX0_goAheadOf_57 (fun H locs hw => ?_)
        refine lv_aload_n hx hb dX0_goAheadOf_60 rfl (lv_at hl 0 rfl) ?_
        refine jx_aload_nq hx hb dX0_goAheadOf_61 rfl (lv_at hl 3 rfl) ?_
        rw [hb1]
        show W _ _ _ _ _ _ _ _ _ _ _ _ _ _ _ (F0 _ _ _ (.ref b :: _))
        refine pf_O_24 hx hb hown hts hG hw hoL (va_up_self _ _ _) dX0_goAheadOf_62 (fun H locs hw => ?_)
        rw [bx_uu, hf, bx_uu] at hw
        have hV : jo_V (ct 0) (ct 1) L (va_up f0 o (jo_eO hd pa cnt b (nI (pre.length + (mid.length + 1))))) k u PS := hV0.up hN
        refine jx_aload_nq hx hb dX0_goAheadOf_65 rfl (lv_at hl 3 rfl) ?_
        rw [hb1]
        show W _ _ _ _ _ _ _ _ _ _ _ _ _ _ _ (F0 _ _ _ (.ref b :: _))
        refine gf_O_49 hx hb hown hts hG hw (hV.aL hbP) (hV.a hbP) dX0_goAheadOf_66 ?_
        refine lv_iload_n hx hb dX0_goAheadOf_69 rfl (lv_at hl 1 rfl) ?_
        refine jx_aldqI hx hb hG hw (hV.nL hbP) 1 (hV.n hbP) rfl hr4 (by decide) dX0_goAheadOf_70 ?_
        have ens2 : ns = (pre ++ hr :: mid) ++ b :: suf2 := by rw [ens, es]; simp
        have hl3 : (pre ++ hr :: mid).length = pre.length + (mid.length + 1) := by simp
        rw [(jr_atE hrow ens2 hbh).1]
        refine jx_astore_nq (lv' := [(3, (va_rf (jr_fst k.2.2.1 r suf2))), (0, .ref o), (1, .int (nI r)), (2, .int (nI tg))]) hx hb dX0_goAheadOf_71 rfl hl (by decide) rfl (fun ls hl => ?_)
        refine lv_goto (tgt := 20) hx hb dX0_goAheadOf_72 (by decide) ?_
        exact ih (pre ++ hr :: mid) suf2 b H locs ls (by omega) ens2 hbh (by rw [hl3]; exact hlt) (by rw [hl3]; exact hw) (lv_sub hl [1, 2, 3, 0] rfl)
end GA
set_option maxHeartbeats 4000000 in
set_option maxRecDepth 100000 in
theorem c_goAheadOf (l : Launch) (D : va_G) (ct : Nat → ClassId) {L : List Nat} {f0 : Nat → va_E} {k : jK} {u : jS} {PS ns : List Nat} {cnt : Int32} {o hd pa r tg : Nat} (hV0 : jo_V (ct 0) (ct 1) L f0 k u PS) (hN : jo_N k PS o) (hoL : o ∈ L) (hr4 : r < 4) (hPS : ∀ x ∈ ns, x ∈ PS) (hns : ns.length < 2 ^ 30) (htg : tg ≤ ns.length) (hrow : jr_ok k.2.2.1 u.2.2.1 u.2.2.2 r ns) {pre suf : List Nat} {hr : Nat} (ens : ns = pre ++ hr :: suf) (hh : r < k.2.2.1 hr) (hpl : pre.length < tg) :
    jz_M l D ct yX0_goAheadOf cX0_goAheadOf 4 none ({ frames := 0, cells := 0, slots := 0, locals := 0 } : Room) [.ref o, .int (nI r), .int (nI tg)] L (va_up f0 o (jo_eO hd pa cnt hr (nI pre.length))) (fun v L' f' => v = none ∧ L' = L ∧ ∃ (pre' suf' : List Nat) (hr' : Nat), ns = pre' ++ hr' :: suf' ∧ f' = va_up f0 o (jo_eO hd pa cnt hr' (nI pre'.length)) ∧ r < k.2.2.1 hr' ∧ pre'.length < tg ∧ tg ≤ pre'.length + jr_dst k.2.2.1 r suf') := by
  refine jx_enter (by decide) (Nat.le_of_ble_eq_true rfl) ?_
  intro p e s m below meth c C hw ls hl
  obtain ⟨hx, hb, hrt, hlk, hnm, hml, hown, hts, hG⟩ := C
  have hl : lv_has ls 4 [(0, .ref o), (1, .int (nI r)), (2, .int (nI tg))] := hl
  have hhr : hr ∈ PS := hPS _ (by rw [ens]; simp)
  have hV : jo_V (ct 0) (ct 1) L (va_up f0 o (jo_eO hd pa cnt hr (nI pre.length))) k u PS := hV0.up hN
  refine lv_iload_n hx hb dX0_goAheadOf_0 rfl (lv_at hl 1 rfl) ?_
  refine lv_if_lt (tgt := 9) hx hb dX0_goAheadOf_1 (by decide) (fun h => absurd h (nI_pos (by omega))) (fun _ => ?_)
  refine lv_iload_n hx hb dX0_goAheadOf_4 rfl (lv_at hl 1 rfl) ?_
  refine lv_iconst (v := nI 4) hx hb dX0_goAheadOf_5 (by decide) ?_
  refine lv_icmp_lt (tgt := 10) hx hb dX0_goAheadOf_6 (by decide) (fun _ => ?_) (fun h => absurd (nI_lt hr4 (by decide)) h)
  refine lv_aload_n hx hb dX0_goAheadOf_10 rfl (lv_at hl 0 rfl) ?_
  refine gf_O_24 hx hb hown hts hG hw hoL (va_up_self _ _ _) dX0_goAheadOf_11 ?_
  refine gf_O_49 hx hb hown hts hG hw (hV.aL hhr) (hV.a hhr) dX0_goAheadOf_14 ?_
  refine lv_iload_n hx hb dX0_goAheadOf_17 rfl (lv_at hl 1 rfl) ?_
  refine jx_aldqI hx hb hG hw (hV.nL hhr) 1 (hV.n hhr) rfl hr4 (by decide) dX0_goAheadOf_18 ?_
  rw [(jr_atE hrow ens hh).1]
  refine jx_astore_nq (lv' := [(3, (va_rf (jr_fst k.2.2.1 r suf))), (0, .ref o), (1, .int (nI r)), (2, .int (nI tg))]) hx hb dX0_goAheadOf_19 rfl hl (by decide) rfl (fun ls hl => ?_)
  refine lp_goAheadOf hx hb hown hts hG hV0 hN hoL hr4 hPS hns htg hrow (fun pre suf hr H locs ls ens hh hpl hd hw hsz => ?_) (suf.length + 1) pre suf hr _ _ ls (Nat.lt_succ_self _) ens hh hpl hw (lv_sub hl [1, 2, 3, 0] rfl)
  exact jx_vret hx hb hrt hlk hw (Nat.zero_le _) (Nat.zero_le _) dX0_goAheadOf_75 ⟨rfl, rfl, pre, suf, hr, ens, rfl, hh, hpl, hd⟩
/-- where a place of the list stands, by whether it is ahead -/
theorem jz_idx {ah : Nat → Prop} {hd b hr : Nat} {p1 p2 pre mid suf : List Nat} (e : hd :: (p1 ++ p2) = pre ++ hr :: (mid ++ b :: suf)) (h1 : ∀ x ∈ p1, ah x) (h2 : ∀ x ∈ p2, ¬ ah x) : (ah b → pre.length + (mid.length + 1) ≤ p1.length) ∧ (¬ ah b → p1.length < pre.length + (mid.length + 1)) := by
  have e1 : (hd :: (p1 ++ p2))[pre.length + (mid.length + 1)]? = some b := by
    rw [e, List.getElem?_append_right (by omega), show pre.length + (mid.length + 1) - pre.length = mid.length + 1 by omega, List.getElem?_cons_succ, List.getElem?_append_right (by omega), Nat.sub_self]
    rfl
  rw [show pre.length + (mid.length + 1) = (pre.length + mid.length) + 1 by omega, List.getElem?_cons_succ] at e1
  refine ⟨fun hb => ?_, fun hb => ?_⟩
  · rcases Nat.lt_or_ge (pre.length + mid.length) p1.length with q | q
    · omega
    · rw [List.getElem?_append_right q] at e1
      exact absurd hb (h2 b (List.mem_of_getElem? e1))
  · rcases Nat.lt_or_ge (pre.length + mid.length) p1.length with q | q
    · rw [List.getElem?_append_left q] at e1
      exact absurd (h1 b (List.mem_of_getElem? e1)) hb
    · omega
section CA
variable {p : Program} {l : Launch} {e : Env} {R : Room} {s : State} {m : MethodId} {args : Array Value} {below : List Frame} {meth : Method} {c : Code} {H : Heap} {locs : List Loc} {cells slots : Nat} {Q : State → Prop} {D : va_G} {ct : Nat → ClassId} {A : Nat → Prop} {H0 : Heap} {L : List Nat}
variable {f0 : Nat → va_E} {k : jK} {u : jS} {PS ns p1 p2 : List Nat} {cnt wd : Int32} {sc : Int64} {o hd pa r : Nat}
set_option maxHeartbeats 4000000 in
set_option maxRecDepth 100000 in
theorem lp_cao_in (hx : p.tables.exec = Jvm.exec) (hb : c.code = cX0_countAheadOf) (hml : c.maxLocals = 6) (hown : s.vm.findClass RO = some m.cls) (hts : ∀ w ∈ jz_TT, w.before args s = true) (hG : jz_G D ct s) (hcs : cells ≤ R.cells ∧ slots ≤ R.slots) (hR : 0 + 1 ≤ R.frames ∧ 8 + (4 + 11) + 0 ≤ R.locals) (hV0 : jo_V (ct 0) (ct 1) L f0 k u PS) (hN : jo_N k PS o) (hoL : o ∈ L) (ens0 : ns = hd :: (p1 ++ p2)) (hPS : ∀ x ∈ ns, x ∈ PS) (hns : ns.length < 2 ^ 30) (hrow : ∀ r, r < 4 → jr_ok k.2.2.1 u.2.2.1 u.2.2.2 r ns) (hht : k.2.2.1 hd = 4) (hh1 : ∀ x ∈ ns, 1 ≤ k.2.2.1 x) (hA1 : ∀ x ∈ p1, jz_ah (u.1 x) (k.2.1 x) sc wd) (hA2 : ∀ x ∈ p2, ¬ jz_ah (u.1 x) (k.2.1 x) sc wd) (hr4 : r < 4)
    (kk : ∀ (pre suf : List Nat) (hr : Nat) (H : Heap) (locs : List Loc) (ls : Array Slot), ns = pre ++ hr :: suf → r < k.2.2.1 hr → pre.length ≤ p1.length → (∀ b, jr_fst k.2.2.1 r suf = some b → ¬ jz_ah (u.1 b) (k.2.1 b) sc wd) → jz_w D A H0 L (va_up f0 o (jo_eO hd pa cnt hr (nI pre.length))) H locs → lv_has ls 6 [(0, .ref o), (1, .long sc), (3, .int wd), (4, .int (nI r))] → W p l e R s m args below meth c H locs cells slots Q (F0 m 77 ls [])) :
    ∀ (t : Nat) (pre suf : List Nat) (hr : Nat) (H : Heap) (locs : List Loc) (ls : Array Slot), suf.length < t → ns = pre ++ hr :: suf → r < k.2.2.1 hr → pre.length ≤ p1.length → jz_w D A H0 L (va_up f0 o (jo_eO hd pa cnt hr (nI pre.length))) H locs → lv_has ls 6 [(0, .ref o), (1, .long sc), (3, .int wd), (4, .int (nI r)), (5, (va_rf (jr_fst k.2.2.1 r suf)))] → W p l e R s m args below meth c H locs cells slots Q (F0 m 24 ls []) := by
  intro t
  induction t with
  | zero => intro pre suf hr H locs ls ht; exact absurd ht (Nat.not_lt_zero _)
  | succ t ih =>
    intro pre suf hr H locs ls ht ens hh hpl hw hl
    have hhr : hr ∈ PS := hPS _ (by rw [ens]; simp)
    have hlen : pre.length + suf.length + 1 = ns.length := by rw [ens]; simp; omega
    obtain ⟨e1, e2⟩ := jr_atE (hrow r hr4) ens hh
    obtain ⟨f, hf⟩ : ∃ f, f = va_up f0 o (jo_eO hd pa cnt hr (nI pre.length)) := ⟨_, rfl⟩
    rw [← hf] at hw
    have hV : jo_V (ct 0) (ct 1) L f k u PS := by rw [hf]; exact hV0.up hN
    have hfo : f o = jo_eO hd pa cnt hr (nI pre.length) := by rw [hf, va_up_self]
    refine jx_aloadq hx hb dX0_countAheadOf_24 (lv_at hl 4 rfl) ?_
    refine jx_ifnullq (tgt := 77) hx hb dX0_countAheadOf_26 (by decide) (fun hnone => ?_) (fun b hb1 => ?_)
    · rw [hf] at hw
      exact kk pre suf hr H locs ls ens hh hpl (fun b q => by rw [hnone] at q; cases q) hw (lv_sub hl [0, 1, 2, 3] rfl)
    · obtain ⟨mid, suf2, es, hlow, hbh, hdst⟩ := jr_split hb1
      have hbP : b ∈ PS := hPS _ (by rw [ens, es]; simp)
      have hlen2 : mid.length + suf2.length + 1 = suf.length := by rw [es]; simp; omega
      obtain ⟨hi1, hi2⟩ := jz_idx (ah := fun x => jz_ah (u.1 x) (k.2.1 x) sc wd) (show hd :: (p1 ++ p2) = pre ++ hr :: (mid ++ b :: suf2) by rw [← ens0, ens, es]) hA1 hA2
      refine jx_aloadq hx hb dX0_countAheadOf_29 (lv_at hl 4 rfl) ?_
      rw [hb1]
      show W _ _ _ _ _ _ _ _ _ _ _ _ _ _ _ (F0 _ _ _ (.ref b :: _))
      refine lv_lload_n hx hb dX0_countAheadOf_31 rfl (lv_at hl 1 rfl) ?_
      refine lv_iload_n hx hb dX0_countAheadOf_32 rfl (lv_at hl 2 rfl) ?_
      refine cl_O_52 (As := [.long sc, .int wd]) (rest := []) hx hb hml hown hts hG hw (c_isAheadOf l D ct L f b (u.1 b) sc (k.2.1 b) wd _ _ _ _ _ (hV.aL hbP) (hV.a hbP)) rfl hR (hV.aL hbP) (hV.a hbP) hl.1 rfl (Nat.le_of_ble_eq_true rfl) dX0_countAheadOf_33 hcs (fun v L' f' H1 locs1 hp hw hcf => ?_)
      obtain ⟨hv, eL, ef⟩ := hp
      rw [eL, ef] at hw
      rcases hv with ⟨hah, rfl⟩ | ⟨hah, rfl⟩
      · refine lv_if_eq (tgt := 77) hx hb dX0_countAheadOf_36 (by decide) (fun h => absurd h (by decide)) (fun _ => ?_)
        have hi := hi1 hah
        refine lv_aload_n hx hb dX0_countAheadOf_39 rfl (lv_at hl 0 rfl) ?_
        refine lv_dup hx hb dX0_countAheadOf_40 rfl ?_
        refine gf_O_56 hx hb hown hts hG hw hoL hfo dX0_countAheadOf_41 ?_
        refine lv_aload_n hx hb dX0_countAheadOf_44 rfl (lv_at hl 0 rfl) ?_
        refine gf_O_24 hx hb hown hts hG hw hoL hfo dX0_countAheadOf_45 ?_
        refine gf_O_59 hx hb hown hts hG hw (hV.aL hhr) (hV.a hhr) dX0_countAheadOf_48 ?_
        refine lv_iload hx hb dX0_countAheadOf_51 (lv_at hl 3 rfl) ?_
        refine jx_ialdI hx hb hG hw (hV.fL hhr) 0 (hV.r hhr) rfl hr4 (by decide) dX0_countAheadOf_53 ?_
        refine lv_iadd hx hb dX0_countAheadOf_54 ?_
        rw [e2, hdst, nI_add]
        refine pf_O_56 hx hb hown hts hG hw hoL hfo dX0_countAheadOf_55 (fun H locs hw => ?_)
        refine lv_aload_n hx hb dX0_countAheadOf_58 rfl (lv_at hl 0 rfl) ?_
        refine jx_aloadq hx hb dX0_countAheadOf_59 (lv_at hl 4 rfl) ?_
        rw [hb1]
        show W _ _ _ _ _ _ _ _ _ _ _ _ _ _ _ (F0 _ _ _ (.ref b :: _))
        refine pf_O_24 hx hb hown hts hG hw hoL (va_up_self _ _ _) dX0_countAheadOf_61 (fun H locs hw => ?_)
        rw [bx_uu, hf, bx_uu] at hw
        have hV : jo_V (ct 0) (ct 1) L (va_up f0 o (jo_eO hd pa cnt b (nI (pre.length + (mid.length + 1))))) k u PS := hV0.up hN
        refine jx_aloadq hx hb dX0_countAheadOf_64 (lv_at hl 4 rfl) ?_
        rw [hb1]
        show W _ _ _ _ _ _ _ _ _ _ _ _ _ _ _ (F0 _ _ _ (.ref b :: _))
        refine gf_O_49 hx hb hown hts hG hw (hV.aL hbP) (hV.a hbP) dX0_countAheadOf_66 ?_
        refine lv_iload hx hb dX0_countAheadOf_69 (lv_at hl 3 rfl) ?_
        refine jx_aldqI hx hb hG hw (hV.nL hbP) 1 (hV.n hbP) rfl hr4 (by decide) dX0_countAheadOf_71 ?_
        have ens2 : ns = (pre ++ hr :: mid) ++ b :: suf2 := by rw [ens, es]; simp
        have hl3 : (pre ++ hr :: mid).length = pre.length + (mid.length + 1) := by simp
        rw [(jr_atE (hrow r hr4) ens2 hbh).1]
        refine jx_astoreq (lv' := [(5, (va_rf (jr_fst k.2.2.1 r suf2))), (0, .ref o), (1, .long sc), (3, .int wd), (4, .int (nI r))]) hx hb dX0_countAheadOf_72 hl (by decide) rfl (fun ls hl => ?_)
        refine lv_goto (tgt := 24) hx hb dX0_countAheadOf_74 (by decide) ?_
        exact ih (pre ++ hr :: mid) suf2 b _ _ ls (by omega) ens2 hbh (by rw [hl3]; exact hi) (by rw [hl3]; exact hw) (lv_sub hl [1, 2, 3, 4, 0] rfl)
      · refine lv_if_eq (tgt := 77) hx hb dX0_countAheadOf_36 (by decide) (fun _ => ?_) (fun h => absurd rfl h)
        rw [hf] at hw
        exact kk pre suf hr _ _ ls ens hh hpl (fun b2 q => by rw [hb1] at q; cases q; exact hah) hw (lv_sub hl [0, 1, 2, 3] rfl)
def jz_row : Nat → Int32
  | 0 => -1
  | j + 1 => nI j
theorem jz_row_pred (j : Nat) : nI j + Int32.ofInt (-1) = jz_row j := by
  cases j with
  | zero => decide
  | succ i => exact pk_m1 i
set_option maxHeartbeats 4000000 in
set_option maxRecDepth 100000 in
theorem lp_cao (hx : p.tables.exec = Jvm.exec) (hb : c.code = cX0_countAheadOf) (hml : c.maxLocals = 6) (hown : s.vm.findClass RO = some m.cls) (hts : ∀ w ∈ jz_TT, w.before args s = true) (hG : jz_G D ct s) (hcs : cells ≤ R.cells ∧ slots ≤ R.slots) (hR : 0 + 1 ≤ R.frames ∧ 8 + (4 + 11) + 0 ≤ R.locals) (hV0 : jo_V (ct 0) (ct 1) L f0 k u PS) (hN : jo_N k PS o) (hoL : o ∈ L) (ens0 : ns = hd :: (p1 ++ p2)) (hPS : ∀ x ∈ ns, x ∈ PS) (hns : ns.length < 2 ^ 30) (hrow : ∀ r, r < 4 → jr_ok k.2.2.1 u.2.2.1 u.2.2.2 r ns) (hht : k.2.2.1 hd = 4) (hh1 : ∀ x ∈ ns, 1 ≤ k.2.2.1 x) (hA1 : ∀ x ∈ p1, jz_ah (u.1 x) (k.2.1 x) sc wd) (hA2 : ∀ x ∈ p2, ¬ jz_ah (u.1 x) (k.2.1 x) sc wd)
    (kk : ∀ (hr : Nat) (H : Heap) (locs : List Loc) (ls : Array Slot), jz_w D A H0 L (va_up f0 o (jo_eO hd pa cnt hr (nI p1.length))) H locs → lv_has ls 6 [(0, .ref o)] → W p l e R s m args below meth c H locs cells slots Q (F0 m 83 ls [])) :
    ∀ (j : Nat) (pre suf : List Nat) (hr : Nat) (H : Heap) (locs : List Loc) (ls : Array Slot), j ≤ 4 → ns = pre ++ hr :: suf → j ≤ k.2.2.1 hr → pre.length ≤ p1.length → (j = 0 → pre.length = p1.length) → jz_w D A H0 L (va_up f0 o (jo_eO hd pa cnt hr (nI pre.length))) H locs → lv_has ls 6 [(0, .ref o), (1, .long sc), (3, .int wd), (4, .int (jz_row j))] → W p l e R s m args below meth c H locs cells slots Q (F0 m 7 ls []) := by
  intro j
  induction j with
  | zero =>
    intro pre suf hr H locs ls _ ens hh hpl h0 hw hl
    refine lv_iload hx hb dX0_countAheadOf_7 (lv_at hl 3 rfl) ?_
    refine lv_if_lt (tgt := 83) hx hb dX0_countAheadOf_9 (by decide) (fun _ => ?_) (fun h => absurd (by decide) h)
    rw [h0 rfl] at hw
    exact kk hr H locs ls hw (lv_sub hl [0] rfl)
  | succ j ih =>
    intro pre suf hr H locs ls hj4 ens hh hpl _ hw hl
    have hr4 : j < 4 := hj4
    have hl : lv_has ls 6 [(0, .ref o), (1, .long sc), (3, .int wd), (4, .int (nI j))] := hl
    have hhr : hr ∈ PS := hPS _ (by rw [ens]; simp)
    have hV : jo_V (ct 0) (ct 1) L (va_up f0 o (jo_eO hd pa cnt hr (nI pre.length))) k u PS := hV0.up hN
    refine lv_iload hx hb dX0_countAheadOf_7 (lv_at hl 3 rfl) ?_
    refine lv_if_lt (tgt := 83) hx hb dX0_countAheadOf_9 (by decide) (fun h => absurd h (nI_pos (by omega))) (fun _ => ?_)
    refine lv_aload_n hx hb dX0_countAheadOf_12 rfl (lv_at hl 0 rfl) ?_
    refine gf_O_24 hx hb hown hts hG hw hoL (va_up_self _ _ _) dX0_countAheadOf_13 ?_
    refine gf_O_49 hx hb hown hts hG hw (hV.aL hhr) (hV.a hhr) dX0_countAheadOf_16 ?_
    refine lv_iload hx hb dX0_countAheadOf_19 (lv_at hl 3 rfl) ?_
    refine jx_aldqI hx hb hG hw (hV.nL hhr) 1 (hV.n hhr) rfl hr4 (by decide) dX0_countAheadOf_21 ?_
    rw [(jr_atE (hrow j hr4) ens hh).1]
    refine jx_astoreq (lv' := [(5, (va_rf (jr_fst k.2.2.1 j suf))), (0, .ref o), (1, .long sc), (3, .int wd), (4, .int (nI j))]) hx hb dX0_countAheadOf_22 hl (by decide) rfl (fun ls hl => ?_)
    refine lp_cao_in hx hb hml hown hts hG hcs hR hV0 hN hoL ens0 hPS hns hrow hht hh1 hA1 hA2 hr4 (fun pre suf hr H locs ls ens hh hpl hex hw hl => ?_) (suf.length + 1) pre suf hr _ _ ls (Nat.lt_succ_self _) ens hh hpl hw (lv_sub hl [1, 2, 3, 4, 0] rfl)
    refine lv_iinc (v := jz_row j) (lv' := [(4, .int (jz_row j)), (0, .ref o), (1, .long sc), (3, .int wd)]) hx hb dX0_countAheadOf_77 hl (k := 3) rfl (jz_row_pred j) (by decide) rfl (fun ls hl => ?_)
    refine lv_goto (tgt := 7) hx hb dX0_countAheadOf_80 (by decide) ?_
    refine ih pre suf hr H locs ls (by omega) ens (by omega) hpl (fun h0 => ?_) hw (lv_sub hl [1, 2, 3, 0] rfl)
    subst h0
    have hall : ∀ x ∈ suf, 1 ≤ k.2.2.1 x := fun x hx => hh1 x (by rw [ens]; simp [hx])
    have hlen : (hd :: (p1 ++ p2)).length = (pre ++ hr :: suf).length := by rw [← ens0, ens]
    simp only [List.length_cons, List.length_append] at hlen
    cases suf with
    | nil => simp only [List.length_nil] at hlen; omega
    | cons b t =>
      have hb0 : 0 < k.2.2.1 b := hall b List.mem_cons_self
      have hnb := hex b (jr_fst_at hb0)
      have := (jz_idx (ah := fun x => jz_ah (u.1 x) (k.2.1 x) sc wd) (mid := []) (ens0.symm.trans ens) hA1 hA2).2 hnb
      simp only [List.length_nil] at this
      omega
end CA
set_option maxHeartbeats 4000000 in
set_option maxRecDepth 100000 in
theorem c_countAheadOf (l : Launch) (D : va_G) (ct : Nat → ClassId) {L : List Nat} {f0 : Nat → va_E} {k : jK} {u : jS} {PS ns p1 p2 : List Nat} {cnt ps wd : Int32} {sc : Int64} {o hd pa hr : Nat} (hV0 : jo_V (ct 0) (ct 1) L f0 k u PS) (hN : jo_N k PS o) (hoL : o ∈ L) (ens0 : ns = hd :: (p1 ++ p2)) (hPS : ∀ x ∈ ns, x ∈ PS) (hns : ns.length < 2 ^ 30) (hrow : ∀ r, r < 4 → jr_ok k.2.2.1 u.2.2.1 u.2.2.2 r ns) (hht : k.2.2.1 hd = 4) (hh1 : ∀ x ∈ ns, 1 ≤ k.2.2.1 x) (hA1 : ∀ x ∈ p1, jz_ah (u.1 x) (k.2.1 x) sc wd) (hA2 : ∀ x ∈ p2, ¬ jz_ah (u.1 x) (k.2.1 x) sc wd) :
    jz_M l D ct yX0_countAheadOf cX0_countAheadOf 6 (some .int) ({ frames := 1, cells := 0, slots := 0, locals := 23 } : Room) [.ref o, .long sc, .int wd] L (va_up f0 o (jo_eO hd pa cnt hr ps)) (fun v L' f' => v = some (.int (nI p1.length)) ∧ L' = L ∧ ∃ (hr' : Nat) (ps' : Int32), f' = va_up f0 o (jo_eO hd pa cnt hr' ps')) := by
  refine jx_enter (by decide) (Nat.le_of_ble_eq_true rfl) ?_
  intro p e s m below meth c C hw ls hl
  obtain ⟨hx, hb, hrt, hlk, hnm, hml, hown, hts, hG⟩ := C
  have hl : lv_has ls 6 [(0, .ref o), (1, .long sc), (3, .int wd)] := hl
  refine lv_aload_n hx hb dX0_countAheadOf_0 rfl (lv_at hl 0 rfl) ?_
  refine cl_O_43 (As := []) (rest := []) hx hb hml hown hts hG hw (c_goToHead l D ct hoL (va_up_self _ _ _)) rfl ⟨Nat.le_of_ble_eq_true rfl, Nat.le_of_ble_eq_true rfl⟩ hoL (va_up_self _ _ _) hl.1 rfl (Nat.le_of_ble_eq_true rfl) dX0_countAheadOf_1 ⟨Nat.le_of_ble_eq_true rfl, Nat.le_of_ble_eq_true rfl⟩ (fun v L' f' H1 locs1 hp hw hcf => ?_)
  obtain ⟨rfl, eL, ef⟩ := hp
  rw [eL, ef, bx_uu] at hw
  refine lv_iconst (v := nI 3) hx hb dX0_countAheadOf_4 (by decide) ?_
  refine lv_istore (lv' := [(4, .int (nI 3)), (0, .ref o), (1, .long sc), (3, .int wd)]) hx hb dX0_countAheadOf_5 hl (by decide) rfl (fun ls hl => ?_)
  refine lp_cao hx hb hml hown hts hG ⟨Nat.le_of_ble_eq_true rfl, Nat.le_of_ble_eq_true rfl⟩ ⟨Nat.le_of_ble_eq_true rfl, Nat.le_of_ble_eq_true rfl⟩ hV0 hN hoL ens0 hPS hns hrow hht hh1 hA1 hA2 (fun hr H locs ls hw hl => ?_) 4 [] (p1 ++ p2) hd _ _ ls (Nat.le_refl _) ens0 (by rw [hht]; exact Nat.le_refl _) (Nat.zero_le _) (fun h => by cases h) hw (lv_sub hl [1, 2, 3, 0] rfl)
  refine lv_aload_n hx hb dX0_countAheadOf_83 rfl (lv_at hl 0 rfl) ?_
  refine gf_O_56 hx hb hown hts hG hw hoL (va_up_self _ _ _) dX0_countAheadOf_84 ?_
  exact jx_iret hx hb hrt hlk hw (Nat.le_refl _) (Nat.le_refl _) dX0_countAheadOf_87 ⟨rfl, rfl, hr, _, rfl⟩
end
section
theorem jz_comm {f : Nat → va_E} {o q : Nat} {E e : va_E} (h : q ≠ o) : va_up (va_up f o E) q e = va_up (va_up f q e) o E := by
  funext x
  simp only [va_up]
  by_cases h1 : x = q
  · have h2 : ¬ x = o := fun z => h (h1.symm.trans z)
    rw [if_pos h1, if_neg h2, if_pos h1]
  · rw [if_neg h1]
    by_cases h2 : x = o
    · rw [if_pos h2, if_pos h2]
    · rw [if_neg h2, if_neg h2, if_neg h1]
/-- the row in which a place comes in -/
theorem jz_insRow {ht : Nat → Nat} {NX : Nat → Nat → Option Nat} {FR : Nat → Nat → Int32} {j a b : Nat} {pre s1 p2 : List Nat} {x1 x2 : Int32} (h : jr_ok ht NX FR j (pre ++ a :: (s1 ++ p2))) (ha : j < ht a) (hb : j < ht b) (hs : ∀ x ∈ s1, ht x ≤ j) (hab : a ≠ b) (hbp : ∀ x ∈ pre, x ≠ b ∧ x ≠ a) (hbq : ∀ x ∈ p2, x ≠ b ∧ x ≠ a) (hx1 : x1 = nI (jr_dst ht j p2)) (hx2 : x2 = nI (s1.length + 1)) :
    jr_ok ht (va_up (va_up NX b (va_up (NX b) j (NX a j))) a (va_up (va_up NX b (va_up (NX b) j (NX a j)) a) j (some b))) (va_up (va_up FR b (upd (FR b) j x1)) a (upd (va_up FR b (upd (FR b) j x1) a) j x2)) j (pre ++ a :: (s1 ++ b :: p2)) := by
  have hba : ¬ b = a := fun q => hab q.symm
  have e0 := (jr_ok_at h ha).1
  rw [jr_fst_low hs] at e0
  refine jr_ins h ha hs (fun x hx => ?_) (fun x hx => ?_) (fun _ => ⟨?_, ?_, ?_, ?_⟩) (fun q => absurd hb q)
  · obtain ⟨h1, h2⟩ := hbp x hx
    exact ⟨by rw [va_up_ne _ _ h2, va_up_ne _ _ h1], by rw [va_up_ne _ _ h2, va_up_ne _ _ h1]⟩
  · obtain ⟨h1, h2⟩ := hbq x hx
    exact ⟨by rw [va_up_ne _ _ h2, va_up_ne _ _ h1], by rw [va_up_ne _ _ h2, va_up_ne _ _ h1]⟩
  · rw [va_up_ne _ _ hba, va_up_self, va_up_self, e0]
  · rw [va_up_ne _ _ hba, va_up_self, pk_us, hx1]
  · rw [va_up_self, va_up_self]
  · rw [va_up_self, pk_us, hx2]
theorem jz_insRow0 {ht : Nat → Nat} {NX : Nat → Nat → Option Nat} {FR : Nat → Nat → Int32} {j a b : Nat} {pre s1 p2 : List Nat} {x1 : Int32} (h : jr_ok ht NX FR j (pre ++ a :: (s1 ++ p2))) (ha : j < ht a) (hb : ¬ j < ht b) (hs : ∀ x ∈ s1, ht x ≤ j) (hbp : ∀ x ∈ pre, x ≠ b ∧ x ≠ a) (hbq : ∀ x ∈ p2, x ≠ b ∧ x ≠ a) (hx1 : x1 = FR a j + 1) :
    jr_ok ht NX (va_up FR a (upd (FR a) j x1)) j (pre ++ a :: (s1 ++ b :: p2)) := by
  obtain ⟨e0, e1⟩ := jr_ok_at h ha
  rw [jr_fst_low hs] at e0
  rw [jr_dst_low hs] at e1
  refine jr_ins h ha hs (fun x hx => ?_) (fun x hx => ?_) (fun q => absurd q hb) (fun _ => ⟨e0, ?_⟩)
  · obtain ⟨h1, h2⟩ := hbp x hx
    exact ⟨rfl, by rw [va_up_ne _ _ h2]⟩
  · obtain ⟨h1, h2⟩ := hbq x hx
    exact ⟨rfl, by rw [va_up_ne _ _ h2]⟩
  · rw [va_up_self, pk_us, hx1, e1, nI_1]
    congr 1
    omega
/-- the row in which a place goes out -/
theorem jz_delRow {ht : Nat → Nat} {NX : Nat → Nat → Option Nat} {FR : Nat → Nat → Int32} {j a b : Nat} {pre s1 p2 : List Nat} {x1 : Int32} (h : jr_ok ht NX FR j (pre ++ a :: (s1 ++ b :: p2))) (ha : j < ht a) (hb : j < ht b) (hs : ∀ x ∈ s1, ht x ≤ j) (hbp : ∀ x ∈ pre, x ≠ a) (hbq : ∀ x ∈ p2, x ≠ a) (hx1 : x1 = FR a j + (FR b j - 1)) :
    jr_ok ht (va_up NX a (va_up (NX a) j (NX b j))) (va_up FR a (upd (FR a) j x1)) j (pre ++ a :: (s1 ++ p2)) := by
  have e1 := (jr_ok_at h ha).2
  rw [jr_dst_low hs, jr_dst_at hb] at e1
  have h3 : jr_ok ht NX FR j ((pre ++ a :: s1) ++ b :: p2) := by rw [show (pre ++ a :: s1) ++ b :: p2 = pre ++ a :: (s1 ++ b :: p2) by simp]; exact h
  obtain ⟨f0, f1⟩ := jr_ok_at h3 hb
  refine jr_del h ha hs (fun x hx => ?_) (fun x hx => ?_) ⟨?_, ?_⟩
  · exact ⟨by rw [va_up_ne _ _ (hbp x hx)], by rw [va_up_ne _ _ (hbp x hx)]⟩
  · exact ⟨by rw [va_up_ne _ _ (hbq x hx)], by rw [va_up_ne _ _ (hbq x hx)]⟩
  · rw [va_up_self, va_up_self, f0]
  · rw [va_up_self, pk_us, hx1, e1, f1]
    obtain ⟨d, hd⟩ : ∃ d, jr_dst ht j p2 = d + 1 := ⟨jr_dst ht j p2 - 1, by have := jr_dst_pos (ht := ht) (r := j) (t := p2); omega⟩
    rw [hd, nI_pred, nI_add]
    congr 1
    omega
theorem jz_delRow0 {ht : Nat → Nat} {NX : Nat → Nat → Option Nat} {FR : Nat → Nat → Int32} {j a b : Nat} {pre s1 p2 : List Nat} {x1 : Int32} (h : jr_ok ht NX FR j (pre ++ a :: (s1 ++ b :: p2))) (ha : j < ht a) (hb : ¬ j < ht b) (hs : ∀ x ∈ s1, ht x ≤ j) (hbp : ∀ x ∈ pre, x ≠ a) (hbq : ∀ x ∈ p2, x ≠ a) (hx1 : x1 = FR a j - 1) :
    jr_ok ht NX (va_up FR a (upd (FR a) j x1)) j (pre ++ a :: (s1 ++ p2)) := by
  obtain ⟨e0, e1⟩ := jr_ok_at h ha
  have hs2 : ∀ x ∈ s1 ++ [b], ht x ≤ j := fun x hx => by
    rcases List.mem_append.mp hx with q | q
    · exact hs x q
    · rw [List.mem_singleton.mp q]; exact Nat.not_lt.mp hb
  have el : s1 ++ b :: p2 = (s1 ++ [b]) ++ p2 := by simp
  rw [el, jr_fst_low hs2] at e0
  rw [el, jr_dst_low hs2] at e1
  refine jr_del h ha hs (fun x hx => ?_) (fun x hx => ?_) ⟨e0, ?_⟩
  · exact ⟨rfl, by rw [va_up_ne _ _ (hbp x hx)]⟩
  · exact ⟨rfl, by rw [va_up_ne _ _ (hbq x hx)]⟩
  · rw [va_up_self, pk_us, hx1, e1, show (s1 ++ [b]).length + jr_dst ht j p2 = (s1.length + jr_dst ht j p2) + 1 by simp; omega, nI_pred]
/-- cutting the list where the step's place stands -/
theorem jz_cut {hd a n : Nat} {p1 q2 pre suf : List Nat} {ht : Nat → Nat} {j : Nat} (e : hd :: (p1 ++ q2) = pre ++ a :: suf) (h1 : pre.length < p1.length + 1) (h2 : p1.length + 1 ≤ pre.length + jr_dst ht j suf) : ∃ s1, hd :: p1 = pre ++ a :: s1 ∧ suf = s1 ++ q2 ∧ pre.length + s1.length = p1.length ∧ ∀ x ∈ s1, ht x ≤ j := by
  have e' : (hd :: p1) ++ q2 = pre ++ a :: suf := e
  have hl : (hd :: p1).length = p1.length + 1 := rfl
  rcases List.append_eq_append_iff.mp e' with ⟨w, h3, h4⟩ | ⟨w, h3, h4⟩
  · have : pre.length = (hd :: p1).length + w.length := by rw [h3, List.length_append]
    omega
  · cases w with
    | nil =>
      have : (hd :: p1).length = pre.length := by rw [h3]; simp
      omega
    | cons y s1 =>
      have hy : a = y ∧ suf = s1 ++ q2 := by
        have h5 : a :: suf = y :: (s1 ++ q2) := h4
        injection h5 with g1 g2
        exact ⟨g1, g2⟩
      obtain ⟨rfl, rfl⟩ := hy
      have hlen : p1.length + 1 = pre.length + (s1.length + 1) := by
        have := congrArg List.length h3
        simpa using this
      exact ⟨s1, h3, rfl, by omega, jr_lowBy (t := q2) (by omega)⟩

section PI
variable {p : Program} {l : Launch} {e : Env} {R : Room} {s : State} {m : MethodId} {args : Array Value} {below : List Frame} {meth : Method} {c : Code} {H : Heap} {locs : List Loc} {cells slots : Nat} {Q : State → Prop} {D : va_G} {ct : Nat → ClassId} {A : Nat → Prop} {H0 : Heap} {L : List Nat}
variable {f0 : Nat → va_E} {k : jK} {u : jS} {PS ns p1 p2 : List Nat} {cnt : Int32} {o hd pa b : Nat}
set_option maxHeartbeats 4000000 in
set_option maxRecDepth 100000 in
theorem lp_putIn (hx : p.tables.exec = Jvm.exec) (hb : c.code = cX0_putIn) (hml : c.maxLocals = 4) (hown : s.vm.findClass RO = some m.cls) (hts : ∀ w ∈ jz_TT, w.before args s = true) (hG : jz_G D ct s) (hcs : cells ≤ R.cells ∧ slots ≤ R.slots) (hR : 0 + 1 ≤ R.frames ∧ 8 + (4 + 11) + 0 ≤ R.locals) (hN : jo_N k PS o) (hoL : o ∈ L) (ens0 : ns = hd :: (p1 ++ p2)) (hPS : ∀ x ∈ ns, x ∈ PS) (hns : ns.length < 2 ^ 30) (hbP : b ∈ PS) (hb4 : k.2.2.1 b ≤ 4) (hbn : b ∉ ns) (hnd : ns.Nodup)
    (kk : ∀ (f1 : Nat → va_E) (u1 : jS) (hr : Nat) (ps : Int32) (H : Heap) (locs : List Loc) (ls : Array Slot), jo_V (ct 0) (ct 1) L f1 k u1 PS → u1.1 = u.1 → u1.2.1 = u.2.1 → (∀ q, jo_N k PS q → f1 q = f0 q) → (∀ r, r < 4 → 0 ≤ r → jr_ok k.2.2.1 u1.2.2.1 u1.2.2.2 r (hd :: (p1 ++ b :: p2))) → jz_w D A H0 L (va_up f1 o (jo_eO hd pa cnt hr ps)) H locs → lv_has ls 4 [(0, .ref o)] → W p l e R s m args below meth c H locs cells slots Q (F0 m 125 ls [])) :
    ∀ (j : Nat) (f1 : Nat → va_E) (u1 : jS) (pre suf : List Nat) (hr : Nat) (H : Heap) (locs : List Loc) (ls : Array Slot), j ≤ 4 → jo_V (ct 0) (ct 1) L f1 k u1 PS → u1.1 = u.1 → u1.2.1 = u.2.1 → (∀ q, jo_N k PS q → f1 q = f0 q) → (∀ r, r < 4 → j ≤ r → jr_ok k.2.2.1 u1.2.2.1 u1.2.2.2 r (hd :: (p1 ++ b :: p2))) → (∀ r, r < j → jr_ok k.2.2.1 u1.2.2.1 u1.2.2.2 r ns) → ns = pre ++ hr :: suf → j ≤ k.2.2.1 hr → pre.length < p1.length + 1 → jz_w D A H0 L (va_up f1 o (jo_eO hd pa cnt hr (nI pre.length))) H locs → lv_has ls 4 [(0, .ref o), (1, .ref b), (2, .int (nI (p1.length + 1))), (3, .int (jz_row j))] → W p l e R s m args below meth c H locs cells slots Q (F0 m 21 ls []) := by
  intro j
  induction j with
  | zero =>
    intro f1 u1 pre suf hr H locs ls _ hV eS eI hfr hnew hold ens hh hpl hw hl
    refine lv_iload_n hx hb dX0_putIn_21 rfl (lv_at hl 3 rfl) ?_
    refine lv_if_lt (tgt := 125) hx hb dX0_putIn_22 (by decide) (fun _ => ?_) (fun h => absurd (by decide) h)
    exact kk f1 u1 hr _ H locs ls hV eS eI hfr hnew hw (lv_sub hl [0] rfl)
  | succ j ih =>
    intro f1 u1 pre suf hr H locs ls hj4 hV eS eI hfr hnew hold ens hh hpl hw hl
    have hr4 : j < 4 := hj4
    have hl : lv_has ls 4 [(0, .ref o), (1, .ref b), (2, .int (nI (p1.length + 1))), (3, .int (nI j))] := hl
    have hlen : ns.length = p1.length + p2.length + 1 := by rw [ens0]; simp
    have hoj := hold j (Nat.lt_succ_self _)
    refine lv_iload_n hx hb dX0_putIn_21 rfl (lv_at hl 3 rfl) ?_
    refine lv_if_lt (tgt := 125) hx hb dX0_putIn_22 (by decide) (fun h => absurd h (nI_pos (by omega))) (fun _ => ?_)
    refine lv_aload_n hx hb dX0_putIn_25 rfl (lv_at hl 0 rfl) ?_
    refine lv_iload_n hx hb dX0_putIn_26 rfl (lv_at hl 3 rfl) ?_
    refine lv_iload_n hx hb dX0_putIn_27 rfl (lv_at hl 2 rfl) ?_
    refine cl_O_46 (As := [.int (nI j), .int (nI (p1.length + 1))]) (rest := []) hx hb hml hown hts hG hw (c_goAheadOf l D ct hV hN hoL hr4 hPS hns (by omega) hoj ens hh hpl) rfl hR hoL (va_up_self _ _ _) hl.1 rfl (Nat.le_of_ble_eq_true rfl) dX0_putIn_28 hcs (fun v L' f' H1 locs1 hp hw hcf => ?_)
    obtain ⟨rfl, eL, pre, suf, hr, ens, ef, hh, hpl, hdst⟩ := hp
    rw [eL, ef] at hw
    obtain ⟨s1, ep1, es, hsl, hlow⟩ := jz_cut (n := 0) (ens0.symm.trans ens) hpl hdst
    have hhr : hr ∈ PS := hPS _ (by rw [ens]; simp)
    have ens1 : ns = pre ++ hr :: (s1 ++ p2) := by rw [ens, es]
    have hoj : jr_ok k.2.2.1 u1.2.2.1 u1.2.2.2 j (pre ++ hr :: (s1 ++ p2)) := ens1 ▸ hoj
    obtain ⟨e1, e2⟩ := jr_ok_at hoj hh
    rw [jr_fst_low hlow] at e1
    rw [jr_dst_low hlow] at e2
    have hhb : hr ≠ b := fun q => hbn (by rw [← q, ens]; simp)
    have hnd1 := hnd
    rw [ens1] at hnd1
    have hpa : ∀ x ∈ pre, x ≠ b ∧ x ≠ hr := fun x hx => ⟨fun q => hbn (by rw [← q, ens]; simp [hx]), fun q => (List.nodup_append.mp hnd1).2.2 x hx hr List.mem_cons_self q⟩
    have hpb : ∀ x ∈ p2, x ≠ b ∧ x ≠ hr := fun x hx => ⟨fun q => hbn (by rw [← q, ens1]; simp [hx]), fun q => (List.nodup_cons.mp (List.nodup_append.mp hnd1).2.1).1 (by rw [← q]; simp [hx])⟩
    have enew : hd :: (p1 ++ b :: p2) = pre ++ hr :: (s1 ++ b :: p2) := by rw [← List.cons_append, ep1]; simp
    refine lv_iload_n hx hb dX0_putIn_31 rfl (lv_at hl 3 rfl) ?_
    refine lv_aload_n hx hb dX0_putIn_32 rfl (lv_at hl 1 rfl) ?_
    refine gf_O_84 hx hb hown hts hG hw ((hV.up (e := jo_eO hd pa cnt hr (nI pre.length)) hN).aL hbP) ((hV.up (e := jo_eO hd pa cnt hr (nI pre.length)) hN).a hbP) dX0_putIn_33 ?_
    refine lv_icmp_ge (tgt := 106) hx hb dX0_putIn_36 (by decide) (fun hc => ?_) (fun hc => ?_)
    · have hjb : ¬ j < k.2.2.1 b := fun q => absurd (nI_lt q (by omega)) (Int32.not_lt.mpr hc)
      refine lv_aload_n hx hb dX0_putIn_106 rfl (lv_at hl 0 rfl) ?_
      refine gf_O_24 hx hb hown hts hG hw hoL (va_up_self _ _ _) dX0_putIn_107 ?_
      refine gf_O_59 hx hb hown hts hG hw ((hV.up (e := jo_eO hd pa cnt hr (nI pre.length)) hN).aL hhr) ((hV.up (e := jo_eO hd pa cnt hr (nI pre.length)) hN).a hhr) dX0_putIn_110 ?_
      refine lv_iload_n hx hb dX0_putIn_113 rfl (lv_at hl 3 rfl) ?_
      refine lv_dup2_11 hx hb dX0_putIn_114 rfl rfl ?_
      refine jx_ialdI hx hb hG hw ((hV.up (e := jo_eO hd pa cnt hr (nI pre.length)) hN).fL hhr) 0 ((hV.up (e := jo_eO hd pa cnt hr (nI pre.length)) hN).r hhr) rfl hr4 (by decide) dX0_putIn_115 ?_
      refine lv_iconst (v := 1) hx hb dX0_putIn_116 (by decide) ?_
      refine lv_iadd hx hb dX0_putIn_117 ?_
      refine jx_iastI hx hb hG hw ((hV.up (e := jo_eO hd pa cnt hr (nI pre.length)) hN).fL hhr) 0 ((hV.up (e := jo_eO hd pa cnt hr (nI pre.length)) hN).r hhr) rfl hr4 (by decide) dX0_putIn_118 (fun H locs hw => ?_)
      rw [jz_comm (hN hr hhr).2.2.symm] at hw
      have hfr : ∀ q, jo_N k PS q → va_up f1 (k.2.2.2.2 hr) (jo_eF (ct 0) (upd (u1.2.2.2 hr) j (u1.2.2.2 hr j + 1))) q = f0 q := fun q hq => by rw [va_up_ne _ _ (hq hr hhr).2.2]; exact hfr q hq
      have hsame : ∀ x r, ¬ r = j → u1.2.2.1 x r = u1.2.2.1 x r ∧ va_up u1.2.2.2 hr (upd (u1.2.2.2 hr) j (u1.2.2.2 hr j + 1)) x r = u1.2.2.2 x r := fun x r hne => ⟨rfl, by
        by_cases q : x = hr
        · rw [q, va_up_self, pk_un hne]
        · rw [va_up_ne _ _ q]⟩
      have hV := hV.putF hhr (upd (u1.2.2.2 hr) j (u1.2.2.2 hr j + 1))
      refine lv_iinc (v := jz_row j) (lv' := [(3, .int (jz_row j)), (0, .ref o), (1, .ref b), (2, .int (nI (p1.length + 1)))]) hx hb dX0_putIn_119 hl (k := 3) rfl (jz_row_pred j) (by decide) rfl (fun ls hl => ?_)
      refine lv_goto (tgt := 21) hx hb dX0_putIn_122 (by decide) ?_
      refine ih _ (u1.1, u1.2.1, u1.2.2.1, va_up u1.2.2.2 hr (upd (u1.2.2.2 hr) j (u1.2.2.2 hr j + 1))) pre (s1 ++ p2) hr _ _ ls (by omega) hV eS eI hfr (fun r hr4 hjr => ?_) (fun r hjr => ?_) ens1 (by omega) hpl hw (lv_sub hl [1, 2, 3, 0] rfl)
      · rcases Nat.eq_or_lt_of_le hjr with q | q
        · subst q
          rw [enew]
          exact jz_insRow0 hoj hh hjb hlow hpa hpb rfl
        · exact jr_ok_congr (hnew r hr4 q) (fun x _ _ => hsame x r (fun z => absurd q (by omega)))
      · exact jr_ok_congr (hold r (by omega)) (fun x _ _ => hsame x r (fun z => absurd hjr (by omega)))
    · have hjb : j < k.2.2.1 b := by
        rcases Nat.lt_or_ge j (k.2.2.1 b) with q | q
        · exact q
        · exact absurd (nI_le q (by omega)) hc
      refine lv_aload_n hx hb dX0_putIn_39 rfl (lv_at hl 1 rfl) ?_
      refine gf_O_49 hx hb hown hts hG hw ((hV.up (e := jo_eO hd pa cnt hr (nI pre.length)) hN).aL hbP) ((hV.up (e := jo_eO hd pa cnt hr (nI pre.length)) hN).a hbP) dX0_putIn_40 ?_
      refine lv_iload_n hx hb dX0_putIn_43 rfl (lv_at hl 3 rfl) ?_
      refine lv_aload_n hx hb dX0_putIn_44 rfl (lv_at hl 0 rfl) ?_
      refine gf_O_24 hx hb hown hts hG hw hoL (va_up_self _ _ _) dX0_putIn_45 ?_
      refine gf_O_49 hx hb hown hts hG hw ((hV.up (e := jo_eO hd pa cnt hr (nI pre.length)) hN).aL hhr) ((hV.up (e := jo_eO hd pa cnt hr (nI pre.length)) hN).a hhr) dX0_putIn_48 ?_
      refine lv_iload_n hx hb dX0_putIn_51 rfl (lv_at hl 3 rfl) ?_
      refine jx_aldqI hx hb hG hw ((hV.up (e := jo_eO hd pa cnt hr (nI pre.length)) hN).nL hhr) 1 ((hV.up (e := jo_eO hd pa cnt hr (nI pre.length)) hN).n hhr) rfl hr4 (by decide) dX0_putIn_52 ?_
      refine jx_astqI hx hb hG hw ((hV.up (e := jo_eO hd pa cnt hr (nI pre.length)) hN).nL hbP) 1 2 ((hV.up (e := jo_eO hd pa cnt hr (nI pre.length)) hN).n hbP) rfl (fun x hx0 => ?_) rfl hr4 (by decide) dX0_putIn_53 (fun H locs hw => ?_)
      · obtain ⟨mid, suf3, e3, -⟩ := jr_split (e1.symm.trans hx0)
        have hxP : x ∈ PS := hPS x (by rw [ens1, e3]; simp)
        exact ⟨(hV.up (e := jo_eO hd pa cnt hr (nI pre.length)) hN).aL hxP, _, (hV.up (e := jo_eO hd pa cnt hr (nI pre.length)) hN).a hxP⟩
      rw [jz_comm (hN b hbP).2.1.symm] at hw
      have hV2 := hV.putX hbP (va_up (u1.2.2.1 b) j (u1.2.2.1 hr j))
      obtain ⟨f2, hf2⟩ : ∃ f2, f2 = va_up f1 (k.2.2.2.1 b) (jo_eN (ct 1) (va_up (u1.2.2.1 b) j (u1.2.2.1 hr j))) := ⟨_, rfl⟩
      rw [← hf2] at hw hV2
      refine lv_aload_n hx hb dX0_putIn_54 rfl (lv_at hl 1 rfl) ?_
      refine gf_O_59 hx hb hown hts hG hw ((hV2.up (e := jo_eO hd pa cnt hr (nI pre.length)) hN).aL hbP) ((hV2.up (e := jo_eO hd pa cnt hr (nI pre.length)) hN).a hbP) dX0_putIn_55 ?_
      refine lv_iload_n hx hb dX0_putIn_58 rfl (lv_at hl 3 rfl) ?_
      refine lv_aload_n hx hb dX0_putIn_59 rfl (lv_at hl 0 rfl) ?_
      refine gf_O_56 hx hb hown hts hG hw hoL (va_up_self _ _ _) dX0_putIn_60 ?_
      refine lv_aload_n hx hb dX0_putIn_63 rfl (lv_at hl 0 rfl) ?_
      refine gf_O_24 hx hb hown hts hG hw hoL (va_up_self _ _ _) dX0_putIn_64 ?_
      refine gf_O_59 hx hb hown hts hG hw ((hV2.up (e := jo_eO hd pa cnt hr (nI pre.length)) hN).aL hhr) ((hV2.up (e := jo_eO hd pa cnt hr (nI pre.length)) hN).a hhr) dX0_putIn_67 ?_
      refine lv_iload_n hx hb dX0_putIn_70 rfl (lv_at hl 3 rfl) ?_
      refine jx_ialdI hx hb hG hw ((hV2.up (e := jo_eO hd pa cnt hr (nI pre.length)) hN).fL hhr) 0 ((hV2.up (e := jo_eO hd pa cnt hr (nI pre.length)) hN).r hhr) rfl hr4 (by decide) dX0_putIn_71 ?_
      refine lv_iadd hx hb dX0_putIn_72 ?_
      refine lv_iconst (v := nI 1) hx hb dX0_putIn_73 (by decide) ?_
      refine lv_iadd hx hb dX0_putIn_74 ?_
      refine lv_iload_n hx hb dX0_putIn_75 rfl (lv_at hl 2 rfl) ?_
      refine lv_isub hx hb dX0_putIn_76 ?_
      refine lv_topi (fun x1 ex1 => ?_)
      have ex1 : x1 = nI (jr_dst k.2.2.1 j p2) := by
        rw [ex1]
        show nI pre.length + u1.2.2.2 hr j + nI 1 - nI (p1.length + 1) = _
        rw [e2, nI_add, nI_add, pk_sub (by omega)]
        congr 1
        omega
      refine jx_iastI hx hb hG hw ((hV2.up (e := jo_eO hd pa cnt hr (nI pre.length)) hN).fL hbP) 0 ((hV2.up (e := jo_eO hd pa cnt hr (nI pre.length)) hN).r hbP) rfl hr4 (by decide) dX0_putIn_77 (fun H locs hw => ?_)
      rw [jz_comm (hN b hbP).2.2.symm] at hw
      have hV3 := hV2.putF hbP (upd (u1.2.2.2 b) j x1)
      obtain ⟨f3, hf3⟩ : ∃ f3, f3 = va_up f2 (k.2.2.2.2 b) (jo_eF (ct 0) (upd (u1.2.2.2 b) j x1)) := ⟨_, rfl⟩
      rw [← hf3] at hw hV3
      refine lv_aload_n hx hb dX0_putIn_78 rfl (lv_at hl 0 rfl) ?_
      refine gf_O_24 hx hb hown hts hG hw hoL (va_up_self _ _ _) dX0_putIn_79 ?_
      refine gf_O_49 hx hb hown hts hG hw ((hV3.up (e := jo_eO hd pa cnt hr (nI pre.length)) hN).aL hhr) ((hV3.up (e := jo_eO hd pa cnt hr (nI pre.length)) hN).a hhr) dX0_putIn_82 ?_
      refine lv_iload_n hx hb dX0_putIn_85 rfl (lv_at hl 3 rfl) ?_
      refine lv_aload_n hx hb dX0_putIn_86 rfl (lv_at hl 1 rfl) ?_
      refine jx_astqI (v := some b) hx hb hG hw ((hV3.up (e := jo_eO hd pa cnt hr (nI pre.length)) hN).nL hhr) 1 2 ((hV3.up (e := jo_eO hd pa cnt hr (nI pre.length)) hN).n hhr) rfl (fun x hx0 => ?_) rfl hr4 (by decide) dX0_putIn_87 (fun H locs hw => ?_)
      · cases hx0
        exact ⟨(hV3.up (e := jo_eO hd pa cnt hr (nI pre.length)) hN).aL hbP, _, (hV3.up (e := jo_eO hd pa cnt hr (nI pre.length)) hN).a hbP⟩
      rw [jz_comm (hN hr hhr).2.1.symm] at hw
      have hV4 := hV3.putX hhr (va_up (va_up u1.2.2.1 b (va_up (u1.2.2.1 b) j (u1.2.2.1 hr j)) hr) j (some b))
      obtain ⟨f4, hf4⟩ : ∃ f4, f4 = va_up f3 (k.2.2.2.1 hr) (jo_eN (ct 1) (va_up (va_up u1.2.2.1 b (va_up (u1.2.2.1 b) j (u1.2.2.1 hr j)) hr) j (some b))) := ⟨_, rfl⟩
      rw [← hf4] at hV4
      have hw : jz_w D A H0 L (va_up f4 o (jo_eO hd pa cnt hr (nI pre.length))) H locs := by rw [hf4]; exact hw
      refine lv_aload_n hx hb dX0_putIn_88 rfl (lv_at hl 0 rfl) ?_
      refine gf_O_24 hx hb hown hts hG hw hoL (va_up_self _ _ _) dX0_putIn_89 ?_
      refine gf_O_59 hx hb hown hts hG hw ((hV4.up (e := jo_eO hd pa cnt hr (nI pre.length)) hN).aL hhr) ((hV4.up (e := jo_eO hd pa cnt hr (nI pre.length)) hN).a hhr) dX0_putIn_92 ?_
      refine lv_iload_n hx hb dX0_putIn_95 rfl (lv_at hl 3 rfl) ?_
      refine lv_iload_n hx hb dX0_putIn_96 rfl (lv_at hl 2 rfl) ?_
      refine lv_aload_n hx hb dX0_putIn_97 rfl (lv_at hl 0 rfl) ?_
      refine gf_O_56 hx hb hown hts hG hw hoL (va_up_self _ _ _) dX0_putIn_98 ?_
      refine lv_isub hx hb dX0_putIn_101 ?_
      refine lv_topi (fun x2 ex2 => ?_)
      have ex2 : x2 = nI (s1.length + 1) := by
        rw [ex2]
        show nI (p1.length + 1) - nI pre.length = _
        rw [pk_sub (by omega)]
        congr 1
        omega
      refine jx_iastI hx hb hG hw ((hV4.up (e := jo_eO hd pa cnt hr (nI pre.length)) hN).fL hhr) 0 ((hV4.up (e := jo_eO hd pa cnt hr (nI pre.length)) hN).r hhr) rfl hr4 (by decide) dX0_putIn_102 (fun H locs hw => ?_)
      rw [jz_comm (hN hr hhr).2.2.symm] at hw
      have hV5 := hV4.putF hhr (upd (va_up u1.2.2.2 b (upd (u1.2.2.2 b) j x1) hr) j x2)
      obtain ⟨f5, hf5⟩ : ∃ f5, f5 = va_up f4 (k.2.2.2.2 hr) (jo_eF (ct 0) (upd (va_up u1.2.2.2 b (upd (u1.2.2.2 b) j x1) hr) j x2)) := ⟨_, rfl⟩
      rw [← hf5] at hV5
      have hw : jz_w D A H0 L (va_up f5 o (jo_eO hd pa cnt hr (nI pre.length))) H locs := by rw [hf5]; exact hw
      have hfr : ∀ q, jo_N k PS q → f5 q = f0 q := fun q hq => by rw [hf5, va_up_ne _ _ (hq hr hhr).2.2, hf4, va_up_ne _ _ (hq hr hhr).2.1, hf3, va_up_ne _ _ (hq b hbP).2.2, hf2, va_up_ne _ _ (hq b hbP).2.1]; exact hfr q hq
      have hsame : ∀ x r, ¬ r = j → (va_up (va_up u1.2.2.1 b (va_up (u1.2.2.1 b) j (u1.2.2.1 hr j))) hr (va_up (va_up u1.2.2.1 b (va_up (u1.2.2.1 b) j (u1.2.2.1 hr j)) hr) j (some b))) x r = u1.2.2.1 x r ∧ (va_up (va_up u1.2.2.2 b (upd (u1.2.2.2 b) j x1)) hr (upd (va_up u1.2.2.2 b (upd (u1.2.2.2 b) j x1) hr) j x2)) x r = u1.2.2.2 x r := fun x r hne => by
        by_cases q : x = hr
        · rw [q, va_up_self, va_up_self, va_up_ne _ _ hhb, va_up_ne _ _ hne, va_up_ne _ _ hhb, pk_un hne]
          exact ⟨rfl, rfl⟩
        · rw [va_up_ne _ _ q, va_up_ne _ _ q]
          by_cases q2 : x = b
          · rw [q2, va_up_self, va_up_self, va_up_ne _ _ hne, pk_un hne]
            exact ⟨rfl, rfl⟩
          · rw [va_up_ne _ _ q2, va_up_ne _ _ q2]
            exact ⟨rfl, rfl⟩
      have hV := hV5
      refine lv_goto (tgt := 119) hx hb dX0_putIn_103 (by decide) ?_
      refine lv_iinc (v := jz_row j) (lv' := [(3, .int (jz_row j)), (0, .ref o), (1, .ref b), (2, .int (nI (p1.length + 1)))]) hx hb dX0_putIn_119 hl (k := 3) rfl (jz_row_pred j) (by decide) rfl (fun ls hl => ?_)
      refine lv_goto (tgt := 21) hx hb dX0_putIn_122 (by decide) ?_
      refine ih _ (u1.1, u1.2.1, (va_up (va_up u1.2.2.1 b (va_up (u1.2.2.1 b) j (u1.2.2.1 hr j))) hr (va_up (va_up u1.2.2.1 b (va_up (u1.2.2.1 b) j (u1.2.2.1 hr j)) hr) j (some b))), (va_up (va_up u1.2.2.2 b (upd (u1.2.2.2 b) j x1)) hr (upd (va_up u1.2.2.2 b (upd (u1.2.2.2 b) j x1) hr) j x2))) pre (s1 ++ p2) hr _ _ ls (by omega) hV eS eI hfr (fun r hr4 hjr => ?_) (fun r hjr => ?_) ens1 (by omega) hpl hw (lv_sub hl [1, 2, 3, 0] rfl)
      · rcases Nat.eq_or_lt_of_le hjr with q | q
        · subst q
          rw [enew]
          exact jz_insRow hoj hh hjb hlow hhb hpa hpb ex1 ex2
        · exact jr_ok_congr (hnew r hr4 q) (fun x _ _ => hsame x r (fun z => absurd q (by omega)))
      · exact jr_ok_congr (hold r (by omega)) (fun x _ _ => hsame x r (fun z => absurd hjr (by omega)))
end PI
set_option maxHeartbeats 4000000 in
set_option maxRecDepth 100000 in
theorem c_putIn (l : Launch) (D : va_G) (ct : Nat → ClassId) {L : List Nat} {f0 : Nat → va_E} {k : jK} {u : jS} {PS ns p1 p2 : List Nat} {cnt ps : Int32} {o hd pa hr b : Nat} (hV0 : jo_V (ct 0) (ct 1) L f0 k u PS) (hN : jo_N k PS o) (hoL : o ∈ L) (ens0 : ns = hd :: (p1 ++ p2)) (hPS : ∀ x ∈ ns, x ∈ PS) (hns : ns.length < 2 ^ 30) (hrow : ∀ r, r < 4 → jr_ok k.2.2.1 u.2.2.1 u.2.2.2 r ns) (hht : k.2.2.1 hd = 4) (hh1 : ∀ x ∈ ns, 1 ≤ k.2.2.1 x) (hA1 : ∀ x ∈ p1, jz_ah (u.1 x) (k.2.1 x) (u.1 b) (k.2.1 b)) (hA2 : ∀ x ∈ p2, ¬ jz_ah (u.1 x) (k.2.1 x) (u.1 b) (k.2.1 b)) (hbP : b ∈ PS) (hb4 : k.2.2.1 b ≤ 4) (hbn : b ∉ ns) (hnd : ns.Nodup) :
    jz_M l D ct yX0_putIn cX0_putIn 4 none ({ frames := 2, cells := 0, slots := 0, locals := 48 } : Room) [.ref o, .ref b] L (va_up f0 o (jo_eO hd pa cnt hr ps)) (fun v L' f' => v = none ∧ L' = L ∧ ∃ (f1 : Nat → va_E) (u1 : jS) (hr' : Nat) (ps' : Int32), f' = va_up f1 o (jo_eO hd pa (cnt + 1) hr' ps') ∧ jo_V (ct 0) (ct 1) L f1 k u1 PS ∧ u1.1 = u.1 ∧ u1.2.1 = u.2.1 ∧ (∀ q, jo_N k PS q → f1 q = f0 q) ∧ ∀ r, r < 4 → jr_ok k.2.2.1 u1.2.2.1 u1.2.2.2 r (hd :: (p1 ++ b :: p2))) := by
  refine jx_enter (by decide) (Nat.le_of_ble_eq_true rfl) ?_
  intro p e s m below meth c C hw ls hl
  obtain ⟨hx, hb, hrt, hlk, hnm, hml, hown, hts, hG⟩ := C
  have hl : lv_has ls 4 [(0, .ref o), (1, .ref b)] := hl
  refine lv_aload_n hx hb dX0_putIn_0 rfl (lv_at hl 0 rfl) ?_
  refine lv_aload_n hx hb dX0_putIn_1 rfl (lv_at hl 1 rfl) ?_
  refine gf_O_67 hx hb hown hts hG hw ((hV0.up (e := jo_eO hd pa cnt hr ps) hN).aL hbP) ((hV0.up (e := jo_eO hd pa cnt hr ps) hN).a hbP) dX0_putIn_2 ?_
  refine lv_aload_n hx hb dX0_putIn_5 rfl (lv_at hl 1 rfl) ?_
  refine gf_O_77 hx hb hown hts hG hw ((hV0.up (e := jo_eO hd pa cnt hr ps) hN).aL hbP) ((hV0.up (e := jo_eO hd pa cnt hr ps) hN).a hbP) dX0_putIn_6 ?_
  refine cl_O_80 (As := [.long (u.1 b), .int (k.2.1 b)]) (rest := []) hx hb hml hown hts hG hw (c_countAheadOf l D ct hV0 hN hoL ens0 hPS hns hrow hht hh1 hA1 hA2) rfl ⟨Nat.le_of_ble_eq_true rfl, Nat.le_of_ble_eq_true rfl⟩ hoL (va_up_self _ _ _) hl.1 rfl (Nat.le_of_ble_eq_true rfl) dX0_putIn_9 ⟨Nat.le_of_ble_eq_true rfl, Nat.le_of_ble_eq_true rfl⟩ (fun v L' f' H1 locs1 hp hw hcf => ?_)
  obtain ⟨rfl, eL, hr, ps, ef⟩ := hp
  rw [eL, ef] at hw
  refine lv_iconst (v := nI 1) hx hb dX0_putIn_12 (by decide) ?_
  refine lv_iadd hx hb dX0_putIn_13 ?_
  rw [nI_add]
  refine lv_istore_n (lv' := [(2, .int (nI (p1.length + 1))), (0, .ref o), (1, .ref b)]) hx hb dX0_putIn_14 rfl hl (by decide) rfl (fun ls hl => ?_)
  refine lv_aload_n hx hb dX0_putIn_15 rfl (lv_at hl 1 rfl) ?_
  refine cl_O_43 (As := []) (rest := []) hx hb hml hown hts hG hw (c_goToHead l D ct hoL (va_up_self _ _ _)) rfl ⟨Nat.le_of_ble_eq_true rfl, Nat.le_of_ble_eq_true rfl⟩ hoL (va_up_self _ _ _) hl.1 rfl (Nat.le_of_ble_eq_true rfl) dX0_putIn_16 ⟨Nat.le_of_ble_eq_true rfl, Nat.le_of_ble_eq_true rfl⟩ (fun v L' f' H1 locs1 hp hw hcf => ?_)
  obtain ⟨rfl, eL, ef⟩ := hp
  rw [eL, ef, bx_uu] at hw
  refine lv_iconst (v := nI 3) hx hb dX0_putIn_19 (by decide) ?_
  refine lv_istore_n (lv' := [(3, .int (nI 3)), (2, .int (nI (p1.length + 1))), (0, .ref o), (1, .ref b)]) hx hb dX0_putIn_20 rfl hl (by decide) rfl (fun ls hl => ?_)
  refine lp_putIn (f0 := f0) (u := u) hx hb hml hown hts hG ⟨Nat.le_of_ble_eq_true rfl, Nat.le_of_ble_eq_true rfl⟩ ⟨Nat.le_of_ble_eq_true rfl, Nat.le_of_ble_eq_true rfl⟩ hN hoL ens0 hPS hns hbP hb4 hbn hnd (fun f1 u1 hr ps H locs ls hV eS eI hfr hnew hw hl => ?_) 4 f0 u [] (p1 ++ p2) hd _ _ ls (Nat.le_refl _) hV0 rfl rfl (fun _ _ => rfl) (fun r h1 h2 => absurd h1 (Nat.not_lt.mpr h2)) (fun r h => hrow r h) ens0 (by rw [hht]; exact Nat.le_refl _) (Nat.succ_pos _) hw (lv_sub hl [2, 3, 1, 0] rfl)
  refine lv_aload_n hx hb dX0_putIn_125 rfl (lv_at hl 0 rfl) ?_
  refine lv_dup hx hb dX0_putIn_126 rfl ?_
  refine gf_O_39 hx hb hown hts hG hw hoL (va_up_self _ _ _) dX0_putIn_127 ?_
  refine lv_iconst (v := 1) hx hb dX0_putIn_130 (by decide) ?_
  refine lv_iadd hx hb dX0_putIn_131 ?_
  refine pf_O_39 hx hb hown hts hG hw hoL (va_up_self _ _ _) dX0_putIn_132 (fun H locs hw => ?_)
  rw [bx_uu] at hw
  exact jx_vret hx hb hrt hlk hw (Nat.le_refl _) (Nat.le_refl _) dX0_putIn_135 ⟨rfl, rfl, f1, u1, hr, ps, rfl, hV, eS, eI, hfr, fun r h => hnew r h (Nat.zero_le _)⟩
end
section
section TO
variable {p : Program} {l : Launch} {e : Env} {R : Room} {s : State} {m : MethodId} {args : Array Value} {below : List Frame} {meth : Method} {c : Code} {H : Heap} {locs : List Loc} {cells slots : Nat} {Q : State → Prop} {D : va_G} {ct : Nat → ClassId} {A : Nat → Prop} {H0 : Heap} {L : List Nat}
variable {f0 : Nat → va_E} {k : jK} {u : jS} {PS ns p1 p2 : List Nat} {cnt : Int32} {o hd pa b : Nat}
set_option maxHeartbeats 4000000 in
set_option maxRecDepth 100000 in
theorem lp_takeOut (hx : p.tables.exec = Jvm.exec) (hb : c.code = cX0_takeOut) (hml : c.maxLocals = 4) (hown : s.vm.findClass RO = some m.cls) (hts : ∀ w ∈ jz_TT, w.before args s = true) (hG : jz_G D ct s) (hcs : cells ≤ R.cells ∧ slots ≤ R.slots) (hR : 0 + 1 ≤ R.frames ∧ 8 + (4 + 11) + 0 ≤ R.locals) (hN : jo_N k PS o) (hoL : o ∈ L) (ens0 : ns = hd :: (p1 ++ b :: p2)) (hPS : ∀ x ∈ ns, x ∈ PS) (hns : ns.length < 2 ^ 30) (hbP : b ∈ PS) (hb4 : k.2.2.1 b ≤ 4) (hnd : ns.Nodup)
    (kk : ∀ (f1 : Nat → va_E) (u1 : jS) (hr : Nat) (ps : Int32) (H : Heap) (locs : List Loc) (ls : Array Slot), jo_V (ct 0) (ct 1) L f1 k u1 PS → u1.1 = u.1 → u1.2.1 = u.2.1 → (∀ q, jo_N k PS q → f1 q = f0 q) → (∀ r, r < 4 → 0 ≤ r → jr_ok k.2.2.1 u1.2.2.1 u1.2.2.2 r (hd :: (p1 ++ p2))) → jz_w D A H0 L (va_up f1 o (jo_eO hd pa cnt hr ps)) H locs → lv_has ls 4 [(0, .ref o)] → W p l e R s m args below meth c H locs cells slots Q (F0 m 96 ls [])) :
    ∀ (j : Nat) (f1 : Nat → va_E) (u1 : jS) (pre suf : List Nat) (hr : Nat) (H : Heap) (locs : List Loc) (ls : Array Slot), j ≤ 4 → jo_V (ct 0) (ct 1) L f1 k u1 PS → u1.1 = u.1 → u1.2.1 = u.2.1 → (∀ q, jo_N k PS q → f1 q = f0 q) → (∀ r, r < 4 → j ≤ r → jr_ok k.2.2.1 u1.2.2.1 u1.2.2.2 r (hd :: (p1 ++ p2))) → (∀ r, r < j → jr_ok k.2.2.1 u1.2.2.1 u1.2.2.2 r ns) → ns = pre ++ hr :: suf → j ≤ k.2.2.1 hr → pre.length < p1.length + 1 → jz_w D A H0 L (va_up f1 o (jo_eO hd pa cnt hr (nI pre.length))) H locs → lv_has ls 4 [(0, .ref o), (1, .ref b), (2, .int (nI (p1.length + 1))), (3, .int (jz_row j))] → W p l e R s m args below meth c H locs cells slots Q (F0 m 21 ls []) := by
  intro j
  induction j with
  | zero =>
    intro f1 u1 pre suf hr H locs ls _ hV eS eI hfr hnew hold ens hh hpl hw hl
    refine lv_iload_n hx hb dX0_takeOut_21 rfl (lv_at hl 3 rfl) ?_
    refine lv_if_lt (tgt := 96) hx hb dX0_takeOut_22 (by decide) (fun _ => ?_) (fun h => absurd (by decide) h)
    exact kk f1 u1 hr _ H locs ls hV eS eI hfr hnew hw (lv_sub hl [0] rfl)
  | succ j ih =>
    intro f1 u1 pre suf hr H locs ls hj4 hV eS eI hfr hnew hold ens hh hpl hw hl
    have hr4 : j < 4 := hj4
    have hl : lv_has ls 4 [(0, .ref o), (1, .ref b), (2, .int (nI (p1.length + 1))), (3, .int (nI j))] := hl
    have hlen : ns.length = p1.length + p2.length + 2 := by rw [ens0]; simp; omega
    have hoj := hold j (Nat.lt_succ_self _)
    refine lv_iload_n hx hb dX0_takeOut_21 rfl (lv_at hl 3 rfl) ?_
    refine lv_if_lt (tgt := 96) hx hb dX0_takeOut_22 (by decide) (fun h => absurd h (nI_pos (by omega))) (fun _ => ?_)
    refine lv_aload_n hx hb dX0_takeOut_25 rfl (lv_at hl 0 rfl) ?_
    refine lv_iload_n hx hb dX0_takeOut_26 rfl (lv_at hl 3 rfl) ?_
    refine lv_iload_n hx hb dX0_takeOut_27 rfl (lv_at hl 2 rfl) ?_
    refine cl_O_46 (As := [.int (nI j), .int (nI (p1.length + 1))]) (rest := []) hx hb hml hown hts hG hw (c_goAheadOf l D ct hV hN hoL hr4 hPS hns (by omega) hoj ens hh hpl) rfl hR hoL (va_up_self _ _ _) hl.1 rfl (Nat.le_of_ble_eq_true rfl) dX0_takeOut_28 hcs (fun v L' f' H1 locs1 hp hw hcf => ?_)
    obtain ⟨rfl, eL, pre, suf, hr, ens, ef, hh, hpl, hdst⟩ := hp
    rw [eL, ef] at hw
    obtain ⟨s1, ep1, es, hsl, hlow⟩ := jz_cut (n := 0) (ens0.symm.trans ens) hpl hdst
    have hhr : hr ∈ PS := hPS _ (by rw [ens]; simp)
    have ens1 : ns = pre ++ hr :: (s1 ++ b :: p2) := by rw [ens, es]
    have hoj : jr_ok k.2.2.1 u1.2.2.1 u1.2.2.2 j (pre ++ hr :: (s1 ++ b :: p2)) := ens1 ▸ hoj
    have hnd1 := hnd
    rw [ens1] at hnd1
    have hpa : ∀ x ∈ pre, x ≠ hr := fun x hx q => (List.nodup_append.mp hnd1).2.2 x hx hr List.mem_cons_self q
    have hpb : ∀ x ∈ p2, x ≠ hr := fun x hx q => (List.nodup_cons.mp (List.nodup_append.mp hnd1).2.1).1 (by rw [← q]; simp [hx])
    have enew : hd :: (p1 ++ p2) = pre ++ hr :: (s1 ++ p2) := by rw [← List.cons_append, ep1]; simp
    refine lv_iload_n hx hb dX0_takeOut_31 rfl (lv_at hl 3 rfl) ?_
    refine lv_aload_n hx hb dX0_takeOut_32 rfl (lv_at hl 1 rfl) ?_
    refine gf_O_84 hx hb hown hts hG hw ((hV.up (e := jo_eO hd pa cnt hr (nI pre.length)) hN).aL hbP) ((hV.up (e := jo_eO hd pa cnt hr (nI pre.length)) hN).a hbP) dX0_takeOut_33 ?_
    refine lv_icmp_ge (tgt := 77) hx hb dX0_takeOut_36 (by decide) (fun hc => ?_) (fun hc => ?_)
    · have hjb : ¬ j < k.2.2.1 b := fun q => absurd (nI_lt q (by omega)) (Int32.not_lt.mpr hc)
      refine lv_aload_n hx hb dX0_takeOut_77 rfl (lv_at hl 0 rfl) ?_
      refine gf_O_24 hx hb hown hts hG hw hoL (va_up_self _ _ _) dX0_takeOut_78 ?_
      refine gf_O_59 hx hb hown hts hG hw ((hV.up (e := jo_eO hd pa cnt hr (nI pre.length)) hN).aL hhr) ((hV.up (e := jo_eO hd pa cnt hr (nI pre.length)) hN).a hhr) dX0_takeOut_81 ?_
      refine lv_iload_n hx hb dX0_takeOut_84 rfl (lv_at hl 3 rfl) ?_
      refine lv_dup2_11 hx hb dX0_takeOut_85 rfl rfl ?_
      refine jx_ialdI hx hb hG hw ((hV.up (e := jo_eO hd pa cnt hr (nI pre.length)) hN).fL hhr) 0 ((hV.up (e := jo_eO hd pa cnt hr (nI pre.length)) hN).r hhr) rfl hr4 (by decide) dX0_takeOut_86 ?_
      refine lv_iconst (v := 1) hx hb dX0_takeOut_87 (by decide) ?_
      refine lv_isub hx hb dX0_takeOut_88 ?_
      refine jx_iastI hx hb hG hw ((hV.up (e := jo_eO hd pa cnt hr (nI pre.length)) hN).fL hhr) 0 ((hV.up (e := jo_eO hd pa cnt hr (nI pre.length)) hN).r hhr) rfl hr4 (by decide) dX0_takeOut_89 (fun H locs hw => ?_)
      rw [jz_comm (hN hr hhr).2.2.symm] at hw
      have hfr : ∀ q, jo_N k PS q → va_up f1 (k.2.2.2.2 hr) (jo_eF (ct 0) (upd (u1.2.2.2 hr) j (u1.2.2.2 hr j - 1))) q = f0 q := fun q hq => by rw [va_up_ne _ _ (hq hr hhr).2.2]; exact hfr q hq
      have hsame : ∀ x r, ¬ r = j → u1.2.2.1 x r = u1.2.2.1 x r ∧ va_up u1.2.2.2 hr (upd (u1.2.2.2 hr) j (u1.2.2.2 hr j - 1)) x r = u1.2.2.2 x r := fun x r hne => ⟨rfl, by
        by_cases q : x = hr
        · rw [q, va_up_self, pk_un hne]
        · rw [va_up_ne _ _ q]⟩
      have hV := hV.putF hhr (upd (u1.2.2.2 hr) j (u1.2.2.2 hr j - 1))
      refine lv_iinc (v := jz_row j) (lv' := [(3, .int (jz_row j)), (0, .ref o), (1, .ref b), (2, .int (nI (p1.length + 1)))]) hx hb dX0_takeOut_90 hl (k := 3) rfl (jz_row_pred j) (by decide) rfl (fun ls hl => ?_)
      refine lv_goto (tgt := 21) hx hb dX0_takeOut_93 (by decide) ?_
      refine ih _ (u1.1, u1.2.1, u1.2.2.1, va_up u1.2.2.2 hr (upd (u1.2.2.2 hr) j (u1.2.2.2 hr j - 1))) pre (s1 ++ b :: p2) hr _ _ ls (by omega) hV eS eI hfr (fun r hr4 hjr => ?_) (fun r hjr => ?_) ens1 (by omega) hpl hw (lv_sub hl [1, 2, 3, 0] rfl)
      · rcases Nat.eq_or_lt_of_le hjr with q | q
        · subst q
          rw [enew]
          exact jz_delRow0 hoj hh hjb hlow hpa hpb rfl
        · exact jr_ok_congr (hnew r hr4 q) (fun x _ _ => hsame x r (fun z => absurd q (by omega)))
      · exact jr_ok_congr (hold r (by omega)) (fun x _ _ => hsame x r (fun z => absurd hjr (by omega)))
    · have hjb : j < k.2.2.1 b := by
        rcases Nat.lt_or_ge j (k.2.2.1 b) with q | q
        · exact q
        · exact absurd (nI_le q (by omega)) hc
      have hoj3 : jr_ok k.2.2.1 u1.2.2.1 u1.2.2.2 j ((pre ++ hr :: s1) ++ b :: p2) := by rw [show (pre ++ hr :: s1) ++ b :: p2 = pre ++ hr :: (s1 ++ b :: p2) by simp]; exact hoj
      obtain ⟨g0, g1⟩ := jr_ok_at hoj3 hjb
      refine lv_aload_n hx hb dX0_takeOut_39 rfl (lv_at hl 0 rfl) ?_
      refine gf_O_24 hx hb hown hts hG hw hoL (va_up_self _ _ _) dX0_takeOut_40 ?_
      refine gf_O_49 hx hb hown hts hG hw ((hV.up (e := jo_eO hd pa cnt hr (nI pre.length)) hN).aL hhr) ((hV.up (e := jo_eO hd pa cnt hr (nI pre.length)) hN).a hhr) dX0_takeOut_43 ?_
      refine lv_iload_n hx hb dX0_takeOut_46 rfl (lv_at hl 3 rfl) ?_
      refine lv_aload_n hx hb dX0_takeOut_47 rfl (lv_at hl 1 rfl) ?_
      refine gf_O_49 hx hb hown hts hG hw ((hV.up (e := jo_eO hd pa cnt hr (nI pre.length)) hN).aL hbP) ((hV.up (e := jo_eO hd pa cnt hr (nI pre.length)) hN).a hbP) dX0_takeOut_48 ?_
      refine lv_iload_n hx hb dX0_takeOut_51 rfl (lv_at hl 3 rfl) ?_
      refine jx_aldqI hx hb hG hw ((hV.up (e := jo_eO hd pa cnt hr (nI pre.length)) hN).nL hbP) 1 ((hV.up (e := jo_eO hd pa cnt hr (nI pre.length)) hN).n hbP) rfl hr4 (by decide) dX0_takeOut_52 ?_
      refine jx_astqI hx hb hG hw ((hV.up (e := jo_eO hd pa cnt hr (nI pre.length)) hN).nL hhr) 1 2 ((hV.up (e := jo_eO hd pa cnt hr (nI pre.length)) hN).n hhr) rfl (fun x hx0 => ?_) rfl hr4 (by decide) dX0_takeOut_53 (fun H locs hw => ?_)
      · obtain ⟨mid, suf3, e3, -⟩ := jr_split (g0.symm.trans hx0)
        have hxP : x ∈ PS := hPS x (by rw [ens1, e3]; simp)
        exact ⟨(hV.up (e := jo_eO hd pa cnt hr (nI pre.length)) hN).aL hxP, _, (hV.up (e := jo_eO hd pa cnt hr (nI pre.length)) hN).a hxP⟩
      rw [jz_comm (hN hr hhr).2.1.symm] at hw
      have hV2 := hV.putX hhr (va_up (u1.2.2.1 hr) j (u1.2.2.1 b j))
      obtain ⟨f2, hf2⟩ : ∃ f2, f2 = va_up f1 (k.2.2.2.1 hr) (jo_eN (ct 1) (va_up (u1.2.2.1 hr) j (u1.2.2.1 b j))) := ⟨_, rfl⟩
      rw [← hf2] at hw hV2
      refine lv_aload_n hx hb dX0_takeOut_54 rfl (lv_at hl 0 rfl) ?_
      refine gf_O_24 hx hb hown hts hG hw hoL (va_up_self _ _ _) dX0_takeOut_55 ?_
      refine gf_O_59 hx hb hown hts hG hw ((hV2.up (e := jo_eO hd pa cnt hr (nI pre.length)) hN).aL hhr) ((hV2.up (e := jo_eO hd pa cnt hr (nI pre.length)) hN).a hhr) dX0_takeOut_58 ?_
      refine lv_iload_n hx hb dX0_takeOut_61 rfl (lv_at hl 3 rfl) ?_
      refine lv_dup2_11 hx hb dX0_takeOut_62 rfl rfl ?_
      refine jx_ialdI hx hb hG hw ((hV2.up (e := jo_eO hd pa cnt hr (nI pre.length)) hN).fL hhr) 0 ((hV2.up (e := jo_eO hd pa cnt hr (nI pre.length)) hN).r hhr) rfl hr4 (by decide) dX0_takeOut_63 ?_
      refine lv_aload_n hx hb dX0_takeOut_64 rfl (lv_at hl 1 rfl) ?_
      refine gf_O_59 hx hb hown hts hG hw ((hV2.up (e := jo_eO hd pa cnt hr (nI pre.length)) hN).aL hbP) ((hV2.up (e := jo_eO hd pa cnt hr (nI pre.length)) hN).a hbP) dX0_takeOut_65 ?_
      refine lv_iload_n hx hb dX0_takeOut_68 rfl (lv_at hl 3 rfl) ?_
      refine jx_ialdI hx hb hG hw ((hV2.up (e := jo_eO hd pa cnt hr (nI pre.length)) hN).fL hbP) 0 ((hV2.up (e := jo_eO hd pa cnt hr (nI pre.length)) hN).r hbP) rfl hr4 (by decide) dX0_takeOut_69 ?_
      refine lv_iconst (v := 1) hx hb dX0_takeOut_70 (by decide) ?_
      refine lv_isub hx hb dX0_takeOut_71 ?_
      refine lv_iadd hx hb dX0_takeOut_72 ?_
      refine lv_topi (fun x1 ex1 => ?_)
      have ex1 : x1 = u1.2.2.2 hr j + (u1.2.2.2 b j - 1) := ex1
      refine jx_iastI hx hb hG hw ((hV2.up (e := jo_eO hd pa cnt hr (nI pre.length)) hN).fL hhr) 0 ((hV2.up (e := jo_eO hd pa cnt hr (nI pre.length)) hN).r hhr) rfl hr4 (by decide) dX0_takeOut_73 (fun H locs hw => ?_)
      rw [jz_comm (hN hr hhr).2.2.symm] at hw
      have hV3 := hV2.putF hhr (upd (u1.2.2.2 hr) j x1)
      obtain ⟨f3, hf3⟩ : ∃ f3, f3 = va_up f2 (k.2.2.2.2 hr) (jo_eF (ct 0) (upd (u1.2.2.2 hr) j x1)) := ⟨_, rfl⟩
      rw [← hf3] at hw hV3
      have hfr : ∀ q, jo_N k PS q → f3 q = f0 q := fun q hq => by rw [hf3, va_up_ne _ _ (hq hr hhr).2.2, hf2, va_up_ne _ _ (hq hr hhr).2.1]; exact hfr q hq
      have hsame : ∀ x r, ¬ r = j → (va_up u1.2.2.1 hr (va_up (u1.2.2.1 hr) j (u1.2.2.1 b j))) x r = u1.2.2.1 x r ∧ (va_up u1.2.2.2 hr (upd (u1.2.2.2 hr) j x1)) x r = u1.2.2.2 x r := fun x r hne => by
        by_cases q : x = hr
        · rw [q, va_up_self, va_up_self, va_up_ne _ _ hne, pk_un hne]
          exact ⟨rfl, rfl⟩
        · rw [va_up_ne _ _ q, va_up_ne _ _ q]
          exact ⟨rfl, rfl⟩
      have hV := hV3
      refine lv_goto (tgt := 90) hx hb dX0_takeOut_74 (by decide) ?_
      refine lv_iinc (v := jz_row j) (lv' := [(3, .int (jz_row j)), (0, .ref o), (1, .ref b), (2, .int (nI (p1.length + 1)))]) hx hb dX0_takeOut_90 hl (k := 3) rfl (jz_row_pred j) (by decide) rfl (fun ls hl => ?_)
      refine lv_goto (tgt := 21) hx hb dX0_takeOut_93 (by decide) ?_
      refine ih _ (u1.1, u1.2.1, (va_up u1.2.2.1 hr (va_up (u1.2.2.1 hr) j (u1.2.2.1 b j))), (va_up u1.2.2.2 hr (upd (u1.2.2.2 hr) j x1))) pre (s1 ++ b :: p2) hr _ _ ls (by omega) hV eS eI hfr (fun r hr4 hjr => ?_) (fun r hjr => ?_) ens1 (by omega) hpl hw (lv_sub hl [1, 2, 3, 0] rfl)
      · rcases Nat.eq_or_lt_of_le hjr with q | q
        · subst q
          rw [enew]
          exact jz_delRow hoj hh hjb hlow hpa hpb ex1
        · exact jr_ok_congr (hnew r hr4 q) (fun x _ _ => hsame x r (fun z => absurd q (by omega)))
      · exact jr_ok_congr (hold r (by omega)) (fun x _ _ => hsame x r (fun z => absurd hjr (by omega)))
end TO
set_option maxHeartbeats 4000000 in
set_option maxRecDepth 100000 in
theorem c_takeOut (l : Launch) (D : va_G) (ct : Nat → ClassId) {L : List Nat} {f0 : Nat → va_E} {k : jK} {u : jS} {PS ns p1 p2 : List Nat} {cnt ps : Int32} {o hd pa hr b : Nat} (hV0 : jo_V (ct 0) (ct 1) L f0 k u PS) (hN : jo_N k PS o) (hoL : o ∈ L) (ens0 : ns = hd :: (p1 ++ b :: p2)) (hPS : ∀ x ∈ ns, x ∈ PS) (hns : ns.length < 2 ^ 30) (hrow : ∀ r, r < 4 → jr_ok k.2.2.1 u.2.2.1 u.2.2.2 r ns) (hht : k.2.2.1 hd = 4) (hh1 : ∀ x ∈ ns, 1 ≤ k.2.2.1 x) (hA1 : ∀ x ∈ p1, jz_ah (u.1 x) (k.2.1 x) (u.1 b) (k.2.1 b)) (hA2 : ∀ x ∈ b :: p2, ¬ jz_ah (u.1 x) (k.2.1 x) (u.1 b) (k.2.1 b)) (hbP : b ∈ PS) (hb4 : k.2.2.1 b ≤ 4) (hnd : ns.Nodup) :
    jz_M l D ct yX0_takeOut cX0_takeOut 4 none ({ frames := 2, cells := 0, slots := 0, locals := 48 } : Room) [.ref o, .ref b] L (va_up f0 o (jo_eO hd pa cnt hr ps)) (fun v L' f' => v = none ∧ L' = L ∧ ∃ (f1 : Nat → va_E) (u1 : jS) (hr' : Nat) (ps' : Int32), f' = va_up f1 o (jo_eO hd pa (cnt - 1) hr' ps') ∧ jo_V (ct 0) (ct 1) L f1 k u1 PS ∧ u1.1 = u.1 ∧ u1.2.1 = u.2.1 ∧ (∀ q, jo_N k PS q → f1 q = f0 q) ∧ ∀ r, r < 4 → jr_ok k.2.2.1 u1.2.2.1 u1.2.2.2 r (hd :: (p1 ++ p2))) := by
  refine jx_enter (by decide) (Nat.le_of_ble_eq_true rfl) ?_
  intro p e s m below meth c C hw ls hl
  obtain ⟨hx, hb, hrt, hlk, hnm, hml, hown, hts, hG⟩ := C
  have hl : lv_has ls 4 [(0, .ref o), (1, .ref b)] := hl
  refine lv_aload_n hx hb dX0_takeOut_0 rfl (lv_at hl 0 rfl) ?_
  refine lv_aload_n hx hb dX0_takeOut_1 rfl (lv_at hl 1 rfl) ?_
  refine gf_O_67 hx hb hown hts hG hw ((hV0.up (e := jo_eO hd pa cnt hr ps) hN).aL hbP) ((hV0.up (e := jo_eO hd pa cnt hr ps) hN).a hbP) dX0_takeOut_2 ?_
  refine lv_aload_n hx hb dX0_takeOut_5 rfl (lv_at hl 1 rfl) ?_
  refine gf_O_77 hx hb hown hts hG hw ((hV0.up (e := jo_eO hd pa cnt hr ps) hN).aL hbP) ((hV0.up (e := jo_eO hd pa cnt hr ps) hN).a hbP) dX0_takeOut_6 ?_
  refine cl_O_80 (As := [.long (u.1 b), .int (k.2.1 b)]) (rest := []) hx hb hml hown hts hG hw (c_countAheadOf l D ct hV0 hN hoL ens0 hPS hns hrow hht hh1 hA1 hA2) rfl ⟨Nat.le_of_ble_eq_true rfl, Nat.le_of_ble_eq_true rfl⟩ hoL (va_up_self _ _ _) hl.1 rfl (Nat.le_of_ble_eq_true rfl) dX0_takeOut_9 ⟨Nat.le_of_ble_eq_true rfl, Nat.le_of_ble_eq_true rfl⟩ (fun v L' f' H1 locs1 hp hw hcf => ?_)
  obtain ⟨rfl, eL, hr, ps, ef⟩ := hp
  rw [eL, ef] at hw
  refine lv_iconst (v := nI 1) hx hb dX0_takeOut_12 (by decide) ?_
  refine lv_iadd hx hb dX0_takeOut_13 ?_
  rw [nI_add]
  refine lv_istore_n (lv' := [(2, .int (nI (p1.length + 1))), (0, .ref o), (1, .ref b)]) hx hb dX0_takeOut_14 rfl hl (by decide) rfl (fun ls hl => ?_)
  refine lv_aload_n hx hb dX0_takeOut_15 rfl (lv_at hl 1 rfl) ?_
  refine cl_O_43 (As := []) (rest := []) hx hb hml hown hts hG hw (c_goToHead l D ct hoL (va_up_self _ _ _)) rfl ⟨Nat.le_of_ble_eq_true rfl, Nat.le_of_ble_eq_true rfl⟩ hoL (va_up_self _ _ _) hl.1 rfl (Nat.le_of_ble_eq_true rfl) dX0_takeOut_16 ⟨Nat.le_of_ble_eq_true rfl, Nat.le_of_ble_eq_true rfl⟩ (fun v L' f' H1 locs1 hp hw hcf => ?_)
  obtain ⟨rfl, eL, ef⟩ := hp
  rw [eL, ef, bx_uu] at hw
  refine lv_iconst (v := nI 3) hx hb dX0_takeOut_19 (by decide) ?_
  refine lv_istore_n (lv' := [(3, .int (nI 3)), (2, .int (nI (p1.length + 1))), (0, .ref o), (1, .ref b)]) hx hb dX0_takeOut_20 rfl hl (by decide) rfl (fun ls hl => ?_)
  refine lp_takeOut (f0 := f0) (u := u) hx hb hml hown hts hG ⟨Nat.le_of_ble_eq_true rfl, Nat.le_of_ble_eq_true rfl⟩ ⟨Nat.le_of_ble_eq_true rfl, Nat.le_of_ble_eq_true rfl⟩ hN hoL ens0 hPS hns hbP hb4 hnd (fun f1 u1 hr ps H locs ls hV eS eI hfr hnew hw hl => ?_) 4 f0 u [] (p1 ++ b :: p2) hd _ _ ls (Nat.le_refl _) hV0 rfl rfl (fun _ _ => rfl) (fun r h1 h2 => absurd h1 (Nat.not_lt.mpr h2)) (fun r h => hrow r h) ens0 (by rw [hht]; exact Nat.le_refl _) (Nat.succ_pos _) hw (lv_sub hl [2, 3, 1, 0] rfl)
  refine lv_aload_n hx hb dX0_takeOut_96 rfl (lv_at hl 0 rfl) ?_
  refine lv_dup hx hb dX0_takeOut_97 rfl ?_
  refine gf_O_39 hx hb hown hts hG hw hoL (va_up_self _ _ _) dX0_takeOut_98 ?_
  refine lv_iconst (v := 1) hx hb dX0_takeOut_101 (by decide) ?_
  refine lv_isub hx hb dX0_takeOut_102 ?_
  refine pf_O_39 hx hb hown hts hG hw hoL (va_up_self _ _ _) dX0_takeOut_103 (fun H locs hw => ?_)
  rw [bx_uu] at hw
  exact jx_vret hx hb hrt hlk hw (Nat.le_refl _) (Nat.le_refl _) dX0_takeOut_106 ⟨rfl, rfl, f1, u1, hr, ps, rfl, hV, eS, eI, hfr, fun r h => hnew r h (Nat.zero_le _)⟩
end
section
set_option maxHeartbeats 4000000 in
set_option maxRecDepth 100000 in
theorem c_placeInit (l : Launch) (D : va_G) (ct : Nat → ClassId) {L : List Nat} {f : Nat → va_E} {a : Nat} {mv hv : Int32} (haL : a ∈ L) (hfa : f a = .inr (2, [.int 0, .int 0, .int 0, .null, .null, .long 0, .int 0])) :
    jz_M l D ct yX1_init cX1_init 3 none ({ frames := 1, cells := 2, slots := 8, locals := 20 } : Room) [.ref a, .int mv, .int hv] L f (fun v L' f' => v = none ∧ ∃ n r : Nat, n ∉ L ∧ r ∉ L ∧ n ≠ r ∧ L' = (L ++ [n]) ++ [r] ∧ f' a = .inr (2, [.int mv, .int (jz_word mv), .int hv, .ref n, .ref r, .long 0, .int 0]) ∧ f' n = jo_eN (ct 1) (fun _ => none) ∧ f' r = jo_eF (ct 0) (fun _ => 0) ∧ ∀ q, q ≠ a → q ≠ n → q ≠ r → f' q = f q) := by
  refine jx_enter (by decide) (Nat.le_of_ble_eq_true rfl) ?_
  intro p e s m below meth c C hw ls hl
  obtain ⟨hx, hb, hrt, hlk, hnm, hml, hown, hts, hG⟩ := C
  have hl : lv_has ls 3 [(0, .ref a), (1, .int mv), (2, .int hv)] := hl
  refine lv_aload_n hx hb dX1_init_0 rfl (lv_at hl 0 rfl) ?_
  refine W.objInit hx hb hown (hts _ (by decide +kernel)) (hts _ (by decide +kernel)) (hts _ jz_objc) rfl (by rw [hml]; exact hl.1) rfl dX1_init_1 (Nat.le_of_ble_eq_true rfl) (Nat.le_of_ble_eq_true rfl) ?_
  refine W.eq (g2 := F0 m 4 ls []) rfl ?_
  refine lv_aload_n hx hb dX1_init_4 rfl (lv_at hl 0 rfl) ?_
  refine lv_iload_n hx hb dX1_init_5 rfl (lv_at hl 1 rfl) ?_
  refine pf_P_9 hx hb hown hts hG hw haL hfa hnm dX1_init_6 (fun H locs hw => ?_)
  obtain ⟨f1, hf1⟩ : ∃ z, z = va_up f a (.inr (2, [.int mv, .int 0, .int 0, .null, .null, .long 0, .int 0])) := ⟨_, rfl⟩
  have hw : jz_w D (va_A (va_pl L f) s.heap.size) s.heap L f1 H locs := by rw [hf1]; exact hw
  have hfa : f1 a = .inr (2, [.int mv, .int 0, .int 0, .null, .null, .long 0, .int 0]) := by rw [hf1, va_up_self]
  refine lv_aload_n hx hb dX1_init_9 rfl (lv_at hl 0 rfl) ?_
  refine lv_iload_n hx hb dX1_init_10 rfl (lv_at hl 1 rfl) ?_
  refine cl_P_15 (As := [.int mv]) (rest := [.ref a]) hx hb hml hown hts hG hw (c_wordOf l D ct L f1 mv) rfl ⟨Nat.le_of_ble_eq_true rfl, Nat.le_of_ble_eq_true rfl⟩ hl.1 rfl (Nat.le_of_ble_eq_true rfl) dX1_init_11 ⟨Nat.le_of_ble_eq_true rfl, Nat.le_of_ble_eq_true rfl⟩ (fun v L' f' H1 locs1 hp hw hcf => ?_)
  obtain ⟨rfl, eL, ef⟩ := hp
  rw [eL, ef] at hw
  generalize H1 = H at hw ⊢
  generalize locs1 = locs at hw ⊢
  refine pf_P_19 hx hb hown hts hG hw haL hfa hnm dX1_init_14 (fun H locs hw => ?_)
  obtain ⟨f2, hf2⟩ : ∃ z, z = va_up f1 a (.inr (2, [.int mv, .int (jz_word mv), .int 0, .null, .null, .long 0, .int 0])) := ⟨_, rfl⟩
  have hw : jz_w D (va_A (va_pl L f) s.heap.size) s.heap L f2 H locs := by rw [hf2]; exact hw
  have hfa : f2 a = .inr (2, [.int mv, .int (jz_word mv), .int 0, .null, .null, .long 0, .int 0]) := by rw [hf2, va_up_self]
  refine lv_aload_n hx hb dX1_init_17 rfl (lv_at hl 0 rfl) ?_
  refine lv_iload_n hx hb dX1_init_18 rfl (lv_at hl 2 rfl) ?_
  refine pf_P_22 hx hb hown hts hG hw haL hfa hnm dX1_init_19 (fun H locs hw => ?_)
  obtain ⟨f3, hf3⟩ : ∃ z, z = va_up f2 a (.inr (2, [.int mv, .int (jz_word mv), .int hv, .null, .null, .long 0, .int 0])) := ⟨_, rfl⟩
  have hw : jz_w D (va_A (va_pl L f) s.heap.size) s.heap L f3 H locs := by rw [hf3]; exact hw
  have hfa : f3 a = .inr (2, [.int mv, .int (jz_word mv), .int hv, .null, .null, .long 0, .int 0]) := by rw [hf3, va_up_self]
  refine lv_aload_n hx hb dX1_init_22 rfl (lv_at hl 0 rfl) ?_
  refine lv_iconst (v := nI 4) hx hb dX1_init_23 (by decide) ?_
  refine jx_newq hx hb hts hown (by decide +kernel) (by decide +kernel) hG hw 1 rfl (N' := 4) (nI_pos (by decide)) (nI_clamp (by decide)) (by decide) (Nat.le_of_ble_eq_true rfl) (Nat.le_of_ble_eq_true rfl) dX1_init_24 (fun n H hnL hw => ?_)
  have han : a ≠ n := fun q => hnL (q ▸ haL)
  obtain ⟨g1, hg1⟩ : ∃ z, z = va_up f3 n (jo_eN (ct 1) (fun _ => none)) := ⟨_, rfl⟩
  have hw : jz_w D (va_A (va_pl L f) s.heap.size) s.heap (L ++ [n]) g1 H locs := by rw [hg1]; exact hw
  have hfa : g1 a = .inr (2, [.int mv, .int (jz_word mv), .int hv, .null, .null, .long 0, .int 0]) := by rw [hg1, va_up_ne _ _ han]; exact hfa
  refine pf_P_25 hx hb hown hts hG hw (List.mem_append_left _ haL) hfa hnm dX1_init_27 (fun H locs hw => ?_)
  obtain ⟨f4, hf4⟩ : ∃ z, z = va_up g1 a (.inr (2, [.int mv, .int (jz_word mv), .int hv, .ref n, .null, .long 0, .int 0])) := ⟨_, rfl⟩
  have hw : jz_w D (va_A (va_pl L f) s.heap.size) s.heap (L ++ [n]) f4 H locs := by rw [hf4]; exact hw
  have hfa : f4 a = .inr (2, [.int mv, .int (jz_word mv), .int hv, .ref n, .null, .long 0, .int 0]) := by rw [hf4, va_up_self]
  refine lv_aload_n hx hb dX1_init_30 rfl (lv_at hl 0 rfl) ?_
  refine lv_iconst (v := nI 4) hx hb dX1_init_31 (by decide) ?_
  refine jx_newa (a0 := (4, .inl (fun _ => 0))) hx hb hts (by decide +kernel) (ty := .int) rfl hG hw 0 rfl (N' := 4) (fun cA => rfl) (nI_pos (by decide)) (nI_clamp (by decide)) (by decide) (Nat.le_of_ble_eq_true rfl) (Nat.le_of_ble_eq_true rfl) dX1_init_32 (fun r H hrL hw => ?_)
  have har : a ≠ r := fun q => hrL (q ▸ List.mem_append_left _ haL)
  have hnr : n ≠ r := fun q => hrL (q ▸ List.mem_append_right _ (List.mem_singleton.mpr rfl))
  obtain ⟨g2, hg2⟩ : ∃ z, z = va_up f4 r (jo_eF (ct 0) (fun _ => 0)) := ⟨_, rfl⟩
  have hw : jz_w D (va_A (va_pl L f) s.heap.size) s.heap ((L ++ [n]) ++ [r]) g2 H locs := by rw [hg2]; exact hw
  have hfa : g2 a = .inr (2, [.int mv, .int (jz_word mv), .int hv, .ref n, .null, .long 0, .int 0]) := by rw [hg2, va_up_ne _ _ har]; exact hfa
  refine pf_P_29 hx hb hown hts hG hw (List.mem_append_left _ (List.mem_append_left _ haL)) hfa hnm dX1_init_34 (fun H locs hw => ?_)
  obtain ⟨f5, hf5⟩ : ∃ z, z = va_up g2 a (.inr (2, [.int mv, .int (jz_word mv), .int hv, .ref n, .ref r, .long 0, .int 0])) := ⟨_, rfl⟩
  have hw : jz_w D (va_A (va_pl L f) s.heap.size) s.heap ((L ++ [n]) ++ [r]) f5 H locs := by rw [hf5]; exact hw
  have hfa : f5 a = .inr (2, [.int mv, .int (jz_word mv), .int hv, .ref n, .ref r, .long 0, .int 0]) := by rw [hf5, va_up_self]
  refine jx_vret hx hb hrt hlk hw (Nat.le_refl _) (Nat.le_refl _) dX1_init_37 ⟨rfl, n, r, hnL, fun q => hrL (List.mem_append_left _ q), hnr, rfl, hfa, ?_, ?_, fun q h1 h2 h3 => ?_⟩
  · rw [hf5, va_up_ne _ _ han.symm, hg2, va_up_ne _ _ hnr, hf4, va_up_ne _ _ han.symm, hg1, va_up_self]
  · rw [hf5, va_up_ne _ _ har.symm, hg2, va_up_self]
  · rw [hf5, va_up_ne _ _ h1, hg2, va_up_ne _ _ h3, hf4, va_up_ne _ _ h1, hg1, va_up_ne _ _ h2, hf3, va_up_ne _ _ h1, hf2, va_up_ne _ _ h1, hf1, va_up_ne _ _ h1]
theorem jz_uu2 {f : Nat → va_E} {x y : Nat} {e1 e2 e3 : va_E} (h : x ≠ y) : va_up (va_up (va_up f x e1) y e2) x e3 = va_up (va_up f x e3) y e2 := by
  rw [jz_comm h, bx_uu]
section MB
variable {p : Program} {l : Launch} {e : Env} {R : Room} {s : State} {m : MethodId} {args : Array Value} {below : List Frame} {meth : Method} {c : Code} {H : Heap} {locs : List Loc} {cells slots : Nat} {Q : State → Prop} {D : va_G} {ct : Nat → ClassId} {A : Nat → Prop} {H0 : Heap} {L : List Nat}
variable {f : Nat → va_E} {a n r : Nat} {v0 v1 v2 v5 v6 : Value}
set_option maxHeartbeats 4000000 in
set_option maxRecDepth 100000 in
theorem lp_makeBare (hx : p.tables.exec = Jvm.exec) (hb : c.code = cX0_makeBare) (hown : s.vm.findClass RO = some m.cls) (hts : ∀ w ∈ jz_TT, w.before args s = true) (hG : jz_G D ct s) (haL : a ∈ L) (hnL : n ∈ L) (hrL : r ∈ L) (hfa : f a = .inr (2, [v0, v1, v2, .ref n, .ref r, v5, v6])) (han : a ≠ n) (har : a ≠ r) (hnr : n ≠ r)
    (kk : ∀ (g : Nat → Option Nat) (h : Nat → Int32) (H : Heap) (locs : List Loc) (ls : Array Slot), (∀ x, x < 4 → g x = none ∧ h x = nI 1) → jz_w D A H0 L (va_up (va_up f n (jo_eN (ct 1) g)) r (jo_eF (ct 0) h)) H locs → W p l e R s m args below meth c H locs cells slots Q (F0 m 27 ls [])) :
    ∀ (t i : Nat) (g : Nat → Option Nat) (h : Nat → Int32) (H : Heap) (locs : List Loc) (ls : Array Slot), 4 - i < t → i ≤ 4 → (∀ x, x < i → g x = none ∧ h x = nI 1) → jz_w D A H0 L (va_up (va_up f n (jo_eN (ct 1) g)) r (jo_eF (ct 0) h)) H locs → lv_has ls 2 [(0, .ref a), (1, .int (nI i))] → W p l e R s m args below meth c H locs cells slots Q (F0 m 2 ls []) := by
  intro t
  induction t with
  | zero => intro i g h H locs ls ht; exact absurd ht (Nat.not_lt_zero _)
  | succ t ih =>
    intro i g h H locs ls ht hi hg hw hl
    refine lv_iload_n hx hb dX0_makeBare_2 rfl (lv_at hl 1 rfl) ?_
    refine lv_iconst (v := nI 4) hx hb dX0_makeBare_3 (by decide) ?_
    refine lv_icmp_ge (tgt := 27) hx hb dX0_makeBare_4 (by decide) (fun hc => ?_) (fun hc => ?_)
    · have h4 : i = 4 := by
        rcases Nat.lt_or_ge i 4 with q | q
        · exact absurd (nI_lt q (by decide)) (Int32.not_lt.mpr hc)
        · omega
      subst h4
      exact kk g h H locs ls hg hw
    · have h4 : i < 4 := by
        rcases Nat.lt_or_ge i 4 with q | q
        · exact q
        · exact absurd (nI_le q (by omega)) hc
      refine lv_aload_n hx hb dX0_makeBare_7 rfl (lv_at hl 0 rfl) ?_
      refine gf_O_49 hx hb hown hts hG hw haL (by rw [va_up_ne _ _ har, va_up_ne _ _ han]; exact hfa) dX0_makeBare_8 ?_
      refine lv_iload_n hx hb dX0_makeBare_11 rfl (lv_at hl 1 rfl) ?_
      refine lv_null hx hb dX0_makeBare_12 ?_
      refine jx_astqI (v := none) (g := g) hx hb hG hw hnL 1 2 (by rw [va_up_ne _ _ hnr, va_up_self]) rfl (fun x q => by cases q) rfl h4 (by decide) dX0_makeBare_13 (fun H locs hw => ?_)
      rw [jz_uu2 hnr] at hw
      refine lv_aload_n hx hb dX0_makeBare_14 rfl (lv_at hl 0 rfl) ?_
      refine gf_O_59 hx hb hown hts hG hw haL (by rw [va_up_ne _ _ har, va_up_ne _ _ han]; exact hfa) dX0_makeBare_15 ?_
      refine lv_iload_n hx hb dX0_makeBare_18 rfl (lv_at hl 1 rfl) ?_
      refine lv_iconst (v := nI 1) hx hb dX0_makeBare_19 (by decide) ?_
      refine jx_iastI (g := h) hx hb hG hw hrL 0 (va_up_self _ _ _) rfl h4 (by decide) dX0_makeBare_20 (fun H locs hw => ?_)
      rw [bx_uu] at hw
      refine lv_iinc (v := nI (i + 1)) (lv' := [(1, .int (nI (i + 1))), (0, .ref a)]) hx hb dX0_makeBare_21 hl (k := 1) rfl (nI_succ i).symm (by decide) rfl (fun ls hl => ?_)
      refine lv_goto (tgt := 2) hx hb dX0_makeBare_24 (by decide) ?_
      refine ih (i + 1) (va_up g i none) (upd h i (nI 1)) H locs ls (by omega) (by omega) (fun x hx => ?_) hw (lv_sub hl [1, 0] rfl)
      by_cases q : x = i
      · rw [q, va_up_self, pk_us]; exact ⟨rfl, rfl⟩
      · rw [va_up_ne _ _ q, pk_un q]; exact hg x (by omega)
end MB
set_option maxHeartbeats 4000000 in
set_option maxRecDepth 100000 in
theorem c_makeBare (l : Launch) (D : va_G) (ct : Nat → ClassId) {L : List Nat} {f : Nat → va_E} {a n r : Nat} {v0 v1 v2 v5 v6 : Value} {g0 : Nat → Option Nat} {h0 : Nat → Int32} (haL : a ∈ L) (hnL : n ∈ L) (hrL : r ∈ L) (hfa : f a = .inr (2, [v0, v1, v2, .ref n, .ref r, v5, v6])) (hfn : f n = jo_eN (ct 1) g0) (hfr : f r = jo_eF (ct 0) h0) :
    jz_M l D ct yX0_makeBare cX0_makeBare 2 none ({ frames := 0, cells := 0, slots := 0, locals := 0 } : Room) [.ref a] L f (fun v L' f' => v = none ∧ L' = L ∧ ∃ (g : Nat → Option Nat) (h : Nat → Int32), (∀ x, x < 4 → g x = none ∧ h x = nI 1) ∧ f' = va_up (va_up f n (jo_eN (ct 1) g)) r (jo_eF (ct 0) h)) := by
  refine jx_enter (by decide) (Nat.le_of_ble_eq_true rfl) ?_
  intro p e s m below meth c C hw ls hl
  obtain ⟨hx, hb, hrt, hlk, hnm, hml, hown, hts, hG⟩ := C
  have hl : lv_has ls 2 [(0, .ref a)] := hl
  have han : a ≠ n := jo_ne hfa hfn (fun e => by cases e)
  have har : a ≠ r := jo_ne hfa hfr (fun e => by cases e)
  have hnr : n ≠ r := jo_ne hfn hfr (fun e => by injection e with e; injection e with _ e; injection e with _ e; cases e)
  have ef : va_up (va_up f n (jo_eN (ct 1) g0)) r (jo_eF (ct 0) h0) = f := by
    funext x
    by_cases q : x = r
    · rw [q, va_up_self, hfr]
    · rw [va_up_ne _ _ q]
      by_cases q2 : x = n
      · rw [q2, va_up_self, hfn]
      · rw [va_up_ne _ _ q2]
  have hw0 : jz_w D (va_A (va_pl L f) s.heap.size) s.heap L (va_up (va_up f n (jo_eN (ct 1) g0)) r (jo_eF (ct 0) h0)) s.heap [] := by rw [ef]; exact hw
  refine lv_iconst (v := nI 0) hx hb dX0_makeBare_0 (by decide) ?_
  refine lv_istore_n (lv' := [(1, .int (nI 0)), (0, .ref a)]) hx hb dX0_makeBare_1 rfl hl (by decide) rfl (fun ls hl => ?_)
  refine lp_makeBare hx hb hown hts hG haL hnL hrL hfa han har hnr (fun g h H locs ls hg hw => ?_) 5 0 g0 h0 _ _ ls (by decide) (by decide) (fun x q => absurd q (Nat.not_lt_zero _)) hw0 (lv_sub hl [1, 0] rfl)
  exact jx_vret hx hb hrt hlk hw (Nat.zero_le _) (Nat.zero_le _) dX0_makeBare_27 ⟨rfl, rfl, g, h, hg, rfl⟩
set_option maxHeartbeats 4000000 in
set_option maxRecDepth 100000 in
theorem c_placeOf (l : Launch) (D : va_G) (ct : Nat → ClassId) {L : List Nat} {f : Nat → va_E} {k : jK} {u : jS} {PS : List Nat} {cnt ps : Int32} {o hd pa hr i : Nat} {S : Nat → Option Nat} (hV : jo_V (ct 0) (ct 1) L f k u PS) (hoL : o ∈ L) (hfo : f o = jo_eO hd pa cnt hr ps) (hpL : pa ∈ L) (hfp : f pa = jo_eT (ct 1) S) (hi : i < 1000) (hS : ∀ a, S i = some a → a ∈ PS) :
    jz_M l D ct yX0_placeOf cX0_placeOf 3 (some (.object "JumpOrder$Place")) ({ frames := 1, cells := 0, slots := 0, locals := 20 } : Room) [.ref o, .int (nI i)] L f (fun v L' f' => ((∃ a, S i = some a ∧ ¬ u.2.1 a = 0 ∧ v = some (.ref a)) ∨ ((∀ a, S i = some a → u.2.1 a = 0) ∧ v = some .null)) ∧ L' = L ∧ f' = f) := by
  refine jx_enter (by decide) (Nat.le_of_ble_eq_true rfl) ?_
  intro p e s m below meth c C hw ls hl
  obtain ⟨hx, hb, hrt, hlk, hnm, hml, hown, hts, hG⟩ := C
  have hl : lv_has ls 3 [(0, .ref o), (1, .int (nI i))] := hl
  refine lv_iload_n hx hb dX0_placeOf_0 rfl (lv_at hl 1 rfl) ?_
  refine cl_O_31 (As := [.int (nI i)]) (rest := []) hx hb hml hown hts hG hw (c_isMember l D ct L f (nI i)) rfl ⟨Nat.le_of_ble_eq_true rfl, Nat.le_of_ble_eq_true rfl⟩ hl.1 rfl (Nat.le_of_ble_eq_true rfl) dX0_placeOf_1 ⟨Nat.le_of_ble_eq_true rfl, Nat.le_of_ble_eq_true rfl⟩ (fun v L' f' H1 locs1 hp hw hcf => ?_)
  obtain ⟨hv, eL, ef⟩ := hp
  rw [eL, ef] at hw
  have hv : v = some (.int 1) := hv.elim (fun q => q.2) (fun q => absurd ⟨nI_pos' (by omega), nI_lt hi (by decide)⟩ q.1)
  subst hv
  refine lv_if_eq (tgt := 16) hx hb dX0_placeOf_4 (by decide) (fun h => absurd h (by decide)) (fun _ => ?_)
  refine lv_aload_n hx hb dX0_placeOf_7 rfl (lv_at hl 0 rfl) ?_
  refine gf_O_20 hx hb hown hts hG hw hoL hfo dX0_placeOf_8 ?_
  refine lv_iload_n hx hb dX0_placeOf_11 rfl (lv_at hl 1 rfl) ?_
  refine jx_aldqI hx hb hG hw hpL 1 hfp rfl hi (by decide) dX0_placeOf_12 ?_
  refine lv_goto (tgt := 17) hx hb dX0_placeOf_13 (by decide) ?_
  refine jx_astore_nq (lv' := [(2, (va_rf (S i))), (0, .ref o), (1, .int (nI i))]) hx hb dX0_placeOf_17 rfl hl (by decide) rfl (fun ls hl => ?_)
  refine jx_aload_nq hx hb dX0_placeOf_18 rfl (lv_at hl 0 rfl) ?_
  refine jx_ifnullq (tgt := 33) hx hb dX0_placeOf_19 (by decide) (fun hnone => ?_) (fun a hsa => ?_)
  · refine lv_null hx hb dX0_placeOf_33 ?_
    exact jx_aret hx hb hrt (Or.inl rfl) hlk hw (Nat.le_refl _) (Nat.le_refl _) dX0_placeOf_34 ⟨Or.inr ⟨fun a q => (by rw [hnone] at q; cases q), rfl⟩, rfl, rfl⟩
  · have haP := hS a hsa
    have hl : lv_has ls 3 [(2, .ref a), (0, .ref o), (1, .int (nI i))] := by rw [hsa] at hl; exact hl
    refine lv_aload_n hx hb dX0_placeOf_22 rfl (lv_at hl 0 rfl) ?_
    refine gf_O_35 hx hb hown hts hG hw (hV.aL haP) (hV.a haP) dX0_placeOf_23 ?_
    refine lv_if_eq (tgt := 33) hx hb dX0_placeOf_26 (by decide) (fun hc => ?_) (fun hc => ?_)
    · refine lv_null hx hb dX0_placeOf_33 ?_
      exact jx_aret hx hb hrt (Or.inl rfl) hlk hw (Nat.le_refl _) (Nat.le_refl _) dX0_placeOf_34 ⟨Or.inr ⟨fun b q => (by rw [hsa] at q; cases q; exact hc), rfl⟩, rfl, rfl⟩
    · refine lv_aload_n hx hb dX0_placeOf_29 rfl (lv_at hl 0 rfl) ?_
      refine lv_goto (tgt := 34) hx hb dX0_placeOf_30 (by decide) ?_
      exact jx_aret hx hb hrt (Or.inr ⟨a, rfl⟩) hlk hw (Nat.le_refl _) (Nat.le_refl _) dX0_placeOf_34 ⟨Or.inl ⟨a, hsa, hc, rfl⟩, rfl, rfl⟩
section PR
variable {p : Program} {l : Launch} {e : Env} {R : Room} {s : State} {m : MethodId} {args : Array Value} {below : List Frame} {meth : Method} {c : Code} {H : Heap} {locs : List Loc} {cells slots : Nat} {Q : State → Prop} {D : va_G} {ct : Nat → ClassId} {A : Nat → Prop} {H0 : Heap} {L : List Nat}
variable {f0 : Nat → va_E} {k : jK} {u : jS} {PS ns : List Nat} {cnt : Int32} {o hd pa i : Nat}
set_option maxHeartbeats 4000000 in
set_option maxRecDepth 100000 in
theorem lp_placeOfRank (hx : p.tables.exec = Jvm.exec) (hb : c.code = cX0_placeOfRank) (hml : c.maxLocals = 3) (hown : s.vm.findClass RO = some m.cls) (hts : ∀ w ∈ jz_TT, w.before args s = true) (hG : jz_G D ct s) (hcs : cells ≤ R.cells ∧ slots ≤ R.slots) (hR : 0 + 1 ≤ R.frames ∧ 8 + (4 + 11) + 0 ≤ R.locals) (hV0 : jo_V (ct 0) (ct 1) L f0 k u PS) (hN : jo_N k PS o) (hoL : o ∈ L) (hPS : ∀ x ∈ ns, x ∈ PS) (hns : ns.length < 2 ^ 30) (hrow : ∀ r, r < 4 → jr_ok k.2.2.1 u.2.2.1 u.2.2.2 r ns) (hh1 : ∀ x ∈ ns, 1 ≤ k.2.2.1 x) (hi : i + 1 ≤ ns.length)
    (kk : ∀ (pre suf : List Nat) (hr : Nat) (H : Heap) (locs : List Loc) (ls : Array Slot), ns = pre ++ hr :: suf → pre.length = i → jz_w D A H0 L (va_up f0 o (jo_eO hd pa cnt hr (nI pre.length))) H locs → lv_has ls 3 [(0, .ref o)] → W p l e R s m args below meth c H locs cells slots Q (F0 m 38 ls [])) :
    ∀ (j : Nat) (pre suf : List Nat) (hr : Nat) (H : Heap) (locs : List Loc) (ls : Array Slot), j ≤ 4 → ns = pre ++ hr :: suf → j ≤ k.2.2.1 hr → pre.length < i + 1 → (j = 0 → pre.length = i) → jz_w D A H0 L (va_up f0 o (jo_eO hd pa cnt hr (nI pre.length))) H locs → lv_has ls 3 [(0, .ref o), (1, .int (nI i)), (2, .int (jz_row j))] → W p l e R s m args below meth c H locs cells slots Q (F0 m 20 ls []) := by
  intro j
  induction j with
  | zero =>
    intro pre suf hr H locs ls _ ens hh hpl h0 hw hl
    refine lv_iload_n hx hb dX0_placeOfRank_20 rfl (lv_at hl 2 rfl) ?_
    refine lv_if_lt (tgt := 38) hx hb dX0_placeOfRank_21 (by decide) (fun _ => ?_) (fun h => absurd (by decide) h)
    exact kk pre suf hr H locs ls ens (h0 rfl) hw (lv_sub hl [0] rfl)
  | succ j ih =>
    intro pre suf hr H locs ls hj4 ens hh hpl _ hw hl
    have hr4 : j < 4 := hj4
    have hl : lv_has ls 3 [(0, .ref o), (1, .int (nI i)), (2, .int (nI j))] := hl
    refine lv_iload_n hx hb dX0_placeOfRank_20 rfl (lv_at hl 2 rfl) ?_
    refine lv_if_lt (tgt := 38) hx hb dX0_placeOfRank_21 (by decide) (fun h => absurd h (nI_pos (by omega))) (fun _ => ?_)
    refine lv_aload_n hx hb dX0_placeOfRank_24 rfl (lv_at hl 0 rfl) ?_
    refine lv_iload_n hx hb dX0_placeOfRank_25 rfl (lv_at hl 2 rfl) ?_
    refine lv_iload_n hx hb dX0_placeOfRank_26 rfl (lv_at hl 1 rfl) ?_
    refine lv_iconst (v := nI 1) hx hb dX0_placeOfRank_27 (by decide) ?_
    refine lv_iadd hx hb dX0_placeOfRank_28 ?_
    rw [nI_add]
    refine cl_O_46 (As := [.int (nI j), .int (nI (i + 1))]) (rest := []) hx hb hml hown hts hG hw (c_goAheadOf l D ct hV0 hN hoL hr4 hPS hns hi (hrow j hr4) ens hh hpl) rfl hR hoL (va_up_self _ _ _) hl.1 rfl (Nat.le_of_ble_eq_true rfl) dX0_placeOfRank_29 hcs (fun v L' f' H1 locs1 hp hw hcf => ?_)
    obtain ⟨rfl, eL, pre, suf, hr, ens, ef, hh, hpl, hdst⟩ := hp
    rw [eL, ef] at hw
    refine lv_iinc (v := jz_row j) (lv' := [(2, .int (jz_row j)), (0, .ref o), (1, .int (nI i))]) hx hb dX0_placeOfRank_32 hl (k := 2) rfl (jz_row_pred j) (by decide) rfl (fun ls hl => ?_)
    refine lv_goto (tgt := 20) hx hb dX0_placeOfRank_35 (by decide) ?_
    refine ih pre suf hr _ _ ls (by omega) ens (by omega) hpl (fun h0 => ?_) hw (lv_sub hl [1, 2, 0] rfl)
    subst h0
    have hd1 : jr_dst k.2.2.1 0 suf = 1 := by
      cases suf with
      | nil => rfl
      | cons b t => exact jr_dst_at (hh1 b (by rw [ens]; simp))
    omega
end PR
set_option maxHeartbeats 4000000 in
set_option maxRecDepth 100000 in
theorem c_placeOfRank (l : Launch) (D : va_G) (ct : Nat → ClassId) {L : List Nat} {f0 : Nat → va_E} {k : jK} {u : jS} {PS ns qs : List Nat} {ps x : Int32} {o hd pa hr : Nat} (hV0 : jo_V (ct 0) (ct 1) L f0 k u PS) (hN : jo_N k PS o) (hoL : o ∈ L) (hPS : ∀ x ∈ ns, x ∈ PS) (hns : ns.length < 2 ^ 30) (hrow : ∀ r, r < 4 → jr_ok k.2.2.1 u.2.2.1 u.2.2.2 r ns) (hh1 : ∀ x ∈ ns, 1 ≤ k.2.2.1 x) (ens0 : ns = hd :: qs) (hht : k.2.2.1 hd = 4) :
    jz_M l D ct yX0_placeOfRank cX0_placeOfRank 3 (some (.object "JumpOrder$Place")) ({ frames := 1, cells := 0, slots := 0, locals := 23 } : Room) [.ref o, .int x] L (va_up f0 o (jo_eO hd pa (nI qs.length) hr ps)) (fun v L' f' => L' = L ∧ (∃ (hr' : Nat) (ps' : Int32), f' = va_up f0 o (jo_eO hd pa (nI qs.length) hr' ps')) ∧ ((∃ i a, x = nI i ∧ qs[i]? = some a ∧ v = some (.ref a)) ∨ ((x < 0 ∨ nI qs.length ≤ x) ∧ v = some .null))) := by
  refine jx_enter (by decide) (Nat.le_of_ble_eq_true rfl) ?_
  intro p e s m below meth c C hw ls hl
  obtain ⟨hx, hb, hrt, hlk, hnm, hml, hown, hts, hG⟩ := C
  have hl : lv_has ls 3 [(0, .ref o), (1, .int x)] := hl
  have hql : ns.length = qs.length + 1 := by rw [ens0]; rfl
  refine lv_iload_n hx hb dX0_placeOfRank_0 rfl (lv_at hl 1 rfl) ?_
  refine lv_if_lt (tgt := 12) hx hb dX0_placeOfRank_1 (by decide) (fun hx0 => ?_) (fun hx0 => ?_)
  · refine lv_null hx hb dX0_placeOfRank_12 ?_
    exact jx_aret hx hb hrt (Or.inl rfl) hlk hw (Nat.zero_le _) (Nat.zero_le _) dX0_placeOfRank_13 ⟨rfl, ⟨hr, ps, rfl⟩, Or.inr ⟨Or.inl hx0, rfl⟩⟩
  · refine lv_iload_n hx hb dX0_placeOfRank_4 rfl (lv_at hl 1 rfl) ?_
    refine lv_aload_n hx hb dX0_placeOfRank_5 rfl (lv_at hl 0 rfl) ?_
    refine gf_O_39 hx hb hown hts hG hw hoL (va_up_self _ _ _) dX0_placeOfRank_6 ?_
    refine lv_icmp_lt (tgt := 14) hx hb dX0_placeOfRank_9 (by decide) (fun hc => ?_) (fun hc => ?_)
    · obtain ⟨i, hi, rfl⟩ : ∃ i, i < qs.length ∧ x = nI i := by
        obtain ⟨i, h1, h2⟩ := nI_of hx0
        refine ⟨i, ?_, h2⟩
        rcases Nat.lt_or_ge i qs.length with q | q
        · exact q
        · exact absurd hc (by rw [h2]; exact nI_nlt q h1)
      refine lv_aload_n hx hb dX0_placeOfRank_14 rfl (lv_at hl 0 rfl) ?_
      refine cl_O_43 (As := []) (rest := []) hx hb hml hown hts hG hw (c_goToHead l D ct hoL (va_up_self _ _ _)) rfl ⟨Nat.le_of_ble_eq_true rfl, Nat.le_of_ble_eq_true rfl⟩ hoL (va_up_self _ _ _) hl.1 rfl (Nat.le_of_ble_eq_true rfl) dX0_placeOfRank_15 ⟨Nat.le_of_ble_eq_true rfl, Nat.le_of_ble_eq_true rfl⟩ (fun v L' f' H1 locs1 hp hw hcf => ?_)
      obtain ⟨rfl, eL, ef⟩ := hp
      rw [eL, ef, bx_uu] at hw
      refine lv_iconst (v := nI 3) hx hb dX0_placeOfRank_18 (by decide) ?_
      refine lv_istore_n (lv' := [(2, .int (nI 3)), (0, .ref o), (1, .int (nI i))]) hx hb dX0_placeOfRank_19 rfl hl (by decide) rfl (fun ls hl => ?_)
      refine lp_placeOfRank hx hb hml hown hts hG ⟨Nat.le_of_ble_eq_true rfl, Nat.le_of_ble_eq_true rfl⟩ ⟨Nat.le_of_ble_eq_true rfl, Nat.le_of_ble_eq_true rfl⟩ hV0 hN hoL hPS hns hrow hh1 (by omega) (fun pre suf hr H locs ls ens hpi hw hl => ?_) 4 [] qs hd _ _ ls (Nat.le_refl _) ens0 (by rw [hht]; exact Nat.le_refl _) (Nat.succ_pos _) (fun h => by cases h) hw (lv_sub hl [1, 2, 0] rfl)
      have hhr : hr ∈ PS := hPS _ (by rw [ens]; simp)
      have hh0 : 0 < k.2.2.1 hr := hh1 hr (by rw [ens]; simp)
      obtain ⟨b, t, rfl⟩ : ∃ b t, suf = b :: t := by
        cases suf with
        | nil => exfalso; have := congrArg List.length ens; simp at this; omega
        | cons b t => exact ⟨b, t, rfl⟩
      have hb0 : 0 < k.2.2.1 b := hh1 b (by rw [ens]; simp)
      have e1 := (jr_atE (hrow 0 (by decide)) ens hh0).1
      rw [jr_fst_at hb0] at e1
      have hqi : qs[i]? = some b := by
        have q : (hd :: qs)[i + 1]? = some b := by
          rw [← ens0, ens, List.getElem?_append_right (by omega), show i + 1 - pre.length = 1 by omega]
          rfl
        simpa using q
      refine lv_aload_n hx hb dX0_placeOfRank_38 rfl (lv_at hl 0 rfl) ?_
      refine gf_O_24 hx hb hown hts hG hw hoL (va_up_self _ _ _) dX0_placeOfRank_39 ?_
      refine gf_O_49 hx hb hown hts hG hw ((hV0.up (e := jo_eO hd pa (nI qs.length) hr (nI pre.length)) hN).aL hhr) ((hV0.up (e := jo_eO hd pa (nI qs.length) hr (nI pre.length)) hN).a hhr) dX0_placeOfRank_42 ?_
      refine lv_iconst (v := nI 0) hx hb dX0_placeOfRank_45 (by decide) ?_
      refine jx_aldqI hx hb hG hw ((hV0.up (e := jo_eO hd pa (nI qs.length) hr (nI pre.length)) hN).nL hhr) 1 ((hV0.up (e := jo_eO hd pa (nI qs.length) hr (nI pre.length)) hN).n hhr) rfl (by decide) (by decide) dX0_placeOfRank_46 ?_
      rw [e1]
      exact jx_aret hx hb hrt (Or.inr ⟨b, rfl⟩) hlk hw (Nat.le_refl _) (Nat.le_refl _) dX0_placeOfRank_47 ⟨rfl, ⟨hr, _, rfl⟩, Or.inl ⟨i, b, rfl, hqi, rfl⟩⟩
    · refine lv_null hx hb dX0_placeOfRank_12 ?_
      exact jx_aret hx hb hrt (Or.inl rfl) hlk hw (Nat.zero_le _) (Nat.zero_le _) dX0_placeOfRank_13 ⟨rfl, ⟨hr, ps, rfl⟩, Or.inr ⟨Or.inr (Int32.not_lt.mp hc), rfl⟩⟩
end
section
/-! the order of keys -/
def jz_wd (m : Nat) : Nat := if m < 10 then m * 400 + 1 else if m < 100 then m * 40 + 2 else m * 4 + 3
theorem jz_word_nI {m : Nat} (h : m < 1000) : jz_word (nI m) = nI (jz_wd m) := by
  unfold jz_word jz_wd
  show (if nI m < nI 10 then nI m * 100 * 4 + 1 else if nI m < nI 100 then nI m * 10 * 4 + 2 else nI m * 4 + 3) = _
  by_cases h1 : m < 10
  · rw [if_pos h1, if_pos (nI_lt h1 (by decide))]
    show nI m * nI 100 * nI 4 + nI 1 = _
    rw [pk_mul, pk_mul, nI_add]
    congr 1
    omega
  · rw [if_neg h1, if_neg (nI_nlt (Nat.not_lt.mp h1) (by omega))]
    by_cases h2 : m < 100
    · rw [if_pos h2, if_pos (nI_lt h2 (by decide))]
      show nI m * nI 10 * nI 4 + nI 2 = _
      rw [pk_mul, pk_mul, nI_add]
      congr 1
      omega
    · rw [if_neg h2, if_neg (nI_nlt (Nat.not_lt.mp h2) (by omega))]
      show nI m * nI 4 + nI 3 = _
      rw [pk_mul, nI_add]
theorem jz_wd_lt {m : Nat} (h : m < 1000) : 0 < jz_wd m ∧ jz_wd m < 4000 := by
  unfold jz_wd
  split
  · omega
  · split <;> omega
theorem jz_wd_inj {m n : Nat} (hm : m < 1000) (hn : n < 1000) (h : jz_wd m = jz_wd n) : m = n := by
  unfold jz_wd at h
  split at h <;> split at h <;> (try split at h) <;> (try split at h) <;> omega
theorem jz_ah_irr {s : Int64} {w : Int32} : ¬ jz_ah s w s w := fun h => h.elim (fun q => Int64.lt_irrefl q) (fun q => Int32.lt_irrefl q.2)
theorem jz_ah_trans {s1 s2 s3 : Int64} {w1 w2 w3 : Int32} (h1 : jz_ah s1 w1 s2 w2) (h2 : jz_ah s2 w2 s3 w3) : jz_ah s1 w1 s3 w3 := by
  rcases h1 with h1 | ⟨h1, g1⟩
  · rcases h2 with h2 | ⟨h2, g2⟩
    · exact Or.inl (Int64.lt_trans h1 h2)
    · exact Or.inl (h2 ▸ h1)
  · rcases h2 with h2 | ⟨h2, g2⟩
    · exact Or.inl (h1 ▸ h2)
    · exact Or.inr ⟨h1.trans h2, Int32.lt_trans g1 g2⟩
theorem jz_ah_tot {s1 s2 : Int64} {w1 w2 : Int32} (h : ¬ jz_ah s1 w1 s2 w2) (hn : ¬ w1 = w2) : jz_ah s2 w2 s1 w1 := by
  rcases Int64.lt_or_le s1 s2 with q | q
  · exact absurd (Or.inl q) h
  · rcases Int64.lt_or_eq_of_le q with q | q
    · exact Or.inl q
    · refine Or.inr ⟨q, ?_⟩
      rcases Int32.lt_or_le w1 w2 with g | g
      · exact absurd (Or.inr ⟨q.symm, g⟩) h
      · rcases Int32.lt_or_eq_of_le g with g | g
        · exact g
        · exact absurd g.symm hn
/-- a member with its score ahead of another -/
def jz_lt (x y : Nat × Int64) : Prop := jz_ah x.2 (jz_word (nI x.1)) y.2 (jz_word (nI y.1))
/-- a sorted list is cut by a key -/
theorem jz_cutBy {A : List (Nat × Int64)} (hs : A.Pairwise jz_lt) (sc : Int64) (wd : Int32) : ∃ A1 A2, A = A1 ++ A2 ∧ (∀ x ∈ A1, jz_ah x.2 (jz_word (nI x.1)) sc wd) ∧ ∀ x ∈ A2, ¬ jz_ah x.2 (jz_word (nI x.1)) sc wd := by
  induction A with
  | nil => exact ⟨[], [], rfl, fun x h => absurd h List.not_mem_nil, fun x h => absurd h List.not_mem_nil⟩
  | cons y t ih =>
    obtain ⟨h1, h2⟩ := List.pairwise_cons.mp hs
    by_cases hy : jz_ah y.2 (jz_word (nI y.1)) sc wd
    · obtain ⟨A1, A2, e, g1, g2⟩ := ih h2
      refine ⟨y :: A1, A2, by rw [e]; rfl, fun x hx => ?_, g2⟩
      rcases List.mem_cons.mp hx with q | q
      · rw [q]; exact hy
      · exact g1 x q
    · refine ⟨[], y :: t, rfl, fun x h => absurd h List.not_mem_nil, fun x hx => ?_⟩
      rcases List.mem_cons.mp hx with q | q
      · rw [q]; exact hy
      · exact fun g => hy (jz_ah_trans (h1 x q) g)
/-- what an order holds: qs the places that are in, in their order; As the members with their scores; of places in ex nothing is said of isIn -/
def jo_Ok (ex : Nat → Prop) (N : Nat) (k : jK) (u : jS) (PS : List Nat) (hd : Nat) (qs : List Nat) (S : Nat → Option Nat) (As : List (Nat × Int64)) : Prop :=
  (hd ∈ PS ∧ k.2.2.1 hd = 4) ∧ (hd :: qs).Nodup ∧ (∀ a ∈ qs, a ∈ PS) ∧ (∀ r, r < 4 → jr_ok k.2.2.1 u.2.2.1 u.2.2.2 r (hd :: qs)) ∧ qs.length ≤ N ∧
  (∀ a ∈ PS, a ≠ hd → ∃ m, m < 1000 ∧ S m = some a ∧ k.1 a = nI m ∧ k.2.1 a = jz_word (nI m) ∧ 1 ≤ k.2.2.1 a ∧ k.2.2.1 a ≤ 4 ∧ (ex a ∨ u.2.1 a = 1 ∧ a ∈ qs ∨ u.2.1 a = 0 ∧ a ∉ qs)) ∧
  (∀ m a, m < 1000 → S m = some a → a ∈ PS ∧ a ≠ hd ∧ k.1 a = nI m) ∧
  As = qs.map (fun a => ((k.1 a).toNatClampNeg, u.1 a)) ∧ As.Pairwise jz_lt
section OK
variable {ex : Nat → Prop} {N : Nat} {k : jK} {u : jS} {PS : List Nat} {hd : Nat} {qs : List Nat} {S : Nat → Option Nat} {As : List (Nat × Int64)}
theorem jo_Ok.rows (h : jo_Ok ex N k u PS hd qs S As) : ∀ r, r < 4 → jr_ok k.2.2.1 u.2.2.1 u.2.2.2 r (hd :: qs) := h.2.2.2.1
theorem jo_Ok.len (h : jo_Ok ex N k u PS hd qs S As) : qs.length ≤ N := h.2.2.2.2.1
theorem jo_Ok.six (h : jo_Ok ex N k u PS hd qs S As) : ∀ a ∈ PS, a ≠ hd → ∃ m, m < 1000 ∧ S m = some a ∧ k.1 a = nI m ∧ k.2.1 a = jz_word (nI m) ∧ 1 ≤ k.2.2.1 a ∧ k.2.2.1 a ≤ 4 ∧ (ex a ∨ u.2.1 a = 1 ∧ a ∈ qs ∨ u.2.1 a = 0 ∧ a ∉ qs) := h.2.2.2.2.2.1
theorem jo_Ok.tab (h : jo_Ok ex N k u PS hd qs S As) : ∀ m a, m < 1000 → S m = some a → a ∈ PS ∧ a ≠ hd ∧ k.1 a = nI m := h.2.2.2.2.2.2.1
theorem jo_Ok.eqA (h : jo_Ok ex N k u PS hd qs S As) : As = qs.map (fun a => ((k.1 a).toNatClampNeg, u.1 a)) := h.2.2.2.2.2.2.2.1
theorem jo_Ok.sorted (h : jo_Ok ex N k u PS hd qs S As) : As.Pairwise jz_lt := h.2.2.2.2.2.2.2.2
theorem jo_Ok.lenA (h : jo_Ok ex N k u PS hd qs S As) : As.length = qs.length := by rw [h.eqA, List.length_map]
theorem jo_Ok.nhd (h : jo_Ok ex N k u PS hd qs S As) {a : Nat} (ha : a ∈ qs) : a ≠ hd := fun q => (List.nodup_cons.mp h.2.1).1 (q ▸ ha)
theorem jo_Ok.sub (h : jo_Ok ex N k u PS hd qs S As) : ∀ x ∈ hd :: qs, x ∈ PS := fun x hx => by
  rcases List.mem_cons.mp hx with q | q
  · rw [q]; exact h.1.1
  · exact h.2.2.1 x q
theorem jo_Ok.h1 (h : jo_Ok ex N k u PS hd qs S As) : ∀ x ∈ hd :: qs, 1 ≤ k.2.2.1 x := fun x hx => by
  rcases List.mem_cons.mp hx with q | q
  · rw [q, h.1.2]; decide
  · obtain ⟨m, -, -, -, -, g, -⟩ := h.six x (h.2.2.1 x q) (h.nhd q)
    exact g
theorem jo_Ok.mem (h : jo_Ok ex N k u PS hd qs S As) {a : Nat} (ha : a ∈ qs) : ∃ m, m < 1000 ∧ S m = some a ∧ k.1 a = nI m ∧ k.2.1 a = jz_word (nI m) ∧ (k.1 a).toNatClampNeg = m := by
  obtain ⟨m, h1, h2, h3, h4, -⟩ := h.six a (h.2.2.1 a ha) (h.nhd ha)
  exact ⟨m, h1, h2, h3, h4, by rw [h3]; exact nI_clamp (by omega)⟩
theorem jo_Ok.weaken (h : jo_Ok (fun _ => False) N k u PS hd qs S As) : jo_Ok ex N k u PS hd qs S As := by
  refine ⟨h.1, h.2.1, h.2.2.1, h.rows, h.len, fun a ha hn => ?_, h.tab, h.eqA, h.sorted⟩
  obtain ⟨m, h1, h2, h3, h4, h5, h6, h7⟩ := h.six a ha hn
  exact ⟨m, h1, h2, h3, h4, h5, h6, h7.elim (fun q => q.elim) Or.inr⟩
/-- the places cut by a key -/
theorem jo_Ok.cut (h : jo_Ok ex N k u PS hd qs S As) (sc : Int64) (wd : Int32) : ∃ p1 p2, qs = p1 ++ p2 ∧ (∀ x ∈ p1, jz_ah (u.1 x) (k.2.1 x) sc wd) ∧ (∀ x ∈ p2, ¬ jz_ah (u.1 x) (k.2.1 x) sc wd) := by
  obtain ⟨A1, A2, e, g1, g2⟩ := jz_cutBy h.sorted sc wd
  rw [h.eqA] at e
  obtain ⟨p1, p2, e1, e2, e3⟩ := List.map_eq_append_iff.mp e
  have key : ∀ x ∈ qs, (jz_ah (u.1 x) (jz_word (nI (k.1 x).toNatClampNeg)) sc wd ↔ jz_ah (u.1 x) (k.2.1 x) sc wd) := fun x hx => by
    obtain ⟨m, -, -, -, h4, h5⟩ := h.mem hx
    rw [h4, h5]
  refine ⟨p1, p2, e1, fun x hx => ?_, fun x hx => ?_⟩
  · have hm : ((k.1 x).toNatClampNeg, u.1 x) ∈ A1 := by
      rw [← e2]
      exact List.mem_map.mpr ⟨x, hx, rfl⟩
    have hq : x ∈ qs := by rw [e1]; simp [hx]
    exact (key x hq).mp (g1 _ hm)
  · have hm : ((k.1 x).toNatClampNeg, u.1 x) ∈ A2 := by
      rw [← e3]
      exact List.mem_map.mpr ⟨x, hx, rfl⟩
    have hq : x ∈ qs := by rw [e1]; simp [hx]
    exact fun q => g2 _ hm ((key x hq).mpr q)
/-- where the member comes in -/
def jz_insR (As : List (Nat × Int64)) (i : Nat) (sc : Int64) (As' : List (Nat × Int64)) : Prop := ∃ A1 A2, As = A1 ++ A2 ∧ As' = A1 ++ (i, sc) :: A2 ∧ (∀ x ∈ A1, jz_lt x (i, sc)) ∧ ∀ x ∈ A2, jz_lt (i, sc) x
def jz_delR (As : List (Nat × Int64)) (i : Nat) (As' : List (Nat × Int64)) : Prop := ∃ A1 A2 s, As = A1 ++ (i, s) :: A2 ∧ As' = A1 ++ A2
theorem jz_word_ne {m n : Nat} (hm : m < 1000) (hn : n < 1000) (h : m ≠ n) : ¬ jz_word (nI m) = jz_word (nI n) := fun q => by
  rw [jz_word_nI hm, jz_word_nI hn] at q
  exact h (jz_wd_inj hm hn ((nI_eq (by have := (jz_wd_lt hm).2; omega) (by have := (jz_wd_lt hn).2; omega)).mp q))
theorem jo_Ok.ins {i a : Nat} {sc : Int64} (h : jo_Ok (fun x => x = a) N k u PS hd qs S As) (hi : i < 1000) (hSi : S i = some a) (haq : a ∉ qs) (hsc : u.1 a = sc) (hin : u.2.1 a = 1) :
    ∃ p1 p2, qs = p1 ++ p2 ∧ (∀ x ∈ p1, jz_ah (u.1 x) (k.2.1 x) (u.1 a) (k.2.1 a)) ∧ (∀ x ∈ p2, ¬ jz_ah (u.1 x) (k.2.1 x) (u.1 a) (k.2.1 a)) ∧ ∀ u' : jS, u'.1 = u.1 → u'.2.1 = u.2.1 → (∀ r, r < 4 → jr_ok k.2.2.1 u'.2.2.1 u'.2.2.2 r (hd :: (p1 ++ a :: p2))) →
      ∃ As', jz_insR As i sc As' ∧ jo_Ok (fun _ => False) (N + 1) k u' PS hd (p1 ++ a :: p2) S As' := by
  obtain ⟨haP, hah, hka⟩ := h.tab i a hi hSi
  obtain ⟨i', hi', hSi', hka', hwa, hh1, hh4, -⟩ := h.six a haP hah
  have eii : i' = i := (nI_eq (by omega) (by omega)).mp (hka'.symm.trans hka)
  subst eii
  have hcl : (k.1 a).toNatClampNeg = i' := by rw [hka]; exact nI_clamp (by omega)
  obtain ⟨p1, p2, e, g1, g2⟩ := h.cut (u.1 a) (k.2.1 a)
  refine ⟨p1, p2, e, g1, g2, fun u' eS eI hrow => ?_⟩
  have hlt1 : ∀ x ∈ p1, jz_lt ((k.1 x).toNatClampNeg, u.1 x) (i', sc) := fun x hx => by
    obtain ⟨m, -, -, -, h4, h5⟩ := h.mem (show x ∈ qs by rw [e]; simp [hx])
    have := g1 x hx
    rw [hwa, h4, hsc] at this
    show jz_ah (u.1 x) (jz_word (nI (k.1 x).toNatClampNeg)) sc (jz_word (nI i'))
    rw [h5]
    exact this
  have hlt2 : ∀ x ∈ p2, jz_lt (i', sc) ((k.1 x).toNatClampNeg, u.1 x) := fun x hx => by
    have hxq : x ∈ qs := by rw [e]; simp [hx]
    obtain ⟨m, hm, hSm, -, h4, h5⟩ := h.mem hxq
    have hne : m ≠ i' := fun q => haq (by rw [q, hSi] at hSm; cases hSm; exact hxq)
    have := g2 x hx
    rw [hwa, h4, hsc] at this
    show jz_ah sc (jz_word (nI i')) (u.1 x) (jz_word (nI (k.1 x).toNatClampNeg))
    rw [h5]
    exact jz_ah_tot this (jz_word_ne hm hi hne)
  have eA := h.eqA
  rw [e, List.map_append] at eA
  refine ⟨p1.map (fun a => ((k.1 a).toNatClampNeg, u.1 a)) ++ (i', sc) :: p2.map (fun a => ((k.1 a).toNatClampNeg, u.1 a)), ⟨_, _, eA, rfl, fun x hx => ?_, fun x hx => ?_⟩, h.1, ?_, ?_, hrow, ?_, ?_, h.tab, ?_, ?_⟩
  · obtain ⟨y, hy, rfl⟩ := List.mem_map.mp hx
    exact hlt1 y hy
  · obtain ⟨y, hy, rfl⟩ := List.mem_map.mp hx
    exact hlt2 y hy
  · have hn := h.2.1
    rw [e] at hn
    have hp : (hd :: (p1 ++ a :: p2)).Perm (a :: hd :: (p1 ++ p2)) := (List.Perm.cons hd List.perm_middle).trans (List.Perm.swap a hd _)
    rw [hp.nodup_iff, List.nodup_cons]
    refine ⟨fun q => ?_, hn⟩
    rcases List.mem_cons.mp q with q | q
    · exact hah q
    · exact haq (by rw [e]; exact q)
  · intro x hx
    rcases List.mem_append.mp hx with q | q
    · exact h.2.2.1 x (by rw [e]; simp [q])
    · rcases List.mem_cons.mp q with q | q
      · rw [q]; exact haP
      · exact h.2.2.1 x (by rw [e]; simp [q])
  · have := h.len
    rw [e] at this
    simp only [List.length_append, List.length_cons] at this ⊢
    omega
  · intro x hx hxn
    obtain ⟨m, h1, h2, h3, h4, h5, h6, h7⟩ := h.six x hx hxn
    refine ⟨m, h1, h2, h3, h4, h5, h6, Or.inr ?_⟩
    rw [eI]
    by_cases q : x = a
    · rw [q]
      exact Or.inl ⟨hin, by simp⟩
    · rcases h7 with z | ⟨z1, z2⟩ | ⟨z1, z2⟩
      · exact absurd z q
      · rw [e] at z2
        refine Or.inl ⟨z1, ?_⟩
        rcases List.mem_append.mp z2 with w | w
        · simp [w]
        · simp [w]
      · rw [e] at z2
        refine Or.inr ⟨z1, fun w => ?_⟩
        rcases List.mem_append.mp w with w | w
        · exact z2 (by simp [w])
        · rcases List.mem_cons.mp w with w | w
          · exact q w
          · exact z2 (by simp [w])
  · rw [List.map_append, List.map_cons, eS, hcl, hsc]
  · have hs := h.sorted
    rw [eA, List.pairwise_append] at hs
    rw [List.pairwise_append, List.pairwise_cons]
    refine ⟨hs.1, ⟨fun x hx => ?_, hs.2.1⟩, fun x hx y hy => ?_⟩
    · obtain ⟨z, hz, rfl⟩ := List.mem_map.mp hx
      exact hlt2 z hz
    · obtain ⟨z, hz, rfl⟩ := List.mem_map.mp hx
      rcases List.mem_cons.mp hy with q | q
      · rw [q]; exact hlt1 z hz
      · exact hs.2.2 _ hx y q
theorem jo_Ok.del {i a : Nat} (h : jo_Ok (fun _ => False) N k u PS hd qs S As) (hi : i < 1000) (hSi : S i = some a) (haq : a ∈ qs) :
    ∃ p1 p2, qs = p1 ++ a :: p2 ∧ (∀ x ∈ p1, jz_ah (u.1 x) (k.2.1 x) (u.1 a) (k.2.1 a)) ∧ (∀ x ∈ a :: p2, ¬ jz_ah (u.1 x) (k.2.1 x) (u.1 a) (k.2.1 a)) ∧ ∀ u' : jS, (∀ x, x ≠ a → u'.1 x = u.1 x ∧ u'.2.1 x = u.2.1 x) → (∀ r, r < 4 → jr_ok k.2.2.1 u'.2.2.1 u'.2.2.2 r (hd :: (p1 ++ p2))) →
      ∃ As', jz_delR As i As' ∧ a ∉ p1 ++ p2 ∧ jo_Ok (fun x => x = a) N k u' PS hd (p1 ++ p2) S As' ∧ (u'.2.1 a = 0 → jo_Ok (fun _ => False) N k u' PS hd (p1 ++ p2) S As') := by
  obtain ⟨p1, p2, e⟩ := List.append_of_mem haq
  have hka := (h.tab i a hi hSi).2.2
  have hcl : (k.1 a).toNatClampNeg = i := by rw [hka]; exact nI_clamp (by omega)
  have hs := h.sorted
  rw [h.eqA, e, List.map_append, List.map_cons, List.pairwise_append, List.pairwise_cons] at hs
  have key : ∀ x ∈ qs, jz_word (nI (k.1 x).toNatClampNeg) = k.2.1 x := fun x hx => by
    obtain ⟨m, -, -, -, h4, h5⟩ := h.mem hx
    rw [h4, h5]
  have hn := h.2.1
  rw [e] at hn
  have hp : (hd :: (p1 ++ a :: p2)).Perm (a :: hd :: (p1 ++ p2)) := (List.Perm.cons hd List.perm_middle).trans (List.Perm.swap a hd _)
  rw [hp.nodup_iff, List.nodup_cons] at hn
  have hanot : a ∉ p1 ++ p2 := fun q => hn.1 (List.mem_cons_of_mem _ q)
  refine ⟨p1, p2, e, fun x hx => ?_, fun x hx => ?_, fun u' hu hrow => ?_⟩
  · have h1 := hs.2.2 _ (List.mem_map.mpr ⟨x, hx, rfl⟩) _ List.mem_cons_self
    have h2 : jz_ah (u.1 x) (jz_word (nI (k.1 x).toNatClampNeg)) (u.1 a) (jz_word (nI (k.1 a).toNatClampNeg)) := h1
    rw [key x (by rw [e]; simp [hx]), key a haq] at h2
    exact h2
  · rcases List.mem_cons.mp hx with q | q
    · rw [q]; exact jz_ah_irr
    · have h1 := hs.2.1.1 _ (List.mem_map.mpr ⟨x, q, rfl⟩)
      have h2 : jz_ah (u.1 a) (jz_word (nI (k.1 a).toNatClampNeg)) (u.1 x) (jz_word (nI (k.1 x).toNatClampNeg)) := h1
      rw [key x (by rw [e]; simp [q]), key a haq] at h2
      exact fun z => jz_ah_irr (jz_ah_trans h2 z)
  · have emap : ∀ l : List Nat, a ∉ l → l.map (fun a => ((k.1 a).toNatClampNeg, u'.1 a)) = l.map (fun a => ((k.1 a).toNatClampNeg, u.1 a)) := fun l hl => List.map_congr_left (fun x hx => by rw [(hu x (fun q => hl (q ▸ hx))).1])
    have main : ∀ ex : Nat → Prop, (∀ x, x = a → ex x ∨ u'.2.1 x = 0) → jo_Ok ex N k u' PS hd (p1 ++ p2) S (p1.map (fun a => ((k.1 a).toNatClampNeg, u.1 a)) ++ p2.map (fun a => ((k.1 a).toNatClampNeg, u.1 a))) := fun ex hex => by
      refine ⟨h.1, hn.2, fun x hx => ?_, hrow, ?_, fun x hx hxn => ?_, h.tab, ?_, ?_⟩
      · rcases List.mem_append.mp hx with q | q
        · exact h.2.2.1 x (by rw [e]; simp [q])
        · exact h.2.2.1 x (by rw [e]; simp [q])
      · have := h.len
        rw [e] at this
        simp only [List.length_append, List.length_cons] at this ⊢
        omega
      · obtain ⟨m, h1, h2, h3, h4, h5, h6, h7⟩ := h.six x hx hxn
        refine ⟨m, h1, h2, h3, h4, h5, h6, ?_⟩
        by_cases q : x = a
        · rcases hex x q with z | z
          · exact Or.inl z
          · exact Or.inr (Or.inr ⟨z, by rw [q]; exact hanot⟩)
        · right
          rw [(hu x q).2]
          rcases h7 with z | ⟨z1, z2⟩ | ⟨z1, z2⟩
          · exact z.elim
          · rw [e] at z2
            refine Or.inl ⟨z1, ?_⟩
            rcases List.mem_append.mp z2 with w | w
            · simp [w]
            · rcases List.mem_cons.mp w with w | w
              · exact absurd w q
              · simp [w]
          · rw [e] at z2
            refine Or.inr ⟨z1, fun w => z2 ?_⟩
            rcases List.mem_append.mp w with w | w
            · simp [w]
            · simp [w]
      · rw [emap _ hanot, List.map_append]
      · rw [List.pairwise_append]
        exact ⟨hs.1, hs.2.1.2, fun x hx y hy => hs.2.2 x hx y (List.mem_cons_of_mem _ hy)⟩
    refine ⟨_, ⟨p1.map (fun a => ((k.1 a).toNatClampNeg, u.1 a)), p2.map (fun a => ((k.1 a).toNatClampNeg, u.1 a)), u.1 a, ?_, rfl⟩, hanot, main _ (fun x q => Or.inl q), fun z => main _ (fun x q => Or.inr (by rw [q]; exact z))⟩
    rw [h.eqA, e, List.map_append, List.map_cons, hcl]
end OK
end
section
theorem jz_self {f : Nat → va_E} {o : Nat} {e : va_E} (h : f o = e) : va_up f o e = f := by
  funext x
  by_cases q : x = o
  · rw [q, va_up_self, h]
  · rw [va_up_ne _ _ q]
theorem jr_fst_ht {ht ht' : Nat → Nat} {r : Nat} {t : List Nat} (h : ∀ x ∈ t, ht' x = ht x) : jr_fst ht' r t = jr_fst ht r t := by
  induction t with
  | nil => rfl
  | cons b u ih =>
    show (if r < ht' b then some b else jr_fst ht' r u) = (if r < ht b then some b else jr_fst ht r u)
    rw [h b List.mem_cons_self, ih (fun x hx => h x (List.mem_cons_of_mem _ hx))]
theorem jr_dst_ht {ht ht' : Nat → Nat} {r : Nat} {t : List Nat} (h : ∀ x ∈ t, ht' x = ht x) : jr_dst ht' r t = jr_dst ht r t := by
  induction t with
  | nil => rfl
  | cons b u ih =>
    show (if r < ht' b then 1 else jr_dst ht' r u + 1) = (if r < ht b then 1 else jr_dst ht r u + 1)
    rw [h b List.mem_cons_self, ih (fun x hx => h x (List.mem_cons_of_mem _ hx))]
theorem jr_ok_ht {ht ht' : Nat → Nat} {NX NX' : Nat → Nat → Option Nat} {FR FR' : Nat → Nat → Int32} {r : Nat} {ns : List Nat} (h : jr_ok ht NX FR r ns) (e : ∀ a ∈ ns, ht' a = ht a ∧ NX' a = NX a ∧ FR' a = FR a) : jr_ok ht' NX' FR' r ns := by
  induction ns with
  | nil => trivial
  | cons y u ih =>
    have et : ∀ x ∈ u, ht' x = ht x := fun x hx => (e x (List.mem_cons_of_mem _ hx)).1
    refine ⟨fun hy => ?_, ih h.2 (fun a ha => e a (List.mem_cons_of_mem _ ha))⟩
    obtain ⟨e1, e2, e3⟩ := e y List.mem_cons_self
    rw [e2, e3, jr_fst_ht et, jr_dst_ht et]
    exact h.1 (e1 ▸ hy)
/-- the places with a new one -/
abbrev jo_kG (k : jK) (a : Nat) (mv wv : Int32) (h n r : Nat) : jK := (va_up k.1 a mv, va_up k.2.1 a wv, va_up k.2.2.1 a h, va_up k.2.2.2.1 a n, va_up k.2.2.2.2 a r)
abbrev jo_uG (u : jS) (a : Nat) (s0 : Int64) (i0 : Int32) (g0 : Nat → Option Nat) (h0 : Nat → Int32) : jS := (va_up u.1 a s0, va_up u.2.1 a i0, va_up u.2.2.1 a g0, va_up u.2.2.2 a h0)
theorem jo_V.grow {cI cP : ClassId} {L L' : List Nat} {f f' : Nat → va_E} {k : jK} {u : jS} {PS : List Nat} {a n r h : Nat} {mv wv i0 : Int32} {s0 : Int64} {g0 : Nat → Option Nat} {h0 : Nat → Int32} (hV : jo_V cI cP L f k u PS) (ha : a ∉ L) (hn : n ∉ L) (hr : r ∉ L) (hL : ∀ q ∈ L, q ∈ L') (haL : a ∈ L') (hnL : n ∈ L') (hrL : r ∈ L') (hold : ∀ q ∈ L, ¬ jo_N k PS q → f' q = f q)
    (fa : f' a = .inr (2, [.int mv, .int wv, .int (nI h), .ref n, .ref r, .long s0, .int i0])) (fn : f' n = jo_eN cP g0) (fr : f' r = jo_eF cI h0) : jo_V cI cP L' f' (jo_kG k a mv wv h n r) (jo_uG u a s0 i0 g0 h0) (PS ++ [a]) := by
  have hne : ∀ b ∈ PS, b ≠ a := fun b hb q => ha (q ▸ hV.aL hb)
  refine ⟨fun b hb => ?_, fun b hb d hd e => ?_, fun b hb d hd e => ?_⟩
  · rcases List.mem_append.mp hb with hb | hb
    · have q := hne b hb
      have e4 : (jo_kG k a mv wv h n r).2.2.2.1 b = k.2.2.2.1 b := va_up_ne _ _ q
      have e5 : (jo_kG k a mv wv h n r).2.2.2.2 b = k.2.2.2.2 b := va_up_ne _ _ q
      rw [e4, e5]
      refine ⟨hL _ (hV.aL hb), hL _ (hV.nL hb), hL _ (hV.fL hb), ?_, ?_, ?_⟩
      · rw [hold b (hV.aL hb) (fun z => (z b hb).1 rfl), hV.a hb]
        show jo_eP k u b = .inr (2, [.int (va_up k.1 a mv b), .int (va_up k.2.1 a wv b), .int (nI (va_up k.2.2.1 a h b)), .ref (va_up k.2.2.2.1 a n b), .ref (va_up k.2.2.2.2 a r b), .long (va_up u.1 a s0 b), .int (va_up u.2.1 a i0 b)])
        rw [va_up_ne _ _ q, va_up_ne _ _ q, va_up_ne _ _ q, va_up_ne _ _ q, va_up_ne _ _ q, va_up_ne _ _ q, va_up_ne _ _ q]
      · rw [hold _ (hV.nL hb) (fun z => (z b hb).2.1 rfl), hV.n hb]
        show jo_eN cP (u.2.2.1 b) = jo_eN cP (va_up u.2.2.1 a g0 b)
        rw [va_up_ne _ _ q]
      · rw [hold _ (hV.fL hb) (fun z => (z b hb).2.2 rfl), hV.r hb]
        show jo_eF cI (u.2.2.2 b) = jo_eF cI (va_up u.2.2.2 a h0 b)
        rw [va_up_ne _ _ q]
    · have q : b = a := List.mem_singleton.mp hb
      subst q
      have e4 : (jo_kG k b mv wv h n r).2.2.2.1 b = n := va_up_self _ _ _
      have e5 : (jo_kG k b mv wv h n r).2.2.2.2 b = r := va_up_self _ _ _
      rw [e4, e5]
      refine ⟨haL, hnL, hrL, ?_, ?_, ?_⟩
      · rw [fa]
        show _ = (.inr (2, [.int (va_up k.1 b mv b), .int (va_up k.2.1 b wv b), .int (nI (va_up k.2.2.1 b h b)), .ref (va_up k.2.2.2.1 b n b), .ref (va_up k.2.2.2.2 b r b), .long (va_up u.1 b s0 b), .int (va_up u.2.1 b i0 b)]) : va_E)
        rw [va_up_self, va_up_self, va_up_self, va_up_self, va_up_self, va_up_self, va_up_self]
      · rw [fn]
        show _ = jo_eN cP (va_up u.2.2.1 b g0 b)
        rw [va_up_self]
      · rw [fr]
        show _ = jo_eF cI (va_up u.2.2.2 b h0 b)
        rw [va_up_self]
  · have e' : va_up k.2.2.2.1 a n b = va_up k.2.2.2.1 a n d := e
    rcases List.mem_append.mp hb with hb | hb <;> rcases List.mem_append.mp hd with hd | hd
    · rw [va_up_ne _ _ (hne b hb), va_up_ne _ _ (hne d hd)] at e'
      exact hV.2.1 b hb d hd e'
    · rw [List.mem_singleton.mp hd, va_up_ne _ _ (hne b hb), va_up_self] at e'
      exact absurd (e' ▸ hV.nL hb) hn
    · rw [List.mem_singleton.mp hb, va_up_ne _ _ (hne d hd), va_up_self] at e'
      exact absurd (e' ▸ hV.nL hd) hn
    · rw [List.mem_singleton.mp hb, List.mem_singleton.mp hd]
  · have e' : va_up k.2.2.2.2 a r b = va_up k.2.2.2.2 a r d := e
    rcases List.mem_append.mp hb with hb | hb <;> rcases List.mem_append.mp hd with hd | hd
    · rw [va_up_ne _ _ (hne b hb), va_up_ne _ _ (hne d hd)] at e'
      exact hV.2.2 b hb d hd e'
    · rw [List.mem_singleton.mp hd, va_up_ne _ _ (hne b hb), va_up_self] at e'
      exact absurd (e' ▸ hV.fL hb) hr
    · rw [List.mem_singleton.mp hb, va_up_ne _ _ (hne d hd), va_up_self] at e'
      exact absurd (e' ▸ hV.fL hd) hr
    · rw [List.mem_singleton.mp hb, List.mem_singleton.mp hd]
theorem jo_N.grow {k : jK} {PS : List Nat} {a n r h q : Nat} {mv wv : Int32} (hne : ∀ b ∈ PS, b ≠ a) (hq : ¬ jo_N (jo_kG k a mv wv h n r) (PS ++ [a]) q) : ¬ jo_N k PS q ∨ q = a ∨ q = n ∨ q = r := by
  by_cases h1 : q = a
  · exact Or.inr (Or.inl h1)
  · by_cases h2 : q = n
    · exact Or.inr (Or.inr (Or.inl h2))
    · by_cases h3 : q = r
      · exact Or.inr (Or.inr (Or.inr h3))
      · refine Or.inl (fun z => hq (fun b hb => ?_))
        rcases List.mem_append.mp hb with hb | hb
        · have w := hne b hb
          have e4 : (jo_kG k a mv wv h n r).2.2.2.1 b = k.2.2.2.1 b := va_up_ne _ _ w
          have e5 : (jo_kG k a mv wv h n r).2.2.2.2 b = k.2.2.2.2 b := va_up_ne _ _ w
          rw [e4, e5]
          exact z b hb
        · have w : b = a := List.mem_singleton.mp hb
          subst w
          have e4 : (jo_kG k b mv wv h n r).2.2.2.1 b = n := va_up_self _ _ _
          have e5 : (jo_kG k b mv wv h n r).2.2.2.2 b = r := va_up_self _ _ _
          rw [e4, e5]
          exact ⟨h1, h2, h3⟩
theorem jo_Ok.grow {N : Nat} {k : jK} {u : jS} {PS : List Nat} {hd : Nat} {qs : List Nat} {S : Nat → Option Nat} {As : List (Nat × Int64)} {a n r h i : Nat} {s0 : Int64} {g0 : Nat → Option Nat} {h0 : Nat → Int32} (hO : jo_Ok (fun _ => False) N k u PS hd qs S As) (ha : a ∉ PS) (hi : i < 1000) (hSi : S i = none) (h1 : 1 ≤ h) (h4 : h ≤ 4) :
    jo_Ok (fun _ => False) N (jo_kG k a (nI i) (jz_word (nI i)) h n r) (jo_uG u a s0 0 g0 h0) (PS ++ [a]) hd qs (va_up S i (some a)) As := by
  have hne : ∀ b ∈ PS, b ≠ a := fun b hb q => ha (q ▸ hb)
  have hdn := hne hd hO.1.1
  have hqn : ∀ b ∈ qs, b ≠ a := fun b hb => hne b (hO.2.2.1 b hb)
  refine ⟨⟨List.mem_append_left _ hO.1.1, ?_⟩, hO.2.1, fun b hb => List.mem_append_left _ (hO.2.2.1 b hb), fun x hx => ?_, hO.len, fun b hb hbn => ?_, fun m b hm hb => ?_, ?_, hO.sorted⟩
  · show va_up k.2.2.1 a h hd = 4
    rw [va_up_ne _ _ hdn]
    exact hO.1.2
  · refine jr_ok_ht (hO.rows x hx) (fun b hb => ?_)
    have q := hne b (hO.sub b hb)
    exact ⟨va_up_ne _ _ q, va_up_ne _ _ q, va_up_ne _ _ q⟩
  · show ∃ m, m < 1000 ∧ va_up S i (some a) m = some b ∧ va_up k.1 a (nI i) b = nI m ∧ va_up k.2.1 a (jz_word (nI i)) b = jz_word (nI m) ∧ 1 ≤ va_up k.2.2.1 a h b ∧ va_up k.2.2.1 a h b ≤ 4 ∧ (False ∨ va_up u.2.1 a 0 b = 1 ∧ b ∈ qs ∨ va_up u.2.1 a 0 b = 0 ∧ b ∉ qs)
    rcases List.mem_append.mp hb with hb | hb
    · have q := hne b hb
      obtain ⟨m, g1, g2, g3, g4, g5, g6, g7⟩ := hO.six b hb hbn
      have hmi : m ≠ i := fun z => by rw [z, hSi] at g2; cases g2
      refine ⟨m, g1, ?_, ?_, ?_, ?_, ?_, ?_⟩
      · rw [va_up_ne _ _ hmi]; exact g2
      · rw [va_up_ne _ _ q]; exact g3
      · rw [va_up_ne _ _ q]; exact g4
      · rw [va_up_ne _ _ q]; exact g5
      · rw [va_up_ne _ _ q]; exact g6
      · rw [va_up_ne _ _ q]; exact g7
    · have q : b = a := List.mem_singleton.mp hb
      rw [q]
      refine ⟨i, hi, va_up_self _ _ _, va_up_self _ _ _, va_up_self _ _ _, ?_, ?_, Or.inr (Or.inr ⟨va_up_self _ _ _, fun z => hqn a z rfl⟩)⟩
      · rw [va_up_self]; exact h1
      · rw [va_up_self]; exact h4
  · show b ∈ PS ++ [a] ∧ b ≠ hd ∧ va_up k.1 a (nI i) b = nI m
    by_cases q : m = i
    · rw [q, va_up_self] at hb
      cases hb
      rw [q]
      exact ⟨List.mem_append_right _ (List.mem_singleton.mpr rfl), hdn.symm, va_up_self _ _ _⟩
    · rw [va_up_ne _ _ q] at hb
      obtain ⟨g1, g2, g3⟩ := hO.tab m b hm hb
      exact ⟨List.mem_append_left _ g1, g2, by rw [va_up_ne _ _ (hne b g1)]; exact g3⟩
  · rw [hO.eqA]
    refine List.map_congr_left (fun b hb => ?_)
    have q := hqn b hb
    show _ = ((va_up k.1 a (nI i) b).toNatClampNeg, va_up u.1 a s0 b)
    rw [va_up_ne _ _ q, va_up_ne _ _ q]
theorem jo_Ok.mono {ex : Nat → Prop} {N N' : Nat} {k : jK} {u : jS} {PS : List Nat} {hd : Nat} {qs : List Nat} {S : Nat → Option Nat} {As : List (Nat × Int64)} (h : jo_Ok ex N k u PS hd qs S As) (hN : N ≤ N') : jo_Ok ex N' k u PS hd qs S As :=
  ⟨h.1, h.2.1, h.2.2.1, h.rows, Nat.le_trans h.len hN, h.six, h.tab, h.eqA, h.sorted⟩
/-- an order in the pool -/
def jo_St (N : Nat) (ct : Nat → ClassId) (L : List Nat) (f : Nat → va_E) (o hd pa hr : Nat) (ps : Int32) (k : jK) (u : jS) (PS qs : List Nat) (S : Nat → Option Nat) (As : List (Nat × Int64)) : Prop :=
  o ∈ L ∧ pa ∈ L ∧ f o = jo_eO hd pa (nI qs.length) hr ps ∧ f pa = jo_eT (ct 1) S ∧ jo_V (ct 0) (ct 1) L f k u PS ∧ jo_Ok (fun _ => False) N k u PS hd qs S As
/-- an order has changed, and nothing else -/
def jo_Ch (N : Nat) (ct : Nat → ClassId) (L : List Nat) (f : Nat → va_E) (o hd pa : Nat) (k : jK) (PS : List Nat) (L' : List Nat) (f' : Nat → va_E) (As' : List (Nat × Int64)) : Prop :=
  ∃ (hr' : Nat) (ps' : Int32) (k' : jK) (u' : jS) (PS' qs' : List Nat) (S' : Nat → Option Nat), jo_St N ct L' f' o hd pa hr' ps' k' u' PS' qs' S' As' ∧ (∀ q ∈ L, q ∈ L') ∧ (∀ q ∈ L, q ≠ o → q ≠ pa → jo_N k PS q → f' q = f q) ∧ (∀ q, ¬ jo_N k' PS' q → ¬ jo_N k PS q ∨ q ∉ L)
end
section
set_option maxHeartbeats 4000000 in
set_option maxRecDepth 100000 in
theorem c_leave (l : Launch) (D : va_G) (ct : Nat → ClassId) {N : Nat} {L : List Nat} {f : Nat → va_E} {o hd pa hr : Nat} {ps : Int32} {k : jK} {u : jS} {PS qs : List Nat} {S : Nat → Option Nat} {As : List (Nat × Int64)} (hSt : jo_St N ct L f o hd pa hr ps k u PS qs S As) (hNb : N < 2 ^ 29) {i a : Nat} (hi : i < 1000) (hSi : S i = some a) (hin : ¬ u.2.1 a = 0) :
    jz_M l D ct yX0_leave cX0_leave 2 none ({ frames := 3, cells := 0, slots := 0, locals := 71 } : Room) [.ref o, .ref a] L f (fun v L' f' => v = none ∧ ∃ As', jz_delR As i As' ∧ jo_Ch N ct L f o hd pa k PS L' f' As') := by
  obtain ⟨hoL, hpL, hfo, hfp, hV, hOk⟩ := hSt
  have hN : jo_N k PS o := hV.nO (by decide) hfo
  have hNp : jo_N k PS pa := hV.nT (by decide) hfp
  have hop : o ≠ pa := jo_ne hfo hfp (fun e => by cases e)
  have hlenN := hOk.len
  have ef0 : va_up f o (jo_eO hd pa (nI qs.length) hr ps) = f := jz_self hfo
  obtain ⟨haP, hah, hka⟩ := hOk.tab i a hi hSi
  have haq : a ∈ qs ∧ u.2.1 a = 1 ∧ k.2.2.1 a ≤ 4 := by
    obtain ⟨m0, g1, g2, g3, g4, g5, g6, g7⟩ := hOk.six a haP hah
    rcases g7 with z | ⟨z1, z2⟩ | ⟨z1, z2⟩
    · exact z.elim
    · exact ⟨z2, z1, g6⟩
    · exact absurd z1 hin
  obtain ⟨haq, hin1, ha4⟩ := haq
  obtain ⟨p1, p2, eqs, hA1, hA2, fin⟩ := hOk.del hi hSi haq
  refine jx_enter (by decide) (Nat.le_of_ble_eq_true rfl) ?_
  intro p e s m below meth c C hw ls hl
  obtain ⟨hx, hb, hrt, hlk, hnm, hml, hown, hts, hG⟩ := C
  have hl : lv_has ls 2 [(0, .ref o), (1, .ref a)] := hl
  refine lv_aload_n hx hb dX0_leave_0 rfl (lv_at hl 0 rfl) ?_
  refine lv_aload_n hx hb dX0_leave_1 rfl (lv_at hl 1 rfl) ?_
  rw [← ef0] at hw
  have hsub : ∀ x ∈ hd :: qs, x ∈ PS := hOk.sub
  refine cl_O_74 (As := [.ref a]) (rest := []) hx hb hml hown hts hG hw (c_takeOut l D ct (f0 := f) (ns := hd :: qs) hV hN hoL (by rw [eqs]) hsub (by simp only [List.length_cons]; omega) hOk.rows hOk.1.2 hOk.h1 hA1 hA2 haP ha4 hOk.2.1) rfl ⟨Nat.le_of_ble_eq_true rfl, Nat.le_of_ble_eq_true rfl⟩ hoL (va_up_self _ _ _) hl.1 rfl (Nat.le_of_ble_eq_true rfl) dX0_leave_2 ⟨Nat.le_of_ble_eq_true rfl, Nat.le_of_ble_eq_true rfl⟩ (fun v L' f' H1 locs1 hp hw hcf => ?_)
  obtain ⟨rfl, eL, f1, u1, hr1, ps1, ef, hV1, eS1, eI1, hfr1, hrow1⟩ := hp
  rw [eL, ef] at hw
  have ecnt : nI qs.length - 1 = nI (p1 ++ p2).length := by rw [eqs, show (p1 ++ a :: p2).length = (p1 ++ p2).length + 1 by simp; omega]; exact nI_pred _
  rw [ecnt] at hw
  have hVo := hV1.up (e := jo_eO hd pa (nI (p1 ++ p2).length) hr1 ps1) hN
  refine lv_aload_n hx hb dX0_leave_5 rfl (lv_at hl 1 rfl) ?_
  refine lv_iconst (v := 0) hx hb dX0_leave_6 (by decide) ?_
  refine pf_O_35 hx hb hown hts hG hw (hVo.aL haP) (hVo.a haP) rfl rfl dX0_leave_7 (fun H locs hw => ?_)
  have epl : jo_eP k (u1.1, va_up u1.2.1 a 0, u1.2.2) a = .inr (2, [.int (k.1 a), .int (k.2.1 a), .int (nI (k.2.2.1 a)), .ref (k.2.2.2.1 a), .ref (k.2.2.2.2 a), .long (u1.1 a), .int 0]) := by simp only [jo_eP, va_up_self]
  have hV2 := hVo.putI haP 0
  rw [epl] at hV2
  obtain ⟨f2, hf2⟩ : ∃ z, z = va_up (va_up f1 o (jo_eO hd pa (nI (p1 ++ p2).length) hr1 ps1)) a (.inr (2, [.int (k.1 a), .int (k.2.1 a), .int (nI (k.2.2.1 a)), .ref (k.2.2.2.1 a), .ref (k.2.2.2.2 a), .long (u1.1 a), .int 0])) := ⟨_, rfl⟩
  have hw : jz_w D (va_A (va_pl L f) s.heap.size) s.heap L f2 H locs := by rw [hf2]; rw [ef0] at hw; exact hw
  rw [← hf2] at hV2
  obtain ⟨As', hdel, hanot, -, hfin⟩ := fin (u1.1, va_up u1.2.1 a 0, u1.2.2) (fun x hx => ⟨by rw [eS1], by show va_up u1.2.1 a 0 x = _; rw [va_up_ne _ _ hx, eI1]⟩) hrow1
  exact jx_vret hx hb hrt hlk (by rw [← ef0] at hw ⊢; exact hw) (Nat.le_refl _) (Nat.le_refl _) dX0_leave_10 ⟨rfl, As', hdel, hr1, ps1, k, (u1.1, va_up u1.2.1 a 0, u1.2.2), PS, p1 ++ p2, S, ⟨hoL, hpL, by rw [hf2, va_up_ne _ _ (hN a haP).1, va_up_self], by rw [hf2, va_up_ne _ _ (hNp a haP).1, va_up_ne _ _ hop.symm, hfr1 pa hNp]; exact hfp, hV2, hfin (va_up_self _ _ _)⟩, fun q h => h, fun q _ h1 h2 h3 => by rw [hf2, va_up_ne _ _ (h3 a haP).1, va_up_ne _ _ h1]; exact hfr1 q h3, fun q h => Or.inl h⟩
set_option maxHeartbeats 4000000 in
set_option maxRecDepth 100000 in
theorem c_move (l : Launch) (D : va_G) (ct : Nat → ClassId) {N : Nat} {L : List Nat} {f : Nat → va_E} {o hd pa hr : Nat} {ps : Int32} {k : jK} {u : jS} {PS qs : List Nat} {S : Nat → Option Nat} {As : List (Nat × Int64)} (hSt : jo_St N ct L f o hd pa hr ps k u PS qs S As) (hNb : N < 2 ^ 29) {i a : Nat} {sc : Int64} (hi : i < 1000) (hSi : S i = some a) (hin : ¬ u.2.1 a = 0) :
    jz_M l D ct yX0_move cX0_move 4 none ({ frames := 3, cells := 0, slots := 0, locals := 71 } : Room) [.ref o, .ref a, .long sc] L f (fun v L' f' => v = none ∧ ∃ A1 As', jz_delR As i A1 ∧ jz_insR A1 i sc As' ∧ jo_Ch (N + 1) ct L f o hd pa k PS L' f' As') := by
  obtain ⟨hoL, hpL, hfo, hfp, hV, hOk⟩ := hSt
  have hN : jo_N k PS o := hV.nO (by decide) hfo
  have hNp : jo_N k PS pa := hV.nT (by decide) hfp
  have hop : o ≠ pa := jo_ne hfo hfp (fun e => by cases e)
  have hlenN := hOk.len
  have ef0 : va_up f o (jo_eO hd pa (nI qs.length) hr ps) = f := jz_self hfo
  obtain ⟨haP, hah, hka⟩ := hOk.tab i a hi hSi
  have haq : a ∈ qs ∧ u.2.1 a = 1 ∧ k.2.2.1 a ≤ 4 := by
    obtain ⟨m0, g1, g2, g3, g4, g5, g6, g7⟩ := hOk.six a haP hah
    rcases g7 with z | ⟨z1, z2⟩ | ⟨z1, z2⟩
    · exact z.elim
    · exact ⟨z2, z1, g6⟩
    · exact absurd z1 hin
  obtain ⟨haq, hin1, ha4⟩ := haq
  obtain ⟨p1, p2, eqs, hA1, hA2, fin⟩ := hOk.del hi hSi haq
  refine jx_enter (by decide) (Nat.le_of_ble_eq_true rfl) ?_
  intro p e s m below meth c C hw ls hl
  obtain ⟨hx, hb, hrt, hlk, hnm, hml, hown, hts, hG⟩ := C
  have hl : lv_has ls 4 [(0, .ref o), (1, .ref a), (2, .long sc)] := hl
  refine lv_aload_n hx hb dX0_move_0 rfl (lv_at hl 0 rfl) ?_
  refine lv_aload_n hx hb dX0_move_1 rfl (lv_at hl 1 rfl) ?_
  rw [← ef0] at hw
  have hsub : ∀ x ∈ hd :: qs, x ∈ PS := hOk.sub
  refine cl_O_74 (As := [.ref a]) (rest := []) hx hb hml hown hts hG hw (c_takeOut l D ct (f0 := f) (ns := hd :: qs) hV hN hoL (by rw [eqs]) hsub (by simp only [List.length_cons]; omega) hOk.rows hOk.1.2 hOk.h1 hA1 hA2 haP ha4 hOk.2.1) rfl ⟨Nat.le_of_ble_eq_true rfl, Nat.le_of_ble_eq_true rfl⟩ hoL (va_up_self _ _ _) hl.1 rfl (Nat.le_of_ble_eq_true rfl) dX0_move_2 ⟨Nat.le_of_ble_eq_true rfl, Nat.le_of_ble_eq_true rfl⟩ (fun v L' f' H1 locs1 hp hw hcf => ?_)
  obtain ⟨rfl, eL, f1, u1, hr1, ps1, ef, hV1, eS1, eI1, hfr1, hrow1⟩ := hp
  rw [eL, ef] at hw
  have ecnt : nI qs.length - 1 = nI (p1 ++ p2).length := by rw [eqs, show (p1 ++ a :: p2).length = (p1 ++ p2).length + 1 by simp; omega]; exact nI_pred _
  rw [ecnt] at hw
  have hVo := hV1.up (e := jo_eO hd pa (nI (p1 ++ p2).length) hr1 ps1) hN
  refine lv_aload_n hx hb dX0_move_5 rfl (lv_at hl 1 rfl) ?_
  refine lv_lload_n hx hb dX0_move_6 rfl (lv_at hl 2 rfl) ?_
  refine pf_O_67 hx hb hown hts hG hw (hVo.aL haP) (hVo.a haP) dX0_move_7 (fun H locs hw => ?_)
  have epl : jo_eP k (va_up u1.1 a sc, u1.2) a = .inr (2, [.int (k.1 a), .int (k.2.1 a), .int (nI (k.2.2.1 a)), .ref (k.2.2.2.1 a), .ref (k.2.2.2.2 a), .long sc, .int (u1.2.1 a)]) := by simp only [jo_eP, va_up_self]
  have hV2 := hVo.putS haP sc
  rw [epl] at hV2
  obtain ⟨f2, hf2⟩ : ∃ z, z = va_up (va_up f1 o (jo_eO hd pa (nI (p1 ++ p2).length) hr1 ps1)) a (.inr (2, [.int (k.1 a), .int (k.2.1 a), .int (nI (k.2.2.1 a)), .ref (k.2.2.2.1 a), .ref (k.2.2.2.2 a), .long sc, .int (u1.2.1 a)])) := ⟨_, rfl⟩
  have hw : jz_w D (va_A (va_pl L f) s.heap.size) s.heap L f2 H locs := by rw [hf2]; rw [ef0] at hw; exact hw
  rw [← hf2] at hV2
  have hfo2 : f2 o = jo_eO hd pa (nI (p1 ++ p2).length) hr1 ps1 := by rw [hf2, va_up_ne _ _ (hN a haP).1, va_up_self]
  have hfp2 : f2 pa = jo_eT (ct 1) S := by rw [hf2, va_up_ne _ _ (hNp a haP).1, va_up_ne _ _ hop.symm, hfr1 pa hNp]; exact hfp
  have hfr2 : ∀ q, q ≠ o → jo_N k PS q → f2 q = f q := fun q h1 h3 => by rw [hf2, va_up_ne _ _ (h3 a haP).1, va_up_ne _ _ h1]; exact hfr1 q h3
  obtain ⟨A1, hdel, hanot, hO2, -⟩ := fin (va_up u1.1 a sc, u1.2) (fun x hx => ⟨by show va_up u1.1 a sc x = _; rw [va_up_ne _ _ hx, eS1], by show u1.2.1 x = _; rw [eI1]⟩) hrow1
  obtain ⟨r1, r2, eq2, hB1, hB2, fin2⟩ := hO2.ins (sc := sc) hi hSi hanot (va_up_self _ _ _) (by show u1.2.1 a = 1; rw [eI1]; exact hin1)
  have ef2 : va_up f2 o (jo_eO hd pa (nI (p1 ++ p2).length) hr1 ps1) = f2 := jz_self hfo2
  rw [← ef2] at hw
  have hlen2 := hO2.len
  refine lv_aload_n hx hb dX0_move_10 rfl (lv_at hl 0 rfl) ?_
  refine lv_aload_n hx hb dX0_move_11 rfl (lv_at hl 1 rfl) ?_
  refine cl_O_71 (As := [.ref a]) (rest := []) hx hb hml hown hts hG hw (c_putIn l D ct (f0 := f2) (ns := hd :: (p1 ++ p2)) hV2 hN hoL (by rw [eq2]) hO2.sub (by simp only [List.length_cons]; omega) hO2.rows hO2.1.2 hO2.h1 hB1 hB2 haP ha4 (fun z => by rcases List.mem_cons.mp z with z | z; exact hah z; exact hanot z) hO2.2.1) rfl ⟨Nat.le_of_ble_eq_true rfl, Nat.le_of_ble_eq_true rfl⟩ hoL (va_up_self _ _ _) hl.1 rfl (Nat.le_of_ble_eq_true rfl) dX0_move_12 ⟨Nat.le_of_ble_eq_true rfl, Nat.le_of_ble_eq_true rfl⟩ (fun v L' f' H1 locs1 hp hw hcf => ?_)
  obtain ⟨rfl, eL3, f3, u3, hr3, ps3, ef3, hV3, eS3, eI3, hfr3, hrow3⟩ := hp
  rw [eL3, ef3] at hw
  obtain ⟨As', hins, hO3⟩ := fin2 u3 eS3 eI3 hrow3
  have ecnt3 : nI (p1 ++ p2).length + 1 = nI (r1 ++ a :: r2).length := by rw [eq2, nI_1]; congr 1; simp; omega
  exact jx_vret hx hb hrt hlk hw (Nat.le_refl _) (Nat.le_refl _) dX0_move_15 ⟨rfl, A1, As', hdel, hins, hr3, ps3, k, u3, PS, r1 ++ a :: r2, S, ⟨hoL, hpL, by rw [ecnt3, va_up_self], by rw [va_up_ne _ _ hop.symm, hfr3 pa hNp]; exact hfp2, hV3.up hN, hO3⟩, fun q h => h, fun q _ h1 h2 h3 => by rw [va_up_ne _ _ h1, hfr3 q h3]; exact hfr2 q h1 h3, fun q h => Or.inl h⟩
set_option maxHeartbeats 4000000 in
set_option maxRecDepth 100000 in
theorem c_enter (l : Launch) (D : va_G) (ct : Nat → ClassId) {N : Nat} {L : List Nat} {f : Nat → va_E} {o hd pa hr : Nat} {ps : Int32} {k : jK} {u : jS} {PS qs : List Nat} {S : Nat → Option Nat} {As : List (Nat × Int64)} (hSt : jo_St N ct L f o hd pa hr ps k u PS qs S As) (hNb : N < 2 ^ 29) {i : Nat} {sc : Int64} (hi : i < 1000) (habs : ∀ a, S i = some a → u.2.1 a = 0) :
    jz_M l D ct yX0_enter cX0_enter 5 none ({ frames := 3, cells := 3, slots := 15, locals := 71 } : Room) [.ref o, .int (nI i), .long sc] L f (fun v L' f' => v = none ∧ ∃ As', jz_insR As i sc As' ∧ jo_Ch (N + 1) ct L f o hd pa k PS L' f' As') := by
  obtain ⟨hoL, hpL, hfo, hfp, hV, hOk⟩ := hSt
  have hN : jo_N k PS o := hV.nO (by decide) hfo
  have hNp : jo_N k PS pa := hV.nT (by decide) hfp
  have hop : o ≠ pa := jo_ne hfo hfp (fun e => by cases e)
  have hlenN := hOk.len
  have ef0 : va_up f o (jo_eO hd pa (nI qs.length) hr ps) = f := jz_self hfo
  refine jx_enter (by decide) (Nat.le_of_ble_eq_true rfl) ?_
  intro p e s m below meth c C hw ls hl
  obtain ⟨hx, hb, hrt, hlk, hnm, hml, hown, hts, hG⟩ := C
  have hl : lv_has ls 5 [(0, .ref o), (1, .int (nI i)), (2, .long sc)] := hl
  refine lv_iload_n hx hb dX0_enter_0 rfl (lv_at hl 1 rfl) ?_
  refine cl_O_31 (As := [.int (nI i)]) (rest := []) hx hb hml hown hts hG hw (c_isMember l D ct L f (nI i)) rfl ⟨Nat.le_of_ble_eq_true rfl, Nat.le_of_ble_eq_true rfl⟩ hl.1 rfl (Nat.le_of_ble_eq_true rfl) dX0_enter_1 ⟨Nat.le_of_ble_eq_true rfl, Nat.le_of_ble_eq_true rfl⟩ (fun v L' f' H1 locs1 hp hw hcf => ?_)
  obtain ⟨hv, eL, ef⟩ := hp
  rw [eL, ef] at hw
  have hv : v = some (.int 1) := hv.elim (fun q => q.2) (fun q => absurd ⟨nI_pos' (by omega), nI_lt hi (by decide)⟩ q.1)
  subst hv
  refine lv_if_ne (tgt := 8) hx hb dX0_enter_4 (by decide) (fun _ => ?_) (fun h => absurd h (by decide))
  refine lv_aload_n hx hb dX0_enter_8 rfl (lv_at hl 0 rfl) ?_
  refine gf_O_20 hx hb hown hts hG hw hoL hfo dX0_enter_9 ?_
  refine lv_iload_n hx hb dX0_enter_12 rfl (lv_at hl 1 rfl) ?_
  refine jx_aldqI hx hb hG hw hpL 1 hfp rfl hi (by decide) dX0_enter_13 ?_
  refine jx_astoreq (lv' := [(4, (va_rf (S i))), (0, .ref o), (1, .int (nI i)), (2, .long sc)]) hx hb dX0_enter_14 hl (by decide) rfl (fun ls hl => ?_)
  refine jx_aloadq hx hb dX0_enter_16 (lv_at hl 0 rfl) ?_
  refine jx_ifnonnullq (tgt := 43) hx hb dX0_enter_18 (by decide) (fun hnone => ?_) (fun a hSi => ?_)
  · refine jx_new (own := RX0) (C := RX1) (T := TX1) (N := 7) (ci := 2) (fs := [.int 0, .int 0, .int 0, .null, .null, .long 0, .int 0]) hx hb hts jz_inP tyX1 tyX1_ok hown (by decide +kernel) (by decide +kernel) (by decide +kernel) hG hw rfl (fun j hj => by rcases (show j = 0 ∨ j = 1 ∨ j = 2 ∨ j = 3 ∨ j = 4 ∨ j = 5 ∨ j = 6 by omega) with rfl | rfl | rfl | rfl | rfl | rfl | rfl <;> rfl) (Nat.le_of_ble_eq_true rfl) (Nat.le_of_ble_eq_true rfl) dX0_enter_21 (fun a H haL hw => ?_)
    have haPS : a ∉ PS := fun z => haL (hV.aL z)
    refine lv_dup hx hb dX0_enter_24 rfl ?_
    refine lv_iload_n hx hb dX0_enter_25 rfl (lv_at hl 2 rfl) ?_
    refine lv_iload_n hx hb dX0_enter_26 rfl (lv_at hl 2 rfl) ?_
    refine cl_O_63 (As := [.int (nI i)]) (rest := [.int (nI i), .ref a, .ref a]) hx hb hml hown hts hG hw (c_heightOf l D ct _ _ (nI i)) rfl ⟨Nat.le_of_ble_eq_true rfl, Nat.le_of_ble_eq_true rfl⟩ hl.1 rfl (Nat.le_of_ble_eq_true rfl) dX0_enter_27 ⟨Nat.le_of_ble_eq_true rfl, Nat.le_of_ble_eq_true rfl⟩ (fun v L' f' H1 locs1 hp hw hcf => ?_)
    obtain ⟨⟨h, hh1, hh4, rfl⟩, eL, ef⟩ := hp
    rw [eL, ef] at hw
    refine cl_O_11 (As := [.int (nI i), .int (nI h)]) (rest := [.ref a]) hx hb hml hown hts hG hw (c_placeInit l D ct (List.mem_append_right _ (List.mem_singleton.mpr rfl)) (va_up_self _ _ _)) rfl ⟨Nat.le_of_ble_eq_true rfl, Nat.le_of_ble_eq_true rfl⟩ hl.1 rfl (Nat.le_of_ble_eq_true rfl) dX0_enter_30 ⟨Nat.le_of_ble_eq_true rfl, Nat.le_of_ble_eq_true rfl⟩ (fun v L' f' H1 locs1 hp hw hcf => ?_)
    obtain ⟨rfl, n, r, hnL, hrL, hnr, eL, ea, en, er, eo⟩ := hp
    rw [eL] at hw
    have hLL : ∀ q ∈ L, q ∈ (L ++ [a] ++ [n]) ++ [r] := fun q h => List.mem_append_left _ (List.mem_append_left _ (List.mem_append_left _ h))
    have hneL : ∀ q ∈ L, q ≠ a := fun q hq z => haL (z ▸ hq)
    have hneN : ∀ q ∈ L, q ≠ n := fun q hq z => hnL (z ▸ List.mem_append_left _ hq)
    have hneR : ∀ q ∈ L, q ≠ r := fun q hq z => hrL (z ▸ List.mem_append_left _ hq)
    have hfo1 : f' o = jo_eO hd pa (nI qs.length) hr ps := by rw [eo o (hneL o hoL) (hneN o hoL) (hneR o hoL), va_up_ne _ _ (hneL o hoL)]; exact hfo
    have hfp1 : f' pa = jo_eT (ct 1) S := by rw [eo pa (hneL pa hpL) (hneN pa hpL) (hneR pa hpL), va_up_ne _ _ (hneL pa hpL)]; exact hfp
    refine lv_astore (lv' := [(4, .ref a), (0, .ref o), (1, .int (nI i)), (2, .long sc)]) hx hb dX0_enter_33 hl (by decide) (by rw [hnone]; rfl) (fun ls hl => ?_)
    refine lv_aload_n hx hb dX0_enter_35 rfl (lv_at hl 1 rfl) ?_
    refine gf_O_20 hx hb hown hts hG hw (hLL _ hoL) hfo1 dX0_enter_36 ?_
    refine lv_iload_n hx hb dX0_enter_39 rfl (lv_at hl 2 rfl) ?_
    refine lv_aload hx hb dX0_enter_40 (lv_at hl 0 rfl) ?_
    refine jx_astqI (v := some a) hx hb hG hw (hLL _ hpL) 1 2 hfp1 rfl (fun x hx0 => ?_) rfl hi (by decide) dX0_enter_42 (fun H locs hw => ?_)
    · cases hx0
      exact ⟨List.mem_append_left _ (List.mem_append_left _ (List.mem_append_right _ (List.mem_singleton.mpr rfl))), _, ea⟩
    obtain ⟨g1, hg1⟩ : ∃ z, z = va_up f' pa (jo_eT (ct 1) (va_up S i (some a))) := ⟨_, rfl⟩
    have hw : jz_w D (va_A (va_pl L f) s.heap.size) s.heap ((L ++ [a] ++ [n]) ++ [r]) g1 H locs := by rw [hg1]; exact hw
    have hapa : a ≠ pa := fun z => haL (z ▸ hpL)
    have hnpa : n ≠ pa := fun z => hnL (z ▸ List.mem_append_left _ hpL)
    have hrpa : r ≠ pa := fun z => hrL (z ▸ List.mem_append_left _ hpL)
    have hgq : ∀ q ∈ L, q ≠ pa → g1 q = f q := fun q hq h => by rw [hg1, va_up_ne _ _ h, eo q (hneL q hq) (hneN q hq) (hneR q hq), va_up_ne _ _ (hneL q hq)]
    have hNL : ∀ q, ¬ jo_N k PS q → q ∈ L := fun q hq => Classical.byContradiction (fun z => hq (fun b hb => ⟨fun w => z (w ▸ hV.aL hb), fun w => z (w ▸ hV.nL hb), fun w => z (w ▸ hV.fL hb)⟩))
    have hVg := hV.grow (f' := g1) (mv := nI i) (wv := jz_word (nI i)) (h := h) (s0 := 0) (i0 := 0) (g0 := fun _ => none) (h0 := fun _ => 0) haL (fun z => hnL (List.mem_append_left _ z)) (fun z => hrL (List.mem_append_left _ z)) hLL (List.mem_append_left _ (List.mem_append_left _ (List.mem_append_right _ (List.mem_singleton.mpr rfl)))) (List.mem_append_left _ (List.mem_append_right _ (List.mem_singleton.mpr rfl))) (List.mem_append_right _ (List.mem_singleton.mpr rfl)) (fun q hq hn => hgq q hq (fun z => hn (z ▸ hNp))) (by rw [hg1, va_up_ne _ _ hapa]; exact ea) (by rw [hg1, va_up_ne _ _ hnpa]; exact en) (by rw [hg1, va_up_ne _ _ hrpa]; exact er)
    have hOg := hOk.grow (a := a) (n := n) (r := r) (h := h) (s0 := 0) (g0 := fun _ => none) (h0 := fun _ => 0) haPS hi hnone hh1 hh4
    have hneq : ∀ b ∈ PS, b ≠ a := fun b hb z => haPS (z ▸ hb)
    have hgo : g1 o = jo_eO hd pa (nI qs.length) hr ps := by rw [hgq o hoL hop]; exact hfo
    have hgp : g1 pa = jo_eT (ct 1) (va_up S i (some a)) := by rw [hg1, va_up_self]
    have hfrL : ∀ q ∈ L, q ≠ o → q ≠ pa → jo_N k PS q → g1 q = f q := fun q hq _ h2 _ => hgq q hq h2
    have hNN : ∀ q, ¬ jo_N (jo_kG k a (nI i) (jz_word (nI i)) h n r) (PS ++ [a]) q → ¬ jo_N k PS q ∨ q ∉ L := fun q hq => by
      rcases jo_N.grow hneq hq with z | z | z | z
      · exact Or.inl z
      · exact Or.inr (z ▸ haL)
      · exact Or.inr (fun w => hnL (z ▸ List.mem_append_left _ w))
      · exact Or.inr (fun w => hrL (z ▸ List.mem_append_left _ w))
    have hNmono : ∀ q ∈ L, jo_N k PS q → jo_N (jo_kG k a (nI i) (jz_word (nI i)) h n r) (PS ++ [a]) q := fun q hq h1 => Classical.byContradiction (fun h2 => by
      rcases hNN q h2 with z | z
      · exact z h1
      · exact z hq)
    generalize hkg : jo_kG k a (nI i) (jz_word (nI i)) h n r = kg at hVg hOg hNN hNmono
    generalize hug : jo_uG u a 0 0 (fun _ => none) (fun _ => 0) = ug at hVg hOg
    generalize hLg : (L ++ [a] ++ [n]) ++ [r] = Lg at hw hVg hLL
    generalize hPg : PS ++ [a] = PSg at hVg hOg hNN hNmono
    generalize hSg : va_up S i (some a) = Sg at hgp hOg
    have hSi : Sg i = some a := by rw [← hSg, va_up_self]
    have hin0 : ug.2.1 a = 0 := by rw [← hug]; exact va_up_self _ _ _
    have hN' : jo_N kg PSg o := hVg.nO (by decide) hgo
    have hNp' : jo_N kg PSg pa := hVg.nT (by decide) hgp
    obtain ⟨haP, hah, hka⟩ := hOg.tab i a hi hSi
    have haq : a ∉ qs ∧ kg.2.2.1 a ≤ 4 := by
      obtain ⟨m0, g1, g2, g3, g4, g5, g6, g7⟩ := hOg.six a haP hah
      rcases g7 with z | ⟨z1, z2⟩ | ⟨z1, z2⟩
      · exact z.elim
      · rw [hin0] at z1; exact absurd z1 (by decide)
      · exact ⟨z2, g6⟩
    obtain ⟨hanot, ha4⟩ := haq
    refine lv_aload hx hb dX0_enter_43 (lv_at hl 0 rfl) ?_
    refine lv_lload_n hx hb dX0_enter_45 rfl (lv_at hl 3 rfl) ?_
    refine pf_O_67 hx hb hown hts hG hw (hVg.aL haP) (hVg.a haP) dX0_enter_46 (fun H locs hw => ?_)
    have epl : jo_eP kg (va_up ug.1 a sc, ug.2) a = .inr (2, [.int (kg.1 a), .int (kg.2.1 a), .int (nI (kg.2.2.1 a)), .ref (kg.2.2.2.1 a), .ref (kg.2.2.2.2 a), .long sc, .int (ug.2.1 a)]) := by simp only [jo_eP, va_up_self]
    have hVs := hVg.putS haP sc
    rw [epl] at hVs
    refine lv_aload hx hb dX0_enter_49 (lv_at hl 0 rfl) ?_
    refine lv_iconst (v := 1) hx hb dX0_enter_51 (by decide) ?_
    refine pf_O_35 hx hb hown hts hG hw (hVs.aL haP) (va_up_self _ _ _) rfl rfl dX0_enter_52 (fun H locs hw => ?_)
    have epl2 : jo_eP kg (va_up ug.1 a sc, va_up ug.2.1 a 1, ug.2.2) a = .inr (2, [.int (kg.1 a), .int (kg.2.1 a), .int (nI (kg.2.2.1 a)), .ref (kg.2.2.2.1 a), .ref (kg.2.2.2.2 a), .long sc, .int 1]) := by simp only [jo_eP, va_up_self]
    have hV2 := hVs.putI haP 1
    have hV2 : jo_V (ct 0) (ct 1) Lg (va_up (va_up g1 a (.inr (2, [.int (kg.1 a), .int (kg.2.1 a), .int (nI (kg.2.2.1 a)), .ref (kg.2.2.2.1 a), .ref (kg.2.2.2.2 a), .long sc, .int (ug.2.1 a)]))) a (.inr (2, [.int (kg.1 a), .int (kg.2.1 a), .int (nI (kg.2.2.1 a)), .ref (kg.2.2.2.1 a), .ref (kg.2.2.2.2 a), .long sc, .int 1]))) kg (va_up ug.1 a sc, va_up ug.2.1 a 1, ug.2.2) PSg := by rw [← epl2]; exact hV2
    rw [bx_uu] at hw hV2
    obtain ⟨f2, hf2⟩ : ∃ z, z = va_up g1 a (.inr (2, [.int (kg.1 a), .int (kg.2.1 a), .int (nI (kg.2.2.1 a)), .ref (kg.2.2.2.1 a), .ref (kg.2.2.2.2 a), .long sc, .int 1])) := ⟨_, rfl⟩
    rw [← hf2] at hw hV2
    have hfo2 : f2 o = jo_eO hd pa (nI qs.length) hr ps := by rw [hf2, va_up_ne _ _ (hN' a haP).1]; exact hgo
    have hfp2 : f2 pa = jo_eT (ct 1) Sg := by rw [hf2, va_up_ne _ _ (hNp' a haP).1]; exact hgp
    have hO2 : jo_Ok (fun x => x = a) N kg (va_up ug.1 a sc, va_up ug.2.1 a 1, ug.2.2) PSg hd qs Sg As := by
      have hqa : ∀ x ∈ qs, x ≠ a := fun x hx z => hanot (z ▸ hx)
      refine ⟨hOg.1, hOg.2.1, hOg.2.2.1, hOg.rows, hOg.len, fun x hx hxn => ?_, hOg.tab, ?_, hOg.sorted⟩
      · obtain ⟨m0, g1, g2, g3, g4, g5, g6, g7⟩ := hOg.six x hx hxn
        refine ⟨m0, g1, g2, g3, g4, g5, g6, ?_⟩
        by_cases z : x = a
        · exact Or.inl z
        · refine Or.inr ?_
          show va_up ug.2.1 a 1 x = 1 ∧ x ∈ qs ∨ va_up ug.2.1 a 1 x = 0 ∧ x ∉ qs
          rw [va_up_ne _ _ z]
          exact g7.elim (fun w => w.elim) id
      · rw [hOg.eqA]
        refine List.map_congr_left (fun x hx => ?_)
        show _ = ((kg.1 x).toNatClampNeg, va_up ug.1 a sc x)
        rw [va_up_ne _ _ (hqa x hx)]
    obtain ⟨r1, r2, eq2, hB1, hB2, fin2⟩ := hO2.ins (sc := sc) hi hSi hanot (va_up_self _ _ _) (va_up_self _ _ _)
    have ef2 : va_up f2 o (jo_eO hd pa (nI qs.length) hr ps) = f2 := jz_self hfo2
    rw [← ef2] at hw
    have hlen2 := hO2.len
    refine lv_aload_n hx hb dX0_enter_55 rfl (lv_at hl 1 rfl) ?_
    refine lv_aload hx hb dX0_enter_56 (lv_at hl 0 rfl) ?_
    refine cl_O_71 (As := [.ref a]) (rest := []) hx hb hml hown hts hG hw (c_putIn l D ct (f0 := f2) (ns := hd :: qs) hV2 hN' (hLL _ hoL) (by rw [eq2]) hO2.sub (by simp only [List.length_cons]; omega) hO2.rows hO2.1.2 hO2.h1 hB1 hB2 haP ha4 (fun z => by rcases List.mem_cons.mp z with z | z; exact hah z; exact hanot z) hO2.2.1) rfl ⟨Nat.le_of_ble_eq_true rfl, Nat.le_of_ble_eq_true rfl⟩ (hLL _ hoL) (va_up_self _ _ _) hl.1 rfl (Nat.le_of_ble_eq_true rfl) dX0_enter_58 ⟨Nat.le_of_ble_eq_true rfl, Nat.le_of_ble_eq_true rfl⟩ (fun v L' f' H1 locs1 hp hw hcf => ?_)
    obtain ⟨rfl, eL3, f3, u3, hr3, ps3, ef3, hV3, eS3, eI3, hfr3, hrow3⟩ := hp
    rw [eL3, ef3] at hw
    obtain ⟨As', hins, hO3⟩ := fin2 u3 eS3 eI3 hrow3
    have ecnt3 : nI qs.length + 1 = nI (r1 ++ a :: r2).length := by rw [eq2, nI_1]; congr 1; simp; omega
    have hfrL : ∀ q ∈ L, q ≠ o → q ≠ pa → jo_N k PS q → g1 q = f q := hfrL
    have hNm : ∀ q ∈ L, jo_N k PS q → jo_N kg PSg q := hNmono
    exact jx_vret hx hb hrt hlk hw (Nat.le_of_ble_eq_true rfl) (Nat.le_of_ble_eq_true rfl) dX0_enter_61 ⟨rfl, As', hins, hr3, ps3, kg, u3, PSg, r1 ++ a :: r2, Sg, ⟨(hLL _ hoL), (hLL _ hpL), by rw [ecnt3, va_up_self], by rw [va_up_ne _ _ hop.symm, hfr3 pa hNp']; exact hfp2, hV3.up hN', hO3⟩, hLL, fun q hq h1 h2 h3 => (by have hz := hfrL q hq h1 h2 h3; rw [va_up_ne _ _ h1, hfr3 q (hNm q hq h3), hf2, va_up_ne _ _ ((hNm q hq h3) a haP).1]; try exact hz), hNN⟩
  · have hl : lv_has ls 5 [(4, .ref a), (0, .ref o), (1, .int (nI i)), (2, .long sc)] := by rw [hSi] at hl; exact hl
    have hin0 := habs a hSi
    have hN' : jo_N k PS o := hV.nO (by decide) hfo
    have hNp' : jo_N k PS pa := hV.nT (by decide) hfp
    obtain ⟨haP, hah, hka⟩ := hOk.tab i a hi hSi
    have haq : a ∉ qs ∧ k.2.2.1 a ≤ 4 := by
      obtain ⟨m0, g1, g2, g3, g4, g5, g6, g7⟩ := hOk.six a haP hah
      rcases g7 with z | ⟨z1, z2⟩ | ⟨z1, z2⟩
      · exact z.elim
      · rw [hin0] at z1; exact absurd z1 (by decide)
      · exact ⟨z2, g6⟩
    obtain ⟨hanot, ha4⟩ := haq
    refine lv_aload hx hb dX0_enter_43 (lv_at hl 0 rfl) ?_
    refine lv_lload_n hx hb dX0_enter_45 rfl (lv_at hl 3 rfl) ?_
    refine pf_O_67 hx hb hown hts hG hw (hV.aL haP) (hV.a haP) dX0_enter_46 (fun H locs hw => ?_)
    have epl : jo_eP k (va_up u.1 a sc, u.2) a = .inr (2, [.int (k.1 a), .int (k.2.1 a), .int (nI (k.2.2.1 a)), .ref (k.2.2.2.1 a), .ref (k.2.2.2.2 a), .long sc, .int (u.2.1 a)]) := by simp only [jo_eP, va_up_self]
    have hVs := hV.putS haP sc
    rw [epl] at hVs
    refine lv_aload hx hb dX0_enter_49 (lv_at hl 0 rfl) ?_
    refine lv_iconst (v := 1) hx hb dX0_enter_51 (by decide) ?_
    refine pf_O_35 hx hb hown hts hG hw (hVs.aL haP) (va_up_self _ _ _) rfl rfl dX0_enter_52 (fun H locs hw => ?_)
    have epl2 : jo_eP k (va_up u.1 a sc, va_up u.2.1 a 1, u.2.2) a = .inr (2, [.int (k.1 a), .int (k.2.1 a), .int (nI (k.2.2.1 a)), .ref (k.2.2.2.1 a), .ref (k.2.2.2.2 a), .long sc, .int 1]) := by simp only [jo_eP, va_up_self]
    have hV2 := hVs.putI haP 1
    have hV2 : jo_V (ct 0) (ct 1) L (va_up (va_up f a (.inr (2, [.int (k.1 a), .int (k.2.1 a), .int (nI (k.2.2.1 a)), .ref (k.2.2.2.1 a), .ref (k.2.2.2.2 a), .long sc, .int (u.2.1 a)]))) a (.inr (2, [.int (k.1 a), .int (k.2.1 a), .int (nI (k.2.2.1 a)), .ref (k.2.2.2.1 a), .ref (k.2.2.2.2 a), .long sc, .int 1]))) k (va_up u.1 a sc, va_up u.2.1 a 1, u.2.2) PS := by rw [← epl2]; exact hV2
    rw [bx_uu] at hw hV2
    obtain ⟨f2, hf2⟩ : ∃ z, z = va_up f a (.inr (2, [.int (k.1 a), .int (k.2.1 a), .int (nI (k.2.2.1 a)), .ref (k.2.2.2.1 a), .ref (k.2.2.2.2 a), .long sc, .int 1])) := ⟨_, rfl⟩
    rw [← hf2] at hw hV2
    have hfo2 : f2 o = jo_eO hd pa (nI qs.length) hr ps := by rw [hf2, va_up_ne _ _ (hN' a haP).1]; exact hfo
    have hfp2 : f2 pa = jo_eT (ct 1) S := by rw [hf2, va_up_ne _ _ (hNp' a haP).1]; exact hfp
    have hO2 : jo_Ok (fun x => x = a) N k (va_up u.1 a sc, va_up u.2.1 a 1, u.2.2) PS hd qs S As := by
      have hqa : ∀ x ∈ qs, x ≠ a := fun x hx z => hanot (z ▸ hx)
      refine ⟨hOk.1, hOk.2.1, hOk.2.2.1, hOk.rows, hOk.len, fun x hx hxn => ?_, hOk.tab, ?_, hOk.sorted⟩
      · obtain ⟨m0, g1, g2, g3, g4, g5, g6, g7⟩ := hOk.six x hx hxn
        refine ⟨m0, g1, g2, g3, g4, g5, g6, ?_⟩
        by_cases z : x = a
        · exact Or.inl z
        · refine Or.inr ?_
          show va_up u.2.1 a 1 x = 1 ∧ x ∈ qs ∨ va_up u.2.1 a 1 x = 0 ∧ x ∉ qs
          rw [va_up_ne _ _ z]
          exact g7.elim (fun w => w.elim) id
      · rw [hOk.eqA]
        refine List.map_congr_left (fun x hx => ?_)
        show _ = ((k.1 x).toNatClampNeg, va_up u.1 a sc x)
        rw [va_up_ne _ _ (hqa x hx)]
    obtain ⟨r1, r2, eq2, hB1, hB2, fin2⟩ := hO2.ins (sc := sc) hi hSi hanot (va_up_self _ _ _) (va_up_self _ _ _)
    have ef2 : va_up f2 o (jo_eO hd pa (nI qs.length) hr ps) = f2 := jz_self hfo2
    rw [← ef2] at hw
    have hlen2 := hO2.len
    refine lv_aload_n hx hb dX0_enter_55 rfl (lv_at hl 1 rfl) ?_
    refine lv_aload hx hb dX0_enter_56 (lv_at hl 0 rfl) ?_
    refine cl_O_71 (As := [.ref a]) (rest := []) hx hb hml hown hts hG hw (c_putIn l D ct (f0 := f2) (ns := hd :: qs) hV2 hN' hoL (by rw [eq2]) hO2.sub (by simp only [List.length_cons]; omega) hO2.rows hO2.1.2 hO2.h1 hB1 hB2 haP ha4 (fun z => by rcases List.mem_cons.mp z with z | z; exact hah z; exact hanot z) hO2.2.1) rfl ⟨Nat.le_of_ble_eq_true rfl, Nat.le_of_ble_eq_true rfl⟩ hoL (va_up_self _ _ _) hl.1 rfl (Nat.le_of_ble_eq_true rfl) dX0_enter_58 ⟨Nat.le_of_ble_eq_true rfl, Nat.le_of_ble_eq_true rfl⟩ (fun v L' f' H1 locs1 hp hw hcf => ?_)
    obtain ⟨rfl, eL3, f3, u3, hr3, ps3, ef3, hV3, eS3, eI3, hfr3, hrow3⟩ := hp
    rw [eL3, ef3] at hw
    obtain ⟨As', hins, hO3⟩ := fin2 u3 eS3 eI3 hrow3
    have ecnt3 : nI qs.length + 1 = nI (r1 ++ a :: r2).length := by rw [eq2, nI_1]; congr 1; simp; omega
    have hfrL : ∀ q ∈ L, q ≠ o → q ≠ pa → jo_N k PS q → f q = f q := (fun q _ _ _ _ => rfl)
    have hNm : ∀ q ∈ L, jo_N k PS q → jo_N k PS q := (fun q _ h => h)
    exact jx_vret hx hb hrt hlk hw (Nat.le_of_ble_eq_true rfl) (Nat.le_of_ble_eq_true rfl) dX0_enter_61 ⟨rfl, As', hins, hr3, ps3, k, u3, PS, r1 ++ a :: r2, S, ⟨hoL, hpL, by rw [ecnt3, va_up_self], by rw [va_up_ne _ _ hop.symm, hfr3 pa hNp']; exact hfp2, hV3.up hN', hO3⟩, (fun q h => h), fun q hq h1 h2 h3 => (by have hz := hfrL q hq h1 h2 h3; rw [va_up_ne _ _ h1, hfr3 q (hNm q hq h3), hf2, va_up_ne _ _ ((hNm q hq h3) a haP).1]; try exact hz), (fun q h => Or.inl h)⟩
end
section
section LA
variable {p : Program} {l : Launch} {e : Env} {R : Room} {s : State} {m : MethodId} {args : Array Value} {below : List Frame} {meth : Method} {c : Code} {H : Heap} {locs : List Loc} {cells slots : Nat} {Q : State → Prop} {D : va_G} {ct : Nat → ClassId} {A : Nat → Prop} {H0 : Heap} {L : List Nat}
variable {f : Nat → va_E} {k : jK} {u : jS} {PS qs : List Nat} {o hd : Nat} {cn : Int32} {E : va_E}
set_option maxHeartbeats 4000000 in
set_option maxRecDepth 100000 in
theorem lp_leaveAll (hx : p.tables.exec = Jvm.exec) (hb : c.code = cX0_leaveAll) (hown : s.vm.findClass RO = some m.cls) (hts : ∀ w ∈ jz_TT, w.before args s = true) (hG : jz_G D ct s) (hN : jo_N k PS o) (hrow : jr_ok k.2.2.1 u.2.2.1 u.2.2.2 0 (hd :: qs)) (hPS : ∀ x ∈ qs, x ∈ PS) (hh1 : ∀ x ∈ hd :: qs, 1 ≤ k.2.2.1 x)
    (kk : ∀ (f1 : Nat → va_E) (u1 : jS) (H : Heap) (locs : List Loc) (ls : Array Slot), jo_V (ct 0) (ct 1) L f1 k u1 PS → u1.1 = u.1 → u1.2.2 = u.2.2 → f1 o = E → (∀ q, q ≠ o → jo_N k PS q → f1 q = f q) → (∀ x ∈ qs, u1.2.1 x = 0) → (∀ x, x ∉ qs → u1.2.1 x = u.2.1 x) → jz_w D A H0 L f1 H locs → lv_has ls 3 [(0, .ref o), (1, .int cn)] → W p l e R s m args below meth c H locs cells slots Q (F0 m 34 ls [])) :
    ∀ (rest done : List Nat) (f1 : Nat → va_E) (u1 : jS) (H : Heap) (locs : List Loc) (ls : Array Slot), qs = done ++ rest → jo_V (ct 0) (ct 1) L f1 k u1 PS → u1.1 = u.1 → u1.2.2 = u.2.2 → f1 o = E → (∀ q, q ≠ o → jo_N k PS q → f1 q = f q) → (∀ x ∈ done, u1.2.1 x = 0) → (∀ x, x ∉ done → u1.2.1 x = u.2.1 x) → jz_w D A H0 L f1 H locs → lv_has ls 3 [(0, .ref o), (1, .int cn), (2, (va_rf (jr_fst k.2.2.1 0 rest)))] → W p l e R s m args below meth c H locs cells slots Q (F0 m 15 ls []) := by
  intro rest
  induction rest with
  | nil =>
    intro done f1 u1 H locs ls eq hV eS eN hfo hfr hd0 hd1 hw hl
    have hl : lv_has ls 3 [(0, .ref o), (1, .int cn), (2, .null)] := hl
    refine lv_aload_nN hx hb dX0_leaveAll_15 rfl (lv_at hl 2 rfl) ?_
    refine lv_ifnullN (tgt := 34) hx hb dX0_leaveAll_16 (by decide) ?_
    rw [List.append_nil] at eq
    subst eq
    exact kk f1 u1 H locs ls hV eS eN hfo hfr hd0 hd1 hw (lv_sub hl [0, 1] rfl)
  | cons b t ih =>
    intro done f1 u1 H locs ls eq hV eS eN hfo hfr hd0 hd1 hw hl
    have hbq : b ∈ qs := by rw [eq]; simp
    have hbP : b ∈ PS := hPS b hbq
    have hb0 : 0 < k.2.2.1 b := hh1 b (List.mem_cons_of_mem _ hbq)
    have hl : lv_has ls 3 [(0, .ref o), (1, .int cn), (2, .ref b)] := by rw [jr_fst_at hb0] at hl; exact hl
    refine lv_aload_n hx hb dX0_leaveAll_15 rfl (lv_at hl 2 rfl) ?_
    refine lv_ifnull hx hb dX0_leaveAll_16 ?_
    refine lv_aload_n hx hb dX0_leaveAll_19 rfl (lv_at hl 2 rfl) ?_
    refine lv_iconst (v := 0) hx hb dX0_leaveAll_20 (by decide) ?_
    refine pf_O_35 hx hb hown hts hG hw (hV.aL hbP) (hV.a hbP) rfl rfl dX0_leaveAll_21 (fun H locs hw => ?_)
    have epl : jo_eP k (u1.1, va_up u1.2.1 b 0, u1.2.2) b = .inr (2, [.int (k.1 b), .int (k.2.1 b), .int (nI (k.2.2.1 b)), .ref (k.2.2.2.1 b), .ref (k.2.2.2.2 b), .long (u1.1 b), .int 0]) := by simp only [jo_eP, va_up_self]
    have hV2 := hV.putI hbP 0
    rw [epl] at hV2
    obtain ⟨f2, hf2⟩ : ∃ z, z = va_up f1 b (.inr (2, [.int (k.1 b), .int (k.2.1 b), .int (nI (k.2.2.1 b)), .ref (k.2.2.2.1 b), .ref (k.2.2.2.2 b), .long (u1.1 b), .int 0])) := ⟨_, rfl⟩
    rw [← hf2] at hV2
    have hw : jz_w D A H0 L f2 H locs := by rw [hf2]; exact hw
    refine lv_aload_n hx hb dX0_leaveAll_24 rfl (lv_at hl 2 rfl) ?_
    refine gf_O_49 hx hb hown hts hG hw (hV2.aL hbP) (hV2.a hbP) dX0_leaveAll_25 ?_
    refine lv_iconst (v := nI 0) hx hb dX0_leaveAll_28 (by decide) ?_
    refine jx_aldqI hx hb hG hw (hV2.nL hbP) 1 (hV2.n hbP) rfl (by decide) (by decide) dX0_leaveAll_29 ?_
    have ex : u1.2.2.1 b 0 = jr_fst k.2.2.1 0 t := by
      rw [eN]
      exact (jr_atE (pre := hd :: done) hrow (by rw [eq]; rfl) hb0).1
    rw [ex]
    refine jx_astore_nq (lv' := [(2, (va_rf (jr_fst k.2.2.1 0 t))), (0, .ref o), (1, .int cn)]) hx hb dX0_leaveAll_30 rfl hl (by decide) rfl (fun ls hl => ?_)
    refine lv_goto (tgt := 15) hx hb dX0_leaveAll_31 (by decide) ?_
    refine ih (done ++ [b]) f2 (u1.1, va_up u1.2.1 b 0, u1.2.2) H locs ls (by rw [eq]; simp) hV2 eS eN ?_ (fun q h1 h2 => ?_) (fun x hx => ?_) (fun x hx => ?_) hw (lv_sub hl [1, 2, 0] rfl)
    · rw [hf2, va_up_ne _ _ (hN b hbP).1]; exact hfo
    · rw [hf2, va_up_ne _ _ (h2 b hbP).1]; exact hfr q h1 h2
    · show va_up u1.2.1 b 0 x = 0
      by_cases z : x = b
      · rw [z, va_up_self]
      · rw [va_up_ne _ _ z]
        rcases List.mem_append.mp hx with w | w
        · exact hd0 x w
        · exact absurd (List.mem_singleton.mp w) z
    · show va_up u1.2.1 b 0 x = _
      rw [va_up_ne _ _ (fun z => hx (by rw [z]; simp))]
      exact hd1 x (fun z => hx (List.mem_append_left _ z))
end LA
set_option maxHeartbeats 4000000 in
set_option maxRecDepth 100000 in
theorem c_leaveAll (l : Launch) (D : va_G) (ct : Nat → ClassId) {N : Nat} {L : List Nat} {f : Nat → va_E} {o hd pa hr : Nat} {ps : Int32} {k : jK} {u : jS} {PS qs : List Nat} {S : Nat → Option Nat} {As : List (Nat × Int64)} (hSt : jo_St N ct L f o hd pa hr ps k u PS qs S As) (hNb : N < 2 ^ 29) :
    jz_M l D ct yX0_leaveAll cX0_leaveAll 3 (some .int) ({ frames := 1, cells := 0, slots := 0, locals := 21 } : Room) [.ref o] L f (fun v L' f' => v = some (.int (nI qs.length)) ∧ jo_Ch N ct L f o hd pa k PS L' f' []) := by
  obtain ⟨hoL, hpL, hfo, hfp, hV, hOk⟩ := hSt
  have hN : jo_N k PS o := hV.nO (by decide) hfo
  have hNp : jo_N k PS pa := hV.nT (by decide) hfp
  have hop : o ≠ pa := jo_ne hfo hfp (fun e => by cases e)
  have hlenN := hOk.len
  have ef0 : va_up f o (jo_eO hd pa (nI qs.length) hr ps) = f := jz_self hfo
  have hdP := hOk.1.1
  have hdh : 0 < k.2.2.1 hd := by rw [hOk.1.2]; decide
  refine jx_enter (by decide) (Nat.le_of_ble_eq_true rfl) ?_
  intro p e s m below meth c C hw ls hl
  obtain ⟨hx, hb, hrt, hlk, hnm, hml, hown, hts, hG⟩ := C
  have hl : lv_has ls 3 [(0, .ref o)] := hl
  refine lv_aload_n hx hb dX0_leaveAll_0 rfl (lv_at hl 0 rfl) ?_
  refine gf_O_39 hx hb hown hts hG hw hoL hfo dX0_leaveAll_1 ?_
  refine lv_istore_n (lv' := [(1, .int (nI qs.length)), (0, .ref o)]) hx hb dX0_leaveAll_4 rfl hl (by decide) rfl (fun ls hl => ?_)
  refine lv_aload_n hx hb dX0_leaveAll_5 rfl (lv_at hl 1 rfl) ?_
  refine gf_O_14 hx hb hown hts hG hw hoL hfo dX0_leaveAll_6 ?_
  refine gf_O_49 hx hb hown hts hG hw (hV.aL hdP) (hV.a hdP) dX0_leaveAll_9 ?_
  refine lv_iconst (v := nI 0) hx hb dX0_leaveAll_12 (by decide) ?_
  refine jx_aldqI hx hb hG hw (hV.nL hdP) 1 (hV.n hdP) rfl (by decide) (by decide) dX0_leaveAll_13 ?_
  rw [(hOk.rows 0 (by decide)).1 hdh |>.1]
  refine jx_astore_nq (lv' := [(2, (va_rf (jr_fst k.2.2.1 0 qs))), (1, .int (nI qs.length)), (0, .ref o)]) hx hb dX0_leaveAll_14 rfl hl (by decide) rfl (fun ls hl => ?_)
  refine lp_leaveAll (u := u) (E := jo_eO hd pa (nI qs.length) hr ps) hx hb hown hts hG hN (hOk.rows 0 (by decide)) hOk.2.2.1 hOk.h1 (fun f1 u1 H locs ls hV1 eS eN hfo1 hfr1 hd0 hd1 hw hl => ?_) qs [] f u _ _ ls rfl hV rfl rfl hfo (fun _ _ _ => rfl) (fun x h => absurd h List.not_mem_nil) (fun _ _ => rfl) hw (lv_sub hl [2, 1, 0] rfl)
  refine lv_aload_n hx hb dX0_leaveAll_34 rfl (lv_at hl 0 rfl) ?_
  refine gf_O_14 hx hb hown hts hG hw hoL hfo1 dX0_leaveAll_35 ?_
  refine cl_O_27 (As := [.ref hd]) (rest := []) hx hb hml hown hts hG hw (c_makeBare l D ct (hV1.aL hdP) (hV1.nL hdP) (hV1.fL hdP) (hV1.a hdP) (hV1.n hdP) (hV1.r hdP)) rfl ⟨Nat.le_of_ble_eq_true rfl, Nat.le_of_ble_eq_true rfl⟩ hl.1 rfl (Nat.le_of_ble_eq_true rfl) dX0_leaveAll_38 ⟨Nat.le_of_ble_eq_true rfl, Nat.le_of_ble_eq_true rfl⟩ (fun v L' f' H1 locs1 hp hw hcf => ?_)
  obtain ⟨rfl, eL, g, h, hgh, ef⟩ := hp
  rw [eL, ef] at hw
  have hV2 := (hV1.putX hdP g).putF hdP h
  obtain ⟨f2, hf2⟩ : ∃ z, z = va_up (va_up f1 (k.2.2.2.1 hd) (jo_eN (ct 1) g)) (k.2.2.2.2 hd) (jo_eF (ct 0) h) := ⟨_, rfl⟩
  rw [← hf2] at hw hV2
  have hfo2 : f2 o = jo_eO hd pa (nI qs.length) hr ps := by rw [hf2, va_up_ne _ _ (hN hd hdP).2.2, va_up_ne _ _ (hN hd hdP).2.1]; exact hfo1
  refine lv_aload_n hx hb dX0_leaveAll_41 rfl (lv_at hl 0 rfl) ?_
  refine lv_iconst (v := nI 0) hx hb dX0_leaveAll_42 (by decide) ?_
  refine pf_O_39 hx hb hown hts hG hw hoL hfo2 dX0_leaveAll_43 (fun H locs hw => ?_)
  refine lv_iload_n hx hb dX0_leaveAll_46 rfl (lv_at hl 1 rfl) ?_
  have hO2 : jo_Ok (fun _ => False) N k (u1.1, u1.2.1, va_up u1.2.2.1 hd g, va_up u1.2.2.2 hd h) PS hd [] S [] := by
    refine ⟨hOk.1, by simp, fun x hx => absurd hx List.not_mem_nil, fun r hr => ⟨fun _ => ?_, trivial⟩, Nat.zero_le _, fun x hx hxn => ?_, hOk.tab, rfl, List.Pairwise.nil⟩
    · show va_up u1.2.2.1 hd g hd r = none ∧ va_up u1.2.2.2 hd h hd r = nI 1
      rw [va_up_self, va_up_self]
      exact hgh r hr
    · obtain ⟨m0, g1, g2, g3, g4, g5, g6, g7⟩ := hOk.six x hx hxn
      refine ⟨m0, g1, g2, g3, g4, g5, g6, Or.inr (Or.inr ⟨?_, List.not_mem_nil⟩)⟩
      by_cases z : x ∈ qs
      · exact hd0 x z
      · show u1.2.1 x = 0
        rw [hd1 x z]
        rcases g7 with w | ⟨w1, w2⟩ | ⟨w1, w2⟩
        · exact w.elim
        · exact absurd w2 z
        · exact w1
  exact jx_iret hx hb hrt hlk hw (Nat.le_refl _) (Nat.le_refl _) dX0_leaveAll_47 ⟨rfl, hr, ps, k, _, PS, [], S, ⟨hoL, hpL, by rw [va_up_self]; rfl, by rw [va_up_ne _ _ hop.symm, hf2, va_up_ne _ _ (hNp hd hdP).2.2, va_up_ne _ _ (hNp hd hdP).2.1, hfr1 pa hop.symm hNp]; exact hfp, hV2.up hN, hO2⟩, fun q h => h, fun q _ h1 h2 h3 => by rw [va_up_ne _ _ h1, hf2, va_up_ne _ _ (h3 hd hdP).2.2, va_up_ne _ _ (h3 hd hdP).2.1]; exact hfr1 q h1 h3, fun q h => Or.inl h⟩
set_option maxHeartbeats 4000000 in
set_option maxRecDepth 100000 in
theorem c_orderInit (l : Launch) (D : va_G) (ct : Nat → ClassId) {L : List Nat} {f : Nat → va_E} {o : Nat} (hoL : o ∈ L) (hfo : f o = .inr (1, [.null, .null, .int 0, .null, .int 0])) :
    jz_M l D ct yX0_init cX0_init 1 none ({ frames := 2, cells := 4, slots := 1015, locals := 42 } : Room) [.ref o] L f (fun v L' f' => v = none ∧ (∀ q ∈ L, q ∈ L') ∧ (∀ q ∈ L, q ≠ o → f' q = f q) ∧ ∃ hd pa hr ps k u PS qs S, jo_St 0 ct L' f' o hd pa hr ps k u PS qs S [] ∧ pa ∉ L ∧ ∀ q, ¬ jo_N k PS q → q ∉ L) := by
  refine jx_enter (by decide) (Nat.le_of_ble_eq_true rfl) ?_
  intro p e s m below meth c C hw ls hl
  obtain ⟨hx, hb, hrt, hlk, hnm, hml, hown, hts, hG⟩ := C
  have hl : lv_has ls 1 [(0, .ref o)] := hl
  refine lv_aload_n hx hb dX0_init_0 rfl (lv_at hl 0 rfl) ?_
  refine W.objInit hx hb hown (hts _ (by decide +kernel)) (hts _ (by decide +kernel)) (hts _ jz_objc) rfl (by rw [hml]; exact hl.1) rfl dX0_init_1 (Nat.le_of_ble_eq_true rfl) (Nat.le_of_ble_eq_true rfl) ?_
  refine W.eq (g2 := F0 m 4 ls []) rfl ?_
  refine lv_aload_n hx hb dX0_init_4 rfl (lv_at hl 0 rfl) ?_
  refine jx_new (own := RX0) (C := RX1) (T := TX1) (N := 7) (ci := 2) (fs := [.int 0, .int 0, .int 0, .null, .null, .long 0, .int 0]) hx hb hts jz_inP tyX1 tyX1_ok hown (by decide +kernel) (by decide +kernel) (by decide +kernel) hG hw rfl (fun j hj => by rcases (show j = 0 ∨ j = 1 ∨ j = 2 ∨ j = 3 ∨ j = 4 ∨ j = 5 ∨ j = 6 by omega) with rfl | rfl | rfl | rfl | rfl | rfl | rfl <;> rfl) (Nat.le_of_ble_eq_true rfl) (Nat.le_of_ble_eq_true rfl) dX0_init_5 (fun a H haL hw => ?_)
  refine lv_dup hx hb dX0_init_8 rfl ?_
  refine lv_iconst (v := (-1)) hx hb dX0_init_9 (by decide) ?_
  refine lv_iconst (v := nI 4) hx hb dX0_init_10 (by decide) ?_
  refine cl_O_11 (As := [.int (-1), .int (nI 4)]) (rest := [.ref a, .ref o]) hx hb hml hown hts hG hw (c_placeInit l D ct (List.mem_append_right _ (List.mem_singleton.mpr rfl)) (va_up_self _ _ _)) rfl ⟨Nat.le_of_ble_eq_true rfl, Nat.le_of_ble_eq_true rfl⟩ hl.1 rfl (Nat.le_of_ble_eq_true rfl) dX0_init_11 ⟨Nat.le_of_ble_eq_true rfl, Nat.le_of_ble_eq_true rfl⟩ (fun v L' f' H1 locs1 hp hw hcf => ?_)
  obtain ⟨rfl, n, r, hnL, hrL, hnr, eL, ea, en, er, eo⟩ := hp
  rw [eL] at hw
  have hneL : ∀ q ∈ L, q ≠ a := fun q hq z => haL (z ▸ hq)
  have hneN : ∀ q ∈ L, q ≠ n := fun q hq z => hnL (z ▸ List.mem_append_left _ hq)
  have hneR : ∀ q ∈ L, q ≠ r := fun q hq z => hrL (z ▸ List.mem_append_left _ hq)
  have hLL : ∀ q ∈ L, q ∈ (L ++ [a] ++ [n]) ++ [r] := fun q h => List.mem_append_left _ (List.mem_append_left _ (List.mem_append_left _ h))
  have eoq : ∀ q ∈ L, f' q = f q := fun q hq => by rw [eo q (hneL q hq) (hneN q hq) (hneR q hq), va_up_ne _ _ (hneL q hq)]
  have hfo1 : f' o = .inr (1, [.null, .null, .int 0, .null, .int 0]) := by rw [eoq o hoL]; exact hfo
  have hV1 : jo_V (ct 0) (ct 1) ((L ++ [a] ++ [n]) ++ [r]) f' (fun _ => -1, fun _ => jz_word (-1), fun _ => 4, fun _ => n, fun _ => r) (fun _ => 0, fun _ => 0, fun _ _ => none, fun _ _ => 0) [a] := by
    refine ⟨fun b hb => ?_, fun b hb d hd _ => (List.mem_singleton.mp hb).trans (List.mem_singleton.mp hd).symm, fun b hb d hd _ => (List.mem_singleton.mp hb).trans (List.mem_singleton.mp hd).symm⟩
    rw [List.mem_singleton.mp hb]
    exact ⟨List.mem_append_left _ (List.mem_append_left _ (List.mem_append_right _ (List.mem_singleton.mpr rfl))), List.mem_append_left _ (List.mem_append_right _ (List.mem_singleton.mpr rfl)), List.mem_append_right _ (List.mem_singleton.mpr rfl), ea, en, er⟩
  have hN1 : ∀ q ∈ L, jo_N ((fun _ => -1, fun _ => jz_word (-1), fun _ => 4, fun _ => n, fun _ => r) : jK) [a] q := fun q hq b hb => by
    rw [List.mem_singleton.mp hb]
    exact ⟨hneL q hq, hneN q hq, hneR q hq⟩
  have hN1r : ∀ q, ¬ jo_N ((fun _ => -1, fun _ => jz_word (-1), fun _ => 4, fun _ => n, fun _ => r) : jK) [a] q → q ∈ (L ++ [a] ++ [n]) ++ [r] ∧ q ∉ L := fun q hq => by
    refine ⟨Classical.byContradiction (fun z => hq (fun b hb => ?_)), fun z => hq (hN1 q z)⟩
    rw [List.mem_singleton.mp hb]
    simp only [List.mem_append, List.mem_singleton, not_or] at z
    exact ⟨z.1.1.2, z.1.2, z.2⟩
  have haP : a ∈ [a] := List.mem_singleton.mpr rfl
  generalize hkg : ((fun _ => -1, fun _ => jz_word (-1), fun _ => 4, fun _ => n, fun _ => r) : jK) = k at hV1 hN1 hN1r
  have hk4 : k.2.2.1 a = 4 := by rw [← hkg]
  generalize hLg : (L ++ [a] ++ [n]) ++ [r] = L1 at hw hV1 hLL hN1r
  generalize hug : ((fun _ => 0, fun _ => 0, fun _ _ => none, fun _ _ => 0) : jS) = u at hV1
  refine pf_O_14 hx hb hown hts hG hw (hLL _ hoL) hfo1 hnm dX0_init_14 (fun H locs hw => ?_)
  have hVp := hV1.up (e := .inr (1, [.ref a, .null, .int 0, .null, .int 0])) (hN1 o hoL)
  refine lv_aload_n hx hb dX0_init_17 rfl (lv_at hl 0 rfl) ?_
  refine lv_sipush (v := nI 1000) hx hb dX0_init_18 (by decide) ?_
  refine jx_newq hx hb hts hown (by decide +kernel) (by decide +kernel) hG hw 1 rfl (N' := 1000) (nI_pos (by decide)) (nI_clamp (by decide)) (by decide) (Nat.le_of_ble_eq_true rfl) (Nat.le_of_ble_eq_true rfl) dX0_init_21 (fun pa H hpL hw => ?_)
  have hpne : ∀ q ∈ L, q ≠ pa := fun q hq z => hpL (z ▸ hLL q hq)
  have hopa : o ≠ pa := hpne o hoL
  have hNpa : jo_N k [a] pa := Classical.byContradiction (fun z => hpL (hN1r pa z).1)
  have hLL2 : ∀ q ∈ L, q ∈ L1 ++ [pa] := fun q hq => List.mem_append_left _ (hLL q hq)
  refine pf_O_20 hx hb hown hts hG hw (hLL2 _ hoL) (by rw [va_up_ne _ _ hopa, va_up_self]) hnm dX0_init_24 (fun H locs hw => ?_)
  rw [jz_uu2 hopa] at hw
  refine lv_aload_n hx hb dX0_init_27 rfl (lv_at hl 0 rfl) ?_
  refine lv_aload_n hx hb dX0_init_28 rfl (lv_at hl 0 rfl) ?_
  refine gf_O_14 hx hb hown hts hG hw (hLL2 _ hoL) (by rw [va_up_ne _ _ hopa, va_up_self]) dX0_init_29 ?_
  refine pf_O_24 hx hb hown hts hG hw (hLL2 _ hoL) (by rw [va_up_ne _ _ hopa, va_up_self]) dX0_init_32 (fun H locs hw => ?_)
  rw [jz_uu2 hopa] at hw
  refine lv_aload_n hx hb dX0_init_35 rfl (lv_at hl 0 rfl) ?_
  refine gf_O_14 hx hb hown hts hG hw (hLL2 _ hoL) (by rw [va_up_ne _ _ hopa, va_up_self]) dX0_init_36 ?_
  have hV2 : jo_V (ct 0) (ct 1) (L1 ++ [pa]) (va_up (va_up f' o (.inr (1, [.ref a, .ref pa, .int 0, .ref a, .int 0]))) pa (jo_eT (ct 1) (fun _ => none))) k u [a] := ((hV1.up (hN1 o hoL)).up hNpa).keep (fun q hq => List.mem_append_left _ hq) (fun _ _ => rfl)
  obtain ⟨f2, hf2⟩ : ∃ z, z = va_up (va_up f' o (.inr (1, [.ref a, .ref pa, .int 0, .ref a, .int 0]))) pa (jo_eT (ct 1) (fun _ => none)) := ⟨_, rfl⟩
  rw [← hf2] at hV2
  have hw : jz_w D (va_A (va_pl L f) s.heap.size) s.heap (L1 ++ [pa]) f2 H locs := by rw [hf2]; exact hw
  refine cl_O_27 (As := [.ref a]) (rest := []) hx hb hml hown hts hG hw (c_makeBare l D ct (hV2.aL haP) (hV2.nL haP) (hV2.fL haP) (hV2.a haP) (hV2.n haP) (hV2.r haP)) rfl ⟨Nat.le_of_ble_eq_true rfl, Nat.le_of_ble_eq_true rfl⟩ hl.1 rfl (Nat.le_of_ble_eq_true rfl) dX0_init_39 ⟨Nat.le_of_ble_eq_true rfl, Nat.le_of_ble_eq_true rfl⟩ (fun v L' f' H1 locs1 hp hw hcf => ?_)
  obtain ⟨rfl, eL2, g, h, hgh, ef2⟩ := hp
  rw [eL2, ef2] at hw
  have hV3 := (hV2.putX haP g).putF haP h
  obtain ⟨f3, hf3⟩ : ∃ z, z = va_up (va_up f2 (k.2.2.2.1 a) (jo_eN (ct 1) g)) (k.2.2.2.2 a) (jo_eF (ct 0) h) := ⟨_, rfl⟩
  rw [← hf3] at hw hV3
  have hf3q : ∀ q, jo_N k [a] q → f3 q = f2 q := fun q hq => by rw [hf3, va_up_ne _ _ (hq a haP).2.2, va_up_ne _ _ (hq a haP).2.1]
  have hO3 : jo_Ok (fun _ => False) 0 k (u.1, u.2.1, va_up u.2.2.1 a g, va_up u.2.2.2 a h) [a] a [] (fun _ => none) [] := by
    refine ⟨⟨haP, hk4⟩, by simp, fun x hx => absurd hx List.not_mem_nil, fun r hr => ⟨fun _ => ?_, trivial⟩, Nat.le_refl _, fun x hx hxn => absurd (List.mem_singleton.mp hx) hxn, fun m0 b _ hb => (by cases hb), rfl, List.Pairwise.nil⟩
    show va_up u.2.2.1 a g a r = none ∧ va_up u.2.2.2 a h a r = nI 1
    rw [va_up_self, va_up_self]
    exact hgh r hr
  exact jx_vret hx hb hrt hlk hw (Nat.le_of_ble_eq_true rfl) (Nat.le_of_ble_eq_true rfl) dX0_init_42 ⟨rfl, hLL2, fun q hq h1 => by rw [hf3q q (hN1 q hq), hf2, va_up_ne _ _ (hpne q hq), va_up_ne _ _ h1]; exact eoq q hq, a, pa, a, 0, k, _, [a], [], fun _ => none, ⟨hLL2 o hoL, List.mem_append_right _ (List.mem_singleton.mpr rfl), by rw [hf3q o (hN1 o hoL), hf2, va_up_ne _ _ hopa, va_up_self]; rfl, by rw [hf3q pa hNpa, hf2, va_up_self], hV3, hO3⟩, fun z => hpL (hLL pa z), fun q hq => (hN1r q hq).2⟩
end
section
/-! what the calls answer, over the members in their order -/
def jq_get (A : List (Nat × Int64)) (j : Nat) : Option Int64 := (A.find? (fun x => x.1 == j)).map (fun x => x.2)
def jq_del (A : List (Nat × Int64)) (j : Nat) : List (Nat × Int64) := A.filter (fun x => !(x.1 == j))
def jq_ahb (x : Nat × Int64) (sc : Int64) (wd : Int32) : Bool := decide (x.2 < sc) || (decide (x.2 = sc) && decide (jz_word (nI x.1) < wd))
def jq_ins (A : List (Nat × Int64)) (j : Nat) (s : Int64) : List (Nat × Int64) := A.filter (fun x => jq_ahb x s (jz_word (nI j))) ++ (j, s) :: A.filter (fun x => !jq_ahb x s (jz_word (nI j)))
def jq_idx (A : List (Nat × Int64)) (j : Nat) : Nat := A.findIdx (fun x => x.1 == j)
def jq_low (sc : Int64) (too : Int32) (x : Nat × Int64) : Bool := decide (x.2 < sc) || (!(decide (too = 0)) && decide (x.2 = sc))
def jq_sum : Int32 → List (Nat × Int64) → Int32
  | s, [] => s
  | s, x :: t => jq_sum (31 * s + nI x.1) t
def jq_wf (A : List (Nat × Int64)) : Prop := A.Pairwise jz_lt ∧ (A.map (fun x => x.1)).Nodup ∧ ∀ x ∈ A, x.1 < 1000
def sq_set (A : List (Nat × Int64)) (j : Nat) (s : Int64) : Int32 × List (Nat × Int64) := match jq_get A j with
  | none => (1, jq_ins A j s)
  | some t => if t = s then (0, A) else (2, jq_ins (jq_del A j) j s)
def sq_rem (A : List (Nat × Int64)) (j : Nat) : Int32 × List (Nat × Int64) := match jq_get A j with
  | none => (0, A)
  | some _ => (1, jq_del A j)
abbrev jq_S : Type := Nat → List (Nat × Int64)
abbrev jq_o (o : Int32) : Prop := 0 ≤ o ∧ o < 4
abbrev jq_m (m : Int32) : Prop := 0 ≤ m ∧ m < 1000
def sp_set (As : jq_S) (o m : Int32) (s : Int64) : Int32 × jq_S := if jq_o o ∧ jq_m m then ((sq_set (As o.toNatClampNeg) m.toNatClampNeg s).1, va_up As o.toNatClampNeg (sq_set (As o.toNatClampNeg) m.toNatClampNeg s).2) else (-1, As)
def sp_rem (As : jq_S) (o m : Int32) : Int32 × jq_S := if jq_o o ∧ jq_m m then ((sq_rem (As o.toNatClampNeg) m.toNatClampNeg).1, va_up As o.toNatClampNeg (sq_rem (As o.toNatClampNeg) m.toNatClampNeg).2) else (-1, As)
def sp_clr (As : jq_S) (o : Int32) : Int32 × jq_S := if jq_o o then (nI (As o.toNatClampNeg).length, va_up As o.toNatClampNeg []) else (-1, As)
def sp_score (As : jq_S) (o m : Int32) : Int64 := if jq_o o ∧ jq_m m then (jq_get (As o.toNatClampNeg) m.toNatClampNeg).getD 0 else -1
def sp_rank (As : jq_S) (o m : Int32) : Int32 := if jq_o o ∧ jq_m m then (match jq_get (As o.toNatClampNeg) m.toNatClampNeg with
  | none => -1
  | some _ => nI (jq_idx (As o.toNatClampNeg) m.toNatClampNeg)) else -1
def sp_at (As : jq_S) (o r : Int32) : Int32 := if jq_o o ∧ 0 ≤ r ∧ r < nI (As o.toNatClampNeg).length then (match (As o.toNatClampNeg)[r.toNatClampNeg]? with
  | none => -1
  | some x => nI x.1) else -1
def sp_below (As : jq_S) (o : Int32) (sc : Int64) (too : Int32) : Int32 := if jq_o o then nI ((As o.toNatClampNeg).countP (jq_low sc too)) else -1
def sp_size (As : jq_S) (o : Int32) : Int32 := if jq_o o then nI (As o.toNatClampNeg).length else -1
def sp_walk (As : jq_S) (o fr n : Int32) : Int32 := if jq_o o ∧ ¬ fr < 0 ∧ ¬ n < 0 ∧ n ≤ 1000 then jq_sum 7 (((As o.toNatClampNeg).drop fr.toNatClampNeg).take n.toNatClampNeg) else -1
theorem jq_oN {o : Int32} (h : jq_o o) : ∃ i, i < 4 ∧ o = nI i ∧ o.toNatClampNeg = i := by
  obtain ⟨i, h1, h2⟩ := nI_of (Int32.not_lt.mpr h.1)
  have h3 : nI i < nI 4 := by rw [← h2]; exact h.2
  have h4 : i < 4 := (nI_ltI h1 (by decide)).mp h3
  exact ⟨i, h4, h2, by rw [h2]; exact nI_clamp h1⟩
theorem jq_mN {m : Int32} (h : jq_m m) : ∃ j, j < 1000 ∧ m = nI j ∧ m.toNatClampNeg = j := by
  obtain ⟨i, h1, h2⟩ := nI_of (Int32.not_lt.mpr h.1)
  have h3 : nI i < nI 1000 := by rw [← h2]; exact h.2
  have h4 : i < 1000 := (nI_ltI h1 (by decide)).mp h3
  exact ⟨i, h4, h2, by rw [h2]; exact nI_clamp h1⟩
theorem jq_oI {i : Nat} (h : i < 4) : jq_o (nI i) ∧ (nI i).toNatClampNeg = i := ⟨⟨nI_pos' (by omega), nI_lt h (by decide)⟩, nI_clamp (by omega)⟩
theorem jq_mI {i : Nat} (h : i < 1000) : jq_m (nI i) ∧ (nI i).toNatClampNeg = i := ⟨⟨nI_pos' (by omega), nI_lt h (by decide)⟩, nI_clamp (by omega)⟩
theorem jq_get_none {A : List (Nat × Int64)} {j : Nat} (h : ∀ x ∈ A, x.1 ≠ j) : jq_get A j = none := by
  have : A.find? (fun x => x.1 == j) = none := List.find?_eq_none.mpr (fun x hx => by simpa using h x hx)
  rw [jq_get, this]
  rfl
theorem jq_get_mem {A : List (Nat × Int64)} {j : Nat} {s : Int64} (h : jq_get A j = some s) : (j, s) ∈ A := by
  rw [jq_get] at h
  cases e : A.find? (fun x => x.1 == j) with
  | none => rw [e] at h; cases h
  | some x =>
    rw [e] at h
    have h1 := List.find?_some e
    have h2 := List.mem_of_find?_eq_some e
    have h3 : x.1 = j := by simpa using h1
    have h4 : x.2 = s := Option.some.inj h
    rw [← h3, ← h4]
    exact h2
theorem jq_uniq {A : List (Nat × Int64)} (hn : (A.map (fun x => x.1)).Nodup) {j : Nat} {s t : Int64} (h1 : (j, s) ∈ A) (h2 : (j, t) ∈ A) : s = t := by
  induction A with
  | nil => exact absurd h1 List.not_mem_nil
  | cons y u ih =>
    rw [List.map_cons, List.nodup_cons] at hn
    rcases List.mem_cons.mp h1 with q | q
    · rcases List.mem_cons.mp h2 with z | z
      · have := q.trans z.symm
        exact congrArg Prod.snd this
      · exact absurd (List.mem_map.mpr ⟨_, z, by rw [← q]⟩) hn.1
    · rcases List.mem_cons.mp h2 with z | z
      · exact absurd (List.mem_map.mpr ⟨_, q, by rw [← z]⟩) hn.1
      · exact ih hn.2 q z
theorem jq_get_some {A : List (Nat × Int64)} (hn : (A.map (fun x => x.1)).Nodup) {j : Nat} {s : Int64} (h : (j, s) ∈ A) : jq_get A j = some s := by
  cases e : jq_get A j with
  | none =>
    rw [jq_get, Option.map_eq_none_iff, List.find?_eq_none] at e
    exact absurd (by simp) (e _ h)
  | some t => rw [jq_uniq hn h (jq_get_mem e)]
theorem jq_ahb_iff {x : Nat × Int64} {sc : Int64} {wd : Int32} : jq_ahb x sc wd = true ↔ jz_ah x.2 (jz_word (nI x.1)) sc wd := by
  simp [jq_ahb, jz_ah]
theorem jq_ins_of {A A' : List (Nat × Int64)} {j : Nat} {s : Int64} (h : jz_insR A j s A') : A' = jq_ins A j s := by
  obtain ⟨A1, A2, e1, e2, h1, h2⟩ := h
  have f1 : ∀ x ∈ A1, jq_ahb x s (jz_word (nI j)) = true := fun x hx => jq_ahb_iff.mpr (h1 x hx)
  have f2 : ∀ x ∈ A2, ¬ jq_ahb x s (jz_word (nI j)) = true := fun x hx q => jz_ah_irr (jz_ah_trans (h2 x hx) (jq_ahb_iff.mp q))
  rw [e2, jq_ins, e1, List.filter_append, List.filter_append, List.filter_eq_self.mpr f1, List.filter_eq_nil_iff.mpr f2, List.filter_eq_nil_iff.mpr (fun x hx q => by rw [f1 x hx] at q; cases q), List.filter_eq_self.mpr (fun x hx => by simpa using f2 x hx)]
  simp
theorem jq_del_of {A A' : List (Nat × Int64)} {j : Nat} (hn : (A.map (fun x => x.1)).Nodup) (h : jz_delR A j A') : A' = jq_del A j := by
  obtain ⟨A1, A2, s, e1, e2⟩ := h
  rw [e1, List.map_append, List.map_cons] at hn
  have hd := List.nodup_append.mp hn
  have f1 : ∀ x ∈ A1, (!(x.1 == j)) = true := fun x hx => by
    have : x.1 ≠ j := hd.2.2 x.1 (List.mem_map.mpr ⟨x, hx, rfl⟩) j List.mem_cons_self
    simpa using this
  have f2 : ∀ x ∈ A2, (!(x.1 == j)) = true := fun x hx => by
    have : x.1 ≠ j := fun q => (List.nodup_cons.mp hd.2.1).1 (List.mem_map.mpr ⟨x, hx, q⟩)
    simpa using this
  rw [e2, jq_del, e1, List.filter_append, List.filter_eq_self.mpr f1, List.filter_cons, if_neg (by simp), List.filter_eq_self.mpr f2]
theorem jq_idx_of {A1 A2 : List (Nat × Int64)} {j : Nat} {s : Int64} (h : ∀ x ∈ A1, x.1 ≠ j) : jq_idx (A1 ++ (j, s) :: A2) j = A1.length := by
  rw [jq_idx]
  induction A1 with
  | nil => simp [List.findIdx_cons]
  | cons y u ih =>
    have hy : y.1 ≠ j := h y List.mem_cons_self
    rw [List.cons_append, List.findIdx_cons]
    have e : (y.1 == j) = false := by simpa using hy
    rw [e]
    simp only [cond_false, List.length_cons]
    rw [ih (fun x hx => h x (List.mem_cons_of_mem _ hx))]
theorem jq_upSelf {As : jq_S} {i : Nat} : va_up As i (As i) = As := by
  funext x
  by_cases q : x = i
  · rw [q, va_up_self]
  · rw [va_up_ne _ _ q]
section OKW
variable {N : Nat} {k : jK} {u : jS} {PS : List Nat} {hd : Nat} {qs : List Nat} {S : Nat → Option Nat} {As : List (Nat × Int64)}
theorem jo_Ok.wf (h : jo_Ok (fun _ => False) N k u PS hd qs S As) : jq_wf As := by
  refine ⟨h.sorted, ?_, fun x hx => ?_⟩
  · rw [h.eqA, List.map_map]
    refine List.pairwise_map.mpr (List.Pairwise.imp_of_mem ?_ (List.nodup_cons.mp h.2.1).2)
    intro x y hx hy hne e
    refine hne ?_
    obtain ⟨m, h1, h2, -, -, h5⟩ := h.mem hx
    obtain ⟨n, g1, g2, -, -, g5⟩ := h.mem hy
    have e2 : (k.1 x).toNatClampNeg = (k.1 y).toNatClampNeg := e
    rw [h5, g5] at e2
    rw [e2, g2] at h2
    exact (Option.some.inj h2).symm
  · rw [h.eqA] at hx
    obtain ⟨y, hy, rfl⟩ := List.mem_map.mp hx
    obtain ⟨m, h1, -, -, -, h5⟩ := h.mem hy
    show (k.1 y).toNatClampNeg < 1000
    rw [h5]
    exact h1
theorem jo_Ok.getS (h : jo_Ok (fun _ => False) N k u PS hd qs S As) {j a : Nat} (hj : j < 1000) (hS : S j = some a) (hin : ¬ u.2.1 a = 0) : jq_get As j = some (u.1 a) ∧ a ∈ qs := by
  obtain ⟨haP, hah, hka⟩ := h.tab j a hj hS
  obtain ⟨m0, -, -, -, -, -, -, g7⟩ := h.six a haP hah
  have haq : a ∈ qs := by
    rcases g7 with z | ⟨z1, z2⟩ | ⟨z1, z2⟩
    · exact z.elim
    · exact z2
    · exact absurd z1 hin
  refine ⟨jq_get_some h.wf.2.1 ?_, haq⟩
  rw [h.eqA]
  exact List.mem_map.mpr ⟨a, haq, by rw [hka, nI_clamp (by omega)]⟩
theorem jo_Ok.getN (h : jo_Ok (fun _ => False) N k u PS hd qs S As) {j : Nat} (hS : ∀ a, S j = some a → u.2.1 a = 0) : jq_get As j = none := by
  refine jq_get_none (fun x hx q => ?_)
  rw [h.eqA] at hx
  obtain ⟨y, hy, rfl⟩ := List.mem_map.mp hx
  obtain ⟨m, h1, h2, h3, -, h5⟩ := h.mem hy
  have e : m = j := h5.symm.trans q
  rw [e] at h2
  have hz := hS y h2
  obtain ⟨m0, -, -, -, -, -, -, g7⟩ := h.six y (h.2.2.1 y hy) (h.nhd hy)
  rcases g7 with z | ⟨z1, z2⟩ | ⟨z1, z2⟩
  · exact z
  · rw [hz] at z1; exact absurd z1 (by decide)
  · exact z2 hy
end OKW
end
section
/-! the object: four orders apart -/
def jo_Own (N : Nat) (ct : Nat → ClassId) (L : List Nat) (f : Nat → va_E) (o : Nat) (A : List (Nat × Int64)) (FP : Nat → Prop) : Prop :=
  ∃ (hd pa hr : Nat) (ps : Int32) (k : jK) (u : jS) (PS qs : List Nat) (S : Nat → Option Nat), jo_St N ct L f o hd pa hr ps k u PS qs S A ∧ ∀ q, FP q ↔ (q = o ∨ q = pa ∨ ¬ jo_N k PS q)
theorem jo_V.inL {cI cP : ClassId} {L : List Nat} {f : Nat → va_E} {k : jK} {u : jS} {PS : List Nat} (h : jo_V cI cP L f k u PS) {q : Nat} (hq : ¬ jo_N k PS q) : q ∈ L :=
  Classical.byContradiction (fun z => hq (fun b hb => ⟨fun w => z (w ▸ h.aL hb), fun w => z (w ▸ h.nL hb), fun w => z (w ▸ h.fL hb)⟩))
theorem jo_Own.inL {N : Nat} {ct : Nat → ClassId} {L : List Nat} {f : Nat → va_E} {o : Nat} {A : List (Nat × Int64)} {FP : Nat → Prop} (h : jo_Own N ct L f o A FP) {q : Nat} (hq : FP q) : q ∈ L := by
  obtain ⟨hd, pa, hr, ps, k, u, PS, qs, S, hS, hF⟩ := h
  rcases (hF q).mp hq with z | z | z
  · rw [z]; exact hS.1
  · rw [z]; exact hS.2.1
  · exact hS.2.2.2.2.1.inL z
theorem jo_Own.keep {N N' : Nat} {ct : Nat → ClassId} {L L' : List Nat} {f f' : Nat → va_E} {o : Nat} {A : List (Nat × Int64)} {FP : Nat → Prop} (h : jo_Own N ct L f o A FP) (hN : N ≤ N') (hL : ∀ q ∈ L, q ∈ L') (e : ∀ q, FP q → f' q = f q) : jo_Own N' ct L' f' o A FP := by
  obtain ⟨hd, pa, hr, ps, k, u, PS, qs, S, ⟨h1, h2, h3, h4, h5, h6⟩, hF⟩ := h
  refine ⟨hd, pa, hr, ps, k, u, PS, qs, S, ⟨hL _ h1, hL _ h2, ?_, ?_, h5.keep hL (fun q hq => e q ((hF q).mpr (Or.inr (Or.inr hq)))), h6.mono hN⟩, hF⟩
  · rw [e o ((hF o).mpr (Or.inl rfl))]; exact h3
  · rw [e pa ((hF pa).mpr (Or.inr (Or.inl rfl)))]; exact h4
abbrev jo_eA (cO : ClassId) (g : Nat → Option Nat) : va_E := .inl (cO, 4, .inr (.inr (.inr (.inr g))))
def jX (N : Nat) (ct : Nat → ClassId) (x : Nat) (L : List Nat) (f : Nat → va_E) (As : jq_S) : Prop :=
  ∃ (oa : Nat) (g : Nat → Option Nat) (od : Nat → Nat) (FP : Nat → Nat → Prop), x ∈ L ∧ oa ∈ L ∧ f x = .inr (0, [.ref oa]) ∧ f oa = jo_eA (ct 2) g ∧ (∀ i, i < 4 → g i = some (od i) ∧ jo_Own N ct L f (od i) (As i) (FP i) ∧ ¬ FP i x ∧ ¬ FP i oa) ∧ ∀ i j, i < 4 → j < 4 → i ≠ j → ∀ q, FP i q → ¬ FP j q
theorem jX.mono {N N' : Nat} {ct : Nat → ClassId} {x : Nat} {L : List Nat} {f : Nat → va_E} {As : jq_S} (h : jX N ct x L f As) (hN : N ≤ N') : jX N' ct x L f As := by
  obtain ⟨oa, g, od, FP, h1, h2, h3, h4, h5, h6⟩ := h
  exact ⟨oa, g, od, FP, h1, h2, h3, h4, fun i hi => ⟨(h5 i hi).1, (h5 i hi).2.1.keep hN (fun _ q => q) (fun _ _ => rfl), (h5 i hi).2.2⟩, h6⟩
theorem jX.base {N : Nat} {ct : Nat → ClassId} {x : Nat} {L : List Nat} {f : Nat → va_E} {As : jq_S} (h : jX N ct x L f As) : ∃ (oa : Nat) (g : Nat → Option Nat), x ∈ L ∧ oa ∈ L ∧ f x = .inr (0, [.ref oa]) ∧ f oa = jo_eA (ct 2) g := by
  obtain ⟨oa, g, od, FP, h1, h2, h3, h4, -⟩ := h
  exact ⟨oa, g, h1, h2, h3, h4⟩
theorem jX.opn {N : Nat} {ct : Nat → ClassId} {x : Nat} {L : List Nat} {f : Nat → va_E} {As : jq_S} (h : jX N ct x L f As) {i : Nat} (hi : i < 4) : ∃ (oa : Nat) (g : Nat → Option Nat) (o hd pa hr : Nat) (ps : Int32) (k : jK) (u : jS) (PS qs : List Nat) (S : Nat → Option Nat), x ∈ L ∧ oa ∈ L ∧ f x = .inr (0, [.ref oa]) ∧ f oa = jo_eA (ct 2) g ∧ g i = some o ∧ jo_St N ct L f o hd pa hr ps k u PS qs S (As i) ∧
    ∀ (N' : Nat) (L' : List Nat) (f' : Nat → va_E) (A' : List (Nat × Int64)), N ≤ N' → jo_Ch N' ct L f o hd pa k PS L' f' A' → jX N' ct x L' f' (va_up As i A') := by
  obtain ⟨oa, g, od, FP, h1, h2, h3, h4, h5, h6⟩ := h
  obtain ⟨hgi, ⟨hd, pa, hr, ps, k, u, PS, qs, S, hS, hF⟩, hnx, hna⟩ := h5 i hi
  refine ⟨oa, g, od i, hd, pa, hr, ps, k, u, PS, qs, S, h1, h2, h3, h4, hgi, hS, fun N' L' f' A' hNN hC => ?_⟩
  obtain ⟨hr', ps', k', u', PS', qs', S', hS', hL, hfr, hNN2⟩ := hC
  have hnF : ∀ q, ¬ FP i q → q ≠ od i ∧ q ≠ pa ∧ jo_N k PS q := fun q hq => ⟨fun z => hq ((hF q).mpr (Or.inl z)), fun z => hq ((hF q).mpr (Or.inr (Or.inl z))), Classical.byContradiction (fun z => hq ((hF q).mpr (Or.inr (Or.inr z))))⟩
  have hout : ∀ q ∈ L, ¬ FP i q → f' q = f q := fun q hq hn => hfr q hq (hnF q hn).1 (hnF q hn).2.1 (hnF q hn).2.2
  have hnew : ∀ q, (q = od i ∨ q = pa ∨ ¬ jo_N k' PS' q) → FP i q ∨ q ∉ L := fun q hq => by
    rcases hq with z | z | z
    · exact Or.inl ((hF q).mpr (Or.inl z))
    · exact Or.inl ((hF q).mpr (Or.inr (Or.inl z)))
    · rcases hNN2 q z with w | w
      · exact Or.inl ((hF q).mpr (Or.inr (Or.inr w)))
      · exact Or.inr w
  refine ⟨oa, g, od, va_up FP i (fun q => q = od i ∨ q = pa ∨ ¬ jo_N k' PS' q), hL _ h1, hL _ h2, ?_, ?_, fun j hj => ?_, fun a b ha hb hab q hqa hqb => ?_⟩
  · rw [hout x h1 hnx]; exact h3
  · rw [hout oa h2 hna]; exact h4
  · by_cases q : j = i
    · subst q
      rw [va_up_self, va_up_self]
      refine ⟨hgi, ⟨hd, pa, hr', ps', k', u', PS', qs', S', hS', fun q => Iff.rfl⟩, fun z => ?_, fun z => ?_⟩
      · rcases hnew x z with w | w
        · exact hnx w
        · exact w h1
      · rcases hnew oa z with w | w
        · exact hna w
        · exact w h2
    · rw [va_up_ne _ _ q, va_up_ne _ _ q]
      obtain ⟨g1, g2, g3, g4⟩ := h5 j hj
      exact ⟨g1, g2.keep hNN hL (fun z hz => hout z (g2.inL hz) (h6 j i hj hi q z hz)), g3, g4⟩
  · by_cases qa : a = i
    · subst qa
      rw [va_up_self] at hqa
      rw [va_up_ne _ _ (fun z => hab z.symm)] at hqb
      rcases hnew q hqa with w | w
      · exact h6 a b ha hb hab q w hqb
      · exact w ((h5 b hb).2.1.inL hqb)
    · rw [va_up_ne _ _ qa] at hqa
      by_cases qb : b = i
      · subst qb
        rw [va_up_self] at hqb
        rcases hnew q hqb with w | w
        · exact h6 a b ha hb hab q hqa w
        · exact w ((h5 a ha).2.1.inL hqa)
      · rw [va_up_ne _ _ qb] at hqb
        exact h6 a b ha hb hab q hqa hqb
theorem jo_St.same {N : Nat} {ct : Nat → ClassId} {L : List Nat} {f : Nat → va_E} {o hd pa hr : Nat} {ps : Int32} {k : jK} {u : jS} {PS qs : List Nat} {S : Nat → Option Nat} {A : List (Nat × Int64)} (h : jo_St N ct L f o hd pa hr ps k u PS qs S A) (hr' : Nat) (ps' : Int32) : jo_Ch N ct L f o hd pa k PS L (va_up f o (jo_eO hd pa (nI qs.length) hr' ps')) A := by
  obtain ⟨hoL, hpL, hfo, hfp, hV, hOk⟩ := h
  have hN : jo_N k PS o := hV.nO (by decide) hfo
  have hop : o ≠ pa := jo_ne hfo hfp (fun e => by cases e)
  exact ⟨hr', ps', k, u, PS, qs, S, ⟨hoL, hpL, va_up_self _ _ _, by rw [va_up_ne _ _ hop.symm]; exact hfp, hV.up hN, hOk⟩, fun q h => h, fun q _ h1 _ _ => va_up_ne _ _ h1, fun q h => Or.inl h⟩
theorem sp_set_at {As : jq_S} {i j : Nat} {s : Int64} (hi : i < 4) (hj : j < 1000) : sp_set As (nI i) (nI j) s = ((sq_set (As i) j s).1, va_up As i (sq_set (As i) j s).2) := by
  rw [sp_set, if_pos ⟨(jq_oI hi).1, (jq_mI hj).1⟩, (jq_oI hi).2, (jq_mI hj).2]
theorem sp_rem_at {As : jq_S} {i j : Nat} (hi : i < 4) (hj : j < 1000) : sp_rem As (nI i) (nI j) = ((sq_rem (As i) j).1, va_up As i (sq_rem (As i) j).2) := by
  rw [sp_rem, if_pos ⟨(jq_oI hi).1, (jq_mI hj).1⟩, (jq_oI hi).2, (jq_mI hj).2]
end
section
set_option maxHeartbeats 4000000 in
set_option maxRecDepth 100000 in
theorem c_orderOf (l : Launch) (D : va_G) (ct : Nat → ClassId) {L : List Nat} {f : Nat → va_E} {x oa : Nat} {g : Nat → Option Nat} {ov : Int32} (hxL : x ∈ L) (haL : oa ∈ L) (hfx : f x = .inr (0, [.ref oa])) (hfa : f oa = jo_eA (ct 2) g) :
    jz_M l D ct yX2_orderOf cX2_orderOf 2 (some (.object "JumpOrder$Order")) ({ frames := 0, cells := 0, slots := 0, locals := 0 } : Room) [.ref x, .int ov] L f (fun v L' f' => ((∃ i, i < 4 ∧ ov = nI i ∧ v = some (va_rf (g i))) ∨ (¬ jq_o ov ∧ v = some .null)) ∧ L' = L ∧ f' = f) := by
  refine jx_enter (by decide) (Nat.le_of_ble_eq_true rfl) ?_
  intro p e s m below meth c C hw ls hl
  obtain ⟨hx, hb, hrt, hlk, hnm, hml, hown, hts, hG⟩ := C
  have hl : lv_has ls 2 [(0, .ref x), (1, .int ov)] := hl
  refine lv_iload_n hx hb dX2_orderOf_0 rfl (lv_at hl 1 rfl) ?_
  refine lv_if_lt (tgt := 18) hx hb dX2_orderOf_1 (by decide) (fun h1 => ?_) (fun h1 => ?_)
  · refine lv_null hx hb dX2_orderOf_18 ?_
    exact jx_aret hx hb hrt (Or.inl rfl) hlk hw (Nat.zero_le _) (Nat.zero_le _) dX2_orderOf_19 ⟨Or.inr ⟨fun q => absurd h1 (Int32.not_lt.mpr q.1), rfl⟩, rfl, rfl⟩
  · refine lv_iload_n hx hb dX2_orderOf_4 rfl (lv_at hl 1 rfl) ?_
    refine lv_iconst (v := nI 4) hx hb dX2_orderOf_5 (by decide) ?_
    refine lv_icmp_ge (tgt := 18) hx hb dX2_orderOf_6 (by decide) (fun h2 => ?_) (fun h2 => ?_)
    · refine lv_null hx hb dX2_orderOf_18 ?_
      exact jx_aret hx hb hrt (Or.inl rfl) hlk hw (Nat.zero_le _) (Nat.zero_le _) dX2_orderOf_19 ⟨Or.inr ⟨fun q => absurd q.2 (Int32.not_lt.mpr h2), rfl⟩, rfl, rfl⟩
    · obtain ⟨i, hi, ei, hcl⟩ := jq_oN ⟨Int32.not_lt.mp h1, Int32.not_le.mp h2⟩
      subst ei
      refine lv_aload_n hx hb dX2_orderOf_9 rfl (lv_at hl 0 rfl) ?_
      refine gf_X_13 hx hb hown hts hG hw hxL hfx dX2_orderOf_10 ?_
      refine lv_iload_n hx hb dX2_orderOf_13 rfl (lv_at hl 1 rfl) ?_
      refine jx_aldqI hx hb hG hw haL 2 hfa rfl hi (by decide) dX2_orderOf_14 ?_
      refine lv_goto (tgt := 19) hx hb dX2_orderOf_15 (by decide) ?_
      exact jx_aret hx hb hrt (va_rf_or _) hlk hw (Nat.zero_le _) (Nat.zero_le _) dX2_orderOf_19 ⟨Or.inl ⟨i, hi, rfl, rfl⟩, rfl, rfl⟩
set_option maxHeartbeats 4000000 in
set_option maxRecDepth 100000 in
theorem c_X_set (l : Launch) (D : va_G) (ct : Nat → ClassId) {N : Nat} {L : List Nat} {f : Nat → va_E} {x : Nat} {As : jq_S} (hX : jX N ct x L f As) (hNb : N < 2 ^ 29) {ov mv : Int32} {sc : Int64} :
    jz_M l D ct yX2_set cX2_set 7 (some .int) ({ frames := 4, cells := 3, slots := 15, locals := 95 } : Room) [.ref x, .int ov, .int mv, .long sc] L f (fun v L' f' => v = some (.int (sp_set As ov mv sc).1) ∧ jX (N + 1) ct x L' f' (sp_set As ov mv sc).2) := by
  by_cases ho : jq_o ov
  · obtain ⟨i, hi, ei, hcl0⟩ := jq_oN ho
    subst ei
    by_cases hm : jq_m mv
    · obtain ⟨j, hj, ej, hcl1⟩ := jq_mN hm
      subst ej
      refine jx_enter (by decide) (Nat.le_of_ble_eq_true rfl) ?_
      intro p e s m below meth c C hw ls hl
      obtain ⟨hx, hb, hrt, hlk, hnm, hml, hown, hts, hG⟩ := C
      have hl : lv_has ls 7 [(0, .ref x), (1, .int (nI i)), (2, .int (nI j)), (3, .long sc)] := hl
      obtain ⟨oa, g, o, hd, pa, hr, ps, k, u, PS, qs, S, hxL, haL, hfx, hfa, hgi, hSt, hcl⟩ := hX.opn hi
      refine lv_aload_n hx hb dX2_set_0 rfl (lv_at hl 0 rfl) ?_
      refine lv_iload_n hx hb dX2_set_1 rfl (lv_at hl 1 rfl) ?_
      refine cl_X_18 (As := [.int (nI i)]) (rest := []) hx hb hml hown hts hG hw (c_orderOf l D ct hxL haL hfx hfa) rfl ⟨Nat.le_of_ble_eq_true rfl, Nat.le_of_ble_eq_true rfl⟩ hxL hfx hl.1 rfl (Nat.le_of_ble_eq_true rfl) dX2_set_2 ⟨Nat.le_of_ble_eq_true rfl, Nat.le_of_ble_eq_true rfl⟩ (fun v L' f' H1 locs1 hp hw hcf => ?_)
      obtain ⟨hv, eL, ef⟩ := hp
      rw [eL, ef] at hw
      have hv : v = some (.ref o) := by
        rcases hv with ⟨i2, hi2, e2, e3⟩ | ⟨q, -⟩
        · have e4 : i = i2 := (nI_eq (by omega) (by omega)).mp e2
          rw [e3, ← e4, hgi]
          rfl
        · exact absurd (jq_oI hi).1 q
      subst hv
      obtain ⟨hoL, hpL, hfo, hfp, hV, hOk⟩ := id hSt
      refine lv_astore (lv' := [(5, .ref o), (0, .ref x), (1, .int (nI i)), (2, .int (nI j)), (3, .long sc)]) hx hb dX2_set_5 hl (by decide) rfl (fun ls hl => ?_)
      refine lv_aload hx hb dX2_set_7 (lv_at hl 0 rfl) ?_
      refine lv_ifnull hx hb dX2_set_9 ?_
      refine lv_iload_n hx hb dX2_set_12 rfl (lv_at hl 3 rfl) ?_
      refine cl_X_22 (As := [.int (nI j)]) (rest := []) hx hb hml hown hts hG hw (c_isMember l D ct L f (nI j)) rfl ⟨Nat.le_of_ble_eq_true rfl, Nat.le_of_ble_eq_true rfl⟩ hl.1 rfl (Nat.le_of_ble_eq_true rfl) dX2_set_13 ⟨Nat.le_of_ble_eq_true rfl, Nat.le_of_ble_eq_true rfl⟩ (fun v L' f' H1 locs1 hp hw hcf => ?_)
      obtain ⟨hv, eL, ef⟩ := hp
      rw [eL, ef] at hw
      have hv : v = some (.int 1) := hv.elim (fun q => q.2) (fun q => absurd (jq_mI hj).1 q.1)
      subst hv
      refine lv_if_ne (tgt := 21) hx hb dX2_set_16 (by decide) (fun _ => ?_) (fun h => absurd h (by decide))
      refine lv_aload hx hb dX2_set_21 (lv_at hl 0 rfl) ?_
      refine lv_iload_n hx hb dX2_set_23 rfl (lv_at hl 3 rfl) ?_
      refine cl_X_26 (As := [.int (nI j)]) (rest := []) hx hb hml hown hts hG hw (c_placeOf l D ct hV hoL hfo hpL hfp hj (fun a q => (hOk.tab j a hj q).1)) rfl ⟨Nat.le_of_ble_eq_true rfl, Nat.le_of_ble_eq_true rfl⟩ hoL hfo hl.1 rfl (Nat.le_of_ble_eq_true rfl) dX2_set_24 ⟨Nat.le_of_ble_eq_true rfl, Nat.le_of_ble_eq_true rfl⟩ (fun v L' f' H1 locs1 hp hw hcf => ?_)
      obtain ⟨hv, eL, ef⟩ := hp
      rw [eL, ef] at hw
      rcases hv with ⟨a, hSj, hin, rfl⟩ | ⟨habs, rfl⟩
      · obtain ⟨hget, haq⟩ := hOk.getS hj hSj hin
        have haP := (hOk.tab j a hj hSj).1
        refine lv_astore (lv' := [(6, .ref a), (5, .ref o), (0, .ref x), (1, .int (nI i)), (2, .int (nI j)), (3, .long sc)]) hx hb dX2_set_27 hl (by decide) rfl (fun ls hl => ?_)
        refine lv_aload hx hb dX2_set_29 (lv_at hl 0 rfl) ?_
        refine lv_ifnonnull (tgt := 43) hx hb dX2_set_31 (by decide) ?_
        refine lv_aload hx hb dX2_set_43 (lv_at hl 0 rfl) ?_
        refine gf_X_34 hx hb hown hts hG hw (hV.aL haP) (hV.a haP) dX2_set_45 ?_
        refine lv_lload_n hx hb dX2_set_48 rfl (lv_at hl 5 rfl) ?_
        refine W.lcmp hx hb dX2_set_49 ?_
        refine lv_if_ne (tgt := 55) hx hb dX2_set_50 (by decide) (fun hne => ?_) (fun heq => ?_)
        · have hne : ¬ u.1 a = sc := fun q => hne ((lg_cmp_eq _ _).mpr q)
          refine lv_aload hx hb dX2_set_55 (lv_at hl 1 rfl) ?_
          refine lv_aload hx hb dX2_set_57 (lv_at hl 0 rfl) ?_
          refine lv_lload_n hx hb dX2_set_59 rfl (lv_at hl 5 rfl) ?_
          refine cl_X_40 (As := [.ref a, .long sc]) (rest := []) hx hb hml hown hts hG hw (c_move l D ct hSt hNb hj hSj hin) rfl ⟨Nat.le_of_ble_eq_true rfl, Nat.le_of_ble_eq_true rfl⟩ hoL hfo hl.1 rfl (Nat.le_of_ble_eq_true rfl) dX2_set_60 ⟨Nat.le_of_ble_eq_true rfl, Nat.le_of_ble_eq_true rfl⟩ (fun v L' f' H1 locs1 hp hw hcf => ?_)
          obtain ⟨rfl, A1, A', hdel, hins, hch⟩ := hp
          have hX' := hcl (N + 1) L' f' A' (Nat.le_succ _) hch
          have e1 : A1 = jq_del (As i) j := jq_del_of hOk.wf.2.1 hdel
          have e2 : A' = jq_ins A1 j sc := jq_ins_of hins
          have esq : sq_set (As i) j sc = (2, A') := by rw [sq_set, hget]; show (if u.1 a = sc then _ else _) = _; rw [if_neg hne, e2, e1]
          refine lv_iconst (v := 2) hx hb dX2_set_63 (by decide) ?_
          exact jx_iret hx hb hrt hlk hw (Nat.le_of_ble_eq_true rfl) (Nat.le_of_ble_eq_true rfl) dX2_set_64 ⟨by rw [sp_set_at hi hj, esq], by rw [sp_set_at hi hj, esq]; exact hX'⟩
        · have heq : u.1 a = sc := (lg_cmp_eq _ _).mp heq
          have esq : sq_set (As i) j sc = (0, As i) := by rw [sq_set, hget]; show (if u.1 a = sc then _ else _) = _; rw [if_pos heq]
          refine lv_iconst (v := 0) hx hb dX2_set_53 (by decide) ?_
          exact jx_iret hx hb hrt hlk hw (Nat.le_of_ble_eq_true rfl) (Nat.le_of_ble_eq_true rfl) dX2_set_54 ⟨by rw [sp_set_at hi hj, esq], by rw [sp_set_at hi hj, esq]; show jX (N + 1) ct x L f (va_up As i (As i)); rw [jq_upSelf]; exact hX.mono (Nat.le_succ _)⟩
      · have hget := hOk.getN habs
        refine lv_astoreN (lv' := [(6, .null), (5, .ref o), (0, .ref x), (1, .int (nI i)), (2, .int (nI j)), (3, .long sc)]) hx hb dX2_set_27 hl (by decide) rfl (fun ls hl => ?_)
        refine lv_aloadN hx hb dX2_set_29 (lv_at hl 0 rfl) ?_
        refine lv_ifnonnullN hx hb dX2_set_31 ?_
        refine lv_aload hx hb dX2_set_34 (lv_at hl 1 rfl) ?_
        refine lv_iload_n hx hb dX2_set_36 rfl (lv_at hl 4 rfl) ?_
        refine lv_lload_n hx hb dX2_set_37 rfl (lv_at hl 5 rfl) ?_
        refine cl_X_30 (As := [.int (nI j), .long sc]) (rest := []) hx hb hml hown hts hG hw (c_enter l D ct hSt hNb hj habs) rfl ⟨Nat.le_of_ble_eq_true rfl, Nat.le_of_ble_eq_true rfl⟩ hoL hfo hl.1 rfl (Nat.le_of_ble_eq_true rfl) dX2_set_38 ⟨Nat.le_of_ble_eq_true rfl, Nat.le_of_ble_eq_true rfl⟩ (fun v L' f' H1 locs1 hp hw hcf => ?_)
        obtain ⟨rfl, A', hins, hch⟩ := hp
        have hX' := hcl (N + 1) L' f' A' (Nat.le_succ _) hch
        have e2 : A' = jq_ins (As i) j sc := jq_ins_of hins
        have esq : sq_set (As i) j sc = (1, A') := by rw [sq_set, hget, e2]
        refine lv_iconst (v := 1) hx hb dX2_set_41 (by decide) ?_
        exact jx_iret hx hb hrt hlk hw (Nat.le_of_ble_eq_true rfl) (Nat.le_of_ble_eq_true rfl) dX2_set_42 ⟨by rw [sp_set_at hi hj, esq], by rw [sp_set_at hi hj, esq]; exact hX'⟩
    · refine jx_enter (by decide) (Nat.le_of_ble_eq_true rfl) ?_
      intro p e s m below meth c C hw ls hl
      obtain ⟨hx, hb, hrt, hlk, hnm, hml, hown, hts, hG⟩ := C
      have hl : lv_has ls 7 [(0, .ref x), (1, .int (nI i)), (2, .int mv), (3, .long sc)] := hl
      obtain ⟨oa, g, o, hd, pa, hr, ps, k, u, PS, qs, S, hxL, haL, hfx, hfa, hgi, hSt, hcl⟩ := hX.opn hi
      refine lv_aload_n hx hb dX2_set_0 rfl (lv_at hl 0 rfl) ?_
      refine lv_iload_n hx hb dX2_set_1 rfl (lv_at hl 1 rfl) ?_
      refine cl_X_18 (As := [.int (nI i)]) (rest := []) hx hb hml hown hts hG hw (c_orderOf l D ct hxL haL hfx hfa) rfl ⟨Nat.le_of_ble_eq_true rfl, Nat.le_of_ble_eq_true rfl⟩ hxL hfx hl.1 rfl (Nat.le_of_ble_eq_true rfl) dX2_set_2 ⟨Nat.le_of_ble_eq_true rfl, Nat.le_of_ble_eq_true rfl⟩ (fun v L' f' H1 locs1 hp hw hcf => ?_)
      obtain ⟨hv, eL, ef⟩ := hp
      rw [eL, ef] at hw
      have hv : v = some (.ref o) := by
        rcases hv with ⟨i2, hi2, e2, e3⟩ | ⟨q, -⟩
        · have e4 : i = i2 := (nI_eq (by omega) (by omega)).mp e2
          rw [e3, ← e4, hgi]
          rfl
        · exact absurd (jq_oI hi).1 q
      subst hv
      obtain ⟨hoL, hpL, hfo, hfp, hV, hOk⟩ := id hSt
      refine lv_astore (lv' := [(5, .ref o), (0, .ref x), (1, .int (nI i)), (2, .int mv), (3, .long sc)]) hx hb dX2_set_5 hl (by decide) rfl (fun ls hl => ?_)
      refine lv_aload hx hb dX2_set_7 (lv_at hl 0 rfl) ?_
      refine lv_ifnull hx hb dX2_set_9 ?_
      refine lv_iload_n hx hb dX2_set_12 rfl (lv_at hl 3 rfl) ?_
      refine cl_X_22 (As := [.int mv]) (rest := []) hx hb hml hown hts hG hw (c_isMember l D ct L f mv) rfl ⟨Nat.le_of_ble_eq_true rfl, Nat.le_of_ble_eq_true rfl⟩ hl.1 rfl (Nat.le_of_ble_eq_true rfl) dX2_set_13 ⟨Nat.le_of_ble_eq_true rfl, Nat.le_of_ble_eq_true rfl⟩ (fun v L' f' H1 locs1 hp hw hcf => ?_)
      obtain ⟨hv, eL, ef⟩ := hp
      rw [eL, ef] at hw
      have hv : v = some (.int 0) := hv.elim (fun q => absurd q.1 hm) (fun q => q.2)
      subst hv
      refine lv_if_ne (tgt := 21) hx hb dX2_set_16 (by decide) (fun h => absurd rfl h) (fun _ => ?_)
      refine lv_iconst (v := (-1)) hx hb dX2_set_19 (by decide) ?_
      exact jx_iret hx hb hrt hlk hw (Nat.le_of_ble_eq_true rfl) (Nat.le_of_ble_eq_true rfl) dX2_set_20 ⟨by rw [sp_set, if_neg (fun q => hm q.2)], by rw [sp_set, if_neg (fun q => hm q.2)]; exact (hX.mono (Nat.le_succ _))⟩
  · refine jx_enter (by decide) (Nat.le_of_ble_eq_true rfl) ?_
    intro p e s m below meth c C hw ls hl
    obtain ⟨hx, hb, hrt, hlk, hnm, hml, hown, hts, hG⟩ := C
    have hl : lv_has ls 7 [(0, .ref x), (1, .int ov), (2, .int mv), (3, .long sc)] := hl
    have hno := ho
    obtain ⟨oa, g, hxL, haL, hfx, hfa⟩ := hX.base
    refine lv_aload_n hx hb dX2_set_0 rfl (lv_at hl 0 rfl) ?_
    refine lv_iload_n hx hb dX2_set_1 rfl (lv_at hl 1 rfl) ?_
    refine cl_X_18 (As := [.int ov]) (rest := []) hx hb hml hown hts hG hw (c_orderOf l D ct hxL haL hfx hfa) rfl ⟨Nat.le_of_ble_eq_true rfl, Nat.le_of_ble_eq_true rfl⟩ hxL hfx hl.1 rfl (Nat.le_of_ble_eq_true rfl) dX2_set_2 ⟨Nat.le_of_ble_eq_true rfl, Nat.le_of_ble_eq_true rfl⟩ (fun v L' f' H1 locs1 hp hw hcf => ?_)
    obtain ⟨hv, eL, ef⟩ := hp
    rw [eL, ef] at hw
    have hv : v = some .null := hv.elim (fun ⟨i, hi, e, _⟩ => absurd (e ▸ (jq_oI hi).1) hno) (fun q => q.2)
    subst hv
    refine lv_astoreN (lv' := [(5, .null), (0, .ref x), (1, .int ov), (2, .int mv), (3, .long sc)]) hx hb dX2_set_5 hl (by decide) rfl (fun ls hl => ?_)
    refine lv_aloadN hx hb dX2_set_7 (lv_at hl 0 rfl) ?_
    refine lv_ifnullN (tgt := 19) hx hb dX2_set_9 (by decide) ?_
    refine lv_iconst (v := (-1)) hx hb dX2_set_19 (by decide) ?_
    exact jx_iret hx hb hrt hlk hw (Nat.le_of_ble_eq_true rfl) (Nat.le_of_ble_eq_true rfl) dX2_set_20 ⟨by rw [sp_set, if_neg (fun q => ho q.1)], by rw [sp_set, if_neg (fun q => ho q.1)]; exact (hX.mono (Nat.le_succ _))⟩
set_option maxHeartbeats 4000000 in
set_option maxRecDepth 100000 in
theorem c_X_remove (l : Launch) (D : va_G) (ct : Nat → ClassId) {N : Nat} {L : List Nat} {f : Nat → va_E} {x : Nat} {As : jq_S} (hX : jX N ct x L f As) (hNb : N < 2 ^ 29) {ov mv : Int32} :
    jz_M l D ct yX2_remove cX2_remove 5 (some .int) ({ frames := 4, cells := 0, slots := 0, locals := 92 } : Room) [.ref x, .int ov, .int mv] L f (fun v L' f' => v = some (.int (sp_rem As ov mv).1) ∧ jX N ct x L' f' (sp_rem As ov mv).2) := by
  by_cases ho : jq_o ov
  · obtain ⟨i, hi, ei, hcl0⟩ := jq_oN ho
    subst ei
    by_cases hm : jq_m mv
    · obtain ⟨j, hj, ej, hcl1⟩ := jq_mN hm
      subst ej
      refine jx_enter (by decide) (Nat.le_of_ble_eq_true rfl) ?_
      intro p e s m below meth c C hw ls hl
      obtain ⟨hx, hb, hrt, hlk, hnm, hml, hown, hts, hG⟩ := C
      have hl : lv_has ls 5 [(0, .ref x), (1, .int (nI i)), (2, .int (nI j))] := hl
      obtain ⟨oa, g, o, hd, pa, hr, ps, k, u, PS, qs, S, hxL, haL, hfx, hfa, hgi, hSt, hcl⟩ := hX.opn hi
      refine lv_aload_n hx hb dX2_remove_0 rfl (lv_at hl 0 rfl) ?_
      refine lv_iload_n hx hb dX2_remove_1 rfl (lv_at hl 1 rfl) ?_
      refine cl_X_18 (As := [.int (nI i)]) (rest := []) hx hb hml hown hts hG hw (c_orderOf l D ct hxL haL hfx hfa) rfl ⟨Nat.le_of_ble_eq_true rfl, Nat.le_of_ble_eq_true rfl⟩ hxL hfx hl.1 rfl (Nat.le_of_ble_eq_true rfl) dX2_remove_2 ⟨Nat.le_of_ble_eq_true rfl, Nat.le_of_ble_eq_true rfl⟩ (fun v L' f' H1 locs1 hp hw hcf => ?_)
      obtain ⟨hv, eL, ef⟩ := hp
      rw [eL, ef] at hw
      have hv : v = some (.ref o) := by
        rcases hv with ⟨i2, hi2, e2, e3⟩ | ⟨q, -⟩
        · have e4 : i = i2 := (nI_eq (by omega) (by omega)).mp e2
          rw [e3, ← e4, hgi]
          rfl
        · exact absurd (jq_oI hi).1 q
      subst hv
      obtain ⟨hoL, hpL, hfo, hfp, hV, hOk⟩ := id hSt
      refine lv_astore_n (lv' := [(3, .ref o), (0, .ref x), (1, .int (nI i)), (2, .int (nI j))]) hx hb dX2_remove_5 rfl hl (by decide) rfl (fun ls hl => ?_)
      refine lv_aload_n hx hb dX2_remove_6 rfl (lv_at hl 0 rfl) ?_
      refine lv_ifnull hx hb dX2_remove_7 ?_
      refine lv_iload_n hx hb dX2_remove_10 rfl (lv_at hl 3 rfl) ?_
      refine cl_X_22 (As := [.int (nI j)]) (rest := []) hx hb hml hown hts hG hw (c_isMember l D ct L f (nI j)) rfl ⟨Nat.le_of_ble_eq_true rfl, Nat.le_of_ble_eq_true rfl⟩ hl.1 rfl (Nat.le_of_ble_eq_true rfl) dX2_remove_11 ⟨Nat.le_of_ble_eq_true rfl, Nat.le_of_ble_eq_true rfl⟩ (fun v L' f' H1 locs1 hp hw hcf => ?_)
      obtain ⟨hv, eL, ef⟩ := hp
      rw [eL, ef] at hw
      have hv : v = some (.int 1) := hv.elim (fun q => q.2) (fun q => absurd (jq_mI hj).1 q.1)
      subst hv
      refine lv_if_ne (tgt := 19) hx hb dX2_remove_14 (by decide) (fun _ => ?_) (fun h => absurd h (by decide))
      refine lv_aload_n hx hb dX2_remove_19 rfl (lv_at hl 0 rfl) ?_
      refine lv_iload_n hx hb dX2_remove_20 rfl (lv_at hl 3 rfl) ?_
      refine cl_X_26 (As := [.int (nI j)]) (rest := []) hx hb hml hown hts hG hw (c_placeOf l D ct hV hoL hfo hpL hfp hj (fun a q => (hOk.tab j a hj q).1)) rfl ⟨Nat.le_of_ble_eq_true rfl, Nat.le_of_ble_eq_true rfl⟩ hoL hfo hl.1 rfl (Nat.le_of_ble_eq_true rfl) dX2_remove_21 ⟨Nat.le_of_ble_eq_true rfl, Nat.le_of_ble_eq_true rfl⟩ (fun v L' f' H1 locs1 hp hw hcf => ?_)
      obtain ⟨hv, eL, ef⟩ := hp
      rw [eL, ef] at hw
      rcases hv with ⟨a, hSj, hin, rfl⟩ | ⟨habs, rfl⟩
      · obtain ⟨hget, haq⟩ := hOk.getS hj hSj hin
        refine lv_astore (lv' := [(4, .ref a), (3, .ref o), (0, .ref x), (1, .int (nI i)), (2, .int (nI j))]) hx hb dX2_remove_24 hl (by decide) rfl (fun ls hl => ?_)
        refine lv_aload hx hb dX2_remove_26 (lv_at hl 0 rfl) ?_
        refine lv_ifnonnull (tgt := 33) hx hb dX2_remove_28 (by decide) ?_
        refine lv_aload_n hx hb dX2_remove_33 rfl (lv_at hl 1 rfl) ?_
        refine lv_aload hx hb dX2_remove_34 (lv_at hl 0 rfl) ?_
        refine cl_X_44 (As := [.ref a]) (rest := []) hx hb hml hown hts hG hw (c_leave l D ct hSt hNb hj hSj hin) rfl ⟨Nat.le_of_ble_eq_true rfl, Nat.le_of_ble_eq_true rfl⟩ hoL hfo hl.1 rfl (Nat.le_of_ble_eq_true rfl) dX2_remove_36 ⟨Nat.le_of_ble_eq_true rfl, Nat.le_of_ble_eq_true rfl⟩ (fun v L' f' H1 locs1 hp hw hcf => ?_)
        obtain ⟨rfl, A', hdel, hch⟩ := hp
        have hX' := hcl N L' f' A' (Nat.le_refl _) hch
        have e1 : A' = jq_del (As i) j := jq_del_of hOk.wf.2.1 hdel
        have esq : sq_rem (As i) j = (1, A') := by rw [sq_rem, hget, e1]
        refine lv_iconst (v := 1) hx hb dX2_remove_39 (by decide) ?_
        exact jx_iret hx hb hrt hlk hw (Nat.le_of_ble_eq_true rfl) (Nat.le_of_ble_eq_true rfl) dX2_remove_40 ⟨by rw [sp_rem_at hi hj, esq], by rw [sp_rem_at hi hj, esq]; exact hX'⟩
      · have hget := hOk.getN habs
        have esq : sq_rem (As i) j = (0, As i) := by rw [sq_rem, hget]
        refine lv_astoreN (lv' := [(4, .null), (3, .ref o), (0, .ref x), (1, .int (nI i)), (2, .int (nI j))]) hx hb dX2_remove_24 hl (by decide) rfl (fun ls hl => ?_)
        refine lv_aloadN hx hb dX2_remove_26 (lv_at hl 0 rfl) ?_
        refine lv_ifnonnullN hx hb dX2_remove_28 ?_
        refine lv_iconst (v := 0) hx hb dX2_remove_31 (by decide) ?_
        exact jx_iret hx hb hrt hlk hw (Nat.le_of_ble_eq_true rfl) (Nat.le_of_ble_eq_true rfl) dX2_remove_32 ⟨by rw [sp_rem_at hi hj, esq], by rw [sp_rem_at hi hj, esq]; show jX N ct x L f (va_up As i (As i)); rw [jq_upSelf]; exact hX⟩
    · refine jx_enter (by decide) (Nat.le_of_ble_eq_true rfl) ?_
      intro p e s m below meth c C hw ls hl
      obtain ⟨hx, hb, hrt, hlk, hnm, hml, hown, hts, hG⟩ := C
      have hl : lv_has ls 5 [(0, .ref x), (1, .int (nI i)), (2, .int mv)] := hl
      obtain ⟨oa, g, o, hd, pa, hr, ps, k, u, PS, qs, S, hxL, haL, hfx, hfa, hgi, hSt, hcl⟩ := hX.opn hi
      refine lv_aload_n hx hb dX2_remove_0 rfl (lv_at hl 0 rfl) ?_
      refine lv_iload_n hx hb dX2_remove_1 rfl (lv_at hl 1 rfl) ?_
      refine cl_X_18 (As := [.int (nI i)]) (rest := []) hx hb hml hown hts hG hw (c_orderOf l D ct hxL haL hfx hfa) rfl ⟨Nat.le_of_ble_eq_true rfl, Nat.le_of_ble_eq_true rfl⟩ hxL hfx hl.1 rfl (Nat.le_of_ble_eq_true rfl) dX2_remove_2 ⟨Nat.le_of_ble_eq_true rfl, Nat.le_of_ble_eq_true rfl⟩ (fun v L' f' H1 locs1 hp hw hcf => ?_)
      obtain ⟨hv, eL, ef⟩ := hp
      rw [eL, ef] at hw
      have hv : v = some (.ref o) := by
        rcases hv with ⟨i2, hi2, e2, e3⟩ | ⟨q, -⟩
        · have e4 : i = i2 := (nI_eq (by omega) (by omega)).mp e2
          rw [e3, ← e4, hgi]
          rfl
        · exact absurd (jq_oI hi).1 q
      subst hv
      obtain ⟨hoL, hpL, hfo, hfp, hV, hOk⟩ := id hSt
      refine lv_astore_n (lv' := [(3, .ref o), (0, .ref x), (1, .int (nI i)), (2, .int mv)]) hx hb dX2_remove_5 rfl hl (by decide) rfl (fun ls hl => ?_)
      refine lv_aload_n hx hb dX2_remove_6 rfl (lv_at hl 0 rfl) ?_
      refine lv_ifnull hx hb dX2_remove_7 ?_
      refine lv_iload_n hx hb dX2_remove_10 rfl (lv_at hl 3 rfl) ?_
      refine cl_X_22 (As := [.int mv]) (rest := []) hx hb hml hown hts hG hw (c_isMember l D ct L f mv) rfl ⟨Nat.le_of_ble_eq_true rfl, Nat.le_of_ble_eq_true rfl⟩ hl.1 rfl (Nat.le_of_ble_eq_true rfl) dX2_remove_11 ⟨Nat.le_of_ble_eq_true rfl, Nat.le_of_ble_eq_true rfl⟩ (fun v L' f' H1 locs1 hp hw hcf => ?_)
      obtain ⟨hv, eL, ef⟩ := hp
      rw [eL, ef] at hw
      have hv : v = some (.int 0) := hv.elim (fun q => absurd q.1 hm) (fun q => q.2)
      subst hv
      refine lv_if_ne (tgt := 19) hx hb dX2_remove_14 (by decide) (fun h => absurd rfl h) (fun _ => ?_)
      refine lv_iconst (v := (-1)) hx hb dX2_remove_17 (by decide) ?_
      exact jx_iret hx hb hrt hlk hw (Nat.le_of_ble_eq_true rfl) (Nat.le_of_ble_eq_true rfl) dX2_remove_18 ⟨by rw [sp_rem, if_neg (fun q => hm q.2)], by rw [sp_rem, if_neg (fun q => hm q.2)]; exact hX⟩
  · refine jx_enter (by decide) (Nat.le_of_ble_eq_true rfl) ?_
    intro p e s m below meth c C hw ls hl
    obtain ⟨hx, hb, hrt, hlk, hnm, hml, hown, hts, hG⟩ := C
    have hl : lv_has ls 5 [(0, .ref x), (1, .int ov), (2, .int mv)] := hl
    have hno := ho
    obtain ⟨oa, g, hxL, haL, hfx, hfa⟩ := hX.base
    refine lv_aload_n hx hb dX2_remove_0 rfl (lv_at hl 0 rfl) ?_
    refine lv_iload_n hx hb dX2_remove_1 rfl (lv_at hl 1 rfl) ?_
    refine cl_X_18 (As := [.int ov]) (rest := []) hx hb hml hown hts hG hw (c_orderOf l D ct hxL haL hfx hfa) rfl ⟨Nat.le_of_ble_eq_true rfl, Nat.le_of_ble_eq_true rfl⟩ hxL hfx hl.1 rfl (Nat.le_of_ble_eq_true rfl) dX2_remove_2 ⟨Nat.le_of_ble_eq_true rfl, Nat.le_of_ble_eq_true rfl⟩ (fun v L' f' H1 locs1 hp hw hcf => ?_)
    obtain ⟨hv, eL, ef⟩ := hp
    rw [eL, ef] at hw
    have hv : v = some .null := hv.elim (fun ⟨i, hi, e, _⟩ => absurd (e ▸ (jq_oI hi).1) hno) (fun q => q.2)
    subst hv
    refine lv_astore_nN (lv' := [(3, .null), (0, .ref x), (1, .int ov), (2, .int mv)]) hx hb dX2_remove_5 rfl hl (by decide) rfl (fun ls hl => ?_)
    refine lv_aload_nN hx hb dX2_remove_6 rfl (lv_at hl 0 rfl) ?_
    refine lv_ifnullN (tgt := 17) hx hb dX2_remove_7 (by decide) ?_
    refine lv_iconst (v := (-1)) hx hb dX2_remove_17 (by decide) ?_
    exact jx_iret hx hb hrt hlk hw (Nat.le_of_ble_eq_true rfl) (Nat.le_of_ble_eq_true rfl) dX2_remove_18 ⟨by rw [sp_rem, if_neg (fun q => ho q.1)], by rw [sp_rem, if_neg (fun q => ho q.1)]; exact hX⟩
end
section
theorem jq_rank_of {N : Nat} {k : jK} {u : jS} {PS : List Nat} {hd : Nat} {qs : List Nat} {S : Nat → Option Nat} {As : List (Nat × Int64)} (h : jo_Ok (fun _ => False) N k u PS hd qs S As) {j a : Nat} {p1 p2 : List Nat} (hj : j < 1000) (hSj : S j = some a) (e : qs = p1 ++ a :: p2) : jq_idx As j = p1.length := by
  have hka := (h.tab j a hj hSj).2.2
  have hcl : (k.1 a).toNatClampNeg = j := by rw [hka]; exact nI_clamp (by omega)
  have hnd := h.wf.2.1
  rw [h.eqA, e, List.map_append, List.map_cons] at hnd ⊢
  rw [hcl] at hnd ⊢
  rw [jq_idx_of, List.length_map]
  intro y hy q
  rw [List.map_append, List.map_cons] at hnd
  exact (List.nodup_append.mp hnd).2.2 y.1 (List.mem_map.mpr ⟨y, hy, rfl⟩) j List.mem_cons_self q
/-- what is below, counted -/
theorem jq_below_of {N : Nat} {k : jK} {u : jS} {PS : List Nat} {hd : Nat} {qs : List Nat} {S : Nat → Option Nat} {As : List (Nat × Int64)} (h : jo_Ok (fun _ => False) N k u PS hd qs S As) {sc : Int64} {wd too : Int32} {p1 p2 : List Nat} (e : qs = p1 ++ p2) (h1 : ∀ x ∈ p1, jz_ah (u.1 x) (k.2.1 x) sc wd) (h2 : ∀ x ∈ p2, ¬ jz_ah (u.1 x) (k.2.1 x) sc wd) (hw : (too = 0 ∧ wd = 0) ∨ (¬ too = 0 ∧ wd = 2147483647)) : As.countP (jq_low sc too) = p1.length := by
  have key : ∀ x ∈ qs, (jq_low sc too ((k.1 x).toNatClampNeg, u.1 x) = true ↔ jz_ah (u.1 x) (k.2.1 x) sc wd) := fun x hx => by
    obtain ⟨m, hm, -, -, h4, -⟩ := h.mem hx
    obtain ⟨w1, w2⟩ := jz_wd_lt hm
    rw [h4, jz_word_nI hm]
    rcases hw with ⟨t, rfl⟩ | ⟨t, rfl⟩
    · have hz : ¬ nI (jz_wd m) < 0 := nI_pos (by omega)
      simp [jq_low, jz_ah, t, hz]
    · have hz : nI (jz_wd m) < 2147483647 := (show nI (jz_wd m) < nI 2147483647 from nI_lt (by omega) (by decide))
      simp [jq_low, jz_ah, t, hz]
  rw [h.eqA, e, List.map_append, List.countP_append]
  have c1 : (p1.map (fun a => ((k.1 a).toNatClampNeg, u.1 a))).countP (jq_low sc too) = p1.length := by
    rw [List.countP_eq_length.mpr, List.length_map]
    intro y hy
    obtain ⟨x, hx, rfl⟩ := List.mem_map.mp hy
    exact (key x (by rw [e]; simp [hx])).mpr (h1 x hx)
  have c2 : (p2.map (fun a => ((k.1 a).toNatClampNeg, u.1 a))).countP (jq_low sc too) = 0 := by
    rw [List.countP_eq_zero]
    intro y hy
    obtain ⟨x, hx, rfl⟩ := List.mem_map.mp hy
    exact fun q => h2 x hx ((key x (by rw [e]; simp [hx])).mp q)
  rw [c1, c2]
  rfl
set_option maxHeartbeats 4000000 in
set_option maxRecDepth 100000 in
theorem c_X_clear (l : Launch) (D : va_G) (ct : Nat → ClassId) {N : Nat} {L : List Nat} {f : Nat → va_E} {x : Nat} {As : jq_S} (hX : jX N ct x L f As) (hNb : N < 2 ^ 29) {ov : Int32} :
    jz_M l D ct yX2_clear cX2_clear 3 (some .int) ({ frames := 2, cells := 0, slots := 0, locals := 43 } : Room) [.ref x, .int ov] L f (fun v L' f' => v = some (.int (sp_clr As ov).1) ∧ jX N ct x L' f' (sp_clr As ov).2) := by
  by_cases ho : jq_o ov
  · obtain ⟨i, hi, ei, hcl0⟩ := jq_oN ho
    subst ei
    refine jx_enter (by decide) (Nat.le_of_ble_eq_true rfl) ?_
    intro p e s m below meth c C hw ls hl
    obtain ⟨hx, hb, hrt, hlk, hnm, hml, hown, hts, hG⟩ := C
    have hl : lv_has ls 3 [(0, .ref x), (1, .int (nI i))] := hl
    obtain ⟨oa, g, o, hd, pa, hr, ps, k, u, PS, qs, S, hxL, haL, hfx, hfa, hgi, hSt, hcl⟩ := hX.opn hi
    refine lv_aload_n hx hb dX2_clear_0 rfl (lv_at hl 0 rfl) ?_
    refine lv_iload_n hx hb dX2_clear_1 rfl (lv_at hl 1 rfl) ?_
    refine cl_X_18 (As := [.int (nI i)]) (rest := []) hx hb hml hown hts hG hw (c_orderOf l D ct hxL haL hfx hfa) rfl ⟨Nat.le_of_ble_eq_true rfl, Nat.le_of_ble_eq_true rfl⟩ hxL hfx hl.1 rfl (Nat.le_of_ble_eq_true rfl) dX2_clear_2 ⟨Nat.le_of_ble_eq_true rfl, Nat.le_of_ble_eq_true rfl⟩ (fun v L' f' H1 locs1 hp hw hcf => ?_)
    obtain ⟨hv, eL, ef⟩ := hp
    rw [eL, ef] at hw
    have hv : v = some (.ref o) := by
      rcases hv with ⟨i2, hi2, e2, e3⟩ | ⟨q, -⟩
      · have e4 : i = i2 := (nI_eq (by omega) (by omega)).mp e2
        rw [e3, ← e4, hgi]
        rfl
      · exact absurd (jq_oI hi).1 q
    subst hv
    obtain ⟨hoL, hpL, hfo, hfp, hV, hOk⟩ := id hSt
    refine lv_astore_n (lv' := [(2, .ref o), (0, .ref x), (1, .int (nI i))]) hx hb dX2_clear_5 rfl hl (by decide) rfl (fun ls hl => ?_)
    refine lv_aload_n hx hb dX2_clear_6 rfl (lv_at hl 0 rfl) ?_
    refine lv_ifnonnull (tgt := 14) hx hb dX2_clear_7 (by decide) ?_
    refine lv_aload_n hx hb dX2_clear_14 rfl (lv_at hl 0 rfl) ?_
    refine cl_X_48 (As := []) (rest := []) hx hb hml hown hts hG hw (c_leaveAll l D ct hSt hNb) rfl ⟨Nat.le_of_ble_eq_true rfl, Nat.le_of_ble_eq_true rfl⟩ hoL hfo hl.1 rfl (Nat.le_of_ble_eq_true rfl) dX2_clear_15 ⟨Nat.le_of_ble_eq_true rfl, Nat.le_of_ble_eq_true rfl⟩ (fun v L' f' H1 locs1 hp hw hcf => ?_)
    obtain ⟨rfl, hch⟩ := hp
    have hX' := hcl N L' f' [] (Nat.le_refl _) hch
    have esp : sp_clr As (nI i) = (nI qs.length, va_up As i []) := by rw [sp_clr, if_pos (jq_oI hi).1, (jq_oI hi).2, hOk.lenA]
    exact jx_iret hx hb hrt hlk hw (Nat.le_of_ble_eq_true rfl) (Nat.le_of_ble_eq_true rfl) dX2_clear_18 ⟨by rw [esp], by rw [esp]; exact hX'⟩
  · refine jx_enter (by decide) (Nat.le_of_ble_eq_true rfl) ?_
    intro p e s m below meth c C hw ls hl
    obtain ⟨hx, hb, hrt, hlk, hnm, hml, hown, hts, hG⟩ := C
    have hl : lv_has ls 3 [(0, .ref x), (1, .int ov)] := hl
    have hno := ho
    obtain ⟨oa, g, hxL, haL, hfx, hfa⟩ := hX.base
    refine lv_aload_n hx hb dX2_clear_0 rfl (lv_at hl 0 rfl) ?_
    refine lv_iload_n hx hb dX2_clear_1 rfl (lv_at hl 1 rfl) ?_
    refine cl_X_18 (As := [.int ov]) (rest := []) hx hb hml hown hts hG hw (c_orderOf l D ct hxL haL hfx hfa) rfl ⟨Nat.le_of_ble_eq_true rfl, Nat.le_of_ble_eq_true rfl⟩ hxL hfx hl.1 rfl (Nat.le_of_ble_eq_true rfl) dX2_clear_2 ⟨Nat.le_of_ble_eq_true rfl, Nat.le_of_ble_eq_true rfl⟩ (fun v L' f' H1 locs1 hp hw hcf => ?_)
    obtain ⟨hv, eL, ef⟩ := hp
    rw [eL, ef] at hw
    have hv : v = some .null := hv.elim (fun ⟨i, hi, e, _⟩ => absurd (e ▸ (jq_oI hi).1) hno) (fun q => q.2)
    subst hv
    refine lv_astore_nN (lv' := [(2, .null), (0, .ref x), (1, .int ov)]) hx hb dX2_clear_5 rfl hl (by decide) rfl (fun ls hl => ?_)
    refine lv_aload_nN hx hb dX2_clear_6 rfl (lv_at hl 0 rfl) ?_
    refine lv_ifnonnullN hx hb dX2_clear_7 ?_
    refine lv_iconst (v := (-1)) hx hb dX2_clear_10 (by decide) ?_
    refine lv_goto (tgt := 18) hx hb dX2_clear_11 (by decide) ?_
    exact jx_iret hx hb hrt hlk hw (Nat.le_of_ble_eq_true rfl) (Nat.le_of_ble_eq_true rfl) dX2_clear_18 ⟨by rw [sp_clr, if_neg ho], by rw [sp_clr, if_neg ho]; exact hX⟩
set_option maxHeartbeats 4000000 in
set_option maxRecDepth 100000 in
theorem c_X_size (l : Launch) (D : va_G) (ct : Nat → ClassId) {N : Nat} {L : List Nat} {f : Nat → va_E} {x : Nat} {As : jq_S} (hX : jX N ct x L f As) (hNb : N < 2 ^ 29) {ov : Int32} :
    jz_M l D ct yX2_size cX2_size 3 (some .int) ({ frames := 1, cells := 0, slots := 0, locals := 21 } : Room) [.ref x, .int ov] L f (fun v L' f' => v = some (.int (sp_size As ov)) ∧ jX N ct x L' f' As) := by
  by_cases ho : jq_o ov
  · obtain ⟨i, hi, ei, hcl0⟩ := jq_oN ho
    subst ei
    refine jx_enter (by decide) (Nat.le_of_ble_eq_true rfl) ?_
    intro p e s m below meth c C hw ls hl
    obtain ⟨hx, hb, hrt, hlk, hnm, hml, hown, hts, hG⟩ := C
    have hl : lv_has ls 3 [(0, .ref x), (1, .int (nI i))] := hl
    obtain ⟨oa, g, o, hd, pa, hr, ps, k, u, PS, qs, S, hxL, haL, hfx, hfa, hgi, hSt, hcl⟩ := hX.opn hi
    refine lv_aload_n hx hb dX2_size_0 rfl (lv_at hl 0 rfl) ?_
    refine lv_iload_n hx hb dX2_size_1 rfl (lv_at hl 1 rfl) ?_
    refine cl_X_18 (As := [.int (nI i)]) (rest := []) hx hb hml hown hts hG hw (c_orderOf l D ct hxL haL hfx hfa) rfl ⟨Nat.le_of_ble_eq_true rfl, Nat.le_of_ble_eq_true rfl⟩ hxL hfx hl.1 rfl (Nat.le_of_ble_eq_true rfl) dX2_size_2 ⟨Nat.le_of_ble_eq_true rfl, Nat.le_of_ble_eq_true rfl⟩ (fun v L' f' H1 locs1 hp hw hcf => ?_)
    obtain ⟨hv, eL, ef⟩ := hp
    rw [eL, ef] at hw
    have hv : v = some (.ref o) := by
      rcases hv with ⟨i2, hi2, e2, e3⟩ | ⟨q, -⟩
      · have e4 : i = i2 := (nI_eq (by omega) (by omega)).mp e2
        rw [e3, ← e4, hgi]
        rfl
      · exact absurd (jq_oI hi).1 q
    subst hv
    obtain ⟨hoL, hpL, hfo, hfp, hV, hOk⟩ := id hSt
    refine lv_astore_n (lv' := [(2, .ref o), (0, .ref x), (1, .int (nI i))]) hx hb dX2_size_5 rfl hl (by decide) rfl (fun ls hl => ?_)
    refine lv_aload_n hx hb dX2_size_6 rfl (lv_at hl 0 rfl) ?_
    refine lv_ifnonnull (tgt := 14) hx hb dX2_size_7 (by decide) ?_
    refine lv_aload_n hx hb dX2_size_14 rfl (lv_at hl 0 rfl) ?_
    refine gf_X_69 hx hb hown hts hG hw hoL hfo dX2_size_15 ?_
    exact jx_iret hx hb hrt hlk hw (Nat.le_of_ble_eq_true rfl) (Nat.le_of_ble_eq_true rfl) dX2_size_18 ⟨by rw [sp_size, if_pos (jq_oI hi).1, (jq_oI hi).2, hOk.lenA], hX⟩
  · refine jx_enter (by decide) (Nat.le_of_ble_eq_true rfl) ?_
    intro p e s m below meth c C hw ls hl
    obtain ⟨hx, hb, hrt, hlk, hnm, hml, hown, hts, hG⟩ := C
    have hl : lv_has ls 3 [(0, .ref x), (1, .int ov)] := hl
    have hno := ho
    obtain ⟨oa, g, hxL, haL, hfx, hfa⟩ := hX.base
    refine lv_aload_n hx hb dX2_size_0 rfl (lv_at hl 0 rfl) ?_
    refine lv_iload_n hx hb dX2_size_1 rfl (lv_at hl 1 rfl) ?_
    refine cl_X_18 (As := [.int ov]) (rest := []) hx hb hml hown hts hG hw (c_orderOf l D ct hxL haL hfx hfa) rfl ⟨Nat.le_of_ble_eq_true rfl, Nat.le_of_ble_eq_true rfl⟩ hxL hfx hl.1 rfl (Nat.le_of_ble_eq_true rfl) dX2_size_2 ⟨Nat.le_of_ble_eq_true rfl, Nat.le_of_ble_eq_true rfl⟩ (fun v L' f' H1 locs1 hp hw hcf => ?_)
    obtain ⟨hv, eL, ef⟩ := hp
    rw [eL, ef] at hw
    have hv : v = some .null := hv.elim (fun ⟨i, hi, e, _⟩ => absurd (e ▸ (jq_oI hi).1) hno) (fun q => q.2)
    subst hv
    refine lv_astore_nN (lv' := [(2, .null), (0, .ref x), (1, .int ov)]) hx hb dX2_size_5 rfl hl (by decide) rfl (fun ls hl => ?_)
    refine lv_aload_nN hx hb dX2_size_6 rfl (lv_at hl 0 rfl) ?_
    refine lv_ifnonnullN hx hb dX2_size_7 ?_
    refine lv_iconst (v := (-1)) hx hb dX2_size_10 (by decide) ?_
    refine lv_goto (tgt := 18) hx hb dX2_size_11 (by decide) ?_
    exact jx_iret hx hb hrt hlk hw (Nat.le_of_ble_eq_true rfl) (Nat.le_of_ble_eq_true rfl) dX2_size_18 ⟨by rw [sp_size, if_neg ho], hX⟩
set_option maxHeartbeats 4000000 in
set_option maxRecDepth 100000 in
theorem c_X_score (l : Launch) (D : va_G) (ct : Nat → ClassId) {N : Nat} {L : List Nat} {f : Nat → va_E} {x : Nat} {As : jq_S} (hX : jX N ct x L f As) (hNb : N < 2 ^ 29) {ov mv : Int32} :
    jz_M l D ct yX2_score cX2_score 5 (some .long) ({ frames := 2, cells := 0, slots := 0, locals := 42 } : Room) [.ref x, .int ov, .int mv] L f (fun v L' f' => v = some (.long (sp_score As ov mv)) ∧ jX N ct x L' f' As) := by
  by_cases ho : jq_o ov
  · obtain ⟨i, hi, ei, hcl0⟩ := jq_oN ho
    subst ei
    by_cases hm : jq_m mv
    · obtain ⟨j, hj, ej, hcl1⟩ := jq_mN hm
      subst ej
      refine jx_enter (by decide) (Nat.le_of_ble_eq_true rfl) ?_
      intro p e s m below meth c C hw ls hl
      obtain ⟨hx, hb, hrt, hlk, hnm, hml, hown, hts, hG⟩ := C
      have hl : lv_has ls 5 [(0, .ref x), (1, .int (nI i)), (2, .int (nI j))] := hl
      obtain ⟨oa, g, o, hd, pa, hr, ps, k, u, PS, qs, S, hxL, haL, hfx, hfa, hgi, hSt, hcl⟩ := hX.opn hi
      refine lv_aload_n hx hb dX2_score_0 rfl (lv_at hl 0 rfl) ?_
      refine lv_iload_n hx hb dX2_score_1 rfl (lv_at hl 1 rfl) ?_
      refine cl_X_18 (As := [.int (nI i)]) (rest := []) hx hb hml hown hts hG hw (c_orderOf l D ct hxL haL hfx hfa) rfl ⟨Nat.le_of_ble_eq_true rfl, Nat.le_of_ble_eq_true rfl⟩ hxL hfx hl.1 rfl (Nat.le_of_ble_eq_true rfl) dX2_score_2 ⟨Nat.le_of_ble_eq_true rfl, Nat.le_of_ble_eq_true rfl⟩ (fun v L' f' H1 locs1 hp hw hcf => ?_)
      obtain ⟨hv, eL, ef⟩ := hp
      rw [eL, ef] at hw
      have hv : v = some (.ref o) := by
        rcases hv with ⟨i2, hi2, e2, e3⟩ | ⟨q, -⟩
        · have e4 : i = i2 := (nI_eq (by omega) (by omega)).mp e2
          rw [e3, ← e4, hgi]
          rfl
        · exact absurd (jq_oI hi).1 q
      subst hv
      obtain ⟨hoL, hpL, hfo, hfp, hV, hOk⟩ := id hSt
      refine lv_astore_n (lv' := [(3, .ref o), (0, .ref x), (1, .int (nI i)), (2, .int (nI j))]) hx hb dX2_score_5 rfl hl (by decide) rfl (fun ls hl => ?_)
      refine lv_aload_n hx hb dX2_score_6 rfl (lv_at hl 0 rfl) ?_
      refine lv_ifnull hx hb dX2_score_7 ?_
      refine lv_iload_n hx hb dX2_score_10 rfl (lv_at hl 3 rfl) ?_
      refine cl_X_22 (As := [.int (nI j)]) (rest := []) hx hb hml hown hts hG hw (c_isMember l D ct L f (nI j)) rfl ⟨Nat.le_of_ble_eq_true rfl, Nat.le_of_ble_eq_true rfl⟩ hl.1 rfl (Nat.le_of_ble_eq_true rfl) dX2_score_11 ⟨Nat.le_of_ble_eq_true rfl, Nat.le_of_ble_eq_true rfl⟩ (fun v L' f' H1 locs1 hp hw hcf => ?_)
      obtain ⟨hv, eL, ef⟩ := hp
      rw [eL, ef] at hw
      have hv : v = some (.int 1) := hv.elim (fun q => q.2) (fun q => absurd (jq_mI hj).1 q.1)
      subst hv
      refine lv_if_ne (tgt := 21) hx hb dX2_score_14 (by decide) (fun _ => ?_) (fun h => absurd h (by decide))
      refine lv_aload_n hx hb dX2_score_21 rfl (lv_at hl 0 rfl) ?_
      refine lv_iload_n hx hb dX2_score_22 rfl (lv_at hl 3 rfl) ?_
      refine cl_X_26 (As := [.int (nI j)]) (rest := []) hx hb hml hown hts hG hw (c_placeOf l D ct hV hoL hfo hpL hfp hj (fun a q => (hOk.tab j a hj q).1)) rfl ⟨Nat.le_of_ble_eq_true rfl, Nat.le_of_ble_eq_true rfl⟩ hoL hfo hl.1 rfl (Nat.le_of_ble_eq_true rfl) dX2_score_23 ⟨Nat.le_of_ble_eq_true rfl, Nat.le_of_ble_eq_true rfl⟩ (fun v L' f' H1 locs1 hp hw hcf => ?_)
      obtain ⟨hv, eL, ef⟩ := hp
      rw [eL, ef] at hw
      have esp : sp_score As (nI i) (nI j) = (jq_get (As i) j).getD 0 := by rw [sp_score, if_pos ⟨(jq_oI hi).1, (jq_mI hj).1⟩, (jq_oI hi).2, (jq_mI hj).2]
      rcases hv with ⟨a, hSj, hin, rfl⟩ | ⟨habs, rfl⟩
      · obtain ⟨hget, haq⟩ := hOk.getS hj hSj hin
        have haP := (hOk.tab j a hj hSj).1
        refine lv_astore (lv' := [(4, .ref a), (3, .ref o), (0, .ref x), (1, .int (nI i)), (2, .int (nI j))]) hx hb dX2_score_26 hl (by decide) rfl (fun ls hl => ?_)
        refine lv_aload hx hb dX2_score_28 (lv_at hl 0 rfl) ?_
        refine lv_ifnonnull (tgt := 37) hx hb dX2_score_30 (by decide) ?_
        refine lv_aload hx hb dX2_score_37 (lv_at hl 0 rfl) ?_
        refine gf_X_34 hx hb hown hts hG hw (hV.aL haP) (hV.a haP) dX2_score_39 ?_
        exact jx_lret hx hb hrt hlk hw (Nat.le_of_ble_eq_true rfl) (Nat.le_of_ble_eq_true rfl) dX2_score_42 ⟨by rw [esp, hget]; rfl, hX⟩
      · have hget := hOk.getN habs
        refine lv_astoreN (lv' := [(4, .null), (3, .ref o), (0, .ref x), (1, .int (nI i)), (2, .int (nI j))]) hx hb dX2_score_26 hl (by decide) rfl (fun ls hl => ?_)
        refine lv_aloadN hx hb dX2_score_28 (lv_at hl 0 rfl) ?_
        refine lv_ifnonnullN hx hb dX2_score_30 ?_
        refine lv_lconst (v := 0) hx hb dX2_score_33 (by decide) ?_
        refine lv_goto (tgt := 42) hx hb dX2_score_34 (by decide) ?_
        exact jx_lret hx hb hrt hlk hw (Nat.le_of_ble_eq_true rfl) (Nat.le_of_ble_eq_true rfl) dX2_score_42 ⟨by rw [esp, hget]; rfl, hX⟩
    · refine jx_enter (by decide) (Nat.le_of_ble_eq_true rfl) ?_
      intro p e s m below meth c C hw ls hl
      obtain ⟨hx, hb, hrt, hlk, hnm, hml, hown, hts, hG⟩ := C
      have hl : lv_has ls 5 [(0, .ref x), (1, .int (nI i)), (2, .int mv)] := hl
      obtain ⟨oa, g, o, hd, pa, hr, ps, k, u, PS, qs, S, hxL, haL, hfx, hfa, hgi, hSt, hcl⟩ := hX.opn hi
      refine lv_aload_n hx hb dX2_score_0 rfl (lv_at hl 0 rfl) ?_
      refine lv_iload_n hx hb dX2_score_1 rfl (lv_at hl 1 rfl) ?_
      refine cl_X_18 (As := [.int (nI i)]) (rest := []) hx hb hml hown hts hG hw (c_orderOf l D ct hxL haL hfx hfa) rfl ⟨Nat.le_of_ble_eq_true rfl, Nat.le_of_ble_eq_true rfl⟩ hxL hfx hl.1 rfl (Nat.le_of_ble_eq_true rfl) dX2_score_2 ⟨Nat.le_of_ble_eq_true rfl, Nat.le_of_ble_eq_true rfl⟩ (fun v L' f' H1 locs1 hp hw hcf => ?_)
      obtain ⟨hv, eL, ef⟩ := hp
      rw [eL, ef] at hw
      have hv : v = some (.ref o) := by
        rcases hv with ⟨i2, hi2, e2, e3⟩ | ⟨q, -⟩
        · have e4 : i = i2 := (nI_eq (by omega) (by omega)).mp e2
          rw [e3, ← e4, hgi]
          rfl
        · exact absurd (jq_oI hi).1 q
      subst hv
      obtain ⟨hoL, hpL, hfo, hfp, hV, hOk⟩ := id hSt
      refine lv_astore_n (lv' := [(3, .ref o), (0, .ref x), (1, .int (nI i)), (2, .int mv)]) hx hb dX2_score_5 rfl hl (by decide) rfl (fun ls hl => ?_)
      refine lv_aload_n hx hb dX2_score_6 rfl (lv_at hl 0 rfl) ?_
      refine lv_ifnull hx hb dX2_score_7 ?_
      refine lv_iload_n hx hb dX2_score_10 rfl (lv_at hl 3 rfl) ?_
      refine cl_X_22 (As := [.int mv]) (rest := []) hx hb hml hown hts hG hw (c_isMember l D ct L f mv) rfl ⟨Nat.le_of_ble_eq_true rfl, Nat.le_of_ble_eq_true rfl⟩ hl.1 rfl (Nat.le_of_ble_eq_true rfl) dX2_score_11 ⟨Nat.le_of_ble_eq_true rfl, Nat.le_of_ble_eq_true rfl⟩ (fun v L' f' H1 locs1 hp hw hcf => ?_)
      obtain ⟨hv, eL, ef⟩ := hp
      rw [eL, ef] at hw
      have hv : v = some (.int 0) := hv.elim (fun q => absurd q.1 hm) (fun q => q.2)
      subst hv
      refine lv_if_ne (tgt := 21) hx hb dX2_score_14 (by decide) (fun h => absurd rfl h) (fun _ => ?_)
      refine lv_ldc2 (own := RX2) (v := -1) hx hb hown (hts (.constantLong RX2 52 (-1)) (by decide +kernel)) dX2_score_17 ?_
      exact jx_lret hx hb hrt hlk hw (Nat.le_of_ble_eq_true rfl) (Nat.le_of_ble_eq_true rfl) dX2_score_20 ⟨by rw [sp_score, if_neg (fun q => hm q.2)], hX⟩
  · refine jx_enter (by decide) (Nat.le_of_ble_eq_true rfl) ?_
    intro p e s m below meth c C hw ls hl
    obtain ⟨hx, hb, hrt, hlk, hnm, hml, hown, hts, hG⟩ := C
    have hl : lv_has ls 5 [(0, .ref x), (1, .int ov), (2, .int mv)] := hl
    have hno := ho
    obtain ⟨oa, g, hxL, haL, hfx, hfa⟩ := hX.base
    refine lv_aload_n hx hb dX2_score_0 rfl (lv_at hl 0 rfl) ?_
    refine lv_iload_n hx hb dX2_score_1 rfl (lv_at hl 1 rfl) ?_
    refine cl_X_18 (As := [.int ov]) (rest := []) hx hb hml hown hts hG hw (c_orderOf l D ct hxL haL hfx hfa) rfl ⟨Nat.le_of_ble_eq_true rfl, Nat.le_of_ble_eq_true rfl⟩ hxL hfx hl.1 rfl (Nat.le_of_ble_eq_true rfl) dX2_score_2 ⟨Nat.le_of_ble_eq_true rfl, Nat.le_of_ble_eq_true rfl⟩ (fun v L' f' H1 locs1 hp hw hcf => ?_)
    obtain ⟨hv, eL, ef⟩ := hp
    rw [eL, ef] at hw
    have hv : v = some .null := hv.elim (fun ⟨i, hi, e, _⟩ => absurd (e ▸ (jq_oI hi).1) hno) (fun q => q.2)
    subst hv
    refine lv_astore_nN (lv' := [(3, .null), (0, .ref x), (1, .int ov), (2, .int mv)]) hx hb dX2_score_5 rfl hl (by decide) rfl (fun ls hl => ?_)
    refine lv_aload_nN hx hb dX2_score_6 rfl (lv_at hl 0 rfl) ?_
    refine lv_ifnullN (tgt := 17) hx hb dX2_score_7 (by decide) ?_
    refine lv_ldc2 (own := RX2) (v := -1) hx hb hown (hts (.constantLong RX2 52 (-1)) (by decide +kernel)) dX2_score_17 ?_
    exact jx_lret hx hb hrt hlk hw (Nat.le_of_ble_eq_true rfl) (Nat.le_of_ble_eq_true rfl) dX2_score_20 ⟨by rw [sp_score, if_neg (fun q => ho q.1)], hX⟩
set_option maxHeartbeats 4000000 in
set_option maxRecDepth 100000 in
theorem c_X_rank (l : Launch) (D : va_G) (ct : Nat → ClassId) {N : Nat} {L : List Nat} {f : Nat → va_E} {x : Nat} {As : jq_S} (hX : jX N ct x L f As) (hNb : N < 2 ^ 29) {ov mv : Int32} :
    jz_M l D ct yX2_rank cX2_rank 5 (some .int) ({ frames := 2, cells := 0, slots := 0, locals := 48 } : Room) [.ref x, .int ov, .int mv] L f (fun v L' f' => v = some (.int (sp_rank As ov mv)) ∧ jX N ct x L' f' As) := by
  by_cases ho : jq_o ov
  · obtain ⟨i, hi, ei, hcl0⟩ := jq_oN ho
    subst ei
    by_cases hm : jq_m mv
    · obtain ⟨j, hj, ej, hcl1⟩ := jq_mN hm
      subst ej
      refine jx_enter (by decide) (Nat.le_of_ble_eq_true rfl) ?_
      intro p e s m below meth c C hw ls hl
      obtain ⟨hx, hb, hrt, hlk, hnm, hml, hown, hts, hG⟩ := C
      have hl : lv_has ls 5 [(0, .ref x), (1, .int (nI i)), (2, .int (nI j))] := hl
      obtain ⟨oa, g, o, hd, pa, hr, ps, k, u, PS, qs, S, hxL, haL, hfx, hfa, hgi, hSt, hcl⟩ := hX.opn hi
      refine lv_aload_n hx hb dX2_rank_0 rfl (lv_at hl 0 rfl) ?_
      refine lv_iload_n hx hb dX2_rank_1 rfl (lv_at hl 1 rfl) ?_
      refine cl_X_18 (As := [.int (nI i)]) (rest := []) hx hb hml hown hts hG hw (c_orderOf l D ct hxL haL hfx hfa) rfl ⟨Nat.le_of_ble_eq_true rfl, Nat.le_of_ble_eq_true rfl⟩ hxL hfx hl.1 rfl (Nat.le_of_ble_eq_true rfl) dX2_rank_2 ⟨Nat.le_of_ble_eq_true rfl, Nat.le_of_ble_eq_true rfl⟩ (fun v L' f' H1 locs1 hp hw hcf => ?_)
      obtain ⟨hv, eL, ef⟩ := hp
      rw [eL, ef] at hw
      have hv : v = some (.ref o) := by
        rcases hv with ⟨i2, hi2, e2, e3⟩ | ⟨q, -⟩
        · have e4 : i = i2 := (nI_eq (by omega) (by omega)).mp e2
          rw [e3, ← e4, hgi]
          rfl
        · exact absurd (jq_oI hi).1 q
      subst hv
      obtain ⟨hoL, hpL, hfo, hfp, hV, hOk⟩ := id hSt
      refine lv_astore_n (lv' := [(3, .ref o), (0, .ref x), (1, .int (nI i)), (2, .int (nI j))]) hx hb dX2_rank_5 rfl hl (by decide) rfl (fun ls hl => ?_)
      refine lv_aload_n hx hb dX2_rank_6 rfl (lv_at hl 0 rfl) ?_
      refine lv_ifnull hx hb dX2_rank_7 ?_
      refine lv_iload_n hx hb dX2_rank_10 rfl (lv_at hl 3 rfl) ?_
      refine cl_X_22 (As := [.int (nI j)]) (rest := []) hx hb hml hown hts hG hw (c_isMember l D ct L f (nI j)) rfl ⟨Nat.le_of_ble_eq_true rfl, Nat.le_of_ble_eq_true rfl⟩ hl.1 rfl (Nat.le_of_ble_eq_true rfl) dX2_rank_11 ⟨Nat.le_of_ble_eq_true rfl, Nat.le_of_ble_eq_true rfl⟩ (fun v L' f' H1 locs1 hp hw hcf => ?_)
      obtain ⟨hv, eL, ef⟩ := hp
      rw [eL, ef] at hw
      have hv : v = some (.int 1) := hv.elim (fun q => q.2) (fun q => absurd (jq_mI hj).1 q.1)
      subst hv
      refine lv_if_ne (tgt := 19) hx hb dX2_rank_14 (by decide) (fun _ => ?_) (fun h => absurd h (by decide))
      refine lv_aload_n hx hb dX2_rank_19 rfl (lv_at hl 0 rfl) ?_
      refine lv_iload_n hx hb dX2_rank_20 rfl (lv_at hl 3 rfl) ?_
      refine cl_X_26 (As := [.int (nI j)]) (rest := []) hx hb hml hown hts hG hw (c_placeOf l D ct hV hoL hfo hpL hfp hj (fun a q => (hOk.tab j a hj q).1)) rfl ⟨Nat.le_of_ble_eq_true rfl, Nat.le_of_ble_eq_true rfl⟩ hoL hfo hl.1 rfl (Nat.le_of_ble_eq_true rfl) dX2_rank_21 ⟨Nat.le_of_ble_eq_true rfl, Nat.le_of_ble_eq_true rfl⟩ (fun v L' f' H1 locs1 hp hw hcf => ?_)
      obtain ⟨hv, eL, ef⟩ := hp
      rw [eL, ef] at hw
      rcases hv with ⟨a, hSj, hin, rfl⟩ | ⟨habs, rfl⟩
      · obtain ⟨hget, haq⟩ := hOk.getS hj hSj hin
        have haP := (hOk.tab j a hj hSj).1
        obtain ⟨p1, p2, eqs, hA1, hA2, -⟩ := hOk.del hj hSj haq
        have esp : sp_rank As (nI i) (nI j) = nI p1.length := by rw [sp_rank, if_pos ⟨(jq_oI hi).1, (jq_mI hj).1⟩, (jq_oI hi).2, (jq_mI hj).2, hget, jq_rank_of hOk hj hSj eqs]
        refine lv_astore (lv' := [(4, .ref a), (3, .ref o), (0, .ref x), (1, .int (nI i)), (2, .int (nI j))]) hx hb dX2_rank_24 hl (by decide) rfl (fun ls hl => ?_)
        refine lv_aload hx hb dX2_rank_26 (lv_at hl 0 rfl) ?_
        refine lv_ifnonnull (tgt := 35) hx hb dX2_rank_28 (by decide) ?_
        refine lv_aload_n hx hb dX2_rank_35 rfl (lv_at hl 1 rfl) ?_
        refine lv_aload hx hb dX2_rank_36 (lv_at hl 0 rfl) ?_
        refine gf_X_34 hx hb hown hts hG hw (hV.aL haP) (hV.a haP) dX2_rank_38 ?_
        refine lv_aload hx hb dX2_rank_41 (lv_at hl 0 rfl) ?_
        refine gf_X_54 hx hb hown hts hG hw (hV.aL haP) (hV.a haP) dX2_rank_43 ?_
        have hN : jo_N k PS o := hV.nO (by decide) hfo
        have ef0 : va_up f o (jo_eO hd pa (nI qs.length) hr ps) = f := jz_self hfo
        have hlenN := hOk.len
        rw [← ef0] at hw
        refine cl_X_58 (As := [.long (u.1 a), .int (k.2.1 a)]) (rest := []) hx hb hml hown hts hG hw (c_countAheadOf l D ct (f0 := f) (ns := hd :: qs) hV hN hoL (by rw [eqs]) hOk.sub (by simp only [List.length_cons]; omega) hOk.rows hOk.1.2 hOk.h1 hA1 hA2) rfl ⟨Nat.le_of_ble_eq_true rfl, Nat.le_of_ble_eq_true rfl⟩ hoL (va_up_self _ _ _) hl.1 rfl (Nat.le_of_ble_eq_true rfl) dX2_rank_46 ⟨Nat.le_of_ble_eq_true rfl, Nat.le_of_ble_eq_true rfl⟩ (fun v L' f' H1 locs1 hp hw hcf => ?_)
        obtain ⟨rfl, eL, hr', ps', ef⟩ := hp
        rw [eL, ef, ef0] at hw
        have hX' := hcl N L _ (As i) (Nat.le_refl _) (hSt.same hr' ps')
        rw [jq_upSelf] at hX'
        exact jx_iret hx hb hrt hlk hw (Nat.le_of_ble_eq_true rfl) (Nat.le_of_ble_eq_true rfl) dX2_rank_49 ⟨by rw [esp], hX'⟩
      · have hget := hOk.getN habs
        have esp : sp_rank As (nI i) (nI j) = -1 := by rw [sp_rank, if_pos ⟨(jq_oI hi).1, (jq_mI hj).1⟩, (jq_oI hi).2, (jq_mI hj).2, hget]
        refine lv_astoreN (lv' := [(4, .null), (3, .ref o), (0, .ref x), (1, .int (nI i)), (2, .int (nI j))]) hx hb dX2_rank_24 hl (by decide) rfl (fun ls hl => ?_)
        refine lv_aloadN hx hb dX2_rank_26 (lv_at hl 0 rfl) ?_
        refine lv_ifnonnullN hx hb dX2_rank_28 ?_
        refine lv_iconst (v := (-1)) hx hb dX2_rank_31 (by decide) ?_
        refine lv_goto (tgt := 49) hx hb dX2_rank_32 (by decide) ?_
        exact jx_iret hx hb hrt hlk hw (Nat.le_of_ble_eq_true rfl) (Nat.le_of_ble_eq_true rfl) dX2_rank_49 ⟨by rw [esp], hX⟩
    · refine jx_enter (by decide) (Nat.le_of_ble_eq_true rfl) ?_
      intro p e s m below meth c C hw ls hl
      obtain ⟨hx, hb, hrt, hlk, hnm, hml, hown, hts, hG⟩ := C
      have hl : lv_has ls 5 [(0, .ref x), (1, .int (nI i)), (2, .int mv)] := hl
      obtain ⟨oa, g, o, hd, pa, hr, ps, k, u, PS, qs, S, hxL, haL, hfx, hfa, hgi, hSt, hcl⟩ := hX.opn hi
      refine lv_aload_n hx hb dX2_rank_0 rfl (lv_at hl 0 rfl) ?_
      refine lv_iload_n hx hb dX2_rank_1 rfl (lv_at hl 1 rfl) ?_
      refine cl_X_18 (As := [.int (nI i)]) (rest := []) hx hb hml hown hts hG hw (c_orderOf l D ct hxL haL hfx hfa) rfl ⟨Nat.le_of_ble_eq_true rfl, Nat.le_of_ble_eq_true rfl⟩ hxL hfx hl.1 rfl (Nat.le_of_ble_eq_true rfl) dX2_rank_2 ⟨Nat.le_of_ble_eq_true rfl, Nat.le_of_ble_eq_true rfl⟩ (fun v L' f' H1 locs1 hp hw hcf => ?_)
      obtain ⟨hv, eL, ef⟩ := hp
      rw [eL, ef] at hw
      have hv : v = some (.ref o) := by
        rcases hv with ⟨i2, hi2, e2, e3⟩ | ⟨q, -⟩
        · have e4 : i = i2 := (nI_eq (by omega) (by omega)).mp e2
          rw [e3, ← e4, hgi]
          rfl
        · exact absurd (jq_oI hi).1 q
      subst hv
      obtain ⟨hoL, hpL, hfo, hfp, hV, hOk⟩ := id hSt
      refine lv_astore_n (lv' := [(3, .ref o), (0, .ref x), (1, .int (nI i)), (2, .int mv)]) hx hb dX2_rank_5 rfl hl (by decide) rfl (fun ls hl => ?_)
      refine lv_aload_n hx hb dX2_rank_6 rfl (lv_at hl 0 rfl) ?_
      refine lv_ifnull hx hb dX2_rank_7 ?_
      refine lv_iload_n hx hb dX2_rank_10 rfl (lv_at hl 3 rfl) ?_
      refine cl_X_22 (As := [.int mv]) (rest := []) hx hb hml hown hts hG hw (c_isMember l D ct L f mv) rfl ⟨Nat.le_of_ble_eq_true rfl, Nat.le_of_ble_eq_true rfl⟩ hl.1 rfl (Nat.le_of_ble_eq_true rfl) dX2_rank_11 ⟨Nat.le_of_ble_eq_true rfl, Nat.le_of_ble_eq_true rfl⟩ (fun v L' f' H1 locs1 hp hw hcf => ?_)
      obtain ⟨hv, eL, ef⟩ := hp
      rw [eL, ef] at hw
      have hv : v = some (.int 0) := hv.elim (fun q => absurd q.1 hm) (fun q => q.2)
      subst hv
      refine lv_if_ne (tgt := 19) hx hb dX2_rank_14 (by decide) (fun h => absurd rfl h) (fun _ => ?_)
      refine lv_iconst (v := (-1)) hx hb dX2_rank_17 (by decide) ?_
      exact jx_iret hx hb hrt hlk hw (Nat.le_of_ble_eq_true rfl) (Nat.le_of_ble_eq_true rfl) dX2_rank_18 ⟨by rw [sp_rank, if_neg (fun q => hm q.2)], hX⟩
  · refine jx_enter (by decide) (Nat.le_of_ble_eq_true rfl) ?_
    intro p e s m below meth c C hw ls hl
    obtain ⟨hx, hb, hrt, hlk, hnm, hml, hown, hts, hG⟩ := C
    have hl : lv_has ls 5 [(0, .ref x), (1, .int ov), (2, .int mv)] := hl
    have hno := ho
    obtain ⟨oa, g, hxL, haL, hfx, hfa⟩ := hX.base
    refine lv_aload_n hx hb dX2_rank_0 rfl (lv_at hl 0 rfl) ?_
    refine lv_iload_n hx hb dX2_rank_1 rfl (lv_at hl 1 rfl) ?_
    refine cl_X_18 (As := [.int ov]) (rest := []) hx hb hml hown hts hG hw (c_orderOf l D ct hxL haL hfx hfa) rfl ⟨Nat.le_of_ble_eq_true rfl, Nat.le_of_ble_eq_true rfl⟩ hxL hfx hl.1 rfl (Nat.le_of_ble_eq_true rfl) dX2_rank_2 ⟨Nat.le_of_ble_eq_true rfl, Nat.le_of_ble_eq_true rfl⟩ (fun v L' f' H1 locs1 hp hw hcf => ?_)
    obtain ⟨hv, eL, ef⟩ := hp
    rw [eL, ef] at hw
    have hv : v = some .null := hv.elim (fun ⟨i, hi, e, _⟩ => absurd (e ▸ (jq_oI hi).1) hno) (fun q => q.2)
    subst hv
    refine lv_astore_nN (lv' := [(3, .null), (0, .ref x), (1, .int ov), (2, .int mv)]) hx hb dX2_rank_5 rfl hl (by decide) rfl (fun ls hl => ?_)
    refine lv_aload_nN hx hb dX2_rank_6 rfl (lv_at hl 0 rfl) ?_
    refine lv_ifnullN (tgt := 17) hx hb dX2_rank_7 (by decide) ?_
    refine lv_iconst (v := (-1)) hx hb dX2_rank_17 (by decide) ?_
    exact jx_iret hx hb hrt hlk hw (Nat.le_of_ble_eq_true rfl) (Nat.le_of_ble_eq_true rfl) dX2_rank_18 ⟨by rw [sp_rank, if_neg (fun q => ho q.1)], hX⟩
set_option maxHeartbeats 4000000 in
set_option maxRecDepth 100000 in
theorem c_X_at (l : Launch) (D : va_G) (ct : Nat → ClassId) {N : Nat} {L : List Nat} {f : Nat → va_E} {x : Nat} {As : jq_S} (hX : jX N ct x L f As) (hNb : N < 2 ^ 29) {ov rv : Int32} :
    jz_M l D ct yX2_at cX2_at 5 (some .int) ({ frames := 2, cells := 0, slots := 0, locals := 45 } : Room) [.ref x, .int ov, .int rv] L f (fun v L' f' => v = some (.int (sp_at As ov rv)) ∧ jX N ct x L' f' As) := by
  by_cases ho : jq_o ov
  · obtain ⟨i, hi, ei, hcl0⟩ := jq_oN ho
    subst ei
    refine jx_enter (by decide) (Nat.le_of_ble_eq_true rfl) ?_
    intro p e s m below meth c C hw ls hl
    obtain ⟨hx, hb, hrt, hlk, hnm, hml, hown, hts, hG⟩ := C
    have hl : lv_has ls 5 [(0, .ref x), (1, .int (nI i)), (2, .int rv)] := hl
    obtain ⟨oa, g, o, hd, pa, hr, ps, k, u, PS, qs, S, hxL, haL, hfx, hfa, hgi, hSt, hcl⟩ := hX.opn hi
    refine lv_aload_n hx hb dX2_at_0 rfl (lv_at hl 0 rfl) ?_
    refine lv_iload_n hx hb dX2_at_1 rfl (lv_at hl 1 rfl) ?_
    refine cl_X_18 (As := [.int (nI i)]) (rest := []) hx hb hml hown hts hG hw (c_orderOf l D ct hxL haL hfx hfa) rfl ⟨Nat.le_of_ble_eq_true rfl, Nat.le_of_ble_eq_true rfl⟩ hxL hfx hl.1 rfl (Nat.le_of_ble_eq_true rfl) dX2_at_2 ⟨Nat.le_of_ble_eq_true rfl, Nat.le_of_ble_eq_true rfl⟩ (fun v L' f' H1 locs1 hp hw hcf => ?_)
    obtain ⟨hv, eL, ef⟩ := hp
    rw [eL, ef] at hw
    have hv : v = some (.ref o) := by
      rcases hv with ⟨i2, hi2, e2, e3⟩ | ⟨q, -⟩
      · have e4 : i = i2 := (nI_eq (by omega) (by omega)).mp e2
        rw [e3, ← e4, hgi]
        rfl
      · exact absurd (jq_oI hi).1 q
    subst hv
    obtain ⟨hoL, hpL, hfo, hfp, hV, hOk⟩ := id hSt
    refine lv_astore_n (lv' := [(3, .ref o), (0, .ref x), (1, .int (nI i)), (2, .int rv)]) hx hb dX2_at_5 rfl hl (by decide) rfl (fun ls hl => ?_)
    refine lv_aload_n hx hb dX2_at_6 rfl (lv_at hl 0 rfl) ?_
    refine lv_ifnonnull (tgt := 12) hx hb dX2_at_7 (by decide) ?_
    refine lv_aload_n hx hb dX2_at_12 rfl (lv_at hl 0 rfl) ?_
    refine lv_iload_n hx hb dX2_at_13 rfl (lv_at hl 3 rfl) ?_
    have hN : jo_N k PS o := hV.nO (by decide) hfo
    have ef0 : va_up f o (jo_eO hd pa (nI qs.length) hr ps) = f := jz_self hfo
    have hlenN := hOk.len
    rw [← ef0] at hw
    refine cl_X_62 (As := [.int rv]) (rest := []) hx hb hml hown hts hG hw (c_placeOfRank l D ct (f0 := f) (ns := hd :: qs) hV hN hoL hOk.sub (by simp only [List.length_cons]; omega) hOk.rows hOk.h1 rfl hOk.1.2) rfl ⟨Nat.le_of_ble_eq_true rfl, Nat.le_of_ble_eq_true rfl⟩ hoL (va_up_self _ _ _) hl.1 rfl (Nat.le_of_ble_eq_true rfl) dX2_at_14 ⟨Nat.le_of_ble_eq_true rfl, Nat.le_of_ble_eq_true rfl⟩ (fun v L' f' H1 locs1 hp hw hcf => ?_)
    obtain ⟨eL, ⟨hr', ps', ef⟩, hv⟩ := hp
    rw [eL, ef, ef0] at hw
    have hX' := hcl N L _ (As i) (Nat.le_refl _) (hSt.same hr' ps')
    rw [jq_upSelf] at hX'
    rcases hv with ⟨t, a, rfl, hqt, rfl⟩ | ⟨hout, rfl⟩
    · have haq : a ∈ qs := List.mem_of_getElem? hqt
      have haP : a ∈ PS := hOk.2.2.1 a haq
      have htl : t < qs.length := (List.getElem?_eq_some_iff.mp hqt).1
      obtain ⟨m0, hm0, -, hka, -, hkc⟩ := hOk.mem haq
      have eAt : (As i)[t]? = some (m0, u.1 a) := by rw [hOk.eqA, List.getElem?_map, hqt, Option.map_some, hkc]
      have esp : sp_at As (nI i) (nI t) = k.1 a := by rw [sp_at, if_pos ⟨(jq_oI hi).1, nI_pos' (by omega), by rw [(jq_oI hi).2, hOk.lenA]; exact nI_lt htl (by omega)⟩, (jq_oI hi).2, nI_clamp (by omega), eAt, hka]
      refine lv_astore (lv' := [(4, .ref a), (3, .ref o), (0, .ref x), (1, .int (nI i)), (2, .int (nI t))]) hx hb dX2_at_17 hl (by decide) rfl (fun ls hl => ?_)
      refine lv_aload hx hb dX2_at_19 (lv_at hl 0 rfl) ?_
      refine lv_ifnonnull (tgt := 28) hx hb dX2_at_21 (by decide) ?_
      refine lv_aload hx hb dX2_at_28 (lv_at hl 0 rfl) ?_
      refine gf_X_65 hx hb hown hts hG hw ((hV.up (e := jo_eO hd pa (nI qs.length) hr' ps') hN).aL haP) ((hV.up (e := jo_eO hd pa (nI qs.length) hr' ps') hN).a haP) dX2_at_30 ?_
      exact jx_iret hx hb hrt hlk hw (Nat.le_of_ble_eq_true rfl) (Nat.le_of_ble_eq_true rfl) dX2_at_33 ⟨by rw [esp], hX'⟩
    · have esp : sp_at As (nI i) rv = -1 := by
        rw [sp_at, if_neg (fun q => ?_)]
        rw [(jq_oI hi).2, hOk.lenA] at q
        rcases hout with z | z
        · exact absurd z (Int32.not_lt.mpr q.2.1)
        · exact absurd q.2.2 (Int32.not_lt.mpr z)
      refine lv_astoreN (lv' := [(4, .null), (3, .ref o), (0, .ref x), (1, .int (nI i)), (2, .int rv)]) hx hb dX2_at_17 hl (by decide) rfl (fun ls hl => ?_)
      refine lv_aloadN hx hb dX2_at_19 (lv_at hl 0 rfl) ?_
      refine lv_ifnonnullN hx hb dX2_at_21 ?_
      refine lv_iconst (v := (-1)) hx hb dX2_at_24 (by decide) ?_
      refine lv_goto (tgt := 33) hx hb dX2_at_25 (by decide) ?_
      exact jx_iret hx hb hrt hlk hw (Nat.le_of_ble_eq_true rfl) (Nat.le_of_ble_eq_true rfl) dX2_at_33 ⟨by rw [esp], hX'⟩
  · refine jx_enter (by decide) (Nat.le_of_ble_eq_true rfl) ?_
    intro p e s m below meth c C hw ls hl
    obtain ⟨hx, hb, hrt, hlk, hnm, hml, hown, hts, hG⟩ := C
    have hl : lv_has ls 5 [(0, .ref x), (1, .int ov), (2, .int rv)] := hl
    have hno := ho
    obtain ⟨oa, g, hxL, haL, hfx, hfa⟩ := hX.base
    refine lv_aload_n hx hb dX2_at_0 rfl (lv_at hl 0 rfl) ?_
    refine lv_iload_n hx hb dX2_at_1 rfl (lv_at hl 1 rfl) ?_
    refine cl_X_18 (As := [.int ov]) (rest := []) hx hb hml hown hts hG hw (c_orderOf l D ct hxL haL hfx hfa) rfl ⟨Nat.le_of_ble_eq_true rfl, Nat.le_of_ble_eq_true rfl⟩ hxL hfx hl.1 rfl (Nat.le_of_ble_eq_true rfl) dX2_at_2 ⟨Nat.le_of_ble_eq_true rfl, Nat.le_of_ble_eq_true rfl⟩ (fun v L' f' H1 locs1 hp hw hcf => ?_)
    obtain ⟨hv, eL, ef⟩ := hp
    rw [eL, ef] at hw
    have hv : v = some .null := hv.elim (fun ⟨i, hi, e, _⟩ => absurd (e ▸ (jq_oI hi).1) hno) (fun q => q.2)
    subst hv
    refine lv_astore_nN (lv' := [(3, .null), (0, .ref x), (1, .int ov), (2, .int rv)]) hx hb dX2_at_5 rfl hl (by decide) rfl (fun ls hl => ?_)
    refine lv_aload_nN hx hb dX2_at_6 rfl (lv_at hl 0 rfl) ?_
    refine lv_ifnonnullN hx hb dX2_at_7 ?_
    refine lv_iconst (v := (-1)) hx hb dX2_at_10 (by decide) ?_
    exact jx_iret hx hb hrt hlk hw (Nat.le_of_ble_eq_true rfl) (Nat.le_of_ble_eq_true rfl) dX2_at_11 ⟨by rw [sp_at, if_neg (fun q => ho q.1)], hX⟩
set_option maxHeartbeats 4000000 in
set_option maxRecDepth 100000 in
theorem c_X_below (l : Launch) (D : va_G) (ct : Nat → ClassId) {N : Nat} {L : List Nat} {f : Nat → va_E} {x : Nat} {As : jq_S} (hX : jX N ct x L f As) (hNb : N < 2 ^ 29) {ov too : Int32} {sc : Int64} :
    jz_M l D ct yX2_below cX2_below 6 (some .int) ({ frames := 2, cells := 0, slots := 0, locals := 48 } : Room) [.ref x, .int ov, .long sc, .int too] L f (fun v L' f' => v = some (.int (sp_below As ov sc too)) ∧ jX N ct x L' f' As) := by
  by_cases ho : jq_o ov
  · obtain ⟨i, hi, ei, hcl0⟩ := jq_oN ho
    subst ei
    refine jx_enter (by decide) (Nat.le_of_ble_eq_true rfl) ?_
    intro p e s m below meth c C hw ls hl
    obtain ⟨hx, hb, hrt, hlk, hnm, hml, hown, hts, hG⟩ := C
    have hl : lv_has ls 6 [(0, .ref x), (1, .int (nI i)), (2, .long sc), (4, .int too)] := hl
    obtain ⟨oa, g, o, hd, pa, hr, ps, k, u, PS, qs, S, hxL, haL, hfx, hfa, hgi, hSt, hcl⟩ := hX.opn hi
    refine lv_aload_n hx hb dX2_below_0 rfl (lv_at hl 0 rfl) ?_
    refine lv_iload_n hx hb dX2_below_1 rfl (lv_at hl 1 rfl) ?_
    refine cl_X_18 (As := [.int (nI i)]) (rest := []) hx hb hml hown hts hG hw (c_orderOf l D ct hxL haL hfx hfa) rfl ⟨Nat.le_of_ble_eq_true rfl, Nat.le_of_ble_eq_true rfl⟩ hxL hfx hl.1 rfl (Nat.le_of_ble_eq_true rfl) dX2_below_2 ⟨Nat.le_of_ble_eq_true rfl, Nat.le_of_ble_eq_true rfl⟩ (fun v L' f' H1 locs1 hp hw hcf => ?_)
    obtain ⟨hv, eL, ef⟩ := hp
    rw [eL, ef] at hw
    have hv : v = some (.ref o) := by
      rcases hv with ⟨i2, hi2, e2, e3⟩ | ⟨q, -⟩
      · have e4 : i = i2 := (nI_eq (by omega) (by omega)).mp e2
        rw [e3, ← e4, hgi]
        rfl
      · exact absurd (jq_oI hi).1 q
    subst hv
    obtain ⟨hoL, hpL, hfo, hfp, hV, hOk⟩ := id hSt
    refine lv_astore (lv' := [(5, .ref o), (0, .ref x), (1, .int (nI i)), (2, .long sc), (4, .int too)]) hx hb dX2_below_5 hl (by decide) rfl (fun ls hl => ?_)
    refine lv_aload hx hb dX2_below_7 (lv_at hl 0 rfl) ?_
    refine lv_ifnonnull (tgt := 14) hx hb dX2_below_9 (by decide) ?_
    refine lv_aload hx hb dX2_below_14 (lv_at hl 0 rfl) ?_
    refine lv_lload_n hx hb dX2_below_16 rfl (lv_at hl 3 rfl) ?_
    refine lv_iload hx hb dX2_below_17 (lv_at hl 4 rfl) ?_
    refine lv_if_eq (tgt := 27) hx hb dX2_below_19 (by decide) (fun hc => ?_) (fun hc => ?_)
    · refine lv_iconst (v := 0) hx hb dX2_below_27 (by decide) ?_
      obtain ⟨p1, p2, eqs, hA1, hA2⟩ := hOk.cut sc 0
      have esp : sp_below As (nI i) sc too = nI p1.length := by rw [sp_below, if_pos (jq_oI hi).1, (jq_oI hi).2, jq_below_of hOk eqs hA1 hA2 (Or.inl ⟨hc, rfl⟩)]
      have hN : jo_N k PS o := hV.nO (by decide) hfo
      have ef0 : va_up f o (jo_eO hd pa (nI qs.length) hr ps) = f := jz_self hfo
      have hlenN := hOk.len
      rw [← ef0] at hw
      refine cl_X_58 (As := [.long sc, .int 0]) (rest := []) hx hb hml hown hts hG hw (c_countAheadOf l D ct (f0 := f) (ns := hd :: qs) hV hN hoL (by rw [eqs]) hOk.sub (by simp only [List.length_cons]; omega) hOk.rows hOk.1.2 hOk.h1 hA1 hA2) rfl ⟨Nat.le_of_ble_eq_true rfl, Nat.le_of_ble_eq_true rfl⟩ hoL (va_up_self _ _ _) hl.1 rfl (Nat.le_of_ble_eq_true rfl) dX2_below_28 ⟨Nat.le_of_ble_eq_true rfl, Nat.le_of_ble_eq_true rfl⟩ (fun v L' f' H1 locs1 hp hw hcf => ?_)
      obtain ⟨rfl, eL, hr', ps', ef⟩ := hp
      rw [eL, ef, ef0] at hw
      have hX' := hcl N L _ (As i) (Nat.le_refl _) (hSt.same hr' ps')
      rw [jq_upSelf] at hX'
      exact jx_iret hx hb hrt hlk hw (Nat.le_of_ble_eq_true rfl) (Nat.le_of_ble_eq_true rfl) dX2_below_31 ⟨by rw [esp], hX'⟩
    · refine lv_ldc (own := RX2) (v := 2147483647) hx hb hown (hts (.constant RX2 68 2147483647) (by decide +kernel)) dX2_below_22 ?_
      refine lv_goto (tgt := 28) hx hb dX2_below_24 (by decide) ?_
      obtain ⟨p1, p2, eqs, hA1, hA2⟩ := hOk.cut sc 2147483647
      have esp : sp_below As (nI i) sc too = nI p1.length := by rw [sp_below, if_pos (jq_oI hi).1, (jq_oI hi).2, jq_below_of hOk eqs hA1 hA2 (Or.inr ⟨hc, rfl⟩)]
      have hN : jo_N k PS o := hV.nO (by decide) hfo
      have ef0 : va_up f o (jo_eO hd pa (nI qs.length) hr ps) = f := jz_self hfo
      have hlenN := hOk.len
      rw [← ef0] at hw
      refine cl_X_58 (As := [.long sc, .int 2147483647]) (rest := []) hx hb hml hown hts hG hw (c_countAheadOf l D ct (f0 := f) (ns := hd :: qs) hV hN hoL (by rw [eqs]) hOk.sub (by simp only [List.length_cons]; omega) hOk.rows hOk.1.2 hOk.h1 hA1 hA2) rfl ⟨Nat.le_of_ble_eq_true rfl, Nat.le_of_ble_eq_true rfl⟩ hoL (va_up_self _ _ _) hl.1 rfl (Nat.le_of_ble_eq_true rfl) dX2_below_28 ⟨Nat.le_of_ble_eq_true rfl, Nat.le_of_ble_eq_true rfl⟩ (fun v L' f' H1 locs1 hp hw hcf => ?_)
      obtain ⟨rfl, eL, hr', ps', ef⟩ := hp
      rw [eL, ef, ef0] at hw
      have hX' := hcl N L _ (As i) (Nat.le_refl _) (hSt.same hr' ps')
      rw [jq_upSelf] at hX'
      exact jx_iret hx hb hrt hlk hw (Nat.le_of_ble_eq_true rfl) (Nat.le_of_ble_eq_true rfl) dX2_below_31 ⟨by rw [esp], hX'⟩
  · refine jx_enter (by decide) (Nat.le_of_ble_eq_true rfl) ?_
    intro p e s m below meth c C hw ls hl
    obtain ⟨hx, hb, hrt, hlk, hnm, hml, hown, hts, hG⟩ := C
    have hl : lv_has ls 6 [(0, .ref x), (1, .int ov), (2, .long sc), (4, .int too)] := hl
    have hno := ho
    obtain ⟨oa, g, hxL, haL, hfx, hfa⟩ := hX.base
    refine lv_aload_n hx hb dX2_below_0 rfl (lv_at hl 0 rfl) ?_
    refine lv_iload_n hx hb dX2_below_1 rfl (lv_at hl 1 rfl) ?_
    refine cl_X_18 (As := [.int ov]) (rest := []) hx hb hml hown hts hG hw (c_orderOf l D ct hxL haL hfx hfa) rfl ⟨Nat.le_of_ble_eq_true rfl, Nat.le_of_ble_eq_true rfl⟩ hxL hfx hl.1 rfl (Nat.le_of_ble_eq_true rfl) dX2_below_2 ⟨Nat.le_of_ble_eq_true rfl, Nat.le_of_ble_eq_true rfl⟩ (fun v L' f' H1 locs1 hp hw hcf => ?_)
    obtain ⟨hv, eL, ef⟩ := hp
    rw [eL, ef] at hw
    have hv : v = some .null := hv.elim (fun ⟨i, hi, e, _⟩ => absurd (e ▸ (jq_oI hi).1) hno) (fun q => q.2)
    subst hv
    refine lv_astoreN (lv' := [(5, .null), (0, .ref x), (1, .int ov), (2, .long sc), (4, .int too)]) hx hb dX2_below_5 hl (by decide) rfl (fun ls hl => ?_)
    refine lv_aloadN hx hb dX2_below_7 (lv_at hl 0 rfl) ?_
    refine lv_ifnonnullN hx hb dX2_below_9 ?_
    refine lv_iconst (v := (-1)) hx hb dX2_below_12 (by decide) ?_
    exact jx_iret hx hb hrt hlk hw (Nat.le_of_ble_eq_true rfl) (Nat.le_of_ble_eq_true rfl) dX2_below_13 ⟨by rw [sp_below, if_neg ho], hX⟩
end
section
section WK
variable {p : Program} {l : Launch} {e : Env} {R : Room} {s : State} {m : MethodId} {args : Array Value} {below : List Frame} {meth : Method} {c : Code} {H : Heap} {locs : List Loc} {cells slots : Nat} {Q : State → Prop} {D : va_G} {ct : Nat → ClassId} {A : Nat → Prop} {H0 : Heap} {L : List Nat}
variable {f : Nat → va_E} {k : jK} {u : jS} {PS : List Nat}
set_option maxHeartbeats 4000000 in
set_option maxRecDepth 100000 in
theorem lp_walk (hx : p.tables.exec = Jvm.exec) (hb : c.code = cX2_walk) (hown : s.vm.findClass RX2 = some m.cls) (hts : ∀ w ∈ jz_TT, w.before args s = true) (hG : jz_G D ct s) (hw : jz_w D A H0 L f H locs) (hV : jo_V (ct 0) (ct 1) L f k u PS) {nn : Nat} (hnn : nn ≤ 1000) {res : Int32}
    (kk : ∀ ls : Array Slot, lv_has ls 8 [(5, .int res)] → W p l e R s m args below meth c H locs cells slots Q (F0 m 83 ls [])) :
    ∀ (mm : Nat) (rs : List Nat) (t : Nat) (sm : Int32) (ls : Array Slot), t + mm = nn → jr_ok k.2.2.1 u.2.2.1 u.2.2.2 0 rs → (∀ y ∈ rs, y ∈ PS ∧ 1 ≤ k.2.2.1 y ∧ k.1 y = nI (k.1 y).toNatClampNeg) → jq_sum sm ((rs.map (fun a => ((k.1 a).toNatClampNeg, u.1 a))).take mm) = res → lv_has ls 8 [(3, .int (nI nn)), (5, .int sm), (6, (va_rf (jr_fst k.2.2.1 0 rs))), (7, .int (nI t))] → W p l e R s m args below meth c H locs cells slots Q (F0 m 44 ls []) := by
  intro mm
  induction mm with
  | zero =>
    intro rs t sm ls ht hro hrs hres hl
    have ht : t = nn := by omega
    subst ht
    refine lv_iload hx hb dX2_walk_44 (lv_at hl 3 rfl) ?_
    refine lv_iload_n hx hb dX2_walk_46 rfl (lv_at hl 0 rfl) ?_
    refine lv_icmp_ge (tgt := 83) hx hb dX2_walk_47 (by decide) (fun _ => ?_) (fun h => absurd (Int32.le_refl _) h)
    have hres : sm = res := by rw [List.take_zero] at hres; exact hres
    subst hres
    exact kk ls (lv_sub hl [1] rfl)
  | succ mm ih =>
    intro rs t sm ls ht hro hrs hres hl
    refine lv_iload hx hb dX2_walk_44 (lv_at hl 3 rfl) ?_
    refine lv_iload_n hx hb dX2_walk_46 rfl (lv_at hl 0 rfl) ?_
    refine lv_icmp_ge (tgt := 83) hx hb dX2_walk_47 (by decide) (fun h => absurd (nI_lt (show t < nn by omega) (by omega)) (Int32.not_lt.mpr h)) (fun _ => ?_)
    cases rs with
    | nil =>
      have hl : lv_has ls 8 [(3, .int (nI nn)), (5, .int sm), (6, .null), (7, .int (nI t))] := hl
      refine lv_aloadN hx hb dX2_walk_50 (lv_at hl 2 rfl) ?_
      refine lv_ifnullN (tgt := 83) hx hb dX2_walk_52 (by decide) ?_
      have hres : sm = res := by rw [List.map_nil, List.take_nil] at hres; exact hres
      subst hres
      exact kk ls (lv_sub hl [1] rfl)
    | cons b rt =>
      obtain ⟨hbP, hb1, hbm⟩ := hrs b List.mem_cons_self
      have hl : lv_has ls 8 [(3, .int (nI nn)), (5, .int sm), (6, .ref b), (7, .int (nI t))] := by rw [jr_fst_at hb1] at hl; exact hl
      refine lv_aload hx hb dX2_walk_50 (lv_at hl 2 rfl) ?_
      refine lv_ifnull hx hb dX2_walk_52 ?_
      refine lv_bipush (v := 31) hx hb dX2_walk_55 (by decide) ?_
      refine lv_iload hx hb dX2_walk_57 (lv_at hl 1 rfl) ?_
      refine lv_imul hx hb dX2_walk_59 ?_
      refine lv_aload hx hb dX2_walk_60 (lv_at hl 2 rfl) ?_
      refine gf_X_65 hx hb hown hts hG hw (hV.aL hbP) (hV.a hbP) dX2_walk_62 ?_
      refine lv_iadd hx hb dX2_walk_65 ?_
      refine lv_istore (lv' := [(5, .int ((31 * sm) + (k.1 b))), (3, .int (nI nn)), (6, .ref b), (7, .int (nI t))]) hx hb dX2_walk_66 hl (by decide) rfl (fun ls hl => ?_)
      refine lv_aload hx hb dX2_walk_68 (lv_at hl 2 rfl) ?_
      refine gf_X_72 hx hb hown hts hG hw (hV.aL hbP) (hV.a hbP) dX2_walk_70 ?_
      refine lv_iconst (v := nI 0) hx hb dX2_walk_73 (by decide) ?_
      refine jx_aldqI hx hb hG hw (hV.nL hbP) 1 (hV.n hbP) rfl (by decide) (by decide) dX2_walk_74 ?_
      rw [(hro.1 hb1).1]
      refine jx_astoreq (lv' := [(6, (va_rf (jr_fst k.2.2.1 0 rt))), (5, .int ((31 * sm) + (k.1 b))), (3, .int (nI nn)), (7, .int (nI t))]) hx hb dX2_walk_75 hl (by decide) rfl (fun ls hl => ?_)
      refine lv_iinc (v := nI (t + 1)) (lv' := [(7, .int (nI (t + 1))), (6, (va_rf (jr_fst k.2.2.1 0 rt))), (5, .int ((31 * sm) + (k.1 b))), (3, .int (nI nn))]) hx hb dX2_walk_77 hl (k := 3) rfl (nI_succ t).symm (by decide) (by cases jr_fst k.2.2.1 0 rt <;> rfl) (fun ls hl => ?_)
      refine lv_goto (tgt := 44) hx hb dX2_walk_80 (by decide) ?_
      refine ih rt (t + 1) (31 * sm + k.1 b) ls (by omega) hro.2 (fun y hy => hrs y (List.mem_cons_of_mem _ hy)) ?_ (lv_sub hl [3, 2, 1, 0] rfl)
      rw [← hres, List.map_cons, List.take_succ_cons, jq_sum, ← hbm]
end WK
set_option maxHeartbeats 4000000 in
set_option maxRecDepth 100000 in
theorem c_X_walk (l : Launch) (D : va_G) (ct : Nat → ClassId) {N : Nat} {L : List Nat} {f : Nat → va_E} {x : Nat} {As : jq_S} (hX : jX N ct x L f As) (hNb : N < 2 ^ 29) {ov fv nv : Int32} :
    jz_M l D ct yX2_walk cX2_walk 8 (some .int) ({ frames := 2, cells := 0, slots := 0, locals := 45 } : Room) [.ref x, .int ov, .int fv, .int nv] L f (fun v L' f' => v = some (.int (sp_walk As ov fv nv)) ∧ jX N ct x L' f' As) := by
  by_cases ho : jq_o ov
  · obtain ⟨i, hi, ei, hcl0⟩ := jq_oN ho
    subst ei
    refine jx_enter (by decide) (Nat.le_of_ble_eq_true rfl) ?_
    intro p e s m below meth c C hw ls hl
    obtain ⟨hx, hb, hrt, hlk, hnm, hml, hown, hts, hG⟩ := C
    have hl : lv_has ls 8 [(0, .ref x), (1, .int (nI i)), (2, .int fv), (3, .int nv)] := hl
    obtain ⟨oa, g, o, hd, pa, hr, ps, k, u, PS, qs, S, hxL, haL, hfx, hfa, hgi, hSt, hcl⟩ := hX.opn hi
    refine lv_aload_n hx hb dX2_walk_0 rfl (lv_at hl 0 rfl) ?_
    refine lv_iload_n hx hb dX2_walk_1 rfl (lv_at hl 1 rfl) ?_
    refine cl_X_18 (As := [.int (nI i)]) (rest := []) hx hb hml hown hts hG hw (c_orderOf l D ct hxL haL hfx hfa) rfl ⟨Nat.le_of_ble_eq_true rfl, Nat.le_of_ble_eq_true rfl⟩ hxL hfx hl.1 rfl (Nat.le_of_ble_eq_true rfl) dX2_walk_2 ⟨Nat.le_of_ble_eq_true rfl, Nat.le_of_ble_eq_true rfl⟩ (fun v L' f' H1 locs1 hp hw hcf => ?_)
    obtain ⟨hv, eL, ef⟩ := hp
    rw [eL, ef] at hw
    have hv : v = some (.ref o) := by
      rcases hv with ⟨i2, hi2, e2, e3⟩ | ⟨q, -⟩
      · have e4 : i = i2 := (nI_eq (by omega) (by omega)).mp e2
        rw [e3, ← e4, hgi]
        rfl
      · exact absurd (jq_oI hi).1 q
    subst hv
    obtain ⟨hoL, hpL, hfo, hfp, hV, hOk⟩ := id hSt
    refine lv_astore (lv' := [(4, .ref o), (0, .ref x), (1, .int (nI i)), (2, .int fv), (3, .int nv)]) hx hb dX2_walk_5 hl (by decide) rfl (fun ls hl => ?_)
    refine lv_aload hx hb dX2_walk_7 (lv_at hl 0 rfl) ?_
    refine lv_ifnull hx hb dX2_walk_9 ?_
    refine lv_iload_n hx hb dX2_walk_12 rfl (lv_at hl 3 rfl) ?_
    refine lv_if_lt (tgt := 27) hx hb dX2_walk_13 (by decide) (fun h1 => ?_) (fun h1 => ?_)
    · refine lv_iconst (v := (-1)) hx hb dX2_walk_27 (by decide) ?_
      exact jx_iret hx hb hrt hlk hw (Nat.le_of_ble_eq_true rfl) (Nat.le_of_ble_eq_true rfl) dX2_walk_28 ⟨by rw [sp_walk, if_neg (fun q => q.2.1 h1)], hX⟩
    · refine lv_iload_n hx hb dX2_walk_16 rfl (lv_at hl 4 rfl) ?_
      refine lv_if_lt (tgt := 27) hx hb dX2_walk_17 (by decide) (fun h2 => ?_) (fun h2 => ?_)
      · refine lv_iconst (v := (-1)) hx hb dX2_walk_27 (by decide) ?_
        exact jx_iret hx hb hrt hlk hw (Nat.le_of_ble_eq_true rfl) (Nat.le_of_ble_eq_true rfl) dX2_walk_28 ⟨by rw [sp_walk, if_neg (fun q => q.2.2.1 h2)], hX⟩
      · refine lv_iload_n hx hb dX2_walk_20 rfl (lv_at hl 4 rfl) ?_
        refine lv_sipush (v := nI 1000) hx hb dX2_walk_21 (by decide) ?_
        refine lv_icmp_le (tgt := 29) hx hb dX2_walk_24 (by decide) (fun h3 => ?_) (fun h3 => ?_)
        · obtain ⟨nn, hn31, rfl⟩ := nI_of h2
          have hnn : nn ≤ 1000 := (nI_leI hn31 (by decide)).mp h3
          have esp : sp_walk As (nI i) fv (nI nn) = jq_sum 7 (((As i).drop fv.toNatClampNeg).take nn) := by rw [sp_walk, if_pos ⟨(jq_oI hi).1, h1, h2, h3⟩, (jq_oI hi).2, nI_clamp hn31]
          refine lv_bipush (v := 7) hx hb dX2_walk_29 (by decide) ?_
          refine lv_istore (lv' := [(5, .int 7), (4, .ref o), (0, .ref x), (1, .int (nI i)), (2, .int fv), (3, .int (nI nn))]) hx hb dX2_walk_31 hl (by decide) rfl (fun ls hl => ?_)
          refine lv_aload hx hb dX2_walk_33 (lv_at hl 1 rfl) ?_
          refine lv_iload_n hx hb dX2_walk_35 rfl (lv_at hl 4 rfl) ?_
          have hN : jo_N k PS o := hV.nO (by decide) hfo
          have ef0 : va_up f o (jo_eO hd pa (nI qs.length) hr ps) = f := jz_self hfo
          have hlenN := hOk.len
          rw [← ef0] at hw
          refine cl_X_62 (As := [.int fv]) (rest := []) hx hb hml hown hts hG hw (c_placeOfRank l D ct (f0 := f) (ns := hd :: qs) hV hN hoL hOk.sub (by simp only [List.length_cons]; omega) hOk.rows hOk.h1 rfl hOk.1.2) rfl ⟨Nat.le_of_ble_eq_true rfl, Nat.le_of_ble_eq_true rfl⟩ hoL (va_up_self _ _ _) hl.1 rfl (Nat.le_of_ble_eq_true rfl) dX2_walk_36 ⟨Nat.le_of_ble_eq_true rfl, Nat.le_of_ble_eq_true rfl⟩ (fun v L' f' H1 locs1 hp hw hcf => ?_)
          obtain ⟨eL, ⟨hr', ps', ef⟩, hv⟩ := hp
          rw [eL, ef, ef0] at hw
          have hX' := hcl N L _ (As i) (Nat.le_refl _) (hSt.same hr' ps')
          rw [jq_upSelf] at hX'
          have hVo := hV.up (e := jo_eO hd pa (nI qs.length) hr' ps') hN
          have hv2 : v = some (va_rf (jr_fst k.2.2.1 0 (qs.drop fv.toNatClampNeg))) := by
            rcases hv with ⟨t, a, e1, hqt, e2⟩ | ⟨hout, e2⟩
            · have htl : t < qs.length := (List.getElem?_eq_some_iff.mp hqt).1
              have ha1 : 0 < k.2.2.1 a := hOk.h1 a (List.mem_cons_of_mem _ (List.mem_of_getElem? hqt))
              rw [e2, e1, nI_clamp (by omega), List.drop_eq_getElem_cons htl, (List.getElem?_eq_some_iff.mp hqt).2, jr_fst_at ha1]
              rfl
            · have hge : qs.length ≤ fv.toNatClampNeg := by
                obtain ⟨t, h31, e1⟩ := nI_of h1
                rw [e1] at hout ⊢
                rw [nI_clamp h31]
                rcases hout with z | z
                · exact absurd z (nI_pos h31)
                · exact (nI_leI (by omega) h31).mp z
              rw [e2, List.drop_eq_nil_of_le hge]
              rfl
          subst hv2
          refine jx_astoreq (lv' := [(6, (va_rf (jr_fst k.2.2.1 0 (qs.drop fv.toNatClampNeg)))), (5, .int 7), (4, .ref o), (0, .ref x), (1, .int (nI i)), (2, .int fv), (3, .int (nI nn))]) hx hb dX2_walk_39 hl (by decide) rfl (fun ls hl => ?_)
          refine lv_iconst (v := nI 0) hx hb dX2_walk_41 (by decide) ?_
          refine lv_istore (lv' := [(7, .int (nI 0)), (6, (va_rf (jr_fst k.2.2.1 0 (qs.drop fv.toNatClampNeg)))), (5, .int 7), (4, .ref o), (0, .ref x), (1, .int (nI i)), (2, .int fv), (3, .int (nI nn))]) hx hb dX2_walk_42 hl (by decide) (by cases jr_fst k.2.2.1 0 (qs.drop fv.toNatClampNeg) <;> rfl) (fun ls hl => ?_)
          refine lp_walk (res := sp_walk As (nI i) fv (nI nn)) hx hb hown hts hG hw hVo hnn (fun ls hl => ?_) nn (qs.drop fv.toNatClampNeg) 0 7 ls (by omega) ?_ (fun y hy => ?_) ?_ (lv_sub hl [7, 2, 1, 0] rfl)
          · refine lv_iload hx hb dX2_walk_83 (lv_at hl 0 rfl) ?_
            exact jx_iret hx hb hrt hlk hw (Nat.le_of_ble_eq_true rfl) (Nat.le_of_ble_eq_true rfl) dX2_walk_85 ⟨rfl, hX'⟩
          · refine jr_ok_app (s := qs.take fv.toNatClampNeg) ?_
            rw [List.take_append_drop]
            exact (hOk.rows 0 (by decide)).2
          · have hyq : y ∈ qs := List.mem_of_mem_drop hy
            obtain ⟨m0, hm0, -, hka, -, hkc⟩ := hOk.mem hyq
            exact ⟨hOk.2.2.1 y hyq, hOk.h1 y (List.mem_cons_of_mem _ hyq), by rw [hkc]; exact hka⟩
          · rw [esp, hOk.eqA, List.map_drop]
        · refine lv_iconst (v := (-1)) hx hb dX2_walk_27 (by decide) ?_
          exact jx_iret hx hb hrt hlk hw (Nat.le_of_ble_eq_true rfl) (Nat.le_of_ble_eq_true rfl) dX2_walk_28 ⟨by rw [sp_walk, if_neg (fun q => h3 q.2.2.2)], hX⟩
  · refine jx_enter (by decide) (Nat.le_of_ble_eq_true rfl) ?_
    intro p e s m below meth c C hw ls hl
    obtain ⟨hx, hb, hrt, hlk, hnm, hml, hown, hts, hG⟩ := C
    have hl : lv_has ls 8 [(0, .ref x), (1, .int ov), (2, .int fv), (3, .int nv)] := hl
    have hno := ho
    obtain ⟨oa, g, hxL, haL, hfx, hfa⟩ := hX.base
    refine lv_aload_n hx hb dX2_walk_0 rfl (lv_at hl 0 rfl) ?_
    refine lv_iload_n hx hb dX2_walk_1 rfl (lv_at hl 1 rfl) ?_
    refine cl_X_18 (As := [.int ov]) (rest := []) hx hb hml hown hts hG hw (c_orderOf l D ct hxL haL hfx hfa) rfl ⟨Nat.le_of_ble_eq_true rfl, Nat.le_of_ble_eq_true rfl⟩ hxL hfx hl.1 rfl (Nat.le_of_ble_eq_true rfl) dX2_walk_2 ⟨Nat.le_of_ble_eq_true rfl, Nat.le_of_ble_eq_true rfl⟩ (fun v L' f' H1 locs1 hp hw hcf => ?_)
    obtain ⟨hv, eL, ef⟩ := hp
    rw [eL, ef] at hw
    have hv : v = some .null := hv.elim (fun ⟨i, hi, e, _⟩ => absurd (e ▸ (jq_oI hi).1) hno) (fun q => q.2)
    subst hv
    refine lv_astoreN (lv' := [(4, .null), (0, .ref x), (1, .int ov), (2, .int fv), (3, .int nv)]) hx hb dX2_walk_5 hl (by decide) rfl (fun ls hl => ?_)
    refine lv_aloadN hx hb dX2_walk_7 (lv_at hl 0 rfl) ?_
    refine lv_ifnullN (tgt := 27) hx hb dX2_walk_9 (by decide) ?_
    refine lv_iconst (v := (-1)) hx hb dX2_walk_27 (by decide) ?_
    exact jx_iret hx hb hrt hlk hw (Nat.le_of_ble_eq_true rfl) (Nat.le_of_ble_eq_true rfl) dX2_walk_28 ⟨by rw [sp_walk, if_neg (fun q => ho q.1)], hX⟩
section XI
variable {p : Program} {l : Launch} {e : Env} {R : Room} {s : State} {m : MethodId} {args : Array Value} {below : List Frame} {meth : Method} {c : Code} {H : Heap} {locs : List Loc} {cells slots : Nat} {Q : State → Prop} {D : va_G} {ct : Nat → ClassId} {A : Nat → Prop} {H0 : Heap} {L : List Nat}
variable {x oa : Nat}
set_option maxHeartbeats 4000000 in
set_option maxRecDepth 100000 in
theorem lp_xinit (hx : p.tables.exec = Jvm.exec) (hb : c.code = cX2_init) (hml : c.maxLocals = 2) (hown : s.vm.findClass RX2 = some m.cls) (hts : ∀ w ∈ jz_TT, w.before args s = true) (hG : jz_G D ct s) (hcs : 21 ≤ R.cells ∧ 4084 ≤ R.slots) (hR : 2 + 1 ≤ R.frames ∧ 8 + (1 + 11) + 42 ≤ R.locals)
    (kk : ∀ (g : Nat → Option Nat) (od : Nat → Nat) (FP : Nat → Nat → Prop) (L1 : List Nat) (f1 : Nat → va_E) (H : Heap) (locs : List Loc) (ls : Array Slot), x ∈ L1 → oa ∈ L1 → f1 x = .inr (0, [.ref oa]) → f1 oa = jo_eA (ct 2) g → (∀ j, j < 4 → g j = some (od j) ∧ jo_Own 0 ct L1 f1 (od j) [] (FP j) ∧ ¬ FP j x ∧ ¬ FP j oa) → (∀ a b, a < 4 → b < 4 → a ≠ b → ∀ q, FP a q → ¬ FP b q) → jz_w D A H0 L1 f1 H locs → W p l e R s m args below meth c H locs (1 + 5 * 4) (4 + 1020 * 4) Q (F0 m 38 ls [])) :
    ∀ (t i : Nat) (g : Nat → Option Nat) (od : Nat → Nat) (FP : Nat → Nat → Prop) (L1 : List Nat) (f1 : Nat → va_E) (H : Heap) (locs : List Loc) (ls : Array Slot), 4 - i < t → i ≤ 4 → x ∈ L1 → oa ∈ L1 → f1 x = .inr (0, [.ref oa]) → f1 oa = jo_eA (ct 2) g → (∀ j, j < i → g j = some (od j) ∧ jo_Own 0 ct L1 f1 (od j) [] (FP j) ∧ ¬ FP j x ∧ ¬ FP j oa) → (∀ a b, a < i → b < i → a ≠ b → ∀ q, FP a q → ¬ FP b q) → jz_w D A H0 L1 f1 H locs → lv_has ls 2 [(0, .ref x), (1, .int (nI i))] → W p l e R s m args below meth c H locs (1 + 5 * i) (4 + 1020 * i) Q (F0 m 14 ls []) := by
  intro t
  induction t with
  | zero => intro i g od FP L1 f1 H locs ls ht; exact absurd ht (Nat.not_lt_zero _)
  | succ t ih =>
    intro i g od FP L1 f1 H locs ls ht hi4 hxL haL hfx hfa hown5 hdis hw hl
    refine lv_iload_n hx hb dX2_init_14 rfl (lv_at hl 1 rfl) ?_
    refine lv_iconst (v := nI 4) hx hb dX2_init_15 (by decide) ?_
    refine lv_icmp_ge (tgt := 38) hx hb dX2_init_16 (by decide) (fun hc => ?_) (fun hc => ?_)
    · have h4 : i = 4 := by
        rcases Nat.lt_or_ge i 4 with q | q
        · exact absurd (nI_lt q (by decide)) (Int32.not_lt.mpr hc)
        · omega
      subst h4
      exact kk g od FP L1 f1 H locs ls hxL haL hfx hfa hown5 hdis hw
    · have h4 : i < 4 := by
        rcases Nat.lt_or_ge i 4 with q | q
        · exact q
        · exact absurd (nI_le q (by omega)) hc
      refine lv_aload_n hx hb dX2_init_19 rfl (lv_at hl 0 rfl) ?_
      refine gf_X_13 hx hb hown hts hG hw hxL hfx dX2_init_20 ?_
      refine lv_iload_n hx hb dX2_init_23 rfl (lv_at hl 1 rfl) ?_
      refine jx_new (own := RX2) (C := RX0) (T := TX0) (N := 5) (ci := 1) (fs := [.null, .null, .int 0, .null, .int 0]) hx hb hts jz_inO tyX0 tyX0_ok hown (by decide +kernel) (by decide +kernel) (by decide +kernel) hG hw rfl (fun j hj => by rcases (show j = 0 ∨ j = 1 ∨ j = 2 ∨ j = 3 ∨ j = 4 by omega) with rfl | rfl | rfl | rfl | rfl <;> rfl) (by omega) (by omega) dX2_init_24 (fun o H hoL hw => ?_)
      refine lv_dup hx hb dX2_init_27 rfl ?_
      refine cl_X_17 (As := []) (rest := [.ref o, .int (nI i), .ref oa]) hx hb hml hown hts hG hw (c_orderInit l D ct (List.mem_append_right _ (List.mem_singleton.mpr rfl)) (va_up_self _ _ _)) rfl hR hl.1 rfl (Nat.le_of_ble_eq_true rfl) dX2_init_28 ⟨by show _ + 4 ≤ _; omega, by show _ + 1015 ≤ _; omega⟩ (fun v L' f' H1 locs1 hp hw hcf => ?_)
      obtain ⟨rfl, hLL, hfq, hd, pa, hr, ps, k, u, PS, qs, S, hSt, hpL, hNL⟩ := hp
      have hin : ∀ q ∈ L1, q ∈ L1 ++ [o] := fun q hq => List.mem_append_left _ hq
      have hne : ∀ q ∈ L1, q ≠ o := fun q hq z => hoL (z ▸ hq)
      have hf1q : ∀ q ∈ L1, f' q = f1 q := fun q hq => by rw [hfq q (hin q hq) (hne q hq), va_up_ne _ _ (hne q hq)]
      have hfa2 : f' oa = jo_eA (ct 2) g := by rw [hf1q oa haL]; exact hfa
      refine jx_astqI (v := some o) (r := (RX0, TX0, 5)) hx hb hG hw (hLL _ (hin _ haL)) 2 1 hfa2 rfl (fun y hy => ?_) rfl h4 (by decide) dX2_init_31 (fun H locs hw => ?_)
      · cases hy
        exact ⟨hSt.1, _, hSt.2.2.1⟩
      refine lv_iinc (v := nI (i + 1)) (lv' := [(1, .int (nI (i + 1))), (0, .ref x)]) hx hb dX2_init_32 hl (k := 1) rfl (nI_succ i).symm (by decide) rfl (fun ls hl => ?_)
      refine lv_goto (tgt := 14) hx hb dX2_init_35 (by decide) ?_
      refine W.cs (cells' := 1 + 5 * (i + 1)) (slots' := 4 + 1020 * (i + 1)) (by show _ + 1 + 4 = _; omega) (by show _ + 5 + 1015 = _; omega) ?_
      have hFn : ∀ q, (q = o ∨ q = pa ∨ ¬ jo_N k PS q) → q ∉ L1 := fun q hq hz => by
        rcases hq with w | w | w
        · exact hne q hz w
        · exact hpL (w ▸ hin q hz)
        · exact hNL q w (hin q hz)
      have hxa : x ≠ oa := jo_ne hfx hfa (fun e => by cases e)
      refine ih (i + 1) (va_up g i (some o)) (va_up od i o) (va_up FP i (fun q => q = o ∨ q = pa ∨ ¬ jo_N k PS q)) L' _ H locs ls (by omega) (by omega) (hLL _ (hin _ hxL)) (hLL _ (hin _ haL)) ?_ (va_up_self _ _ _) (fun j hj => ?_) (fun a b ha hb hab q hqa hqb => ?_) hw (lv_sub hl [1, 0] rfl)
      · rw [va_up_ne _ _ hxa, hf1q x hxL]; exact hfx
      · by_cases q : j = i
        · subst q
          rw [va_up_self, va_up_self, va_up_self]
          refine ⟨rfl, ?_, fun z => hFn x z hxL, fun z => hFn oa z haL⟩
          have hO : jo_Own 0 ct L' f' o [] (fun q => q = o ∨ q = pa ∨ ¬ jo_N k PS q) := ⟨hd, pa, hr, ps, k, u, PS, qs, S, hSt, fun q => Iff.rfl⟩
          exact hO.keep (Nat.le_refl _) (fun _ h => h) (fun z hz => va_up_ne _ _ (fun w => hFn z hz (w ▸ haL)))
        · rw [va_up_ne _ _ q, va_up_ne _ _ q, va_up_ne _ _ q]
          obtain ⟨g1, g2, g3, g4⟩ := hown5 j (by omega)
          exact ⟨g1, g2.keep (Nat.le_refl _) (fun z hz => hLL z (hin z hz)) (fun z hz => by
            have hzo : z ≠ oa := fun w => g4 (w ▸ hz)
            rw [va_up_ne _ _ hzo]
            exact hf1q z (g2.inL hz)), g3, g4⟩
      · by_cases qa : a = i
        · subst qa
          rw [va_up_self] at hqa
          rw [va_up_ne _ _ (fun z => hab z.symm)] at hqb
          exact hFn q hqa ((hown5 b (by omega)).2.1.inL hqb)
        · rw [va_up_ne _ _ qa] at hqa
          by_cases qb : b = i
          · subst qb
            rw [va_up_self] at hqb
            exact hFn q hqb ((hown5 a (by omega)).2.1.inL hqa)
          · rw [va_up_ne _ _ qb] at hqb
            exact hdis a b (by omega) (by omega) hab q hqa hqb
end XI
set_option maxHeartbeats 4000000 in
set_option maxRecDepth 100000 in
theorem c_X_init (l : Launch) (D : va_G) (ct : Nat → ClassId) {L : List Nat} {f : Nat → va_E} {x : Nat} (hxL : x ∈ L) (hfx : f x = .inr (0, [.null])) :
    jz_M l D ct yX2_init cX2_init 2 none ({ frames := 3, cells := 21, slots := 4084, locals := 62 } : Room) [.ref x] L f (fun v L' f' => v = none ∧ jX 0 ct x L' f' (fun _ => [])) := by
  refine jx_enter (by decide) (Nat.le_of_ble_eq_true rfl) ?_
  intro p e s m below meth c C hw ls hl
  obtain ⟨hx, hb, hrt, hlk, hnm, hml, hown, hts, hG⟩ := C
  have hl : lv_has ls 2 [(0, .ref x)] := hl
  refine lv_aload_n hx hb dX2_init_0 rfl (lv_at hl 0 rfl) ?_
  refine W.objInit hx hb hown (hts _ (by decide +kernel)) (hts _ (by decide +kernel)) (hts _ jz_objc) rfl (by rw [hml]; exact hl.1) rfl dX2_init_1 (Nat.le_of_ble_eq_true rfl) (Nat.le_of_ble_eq_true rfl) ?_
  refine W.eq (g2 := F0 m 4 ls []) rfl ?_
  refine lv_aload_n hx hb dX2_init_4 rfl (lv_at hl 0 rfl) ?_
  refine lv_iconst (v := nI 4) hx hb dX2_init_5 (by decide) ?_
  refine jx_newq hx hb hts hown (by decide +kernel) (by decide +kernel) hG hw 2 rfl (N' := 4) (nI_pos (by decide)) (nI_clamp (by decide)) (by decide) (Nat.le_of_ble_eq_true rfl) (Nat.le_of_ble_eq_true rfl) dX2_init_6 (fun oa H haL hw => ?_)
  have hxa : x ≠ oa := fun z => haL (z ▸ hxL)
  refine pf_X_13 hx hb hown hts hG hw (List.mem_append_left _ hxL) (by rw [va_up_ne _ _ hxa]; exact hfx) hnm dX2_init_9 (fun H locs hw => ?_)
  refine lv_iconst (v := nI 0) hx hb dX2_init_12 (by decide) ?_
  refine lv_istore_n (lv' := [(1, .int (nI 0)), (0, .ref x)]) hx hb dX2_init_13 rfl hl (by decide) rfl (fun ls hl => ?_)
  refine lp_xinit (x := x) (oa := oa) hx hb hml hown hts hG ⟨Nat.le_of_ble_eq_true rfl, Nat.le_of_ble_eq_true rfl⟩ ⟨Nat.le_of_ble_eq_true rfl, Nat.le_of_ble_eq_true rfl⟩ (fun g od FP L1 f1 H locs ls h1 h2 h3 h4 h5 h6 hw => ?_) 5 0 (fun _ => none) (fun _ => 0) (fun _ _ => False) _ _ _ _ ls (by decide) (by decide) (List.mem_append_left _ hxL) (List.mem_append_right _ (List.mem_singleton.mpr rfl)) (va_up_self _ _ _) (by rw [va_up_ne _ _ hxa.symm, va_up_self]) (fun j hj => absurd hj (Nat.not_lt_zero _)) (fun a b ha => absurd ha (Nat.not_lt_zero _)) hw (lv_sub hl [1, 0] rfl)
  exact jx_vret hx hb hrt hlk hw (Nat.le_of_ble_eq_true rfl) (Nat.le_of_ble_eq_true rfl) dX2_init_38 ⟨rfl, oa, g, od, FP, h1, h2, h3, h4, h5, h6⟩
end
section
section JXM
variable {p : Program} {l : Launch} {e : Env} {R : Room} {s : State} {m : MethodId} {args : Array Value} {below : List Frame} {meth : Method} {c : Code} {H : Heap} {locs : List Loc} {cells slots : Nat} {Q : State → Prop}
variable {cc : ByteArray} {pc : Nat} {ls : Array Slot} {rest : List Value} {D : va_G} {cl : List vw_C} {A : Nat → Prop} {a : Nat} {tys : List (ClassId × FieldType)} {NW TT : List Cond} {H0 : Heap} {L : List Nat} {f : Nat → va_E}
theorem jx_saldI (hexec : p.tables.exec = Jvm.exec) (hb : c.code = cc) (hG : jx_G D cl tys NW s) (hw : jx_w D cl A H0 L f H locs) (ha : a ∈ L) (t0 : Nat) {cA : ClassId} {n : Nat} {g : Nat → Int32} (hfa : f a = .inl (cA, n, .inl g)) (ht : tys[t0]? = some (cA, .short)) {j : Nat} (hj : j < n) (hn : n < 2 ^ 31) (hdg : decode cc pc = .ok (.saload, 1))
    (kk : W p l e R s m args below meth c H locs cells slots Q (F0 m (pc + 1) ls (.int (g j) :: rest))) : W p l e R s m args below meth c H locs cells slots Q (F0 m pc ls (.int (nI j) :: .ref a :: rest)) := by
  obtain ⟨q0, hq0⟩ := jx_pos ha hfa
  refine va_sald hexec hb hG.1 hw.1 q0 t0 hq0 ht (vp_in_nI hj hn) hdg ?_
  rw [nI_clamp (Nat.lt_trans hj hn)]
  exact kk
theorem jx_zaldI (hexec : p.tables.exec = Jvm.exec) (hb : c.code = cc) (hG : jx_G D cl tys NW s) (hw : jx_w D cl A H0 L f H locs) (ha : a ∈ L) (t0 : Nat) {cA : ClassId} {n : Nat} {g : Nat → Int32} (hfa : f a = .inl (cA, n, .inl g)) (ht : tys[t0]? = some (cA, .boolean)) {j : Nat} (hj : j < n) (hn : n < 2 ^ 31) (hdg : decode cc pc = .ok (.baload, 1))
    (kk : W p l e R s m args below meth c H locs cells slots Q (F0 m (pc + 1) ls (.int (g j) :: rest))) : W p l e R s m args below meth c H locs cells slots Q (F0 m pc ls (.int (nI j) :: .ref a :: rest)) := by
  refine jx_zald hexec hb hG hw ha t0 hfa ht (vp_in_nI hj hn) hdg ?_
  rw [nI_clamp (Nat.lt_trans hj hn)]
  exact kk
theorem jx_sastI (hexec : p.tables.exec = Jvm.exec) (hb : c.code = cc) (hG : jx_G D cl tys NW s) (hw : jx_w D cl A H0 L f H locs) (ha : a ∈ L) (t0 : Nat) {cA : ClassId} {n : Nat} {g : Nat → Int32} (hfa : f a = .inl (cA, n, .inl g)) (ht : tys[t0]? = some (cA, .short)) {j : Nat} {x : Int32} (hj : j < n) (hn : n < 2 ^ 31) (hx : vp_nar .short x = x) (hdg : decode cc pc = .ok (.sastore, 1))
    (kk : ∀ (H1 : Heap) (locs1 : List Loc), jx_w D cl A H0 L (va_up f a (.inl (cA, n, .inl (upd g j x)))) H1 locs1 → W p l e R s m args below meth c H1 locs1 cells slots Q (F0 m (pc + 1) ls rest)) : W p l e R s m args below meth c H locs cells slots Q (F0 m pc ls (.int x :: .int (nI j) :: .ref a :: rest)) := by
  obtain ⟨q0, hq0⟩ := jx_pos ha hfa
  refine va_sast hexec hb hG.1 hw.1 hw.2.1 hw.2.2.1 q0 t0 hq0 ht (vp_in_nI hj hn) hdg fun H1 locs1 h1 h2 h3 => ?_
  rw [nI_clamp (Nat.lt_trans hj hn), hx, jx_set hw.2.1 ha hfa hq0] at h1 h2
  exact kk H1 locs1 ⟨h1, h2, h3, hw.2.2.2⟩
theorem jx_zastI (hexec : p.tables.exec = Jvm.exec) (hb : c.code = cc) (hG : jx_G D cl tys NW s) (hw : jx_w D cl A H0 L f H locs) (ha : a ∈ L) (t0 : Nat) {cA : ClassId} {n : Nat} {g : Nat → Int32} (hfa : f a = .inl (cA, n, .inl g)) (ht : tys[t0]? = some (cA, .boolean)) {j : Nat} {x : Int32} (hj : j < n) (hn : n < 2 ^ 31) (hx : vp_nar .boolean x = x) (hdg : decode cc pc = .ok (.bastore, 1))
    (kk : ∀ (H1 : Heap) (locs1 : List Loc), jx_w D cl A H0 L (va_up f a (.inl (cA, n, .inl (upd g j x)))) H1 locs1 → W p l e R s m args below meth c H1 locs1 cells slots Q (F0 m (pc + 1) ls rest)) : W p l e R s m args below meth c H locs cells slots Q (F0 m pc ls (.int x :: .int (nI j) :: .ref a :: rest)) := by
  obtain ⟨q0, hq0⟩ := jx_pos ha hfa
  refine va_zast hexec hb hG.1 hw.1 hw.2.1 hw.2.2.1 q0 t0 hq0 ht (vp_in_nI hj hn) hdg fun H1 locs1 h1 h2 h3 => ?_
  rw [nI_clamp (Nat.lt_trans hj hn), hx, jx_set hw.2.1 ha hfa hq0] at h1 h2
  exact kk H1 locs1 ⟨h1, h2, h3, hw.2.2.2⟩
end JXM
/-! the reference's cells -/
def jm_S (ct : Nat → ClassId) (y rw sc th sz : Nat) (L : List Nat) (f : Nat → va_E) (ro : Nat → Int32) (ss : Nat → Int64) (tt zz : Nat → Int32) : Prop :=
  (y ∈ L ∧ rw ∈ L ∧ sc ∈ L ∧ th ∈ L ∧ sz ∈ L ∧ rw ≠ th) ∧ f y = .inr (3, [.ref rw, .ref sc, .ref th, .ref sz]) ∧ f rw = .inl (ct 3, 4000, .inl ro) ∧ f sc = .inl (ct 4, 4000, .inr (.inl ss)) ∧ f th = .inl (ct 5, 4000, .inl tt) ∧ f sz = .inl (ct 0, 4, .inl zz)
section JMS
variable {ct : Nat → ClassId} {y rw sc th sz : Nat} {L : List Nat} {f : Nat → va_E} {ro tt zz : Nat → Int32} {ss : Nat → Int64}
theorem jm_S.ap (h : jm_S ct y rw sc th sz L f ro ss tt zz) : y ≠ rw ∧ y ≠ sc ∧ y ≠ th ∧ y ≠ sz ∧ rw ≠ sc ∧ rw ≠ th ∧ rw ≠ sz ∧ sc ≠ th ∧ sc ≠ sz ∧ th ≠ sz := by
  obtain ⟨⟨-, -, -, -, -, h0⟩, h1, h2, h3, h4, h5⟩ := h
  refine ⟨jo_ne h1 h2 (fun e => by cases e), jo_ne h1 h3 (fun e => by cases e), jo_ne h1 h4 (fun e => by cases e), jo_ne h1 h5 (fun e => by cases e), jo_ne h2 h3 (fun e => by injection e with e; injection e with _ e; injection e with _ e; cases e), h0, jo_ne h2 h5 (fun e => by injection e with e; injection e with _ e; injection e with e _; exact absurd e (by decide)), jo_ne h3 h4 (fun e => by injection e with e; injection e with _ e; injection e with _ e; cases e), jo_ne h3 h5 (fun e => by injection e with e; injection e with _ e; injection e with _ e; cases e), jo_ne h4 h5 (fun e => by injection e with e; injection e with _ e; injection e with e _; exact absurd e (by decide))⟩
theorem jm_S.putR (h : jm_S ct y rw sc th sz L f ro ss tt zz) (g : Nat → Int32) : jm_S ct y rw sc th sz L (va_up f rw (.inl (ct 3, 4000, .inl g))) g ss tt zz := by
  obtain ⟨a1, a2, a3, a4, a5, a6, a7, a8, a9, a10⟩ := h.ap
  obtain ⟨h0, h1, h2, h3, h4, h5⟩ := h
  exact ⟨h0, by rw [va_up_ne _ _ a1]; exact h1, va_up_self _ _ _, by rw [va_up_ne _ _ a5.symm]; exact h3, by rw [va_up_ne _ _ a6.symm]; exact h4, by rw [va_up_ne _ _ a7.symm]; exact h5⟩
theorem jm_S.putS (h : jm_S ct y rw sc th sz L f ro ss tt zz) (g : Nat → Int64) : jm_S ct y rw sc th sz L (va_up f sc (.inl (ct 4, 4000, .inr (.inl g)))) ro g tt zz := by
  obtain ⟨a1, a2, a3, a4, a5, a6, a7, a8, a9, a10⟩ := h.ap
  obtain ⟨h0, h1, h2, h3, h4, h5⟩ := h
  exact ⟨h0, by rw [va_up_ne _ _ a2]; exact h1, by rw [va_up_ne _ _ a5]; exact h2, va_up_self _ _ _, by rw [va_up_ne _ _ a8.symm]; exact h4, by rw [va_up_ne _ _ a9.symm]; exact h5⟩
theorem jm_S.putT (h : jm_S ct y rw sc th sz L f ro ss tt zz) (g : Nat → Int32) : jm_S ct y rw sc th sz L (va_up f th (.inl (ct 5, 4000, .inl g))) ro ss g zz := by
  obtain ⟨a1, a2, a3, a4, a5, a6, a7, a8, a9, a10⟩ := h.ap
  obtain ⟨h0, h1, h2, h3, h4, h5⟩ := h
  exact ⟨h0, by rw [va_up_ne _ _ a3]; exact h1, by rw [va_up_ne _ _ a6]; exact h2, by rw [va_up_ne _ _ a8]; exact h3, va_up_self _ _ _, by rw [va_up_ne _ _ a10.symm]; exact h5⟩
theorem jm_S.putZ (h : jm_S ct y rw sc th sz L f ro ss tt zz) (g : Nat → Int32) : jm_S ct y rw sc th sz L (va_up f sz (.inl (ct 0, 4, .inl g))) ro ss tt g := by
  obtain ⟨a1, a2, a3, a4, a5, a6, a7, a8, a9, a10⟩ := h.ap
  obtain ⟨h0, h1, h2, h3, h4, h5⟩ := h
  exact ⟨h0, by rw [va_up_ne _ _ a4]; exact h1, by rw [va_up_ne _ _ a7]; exact h2, by rw [va_up_ne _ _ a9]; exact h3, by rw [va_up_ne _ _ a10]; exact h4, va_up_self _ _ _⟩
end JMS
/-- what the arrays say of order i -/
def jm_R (N i : Nat) (A : List (Nat × Int64)) (ro : Nat → Int32) (ss : Nat → Int64) (tt zz : Nat → Int32) : Prop :=
  jq_wf A ∧ A.length ≤ N ∧ zz i = nI A.length ∧ (∀ j x, A[j]? = some x → ro (1000 * i + j) = nI x.1) ∧ (∀ x ∈ A, ss (1000 * i + x.1) = x.2) ∧ ∀ j, j < 1000 → (tt (1000 * i + j) = 1 ∧ ∃ s, jq_get A j = some s) ∨ (tt (1000 * i + j) = 0 ∧ jq_get A j = none)
theorem jm_R.keep {N N' i : Nat} {A : List (Nat × Int64)} {ro ro' tt tt' zz zz' : Nat → Int32} {ss ss' : Nat → Int64} (h : jm_R N i A ro ss tt zz) (hN : N ≤ N') (h1000 : N ≤ 1000) (er : ∀ j, j < 1000 → ro' (1000 * i + j) = ro (1000 * i + j)) (es : ∀ j, j < 1000 → ss' (1000 * i + j) = ss (1000 * i + j)) (et : ∀ j, j < 1000 → tt' (1000 * i + j) = tt (1000 * i + j)) (ez : zz' i = zz i) : jm_R N' i A ro' ss' tt' zz' := by
  obtain ⟨h1, h2, h3, h4, h5, h6⟩ := h
  refine ⟨h1, Nat.le_trans h2 hN, by rw [ez]; exact h3, fun j x hx => ?_, fun x hx => ?_, fun j hj => ?_⟩
  · have hj : j < A.length := (List.getElem?_eq_some_iff.mp hx).1
    rw [er j (by omega)]
    exact h4 j x hx
  · rw [es x.1 (h1.2.2 x hx)]
    exact h5 x hx
  · rw [et j hj]
    exact h6 j hj
def jM (N : Nat) (ct : Nat → ClassId) (y : Nat) (L : List Nat) (f : Nat → va_E) (As : jq_S) : Prop :=
  ∃ (rw sc th sz : Nat) (ro : Nat → Int32) (ss : Nat → Int64) (tt zz : Nat → Int32), jm_S ct y rw sc th sz L f ro ss tt zz ∧ ∀ i, i < 4 → jm_R N i (As i) ro ss tt zz
theorem jM.mono {N N' : Nat} {ct : Nat → ClassId} {y : Nat} {L : List Nat} {f : Nat → va_E} {As : jq_S} (h : jM N ct y L f As) (hN : N ≤ N') : jM N' ct y L f As := by
  obtain ⟨rw, sc, th, sz, ro, ss, tt, zz, h1, h2⟩ := h
  refine ⟨rw, sc, th, sz, ro, ss, tt, zz, h1, fun i hi => ?_⟩
  obtain ⟨g1, g2, g3⟩ := h2 i hi
  exact ⟨g1, Nat.le_trans g2 hN, g3⟩
/-- order i alone has changed -/
theorem jM.upd {N N' i : Nat} {As : jq_S} {A' : List (Nat × Int64)} {ro ro' tt tt' zz zz' : Nat → Int32} {ss ss' : Nat → Int64} (h : ∀ j, j < 4 → jm_R N j (As j) ro ss tt zz) (hN : N ≤ N') (h1000 : N ≤ 1000) (hi : i < 4) (h' : jm_R N' i A' ro' ss' tt' zz') (er : ∀ q, (q < 1000 * i ∨ 1000 * i + 1000 ≤ q) → ro' q = ro q ∧ ss' q = ss q ∧ tt' q = tt q) (ez : ∀ j, j ≠ i → zz' j = zz j) : ∀ j, j < 4 → jm_R N' j (va_up As i A' j) ro' ss' tt' zz' := by
  intro j hj
  by_cases q : j = i
  · subst q
    rw [va_up_self]
    exact h'
  · rw [va_up_ne _ _ q]
    have hout : ∀ t, t < 1000 → (1000 * j + t < 1000 * i ∨ 1000 * i + 1000 ≤ 1000 * j + t) := fun t ht => by omega
    exact (h j hj).keep hN h1000 (fun t ht => (er _ (hout t ht)).1) (fun t ht => (er _ (hout t ht)).2.1) (fun t ht => (er _ (hout t ht)).2.2) (ez j q)
theorem jm_get_ap {A1 A2 : List (Nat × Int64)} {j : Nat} {s : Int64} (hn : ((A1 ++ (j, s) :: A2).map (fun x => x.1)).Nodup) : jq_get (A1 ++ A2) j = none := by
  rw [List.map_append, List.map_cons] at hn
  have hd := List.nodup_append.mp hn
  refine jq_get_none (fun x hx q => ?_)
  rcases List.mem_append.mp hx with h | h
  · exact hd.2.2 x.1 (List.mem_map.mpr ⟨x, h, rfl⟩) j List.mem_cons_self q
  · exact (List.nodup_cons.mp hd.2.1).1 (List.mem_map.mpr ⟨x, h, q⟩)
theorem jm_get_ne {A1 A2 : List (Nat × Int64)} {j t : Nat} {s : Int64} (h : t ≠ j) : jq_get (A1 ++ (j, s) :: A2) t = jq_get (A1 ++ A2) t := by
  have e : ((j == t) : Bool) = false := by simpa using (fun q => h q.symm)
  simp [jq_get, List.find?_append, List.find?_cons, e]
theorem jm_R.del {N i j : Nat} {A A1 A2 : List (Nat × Int64)} {s : Int64} {ro ro' tt zz : Nat → Int32} {ss : Nat → Int64} (h : jm_R N i A ro ss tt zz) (hN : N ≤ 1000) (e : A = A1 ++ (j, s) :: A2) (hro : ∀ q, ro' q = if 1000 * i + A1.length ≤ q ∧ q < 1000 * i + (A1 ++ A2).length then ro (q + 1) else ro q) :
    jm_R N i (A1 ++ A2) ro' ss (upd tt (1000 * i + j) 0) (upd zz i (nI (A1 ++ A2).length)) := by
  obtain ⟨h1, h2, h3, h4, h5, h6⟩ := h
  have hj : j < 1000 := h1.2.2 (j, s) (by rw [e]; simp)
  have hlen : A.length = (A1 ++ A2).length + 1 := by rw [e]; simp; omega
  have hsub : (A1 ++ A2).Sublist A := by rw [e]; exact List.Sublist.append (List.Sublist.refl _) (List.sublist_cons_self _ _)
  refine ⟨⟨h1.1.sublist hsub, h1.2.1.sublist (hsub.map _), fun x hx => h1.2.2 x (hsub.subset hx)⟩, by omega, pk_us, fun t x hx => ?_, fun x hx => h5 x (hsub.subset hx), fun t ht => ?_⟩
  · have htl : t < (A1 ++ A2).length := (List.getElem?_eq_some_iff.mp hx).1
    rw [hro]
    rcases Nat.lt_or_ge t A1.length with q | q
    · rw [if_neg (by omega)]
      refine h4 t x ?_
      rw [e, List.getElem?_append_left q]
      rwa [List.getElem?_append_left q] at hx
    · rw [if_pos (by omega)]
      refine h4 (t + 1) x ?_
      rw [e, List.getElem?_append_right (by omega), show t + 1 - A1.length = (t - A1.length) + 1 by omega, List.getElem?_cons_succ]
      rwa [List.getElem?_append_right q] at hx
  · by_cases q : t = j
    · subst q
      have hn := h1.2.1
      rw [e] at hn
      exact Or.inr ⟨pk_us, jm_get_ap hn⟩
    · rw [pk_un (by omega)]
      have := h6 t ht
      rw [e, jm_get_ne q] at this
      exact this
theorem jm_R.ins {N i j : Nat} {A A1 A2 : List (Nat × Int64)} {s : Int64} {ro ro' tt zz : Nat → Int32} {ss : Nat → Int64} (h : jm_R N i A ro ss tt zz) (hj : j < 1000) (habs : jq_get A j = none) (e : A = A1 ++ A2) (g1 : ∀ x ∈ A1, jz_ah x.2 (jz_word (nI x.1)) s (jz_word (nI j))) (g2 : ∀ x ∈ A2, ¬ jz_ah x.2 (jz_word (nI x.1)) s (jz_word (nI j)))
    (hro : ∀ q, ro' q = if q = 1000 * i + A1.length then nI j else if 1000 * i + A1.length < q ∧ q ≤ 1000 * i + A.length then ro (q - 1) else ro q) :
    jz_insR A j s (A1 ++ (j, s) :: A2) ∧ jm_R (N + 1) i (A1 ++ (j, s) :: A2) ro' (vp_updL ss (1000 * i + j) s) (upd tt (1000 * i + j) 1) (upd zz i (nI (A.length + 1))) := by
  obtain ⟨h1, h2, h3, h4, h5, h6⟩ := h
  have hne : ∀ x ∈ A, x.1 ≠ j := fun x hx q => by
    have := jq_get_some h1.2.1 (show (x.1, x.2) ∈ A from hx)
    rw [q, habs] at this
    cases this
  have hlt2 : ∀ x ∈ A2, jz_lt (j, s) x := fun x hx => by
    have hxA : x ∈ A := by rw [e]; simp [hx]
    exact jz_ah_tot (g2 x hx) (jz_word_ne (h1.2.2 x hxA) hj (hne x hxA))
  have hs := h1.1
  rw [e, List.pairwise_append] at hs
  have hlen : (A1 ++ (j, s) :: A2).length = A.length + 1 := by rw [e]; simp; omega
  have hperm : (A1 ++ (j, s) :: A2).Perm ((j, s) :: A) := by rw [e]; exact List.perm_middle
  refine ⟨⟨A1, A2, e, rfl, g1, hlt2⟩, ⟨?_, ?_, fun x hx => ?_⟩, by omega, by rw [pk_us, hlen], fun t x hx => ?_, fun x hx => ?_, fun t ht => ?_⟩
  · rw [List.pairwise_append, List.pairwise_cons]
    refine ⟨hs.1, ⟨hlt2, hs.2.1⟩, fun x hx y hy => ?_⟩
    rcases List.mem_cons.mp hy with q | q
    · rw [q]; exact g1 x hx
    · exact hs.2.2 x hx y q
  · rw [(hperm.map _).nodup_iff, List.map_cons, List.nodup_cons]
    exact ⟨fun q => by
      obtain ⟨x, hx, hq⟩ := List.mem_map.mp q
      exact hne x hx hq, h1.2.1⟩
  · rcases List.mem_cons.mp (hperm.subset hx) with q | q
    · rw [q]; exact hj
    · exact h1.2.2 x q
  · have htl : t < A.length + 1 := by rw [← hlen]; exact (List.getElem?_eq_some_iff.mp hx).1
    rw [hro]
    rcases Nat.lt_trichotomy t A1.length with q | q | q
    · rw [if_neg (by omega), if_neg (by omega)]
      refine h4 t x ?_
      rw [e, List.getElem?_append_left q]
      rwa [List.getElem?_append_left q] at hx
    · rw [if_pos (by omega)]
      rw [q, List.getElem?_append_right (Nat.le_refl _), Nat.sub_self] at hx
      cases hx
      rfl
    · rw [if_neg (by omega), if_pos (by omega), show 1000 * i + t - 1 = 1000 * i + (t - 1) by omega]
      refine h4 (t - 1) x ?_
      rw [e, List.getElem?_append_right (by omega)]
      rw [List.getElem?_append_right (by omega), show t - A1.length = (t - 1 - A1.length) + 1 by omega, List.getElem?_cons_succ] at hx
      exact hx
  · rcases List.mem_cons.mp (hperm.subset hx) with q | q
    · rw [q, pk_uLs]
    · rw [pk_uLn (fun z => hne x q (by omega))]
      exact h5 x q
  · by_cases q : t = j
    · subst q
      refine Or.inl ⟨pk_us, s, jq_get_some ?_ (by simp)⟩
      rw [(hperm.map _).nodup_iff, List.map_cons, List.nodup_cons]
      exact ⟨fun z => by
        obtain ⟨x, hx, hq⟩ := List.mem_map.mp z
        exact hne x hx hq, h1.2.1⟩
    · rw [pk_un (by omega), jm_get_ne q, ← e]
      exact h6 t ht
/-- the reference's word -/
def jm_wd (j : Nat) : Nat := if j < 10 then 121 * (j + 1) else if j < 100 then 121 * (j / 10 + 1) + 11 * (j % 10 + 1) else 121 * (j / 100 + 1) + 11 * (j / 10 % 10 + 1) + j % 10 + 1
theorem jm_wd_lt {j : Nat} (h : j < 1000) : jm_wd j < 2000 := by
  unfold jm_wd
  split
  · omega
  · split <;> omega
theorem jm_wd_iff {a b : Nat} (ha : a < 1000) (hb : b < 1000) : jm_wd a < jm_wd b ↔ jz_wd a < jz_wd b := by
  unfold jm_wd jz_wd
  split <;> split <;> (try split) <;> (try split) <;> first | omega | (rcases Nat.lt_trichotomy (a / 100) (b / 100) with h | h | h <;> rcases Nat.lt_trichotomy (a / 10 % 10) (b / 10 % 10) with g | g | g <;> omega)
theorem jm_word_iff {a b : Nat} (ha : a < 1000) (hb : b < 1000) : nI (jm_wd a) < nI (jm_wd b) ↔ jz_word (nI a) < jz_word (nI b) := by
  have h1 := jm_wd_lt ha
  have h2 := jm_wd_lt hb
  have h3 := (jz_wd_lt ha).2
  have h4 := (jz_wd_lt hb).2
  rw [jz_word_nI ha, jz_word_nI hb, nI_ltI (by omega) (by omega), nI_ltI (by omega) (by omega)]
  exact jm_wd_iff ha hb
theorem jm_nar {m : Nat} (h : m < 1000) : vp_nar .short (nI m) = nI m := by
  rw [vp_nar_short]
  exact lg_i2s_small (by rw [nI_toInt (by omega)]; omega) (by rw [nI_toInt (by omega)]; omega)
end
section
set_option maxHeartbeats 4000000 in
set_option maxRecDepth 100000 in
theorem c_M_isOrder (l : Launch) (D : va_G) (ct : Nat → ClassId) (L : List Nat) (f : Nat → va_E) (x : Int32) : jz_M l D ct yX3_isOrder cX3_isOrder 1 (some .boolean) ({ frames := 0, cells := 0, slots := 0, locals := 0 } : Room) [.int x] L f (fun v L' f' => (jq_o x ∧ v = some (.int 1) ∨ ¬ jq_o x ∧ v = some (.int 0)) ∧ L' = L ∧ f' = f) := by
  refine jx_enter (by decide) (Nat.le_of_ble_eq_true rfl) ?_
  intro p e s m below meth c C hw ls hl
  obtain ⟨hx, hb, hrt, hlk, hnm, hml, hown, hts, hG⟩ := C
  have hl : lv_has ls 1 [(0, .int x)] := hl
  refine lv_iload_n hx hb dX3_isOrder_0 rfl (lv_at hl 0 rfl) ?_
  refine lv_if_lt (tgt := 13) hx hb dX3_isOrder_1 (by decide) (fun h1 => ?_) (fun h1 => ?_)
  · refine lv_iconst (v := 0) hx hb dX3_isOrder_13 (by decide) ?_
    exact jx_zret hx hb hrt rfl hlk hw (Nat.zero_le _) (Nat.zero_le _) dX3_isOrder_14 ⟨Or.inr ⟨fun q => absurd h1 (Int32.not_lt.mpr q.1), rfl⟩, rfl, rfl⟩
  · refine lv_iload_n hx hb dX3_isOrder_4 rfl (lv_at hl 0 rfl) ?_
    refine lv_iconst (v := 4) hx hb dX3_isOrder_5 (by decide) ?_
    refine lv_icmp_ge (tgt := 13) hx hb dX3_isOrder_6 (by decide) (fun h2 => ?_) (fun h2 => ?_)
    · refine lv_iconst (v := 0) hx hb dX3_isOrder_13 (by decide) ?_
      exact jx_zret hx hb hrt rfl hlk hw (Nat.zero_le _) (Nat.zero_le _) dX3_isOrder_14 ⟨Or.inr ⟨fun q => absurd q.2 (Int32.not_lt.mpr h2), rfl⟩, rfl, rfl⟩
    · refine lv_iconst (v := 1) hx hb dX3_isOrder_9 (by decide) ?_
      refine lv_goto (tgt := 14) hx hb dX3_isOrder_10 (by decide) ?_
      exact jx_zret hx hb hrt rfl hlk hw (Nat.zero_le _) (Nat.zero_le _) dX3_isOrder_14 ⟨Or.inl ⟨⟨Int32.not_lt.mp h1, Int32.not_le.mp h2⟩, rfl⟩, rfl, rfl⟩
set_option maxHeartbeats 4000000 in
set_option maxRecDepth 100000 in
theorem c_M_isGood (l : Launch) (D : va_G) (ct : Nat → ClassId) (L : List Nat) (f : Nat → va_E) (ov mv : Int32) : jz_M l D ct yX3_isGood cX3_isGood 2 (some .boolean) ({ frames := 1, cells := 0, slots := 0, locals := 20 } : Room) [.int ov, .int mv] L f (fun v L' f' => ((jq_o ov ∧ jq_m mv) ∧ v = some (.int 1) ∨ ¬ (jq_o ov ∧ jq_m mv) ∧ v = some (.int 0)) ∧ L' = L ∧ f' = f) := by
  refine jx_enter (by decide) (Nat.le_of_ble_eq_true rfl) ?_
  intro p e s m below meth c C hw ls hl
  obtain ⟨hx, hb, hrt, hlk, hnm, hml, hown, hts, hG⟩ := C
  have hl : lv_has ls 2 [(0, .int ov), (1, .int mv)] := hl
  refine lv_iload_n hx hb dX3_isGood_0 rfl (lv_at hl 0 rfl) ?_
  refine cl_M_25 (As := [.int ov]) (rest := []) hx hb hml hown hts hG hw (c_M_isOrder l D ct L f ov) rfl ⟨Nat.le_of_ble_eq_true rfl, Nat.le_of_ble_eq_true rfl⟩ hl.1 rfl (Nat.le_of_ble_eq_true rfl) dX3_isGood_1 ⟨Nat.le_of_ble_eq_true rfl, Nat.le_of_ble_eq_true rfl⟩ (fun v L' f' H1 locs1 hp hw hcf => ?_)
  obtain ⟨hv, eL, ef⟩ := hp
  rw [eL, ef] at hw
  rcases hv with ⟨ho, rfl⟩ | ⟨ho, rfl⟩
  · refine lv_if_eq (tgt := 22) hx hb dX3_isGood_4 (by decide) (fun h => absurd h (by decide)) (fun _ => ?_)
    refine lv_iload_n hx hb dX3_isGood_7 rfl (lv_at hl 1 rfl) ?_
    refine lv_if_lt (tgt := 22) hx hb dX3_isGood_8 (by decide) (fun h1 => ?_) (fun h1 => ?_)
    · refine lv_iconst (v := 0) hx hb dX3_isGood_22 (by decide) ?_
      exact jx_zret hx hb hrt rfl hlk hw (Nat.zero_le _) (Nat.zero_le _) dX3_isGood_23 ⟨Or.inr ⟨fun q => absurd h1 (Int32.not_lt.mpr q.2.1), rfl⟩, rfl, rfl⟩
    · refine lv_iload_n hx hb dX3_isGood_11 rfl (lv_at hl 1 rfl) ?_
      refine lv_sipush (v := 1000) hx hb dX3_isGood_12 (by decide) ?_
      refine lv_icmp_ge (tgt := 22) hx hb dX3_isGood_15 (by decide) (fun h2 => ?_) (fun h2 => ?_)
      · refine lv_iconst (v := 0) hx hb dX3_isGood_22 (by decide) ?_
        exact jx_zret hx hb hrt rfl hlk hw (Nat.zero_le _) (Nat.zero_le _) dX3_isGood_23 ⟨Or.inr ⟨fun q => absurd q.2.2 (Int32.not_lt.mpr h2), rfl⟩, rfl, rfl⟩
      · refine lv_iconst (v := 1) hx hb dX3_isGood_18 (by decide) ?_
        refine lv_goto (tgt := 23) hx hb dX3_isGood_19 (by decide) ?_
        exact jx_zret hx hb hrt rfl hlk hw (Nat.zero_le _) (Nat.zero_le _) dX3_isGood_23 ⟨Or.inl ⟨⟨ho, Int32.not_lt.mp h1, Int32.not_le.mp h2⟩, rfl⟩, rfl, rfl⟩
  · refine lv_if_eq (tgt := 22) hx hb dX3_isGood_4 (by decide) (fun _ => ?_) (fun h => absurd rfl h)
    refine lv_iconst (v := 0) hx hb dX3_isGood_22 (by decide) ?_
    exact jx_zret hx hb hrt rfl hlk hw (Nat.zero_le _) (Nat.zero_le _) dX3_isGood_23 ⟨Or.inr ⟨fun q => ho q.1, rfl⟩, rfl, rfl⟩
set_option maxHeartbeats 4000000 in
set_option maxRecDepth 100000 in
theorem c_M_word (l : Launch) (D : va_G) (ct : Nat → ClassId) (L : List Nat) (f : Nat → va_E) {j : Nat} (hj : j < 1000) : jz_M l D ct yX3_word cX3_word 1 (some .int) ({ frames := 0, cells := 0, slots := 0, locals := 0 } : Room) [.int (nI j)] L f (fun v L' f' => v = some (.int (nI (jm_wd j))) ∧ L' = L ∧ f' = f) := by
  refine jx_enter (by decide) (Nat.le_of_ble_eq_true rfl) ?_
  intro p e s m below meth c C hw ls hl
  obtain ⟨hx, hb, hrt, hlk, hnm, hml, hown, hts, hG⟩ := C
  have hl : lv_has ls 1 [(0, .int (nI j))] := hl
  refine lv_iload_n hx hb dX3_word_0 rfl (lv_at hl 0 rfl) ?_
  refine lv_bipush (v := nI 10) hx hb dX3_word_1 (by decide) ?_
  refine lv_icmp_ge (tgt := 13) hx hb dX3_word_3 (by decide) (fun hc => ?_) (fun hc => ?_)
  · have h10 : ¬ j < 10 := fun q => absurd (nI_lt q (by decide)) (Int32.not_lt.mpr hc)
    refine lv_iload_n hx hb dX3_word_13 rfl (lv_at hl 0 rfl) ?_
    refine lv_bipush (v := nI 100) hx hb dX3_word_14 (by decide) ?_
    refine lv_icmp_ge (tgt := 39) hx hb dX3_word_16 (by decide) (fun hd => ?_) (fun hd => ?_)
    · have h100 : ¬ j < 100 := fun q => absurd (nI_lt q (by decide)) (Int32.not_lt.mpr hd)
      refine lv_bipush (v := nI 121) hx hb dX3_word_39 (by decide) ?_
      refine lv_iload_n hx hb dX3_word_41 rfl (lv_at hl 0 rfl) ?_
      refine lv_bipush (v := nI 100) hx hb dX3_word_42 (by decide) ?_
      refine lv_idiv hx hb dX3_word_44 (nI_ne0 (by decide) (by decide)) ?_
      rw [pk_div (by omega) (by decide) (by decide)]
      refine lv_iconst (v := nI 1) hx hb dX3_word_45 (by decide) ?_
      refine lv_iadd hx hb dX3_word_46 ?_
      rw [nI_add]
      refine lv_imul hx hb dX3_word_47 ?_
      rw [pk_mul]
      refine lv_bipush (v := nI 11) hx hb dX3_word_48 (by decide) ?_
      refine lv_iload_n hx hb dX3_word_50 rfl (lv_at hl 0 rfl) ?_
      refine lv_bipush (v := nI 10) hx hb dX3_word_51 (by decide) ?_
      refine lv_idiv hx hb dX3_word_53 (nI_ne0 (by decide) (by decide)) ?_
      rw [pk_div (by omega) (by decide) (by decide)]
      refine lv_bipush (v := nI 10) hx hb dX3_word_54 (by decide) ?_
      refine lv_irem hx hb dX3_word_56 (nI_ne0 (by decide) (by decide)) ?_
      rw [pk_rem (by omega) (by decide) (by decide)]
      refine lv_iconst (v := nI 1) hx hb dX3_word_57 (by decide) ?_
      refine lv_iadd hx hb dX3_word_58 ?_
      rw [nI_add]
      refine lv_imul hx hb dX3_word_59 ?_
      rw [pk_mul]
      refine lv_iadd hx hb dX3_word_60 ?_
      rw [nI_add]
      refine lv_iload_n hx hb dX3_word_61 rfl (lv_at hl 0 rfl) ?_
      refine lv_bipush (v := nI 10) hx hb dX3_word_62 (by decide) ?_
      refine lv_irem hx hb dX3_word_64 (nI_ne0 (by decide) (by decide)) ?_
      rw [pk_rem (by omega) (by decide) (by decide)]
      refine lv_iadd hx hb dX3_word_65 ?_
      rw [nI_add]
      refine lv_iconst (v := nI 1) hx hb dX3_word_66 (by decide) ?_
      refine lv_iadd hx hb dX3_word_67 ?_
      rw [nI_add]
      exact jx_iret hx hb hrt hlk hw (Nat.zero_le _) (Nat.zero_le _) dX3_word_68 ⟨by rw [jm_wd, if_neg h10, if_neg h100], rfl, rfl⟩
    · have h100 : j < 100 := by
        rcases Nat.lt_or_ge j 100 with q | q
        · exact q
        · exact absurd (nI_le q (by omega)) hd
      refine lv_bipush (v := nI 121) hx hb dX3_word_19 (by decide) ?_
      refine lv_iload_n hx hb dX3_word_21 rfl (lv_at hl 0 rfl) ?_
      refine lv_bipush (v := nI 10) hx hb dX3_word_22 (by decide) ?_
      refine lv_idiv hx hb dX3_word_24 (nI_ne0 (by decide) (by decide)) ?_
      rw [pk_div (by omega) (by decide) (by decide)]
      refine lv_iconst (v := nI 1) hx hb dX3_word_25 (by decide) ?_
      refine lv_iadd hx hb dX3_word_26 ?_
      rw [nI_add]
      refine lv_imul hx hb dX3_word_27 ?_
      rw [pk_mul]
      refine lv_bipush (v := nI 11) hx hb dX3_word_28 (by decide) ?_
      refine lv_iload_n hx hb dX3_word_30 rfl (lv_at hl 0 rfl) ?_
      refine lv_bipush (v := nI 10) hx hb dX3_word_31 (by decide) ?_
      refine lv_irem hx hb dX3_word_33 (nI_ne0 (by decide) (by decide)) ?_
      rw [pk_rem (by omega) (by decide) (by decide)]
      refine lv_iconst (v := nI 1) hx hb dX3_word_34 (by decide) ?_
      refine lv_iadd hx hb dX3_word_35 ?_
      rw [nI_add]
      refine lv_imul hx hb dX3_word_36 ?_
      rw [pk_mul]
      refine lv_iadd hx hb dX3_word_37 ?_
      rw [nI_add]
      exact jx_iret hx hb hrt hlk hw (Nat.zero_le _) (Nat.zero_le _) dX3_word_38 ⟨by rw [jm_wd, if_neg h10, if_pos h100], rfl, rfl⟩
  · have h10 : j < 10 := by
      rcases Nat.lt_or_ge j 10 with q | q
      · exact q
      · exact absurd (nI_le q (by omega)) hc
    refine lv_bipush (v := nI 121) hx hb dX3_word_6 (by decide) ?_
    refine lv_iload_n hx hb dX3_word_8 rfl (lv_at hl 0 rfl) ?_
    refine lv_iconst (v := nI 1) hx hb dX3_word_9 (by decide) ?_
    refine lv_iadd hx hb dX3_word_10 ?_
    rw [nI_add]
    refine lv_imul hx hb dX3_word_11 ?_
    rw [pk_mul]
    exact jx_iret hx hb hrt hlk hw (Nat.zero_le _) (Nat.zero_le _) dX3_word_12 ⟨by rw [jm_wd, if_pos h10], rfl, rfl⟩
set_option maxHeartbeats 4000000 in
set_option maxRecDepth 100000 in
theorem c_M_isAhead (l : Launch) (D : va_G) (ct : Nat → ClassId) {y rw sc th sz : Nat} {L : List Nat} {f : Nat → va_E} {ro tt zz : Nat → Int32} {ss : Nat → Int64} (hS : jm_S ct y rw sc th sz L f ro ss tt zz) {i a b : Nat} {s0 : Int64} (hi : i < 4) (ha : a < 1000) (hb0 : b < 1000) : jz_M l D ct yX3_isAhead cX3_isAhead 8 (some .boolean) ({ frames := 1, cells := 0, slots := 0, locals := 20 } : Room) [.ref y, .int (nI i), .int (nI a), .long s0, .int (nI b)] L f (fun v L' f' => (jz_ah (ss (1000 * i + a)) (jz_word (nI a)) s0 (jz_word (nI b)) ∧ v = some (.int 1) ∨ ¬ jz_ah (ss (1000 * i + a)) (jz_word (nI a)) s0 (jz_word (nI b)) ∧ v = some (.int 0)) ∧ L' = L ∧ f' = f) := by
  refine jx_enter (by decide) (Nat.le_of_ble_eq_true rfl) ?_
  intro p e s m below meth c C hw ls hl
  obtain ⟨hx, hb, hrt, hlk, hnm, hml, hown, hts, hG⟩ := C
  have hl : lv_has ls 8 [(0, .ref y), (1, .int (nI i)), (2, .int (nI a)), (3, .long s0), (5, .int (nI b))] := hl
  refine lv_aload_n hx hb dX3_isAhead_0 rfl (lv_at hl 0 rfl) ?_
  refine gf_M_13 hx hb hown hts hG hw hS.1.1 hS.2.1 dX3_isAhead_1 ?_
  refine lv_sipush (v := nI 1000) hx hb dX3_isAhead_4 (by decide) ?_
  refine lv_iload_n hx hb dX3_isAhead_7 rfl (lv_at hl 1 rfl) ?_
  refine lv_imul hx hb dX3_isAhead_8 ?_
  rw [pk_mul]
  refine lv_iload_n hx hb dX3_isAhead_9 rfl (lv_at hl 2 rfl) ?_
  refine lv_iadd hx hb dX3_isAhead_10 ?_
  rw [nI_add]
  refine jx_laldI hx hb hG hw hS.1.2.2.1 4 hS.2.2.2.1 rfl (by omega) (by decide) dX3_isAhead_11 ?_
  refine lv_lstore (lv' := [(6, .long (ss (1000 * i + a))), (0, .ref y), (1, .int (nI i)), (2, .int (nI a)), (3, .long s0), (5, .int (nI b))]) hx hb dX3_isAhead_12 hl (by decide) rfl (fun ls hl => ?_)
  refine lv_lload hx hb dX3_isAhead_14 (lv_at hl 0 rfl) ?_
  refine lv_lload_n hx hb dX3_isAhead_16 rfl (lv_at hl 4 rfl) ?_
  refine W.lcmp hx hb dX3_isAhead_17 ?_
  refine lv_if_lt (tgt := 40) hx hb dX3_isAhead_18 (by decide) (fun h1x => ?_) (fun h1x => ?_)
  · have h1 := (lg_cmp_lt _ _).mp h1x
    refine lv_iconst (v := 1) hx hb dX3_isAhead_40 (by decide) ?_
    refine lv_goto (tgt := 45) hx hb dX3_isAhead_41 (by decide) ?_
    exact jx_zret hx hb hrt rfl hlk hw (Nat.le_of_ble_eq_true rfl) (Nat.le_of_ble_eq_true rfl) dX3_isAhead_45 ⟨Or.inl ⟨Or.inl h1, rfl⟩, rfl, rfl⟩
  · have h1 : ¬ ss (1000 * i + a) < s0 := fun q => h1x ((lg_cmp_lt _ _).mpr q)
    refine lv_lload hx hb dX3_isAhead_21 (lv_at hl 0 rfl) ?_
    refine lv_lload_n hx hb dX3_isAhead_23 rfl (lv_at hl 4 rfl) ?_
    refine W.lcmp hx hb dX3_isAhead_24 ?_
    refine lv_if_ne (tgt := 44) hx hb dX3_isAhead_25 (by decide) (fun h2x => ?_) (fun h2x => ?_)
    · have h2 : ¬ ss (1000 * i + a) = s0 := fun q => h2x ((lg_cmp_eq _ _).mpr q)
      refine lv_iconst (v := 0) hx hb dX3_isAhead_44 (by decide) ?_
      exact jx_zret hx hb hrt rfl hlk hw (Nat.le_of_ble_eq_true rfl) (Nat.le_of_ble_eq_true rfl) dX3_isAhead_45 ⟨Or.inr ⟨fun q => q.elim h1 (fun q => h2 q.1), rfl⟩, rfl, rfl⟩
    · have h2 := (lg_cmp_eq _ _).mp h2x
      refine lv_iload_n hx hb dX3_isAhead_28 rfl (lv_at hl 3 rfl) ?_
      refine cl_M_29 (As := [.int (nI a)]) (rest := []) hx hb hml hown hts hG hw (c_M_word l D ct L f ha) rfl ⟨Nat.le_of_ble_eq_true rfl, Nat.le_of_ble_eq_true rfl⟩ hl.1 rfl (Nat.le_of_ble_eq_true rfl) dX3_isAhead_29 ⟨Nat.le_of_ble_eq_true rfl, Nat.le_of_ble_eq_true rfl⟩ (fun v L' f' H1 locs1 hp hw hcf => ?_)
      obtain ⟨rfl, eL, ef⟩ := hp
      rw [eL, ef] at hw
      refine lv_iload hx hb dX3_isAhead_32 (lv_at hl 5 rfl) ?_
      refine cl_M_29 (As := [.int (nI b)]) (rest := [.int (nI (jm_wd a))]) hx hb hml hown hts hG hw (c_M_word l D ct L f hb0) rfl ⟨Nat.le_of_ble_eq_true rfl, Nat.le_of_ble_eq_true rfl⟩ hl.1 rfl (Nat.le_of_ble_eq_true rfl) dX3_isAhead_34 ⟨Nat.le_of_ble_eq_true rfl, Nat.le_of_ble_eq_true rfl⟩ (fun v L' f' H1 locs1 hp hw hcf => ?_)
      obtain ⟨rfl, eL, ef⟩ := hp
      rw [eL, ef] at hw
      refine lv_icmp_ge (tgt := 44) hx hb dX3_isAhead_37 (by decide) (fun h3 => ?_) (fun h3 => ?_)
      · refine lv_iconst (v := 0) hx hb dX3_isAhead_44 (by decide) ?_
        exact jx_zret hx hb hrt rfl hlk hw (Nat.le_of_ble_eq_true rfl) (Nat.le_of_ble_eq_true rfl) dX3_isAhead_45 ⟨Or.inr ⟨fun q => q.elim h1 (fun q => absurd ((jm_word_iff ha hb0).mpr q.2) (Int32.not_lt.mpr h3)), rfl⟩, rfl, rfl⟩
      · refine lv_iconst (v := 1) hx hb dX3_isAhead_40 (by decide) ?_
        refine lv_goto (tgt := 45) hx hb dX3_isAhead_41 (by decide) ?_
        exact jx_zret hx hb hrt rfl hlk hw (Nat.le_of_ble_eq_true rfl) (Nat.le_of_ble_eq_true rfl) dX3_isAhead_45 ⟨Or.inl ⟨Or.inr ⟨h2, (jm_word_iff ha hb0).mp (Int32.not_le.mp h3)⟩, rfl⟩, rfl, rfl⟩
section MP
variable {p : Program} {l : Launch} {e : Env} {R : Room} {s : State} {m : MethodId} {args : Array Value} {below : List Frame} {meth : Method} {c : Code} {H : Heap} {locs : List Loc} {cells slots : Nat} {Q : State → Prop} {D : va_G} {ct : Nat → ClassId} {A : Nat → Prop} {H0 : Heap} {L : List Nat}
variable {y rw sc th sz : Nat} {f : Nat → va_E} {ro tt zz : Nat → Int32} {ss : Nat → Int64} {N i : Nat} {As : List (Nat × Int64)}
set_option maxHeartbeats 4000000 in
set_option maxRecDepth 100000 in
theorem lp_place (hx : p.tables.exec = Jvm.exec) (hb : c.code = cX3_place) (hml : c.maxLocals = 6) (hown : s.vm.findClass RX3 = some m.cls) (hts : ∀ w ∈ jz_TT, w.before args s = true) (hG : jz_G D ct s) (hcs : cells ≤ R.cells ∧ slots ≤ R.slots) (hR : 1 + 1 ≤ R.frames ∧ 8 + (8 + 11) + 20 ≤ R.locals) (hS : jm_S ct y rw sc th sz L f ro ss tt zz) (hi : i < 4) (hR0 : jm_R N i As ro ss tt zz) (hN : N ≤ 1000) {A1 A2 : List (Nat × Int64)} (eA : As = A1 ++ A2) {j : Nat} (hj : j < 1000) {s0 : Int64} (g1 : ∀ x ∈ A1, jz_ah x.2 (jz_word (nI x.1)) s0 (jz_word (nI j))) (g2 : ∀ x ∈ A2, ¬ jz_ah x.2 (jz_word (nI x.1)) s0 (jz_word (nI j)))
    (kk : ∀ (H : Heap) (locs : List Loc) (ls : Array Slot), jz_w D A H0 L f H locs → lv_has ls 6 [(5, .int (nI A1.length))] → W p l e R s m args below meth c H locs cells slots Q (F0 m 44 ls [])) :
    ∀ (d t : Nat) (H : Heap) (locs : List Loc) (ls : Array Slot), A1.length - t < d → t ≤ A1.length → jz_w D A H0 L f H locs → lv_has ls 6 [(0, .ref y), (1, .int (nI i)), (2, .long s0), (4, .int (nI j)), (5, .int (nI t))] → W p l e R s m args below meth c H locs cells slots Q (F0 m 3 ls []) := by
  obtain ⟨hwf, hlN, hzz, hro, hss, htt⟩ := id hR0
  have hlen : As.length = A1.length + A2.length := by rw [eA, List.length_append]
  intro d
  induction d with
  | zero => intro t H locs ls ht; exact absurd ht (Nat.not_lt_zero _)
  | succ d ih =>
    intro t H locs ls ht htA hw hl
    refine lv_iload hx hb dX3_place_3 (lv_at hl 4 rfl) ?_
    refine lv_aload_n hx hb dX3_place_5 rfl (lv_at hl 0 rfl) ?_
    refine gf_M_21 hx hb hown hts hG hw hS.1.1 hS.2.1 dX3_place_6 ?_
    refine lv_iload_n hx hb dX3_place_9 rfl (lv_at hl 1 rfl) ?_
    refine jx_ialdI hx hb hG hw hS.1.2.2.2.2.1 0 hS.2.2.2.2.2 rfl hi (by decide) dX3_place_10 ?_
    rw [hzz]
    refine lv_icmp_ge (tgt := 44) hx hb dX3_place_11 (by decide) (fun hc => ?_) (fun hc => ?_)
    · have h4 : t = A1.length := by
        have : As.length ≤ t := by
          rcases Nat.lt_or_ge t As.length with q | q
          · exact absurd (nI_lt q (by omega)) (Int32.not_lt.mpr hc)
          · exact q
        omega
      subst h4
      exact kk H locs ls hw (lv_sub hl [4] rfl)
    · have h4 : t < As.length := by
        rcases Nat.lt_or_ge t As.length with q | q
        · exact q
        · exact absurd (nI_le q (by omega)) hc
      obtain ⟨x, hxt⟩ : ∃ x, As[t]? = some x := ⟨_, List.getElem?_eq_getElem h4⟩
      have hxA : x ∈ As := List.mem_of_getElem? hxt
      have hx1 := hwf.2.2 x hxA
      refine lv_aload_n hx hb dX3_place_14 rfl (lv_at hl 0 rfl) ?_
      refine lv_iload_n hx hb dX3_place_15 rfl (lv_at hl 1 rfl) ?_
      refine lv_aload_n hx hb dX3_place_16 rfl (lv_at hl 0 rfl) ?_
      refine gf_M_7 hx hb hown hts hG hw hS.1.1 hS.2.1 dX3_place_17 ?_
      refine lv_sipush (v := nI 1000) hx hb dX3_place_20 (by decide) ?_
      refine lv_iload_n hx hb dX3_place_23 rfl (lv_at hl 1 rfl) ?_
      refine lv_imul hx hb dX3_place_24 ?_
      rw [pk_mul]
      refine lv_iload hx hb dX3_place_25 (lv_at hl 4 rfl) ?_
      refine lv_iadd hx hb dX3_place_27 ?_
      rw [nI_add]
      refine jx_saldI hx hb hG hw hS.1.2.1 3 hS.2.2.1 rfl (by omega) (by decide) dX3_place_28 ?_
      rw [hro t x hxt]
      refine lv_lload_n hx hb dX3_place_29 rfl (lv_at hl 2 rfl) ?_
      refine lv_iload hx hb dX3_place_30 (lv_at hl 3 rfl) ?_
      refine cl_M_33 (As := [.int (nI i), .int (nI x.1), .long s0, .int (nI j)]) (rest := []) hx hb hml hown hts hG hw (c_M_isAhead l D ct hS hi hx1 hj) rfl hR hS.1.1 hS.2.1 hl.1 rfl (Nat.le_of_ble_eq_true rfl) dX3_place_32 hcs (fun v L' f' H1 locs1 hp hw hcf => ?_)
      obtain ⟨hv, eL, ef⟩ := hp
      rw [eL, ef] at hw
      rw [hss x hxA] at hv
      rcases hv with ⟨hah, rfl⟩ | ⟨hah, rfl⟩
      · refine lv_if_eq (tgt := 44) hx hb dX3_place_35 (by decide) (fun h => absurd h (by decide)) (fun _ => ?_)
        have h5 : t < A1.length := by
          rcases Nat.lt_or_ge t A1.length with q | q
          · exact q
          · rw [eA, List.getElem?_append_right q] at hxt
            exact absurd hah (g2 x (List.mem_of_getElem? hxt))
        refine lv_iinc (v := nI (t + 1)) (lv' := [(5, .int (nI (t + 1))), (0, .ref y), (1, .int (nI i)), (2, .long s0), (4, .int (nI j))]) hx hb dX3_place_38 hl (k := 4) rfl (nI_succ t).symm (by decide) rfl (fun ls hl => ?_)
        refine lv_goto (tgt := 3) hx hb dX3_place_41 (by decide) ?_
        exact ih (t + 1) _ _ ls (by omega) (by omega) hw (lv_sub hl [1, 2, 3, 4, 0] rfl)
      · refine lv_if_eq (tgt := 44) hx hb dX3_place_35 (by decide) (fun _ => ?_) (fun h => absurd rfl h)
        have h5 : t = A1.length := by
          rcases Nat.lt_or_ge t A1.length with q | q
          · rw [eA, List.getElem?_append_left q] at hxt
            exact absurd (g1 x (List.mem_of_getElem? hxt)) hah
          · omega
        subst h5
        exact kk _ _ ls hw (lv_sub hl [4] rfl)
end MP
set_option maxHeartbeats 4000000 in
set_option maxRecDepth 100000 in
theorem c_M_place (l : Launch) (D : va_G) (ct : Nat → ClassId) {y rw sc th sz : Nat} {L : List Nat} {f : Nat → va_E} {ro tt zz : Nat → Int32} {ss : Nat → Int64} {N i : Nat} {As : List (Nat × Int64)} (hS : jm_S ct y rw sc th sz L f ro ss tt zz) (hi : i < 4) (hR0 : jm_R N i As ro ss tt zz) (hN : N ≤ 1000) {A1 A2 : List (Nat × Int64)} (eA : As = A1 ++ A2) {j : Nat} (hj : j < 1000) {s0 : Int64} (g1 : ∀ x ∈ A1, jz_ah x.2 (jz_word (nI x.1)) s0 (jz_word (nI j))) (g2 : ∀ x ∈ A2, ¬ jz_ah x.2 (jz_word (nI x.1)) s0 (jz_word (nI j))) :
    jz_M l D ct yX3_place cX3_place 6 (some .int) ({ frames := 2, cells := 0, slots := 0, locals := 47 } : Room) [.ref y, .int (nI i), .long s0, .int (nI j)] L f (fun v L' f' => v = some (.int (nI A1.length)) ∧ L' = L ∧ f' = f) := by
  refine jx_enter (by decide) (Nat.le_of_ble_eq_true rfl) ?_
  intro p e s m below meth c C hw ls hl
  obtain ⟨hx, hb, hrt, hlk, hnm, hml, hown, hts, hG⟩ := C
  have hl : lv_has ls 6 [(0, .ref y), (1, .int (nI i)), (2, .long s0), (4, .int (nI j))] := hl
  refine lv_iconst (v := nI 0) hx hb dX3_place_0 (by decide) ?_
  refine lv_istore (lv' := [(5, .int (nI 0)), (0, .ref y), (1, .int (nI i)), (2, .long s0), (4, .int (nI j))]) hx hb dX3_place_1 hl (by decide) rfl (fun ls hl => ?_)
  refine lp_place hx hb hml hown hts hG ⟨Nat.le_of_ble_eq_true rfl, Nat.le_of_ble_eq_true rfl⟩ ⟨Nat.le_of_ble_eq_true rfl, Nat.le_of_ble_eq_true rfl⟩ hS hi hR0 hN eA hj g1 g2 (fun H locs ls hw hl => ?_) (A1.length + 1) 0 _ _ ls (by omega) (Nat.zero_le _) hw (lv_sub hl [1, 2, 3, 4, 0] rfl)
  refine lv_iload hx hb dX3_place_44 (lv_at hl 0 rfl) ?_
  exact jx_iret hx hb hrt hlk hw (Nat.le_refl _) (Nat.le_refl _) dX3_place_46 ⟨rfl, rfl, rfl⟩
end
section
section ML
variable {p : Program} {l : Launch} {e : Env} {R : Room} {s : State} {m : MethodId} {args : Array Value} {below : List Frame} {meth : Method} {c : Code} {H : Heap} {locs : List Loc} {cells slots : Nat} {Q : State → Prop} {D : va_G} {ct : Nat → ClassId} {A : Nat → Prop} {H0 : Heap} {L : List Nat}
variable {y rw sc th sz : Nat} {f : Nat → va_E} {ro tt zz : Nat → Int32} {ss : Nat → Int64} {N i : Nat} {As : List (Nat × Int64)}
set_option maxHeartbeats 4000000 in
set_option maxRecDepth 100000 in
theorem lp_find (hx : p.tables.exec = Jvm.exec) (hb : c.code = cX3_leave) (hml : c.maxLocals = 6) (hown : s.vm.findClass RX3 = some m.cls) (hts : ∀ w ∈ jz_TT, w.before args s = true) (hG : jz_G D ct s) {zz1 : Nat → Int32} (hS : jm_S ct y rw sc th sz L f ro ss tt zz1) (hw : jz_w D A H0 L f H locs) (hi : i < 4) (hR0 : jm_R N i As ro ss tt zz) (hN : N ≤ 1000) {A1 A2 : List (Nat × Int64)} {j : Nat} {s0 : Int64} (eA : As = A1 ++ (j, s0) :: A2)
    (kk : ∀ (ls : Array Slot), lv_has ls 6 [(0, .ref y), (1, .int (nI i)), (2, .int (nI j)), (3, .int (nI (1000 * i))), (4, .int (nI A1.length))] → W p l e R s m args below meth c H locs cells slots Q (F0 m 38 ls [])) :
    ∀ (d t : Nat) (ls : Array Slot), A1.length - t < d → t ≤ A1.length → lv_has ls 6 [(0, .ref y), (1, .int (nI i)), (2, .int (nI j)), (3, .int (nI (1000 * i))), (4, .int (nI t))] → W p l e R s m args below meth c H locs cells slots Q (F0 m 19 ls []) := by
  obtain ⟨hwf, hlN, hzz, hro, hss, htt⟩ := id hR0
  have hlen : As.length = A1.length + A2.length + 1 := by rw [eA]; simp; omega
  intro d
  induction d with
  | zero => intro t ls ht; exact absurd ht (Nat.not_lt_zero _)
  | succ d ih =>
    intro t ls ht htA hl
    have h4 : t < As.length := by omega
    obtain ⟨x, hxt⟩ : ∃ x, As[t]? = some x := ⟨_, List.getElem?_eq_getElem h4⟩
    have hxA : x ∈ As := List.mem_of_getElem? hxt
    have hx1 := hwf.2.2 x hxA
    have hj : j < 1000 := hwf.2.2 (j, s0) (by rw [eA]; simp)
    have hiff : x.1 = j ↔ t = A1.length := by
      constructor
      · intro q
        rcases Nat.lt_or_ge t A1.length with z | z
        · have hn := hwf.2.1
          rw [eA, List.map_append, List.map_cons] at hn
          rw [eA, List.getElem?_append_left z] at hxt
          exact absurd q ((List.nodup_append.mp hn).2.2 x.1 (List.mem_map.mpr ⟨x, List.mem_of_getElem? hxt, rfl⟩) j List.mem_cons_self)
        · omega
      · intro q
        rw [eA, q, List.getElem?_append_right (Nat.le_refl _), Nat.sub_self] at hxt
        cases hxt
        rfl
    refine lv_aload_n hx hb dX3_leave_19 rfl (lv_at hl 0 rfl) ?_
    refine gf_M_7 hx hb hown hts hG hw hS.1.1 hS.2.1 dX3_leave_20 ?_
    refine lv_iload_n hx hb dX3_leave_23 rfl (lv_at hl 3 rfl) ?_
    refine lv_iload hx hb dX3_leave_24 (lv_at hl 4 rfl) ?_
    refine lv_iadd hx hb dX3_leave_26 ?_
    rw [nI_add]
    refine jx_saldI hx hb hG hw hS.1.2.1 3 hS.2.2.1 rfl (by omega) (by decide) dX3_leave_27 ?_
    rw [hro t x hxt]
    refine lv_iload_n hx hb dX3_leave_28 rfl (lv_at hl 2 rfl) ?_
    refine lv_icmp_eq (tgt := 38) hx hb dX3_leave_29 (by decide) (fun hc => ?_) (fun hc => ?_)
    · have ht0 : t = A1.length := hiff.mp ((nI_eq (by omega) (by omega)).mp hc)
      subst ht0
      exact kk ls hl
    · have ht0 : t ≠ A1.length := fun q => hc (by rw [hiff.mpr q])
      refine lv_iinc (v := nI (t + 1)) (lv' := [(4, .int (nI (t + 1))), (0, .ref y), (1, .int (nI i)), (2, .int (nI j)), (3, .int (nI (1000 * i)))]) hx hb dX3_leave_32 hl (k := 4) rfl (nI_succ t).symm (by decide) rfl (fun ls hl => ?_)
      refine lv_goto (tgt := 19) hx hb dX3_leave_35 (by decide) ?_
      exact ih (t + 1) ls (by omega) (by omega) (lv_sub hl [1, 2, 3, 4, 0] rfl)
set_option maxHeartbeats 4000000 in
set_option maxRecDepth 100000 in
theorem lp_up (hx : p.tables.exec = Jvm.exec) (hb : c.code = cX3_leave) (hml : c.maxLocals = 6) (hown : s.vm.findClass RX3 = some m.cls) (hts : ∀ w ∈ jz_TT, w.before args s = true) (hG : jz_G D ct s) {zz1 : Nat → Int32} (hi : i < 4) (hR0 : jm_R N i As ro ss tt zz) (hN : N ≤ 1000) {A1 A2 : List (Nat × Int64)} {j : Nat} {s0 : Int64} (eA : As = A1 ++ (j, s0) :: A2) (hz1 : zz1 i = nI (A1 ++ A2).length)
    (kk : ∀ (ro1 : Nat → Int32) (f1 : Nat → va_E) (H : Heap) (locs : List Loc) (ls : Array Slot), jm_S ct y rw sc th sz L f1 ro1 ss tt zz1 → (∀ q, ro1 q = if 1000 * i + A1.length ≤ q ∧ q < 1000 * i + (A1 ++ A2).length then ro (q + 1) else ro q) → jz_w D A H0 L f1 H locs → lv_has ls 6 [(0, .ref y), (1, .int (nI i)), (2, .int (nI j)), (3, .int (nI (1000 * i)))] → W p l e R s m args below meth c H locs cells slots Q (F0 m 79 ls [])) :
    ∀ (d t : Nat) (ro1 : Nat → Int32) (f1 : Nat → va_E) (H : Heap) (locs : List Loc) (ls : Array Slot), (A1 ++ A2).length - t < d → A1.length ≤ t → t ≤ (A1 ++ A2).length → jm_S ct y rw sc th sz L f1 ro1 ss tt zz1 → (∀ q, ro1 q = if 1000 * i + A1.length ≤ q ∧ q < 1000 * i + t then ro (q + 1) else ro q) → jz_w D A H0 L f1 H locs → lv_has ls 6 [(0, .ref y), (1, .int (nI i)), (2, .int (nI j)), (3, .int (nI (1000 * i))), (5, .int (nI t))] → W p l e R s m args below meth c H locs cells slots Q (F0 m 42 ls []) := by
  obtain ⟨hwf, hlN, hzz, hro, hss, htt⟩ := id hR0
  have hlen : As.length = (A1 ++ A2).length + 1 := by rw [eA]; simp; omega
  intro d
  induction d with
  | zero => intro t ro1 f1 H locs ls ht; exact absurd ht (Nat.not_lt_zero _)
  | succ d ih =>
    intro t ro1 f1 H locs ls ht htA htB hS hr1 hw hl
    refine lv_iload hx hb dX3_leave_42 (lv_at hl 4 rfl) ?_
    refine lv_aload_n hx hb dX3_leave_44 rfl (lv_at hl 0 rfl) ?_
    refine gf_M_21 hx hb hown hts hG hw hS.1.1 hS.2.1 dX3_leave_45 ?_
    refine lv_iload_n hx hb dX3_leave_48 rfl (lv_at hl 1 rfl) ?_
    refine jx_ialdI hx hb hG hw hS.1.2.2.2.2.1 0 hS.2.2.2.2.2 rfl hi (by decide) dX3_leave_49 ?_
    rw [hz1]
    refine lv_icmp_ge (tgt := 79) hx hb dX3_leave_50 (by decide) (fun hc => ?_) (fun hc => ?_)
    · have h4 : t = (A1 ++ A2).length := by
        have : (A1 ++ A2).length ≤ t := by
          rcases Nat.lt_or_ge t (A1 ++ A2).length with q | q
          · exact absurd (nI_lt q (by omega)) (Int32.not_lt.mpr hc)
          · exact q
        omega
      exact kk ro1 f1 H locs ls hS (by rw [← h4]; exact hr1) hw (lv_sub hl [0, 1, 2, 3] rfl)
    · have h4 : t < (A1 ++ A2).length := by
        rcases Nat.lt_or_ge t (A1 ++ A2).length with q | q
        · exact q
        · exact absurd (nI_le q (by omega)) hc
      have h5 : t + 1 < As.length := by omega
      obtain ⟨x, hxt⟩ : ∃ x, As[t + 1]? = some x := ⟨_, List.getElem?_eq_getElem h5⟩
      have hxA : x ∈ As := List.mem_of_getElem? hxt
      have hx1 := hwf.2.2 x hxA
      have hval : ro1 (1000 * i + t + 1) = nI x.1 := by rw [hr1, if_neg (by omega)]; exact hro (t + 1) x hxt
      refine lv_aload_n hx hb dX3_leave_53 rfl (lv_at hl 0 rfl) ?_
      refine gf_M_7 hx hb hown hts hG hw hS.1.1 hS.2.1 dX3_leave_54 ?_
      refine lv_iload_n hx hb dX3_leave_57 rfl (lv_at hl 3 rfl) ?_
      refine lv_iload hx hb dX3_leave_58 (lv_at hl 4 rfl) ?_
      refine lv_iadd hx hb dX3_leave_60 ?_
      rw [nI_add]
      refine lv_aload_n hx hb dX3_leave_61 rfl (lv_at hl 0 rfl) ?_
      refine gf_M_7 hx hb hown hts hG hw hS.1.1 hS.2.1 dX3_leave_62 ?_
      refine lv_iload_n hx hb dX3_leave_65 rfl (lv_at hl 3 rfl) ?_
      refine lv_iload hx hb dX3_leave_66 (lv_at hl 4 rfl) ?_
      refine lv_iadd hx hb dX3_leave_68 ?_
      rw [nI_add]
      refine lv_iconst (v := nI 1) hx hb dX3_leave_69 (by decide) ?_
      refine lv_iadd hx hb dX3_leave_70 ?_
      rw [nI_add]
      refine jx_saldI hx hb hG hw hS.1.2.1 3 hS.2.2.1 rfl (by omega) (by decide) dX3_leave_71 ?_
      refine jx_sastI hx hb hG hw hS.1.2.1 3 hS.2.2.1 rfl (j := 1000 * i + t) (by omega) (by decide) (by rw [hval]; exact jm_nar hx1) dX3_leave_72 (fun H locs hw => ?_)
      have hS2 := hS.putR (upd ro1 (1000 * i + t) (ro1 (1000 * i + t + 1)))
      refine lv_iinc (v := nI (t + 1)) (lv' := [(5, .int (nI (t + 1))), (0, .ref y), (1, .int (nI i)), (2, .int (nI j)), (3, .int (nI (1000 * i)))]) hx hb dX3_leave_73 hl (k := 4) rfl (nI_succ t).symm (by decide) rfl (fun ls hl => ?_)
      refine lv_goto (tgt := 42) hx hb dX3_leave_76 (by decide) ?_
      refine ih (t + 1) _ _ H locs ls (by omega) (by omega) (by omega) hS2 (fun q => ?_) hw (lv_sub hl [1, 2, 3, 4, 0] rfl)
      by_cases z : q = 1000 * i + t
      · rw [z, pk_us, hr1, if_neg (by omega), if_pos (by omega)]
      · rw [pk_un z, hr1]
        by_cases z2 : 1000 * i + A1.length ≤ q ∧ q < 1000 * i + t
        · rw [if_pos z2, if_pos (by omega)]
        · rw [if_neg z2, if_neg (by omega)]
end ML
set_option maxHeartbeats 4000000 in
set_option maxRecDepth 100000 in
theorem c_M_leave (l : Launch) (D : va_G) (ct : Nat → ClassId) {y rw sc th sz : Nat} {L : List Nat} {f : Nat → va_E} {ro tt zz : Nat → Int32} {ss : Nat → Int64} (hS : jm_S ct y rw sc th sz L f ro ss tt zz) {N i : Nat} {As : List (Nat × Int64)} (hi : i < 4) (hR0 : jm_R N i As ro ss tt zz) (hN : N ≤ 1000) {A1 A2 : List (Nat × Int64)} {j : Nat} {s0 : Int64} (eA : As = A1 ++ (j, s0) :: A2) :
    jz_M l D ct yX3_leave cX3_leave 6 none ({ frames := 0, cells := 0, slots := 0, locals := 0 } : Room) [.ref y, .int (nI i), .int (nI j)] L f (fun v L' f' => v = none ∧ L' = L ∧ ∃ ro' : Nat → Int32, jm_S ct y rw sc th sz L f' ro' ss (upd tt (1000 * i + j) 0) (upd zz i (nI (A1 ++ A2).length)) ∧ ∀ q, ro' q = if 1000 * i + A1.length ≤ q ∧ q < 1000 * i + (A1 ++ A2).length then ro (q + 1) else ro q) := by
  have hj : j < 1000 := hR0.1.2.2 (j, s0) (by rw [eA]; simp)
  have hlen : As.length = (A1 ++ A2).length + 1 := by rw [eA]; simp; omega
  have hzi := hR0.2.2.1
  have hlN := hR0.2.1
  refine jx_enter (by decide) (Nat.le_of_ble_eq_true rfl) ?_
  intro p e s m below meth c C hw ls hl
  obtain ⟨hx, hb, hrt, hlk, hnm, hml, hown, hts, hG⟩ := C
  have hl : lv_has ls 6 [(0, .ref y), (1, .int (nI i)), (2, .int (nI j))] := hl
  refine lv_sipush (v := nI 1000) hx hb dX3_leave_0 (by decide) ?_
  refine lv_iload_n hx hb dX3_leave_3 rfl (lv_at hl 1 rfl) ?_
  refine lv_imul hx hb dX3_leave_4 ?_
  rw [pk_mul]
  refine lv_istore_n (lv' := [(3, .int (nI (1000 * i))), (0, .ref y), (1, .int (nI i)), (2, .int (nI j))]) hx hb dX3_leave_5 rfl hl (by decide) rfl (fun ls hl => ?_)
  refine lv_aload_n hx hb dX3_leave_6 rfl (lv_at hl 1 rfl) ?_
  refine gf_M_21 hx hb hown hts hG hw hS.1.1 hS.2.1 dX3_leave_7 ?_
  refine lv_iload_n hx hb dX3_leave_10 rfl (lv_at hl 2 rfl) ?_
  refine lv_dup2_11 hx hb dX3_leave_11 rfl rfl ?_
  refine jx_ialdI hx hb hG hw hS.1.2.2.2.2.1 0 hS.2.2.2.2.2 rfl hi (by decide) dX3_leave_12 ?_
  refine lv_iconst (v := 1) hx hb dX3_leave_13 (by decide) ?_
  refine lv_isub hx hb dX3_leave_14 ?_
  rw [hzi, hlen, nI_pred]
  refine jx_iastI hx hb hG hw hS.1.2.2.2.2.1 0 hS.2.2.2.2.2 rfl hi (by decide) dX3_leave_15 (fun H locs hw => ?_)
  have hS1 := hS.putZ (upd zz i (nI (A1 ++ A2).length))
  obtain ⟨f1, hf1⟩ : ∃ z, z = va_up f sz (.inl (ct 0, 4, .inl (upd zz i (nI (A1 ++ A2).length)))) := ⟨_, rfl⟩
  rw [← hf1] at hS1
  have hw : jz_w D (va_A (va_pl L f) s.heap.size) s.heap L f1 H locs := by rw [hf1]; exact hw
  refine lv_iconst (v := nI 0) hx hb dX3_leave_16 (by decide) ?_
  refine lv_istore (lv' := [(4, .int (nI 0)), (3, .int (nI (1000 * i))), (0, .ref y), (1, .int (nI i)), (2, .int (nI j))]) hx hb dX3_leave_17 hl (by decide) rfl (fun ls hl => ?_)
  refine lp_find hx hb hml hown hts hG hS1 hw hi hR0 hN eA (fun ls hl => ?_) (A1.length + 1) 0 ls (by omega) (Nat.zero_le _) (lv_sub hl [2, 3, 4, 1, 0] rfl)
  refine lv_iload hx hb dX3_leave_38 (lv_at hl 4 rfl) ?_
  refine lv_istore (lv' := [(5, .int (nI A1.length)), (0, .ref y), (1, .int (nI i)), (2, .int (nI j)), (3, .int (nI (1000 * i))), (4, .int (nI A1.length))]) hx hb dX3_leave_40 hl (by decide) rfl (fun ls hl => ?_)
  refine lp_up hx hb hml hown hts hG hi hR0 hN eA pk_us (fun ro1 f2 H locs ls hS2 hr1 hw hl => ?_) ((A1 ++ A2).length - A1.length + 1) A1.length ro f1 H locs ls (by omega) (Nat.le_refl _) (by simp) hS1 (fun q => by rw [if_neg (by omega)]) hw (lv_sub hl [1, 2, 3, 4, 0] rfl)
  refine lv_aload_n hx hb dX3_leave_79 rfl (lv_at hl 0 rfl) ?_
  refine gf_M_17 hx hb hown hts hG hw hS2.1.1 hS2.2.1 dX3_leave_80 ?_
  refine lv_iload_n hx hb dX3_leave_83 rfl (lv_at hl 3 rfl) ?_
  refine lv_iload_n hx hb dX3_leave_84 rfl (lv_at hl 2 rfl) ?_
  refine lv_iadd hx hb dX3_leave_85 ?_
  rw [nI_add]
  refine lv_iconst (v := 0) hx hb dX3_leave_86 (by decide) ?_
  refine jx_zastI hx hb hG hw hS2.1.2.2.2.1 5 hS2.2.2.2.2.1 rfl (j := 1000 * i + j) (by omega) (by decide) rfl dX3_leave_87 (fun H locs hw => ?_)
  exact jx_vret hx hb hrt hlk hw (Nat.le_refl _) (Nat.le_refl _) dX3_leave_88 ⟨rfl, rfl, ro1, hS2.putT _, hr1⟩
set_option maxHeartbeats 4000000 in
set_option maxRecDepth 100000 in
theorem c_M_remove (l : Launch) (D : va_G) (ct : Nat → ClassId) {N : Nat} {y : Nat} {L : List Nat} {f : Nat → va_E} {As : jq_S} (hM : jM N ct y L f As) (hN : N < 1000) {ov mv : Int32} :
    jz_M l D ct yX3_remove cX3_remove 3 (some .int) ({ frames := 2, cells := 0, slots := 0, locals := 41 } : Room) [.ref y, .int ov, .int mv] L f (fun v L' f' => v = some (.int (sp_rem As ov mv).1) ∧ jM N ct y L' f' (sp_rem As ov mv).2) := by
  by_cases hgood : jq_o ov ∧ jq_m mv
  · obtain ⟨i, hi, ei, hcl0⟩ := jq_oN hgood.1
    subst ei
    obtain ⟨j, hj, ej, hcl1⟩ := jq_mN hgood.2
    subst ej
    obtain ⟨rw, sc, th, sz, ro, ss, tt, zz, hS, hAll⟩ := id hM
    have hRi := hAll i hi
    obtain ⟨hwf, hlN, hzz, hro, hss, htt⟩ := id hRi
    refine jx_enter (by decide) (Nat.le_of_ble_eq_true rfl) ?_
    intro p e s m below meth c C hw ls hl
    obtain ⟨hx, hb, hrt, hlk, hnm, hml, hown, hts, hG⟩ := C
    have hl : lv_has ls 3 [(0, .ref y), (1, .int (nI i)), (2, .int (nI j))] := hl
    refine lv_iload_n hx hb dX3_remove_0 rfl (lv_at hl 1 rfl) ?_
    refine lv_iload_n hx hb dX3_remove_1 rfl (lv_at hl 2 rfl) ?_
    refine cl_M_37 (As := [.int (nI i), .int (nI j)]) (rest := []) hx hb hml hown hts hG hw (c_M_isGood l D ct L f (nI i) (nI j)) rfl ⟨Nat.le_of_ble_eq_true rfl, Nat.le_of_ble_eq_true rfl⟩ hl.1 rfl (Nat.le_of_ble_eq_true rfl) dX3_remove_2 ⟨Nat.le_of_ble_eq_true rfl, Nat.le_of_ble_eq_true rfl⟩ (fun v L' f' H1 locs1 hp hw hcf => ?_)
    obtain ⟨hv, eL, ef⟩ := hp
    rw [eL, ef] at hw
    have hv : v = some (.int 1) := hv.elim (fun q => q.2) (fun q => absurd hgood q.1)
    subst hv
    refine lv_if_ne (tgt := 10) hx hb dX3_remove_5 (by decide) (fun _ => ?_) (fun h => absurd h (by decide))
    refine lv_aload_n hx hb dX3_remove_10 rfl (lv_at hl 0 rfl) ?_
    refine gf_M_17 hx hb hown hts hG hw hS.1.1 hS.2.1 dX3_remove_11 ?_
    refine lv_sipush (v := nI 1000) hx hb dX3_remove_14 (by decide) ?_
    refine lv_iload_n hx hb dX3_remove_17 rfl (lv_at hl 1 rfl) ?_
    refine lv_imul hx hb dX3_remove_18 ?_
    rw [pk_mul]
    refine lv_iload_n hx hb dX3_remove_19 rfl (lv_at hl 2 rfl) ?_
    refine lv_iadd hx hb dX3_remove_20 ?_
    rw [nI_add]
    refine jx_zaldI hx hb hG hw hS.1.2.2.2.1 5 hS.2.2.2.2.1 rfl (by omega) (by decide) dX3_remove_21 ?_
    rcases htt j hj with ⟨et, s0, hget⟩ | ⟨et, hget⟩
    · rw [et]
      refine lv_if_ne (tgt := 27) hx hb dX3_remove_22 (by decide) (fun _ => ?_) (fun h => absurd h (by decide))
      obtain ⟨A1, A2, eA⟩ := List.append_of_mem (jq_get_mem hget)
      refine lv_aload_n hx hb dX3_remove_27 rfl (lv_at hl 0 rfl) ?_
      refine lv_iload_n hx hb dX3_remove_28 rfl (lv_at hl 1 rfl) ?_
      refine lv_iload_n hx hb dX3_remove_29 rfl (lv_at hl 2 rfl) ?_
      refine cl_M_41 (As := [.int (nI i), .int (nI j)]) (rest := []) hx hb hml hown hts hG hw (c_M_leave l D ct hS hi hRi (by omega) eA) rfl ⟨Nat.le_of_ble_eq_true rfl, Nat.le_of_ble_eq_true rfl⟩ hS.1.1 hS.2.1 hl.1 rfl (Nat.le_of_ble_eq_true rfl) dX3_remove_30 ⟨Nat.le_of_ble_eq_true rfl, Nat.le_of_ble_eq_true rfl⟩ (fun v L' f' H1 locs1 hp hw hcf => ?_)
      obtain ⟨rfl, eL, ro', hS', hr'⟩ := hp
      rw [eL] at hw
      have hR' := hRi.del (by omega) eA hr'
      have hall' := jM.upd hAll (Nat.le_refl _) (by omega) hi hR' (fun q hq => ⟨by rw [hr', if_neg (by have := hR'.2.1; simp only [List.length_append] at *; omega)], rfl, pk_un (by omega)⟩) (fun q hq => pk_un hq)
      have e1 : A1 ++ A2 = jq_del (As i) j := jq_del_of hwf.2.1 ⟨A1, A2, s0, eA, rfl⟩
      have esq : sq_rem (As i) j = (1, A1 ++ A2) := by rw [sq_rem, hget, e1]
      refine lv_iconst (v := 1) hx hb dX3_remove_33 (by decide) ?_
      exact jx_iret hx hb hrt hlk hw (Nat.le_of_ble_eq_true rfl) (Nat.le_of_ble_eq_true rfl) dX3_remove_34 ⟨by rw [sp_rem_at hi hj, esq], by rw [sp_rem_at hi hj, esq]; exact ⟨rw, sc, th, sz, ro', ss, _, _, hS', hall'⟩⟩
    · rw [et]
      refine lv_if_ne (tgt := 27) hx hb dX3_remove_22 (by decide) (fun h => absurd rfl h) (fun _ => ?_)
      have esq : sq_rem (As i) j = (0, As i) := by rw [sq_rem, hget]
      refine lv_iconst (v := 0) hx hb dX3_remove_25 (by decide) ?_
      exact jx_iret hx hb hrt hlk hw (Nat.le_of_ble_eq_true rfl) (Nat.le_of_ble_eq_true rfl) dX3_remove_26 ⟨by rw [sp_rem_at hi hj, esq], by rw [sp_rem_at hi hj, esq]; show jM N ct y L f (va_up As i (As i)); rw [jq_upSelf]; exact hM⟩
  · refine jx_enter (by decide) (Nat.le_of_ble_eq_true rfl) ?_
    intro p e s m below meth c C hw ls hl
    obtain ⟨hx, hb, hrt, hlk, hnm, hml, hown, hts, hG⟩ := C
    have hl : lv_has ls 3 [(0, .ref y), (1, .int ov), (2, .int mv)] := hl
    refine lv_iload_n hx hb dX3_remove_0 rfl (lv_at hl 1 rfl) ?_
    refine lv_iload_n hx hb dX3_remove_1 rfl (lv_at hl 2 rfl) ?_
    refine cl_M_37 (As := [.int ov, .int mv]) (rest := []) hx hb hml hown hts hG hw (c_M_isGood l D ct L f ov mv) rfl ⟨Nat.le_of_ble_eq_true rfl, Nat.le_of_ble_eq_true rfl⟩ hl.1 rfl (Nat.le_of_ble_eq_true rfl) dX3_remove_2 ⟨Nat.le_of_ble_eq_true rfl, Nat.le_of_ble_eq_true rfl⟩ (fun v L' f' H1 locs1 hp hw hcf => ?_)
    obtain ⟨hv, eL, ef⟩ := hp
    rw [eL, ef] at hw
    have hv : v = some (.int 0) := hv.elim (fun q => absurd q.1 hgood) (fun q => q.2)
    subst hv
    refine lv_if_ne (tgt := 10) hx hb dX3_remove_5 (by decide) (fun h => absurd rfl h) (fun _ => ?_)
    refine lv_iconst (v := (-1)) hx hb dX3_remove_8 (by decide) ?_
    exact jx_iret hx hb hrt hlk hw (Nat.le_of_ble_eq_true rfl) (Nat.le_of_ble_eq_true rfl) dX3_remove_9 ⟨by rw [sp_rem, if_neg hgood], by rw [sp_rem, if_neg hgood]; exact hM⟩
end
section
section MST
variable {p : Program} {l : Launch} {e : Env} {R : Room} {s : State} {m : MethodId} {args : Array Value} {below : List Frame} {meth : Method} {c : Code} {H : Heap} {locs : List Loc} {cells slots : Nat} {Q : State → Prop} {D : va_G} {ct : Nat → ClassId} {A : Nat → Prop} {H0 : Heap} {L : List Nat}
variable {y rw sc th sz : Nat} {f : Nat → va_E} {ro tt zz : Nat → Int32} {ss : Nat → Int64} {N i : Nat} {As : List (Nat × Int64)}
set_option maxHeartbeats 4000000 in
set_option maxRecDepth 100000 in
theorem lp_down (hx : p.tables.exec = Jvm.exec) (hb : c.code = cX3_set) (hml : c.maxLocals = 9) (hown : s.vm.findClass RX3 = some m.cls) (hts : ∀ w ∈ jz_TT, w.before args s = true) (hG : jz_G D ct s) (hi : i < 4) (hR0 : jm_R N i As ro ss tt zz) (hN : N < 1000) {A1 A2 : List (Nat × Int64)} (eA : As = A1 ++ A2) {j : Nat} {s0 : Int64} {c6 : Int32}
    (kk : ∀ (ro1 : Nat → Int32) (f1 : Nat → va_E) (H : Heap) (locs : List Loc) (ls : Array Slot), jm_S ct y rw sc th sz L f1 ro1 ss tt zz → (∀ q, ro1 q = if 1000 * i + A1.length < q ∧ q ≤ 1000 * i + As.length then ro (q - 1) else ro q) → jz_w D A H0 L f1 H locs → lv_has ls 9 [(0, .ref y), (1, .int (nI i)), (2, .int (nI j)), (3, .long s0), (5, .int (nI (1000 * i))), (6, .int c6), (7, .int (nI A1.length))] → W p l e R s m args below meth c H locs cells slots Q (F0 m 112 ls [])) :
    ∀ (t : Nat) (ro1 : Nat → Int32) (f1 : Nat → va_E) (H : Heap) (locs : List Loc) (ls : Array Slot), A1.length ≤ t → t ≤ As.length → jm_S ct y rw sc th sz L f1 ro1 ss tt zz → (∀ q, ro1 q = if 1000 * i + t < q ∧ q ≤ 1000 * i + As.length then ro (q - 1) else ro q) → jz_w D A H0 L f1 H locs → lv_has ls 9 [(0, .ref y), (1, .int (nI i)), (2, .int (nI j)), (3, .long s0), (5, .int (nI (1000 * i))), (6, .int c6), (7, .int (nI A1.length)), (8, .int (nI t))] → W p l e R s m args below meth c H locs cells slots Q (F0 m 77 ls []) := by
  obtain ⟨hwf, hlN, hzz, hro, hss, htt⟩ := id hR0
  intro t
  induction t with
  | zero =>
    intro ro1 f1 H locs ls htA htB hS hr1 hw hl
    refine lv_iload hx hb dX3_set_77 (lv_at hl 7 rfl) ?_
    refine lv_iload hx hb dX3_set_79 (lv_at hl 6 rfl) ?_
    refine lv_icmp_le (tgt := 112) hx hb dX3_set_81 (by decide) (fun hc => ?_) (fun h => absurd (nI_le (Nat.zero_le _) (by omega)) h)
    have h4 : 0 = A1.length := by omega
    exact kk ro1 f1 H locs ls hS (by rw [← h4]; exact hr1) hw (lv_sub hl [0, 1, 2, 3, 4, 5, 6] rfl)
  | succ t ih =>
    intro ro1 f1 H locs ls htA htB hS hr1 hw hl
    refine lv_iload hx hb dX3_set_77 (lv_at hl 7 rfl) ?_
    refine lv_iload hx hb dX3_set_79 (lv_at hl 6 rfl) ?_
    refine lv_icmp_le (tgt := 112) hx hb dX3_set_81 (by decide) (fun hc => ?_) (fun hc => ?_)
    · have h5 : t + 1 ≤ A1.length := (nI_leI (by omega) (by omega)).mp hc
      have h4 : (t + 1) = A1.length := by omega
      exact kk ro1 f1 H locs ls hS (by rw [← h4]; exact hr1) hw (lv_sub hl [0, 1, 2, 3, 4, 5, 6] rfl)
    · have h5 : A1.length ≤ t := by
        rcases Nat.lt_or_ge t A1.length with q | q
        · exact absurd (nI_le (show t + 1 ≤ A1.length by omega) (by omega)) hc
        · exact q
      have h6 : t < As.length := by omega
      obtain ⟨x, hxt⟩ : ∃ x, As[t]? = some x := ⟨_, List.getElem?_eq_getElem h6⟩
      have hx1 := hwf.2.2 x (List.mem_of_getElem? hxt)
      have hval : ro1 (1000 * i + t) = nI x.1 := by rw [hr1, if_neg (by omega)]; exact hro t x hxt
      refine lv_aload_n hx hb dX3_set_84 rfl (lv_at hl 0 rfl) ?_
      refine gf_M_7 hx hb hown hts hG hw hS.1.1 hS.2.1 dX3_set_85 ?_
      refine lv_iload hx hb dX3_set_88 (lv_at hl 4 rfl) ?_
      refine lv_iload hx hb dX3_set_90 (lv_at hl 7 rfl) ?_
      refine lv_iadd hx hb dX3_set_92 ?_
      rw [nI_add]
      refine lv_aload_n hx hb dX3_set_93 rfl (lv_at hl 0 rfl) ?_
      refine gf_M_7 hx hb hown hts hG hw hS.1.1 hS.2.1 dX3_set_94 ?_
      refine lv_iload hx hb dX3_set_97 (lv_at hl 4 rfl) ?_
      refine lv_iload hx hb dX3_set_99 (lv_at hl 7 rfl) ?_
      refine lv_iadd hx hb dX3_set_101 ?_
      rw [nI_add]
      refine lv_iconst (v := nI 1) hx hb dX3_set_102 (by decide) ?_
      refine lv_isub hx hb dX3_set_103 ?_
      rw [show nI (1000 * i + (t + 1)) - nI 1 = nI (1000 * i + t) from nI_pred (1000 * i + t)]
      refine jx_saldI hx hb hG hw hS.1.2.1 3 hS.2.2.1 rfl (by omega) (by decide) dX3_set_104 ?_
      refine jx_sastI hx hb hG hw hS.1.2.1 3 hS.2.2.1 rfl (j := 1000 * i + (t + 1)) (by omega) (by decide) (by rw [hval]; exact jm_nar hx1) dX3_set_105 (fun H locs hw => ?_)
      have hS2 := hS.putR (upd ro1 (1000 * i + (t + 1)) (ro1 (1000 * i + t)))
      refine lv_iinc (v := nI t) (lv' := [(8, .int (nI t)), (0, .ref y), (1, .int (nI i)), (2, .int (nI j)), (3, .long s0), (5, .int (nI (1000 * i))), (6, .int c6), (7, .int (nI A1.length))]) hx hb dX3_set_106 hl (k := 7) rfl (pk_m1 t) (by decide) rfl (fun ls hl => ?_)
      refine lv_goto (tgt := 77) hx hb dX3_set_109 (by decide) ?_
      refine ih _ _ H locs ls h5 (by omega) hS2 (fun q => ?_) hw (lv_sub hl [1, 2, 3, 4, 5, 6, 7, 0] rfl)
      by_cases z : q = 1000 * i + (t + 1)
      · rw [z, pk_us, hr1, if_neg (by omega), if_pos (by omega)]
        congr 1
      · rw [pk_un z, hr1]
        by_cases z2 : 1000 * i + (t + 1) < q ∧ q ≤ 1000 * i + As.length
        · rw [if_pos z2, if_pos (by omega)]
        · rw [if_neg z2, if_neg (by omega)]
end MST
set_option maxHeartbeats 4000000 in
set_option maxRecDepth 100000 in
theorem c_M_set (l : Launch) (D : va_G) (ct : Nat → ClassId) {N : Nat} {y : Nat} {L : List Nat} {f : Nat → va_E} {As : jq_S} (hM : jM N ct y L f As) (hN : N < 1000) {ov mv : Int32} {s0 : Int64} :
    jz_M l D ct yX3_set cX3_set 9 (some .int) ({ frames := 3, cells := 0, slots := 0, locals := 72 } : Room) [.ref y, .int ov, .int mv, .long s0] L f (fun v L' f' => v = some (.int (sp_set As ov mv s0).1) ∧ jM (N + 1) ct y L' f' (sp_set As ov mv s0).2) := by
  by_cases hgood : jq_o ov ∧ jq_m mv
  · obtain ⟨i, hi, ei, hcl0⟩ := jq_oN hgood.1
    subst ei
    obtain ⟨j, hj, ej, hcl1⟩ := jq_mN hgood.2
    subst ej
    obtain ⟨rw, sc, th, sz, ro, ss, tt, zz, hS, hAll⟩ := id hM
    have hRi := hAll i hi
    obtain ⟨hwf, hlN, hzz, hro, hss, htt⟩ := id hRi
    refine jx_enter (by decide) (Nat.le_of_ble_eq_true rfl) ?_
    intro p e s m below meth c C hw ls hl
    obtain ⟨hx, hb, hrt, hlk, hnm, hml, hown, hts, hG⟩ := C
    have hl : lv_has ls 9 [(0, .ref y), (1, .int (nI i)), (2, .int (nI j)), (3, .long s0)] := hl
    refine lv_iload_n hx hb dX3_set_0 rfl (lv_at hl 1 rfl) ?_
    refine lv_iload_n hx hb dX3_set_1 rfl (lv_at hl 2 rfl) ?_
    refine cl_M_37 (As := [.int (nI i), .int (nI j)]) (rest := []) hx hb hml hown hts hG hw (c_M_isGood l D ct L f (nI i) (nI j)) rfl ⟨Nat.le_of_ble_eq_true rfl, Nat.le_of_ble_eq_true rfl⟩ hl.1 rfl (Nat.le_of_ble_eq_true rfl) dX3_set_2 ⟨Nat.le_of_ble_eq_true rfl, Nat.le_of_ble_eq_true rfl⟩ (fun v L' f' H1 locs1 hp hw hcf => ?_)
    obtain ⟨hv, eL, ef⟩ := hp
    rw [eL, ef] at hw
    have hv : v = some (.int 1) := hv.elim (fun q => q.2) (fun q => absurd hgood q.1)
    subst hv
    refine lv_if_ne (tgt := 10) hx hb dX3_set_5 (by decide) (fun _ => ?_) (fun h => absurd h (by decide))
    refine lv_sipush (v := nI 1000) hx hb dX3_set_10 (by decide) ?_
    refine lv_iload_n hx hb dX3_set_13 rfl (lv_at hl 1 rfl) ?_
    refine lv_imul hx hb dX3_set_14 ?_
    rw [pk_mul]
    refine lv_istore (lv' := [(5, .int (nI (1000 * i))), (0, .ref y), (1, .int (nI i)), (2, .int (nI j)), (3, .long s0)]) hx hb dX3_set_15 hl (by decide) rfl (fun ls hl => ?_)
    refine lv_aload_n hx hb dX3_set_17 rfl (lv_at hl 1 rfl) ?_
    refine gf_M_17 hx hb hown hts hG hw hS.1.1 hS.2.1 dX3_set_18 ?_
    refine lv_iload hx hb dX3_set_21 (lv_at hl 0 rfl) ?_
    refine lv_iload_n hx hb dX3_set_23 rfl (lv_at hl 3 rfl) ?_
    refine lv_iadd hx hb dX3_set_24 ?_
    rw [nI_add]
    refine jx_zaldI hx hb hG hw hS.1.2.2.2.1 5 hS.2.2.2.2.1 rfl (by omega) (by decide) dX3_set_25 ?_
    rcases htt j hj with ⟨et, s1, hget⟩ | ⟨et, hget⟩
    · rw [et]
      refine lv_istore (lv' := [(6, .int 1), (5, .int (nI (1000 * i))), (0, .ref y), (1, .int (nI i)), (2, .int (nI j)), (3, .long s0)]) hx hb dX3_set_26 hl (by decide) rfl (fun ls hl => ?_)
      refine lv_iload hx hb dX3_set_28 (lv_at hl 0 rfl) ?_
      refine lv_if_eq (tgt := 49) hx hb dX3_set_30 (by decide) (fun h => absurd h (by decide)) (fun _ => ?_)
      have hsv : ss (1000 * i + j) = s1 := hss (j, s1) (jq_get_mem hget)
      refine lv_aload_n hx hb dX3_set_33 rfl (lv_at hl 2 rfl) ?_
      refine gf_M_13 hx hb hown hts hG hw hS.1.1 hS.2.1 dX3_set_34 ?_
      refine lv_iload hx hb dX3_set_37 (lv_at hl 1 rfl) ?_
      refine lv_iload_n hx hb dX3_set_39 rfl (lv_at hl 4 rfl) ?_
      refine lv_iadd hx hb dX3_set_40 ?_
      rw [nI_add]
      refine jx_laldI hx hb hG hw hS.1.2.2.1 4 hS.2.2.2.1 rfl (by omega) (by decide) dX3_set_41 ?_
      rw [hsv]
      refine lv_lload_n hx hb dX3_set_42 rfl (lv_at hl 5 rfl) ?_
      refine W.lcmp hx hb dX3_set_43 ?_
      refine lv_if_ne (tgt := 49) hx hb dX3_set_44 (by decide) (fun hne => ?_) (fun heq => ?_)
      · have hne : ¬ s1 = s0 := fun z => hne ((lg_cmp_eq _ _).mpr z)
        refine lv_iload hx hb dX3_set_49 (lv_at hl 0 rfl) ?_
        refine lv_if_eq (tgt := 60) hx hb dX3_set_51 (by decide) (fun h => absurd h (by decide)) (fun _ => ?_)
        obtain ⟨A1, A2, eA⟩ := List.append_of_mem (jq_get_mem hget)
        refine lv_aload_n hx hb dX3_set_54 rfl (lv_at hl 2 rfl) ?_
        refine lv_iload_n hx hb dX3_set_55 rfl (lv_at hl 3 rfl) ?_
        refine lv_iload_n hx hb dX3_set_56 rfl (lv_at hl 4 rfl) ?_
        refine cl_M_41 (As := [.int (nI i), .int (nI j)]) (rest := []) hx hb hml hown hts hG hw (c_M_leave l D ct hS hi hRi (by omega) eA) rfl ⟨Nat.le_of_ble_eq_true rfl, Nat.le_of_ble_eq_true rfl⟩ hS.1.1 hS.2.1 hl.1 rfl (Nat.le_of_ble_eq_true rfl) dX3_set_57 ⟨Nat.le_of_ble_eq_true rfl, Nat.le_of_ble_eq_true rfl⟩ (fun v L' f' H1 locs1 hp hw hcf => ?_)
        obtain ⟨rfl, eL, roT, hST, hr'⟩ := hp
        rw [eL] at hw
        have hRT := hRi.del (by omega) eA hr'
        have hAllT := jM.upd hAll (Nat.le_refl _) (by omega) hi hRT (fun q hq => ⟨by rw [hr', if_neg (by have := hRT.2.1; simp only [List.length_append] at *; omega)], rfl, pk_un (by omega)⟩) (fun q hq => pk_un hq)
        have e1 : A1 ++ A2 = jq_del (As i) j := jq_del_of hwf.2.1 ⟨A1, A2, s1, eA, rfl⟩
        have habs : jq_get (A1 ++ A2) j = none := jm_get_ap (s := s1) (by have h0 := hwf.2.1; rw [eA] at h0; exact h0)
        generalize hta : upd tt (1000 * i + j) 0 = ttT at hST hRT hAllT
        generalize hza : upd zz i (nI (A1 ++ A2).length) = zzT at hST hRT hAllT
        have hlT := hRT.2.1
        have hzT := hRT.2.2.1
        obtain ⟨B1, B2, eB, g1, g2⟩ := jz_cutBy hRT.1.1 s0 (jz_word (nI j))
        have hBl : (A1 ++ A2).length = B1.length + B2.length := by rw [eB, List.length_append]
        refine lv_aload_n hx hb dX3_set_60 rfl (lv_at hl 2 rfl) ?_
        refine lv_iload_n hx hb dX3_set_61 rfl (lv_at hl 3 rfl) ?_
        refine lv_lload_n hx hb dX3_set_62 rfl (lv_at hl 5 rfl) ?_
        refine lv_iload_n hx hb dX3_set_63 rfl (lv_at hl 4 rfl) ?_
        refine cl_M_45 (As := [.int (nI i), .long s0, .int (nI j)]) (rest := []) hx hb hml hown hts hG hw (c_M_place l D ct hST hi hRT (by omega) eB hj g1 g2) rfl ⟨Nat.le_of_ble_eq_true rfl, Nat.le_of_ble_eq_true rfl⟩ hST.1.1 hST.2.1 hl.1 rfl (Nat.le_of_ble_eq_true rfl) dX3_set_64 ⟨Nat.le_of_ble_eq_true rfl, Nat.le_of_ble_eq_true rfl⟩ (fun v L' f' H1 locs1 hp hw hcf => ?_)
        obtain ⟨rfl, eL3, ef3⟩ := hp
        rw [eL3, ef3] at hw
        refine lv_istore (lv' := [(7, .int (nI B1.length)), (6, .int 1), (5, .int (nI (1000 * i))), (0, .ref y), (1, .int (nI i)), (2, .int (nI j)), (3, .long s0)]) hx hb dX3_set_67 hl (by decide) rfl (fun ls hl => ?_)
        refine lv_aload_n hx hb dX3_set_69 rfl (lv_at hl 3 rfl) ?_
        refine gf_M_21 hx hb hown hts hG hw hST.1.1 hST.2.1 dX3_set_70 ?_
        refine lv_iload_n hx hb dX3_set_73 rfl (lv_at hl 4 rfl) ?_
        refine jx_ialdI hx hb hG hw hST.1.2.2.2.2.1 0 hST.2.2.2.2.2 rfl hi (by decide) dX3_set_74 ?_
        rw [hzT]
        refine lv_istore (lv' := [(8, .int (nI (A1 ++ A2).length)), (7, .int (nI B1.length)), (6, .int 1), (5, .int (nI (1000 * i))), (0, .ref y), (1, .int (nI i)), (2, .int (nI j)), (3, .long s0)]) hx hb dX3_set_75 hl (by decide) rfl (fun ls hl => ?_)
        refine lp_down hx hb hml hown hts hG hi hRT hN eB (fun ro1 f1 H locs ls hS1 hr1 hw hl => ?_) (A1 ++ A2).length roT _ _ _ ls (by omega) (Nat.le_refl _) hST (fun q => by rw [if_neg (by omega)]) hw (lv_sub hl [4, 5, 6, 7, 3, 2, 1, 0] rfl)
        refine lv_aload_n hx hb dX3_set_112 rfl (lv_at hl 0 rfl) ?_
        refine gf_M_7 hx hb hown hts hG hw hS1.1.1 hS1.2.1 dX3_set_113 ?_
        refine lv_iload hx hb dX3_set_116 (lv_at hl 4 rfl) ?_
        refine lv_iload hx hb dX3_set_118 (lv_at hl 6 rfl) ?_
        refine lv_iadd hx hb dX3_set_120 ?_
        rw [nI_add]
        refine lv_iload_n hx hb dX3_set_121 rfl (lv_at hl 2 rfl) ?_
        refine lv_i2s (v := nI j) hx hb dX3_set_122 (lg_i2s_small (by rw [nI_toInt (by omega)]; omega) (by rw [nI_toInt (by omega)]; omega)) ?_
        refine jx_sastI hx hb hG hw hS1.1.2.1 3 hS1.2.2.1 rfl (j := 1000 * i + B1.length) (by omega) (by decide) (jm_nar hj) dX3_set_123 (fun H locs hw => ?_)
        have hS2 := hS1.putR (upd ro1 (1000 * i + B1.length) (nI j))
        refine lv_aload_n hx hb dX3_set_124 rfl (lv_at hl 0 rfl) ?_
        refine gf_M_13 hx hb hown hts hG hw hS2.1.1 hS2.2.1 dX3_set_125 ?_
        refine lv_iload hx hb dX3_set_128 (lv_at hl 4 rfl) ?_
        refine lv_iload_n hx hb dX3_set_130 rfl (lv_at hl 2 rfl) ?_
        refine lv_iadd hx hb dX3_set_131 ?_
        rw [nI_add]
        refine lv_lload_n hx hb dX3_set_132 rfl (lv_at hl 3 rfl) ?_
        refine jx_lastI hx hb hG hw hS2.1.2.2.1 4 hS2.2.2.2.1 rfl (j := 1000 * i + j) (by omega) (by decide) dX3_set_133 (fun H locs hw => ?_)
        have hS3 := hS2.putS (vp_updL ss (1000 * i + j) s0)
        refine lv_aload_n hx hb dX3_set_134 rfl (lv_at hl 0 rfl) ?_
        refine gf_M_17 hx hb hown hts hG hw hS3.1.1 hS3.2.1 dX3_set_135 ?_
        refine lv_iload hx hb dX3_set_138 (lv_at hl 4 rfl) ?_
        refine lv_iload_n hx hb dX3_set_140 rfl (lv_at hl 2 rfl) ?_
        refine lv_iadd hx hb dX3_set_141 ?_
        rw [nI_add]
        refine lv_iconst (v := 1) hx hb dX3_set_142 (by decide) ?_
        refine jx_zastI hx hb hG hw hS3.1.2.2.2.1 5 hS3.2.2.2.2.1 rfl (j := 1000 * i + j) (by omega) (by decide) rfl dX3_set_143 (fun H locs hw => ?_)
        have hS4 := hS3.putT (upd ttT (1000 * i + j) 1)
        refine lv_aload_n hx hb dX3_set_144 rfl (lv_at hl 0 rfl) ?_
        refine gf_M_21 hx hb hown hts hG hw hS4.1.1 hS4.2.1 dX3_set_145 ?_
        refine lv_iload_n hx hb dX3_set_148 rfl (lv_at hl 1 rfl) ?_
        refine lv_dup2_11 hx hb dX3_set_149 rfl rfl ?_
        refine jx_ialdI hx hb hG hw hS4.1.2.2.2.2.1 0 hS4.2.2.2.2.2 rfl hi (by decide) dX3_set_150 ?_
        refine lv_iconst (v := nI 1) hx hb dX3_set_151 (by decide) ?_
        refine lv_iadd hx hb dX3_set_152 ?_
        rw [hzT, nI_add]
        refine jx_iastI hx hb hG hw hS4.1.2.2.2.2.1 0 hS4.2.2.2.2.2 rfl hi (by decide) dX3_set_153 (fun H locs hw => ?_)
        have hS5 := hS4.putZ (upd zzT i (nI ((A1 ++ A2).length + 1)))
        obtain ⟨hins, hR5⟩ := hRT.ins (ro' := upd ro1 (1000 * i + B1.length) (nI j)) hj habs eB g1 g2 (fun q => by
          by_cases z : q = 1000 * i + B1.length
          · rw [z, pk_us, if_pos rfl]
          · rw [pk_un z, if_neg z]; exact hr1 q)
        have hall5 := jM.upd hAllT (Nat.le_succ N) (by omega) hi hR5 (fun q hq => ⟨by rw [pk_un (by omega), hr1, if_neg (by omega)], pk_uLn (by omega), pk_un (by omega)⟩) (fun q hq => pk_un hq)
        have e2 := jq_ins_of hins
        have esq : sq_set (As i) j s0 = (2, B1 ++ (j, s0) :: B2) := by rw [sq_set, hget]; show (if s1 = s0 then _ else _) = _; rw [if_neg hne, e2, e1]
        refine lv_iload hx hb dX3_set_154 (lv_at hl 5 rfl) ?_
        refine lv_if_eq (tgt := 163) hx hb dX3_set_156 (by decide) (fun h => absurd h (by decide)) (fun _ => ?_)
        refine lv_iconst (v := 2) hx hb dX3_set_159 (by decide) ?_
        refine lv_goto (tgt := 164) hx hb dX3_set_160 (by decide) ?_
        exact jx_iret hx hb hrt hlk hw (Nat.le_of_ble_eq_true rfl) (Nat.le_of_ble_eq_true rfl) dX3_set_164 ⟨by rw [sp_set_at hi hj, esq], by rw [sp_set_at hi hj, esq]; exact ⟨rw, sc, th, sz, _, _, _, _, hS5, (by rw [bx_uu] at hall5; exact hall5)⟩⟩
      · have heq : s1 = s0 := (lg_cmp_eq _ _).mp heq
        have esq : sq_set (As i) j s0 = (0, As i) := by rw [sq_set, hget]; show (if s1 = s0 then _ else _) = _; rw [if_pos heq]
        refine lv_iconst (v := 0) hx hb dX3_set_47 (by decide) ?_
        exact jx_iret hx hb hrt hlk hw (Nat.le_of_ble_eq_true rfl) (Nat.le_of_ble_eq_true rfl) dX3_set_48 ⟨by rw [sp_set_at hi hj, esq], by rw [sp_set_at hi hj, esq]; show jM (N + 1) ct y L f (va_up As i (As i)); rw [jq_upSelf]; exact hM.mono (Nat.le_succ _)⟩
    · rw [et]
      refine lv_istore (lv' := [(6, .int 0), (5, .int (nI (1000 * i))), (0, .ref y), (1, .int (nI i)), (2, .int (nI j)), (3, .long s0)]) hx hb dX3_set_26 hl (by decide) rfl (fun ls hl => ?_)
      refine lv_iload hx hb dX3_set_28 (lv_at hl 0 rfl) ?_
      refine lv_if_eq (tgt := 49) hx hb dX3_set_30 (by decide) (fun _ => ?_) (fun h => absurd rfl h)
      refine lv_iload hx hb dX3_set_49 (lv_at hl 0 rfl) ?_
      refine lv_if_eq (tgt := 60) hx hb dX3_set_51 (by decide) (fun _ => ?_) (fun h => absurd rfl h)
      have hST := hS
      have hRT := hRi
      have hAllT := hAll
      have habs := hget
      generalize hra : ro = roT at hST hRT hAllT
      generalize hta : tt = ttT at hST hRT hAllT
      generalize hza : zz = zzT at hST hRT hAllT
      have hlT := hRT.2.1
      have hzT := hRT.2.2.1
      obtain ⟨B1, B2, eB, g1, g2⟩ := jz_cutBy hRT.1.1 s0 (jz_word (nI j))
      have hBl : (As i).length = B1.length + B2.length := by rw [eB, List.length_append]
      refine lv_aload_n hx hb dX3_set_60 rfl (lv_at hl 2 rfl) ?_
      refine lv_iload_n hx hb dX3_set_61 rfl (lv_at hl 3 rfl) ?_
      refine lv_lload_n hx hb dX3_set_62 rfl (lv_at hl 5 rfl) ?_
      refine lv_iload_n hx hb dX3_set_63 rfl (lv_at hl 4 rfl) ?_
      refine cl_M_45 (As := [.int (nI i), .long s0, .int (nI j)]) (rest := []) hx hb hml hown hts hG hw (c_M_place l D ct hST hi hRT (by omega) eB hj g1 g2) rfl ⟨Nat.le_of_ble_eq_true rfl, Nat.le_of_ble_eq_true rfl⟩ hST.1.1 hST.2.1 hl.1 rfl (Nat.le_of_ble_eq_true rfl) dX3_set_64 ⟨Nat.le_of_ble_eq_true rfl, Nat.le_of_ble_eq_true rfl⟩ (fun v L' f' H1 locs1 hp hw hcf => ?_)
      obtain ⟨rfl, eL3, ef3⟩ := hp
      rw [eL3, ef3] at hw
      refine lv_istore (lv' := [(7, .int (nI B1.length)), (6, .int 0), (5, .int (nI (1000 * i))), (0, .ref y), (1, .int (nI i)), (2, .int (nI j)), (3, .long s0)]) hx hb dX3_set_67 hl (by decide) rfl (fun ls hl => ?_)
      refine lv_aload_n hx hb dX3_set_69 rfl (lv_at hl 3 rfl) ?_
      refine gf_M_21 hx hb hown hts hG hw hST.1.1 hST.2.1 dX3_set_70 ?_
      refine lv_iload_n hx hb dX3_set_73 rfl (lv_at hl 4 rfl) ?_
      refine jx_ialdI hx hb hG hw hST.1.2.2.2.2.1 0 hST.2.2.2.2.2 rfl hi (by decide) dX3_set_74 ?_
      rw [hzT]
      refine lv_istore (lv' := [(8, .int (nI (As i).length)), (7, .int (nI B1.length)), (6, .int 0), (5, .int (nI (1000 * i))), (0, .ref y), (1, .int (nI i)), (2, .int (nI j)), (3, .long s0)]) hx hb dX3_set_75 hl (by decide) rfl (fun ls hl => ?_)
      refine lp_down hx hb hml hown hts hG hi hRT hN eB (fun ro1 f1 H locs ls hS1 hr1 hw hl => ?_) (As i).length roT _ _ _ ls (by omega) (Nat.le_refl _) hST (fun q => by rw [if_neg (by omega)]) hw (lv_sub hl [4, 5, 6, 7, 3, 2, 1, 0] rfl)
      refine lv_aload_n hx hb dX3_set_112 rfl (lv_at hl 0 rfl) ?_
      refine gf_M_7 hx hb hown hts hG hw hS1.1.1 hS1.2.1 dX3_set_113 ?_
      refine lv_iload hx hb dX3_set_116 (lv_at hl 4 rfl) ?_
      refine lv_iload hx hb dX3_set_118 (lv_at hl 6 rfl) ?_
      refine lv_iadd hx hb dX3_set_120 ?_
      rw [nI_add]
      refine lv_iload_n hx hb dX3_set_121 rfl (lv_at hl 2 rfl) ?_
      refine lv_i2s (v := nI j) hx hb dX3_set_122 (lg_i2s_small (by rw [nI_toInt (by omega)]; omega) (by rw [nI_toInt (by omega)]; omega)) ?_
      refine jx_sastI hx hb hG hw hS1.1.2.1 3 hS1.2.2.1 rfl (j := 1000 * i + B1.length) (by omega) (by decide) (jm_nar hj) dX3_set_123 (fun H locs hw => ?_)
      have hS2 := hS1.putR (upd ro1 (1000 * i + B1.length) (nI j))
      refine lv_aload_n hx hb dX3_set_124 rfl (lv_at hl 0 rfl) ?_
      refine gf_M_13 hx hb hown hts hG hw hS2.1.1 hS2.2.1 dX3_set_125 ?_
      refine lv_iload hx hb dX3_set_128 (lv_at hl 4 rfl) ?_
      refine lv_iload_n hx hb dX3_set_130 rfl (lv_at hl 2 rfl) ?_
      refine lv_iadd hx hb dX3_set_131 ?_
      rw [nI_add]
      refine lv_lload_n hx hb dX3_set_132 rfl (lv_at hl 3 rfl) ?_
      refine jx_lastI hx hb hG hw hS2.1.2.2.1 4 hS2.2.2.2.1 rfl (j := 1000 * i + j) (by omega) (by decide) dX3_set_133 (fun H locs hw => ?_)
      have hS3 := hS2.putS (vp_updL ss (1000 * i + j) s0)
      refine lv_aload_n hx hb dX3_set_134 rfl (lv_at hl 0 rfl) ?_
      refine gf_M_17 hx hb hown hts hG hw hS3.1.1 hS3.2.1 dX3_set_135 ?_
      refine lv_iload hx hb dX3_set_138 (lv_at hl 4 rfl) ?_
      refine lv_iload_n hx hb dX3_set_140 rfl (lv_at hl 2 rfl) ?_
      refine lv_iadd hx hb dX3_set_141 ?_
      rw [nI_add]
      refine lv_iconst (v := 1) hx hb dX3_set_142 (by decide) ?_
      refine jx_zastI hx hb hG hw hS3.1.2.2.2.1 5 hS3.2.2.2.2.1 rfl (j := 1000 * i + j) (by omega) (by decide) rfl dX3_set_143 (fun H locs hw => ?_)
      have hS4 := hS3.putT (upd ttT (1000 * i + j) 1)
      refine lv_aload_n hx hb dX3_set_144 rfl (lv_at hl 0 rfl) ?_
      refine gf_M_21 hx hb hown hts hG hw hS4.1.1 hS4.2.1 dX3_set_145 ?_
      refine lv_iload_n hx hb dX3_set_148 rfl (lv_at hl 1 rfl) ?_
      refine lv_dup2_11 hx hb dX3_set_149 rfl rfl ?_
      refine jx_ialdI hx hb hG hw hS4.1.2.2.2.2.1 0 hS4.2.2.2.2.2 rfl hi (by decide) dX3_set_150 ?_
      refine lv_iconst (v := nI 1) hx hb dX3_set_151 (by decide) ?_
      refine lv_iadd hx hb dX3_set_152 ?_
      rw [hzT, nI_add]
      refine jx_iastI hx hb hG hw hS4.1.2.2.2.2.1 0 hS4.2.2.2.2.2 rfl hi (by decide) dX3_set_153 (fun H locs hw => ?_)
      have hS5 := hS4.putZ (upd zzT i (nI ((As i).length + 1)))
      obtain ⟨hins, hR5⟩ := hRT.ins (ro' := upd ro1 (1000 * i + B1.length) (nI j)) hj habs eB g1 g2 (fun q => by
        by_cases z : q = 1000 * i + B1.length
        · rw [z, pk_us, if_pos rfl]
        · rw [pk_un z, if_neg z]; exact hr1 q)
      have hall5 := jM.upd hAllT (Nat.le_succ N) (by omega) hi hR5 (fun q hq => ⟨by rw [pk_un (by omega), hr1, if_neg (by omega)], pk_uLn (by omega), pk_un (by omega)⟩) (fun q hq => pk_un hq)
      have e2 := jq_ins_of hins
      have esq : sq_set (As i) j s0 = (1, B1 ++ (j, s0) :: B2) := by rw [sq_set, hget, e2]
      refine lv_iload hx hb dX3_set_154 (lv_at hl 5 rfl) ?_
      refine lv_if_eq (tgt := 163) hx hb dX3_set_156 (by decide) (fun _ => ?_) (fun h => absurd rfl h)
      refine lv_iconst (v := 1) hx hb dX3_set_163 (by decide) ?_
      exact jx_iret hx hb hrt hlk hw (Nat.le_of_ble_eq_true rfl) (Nat.le_of_ble_eq_true rfl) dX3_set_164 ⟨by rw [sp_set_at hi hj, esq], by rw [sp_set_at hi hj, esq]; exact ⟨rw, sc, th, sz, _, _, _, _, hS5, hall5⟩⟩
  · refine jx_enter (by decide) (Nat.le_of_ble_eq_true rfl) ?_
    intro p e s m below meth c C hw ls hl
    obtain ⟨hx, hb, hrt, hlk, hnm, hml, hown, hts, hG⟩ := C
    have hl : lv_has ls 9 [(0, .ref y), (1, .int ov), (2, .int mv), (3, .long s0)] := hl
    refine lv_iload_n hx hb dX3_set_0 rfl (lv_at hl 1 rfl) ?_
    refine lv_iload_n hx hb dX3_set_1 rfl (lv_at hl 2 rfl) ?_
    refine cl_M_37 (As := [.int ov, .int mv]) (rest := []) hx hb hml hown hts hG hw (c_M_isGood l D ct L f ov mv) rfl ⟨Nat.le_of_ble_eq_true rfl, Nat.le_of_ble_eq_true rfl⟩ hl.1 rfl (Nat.le_of_ble_eq_true rfl) dX3_set_2 ⟨Nat.le_of_ble_eq_true rfl, Nat.le_of_ble_eq_true rfl⟩ (fun v L' f' H1 locs1 hp hw hcf => ?_)
    obtain ⟨hv, eL, ef⟩ := hp
    rw [eL, ef] at hw
    have hv : v = some (.int 0) := hv.elim (fun q => absurd q.1 hgood) (fun q => q.2)
    subst hv
    refine lv_if_ne (tgt := 10) hx hb dX3_set_5 (by decide) (fun h => absurd rfl h) (fun _ => ?_)
    refine lv_iconst (v := (-1)) hx hb dX3_set_8 (by decide) ?_
    exact jx_iret hx hb hrt hlk hw (Nat.le_of_ble_eq_true rfl) (Nat.le_of_ble_eq_true rfl) dX3_set_9 ⟨by rw [sp_set, if_neg hgood], by rw [sp_set, if_neg hgood]; exact (hM.mono (Nat.le_succ _))⟩
end
section
section MC
variable {p : Program} {l : Launch} {e : Env} {R : Room} {s : State} {m : MethodId} {args : Array Value} {below : List Frame} {meth : Method} {c : Code} {H : Heap} {locs : List Loc} {cells slots : Nat} {Q : State → Prop} {D : va_G} {ct : Nat → ClassId} {A : Nat → Prop} {H0 : Heap} {L : List Nat}
variable {y rw sc th sz : Nat} {f : Nat → va_E} {ro tt zz : Nat → Int32} {ss : Nat → Int64} {N i : Nat} {As : List (Nat × Int64)}
set_option maxHeartbeats 4000000 in
set_option maxRecDepth 100000 in
theorem lp_clear (hx : p.tables.exec = Jvm.exec) (hb : c.code = cX3_clear) (hml : c.maxLocals = 4) (hown : s.vm.findClass RX3 = some m.cls) (hts : ∀ w ∈ jz_TT, w.before args s = true) (hG : jz_G D ct s) (hi : i < 4) {c2 : Int32}
    (kk : ∀ (tt1 : Nat → Int32) (f1 : Nat → va_E) (H : Heap) (locs : List Loc) (ls : Array Slot), jm_S ct y rw sc th sz L f1 ro ss tt1 zz → (∀ q, tt1 q = if 1000 * i ≤ q ∧ q < 1000 * i + 1000 then 0 else tt q) → jz_w D A H0 L f1 H locs → lv_has ls 4 [(1, .int (nI i)), (0, .ref y), (2, .int c2)] → W p l e R s m args below meth c H locs cells slots Q (F0 m 44 ls [])) :
    ∀ (d t : Nat) (tt1 : Nat → Int32) (f1 : Nat → va_E) (H : Heap) (locs : List Loc) (ls : Array Slot), 1000 - t < d → t ≤ 1000 → jm_S ct y rw sc th sz L f1 ro ss tt1 zz → (∀ q, tt1 q = if 1000 * i ≤ q ∧ q < 1000 * i + t then 0 else tt q) → jz_w D A H0 L f1 H locs → lv_has ls 4 [(1, .int (nI i)), (0, .ref y), (2, .int c2), (3, .int (nI t))] → W p l e R s m args below meth c H locs cells slots Q (F0 m 18 ls []) := by
  intro d
  induction d with
  | zero => intro t tt1 f1 H locs ls ht; exact absurd ht (Nat.not_lt_zero _)
  | succ d ih =>
    intro t tt1 f1 H locs ls ht htB hS hr1 hw hl
    refine lv_iload_n hx hb dX3_clear_18 rfl (lv_at hl 3 rfl) ?_
    refine lv_sipush (v := nI 1000) hx hb dX3_clear_19 (by decide) ?_
    refine lv_icmp_ge (tgt := 44) hx hb dX3_clear_22 (by decide) (fun hc => ?_) (fun hc => ?_)
    · have h4 : t = 1000 := by
        rcases Nat.lt_or_ge t 1000 with q | q
        · exact absurd (nI_lt q (by decide)) (Int32.not_lt.mpr hc)
        · omega
      subst h4
      exact kk tt1 f1 H locs ls hS hr1 hw (lv_sub hl [0, 1, 2] rfl)
    · have h4 : t < 1000 := by
        rcases Nat.lt_or_ge t 1000 with q | q
        · exact q
        · exact absurd (nI_le q (by omega)) hc
      refine lv_aload_n hx hb dX3_clear_25 rfl (lv_at hl 1 rfl) ?_
      refine gf_M_17 hx hb hown hts hG hw hS.1.1 hS.2.1 dX3_clear_26 ?_
      refine lv_sipush (v := nI 1000) hx hb dX3_clear_29 (by decide) ?_
      refine lv_iload_n hx hb dX3_clear_32 rfl (lv_at hl 0 rfl) ?_
      refine lv_imul hx hb dX3_clear_33 ?_
      rw [pk_mul]
      refine lv_iload_n hx hb dX3_clear_34 rfl (lv_at hl 3 rfl) ?_
      refine lv_iadd hx hb dX3_clear_35 ?_
      rw [nI_add]
      refine lv_iconst (v := 0) hx hb dX3_clear_36 (by decide) ?_
      refine jx_zastI hx hb hG hw hS.1.2.2.2.1 5 hS.2.2.2.2.1 rfl (j := 1000 * i + t) (by omega) (by decide) rfl dX3_clear_37 (fun H locs hw => ?_)
      have hS2 := hS.putT (upd tt1 (1000 * i + t) 0)
      refine lv_iinc (v := nI (t + 1)) (lv' := [(3, .int (nI (t + 1))), (1, .int (nI i)), (0, .ref y), (2, .int c2)]) hx hb dX3_clear_38 hl (k := 3) rfl (nI_succ t).symm (by decide) rfl (fun ls hl => ?_)
      refine lv_goto (tgt := 18) hx hb dX3_clear_41 (by decide) ?_
      refine ih (t + 1) _ _ H locs ls (by omega) (by omega) hS2 (fun q => ?_) hw (lv_sub hl [1, 2, 3, 0] rfl)
      by_cases z : q = 1000 * i + t
      · rw [z, pk_us, if_pos (by omega)]
      · rw [pk_un z, hr1]
        by_cases z2 : 1000 * i ≤ q ∧ q < 1000 * i + t
        · rw [if_pos z2, if_pos (by omega)]
        · rw [if_neg z2, if_neg (by omega)]
end MC
set_option maxHeartbeats 4000000 in
set_option maxRecDepth 100000 in
theorem c_M_clear (l : Launch) (D : va_G) (ct : Nat → ClassId) {N : Nat} {y : Nat} {L : List Nat} {f : Nat → va_E} {As : jq_S} (hM : jM N ct y L f As) (hN : N < 1000) {ov : Int32} :
    jz_M l D ct yX3_clear cX3_clear 4 (some .int) ({ frames := 1, cells := 0, slots := 0, locals := 20 } : Room) [.ref y, .int ov] L f (fun v L' f' => v = some (.int (sp_clr As ov).1) ∧ jM N ct y L' f' (sp_clr As ov).2) := by
  by_cases ho : jq_o ov
  · obtain ⟨i, hi, ei, hcl0⟩ := jq_oN ho
    subst ei
    obtain ⟨rw, sc, th, sz, ro, ss, tt, zz, hS, hAll⟩ := id hM
    have hRi := hAll i hi
    obtain ⟨hwf, hlN, hzz, hro, hss, htt⟩ := id hRi
    refine jx_enter (by decide) (Nat.le_of_ble_eq_true rfl) ?_
    intro p e s m below meth c C hw ls hl
    obtain ⟨hx, hb, hrt, hlk, hnm, hml, hown, hts, hG⟩ := C
    have hl : lv_has ls 4 [(0, .ref y), (1, .int (nI i))] := hl
    refine lv_iload_n hx hb dX3_clear_0 rfl (lv_at hl 1 rfl) ?_
    refine cl_M_25 (As := [.int (nI i)]) (rest := []) hx hb hml hown hts hG hw (c_M_isOrder l D ct L f (nI i)) rfl ⟨Nat.le_of_ble_eq_true rfl, Nat.le_of_ble_eq_true rfl⟩ hl.1 rfl (Nat.le_of_ble_eq_true rfl) dX3_clear_1 ⟨Nat.le_of_ble_eq_true rfl, Nat.le_of_ble_eq_true rfl⟩ (fun v L' f' H1 locs1 hp hw hcf => ?_)
    obtain ⟨hv, eL, ef⟩ := hp
    rw [eL, ef] at hw
    have hv : v = some (.int 1) := hv.elim (fun q => q.2) (fun q => absurd ho q.1)
    subst hv
    refine lv_if_ne (tgt := 9) hx hb dX3_clear_4 (by decide) (fun _ => ?_) (fun h => absurd h (by decide))
    refine lv_aload_n hx hb dX3_clear_9 rfl (lv_at hl 0 rfl) ?_
    refine gf_M_21 hx hb hown hts hG hw hS.1.1 hS.2.1 dX3_clear_10 ?_
    refine lv_iload_n hx hb dX3_clear_13 rfl (lv_at hl 1 rfl) ?_
    refine jx_ialdI hx hb hG hw hS.1.2.2.2.2.1 0 hS.2.2.2.2.2 rfl hi (by decide) dX3_clear_14 ?_
    rw [hzz]
    refine lv_istore_n (lv' := [(2, .int (nI (As i).length)), (0, .ref y), (1, .int (nI i))]) hx hb dX3_clear_15 rfl hl (by decide) rfl (fun ls hl => ?_)
    refine lv_iconst (v := nI 0) hx hb dX3_clear_16 (by decide) ?_
    refine lv_istore_n (lv' := [(3, .int (nI 0)), (2, .int (nI (As i).length)), (0, .ref y), (1, .int (nI i))]) hx hb dX3_clear_17 rfl hl (by decide) rfl (fun ls hl => ?_)
    refine lp_clear hx hb hml hown hts hG hi (fun tt1 f1 H locs ls hS1 ht1 hw hl => ?_) 1001 0 tt f _ _ ls (by decide) (by decide) hS (fun q => by rw [if_neg (by omega)]) hw (lv_sub hl [3, 2, 1, 0] rfl)
    refine lv_aload_n hx hb dX3_clear_44 rfl (lv_at hl 1 rfl) ?_
    refine gf_M_21 hx hb hown hts hG hw hS1.1.1 hS1.2.1 dX3_clear_45 ?_
    refine lv_iload_n hx hb dX3_clear_48 rfl (lv_at hl 0 rfl) ?_
    refine lv_iconst (v := nI 0) hx hb dX3_clear_49 (by decide) ?_
    refine jx_iastI hx hb hG hw hS1.1.2.2.2.2.1 0 hS1.2.2.2.2.2 rfl hi (by decide) dX3_clear_50 (fun H locs hw => ?_)
    have hS2 := hS1.putZ (upd zz i (nI 0))
    have hR2 : jm_R N i [] ro ss tt1 (upd zz i (nI 0)) := ⟨⟨List.Pairwise.nil, by simp, fun x hx => absurd hx List.not_mem_nil⟩, Nat.zero_le _, pk_us, fun q x hx => by simp at hx, fun x hx => absurd hx List.not_mem_nil, fun q hq => Or.inr ⟨by rw [ht1, if_pos (by omega)], rfl⟩⟩
    have hall2 := jM.upd hAll (Nat.le_refl _) (by omega) hi hR2 (fun q hq => ⟨rfl, rfl, by rw [ht1, if_neg (by omega)]⟩) (fun q hq => pk_un hq)
    have esp : sp_clr As (nI i) = (nI (As i).length, va_up As i []) := by rw [sp_clr, if_pos (jq_oI hi).1, (jq_oI hi).2]
    refine lv_iload_n hx hb dX3_clear_51 rfl (lv_at hl 2 rfl) ?_
    exact jx_iret hx hb hrt hlk hw (Nat.le_of_ble_eq_true rfl) (Nat.le_of_ble_eq_true rfl) dX3_clear_52 ⟨by rw [esp], by rw [esp]; exact ⟨rw, sc, th, sz, _, _, _, _, hS2, hall2⟩⟩
  · refine jx_enter (by decide) (Nat.le_of_ble_eq_true rfl) ?_
    intro p e s m below meth c C hw ls hl
    obtain ⟨hx, hb, hrt, hlk, hnm, hml, hown, hts, hG⟩ := C
    have hl : lv_has ls 4 [(0, .ref y), (1, .int ov)] := hl
    refine lv_iload_n hx hb dX3_clear_0 rfl (lv_at hl 1 rfl) ?_
    refine cl_M_25 (As := [.int ov]) (rest := []) hx hb hml hown hts hG hw (c_M_isOrder l D ct L f ov) rfl ⟨Nat.le_of_ble_eq_true rfl, Nat.le_of_ble_eq_true rfl⟩ hl.1 rfl (Nat.le_of_ble_eq_true rfl) dX3_clear_1 ⟨Nat.le_of_ble_eq_true rfl, Nat.le_of_ble_eq_true rfl⟩ (fun v L' f' H1 locs1 hp hw hcf => ?_)
    obtain ⟨hv, eL, ef⟩ := hp
    rw [eL, ef] at hw
    have hv : v = some (.int 0) := hv.elim (fun q => absurd q.1 ho) (fun q => q.2)
    subst hv
    refine lv_if_ne (tgt := 9) hx hb dX3_clear_4 (by decide) (fun h => absurd rfl h) (fun _ => ?_)
    refine lv_iconst (v := (-1)) hx hb dX3_clear_7 (by decide) ?_
    exact jx_iret hx hb hrt hlk hw (Nat.le_of_ble_eq_true rfl) (Nat.le_of_ble_eq_true rfl) dX3_clear_8 ⟨by rw [sp_clr, if_neg ho], by rw [sp_clr, if_neg ho]; exact hM⟩
set_option maxHeartbeats 4000000 in
set_option maxRecDepth 100000 in
theorem c_M_size (l : Launch) (D : va_G) (ct : Nat → ClassId) {N : Nat} {y : Nat} {L : List Nat} {f : Nat → va_E} {As : jq_S} (hM : jM N ct y L f As) (hN : N < 1000) {ov : Int32} :
    jz_M l D ct yX3_size cX3_size 2 (some .int) ({ frames := 1, cells := 0, slots := 0, locals := 20 } : Room) [.ref y, .int ov] L f (fun v L' f' => v = some (.int (sp_size As ov)) ∧ jM N ct y L' f' As) := by
  by_cases ho : jq_o ov
  · obtain ⟨i, hi, ei, hcl0⟩ := jq_oN ho
    subst ei
    obtain ⟨rw, sc, th, sz, ro, ss, tt, zz, hS, hAll⟩ := id hM
    have hRi := hAll i hi
    obtain ⟨hwf, hlN, hzz, hro, hss, htt⟩ := id hRi
    refine jx_enter (by decide) (Nat.le_of_ble_eq_true rfl) ?_
    intro p e s m below meth c C hw ls hl
    obtain ⟨hx, hb, hrt, hlk, hnm, hml, hown, hts, hG⟩ := C
    have hl : lv_has ls 2 [(0, .ref y), (1, .int (nI i))] := hl
    refine lv_iload_n hx hb dX3_size_0 rfl (lv_at hl 1 rfl) ?_
    refine cl_M_25 (As := [.int (nI i)]) (rest := []) hx hb hml hown hts hG hw (c_M_isOrder l D ct L f (nI i)) rfl ⟨Nat.le_of_ble_eq_true rfl, Nat.le_of_ble_eq_true rfl⟩ hl.1 rfl (Nat.le_of_ble_eq_true rfl) dX3_size_1 ⟨Nat.le_of_ble_eq_true rfl, Nat.le_of_ble_eq_true rfl⟩ (fun v L' f' H1 locs1 hp hw hcf => ?_)
    obtain ⟨hv, eL, ef⟩ := hp
    rw [eL, ef] at hw
    have hv : v = some (.int 1) := hv.elim (fun q => q.2) (fun q => absurd ho q.1)
    subst hv
    refine lv_if_eq (tgt := 16) hx hb dX3_size_4 (by decide) (fun h => absurd h (by decide)) (fun _ => ?_)
    refine lv_aload_n hx hb dX3_size_7 rfl (lv_at hl 0 rfl) ?_
    refine gf_M_21 hx hb hown hts hG hw hS.1.1 hS.2.1 dX3_size_8 ?_
    refine lv_iload_n hx hb dX3_size_11 rfl (lv_at hl 1 rfl) ?_
    refine jx_ialdI hx hb hG hw hS.1.2.2.2.2.1 0 hS.2.2.2.2.2 rfl hi (by decide) dX3_size_12 ?_
    rw [hzz]
    refine lv_goto (tgt := 17) hx hb dX3_size_13 (by decide) ?_
    exact jx_iret hx hb hrt hlk hw (Nat.le_of_ble_eq_true rfl) (Nat.le_of_ble_eq_true rfl) dX3_size_17 ⟨by rw [sp_size, if_pos (jq_oI hi).1, (jq_oI hi).2], hM⟩
  · refine jx_enter (by decide) (Nat.le_of_ble_eq_true rfl) ?_
    intro p e s m below meth c C hw ls hl
    obtain ⟨hx, hb, hrt, hlk, hnm, hml, hown, hts, hG⟩ := C
    have hl : lv_has ls 2 [(0, .ref y), (1, .int ov)] := hl
    refine lv_iload_n hx hb dX3_size_0 rfl (lv_at hl 1 rfl) ?_
    refine cl_M_25 (As := [.int ov]) (rest := []) hx hb hml hown hts hG hw (c_M_isOrder l D ct L f ov) rfl ⟨Nat.le_of_ble_eq_true rfl, Nat.le_of_ble_eq_true rfl⟩ hl.1 rfl (Nat.le_of_ble_eq_true rfl) dX3_size_1 ⟨Nat.le_of_ble_eq_true rfl, Nat.le_of_ble_eq_true rfl⟩ (fun v L' f' H1 locs1 hp hw hcf => ?_)
    obtain ⟨hv, eL, ef⟩ := hp
    rw [eL, ef] at hw
    have hv : v = some (.int 0) := hv.elim (fun q => absurd q.1 ho) (fun q => q.2)
    subst hv
    refine lv_if_eq (tgt := 16) hx hb dX3_size_4 (by decide) (fun _ => ?_) (fun h => absurd rfl h)
    refine lv_iconst (v := (-1)) hx hb dX3_size_16 (by decide) ?_
    exact jx_iret hx hb hrt hlk hw (Nat.le_of_ble_eq_true rfl) (Nat.le_of_ble_eq_true rfl) dX3_size_17 ⟨by rw [sp_size, if_neg ho], hM⟩
set_option maxHeartbeats 4000000 in
set_option maxRecDepth 100000 in
theorem c_M_score (l : Launch) (D : va_G) (ct : Nat → ClassId) {N : Nat} {y : Nat} {L : List Nat} {f : Nat → va_E} {As : jq_S} (hM : jM N ct y L f As) (hN : N < 1000) {ov mv : Int32} :
    jz_M l D ct yX3_score cX3_score 3 (some .long) ({ frames := 2, cells := 0, slots := 0, locals := 41 } : Room) [.ref y, .int ov, .int mv] L f (fun v L' f' => v = some (.long (sp_score As ov mv)) ∧ jM N ct y L' f' As) := by
  by_cases hgood : jq_o ov ∧ jq_m mv
  · obtain ⟨i, hi, ei, hcl0⟩ := jq_oN hgood.1
    subst ei
    obtain ⟨j, hj, ej, hcl1⟩ := jq_mN hgood.2
    subst ej
    obtain ⟨rw, sc, th, sz, ro, ss, tt, zz, hS, hAll⟩ := id hM
    have hRi := hAll i hi
    obtain ⟨hwf, hlN, hzz, hro, hss, htt⟩ := id hRi
    refine jx_enter (by decide) (Nat.le_of_ble_eq_true rfl) ?_
    intro p e s m below meth c C hw ls hl
    obtain ⟨hx, hb, hrt, hlk, hnm, hml, hown, hts, hG⟩ := C
    have hl : lv_has ls 3 [(0, .ref y), (1, .int (nI i)), (2, .int (nI j))] := hl
    refine lv_iload_n hx hb dX3_score_0 rfl (lv_at hl 1 rfl) ?_
    refine lv_iload_n hx hb dX3_score_1 rfl (lv_at hl 2 rfl) ?_
    refine cl_M_37 (As := [.int (nI i), .int (nI j)]) (rest := []) hx hb hml hown hts hG hw (c_M_isGood l D ct L f (nI i) (nI j)) rfl ⟨Nat.le_of_ble_eq_true rfl, Nat.le_of_ble_eq_true rfl⟩ hl.1 rfl (Nat.le_of_ble_eq_true rfl) dX3_score_2 ⟨Nat.le_of_ble_eq_true rfl, Nat.le_of_ble_eq_true rfl⟩ (fun v L' f' H1 locs1 hp hw hcf => ?_)
    obtain ⟨hv, eL, ef⟩ := hp
    rw [eL, ef] at hw
    have hv : v = some (.int 1) := hv.elim (fun q => q.2) (fun q => absurd hgood q.1)
    subst hv
    refine lv_if_ne (tgt := 12) hx hb dX3_score_5 (by decide) (fun _ => ?_) (fun h => absurd h (by decide))
    have esp : sp_score As (nI i) (nI j) = (jq_get (As i) j).getD 0 := by rw [sp_score, if_pos ⟨(jq_oI hi).1, (jq_mI hj).1⟩, (jq_oI hi).2, (jq_mI hj).2]
    refine lv_aload_n hx hb dX3_score_12 rfl (lv_at hl 0 rfl) ?_
    refine gf_M_17 hx hb hown hts hG hw hS.1.1 hS.2.1 dX3_score_13 ?_
    refine lv_sipush (v := nI 1000) hx hb dX3_score_16 (by decide) ?_
    refine lv_iload_n hx hb dX3_score_19 rfl (lv_at hl 1 rfl) ?_
    refine lv_imul hx hb dX3_score_20 ?_
    rw [pk_mul]
    refine lv_iload_n hx hb dX3_score_21 rfl (lv_at hl 2 rfl) ?_
    refine lv_iadd hx hb dX3_score_22 ?_
    rw [nI_add]
    refine jx_zaldI hx hb hG hw hS.1.2.2.2.1 5 hS.2.2.2.2.1 rfl (by omega) (by decide) dX3_score_23 ?_
    rcases htt j hj with ⟨et, s1, hget⟩ | ⟨et, hget⟩
    · rw [et]
      refine lv_if_eq (tgt := 42) hx hb dX3_score_24 (by decide) (fun h => absurd h (by decide)) (fun _ => ?_)
      refine lv_aload_n hx hb dX3_score_27 rfl (lv_at hl 0 rfl) ?_
      refine gf_M_13 hx hb hown hts hG hw hS.1.1 hS.2.1 dX3_score_28 ?_
      refine lv_sipush (v := nI 1000) hx hb dX3_score_31 (by decide) ?_
      refine lv_iload_n hx hb dX3_score_34 rfl (lv_at hl 1 rfl) ?_
      refine lv_imul hx hb dX3_score_35 ?_
      rw [pk_mul]
      refine lv_iload_n hx hb dX3_score_36 rfl (lv_at hl 2 rfl) ?_
      refine lv_iadd hx hb dX3_score_37 ?_
      rw [nI_add]
      refine jx_laldI hx hb hG hw hS.1.2.2.1 4 hS.2.2.2.1 rfl (by omega) (by decide) dX3_score_38 ?_
      refine lv_goto (tgt := 43) hx hb dX3_score_39 (by decide) ?_
      exact jx_lret hx hb hrt hlk hw (Nat.le_of_ble_eq_true rfl) (Nat.le_of_ble_eq_true rfl) dX3_score_43 ⟨by rw [esp, hget, hss (j, s1) (jq_get_mem hget)]; rfl, hM⟩
    · rw [et]
      refine lv_if_eq (tgt := 42) hx hb dX3_score_24 (by decide) (fun _ => ?_) (fun h => absurd rfl h)
      refine lv_lconst (v := 0) hx hb dX3_score_42 (by decide) ?_
      exact jx_lret hx hb hrt hlk hw (Nat.le_of_ble_eq_true rfl) (Nat.le_of_ble_eq_true rfl) dX3_score_43 ⟨by rw [esp, hget]; rfl, hM⟩
  · refine jx_enter (by decide) (Nat.le_of_ble_eq_true rfl) ?_
    intro p e s m below meth c C hw ls hl
    obtain ⟨hx, hb, hrt, hlk, hnm, hml, hown, hts, hG⟩ := C
    have hl : lv_has ls 3 [(0, .ref y), (1, .int ov), (2, .int mv)] := hl
    refine lv_iload_n hx hb dX3_score_0 rfl (lv_at hl 1 rfl) ?_
    refine lv_iload_n hx hb dX3_score_1 rfl (lv_at hl 2 rfl) ?_
    refine cl_M_37 (As := [.int ov, .int mv]) (rest := []) hx hb hml hown hts hG hw (c_M_isGood l D ct L f ov mv) rfl ⟨Nat.le_of_ble_eq_true rfl, Nat.le_of_ble_eq_true rfl⟩ hl.1 rfl (Nat.le_of_ble_eq_true rfl) dX3_score_2 ⟨Nat.le_of_ble_eq_true rfl, Nat.le_of_ble_eq_true rfl⟩ (fun v L' f' H1 locs1 hp hw hcf => ?_)
    obtain ⟨hv, eL, ef⟩ := hp
    rw [eL, ef] at hw
    have hv : v = some (.int 0) := hv.elim (fun q => absurd q.1 hgood) (fun q => q.2)
    subst hv
    refine lv_if_ne (tgt := 12) hx hb dX3_score_5 (by decide) (fun h => absurd rfl h) (fun _ => ?_)
    refine lv_ldc2 (own := RX3) (v := -1) hx hb hown (hts (.constantLong RX3 49 (-1)) (by decide +kernel)) dX3_score_8 ?_
    exact jx_lret hx hb hrt hlk hw (Nat.le_of_ble_eq_true rfl) (Nat.le_of_ble_eq_true rfl) dX3_score_11 ⟨by rw [sp_score, if_neg hgood], hM⟩
section MRK
variable {p : Program} {l : Launch} {e : Env} {R : Room} {s : State} {m : MethodId} {args : Array Value} {below : List Frame} {meth : Method} {c : Code} {H : Heap} {locs : List Loc} {cells slots : Nat} {Q : State → Prop} {D : va_G} {ct : Nat → ClassId} {A : Nat → Prop} {H0 : Heap} {L : List Nat}
variable {y rw sc th sz : Nat} {f : Nat → va_E} {ro tt zz : Nat → Int32} {ss : Nat → Int64} {N i : Nat} {As : List (Nat × Int64)}
set_option maxHeartbeats 4000000 in
set_option maxRecDepth 100000 in
theorem lp_rank (hx : p.tables.exec = Jvm.exec) (hb : c.code = cX3_rank) (hml : c.maxLocals = 4) (hown : s.vm.findClass RX3 = some m.cls) (hts : ∀ w ∈ jz_TT, w.before args s = true) (hG : jz_G D ct s) (hS : jm_S ct y rw sc th sz L f ro ss tt zz) (hw : jz_w D A H0 L f H locs) (hi : i < 4) (hR0 : jm_R N i As ro ss tt zz) (hN : N < 1000) {A1 A2 : List (Nat × Int64)} {j : Nat} {s0 : Int64} (eA : As = A1 ++ (j, s0) :: A2)
    (kk : ∀ (ls : Array Slot), lv_has ls 4 [(3, .int (nI A1.length))] → W p l e R s m args below meth c H locs cells slots Q (F0 m 49 ls [])) :
    ∀ (d t : Nat) (ls : Array Slot), A1.length - t < d → t ≤ A1.length → lv_has ls 4 [(0, .ref y), (1, .int (nI i)), (2, .int (nI j)), (3, .int (nI t))] → W p l e R s m args below meth c H locs cells slots Q (F0 m 27 ls []) := by
  obtain ⟨hwf, hlN, hzz, hro, hss, htt⟩ := id hR0
  have hlen : As.length = A1.length + A2.length + 1 := by rw [eA]; simp; omega
  intro d
  induction d with
  | zero => intro t ls ht; exact absurd ht (Nat.not_lt_zero _)
  | succ d ih =>
    intro t ls ht htA hl
    have h4 : t < As.length := by omega
    obtain ⟨x, hxt⟩ : ∃ x, As[t]? = some x := ⟨_, List.getElem?_eq_getElem h4⟩
    have hxA : x ∈ As := List.mem_of_getElem? hxt
    have hx1 := hwf.2.2 x hxA
    have hj : j < 1000 := hwf.2.2 (j, s0) (by rw [eA]; simp)
    have hiff : x.1 = j ↔ t = A1.length := by
      constructor
      · intro q
        rcases Nat.lt_or_ge t A1.length with z | z
        · have hn := hwf.2.1
          rw [eA, List.map_append, List.map_cons] at hn
          rw [eA, List.getElem?_append_left z] at hxt
          exact absurd q ((List.nodup_append.mp hn).2.2 x.1 (List.mem_map.mpr ⟨x, List.mem_of_getElem? hxt, rfl⟩) j List.mem_cons_self)
        · omega
      · intro q
        rw [eA, q, List.getElem?_append_right (Nat.le_refl _), Nat.sub_self] at hxt
        cases hxt
        rfl
    refine lv_aload_n hx hb dX3_rank_27 rfl (lv_at hl 0 rfl) ?_
    refine gf_M_7 hx hb hown hts hG hw hS.1.1 hS.2.1 dX3_rank_28 ?_
    refine lv_sipush (v := nI 1000) hx hb dX3_rank_31 (by decide) ?_
    refine lv_iload_n hx hb dX3_rank_34 rfl (lv_at hl 1 rfl) ?_
    refine lv_imul hx hb dX3_rank_35 ?_
    rw [pk_mul]
    refine lv_iload_n hx hb dX3_rank_36 rfl (lv_at hl 3 rfl) ?_
    refine lv_iadd hx hb dX3_rank_37 ?_
    rw [nI_add]
    refine jx_saldI hx hb hG hw hS.1.2.1 3 hS.2.2.1 rfl (by omega) (by decide) dX3_rank_38 ?_
    rw [hro t x hxt]
    refine lv_iload_n hx hb dX3_rank_39 rfl (lv_at hl 2 rfl) ?_
    refine lv_icmp_eq (tgt := 49) hx hb dX3_rank_40 (by decide) (fun hc => ?_) (fun hc => ?_)
    · have ht0 : t = A1.length := hiff.mp ((nI_eq (by omega) (by omega)).mp hc)
      subst ht0
      exact kk ls (lv_sub hl [3] rfl)
    · have ht0 : t ≠ A1.length := fun q => hc (by rw [hiff.mpr q])
      refine lv_iinc (v := nI (t + 1)) (lv' := [(3, .int (nI (t + 1))), (0, .ref y), (1, .int (nI i)), (2, .int (nI j))]) hx hb dX3_rank_43 hl (k := 3) rfl (nI_succ t).symm (by decide) rfl (fun ls hl => ?_)
      refine lv_goto (tgt := 27) hx hb dX3_rank_46 (by decide) ?_
      exact ih (t + 1) ls (by omega) (by omega) (lv_sub hl [1, 2, 3, 0] rfl)
end MRK
set_option maxHeartbeats 4000000 in
set_option maxRecDepth 100000 in
theorem c_M_rank (l : Launch) (D : va_G) (ct : Nat → ClassId) {N : Nat} {y : Nat} {L : List Nat} {f : Nat → va_E} {As : jq_S} (hM : jM N ct y L f As) (hN : N < 1000) {ov mv : Int32} :
    jz_M l D ct yX3_rank cX3_rank 4 (some .int) ({ frames := 2, cells := 0, slots := 0, locals := 41 } : Room) [.ref y, .int ov, .int mv] L f (fun v L' f' => v = some (.int (sp_rank As ov mv)) ∧ jM N ct y L' f' As) := by
  by_cases hgood : jq_o ov ∧ jq_m mv
  · obtain ⟨i, hi, ei, hcl0⟩ := jq_oN hgood.1
    subst ei
    obtain ⟨j, hj, ej, hcl1⟩ := jq_mN hgood.2
    subst ej
    obtain ⟨rw, sc, th, sz, ro, ss, tt, zz, hS, hAll⟩ := id hM
    have hRi := hAll i hi
    obtain ⟨hwf, hlN, hzz, hro, hss, htt⟩ := id hRi
    refine jx_enter (by decide) (Nat.le_of_ble_eq_true rfl) ?_
    intro p e s m below meth c C hw ls hl
    obtain ⟨hx, hb, hrt, hlk, hnm, hml, hown, hts, hG⟩ := C
    have hl : lv_has ls 4 [(0, .ref y), (1, .int (nI i)), (2, .int (nI j))] := hl
    refine lv_iload_n hx hb dX3_rank_0 rfl (lv_at hl 1 rfl) ?_
    refine lv_iload_n hx hb dX3_rank_1 rfl (lv_at hl 2 rfl) ?_
    refine cl_M_37 (As := [.int (nI i), .int (nI j)]) (rest := []) hx hb hml hown hts hG hw (c_M_isGood l D ct L f (nI i) (nI j)) rfl ⟨Nat.le_of_ble_eq_true rfl, Nat.le_of_ble_eq_true rfl⟩ hl.1 rfl (Nat.le_of_ble_eq_true rfl) dX3_rank_2 ⟨Nat.le_of_ble_eq_true rfl, Nat.le_of_ble_eq_true rfl⟩ (fun v L' f' H1 locs1 hp hw hcf => ?_)
    obtain ⟨hv, eL, ef⟩ := hp
    rw [eL, ef] at hw
    have hv : v = some (.int 1) := hv.elim (fun q => q.2) (fun q => absurd hgood q.1)
    subst hv
    refine lv_if_eq (tgt := 23) hx hb dX3_rank_5 (by decide) (fun h => absurd h (by decide)) (fun _ => ?_)
    refine lv_aload_n hx hb dX3_rank_8 rfl (lv_at hl 0 rfl) ?_
    refine gf_M_17 hx hb hown hts hG hw hS.1.1 hS.2.1 dX3_rank_9 ?_
    refine lv_sipush (v := nI 1000) hx hb dX3_rank_12 (by decide) ?_
    refine lv_iload_n hx hb dX3_rank_15 rfl (lv_at hl 1 rfl) ?_
    refine lv_imul hx hb dX3_rank_16 ?_
    rw [pk_mul]
    refine lv_iload_n hx hb dX3_rank_17 rfl (lv_at hl 2 rfl) ?_
    refine lv_iadd hx hb dX3_rank_18 ?_
    rw [nI_add]
    refine jx_zaldI hx hb hG hw hS.1.2.2.2.1 5 hS.2.2.2.2.1 rfl (by omega) (by decide) dX3_rank_19 ?_
    rcases htt j hj with ⟨et, s1, hget⟩ | ⟨et, hget⟩
    · rw [et]
      refine lv_if_ne (tgt := 25) hx hb dX3_rank_20 (by decide) (fun _ => ?_) (fun h => absurd h (by decide))
      obtain ⟨A1, A2, eA⟩ := List.append_of_mem (jq_get_mem hget)
      have hne : ∀ x ∈ A1, x.1 ≠ j := fun x hx q => by
        have hn := hwf.2.1
        rw [eA, List.map_append, List.map_cons] at hn
        exact (List.nodup_append.mp hn).2.2 x.1 (List.mem_map.mpr ⟨x, hx, rfl⟩) j List.mem_cons_self q
      have esp : sp_rank As (nI i) (nI j) = nI A1.length := by rw [sp_rank, if_pos ⟨(jq_oI hi).1, (jq_mI hj).1⟩, (jq_oI hi).2, (jq_mI hj).2, hget, eA, jq_idx_of hne]
      refine lv_iconst (v := nI 0) hx hb dX3_rank_25 (by decide) ?_
      refine lv_istore_n (lv' := [(3, .int (nI 0)), (0, .ref y), (1, .int (nI i)), (2, .int (nI j))]) hx hb dX3_rank_26 rfl hl (by decide) rfl (fun ls hl => ?_)
      refine lp_rank hx hb hml hown hts hG hS hw hi hRi hN eA (fun ls hl => ?_) (A1.length + 1) 0 ls (by omega) (Nat.zero_le _) (lv_sub hl [1, 2, 3, 0] rfl)
      refine lv_iload_n hx hb dX3_rank_49 rfl (lv_at hl 0 rfl) ?_
      exact jx_iret hx hb hrt hlk hw (Nat.le_of_ble_eq_true rfl) (Nat.le_of_ble_eq_true rfl) dX3_rank_50 ⟨by rw [esp], hM⟩
    · rw [et]
      have esp : sp_rank As (nI i) (nI j) = -1 := by rw [sp_rank, if_pos ⟨(jq_oI hi).1, (jq_mI hj).1⟩, (jq_oI hi).2, (jq_mI hj).2, hget]
      refine lv_if_ne (tgt := 25) hx hb dX3_rank_20 (by decide) (fun h => absurd rfl h) (fun _ => ?_)
      refine lv_iconst (v := (-1)) hx hb dX3_rank_23 (by decide) ?_
      exact jx_iret hx hb hrt hlk hw (Nat.le_of_ble_eq_true rfl) (Nat.le_of_ble_eq_true rfl) dX3_rank_24 ⟨by rw [esp], hM⟩
  · refine jx_enter (by decide) (Nat.le_of_ble_eq_true rfl) ?_
    intro p e s m below meth c C hw ls hl
    obtain ⟨hx, hb, hrt, hlk, hnm, hml, hown, hts, hG⟩ := C
    have hl : lv_has ls 4 [(0, .ref y), (1, .int ov), (2, .int mv)] := hl
    refine lv_iload_n hx hb dX3_rank_0 rfl (lv_at hl 1 rfl) ?_
    refine lv_iload_n hx hb dX3_rank_1 rfl (lv_at hl 2 rfl) ?_
    refine cl_M_37 (As := [.int ov, .int mv]) (rest := []) hx hb hml hown hts hG hw (c_M_isGood l D ct L f ov mv) rfl ⟨Nat.le_of_ble_eq_true rfl, Nat.le_of_ble_eq_true rfl⟩ hl.1 rfl (Nat.le_of_ble_eq_true rfl) dX3_rank_2 ⟨Nat.le_of_ble_eq_true rfl, Nat.le_of_ble_eq_true rfl⟩ (fun v L' f' H1 locs1 hp hw hcf => ?_)
    obtain ⟨hv, eL, ef⟩ := hp
    rw [eL, ef] at hw
    have hv : v = some (.int 0) := hv.elim (fun q => absurd q.1 hgood) (fun q => q.2)
    subst hv
    refine lv_if_eq (tgt := 23) hx hb dX3_rank_5 (by decide) (fun _ => ?_) (fun h => absurd rfl h)
    refine lv_iconst (v := (-1)) hx hb dX3_rank_23 (by decide) ?_
    exact jx_iret hx hb hrt hlk hw (Nat.le_of_ble_eq_true rfl) (Nat.le_of_ble_eq_true rfl) dX3_rank_24 ⟨by rw [sp_rank, if_neg hgood], hM⟩
set_option maxHeartbeats 4000000 in
set_option maxRecDepth 100000 in
theorem c_M_at (l : Launch) (D : va_G) (ct : Nat → ClassId) {N : Nat} {y : Nat} {L : List Nat} {f : Nat → va_E} {As : jq_S} (hM : jM N ct y L f As) (hN : N < 1000) {ov rv : Int32} :
    jz_M l D ct yX3_at cX3_at 3 (some .int) ({ frames := 1, cells := 0, slots := 0, locals := 20 } : Room) [.ref y, .int ov, .int rv] L f (fun v L' f' => v = some (.int (sp_at As ov rv)) ∧ jM N ct y L' f' As) := by
  by_cases ho : jq_o ov
  · obtain ⟨i, hi, ei, hcl0⟩ := jq_oN ho
    subst ei
    obtain ⟨rw, sc, th, sz, ro, ss, tt, zz, hS, hAll⟩ := id hM
    have hRi := hAll i hi
    obtain ⟨hwf, hlN, hzz, hro, hss, htt⟩ := id hRi
    refine jx_enter (by decide) (Nat.le_of_ble_eq_true rfl) ?_
    intro p e s m below meth c C hw ls hl
    obtain ⟨hx, hb, hrt, hlk, hnm, hml, hown, hts, hG⟩ := C
    have hl : lv_has ls 3 [(0, .ref y), (1, .int (nI i)), (2, .int rv)] := hl
    refine lv_iload_n hx hb dX3_at_0 rfl (lv_at hl 1 rfl) ?_
    refine cl_M_25 (As := [.int (nI i)]) (rest := []) hx hb hml hown hts hG hw (c_M_isOrder l D ct L f (nI i)) rfl ⟨Nat.le_of_ble_eq_true rfl, Nat.le_of_ble_eq_true rfl⟩ hl.1 rfl (Nat.le_of_ble_eq_true rfl) dX3_at_1 ⟨Nat.le_of_ble_eq_true rfl, Nat.le_of_ble_eq_true rfl⟩ (fun v L' f' H1 locs1 hp hw hcf => ?_)
    obtain ⟨hv, eL, ef⟩ := hp
    rw [eL, ef] at hw
    have hv : v = some (.int 1) := hv.elim (fun q => q.2) (fun q => absurd ho q.1)
    subst hv
    refine lv_if_eq (tgt := 36) hx hb dX3_at_4 (by decide) (fun h => absurd h (by decide)) (fun _ => ?_)
    refine lv_iload_n hx hb dX3_at_7 rfl (lv_at hl 2 rfl) ?_
    refine lv_if_lt (tgt := 36) hx hb dX3_at_8 (by decide) (fun h1 => ?_) (fun h1 => ?_)
    · refine lv_iconst (v := (-1)) hx hb dX3_at_36 (by decide) ?_
      exact jx_iret hx hb hrt hlk hw (Nat.le_of_ble_eq_true rfl) (Nat.le_of_ble_eq_true rfl) dX3_at_37 ⟨by rw [sp_at, if_neg (fun q => absurd h1 (Int32.not_lt.mpr q.2.1))], hM⟩
    · refine lv_iload_n hx hb dX3_at_11 rfl (lv_at hl 2 rfl) ?_
      refine lv_aload_n hx hb dX3_at_12 rfl (lv_at hl 0 rfl) ?_
      refine gf_M_21 hx hb hown hts hG hw hS.1.1 hS.2.1 dX3_at_13 ?_
      refine lv_iload_n hx hb dX3_at_16 rfl (lv_at hl 1 rfl) ?_
      refine jx_ialdI hx hb hG hw hS.1.2.2.2.2.1 0 hS.2.2.2.2.2 rfl hi (by decide) dX3_at_17 ?_
      rw [hzz]
      refine lv_icmp_ge (tgt := 36) hx hb dX3_at_18 (by decide) (fun h2 => ?_) (fun h2 => ?_)
      · refine lv_iconst (v := (-1)) hx hb dX3_at_36 (by decide) ?_
        exact jx_iret hx hb hrt hlk hw (Nat.le_of_ble_eq_true rfl) (Nat.le_of_ble_eq_true rfl) dX3_at_37 ⟨by rw [sp_at, if_neg (fun q => absurd q.2.2 (by rw [(jq_oI hi).2]; exact Int32.not_lt.mpr h2))], hM⟩
      · obtain ⟨t, ht31, rfl⟩ := nI_of h1
        have htl : t < (As i).length := by
          rcases Nat.lt_or_ge t (As i).length with z | z
          · exact z
          · exact absurd (nI_le z ht31) h2
        obtain ⟨x, hxt⟩ : ∃ x, (As i)[t]? = some x := ⟨_, List.getElem?_eq_getElem htl⟩
        have esp : sp_at As (nI i) (nI t) = nI x.1 := by rw [sp_at, if_pos ⟨(jq_oI hi).1, nI_pos' ht31, by rw [(jq_oI hi).2]; exact nI_lt htl (by omega)⟩, (jq_oI hi).2, nI_clamp ht31, hxt]
        refine lv_aload_n hx hb dX3_at_21 rfl (lv_at hl 0 rfl) ?_
        refine gf_M_7 hx hb hown hts hG hw hS.1.1 hS.2.1 dX3_at_22 ?_
        refine lv_sipush (v := nI 1000) hx hb dX3_at_25 (by decide) ?_
        refine lv_iload_n hx hb dX3_at_28 rfl (lv_at hl 1 rfl) ?_
        refine lv_imul hx hb dX3_at_29 ?_
        rw [pk_mul]
        refine lv_iload_n hx hb dX3_at_30 rfl (lv_at hl 2 rfl) ?_
        refine lv_iadd hx hb dX3_at_31 ?_
        rw [nI_add]
        refine jx_saldI hx hb hG hw hS.1.2.1 3 hS.2.2.1 rfl (by omega) (by decide) dX3_at_32 ?_
        refine lv_goto (tgt := 37) hx hb dX3_at_33 (by decide) ?_
        exact jx_iret hx hb hrt hlk hw (Nat.le_of_ble_eq_true rfl) (Nat.le_of_ble_eq_true rfl) dX3_at_37 ⟨by rw [esp, hro t x hxt], hM⟩
  · refine jx_enter (by decide) (Nat.le_of_ble_eq_true rfl) ?_
    intro p e s m below meth c C hw ls hl
    obtain ⟨hx, hb, hrt, hlk, hnm, hml, hown, hts, hG⟩ := C
    have hl : lv_has ls 3 [(0, .ref y), (1, .int ov), (2, .int rv)] := hl
    refine lv_iload_n hx hb dX3_at_0 rfl (lv_at hl 1 rfl) ?_
    refine cl_M_25 (As := [.int ov]) (rest := []) hx hb hml hown hts hG hw (c_M_isOrder l D ct L f ov) rfl ⟨Nat.le_of_ble_eq_true rfl, Nat.le_of_ble_eq_true rfl⟩ hl.1 rfl (Nat.le_of_ble_eq_true rfl) dX3_at_1 ⟨Nat.le_of_ble_eq_true rfl, Nat.le_of_ble_eq_true rfl⟩ (fun v L' f' H1 locs1 hp hw hcf => ?_)
    obtain ⟨hv, eL, ef⟩ := hp
    rw [eL, ef] at hw
    have hv : v = some (.int 0) := hv.elim (fun q => absurd q.1 ho) (fun q => q.2)
    subst hv
    refine lv_if_eq (tgt := 36) hx hb dX3_at_4 (by decide) (fun _ => ?_) (fun h => absurd rfl h)
    refine lv_iconst (v := (-1)) hx hb dX3_at_36 (by decide) ?_
    exact jx_iret hx hb hrt hlk hw (Nat.le_of_ble_eq_true rfl) (Nat.le_of_ble_eq_true rfl) dX3_at_37 ⟨by rw [sp_at, if_neg (fun q => ho q.1)], hM⟩
end
section
section MBL
variable {p : Program} {l : Launch} {e : Env} {R : Room} {s : State} {m : MethodId} {args : Array Value} {below : List Frame} {meth : Method} {c : Code} {H : Heap} {locs : List Loc} {cells slots : Nat} {Q : State → Prop} {D : va_G} {ct : Nat → ClassId} {A : Nat → Prop} {H0 : Heap} {L : List Nat}
variable {y rw sc th sz : Nat} {f : Nat → va_E} {ro tt zz : Nat → Int32} {ss : Nat → Int64} {N i : Nat} {As : List (Nat × Int64)}
set_option maxHeartbeats 4000000 in
set_option maxRecDepth 100000 in
theorem lp_below (hx : p.tables.exec = Jvm.exec) (hb : c.code = cX3_below) (hml : c.maxLocals = 9) (hown : s.vm.findClass RX3 = some m.cls) (hts : ∀ w ∈ jz_TT, w.before args s = true) (hG : jz_G D ct s) (hS : jm_S ct y rw sc th sz L f ro ss tt zz) (hw : jz_w D A H0 L f H locs) (hi : i < 4) (hR0 : jm_R N i As ro ss tt zz) (hN : N < 1000) {s0 : Int64} {too : Int32}
    (kk : ∀ (ls : Array Slot), lv_has ls 9 [(5, .int (nI (As.countP (jq_low s0 too))))] → W p l e R s m args below meth c H locs cells slots Q (F0 m 87 ls [])) :
    ∀ (d t : Nat) (ls : Array Slot), As.length - t < d → t ≤ As.length → lv_has ls 9 [(0, .ref y), (1, .int (nI i)), (2, .long s0), (4, .int too), (5, .int (nI ((As.take t).countP (jq_low s0 too)))), (6, .int (nI t))] → W p l e R s m args below meth c H locs cells slots Q (F0 m 15 ls []) := by
  obtain ⟨hwf, hlN, hzz, hro, hss, htt⟩ := id hR0
  intro d
  induction d with
  | zero => intro t ls ht; exact absurd ht (Nat.not_lt_zero _)
  | succ d ih =>
    intro t ls ht htA hl
    refine lv_iload hx hb dX3_below_15 (lv_at hl 5 rfl) ?_
    refine lv_aload_n hx hb dX3_below_17 rfl (lv_at hl 0 rfl) ?_
    refine gf_M_21 hx hb hown hts hG hw hS.1.1 hS.2.1 dX3_below_18 ?_
    refine lv_iload_n hx hb dX3_below_21 rfl (lv_at hl 1 rfl) ?_
    refine jx_ialdI hx hb hG hw hS.1.2.2.2.2.1 0 hS.2.2.2.2.2 rfl hi (by decide) dX3_below_22 ?_
    rw [hzz]
    refine lv_icmp_ge (tgt := 87) hx hb dX3_below_23 (by decide) (fun hc => ?_) (fun hc => ?_)
    · have h4 : t = As.length := by
        rcases Nat.lt_or_ge t As.length with q | q
        · exact absurd (nI_lt q (by omega)) (Int32.not_lt.mpr hc)
        · omega
      subst h4
      rw [List.take_length] at hl
      exact kk ls (lv_sub hl [4] rfl)
    · have h4 : t < As.length := by
        rcases Nat.lt_or_ge t As.length with q | q
        · exact q
        · exact absurd (nI_le q (by omega)) hc
      obtain ⟨x, hxt⟩ : ∃ x, As[t]? = some x := ⟨_, List.getElem?_eq_getElem h4⟩
      have hxA : x ∈ As := List.mem_of_getElem? hxt
      have hx1 := hwf.2.2 x hxA
      have htk : (As.take (t + 1)).countP (jq_low s0 too) = (As.take t).countP (jq_low s0 too) + (if jq_low s0 too x = true then 1 else 0) := by
        rw [List.take_add_one, List.countP_append, hxt]
        congr 1
        simp [List.countP_cons]
      refine lv_aload_n hx hb dX3_below_26 rfl (lv_at hl 0 rfl) ?_
      refine gf_M_13 hx hb hown hts hG hw hS.1.1 hS.2.1 dX3_below_27 ?_
      refine lv_sipush (v := nI 1000) hx hb dX3_below_30 (by decide) ?_
      refine lv_iload_n hx hb dX3_below_33 rfl (lv_at hl 1 rfl) ?_
      refine lv_imul hx hb dX3_below_34 ?_
      rw [pk_mul]
      refine lv_aload_n hx hb dX3_below_35 rfl (lv_at hl 0 rfl) ?_
      refine gf_M_7 hx hb hown hts hG hw hS.1.1 hS.2.1 dX3_below_36 ?_
      refine lv_sipush (v := nI 1000) hx hb dX3_below_39 (by decide) ?_
      refine lv_iload_n hx hb dX3_below_42 rfl (lv_at hl 1 rfl) ?_
      refine lv_imul hx hb dX3_below_43 ?_
      rw [pk_mul]
      refine lv_iload hx hb dX3_below_44 (lv_at hl 5 rfl) ?_
      refine lv_iadd hx hb dX3_below_46 ?_
      rw [nI_add]
      refine jx_saldI hx hb hG hw hS.1.2.1 3 hS.2.2.1 rfl (by omega) (by decide) dX3_below_47 ?_
      rw [hro t x hxt]
      refine lv_iadd hx hb dX3_below_48 ?_
      rw [nI_add]
      refine jx_laldI hx hb hG hw hS.1.2.2.1 4 hS.2.2.2.1 rfl (by omega) (by decide) dX3_below_49 ?_
      rw [hss x hxA]
      refine lv_lstore (lv' := [(7, .long x.2), (0, .ref y), (1, .int (nI i)), (2, .long s0), (4, .int too), (5, .int (nI ((As.take t).countP (jq_low s0 too)))), (6, .int (nI t))]) hx hb dX3_below_50 hl (by decide) rfl (fun ls hl => ?_)
      refine lv_iload hx hb dX3_below_52 (lv_at hl 5 rfl) ?_
      refine lv_lload hx hb dX3_below_54 (lv_at hl 0 rfl) ?_
      refine lv_lload_n hx hb dX3_below_56 rfl (lv_at hl 3 rfl) ?_
      refine W.lcmp hx hb dX3_below_57 ?_
      refine lv_if_lt (tgt := 73) hx hb dX3_below_58 (by decide) (fun h1x => ?_) (fun h1x => ?_)
      · have h1 := (lg_cmp_lt _ _).mp h1x
        have hbit : jq_low s0 too x = true := by simp [jq_low, h1]
        rw [hbit, if_pos rfl] at htk
        refine lv_iconst (v := nI 1) hx hb dX3_below_73 (by decide) ?_
        refine lv_goto (tgt := 78) hx hb dX3_below_74 (by decide) ?_
        refine lv_iadd hx hb dX3_below_78 ?_
        rw [nI_add, ← htk]
        refine lv_istore (lv' := [(5, .int (nI ((As.take (t + 1)).countP (jq_low s0 too)))), (7, .long x.2), (0, .ref y), (1, .int (nI i)), (2, .long s0), (4, .int too), (6, .int (nI t))]) hx hb dX3_below_79 hl (by decide) rfl (fun ls hl => ?_)
        refine lv_iinc (v := nI (t + 1)) (lv' := [(6, .int (nI (t + 1))), (5, .int (nI ((As.take (t + 1)).countP (jq_low s0 too)))), (7, .long x.2), (0, .ref y), (1, .int (nI i)), (2, .long s0), (4, .int too)]) hx hb dX3_below_81 hl (k := 6) rfl (nI_succ t).symm (by decide) rfl (fun ls hl => ?_)
        refine lv_goto (tgt := 15) hx hb dX3_below_84 (by decide) ?_
        exact ih (t + 1) ls (by omega) (by omega) (lv_sub hl [3, 4, 5, 6, 1, 0] rfl)
      · have h1 : ¬ x.2 < s0 := fun q => h1x ((lg_cmp_lt _ _).mpr q)
        refine lv_iload hx hb dX3_below_61 (lv_at hl 4 rfl) ?_
        refine lv_if_eq (tgt := 77) hx hb dX3_below_63 (by decide) (fun h2 => ?_) (fun h2 => ?_)
        · have hbit : jq_low s0 too x = false := by simp [jq_low, h1, h2]
          rw [hbit, if_neg (by decide)] at htk
          refine lv_iconst (v := nI 0) hx hb dX3_below_77 (by decide) ?_
          refine lv_iadd hx hb dX3_below_78 ?_
          rw [nI_add, ← htk]
          refine lv_istore (lv' := [(5, .int (nI ((As.take (t + 1)).countP (jq_low s0 too)))), (7, .long x.2), (0, .ref y), (1, .int (nI i)), (2, .long s0), (4, .int too), (6, .int (nI t))]) hx hb dX3_below_79 hl (by decide) rfl (fun ls hl => ?_)
          refine lv_iinc (v := nI (t + 1)) (lv' := [(6, .int (nI (t + 1))), (5, .int (nI ((As.take (t + 1)).countP (jq_low s0 too)))), (7, .long x.2), (0, .ref y), (1, .int (nI i)), (2, .long s0), (4, .int too)]) hx hb dX3_below_81 hl (k := 6) rfl (nI_succ t).symm (by decide) rfl (fun ls hl => ?_)
          refine lv_goto (tgt := 15) hx hb dX3_below_84 (by decide) ?_
          exact ih (t + 1) ls (by omega) (by omega) (lv_sub hl [3, 4, 5, 6, 1, 0] rfl)
        · refine lv_lload hx hb dX3_below_66 (lv_at hl 0 rfl) ?_
          refine lv_lload_n hx hb dX3_below_68 rfl (lv_at hl 3 rfl) ?_
          refine W.lcmp hx hb dX3_below_69 ?_
          refine lv_if_ne (tgt := 77) hx hb dX3_below_70 (by decide) (fun h3x => ?_) (fun h3x => ?_)
          · have h3 : ¬ x.2 = s0 := fun q => h3x ((lg_cmp_eq _ _).mpr q)
            have hbit : jq_low s0 too x = false := by simp [jq_low, h1, h3]
            rw [hbit, if_neg (by decide)] at htk
            refine lv_iconst (v := nI 0) hx hb dX3_below_77 (by decide) ?_
            refine lv_iadd hx hb dX3_below_78 ?_
            rw [nI_add, ← htk]
            refine lv_istore (lv' := [(5, .int (nI ((As.take (t + 1)).countP (jq_low s0 too)))), (7, .long x.2), (0, .ref y), (1, .int (nI i)), (2, .long s0), (4, .int too), (6, .int (nI t))]) hx hb dX3_below_79 hl (by decide) rfl (fun ls hl => ?_)
            refine lv_iinc (v := nI (t + 1)) (lv' := [(6, .int (nI (t + 1))), (5, .int (nI ((As.take (t + 1)).countP (jq_low s0 too)))), (7, .long x.2), (0, .ref y), (1, .int (nI i)), (2, .long s0), (4, .int too)]) hx hb dX3_below_81 hl (k := 6) rfl (nI_succ t).symm (by decide) rfl (fun ls hl => ?_)
            refine lv_goto (tgt := 15) hx hb dX3_below_84 (by decide) ?_
            exact ih (t + 1) ls (by omega) (by omega) (lv_sub hl [3, 4, 5, 6, 1, 0] rfl)
          · have h3 := (lg_cmp_eq _ _).mp h3x
            have hbit : jq_low s0 too x = true := by simp [jq_low, h2, h3]
            rw [hbit, if_pos rfl] at htk
            refine lv_iconst (v := nI 1) hx hb dX3_below_73 (by decide) ?_
            refine lv_goto (tgt := 78) hx hb dX3_below_74 (by decide) ?_
            refine lv_iadd hx hb dX3_below_78 ?_
            rw [nI_add, ← htk]
            refine lv_istore (lv' := [(5, .int (nI ((As.take (t + 1)).countP (jq_low s0 too)))), (7, .long x.2), (0, .ref y), (1, .int (nI i)), (2, .long s0), (4, .int too), (6, .int (nI t))]) hx hb dX3_below_79 hl (by decide) rfl (fun ls hl => ?_)
            refine lv_iinc (v := nI (t + 1)) (lv' := [(6, .int (nI (t + 1))), (5, .int (nI ((As.take (t + 1)).countP (jq_low s0 too)))), (7, .long x.2), (0, .ref y), (1, .int (nI i)), (2, .long s0), (4, .int too)]) hx hb dX3_below_81 hl (k := 6) rfl (nI_succ t).symm (by decide) rfl (fun ls hl => ?_)
            refine lv_goto (tgt := 15) hx hb dX3_below_84 (by decide) ?_
            exact ih (t + 1) ls (by omega) (by omega) (lv_sub hl [3, 4, 5, 6, 1, 0] rfl)
end MBL
set_option maxHeartbeats 4000000 in
set_option maxRecDepth 100000 in
theorem c_M_below (l : Launch) (D : va_G) (ct : Nat → ClassId) {N : Nat} {y : Nat} {L : List Nat} {f : Nat → va_E} {As : jq_S} (hM : jM N ct y L f As) (hN : N < 1000) {ov too : Int32} {s0 : Int64} :
    jz_M l D ct yX3_below cX3_below 9 (some .int) ({ frames := 1, cells := 0, slots := 0, locals := 20 } : Room) [.ref y, .int ov, .long s0, .int too] L f (fun v L' f' => v = some (.int (sp_below As ov s0 too)) ∧ jM N ct y L' f' As) := by
  by_cases ho : jq_o ov
  · obtain ⟨i, hi, ei, hcl0⟩ := jq_oN ho
    subst ei
    obtain ⟨rw, sc, th, sz, ro, ss, tt, zz, hS, hAll⟩ := id hM
    have hRi := hAll i hi
    obtain ⟨hwf, hlN, hzz, hro, hss, htt⟩ := id hRi
    refine jx_enter (by decide) (Nat.le_of_ble_eq_true rfl) ?_
    intro p e s m below meth c C hw ls hl
    obtain ⟨hx, hb, hrt, hlk, hnm, hml, hown, hts, hG⟩ := C
    have hl : lv_has ls 9 [(0, .ref y), (1, .int (nI i)), (2, .long s0), (4, .int too)] := hl
    refine lv_iload_n hx hb dX3_below_0 rfl (lv_at hl 1 rfl) ?_
    refine cl_M_25 (As := [.int (nI i)]) (rest := []) hx hb hml hown hts hG hw (c_M_isOrder l D ct L f (nI i)) rfl ⟨Nat.le_of_ble_eq_true rfl, Nat.le_of_ble_eq_true rfl⟩ hl.1 rfl (Nat.le_of_ble_eq_true rfl) dX3_below_1 ⟨Nat.le_of_ble_eq_true rfl, Nat.le_of_ble_eq_true rfl⟩ (fun v L' f' H1 locs1 hp hw hcf => ?_)
    obtain ⟨hv, eL, ef⟩ := hp
    rw [eL, ef] at hw
    have hv : v = some (.int 1) := hv.elim (fun q => q.2) (fun q => absurd ho q.1)
    subst hv
    refine lv_if_ne (tgt := 9) hx hb dX3_below_4 (by decide) (fun _ => ?_) (fun h => absurd h (by decide))
    refine lv_iconst (v := nI 0) hx hb dX3_below_9 (by decide) ?_
    refine lv_istore (lv' := [(5, .int (nI 0)), (0, .ref y), (1, .int (nI i)), (2, .long s0), (4, .int too)]) hx hb dX3_below_10 hl (by decide) rfl (fun ls hl => ?_)
    refine lv_iconst (v := nI 0) hx hb dX3_below_12 (by decide) ?_
    refine lv_istore (lv' := [(6, .int (nI 0)), (5, .int (nI 0)), (0, .ref y), (1, .int (nI i)), (2, .long s0), (4, .int too)]) hx hb dX3_below_13 hl (by decide) rfl (fun ls hl => ?_)
    have esp : sp_below As (nI i) s0 too = nI ((As i).countP (jq_low s0 too)) := by rw [sp_below, if_pos (jq_oI hi).1, (jq_oI hi).2]
    refine lp_below hx hb hml hown hts hG hS hw hi hRi hN (fun ls hl => ?_) ((As i).length + 1) 0 ls (by omega) (Nat.zero_le _) (lv_sub hl [2, 3, 4, 5, 1, 0] rfl)
    refine lv_iload hx hb dX3_below_87 (lv_at hl 0 rfl) ?_
    exact jx_iret hx hb hrt hlk hw (Nat.le_of_ble_eq_true rfl) (Nat.le_of_ble_eq_true rfl) dX3_below_89 ⟨by rw [esp], hM⟩
  · refine jx_enter (by decide) (Nat.le_of_ble_eq_true rfl) ?_
    intro p e s m below meth c C hw ls hl
    obtain ⟨hx, hb, hrt, hlk, hnm, hml, hown, hts, hG⟩ := C
    have hl : lv_has ls 9 [(0, .ref y), (1, .int ov), (2, .long s0), (4, .int too)] := hl
    refine lv_iload_n hx hb dX3_below_0 rfl (lv_at hl 1 rfl) ?_
    refine cl_M_25 (As := [.int ov]) (rest := []) hx hb hml hown hts hG hw (c_M_isOrder l D ct L f ov) rfl ⟨Nat.le_of_ble_eq_true rfl, Nat.le_of_ble_eq_true rfl⟩ hl.1 rfl (Nat.le_of_ble_eq_true rfl) dX3_below_1 ⟨Nat.le_of_ble_eq_true rfl, Nat.le_of_ble_eq_true rfl⟩ (fun v L' f' H1 locs1 hp hw hcf => ?_)
    obtain ⟨hv, eL, ef⟩ := hp
    rw [eL, ef] at hw
    have hv : v = some (.int 0) := hv.elim (fun q => absurd q.1 ho) (fun q => q.2)
    subst hv
    refine lv_if_ne (tgt := 9) hx hb dX3_below_4 (by decide) (fun h => absurd rfl h) (fun _ => ?_)
    refine lv_iconst (v := (-1)) hx hb dX3_below_7 (by decide) ?_
    exact jx_iret hx hb hrt hlk hw (Nat.le_of_ble_eq_true rfl) (Nat.le_of_ble_eq_true rfl) dX3_below_8 ⟨by rw [sp_below, if_neg ho], hM⟩
section MWK
variable {p : Program} {l : Launch} {e : Env} {R : Room} {s : State} {m : MethodId} {args : Array Value} {below : List Frame} {meth : Method} {c : Code} {H : Heap} {locs : List Loc} {cells slots : Nat} {Q : State → Prop} {D : va_G} {ct : Nat → ClassId} {A : Nat → Prop} {H0 : Heap} {L : List Nat}
variable {y rw sc th sz : Nat} {f : Nat → va_E} {ro tt zz : Nat → Int32} {ss : Nat → Int64} {N i : Nat} {As : List (Nat × Int64)}
set_option maxHeartbeats 4000000 in
set_option maxRecDepth 100000 in
theorem lp_mwalk (hx : p.tables.exec = Jvm.exec) (hb : c.code = cX3_walk) (hml : c.maxLocals = 6) (hown : s.vm.findClass RX3 = some m.cls) (hts : ∀ w ∈ jz_TT, w.before args s = true) (hG : jz_G D ct s) (hS : jm_S ct y rw sc th sz L f ro ss tt zz) (hw : jz_w D A H0 L f H locs) (hi : i < 4) (hR0 : jm_R N i As ro ss tt zz) (hN : N < 1000) {fr nn : Nat} (hfr : fr < 2 ^ 31) (hnn : nn ≤ 1000) {res : Int32}
    (kk : ∀ (ls : Array Slot), lv_has ls 6 [(4, .int res)] → W p l e R s m args below meth c H locs cells slots Q (F0 m 77 ls [])) :
    ∀ (d t : Nat) (sm : Int32) (ls : Array Slot), As.length - t < d → fr ≤ t → t < 2 ^ 31 → jq_sum sm ((As.drop t).take (nn - (t - fr))) = res → lv_has ls 6 [(0, .ref y), (1, .int (nI i)), (2, .int (nI fr)), (3, .int (nI nn)), (4, .int sm), (5, .int (nI t))] → W p l e R s m args below meth c H locs cells slots Q (F0 m 31 ls []) := by
  obtain ⟨hwf, hlN, hzz, hro, hss, htt⟩ := id hR0
  intro d
  induction d with
  | zero => intro t sm ls ht; exact absurd ht (Nat.not_lt_zero _)
  | succ d ih =>
    intro t sm ls ht hft ht31 hres hl
    refine lv_iload hx hb dX3_walk_31 (lv_at hl 5 rfl) ?_
    refine lv_aload_n hx hb dX3_walk_33 rfl (lv_at hl 0 rfl) ?_
    refine gf_M_21 hx hb hown hts hG hw hS.1.1 hS.2.1 dX3_walk_34 ?_
    refine lv_iload_n hx hb dX3_walk_37 rfl (lv_at hl 1 rfl) ?_
    refine jx_ialdI hx hb hG hw hS.1.2.2.2.2.1 0 hS.2.2.2.2.2 rfl hi (by decide) dX3_walk_38 ?_
    rw [hzz]
    refine lv_icmp_ge (tgt := 77) hx hb dX3_walk_39 (by decide) (fun hc => ?_) (fun hc => ?_)
    · have h4 : As.length ≤ t := by
        rcases Nat.lt_or_ge t As.length with q | q
        · exact absurd (nI_lt q (by omega)) (Int32.not_lt.mpr hc)
        · exact q
      rw [List.drop_eq_nil_of_le h4, List.take_nil] at hres
      have hres : sm = res := hres
      subst hres
      exact kk ls (lv_sub hl [4] rfl)
    · have h4 : t < As.length := by
        rcases Nat.lt_or_ge t As.length with q | q
        · exact q
        · exact absurd (nI_le q (by omega)) hc
      refine lv_iload hx hb dX3_walk_42 (lv_at hl 5 rfl) ?_
      refine lv_iload_n hx hb dX3_walk_44 rfl (lv_at hl 2 rfl) ?_
      refine lv_isub hx hb dX3_walk_45 ?_
      rw [pk_sub hft]
      refine lv_iload_n hx hb dX3_walk_46 rfl (lv_at hl 3 rfl) ?_
      refine lv_icmp_ge (tgt := 77) hx hb dX3_walk_47 (by decide) (fun hd => ?_) (fun hd => ?_)
      · have h5 : nn ≤ t - fr := by
          rcases Nat.lt_or_ge (t - fr) nn with q | q
          · exact absurd (nI_lt q (by omega)) (Int32.not_lt.mpr hd)
          · exact q
        rw [show nn - (t - fr) = 0 by omega, List.take_zero] at hres
        have hres : sm = res := hres
        subst hres
        exact kk ls (lv_sub hl [4] rfl)
      · have h5 : t - fr < nn := by
          rcases Nat.lt_or_ge (t - fr) nn with q | q
          · exact q
          · exact absurd (nI_le q (by omega)) hd
        obtain ⟨x, hxt⟩ : ∃ x, As[t]? = some x := ⟨_, List.getElem?_eq_getElem h4⟩
        refine lv_bipush (v := 31) hx hb dX3_walk_50 (by decide) ?_
        refine lv_iload hx hb dX3_walk_52 (lv_at hl 4 rfl) ?_
        refine lv_imul hx hb dX3_walk_54 ?_
        refine lv_aload_n hx hb dX3_walk_55 rfl (lv_at hl 0 rfl) ?_
        refine gf_M_7 hx hb hown hts hG hw hS.1.1 hS.2.1 dX3_walk_56 ?_
        refine lv_sipush (v := nI 1000) hx hb dX3_walk_59 (by decide) ?_
        refine lv_iload_n hx hb dX3_walk_62 rfl (lv_at hl 1 rfl) ?_
        refine lv_imul hx hb dX3_walk_63 ?_
        rw [pk_mul]
        refine lv_iload hx hb dX3_walk_64 (lv_at hl 5 rfl) ?_
        refine lv_iadd hx hb dX3_walk_66 ?_
        rw [nI_add]
        refine jx_saldI hx hb hG hw hS.1.2.1 3 hS.2.2.1 rfl (by omega) (by decide) dX3_walk_67 ?_
        rw [hro t x hxt]
        refine lv_iadd hx hb dX3_walk_68 ?_
        refine lv_istore (lv' := [(4, .int ((31 * sm) + (nI x.1))), (0, .ref y), (1, .int (nI i)), (2, .int (nI fr)), (3, .int (nI nn)), (5, .int (nI t))]) hx hb dX3_walk_69 hl (by decide) rfl (fun ls hl => ?_)
        refine lv_iinc (v := nI (t + 1)) (lv' := [(5, .int (nI (t + 1))), (4, .int ((31 * sm) + (nI x.1))), (0, .ref y), (1, .int (nI i)), (2, .int (nI fr)), (3, .int (nI nn))]) hx hb dX3_walk_71 hl (k := 5) rfl (nI_succ t).symm (by decide) rfl (fun ls hl => ?_)
        refine lv_goto (tgt := 31) hx hb dX3_walk_74 (by decide) ?_
        refine ih (t + 1) (31 * sm + nI x.1) ls (by omega) (by omega) (by omega) ?_ (lv_sub hl [2, 3, 4, 5, 1, 0] rfl)
        rw [← hres, List.drop_eq_getElem_cons h4, (List.getElem?_eq_some_iff.mp hxt).2, show nn - (t - fr) = (nn - (t + 1 - fr)) + 1 by omega, List.take_succ_cons, jq_sum]
end MWK
set_option maxHeartbeats 4000000 in
set_option maxRecDepth 100000 in
theorem c_M_walk (l : Launch) (D : va_G) (ct : Nat → ClassId) {N : Nat} {y : Nat} {L : List Nat} {f : Nat → va_E} {As : jq_S} (hM : jM N ct y L f As) (hN : N < 1000) {ov fv nv : Int32} :
    jz_M l D ct yX3_walk cX3_walk 6 (some .int) ({ frames := 1, cells := 0, slots := 0, locals := 20 } : Room) [.ref y, .int ov, .int fv, .int nv] L f (fun v L' f' => v = some (.int (sp_walk As ov fv nv)) ∧ jM N ct y L' f' As) := by
  by_cases ho : jq_o ov
  · obtain ⟨i, hi, ei, hcl0⟩ := jq_oN ho
    subst ei
    obtain ⟨rw, sc, th, sz, ro, ss, tt, zz, hS, hAll⟩ := id hM
    have hRi := hAll i hi
    obtain ⟨hwf, hlN, hzz, hro, hss, htt⟩ := id hRi
    refine jx_enter (by decide) (Nat.le_of_ble_eq_true rfl) ?_
    intro p e s m below meth c C hw ls hl
    obtain ⟨hx, hb, hrt, hlk, hnm, hml, hown, hts, hG⟩ := C
    have hl : lv_has ls 6 [(0, .ref y), (1, .int (nI i)), (2, .int fv), (3, .int nv)] := hl
    refine lv_iload_n hx hb dX3_walk_0 rfl (lv_at hl 1 rfl) ?_
    refine cl_M_25 (As := [.int (nI i)]) (rest := []) hx hb hml hown hts hG hw (c_M_isOrder l D ct L f (nI i)) rfl ⟨Nat.le_of_ble_eq_true rfl, Nat.le_of_ble_eq_true rfl⟩ hl.1 rfl (Nat.le_of_ble_eq_true rfl) dX3_walk_1 ⟨Nat.le_of_ble_eq_true rfl, Nat.le_of_ble_eq_true rfl⟩ (fun v L' f' H1 locs1 hp hw hcf => ?_)
    obtain ⟨hv, eL, ef⟩ := hp
    rw [eL, ef] at hw
    have hv : v = some (.int 1) := hv.elim (fun q => q.2) (fun q => absurd ho q.1)
    subst hv
    refine lv_if_eq (tgt := 22) hx hb dX3_walk_4 (by decide) (fun h => absurd h (by decide)) (fun _ => ?_)
    refine lv_iload_n hx hb dX3_walk_7 rfl (lv_at hl 2 rfl) ?_
    refine lv_if_lt (tgt := 22) hx hb dX3_walk_8 (by decide) (fun h1 => ?_) (fun h1 => ?_)
    · refine lv_iconst (v := (-1)) hx hb dX3_walk_22 (by decide) ?_
      exact jx_iret hx hb hrt hlk hw (Nat.le_of_ble_eq_true rfl) (Nat.le_of_ble_eq_true rfl) dX3_walk_23 ⟨by rw [sp_walk, if_neg (fun q => q.2.1 h1)], hM⟩
    · refine lv_iload_n hx hb dX3_walk_11 rfl (lv_at hl 3 rfl) ?_
      refine lv_if_lt (tgt := 22) hx hb dX3_walk_12 (by decide) (fun h2 => ?_) (fun h2 => ?_)
      · refine lv_iconst (v := (-1)) hx hb dX3_walk_22 (by decide) ?_
        exact jx_iret hx hb hrt hlk hw (Nat.le_of_ble_eq_true rfl) (Nat.le_of_ble_eq_true rfl) dX3_walk_23 ⟨by rw [sp_walk, if_neg (fun q => q.2.2.1 h2)], hM⟩
      · refine lv_iload_n hx hb dX3_walk_15 rfl (lv_at hl 3 rfl) ?_
        refine lv_sipush (v := nI 1000) hx hb dX3_walk_16 (by decide) ?_
        refine lv_icmp_le (tgt := 24) hx hb dX3_walk_19 (by decide) (fun h3 => ?_) (fun h3 => ?_)
        · obtain ⟨nn, hn31, rfl⟩ := nI_of h2
          have hnn : nn ≤ 1000 := (nI_leI hn31 (by decide)).mp h3
          obtain ⟨fr, hf31, rfl⟩ := nI_of h1
          have esp : sp_walk As (nI i) (nI fr) (nI nn) = jq_sum 7 (((As i).drop fr).take nn) := by rw [sp_walk, if_pos ⟨(jq_oI hi).1, h1, h2, h3⟩, (jq_oI hi).2, nI_clamp hn31, nI_clamp hf31]
          refine lv_bipush (v := 7) hx hb dX3_walk_24 (by decide) ?_
          refine lv_istore (lv' := [(4, .int 7), (0, .ref y), (1, .int (nI i)), (2, .int (nI fr)), (3, .int (nI nn))]) hx hb dX3_walk_26 hl (by decide) rfl (fun ls hl => ?_)
          refine lv_iload_n hx hb dX3_walk_28 rfl (lv_at hl 3 rfl) ?_
          refine lv_istore (lv' := [(5, .int (nI fr)), (4, .int 7), (0, .ref y), (1, .int (nI i)), (2, .int (nI fr)), (3, .int (nI nn))]) hx hb dX3_walk_29 hl (by decide) rfl (fun ls hl => ?_)
          refine lp_mwalk (res := sp_walk As (nI i) (nI fr) (nI nn)) hx hb hml hown hts hG hS hw hi hRi hN hf31 hnn (fun ls hl => ?_) ((As i).length - fr + 1) fr 7 ls (by omega) (Nat.le_refl _) hf31 (by rw [esp, Nat.sub_self, Nat.sub_zero]) (lv_sub hl [2, 3, 4, 5, 1, 0] rfl)
          refine lv_iload hx hb dX3_walk_77 (lv_at hl 0 rfl) ?_
          exact jx_iret hx hb hrt hlk hw (Nat.le_of_ble_eq_true rfl) (Nat.le_of_ble_eq_true rfl) dX3_walk_79 ⟨rfl, hM⟩
        · refine lv_iconst (v := (-1)) hx hb dX3_walk_22 (by decide) ?_
          exact jx_iret hx hb hrt hlk hw (Nat.le_of_ble_eq_true rfl) (Nat.le_of_ble_eq_true rfl) dX3_walk_23 ⟨by rw [sp_walk, if_neg (fun q => h3 q.2.2.2)], hM⟩
  · refine jx_enter (by decide) (Nat.le_of_ble_eq_true rfl) ?_
    intro p e s m below meth c C hw ls hl
    obtain ⟨hx, hb, hrt, hlk, hnm, hml, hown, hts, hG⟩ := C
    have hl : lv_has ls 6 [(0, .ref y), (1, .int ov), (2, .int fv), (3, .int nv)] := hl
    refine lv_iload_n hx hb dX3_walk_0 rfl (lv_at hl 1 rfl) ?_
    refine cl_M_25 (As := [.int ov]) (rest := []) hx hb hml hown hts hG hw (c_M_isOrder l D ct L f ov) rfl ⟨Nat.le_of_ble_eq_true rfl, Nat.le_of_ble_eq_true rfl⟩ hl.1 rfl (Nat.le_of_ble_eq_true rfl) dX3_walk_1 ⟨Nat.le_of_ble_eq_true rfl, Nat.le_of_ble_eq_true rfl⟩ (fun v L' f' H1 locs1 hp hw hcf => ?_)
    obtain ⟨hv, eL, ef⟩ := hp
    rw [eL, ef] at hw
    have hv : v = some (.int 0) := hv.elim (fun q => absurd q.1 ho) (fun q => q.2)
    subst hv
    refine lv_if_eq (tgt := 22) hx hb dX3_walk_4 (by decide) (fun _ => ?_) (fun h => absurd rfl h)
    refine lv_iconst (v := (-1)) hx hb dX3_walk_22 (by decide) ?_
    exact jx_iret hx hb hrt hlk hw (Nat.le_of_ble_eq_true rfl) (Nat.le_of_ble_eq_true rfl) dX3_walk_23 ⟨by rw [sp_walk, if_neg (fun q => ho q.1)], hM⟩
set_option maxHeartbeats 4000000 in
set_option maxRecDepth 100000 in
theorem c_M_init (l : Launch) (D : va_G) (ct : Nat → ClassId) {L : List Nat} {f : Nat → va_E} {y : Nat} (hyL : y ∈ L) (hfy : f y = .inr (3, [.null, .null, .null, .null])) :
    jz_M l D ct yX3_init cX3_init 1 none ({ frames := 1, cells := 4, slots := 12004, locals := 12 } : Room) [.ref y] L f (fun v L' f' => v = none ∧ jM 0 ct y L' f' (fun _ => [])) := by
  refine jx_enter (by decide) (Nat.le_of_ble_eq_true rfl) ?_
  intro p e s m below meth c C hw ls hl
  obtain ⟨hx, hb, hrt, hlk, hnm, hml, hown, hts, hG⟩ := C
  have hl : lv_has ls 1 [(0, .ref y)] := hl
  refine lv_aload_n hx hb dX3_init_0 rfl (lv_at hl 0 rfl) ?_
  refine W.objInit hx hb hown (hts _ (by decide +kernel)) (hts _ (by decide +kernel)) (hts _ jz_objc) rfl (by rw [hml]; exact hl.1) rfl dX3_init_1 (Nat.le_of_ble_eq_true rfl) (Nat.le_of_ble_eq_true rfl) ?_
  refine W.eq (g2 := F0 m 4 ls []) rfl ?_
  refine lv_aload_n hx hb dX3_init_4 rfl (lv_at hl 0 rfl) ?_
  refine lv_sipush (v := nI 4000) hx hb dX3_init_5 (by decide) ?_
  refine jx_newa (a0 := (4000, .inl (fun _ => 0))) hx hb hts (by decide +kernel) (ty := .short) rfl hG hw 3 rfl (N' := 4000) (fun cA => rfl) (nI_pos (by decide)) (nI_clamp (by decide)) (by decide) (Nat.le_of_ble_eq_true rfl) (Nat.le_of_ble_eq_true rfl) dX3_init_8 (fun rw H hrwL hw => ?_)
  have hyrw : y ≠ rw := fun z => hrwL (z ▸ hyL)
  have hyM0 : y ∈ (L ++ [rw]) := List.mem_append_left _ hyL
  have hrwM : rw ∈ (L ++ [rw]) := List.mem_append_right _ (List.mem_singleton.mpr rfl)
  refine pf_M_7 hx hb hown hts hG hw hyM0 (by rw [va_up_ne _ _ hyrw]; exact hfy) hnm dX3_init_10 (fun H locs hw => ?_)
  obtain ⟨g0, hg0⟩ : ∃ z, z = va_up (va_up f rw (.inl (ct 3, 4000, .inl (fun _ => 0)))) y (.inr (3, [.ref rw, .null, .null, .null])) := ⟨_, rfl⟩
  have hw : jz_w D (va_A (va_pl L f) s.heap.size) s.heap (L ++ [rw]) g0 H locs := by rw [hg0]; exact hw
  have hfy0 : g0 y = .inr (3, [.ref rw, .null, .null, .null]) := by rw [hg0, va_up_self]
  have hfrw : g0 rw = .inl (ct 3, 4000, .inl (fun _ => 0)) := by rw [hg0, va_up_ne _ _ hyrw.symm, va_up_self]
  refine lv_aload_n hx hb dX3_init_13 rfl (lv_at hl 0 rfl) ?_
  refine lv_sipush (v := nI 4000) hx hb dX3_init_14 (by decide) ?_
  refine jx_newa (a0 := (4000, .inr (.inl (fun _ => 0)))) hx hb hts (by decide +kernel) (ty := .long) rfl hG hw 4 rfl (N' := 4000) (fun cA => rfl) (nI_pos (by decide)) (nI_clamp (by decide)) (by decide) (Nat.le_of_ble_eq_true rfl) (Nat.le_of_ble_eq_true rfl) dX3_init_17 (fun sc H hscL hw => ?_)
  have hysc : y ≠ sc := fun z => hscL (z ▸ hyM0)
  have hrwsc : rw ≠ sc := fun z => hscL (z ▸ hrwM)
  have hyM1 : y ∈ ((L ++ [rw]) ++ [sc]) := List.mem_append_left _ hyM0
  have hrwM : rw ∈ ((L ++ [rw]) ++ [sc]) := List.mem_append_left _ hrwM
  have hscM : sc ∈ ((L ++ [rw]) ++ [sc]) := List.mem_append_right _ (List.mem_singleton.mpr rfl)
  refine pf_M_13 hx hb hown hts hG hw hyM1 (by rw [va_up_ne _ _ hysc]; exact hfy0) hnm dX3_init_19 (fun H locs hw => ?_)
  obtain ⟨g1, hg1⟩ : ∃ z, z = va_up (va_up g0 sc (.inl (ct 4, 4000, .inr (.inl (fun _ => 0))))) y (.inr (3, [.ref rw, .ref sc, .null, .null])) := ⟨_, rfl⟩
  have hw : jz_w D (va_A (va_pl L f) s.heap.size) s.heap ((L ++ [rw]) ++ [sc]) g1 H locs := by rw [hg1]; exact hw
  have hfy1 : g1 y = .inr (3, [.ref rw, .ref sc, .null, .null]) := by rw [hg1, va_up_self]
  have hfrw : g1 rw = .inl (ct 3, 4000, .inl (fun _ => 0)) := by rw [hg1, va_up_ne _ _ hyrw.symm, va_up_ne _ _ hrwsc]; exact hfrw
  have hfsc : g1 sc = .inl (ct 4, 4000, .inr (.inl (fun _ => 0))) := by rw [hg1, va_up_ne _ _ hysc.symm, va_up_self]
  refine lv_aload_n hx hb dX3_init_22 rfl (lv_at hl 0 rfl) ?_
  refine lv_sipush (v := nI 4000) hx hb dX3_init_23 (by decide) ?_
  refine jx_newa (a0 := (4000, .inl (fun _ => 0))) hx hb hts (by decide +kernel) (ty := .boolean) rfl hG hw 5 rfl (N' := 4000) (fun cA => rfl) (nI_pos (by decide)) (nI_clamp (by decide)) (by decide) (Nat.le_of_ble_eq_true rfl) (Nat.le_of_ble_eq_true rfl) dX3_init_26 (fun th H hthL hw => ?_)
  have hyth : y ≠ th := fun z => hthL (z ▸ hyM1)
  have hrwth : rw ≠ th := fun z => hthL (z ▸ hrwM)
  have hscth : sc ≠ th := fun z => hthL (z ▸ hscM)
  have hyM2 : y ∈ (((L ++ [rw]) ++ [sc]) ++ [th]) := List.mem_append_left _ hyM1
  have hrwM : rw ∈ (((L ++ [rw]) ++ [sc]) ++ [th]) := List.mem_append_left _ hrwM
  have hscM : sc ∈ (((L ++ [rw]) ++ [sc]) ++ [th]) := List.mem_append_left _ hscM
  have hthM : th ∈ (((L ++ [rw]) ++ [sc]) ++ [th]) := List.mem_append_right _ (List.mem_singleton.mpr rfl)
  refine pf_M_17 hx hb hown hts hG hw hyM2 (by rw [va_up_ne _ _ hyth]; exact hfy1) hnm dX3_init_28 (fun H locs hw => ?_)
  obtain ⟨g2, hg2⟩ : ∃ z, z = va_up (va_up g1 th (.inl (ct 5, 4000, .inl (fun _ => 0)))) y (.inr (3, [.ref rw, .ref sc, .ref th, .null])) := ⟨_, rfl⟩
  have hw : jz_w D (va_A (va_pl L f) s.heap.size) s.heap (((L ++ [rw]) ++ [sc]) ++ [th]) g2 H locs := by rw [hg2]; exact hw
  have hfy2 : g2 y = .inr (3, [.ref rw, .ref sc, .ref th, .null]) := by rw [hg2, va_up_self]
  have hfrw : g2 rw = .inl (ct 3, 4000, .inl (fun _ => 0)) := by rw [hg2, va_up_ne _ _ hyrw.symm, va_up_ne _ _ hrwth]; exact hfrw
  have hfsc : g2 sc = .inl (ct 4, 4000, .inr (.inl (fun _ => 0))) := by rw [hg2, va_up_ne _ _ hysc.symm, va_up_ne _ _ hscth]; exact hfsc
  have hfth : g2 th = .inl (ct 5, 4000, .inl (fun _ => 0)) := by rw [hg2, va_up_ne _ _ hyth.symm, va_up_self]
  refine lv_aload_n hx hb dX3_init_31 rfl (lv_at hl 0 rfl) ?_
  refine lv_iconst (v := nI 4) hx hb dX3_init_32 (by decide) ?_
  refine jx_newa (a0 := (4, .inl (fun _ => 0))) hx hb hts (by decide +kernel) (ty := .int) rfl hG hw 0 rfl (N' := 4) (fun cA => rfl) (nI_pos (by decide)) (nI_clamp (by decide)) (by decide) (Nat.le_of_ble_eq_true rfl) (Nat.le_of_ble_eq_true rfl) dX3_init_33 (fun sz H hszL hw => ?_)
  have hysz : y ≠ sz := fun z => hszL (z ▸ hyM2)
  have hrwsz : rw ≠ sz := fun z => hszL (z ▸ hrwM)
  have hscsz : sc ≠ sz := fun z => hszL (z ▸ hscM)
  have hthsz : th ≠ sz := fun z => hszL (z ▸ hthM)
  have hyM3 : y ∈ ((((L ++ [rw]) ++ [sc]) ++ [th]) ++ [sz]) := List.mem_append_left _ hyM2
  have hrwM : rw ∈ ((((L ++ [rw]) ++ [sc]) ++ [th]) ++ [sz]) := List.mem_append_left _ hrwM
  have hscM : sc ∈ ((((L ++ [rw]) ++ [sc]) ++ [th]) ++ [sz]) := List.mem_append_left _ hscM
  have hthM : th ∈ ((((L ++ [rw]) ++ [sc]) ++ [th]) ++ [sz]) := List.mem_append_left _ hthM
  have hszM : sz ∈ ((((L ++ [rw]) ++ [sc]) ++ [th]) ++ [sz]) := List.mem_append_right _ (List.mem_singleton.mpr rfl)
  refine pf_M_21 hx hb hown hts hG hw hyM3 (by rw [va_up_ne _ _ hysz]; exact hfy2) hnm dX3_init_35 (fun H locs hw => ?_)
  obtain ⟨g3, hg3⟩ : ∃ z, z = va_up (va_up g2 sz (.inl (ct 0, 4, .inl (fun _ => 0)))) y (.inr (3, [.ref rw, .ref sc, .ref th, .ref sz])) := ⟨_, rfl⟩
  have hw : jz_w D (va_A (va_pl L f) s.heap.size) s.heap ((((L ++ [rw]) ++ [sc]) ++ [th]) ++ [sz]) g3 H locs := by rw [hg3]; exact hw
  have hfy3 : g3 y = .inr (3, [.ref rw, .ref sc, .ref th, .ref sz]) := by rw [hg3, va_up_self]
  have hfrw : g3 rw = .inl (ct 3, 4000, .inl (fun _ => 0)) := by rw [hg3, va_up_ne _ _ hyrw.symm, va_up_ne _ _ hrwsz]; exact hfrw
  have hfsc : g3 sc = .inl (ct 4, 4000, .inr (.inl (fun _ => 0))) := by rw [hg3, va_up_ne _ _ hysc.symm, va_up_ne _ _ hscsz]; exact hfsc
  have hfth : g3 th = .inl (ct 5, 4000, .inl (fun _ => 0)) := by rw [hg3, va_up_ne _ _ hyth.symm, va_up_ne _ _ hthsz]; exact hfth
  have hfsz : g3 sz = .inl (ct 0, 4, .inl (fun _ => 0)) := by rw [hg3, va_up_ne _ _ hysz.symm, va_up_self]
  have hR : ∀ i, i < 4 → jm_R 0 i ((fun _ => [] : jq_S) i) (fun _ => 0) (fun _ => 0) (fun _ => 0) (fun _ => 0) := fun i hi => ⟨⟨List.Pairwise.nil, by simp, fun x hx => absurd hx List.not_mem_nil⟩, Nat.le_refl _, rfl, fun q x hx => by simp at hx, fun x hx => absurd hx List.not_mem_nil, fun q hq => Or.inr ⟨rfl, rfl⟩⟩
  exact jx_vret hx hb hrt hlk hw (Nat.le_of_ble_eq_true rfl) (Nat.le_of_ble_eq_true rfl) dX3_init_38 ⟨rfl, rw, sc, th, sz, _, _, _, _, ⟨⟨hyM3, hrwM, hscM, hthM, hszM, hrwth⟩, hfy3, hfrw, hfsc, hfth, hfsz⟩, hR⟩
end
section
/-! THE CLAIM OUT OF ONE WALK OF THE LAW'S BODY. Your part is whole_start (and what it stands on); all else here is the same for every law, but numbers. -/
def R_law : String := "JumpOrderLaw"
def lw_P (b : Addr) (xs : List Int32) (args : Array Value) (s : State) : Prop := args = #[.ref b] ∧ s.IntsAt b xs ∧ xs.length ≤ 2560 ∧ (Jvm.Cond.and given_1 narrow_1).before args s = true
def lw_Q (_ : Array Value) (s : State) (o : Outcome) (t : State) : Prop := o = .returned (some (.int 1)) ∧ Framed s o t [] 600000 7302250
def lw_Z (below : List Frame) (a : Array Value) (s : State) : State → Prop := fun t => ∃ o, t.status = .running ∧ Ended t below o ∧ lw_Q a s o t
/-- the law's own end, with 1 on the stack, nothing written that was there before, its room as the claim has it -/
theorem lw_ret {p : Program} {l : Launch} {e : Env} {s : State} {m : MethodId} {below : List Frame} {meth : Method} {c : Code} {b : Nat} (hx : p.tables.exec = Jvm.exec) (hb : c.code = code) (hr : meth.sig.returnType = ret) (hlocks : meth.locks = false) {pc : Nat} {H : Heap} {ls : Array Slot} (hdg : decode code pc = .ok (.ireturn, 1)) : W p l e room_1 s m #[Value.ref b] below meth c H [] 600000 7302250 (lw_Z below #[Value.ref b] s) (F0 m pc ls [.int 1]) := by
  intro T hT X
  obtain ⟨fs, hret, hrun, hended, hW, hframe⟩ := X.leave (v := some (.int 1)) (hlocks := hlocks) (fun h => by rw [hr] at h; cases h)
  have hmeth' : T.vm.method? m = some meth := X.method'
  refine ⟨T.setFrames fs, ?_, .returned (some (.int 1)), hrun, hended, rfl, ⟨_, rfl⟩, hW, hframe⟩
  jvm_step X.here [X.here.top, hx, hb, hdg, hmeth', hr, ret, narrow_b1]
  (try refine ⟨rfl, ?_⟩); (try refine ⟨rfl, ?_⟩)
  first | (intro acts; rw [hret _ acts rfl rfl rfl]) | rw [hret _ _ rfl rfl rfl]
  exact Steps.refl _
/-- what holds at the law's entry: the machine, the code, the tables' words (any of lw_tbl by 'hts w (by decide +kernel)'), the script of L ints xs at the cell b, what the Statement gives of the start (any of its parts by flat_of_before) -/
def lw_At (p : Program) (s : State) (m : MethodId) (meth : Method) (c : Code) (b L : Nat) (xs : Nat → Int32) : Prop :=
  p.tables.exec = Jvm.exec ∧ c.code = code ∧ meth.sig.returnType = ret ∧ c.maxLocals = 4 ∧ s.vm.findClass R_law = some m.cls ∧ (∀ w ∈ lw_tbl, w.before #[Value.ref b] s = true) ∧ va_X b L xs s s.heap ∧ b < s.heap.size ∧ meth.locks = false ∧ (Jvm.Cond.and given_1 narrow_1).before #[Value.ref b] s = true
section JL
variable {p : Program} {l : Launch} {e : Env} {R : Room} {s : State} {m : MethodId} {args : Array Value} {below : List Frame} {meth : Method} {c : Code} {H : Heap} {locs : List Loc} {cells slots : Nat} {Q : State → Prop}
variable {cc : ByteArray} {pc : Nat} {ls : Array Slot} {rest : List Value} {D : va_G} {cl : List vw_C} {A : Nat → Prop} {H0 : Heap}
theorem jl_sld (hexec : p.tables.exec = Jvm.exec) (hb : c.code = cc) {b L : Nat} {xs : Nat → Int32} (hX : va_X b L xs s H0) (hbl : b < H0.size) (hbA : ¬ A b) (hS : va_S A H0 H locs) {j : Nat} (hj : j < L) (hL : L < 2 ^ 31) (hdg : decode cc pc = .ok (.iaload, 1))
    (kk : W p l e R s m args below meth c H locs cells slots Q (F0 m (pc + 1) ls (.int (xs j) :: rest))) : W p l e R s m args below meth c H locs cells slots Q (F0 m pc ls (.int (nI j) :: .ref b :: rest)) := by
  refine va_sld hexec hb hX hbl hbA hS (vp_in_nI hj hL) hdg ?_
  rw [nI_clamp (Nat.lt_trans hj hL)]
  exact kk
/-- the other pool stands beside a call -/
theorem jl_other {L Lm L' : List Nat} {f fm f' : Nat → va_E} {H1 : Heap} {locs1 : List Loc} (hm : jx_w D cl A H0 Lm fm H locs) (hd : ∀ q ∈ L, q ∉ Lm) (hw' : jx_w D cl A H0 L' f' H1 locs1) (hc : H.size ≤ H1.size ∧ (∀ q : Nat, q < H.size → ¬ va_A (va_pl L f) H.size q → H1[q]? = H[q]?) ∧ va_D (va_A (va_pl L f) H.size) (va_pl L' f')) : jx_w D cl A H0 Lm fm H1 locs1 ∧ ∀ q ∈ L', q ∉ Lm := by
  obtain ⟨h1, h2, h3⟩ := hc
  have hlt : ∀ q ∈ Lm, q < H.size := fun q hq => va_pl_lt (X := []) hm.1 hq
  have hinL : ∀ (k : Nat) (q : Nat) (e0 : va_E), (va_pl L f)[k]? = some (q, e0) → q ∈ L := fun k q e0 hk => by
    obtain ⟨a, ha, e1⟩ := List.mem_map.mp (List.mem_of_getElem? hk)
    have : a = q := congrArg Prod.fst e1
    exact this ▸ ha
  have hno : ∀ q ∈ Lm, ¬ va_A (va_pl L f) H.size q := fun q hq h => by
    rcases h with ⟨k, e0, hk⟩ | h
    · exact hd q (hinL k q e0 hk) hq
    · have := hlt q hq
      omega
  refine ⟨⟨hm.1.kept (fun k q hk => ?_), hm.2.1, hw'.2.2.1, hm.2.2.2⟩, fun q hq hqm => ?_⟩
  · obtain ⟨a, ha, e1⟩ := List.mem_map.mp (List.mem_of_getElem? hk)
    have e2 : a = q.1 := congrArg Prod.fst e1
    exact h2 q.1 (hlt _ (e2 ▸ ha)) (hno _ (e2 ▸ ha))
  · obtain ⟨k, hk⟩ := jx_pos (f := f') hq rfl
    exact hno q hqm (h3.2 k _ hk)
/-- a new cell gets a pool of its own -/
theorem jl_split {L : List Nat} {f : Nat → va_E} {q : Nat} {e0 : va_E} (hq : q ∉ L) (hw : jx_w D cl A H0 (L ++ [q]) (va_up f q e0) H locs) : jx_w D cl A H0 L f H locs ∧ jx_w D cl A H0 [q] (va_up f q e0) H locs := by
  obtain ⟨h1, h2, h3, h4⟩ := hw
  have e1 : va_pl (L ++ [q]) (va_up f q e0) = va_pl L f ++ [(q, e0)] := (va_pl_push hq).symm
  have e2 : va_pl [q] (va_up f q e0) = [(q, e0)] := by simp [va_pl, va_up]
  rw [e1] at h1 h2
  have up1 : ∀ (k : Nat) (x : Nat × va_E), (va_pl L f)[k]? = some x → (va_pl L f ++ [(q, e0)])[k]? = some x := fun k x hk => by
    rw [List.getElem?_append_left (List.getElem?_eq_some_iff.mp hk).1]; exact hk
  have up2 : ∀ (k : Nat) (x : Nat × va_E), [(q, e0)][k]? = some x → (va_pl L f ++ [(q, e0)])[(va_pl L f).length + k]? = some x := fun k x hk => by
    rw [List.getElem?_append_right (by omega), Nat.add_sub_cancel_left]; exact hk
  refine ⟨⟨fun k x hk => h1 k x (up1 k x hk), ⟨fun i j x y hi hj e => h2.1 i j x y (up1 i x hi) (up1 j y hj) e, fun k x hk => h2.2 k x (up1 k x hk)⟩, h3, h4⟩, ?_⟩
  unfold jx_w
  rw [e2]
  exact ⟨fun k x hk => h1 _ x (up2 k x hk), ⟨fun i j x y hi hj e => by have := h2.1 _ _ x y (up2 i x hi) (up2 j y hj) e; omega, fun k x hk => h2.2 _ x (up2 k x hk)⟩, h3, h4⟩
end JL
theorem jl_arrP {s : State} {args : Array Value} {ty : FieldType} (h : (Cond.arrayClass ty).before args s = true) : ∃ cA : ClassId, ArrOfT s cA ty ∧ s.vm.findClass ("[" ++ ty.toString) = some cA := by
  obtain ⟨cA, kA, comp, h1, h2, h3⟩ := Cond.arrayClass_spec h
  exact ⟨cA, fun n z => ⟨fun k h => (by cases h), kA, h2, comp, h3⟩, h1⟩
theorem jl_arrO {s : State} {args : Array Value} {C : String} (h : (Cond.arrayOver (.object C)).before args s = true) : ∃ cA : ClassId, ArrOfT s cA (.object C) ∧ va_RA s cA (.object C) := by
  obtain ⟨comp, cA, k, h1, h2, h3, h4, h5⟩ := Cond.arrayOver_spec h
  exact ⟨cA, fun n z => ⟨fun k h => (by cases h), k, h3, comp, h4⟩, k, comp, h3, h4, h1, h5⟩
/-- all that the contracts take as given, at the law's entry -/
theorem jl_G {s : State} {b : Nat} (hts : ∀ w ∈ lw_tbl, w.before #[Value.ref b] s = true) : ∃ (D : va_G) (ct : Nat → ClassId), jz_G D ct s := by
  have ht : ∀ w ∈ jz_TT, w.before #[Value.ref b] s = true := fun w h => hts w (List.mem_filter.mp h).1
  obtain ⟨c0, i0, k0⟩ := u_known (C := RX2) (T := TX2) (N := 1) (n := 1) ht jz_inX (ht (.instantiable RX2 1) (by decide +kernel))
  obtain ⟨c1, i1, k1⟩ := u_known (C := RX0) (T := TX0) (N := 5) (n := 5) ht jz_inO (ht (.instantiable RX0 5) (by decide +kernel))
  obtain ⟨c2, i2, k2⟩ := u_known (C := RX1) (T := TX1) (N := 7) (n := 7) ht jz_inP (ht (.instantiable RX1 7) (by decide +kernel))
  obtain ⟨c3, i3, k3⟩ := u_known (C := RX3) (T := TX3) (N := 4) (n := 4) ht jz_inM (ht (.instantiable RX3 4) (by decide +kernel))
  obtain ⟨a0, p0, q0⟩ := jl_arrP (ht (.arrayClass .int) (by decide +kernel))
  obtain ⟨a1, p1, q1⟩ := jl_arrO (hts (.arrayOver (.object "JumpOrder$Place")) (by decide +kernel))
  obtain ⟨a2, p2, q2⟩ := jl_arrO (hts (.arrayOver (.object "JumpOrder$Order")) (by decide +kernel))
  obtain ⟨a3, p3, q3⟩ := jl_arrP (ht (.arrayClass .short) (by decide +kernel))
  obtain ⟨a4, p4, q4⟩ := jl_arrP (ht (.arrayClass .long) (by decide +kernel))
  obtain ⟨a5, p5, q5⟩ := jl_arrP (ht (.arrayClass .boolean) (by decide +kernel))
  refine ⟨(fun k => if k = 0 then c0 else if k = 1 then c1 else if k = 2 then c2 else c3, fun k => if k = 0 then i0 else if k = 1 then i1 else if k = 2 then i2 else i3), fun k => if k = 0 then a0 else if k = 1 then a1 else if k = 2 then a2 else if k = 3 then a3 else if k = 4 then a4 else a5, ⟨fun k q hq => ?_, fun k q hq => ?_⟩, fun w hw => ?_, fun w hw => (List.mem_filter.mp hw).2⟩
  · match k, hq with
    | 0, hq => cases hq; exact k0
    | 1, hq => cases hq; exact k1
    | 2, hq => cases hq; exact k2
    | 3, hq => cases hq; exact k3
    | k + 4, hq => simp [jz_cl] at hq
  · match k, hq with
    | 0, hq => cases hq; exact ⟨p0, q0⟩
    | 1, hq => cases hq; exact ⟨p1, q1⟩
    | 2, hq => cases hq; exact ⟨p2, q2⟩
    | 3, hq => cases hq; exact ⟨p3, q3⟩
    | 4, hq => cases hq; exact ⟨p4, q4⟩
    | 5, hq => cases hq; exact ⟨p5, q5⟩
    | k + 6, hq => simp [jz_tys] at hq
  · have h1 := hts w (List.mem_filter.mp hw).1
    have h2 := (List.mem_filter.mp hw).2
    cases w <;> first | (simp [jx_isN] at h2; done) | exact va_Nw.of rfl h1 | (rename_i ty; cases ty <;> first | (simp [jx_isN] at h2; done) | exact h1)
end
section
set_option maxHeartbeats 4000000 in
set_option maxRecDepth 100000 in
theorem law_loop {p : Program} {l : Launch} {e : Env} {s : State} {m : MethodId} {below : List Frame} {meth : Method} {c : Code} {b L : Nat} {xs : Nat → Int32} {D : va_G} {ct : Nat → ClassId} (hL : L ≤ 2560) (C0 : lw_At p s m meth c b L xs) (hG : jz_G D ct s) :
    ∀ (d t x y : Nat) (Lx Lm : List Nat) (fx fm : Nat → va_E) (As : jq_S) (H : Heap) (locs : List Loc) (ls : Array Slot), L - 5 * t < d → 5 * t ≤ L → jX t ct x Lx fx As → jM t ct y Lm fm As → (∀ q ∈ Lx, q ∉ Lm) → jz_w D (fun q : Nat => s.heap.size ≤ q) s.heap Lx fx H locs → jz_w D (fun q : Nat => s.heap.size ≤ q) s.heap Lm fm H locs → lv_has ls 4 [(0, .ref b), (1, .ref x), (2, .ref y), (3, .int (nI (5 * t)))] → W p l e room_1 s m #[Value.ref b] below meth c H locs (30 + 3 * t) (17000 + 15 * t) (lw_Z below #[Value.ref b] s) (F0 m 18 ls []) := by
  obtain ⟨hx, hb, hr, hml, hown, hts0, hX0, hbl, hlocks, hgv⟩ := C0
  have hts : ∀ w ∈ jz_TT, w.before #[Value.ref b] s = true := fun w h => hts0 w (List.mem_filter.mp h).1
  have hbA : ¬ (fun q : Nat => s.heap.size ≤ q) b := Nat.not_le.mpr hbl
  intro d
  induction d with
  | zero => intro t x y Lx Lm fx fm As H locs ls hd; exact absurd hd (Nat.not_lt_zero _)
  | succ d ih =>
    intro t x y Lx Lm fx fm As H locs ls hd htL hX hM hdis hwX hwM hl
    refine lv_iload_n hx hb dL_law_18 rfl (lv_at hl 3 rfl) ?_
    refine lv_aload_n hx hb dL_law_19 rfl (lv_at hl 0 rfl) ?_
    refine va_slen hx hb hX0 hbl hbA hwX.2.2.1 dL_law_20 ?_
    refine lv_iconst (v := nI 5) hx hb dL_law_21 (by decide) ?_
    refine lv_isub hx hb dL_law_22 ?_
    refine lv_icmp_gt (tgt := 474) hx hb dL_law_23 (by decide) (fun hc => ?_) (fun hc => ?_)
    · refine lv_iconst (v := 1) hx hb dL_law_474 (by decide) ?_
      refine va_forget (fun q hq => hwX.2.2.1.2.2 q hq) ?_
      refine W.widen (k := 600000) (n := 7302250) (by omega) (by omega) ?_
      exact lw_ret hx hb hr hlocks dL_law_475
    · have h5 : 5 * t + 5 ≤ L := by
        rcases Nat.lt_or_ge L (5 * t + 5) with q | q
        · refine absurd ?_ hc
          rcases Nat.lt_or_ge L 5 with z | z
          · exact Int32.lt_of_lt_of_le (pk_sneg (by decide) z) (nI_pos' (by omega))
          · show nI L - nI 5 < nI (5 * t)
            rw [pk_sub z]
            exact nI_lt (by omega) (by omega)
        · exact q
      have ht : t < 512 := by omega
      obtain ⟨oa, gA, hxL, -, hfx, -⟩ := hX.base
      obtain ⟨rwA, scA, thA, szA, roA, ssA, ttA, zzA, hSM, -⟩ := id hM
      have hyL := hSM.1.1
      have hfy := hSM.2.1
      refine lv_aload_n hx hb dL_law_26 rfl (lv_at hl 0 rfl) ?_
      refine lv_iload_n hx hb dL_law_27 rfl (lv_at hl 3 rfl) ?_
      refine jl_sld hx hb hX0 hbl hbA hwX.2.2.1 (show 5 * t < L by omega) (by omega) dL_law_28 ?_
      refine lv_bipush (v := 15) hx hb dL_law_29 (by decide) ?_
      refine lv_iand hx hb dL_law_31 ?_
      obtain ⟨k, hk, ek⟩ := pk_andE (xs (5 * t)) (m := 15) 4 (by decide)
      rw [ek]
      rcases (show k = 0 ∨ k = 1 ∨ k = 2 ∨ k = 3 ∨ k = 4 ∨ k = 5 ∨ k = 6 ∨ k = 7 ∨ k = 8 ∨ 9 ≤ k by omega) with rfl | rfl | rfl | rfl | rfl | rfl | rfl | rfl | rfl | hk9
      · refine lv_tableIn hx hb dL_law_32 (by decide) (by decide) (off := 52) (by decide) (tgt := 84) (by decide) ?_
        refine lv_aload_n hx hb dL_law_84 rfl (lv_at hl 1 rfl) ?_
        refine lv_aload_n hx hb dL_law_85 rfl (lv_at hl 0 rfl) ?_
        refine lv_iload_n hx hb dL_law_86 rfl (lv_at hl 3 rfl) ?_
        refine lv_iconst (v := nI 1) hx hb dL_law_87 (by decide) ?_
        refine lv_iadd hx hb dL_law_88 ?_
        rw [nI_add]
        refine jl_sld hx hb hX0 hbl hbA hwX.2.2.1 (show 5 * t + 1 < L by omega) (by omega) dL_law_89 ?_
        refine lv_aload_n hx hb dL_law_90 rfl (lv_at hl 0 rfl) ?_
        refine lv_iload_n hx hb dL_law_91 rfl (lv_at hl 3 rfl) ?_
        refine lv_iconst (v := nI 2) hx hb dL_law_92 (by decide) ?_
        refine lv_iadd hx hb dL_law_93 ?_
        rw [nI_add]
        refine jl_sld hx hb hX0 hbl hbA hwX.2.2.1 (show 5 * t + 2 < L by omega) (by omega) dL_law_94 ?_
        refine lv_aload_n hx hb dL_law_95 rfl (lv_at hl 0 rfl) ?_
        refine lv_iload_n hx hb dL_law_96 rfl (lv_at hl 3 rfl) ?_
        refine lv_iconst (v := nI 3) hx hb dL_law_97 (by decide) ?_
        refine lv_iadd hx hb dL_law_98 ?_
        rw [nI_add]
        refine jl_sld hx hb hX0 hbl hbA hwX.2.2.1 (show 5 * t + 3 < L by omega) (by omega) dL_law_99 ?_
        refine lv_i2l hx hb dL_law_100 rfl ?_
        refine lv_bipush (v := 32) hx hb dL_law_101 (by decide) ?_
        refine lv_lshl hx hb dL_law_103 rfl ?_
        refine lv_aload_n hx hb dL_law_104 rfl (lv_at hl 0 rfl) ?_
        refine lv_iload_n hx hb dL_law_105 rfl (lv_at hl 3 rfl) ?_
        refine lv_iconst (v := nI 4) hx hb dL_law_106 (by decide) ?_
        refine lv_iadd hx hb dL_law_107 ?_
        rw [nI_add]
        refine jl_sld hx hb hX0 hbl hbA hwX.2.2.1 (show 5 * t + 4 < L by omega) (by omega) dL_law_108 ?_
        refine lv_i2l hx hb dL_law_109 rfl ?_
        refine lv_ldc2 (own := RL) (v := 4294967295) hx hb hown (hts (.constantLong RL 13 4294967295) (by decide +kernel)) dL_law_110 ?_
        refine lv_land hx hb dL_law_113 ?_
        refine lv_lor hx hb dL_law_114 ?_
        refine lv_topl (fun sc esc => ?_)
        refine cl_L_15 (As := [.int (xs (5 * t + 1)), .int (xs (5 * t + 2)), .long sc]) (rest := []) hx hb hml hown hts hG hwX (c_X_set l D ct hX (by omega)) rfl ⟨Nat.le_of_ble_eq_true rfl, Nat.le_of_ble_eq_true rfl⟩ hxL hfx hl.1 rfl (Nat.le_of_ble_eq_true rfl) dL_law_115 ⟨by show 30 + 3 * t + 3 ≤ 600000; omega, by show 17000 + 15 * t + 15 ≤ 7302250; omega⟩ (fun v L' f' H1 locs1 hp hw' hcf => ?_)
        obtain ⟨rfl, hX1⟩ := hp
        obtain ⟨hwM, hdis⟩ := jl_other hwM hdis hw' hcf
        have hwX := hw'
        generalize H1 = H at hwX hwM ⊢
        generalize locs1 = locs at hwX hwM ⊢
        clear hw' hcf
        refine lv_aload_n hx hb dL_law_118 rfl (lv_at hl 2 rfl) ?_
        refine lv_aload_n hx hb dL_law_119 rfl (lv_at hl 0 rfl) ?_
        refine lv_iload_n hx hb dL_law_120 rfl (lv_at hl 3 rfl) ?_
        refine lv_iconst (v := nI 1) hx hb dL_law_121 (by decide) ?_
        refine lv_iadd hx hb dL_law_122 ?_
        rw [nI_add]
        refine jl_sld hx hb hX0 hbl hbA hwM.2.2.1 (show 5 * t + 1 < L by omega) (by omega) dL_law_123 ?_
        refine lv_aload_n hx hb dL_law_124 rfl (lv_at hl 0 rfl) ?_
        refine lv_iload_n hx hb dL_law_125 rfl (lv_at hl 3 rfl) ?_
        refine lv_iconst (v := nI 2) hx hb dL_law_126 (by decide) ?_
        refine lv_iadd hx hb dL_law_127 ?_
        rw [nI_add]
        refine jl_sld hx hb hX0 hbl hbA hwM.2.2.1 (show 5 * t + 2 < L by omega) (by omega) dL_law_128 ?_
        refine lv_aload_n hx hb dL_law_129 rfl (lv_at hl 0 rfl) ?_
        refine lv_iload_n hx hb dL_law_130 rfl (lv_at hl 3 rfl) ?_
        refine lv_iconst (v := nI 3) hx hb dL_law_131 (by decide) ?_
        refine lv_iadd hx hb dL_law_132 ?_
        rw [nI_add]
        refine jl_sld hx hb hX0 hbl hbA hwM.2.2.1 (show 5 * t + 3 < L by omega) (by omega) dL_law_133 ?_
        refine lv_i2l hx hb dL_law_134 rfl ?_
        refine lv_bipush (v := 32) hx hb dL_law_135 (by decide) ?_
        refine lv_lshl hx hb dL_law_137 rfl ?_
        refine lv_aload_n hx hb dL_law_138 rfl (lv_at hl 0 rfl) ?_
        refine lv_iload_n hx hb dL_law_139 rfl (lv_at hl 3 rfl) ?_
        refine lv_iconst (v := nI 4) hx hb dL_law_140 (by decide) ?_
        refine lv_iadd hx hb dL_law_141 ?_
        rw [nI_add]
        refine jl_sld hx hb hX0 hbl hbA hwM.2.2.1 (show 5 * t + 4 < L by omega) (by omega) dL_law_142 ?_
        refine lv_i2l hx hb dL_law_143 rfl ?_
        refine lv_ldc2 (own := RL) (v := 4294967295) hx hb hown (hts (.constantLong RL 13 4294967295) (by decide +kernel)) dL_law_144 ?_
        refine lv_land hx hb dL_law_147 ?_
        refine lv_lor hx hb dL_law_148 ?_
        refine lv_topl (fun sc2 esc2 => ?_)
        rw [show sc2 = sc from esc2.trans esc.symm]
        have hdis2 : ∀ q ∈ Lm, q ∉ L' := fun q h1 h2 => hdis q h2 h1
        refine cl_L_19 (As := [.int (xs (5 * t + 1)), .int (xs (5 * t + 2)), .long sc]) (rest := [.int (sp_set As (xs (5 * t + 1)) (xs (5 * t + 2)) sc).1]) hx hb hml hown hts hG hwM (c_M_set l D ct hM (by omega)) rfl ⟨Nat.le_of_ble_eq_true rfl, Nat.le_of_ble_eq_true rfl⟩ hyL hfy hl.1 rfl (Nat.le_of_ble_eq_true rfl) dL_law_149 ⟨by show 30 + 3 * t + 3 + 0 ≤ 600000; omega, by show 17000 + 15 * t + 15 + 0 ≤ 7302250; omega⟩ (fun v L2 f2 H1 locs1 hp hw' hcf => ?_)
        obtain ⟨rfl, hM1⟩ := hp
        obtain ⟨hwX, hdis3⟩ := jl_other hwX hdis2 hw' hcf
        have hwM := hw'
        have hdis : ∀ q ∈ L', q ∉ L2 := fun q h1 h2 => hdis3 q h2 h1
        refine lv_icmp_eq (tgt := 468) hx hb dL_law_152 (by decide) (fun _ => ?_) (fun h => absurd rfl h)
        refine lv_iinc (v := nI (5 * (t + 1))) (lv' := [(3, .int (nI (5 * (t + 1)))), (0, .ref b), (1, .ref x), (2, .ref y)]) hx hb dL_law_468 hl (k := 3) rfl (by show nI (5 * t) + nI 5 = nI (5 * (t + 1)); rw [nI_add]; rfl) (by decide) rfl (fun ls hl => ?_)
        refine lv_goto (tgt := 18) hx hb dL_law_471 (by decide) ?_
        refine W.widen (k := 30 + 3 * (t + 1)) (n := 17000 + 15 * (t + 1)) (by first | omega | (simp only []; omega)) (by first | omega | (simp only []; omega)) ?_
        exact ih (t + 1) x y _ _ _ _ _ _ _ ls (by omega) (by omega) hX1 hM1 hdis hwX hwM (lv_sub hl [1, 2, 3, 0] rfl)
      · refine lv_tableIn hx hb dL_law_32 (by decide) (by decide) (off := 125) (by decide) (tgt := 157) (by decide) ?_
        refine lv_aload_n hx hb dL_law_157 rfl (lv_at hl 1 rfl) ?_
        refine lv_aload_n hx hb dL_law_158 rfl (lv_at hl 0 rfl) ?_
        refine lv_iload_n hx hb dL_law_159 rfl (lv_at hl 3 rfl) ?_
        refine lv_iconst (v := nI 1) hx hb dL_law_160 (by decide) ?_
        refine lv_iadd hx hb dL_law_161 ?_
        rw [nI_add]
        refine jl_sld hx hb hX0 hbl hbA hwX.2.2.1 (show 5 * t + 1 < L by omega) (by omega) dL_law_162 ?_
        refine lv_aload_n hx hb dL_law_163 rfl (lv_at hl 0 rfl) ?_
        refine lv_iload_n hx hb dL_law_164 rfl (lv_at hl 3 rfl) ?_
        refine lv_iconst (v := nI 2) hx hb dL_law_165 (by decide) ?_
        refine lv_iadd hx hb dL_law_166 ?_
        rw [nI_add]
        refine jl_sld hx hb hX0 hbl hbA hwX.2.2.1 (show 5 * t + 2 < L by omega) (by omega) dL_law_167 ?_
        refine cl_L_20 (As := [.int (xs (5 * t + 1)), .int (xs (5 * t + 2))]) (rest := []) hx hb hml hown hts hG hwX (c_X_remove l D ct hX (by omega)) rfl ⟨Nat.le_of_ble_eq_true rfl, Nat.le_of_ble_eq_true rfl⟩ hxL hfx hl.1 rfl (Nat.le_of_ble_eq_true rfl) dL_law_168 ⟨by show 30 + 3 * t + 0 ≤ 600000; omega, by show 17000 + 15 * t + 0 ≤ 7302250; omega⟩ (fun v L' f' H1 locs1 hp hw' hcf => ?_)
        obtain ⟨rfl, hX1⟩ := hp
        obtain ⟨hwM, hdis⟩ := jl_other hwM hdis hw' hcf
        have hwX := hw'
        generalize H1 = H at hwX hwM ⊢
        generalize locs1 = locs at hwX hwM ⊢
        clear hw' hcf
        refine lv_aload_n hx hb dL_law_171 rfl (lv_at hl 2 rfl) ?_
        refine lv_aload_n hx hb dL_law_172 rfl (lv_at hl 0 rfl) ?_
        refine lv_iload_n hx hb dL_law_173 rfl (lv_at hl 3 rfl) ?_
        refine lv_iconst (v := nI 1) hx hb dL_law_174 (by decide) ?_
        refine lv_iadd hx hb dL_law_175 ?_
        rw [nI_add]
        refine jl_sld hx hb hX0 hbl hbA hwM.2.2.1 (show 5 * t + 1 < L by omega) (by omega) dL_law_176 ?_
        refine lv_aload_n hx hb dL_law_177 rfl (lv_at hl 0 rfl) ?_
        refine lv_iload_n hx hb dL_law_178 rfl (lv_at hl 3 rfl) ?_
        refine lv_iconst (v := nI 2) hx hb dL_law_179 (by decide) ?_
        refine lv_iadd hx hb dL_law_180 ?_
        rw [nI_add]
        refine jl_sld hx hb hX0 hbl hbA hwM.2.2.1 (show 5 * t + 2 < L by omega) (by omega) dL_law_181 ?_
        have hdis2 : ∀ q ∈ Lm, q ∉ L' := fun q h1 h2 => hdis q h2 h1
        refine cl_L_24 (As := [.int (xs (5 * t + 1)), .int (xs (5 * t + 2))]) (rest := [.int (sp_rem As (xs (5 * t + 1)) (xs (5 * t + 2))).1]) hx hb hml hown hts hG hwM (c_M_remove l D ct hM (by omega)) rfl ⟨Nat.le_of_ble_eq_true rfl, Nat.le_of_ble_eq_true rfl⟩ hyL hfy hl.1 rfl (Nat.le_of_ble_eq_true rfl) dL_law_182 ⟨by show 30 + 3 * t + 0 + 0 ≤ 600000; omega, by show 17000 + 15 * t + 0 + 0 ≤ 7302250; omega⟩ (fun v L2 f2 H1 locs1 hp hw' hcf => ?_)
        obtain ⟨rfl, hM1⟩ := hp
        obtain ⟨hwX, hdis3⟩ := jl_other hwX hdis2 hw' hcf
        have hwM := hw'
        have hdis : ∀ q ∈ L', q ∉ L2 := fun q h1 h2 => hdis3 q h2 h1
        refine lv_icmp_eq (tgt := 468) hx hb dL_law_185 (by decide) (fun _ => ?_) (fun h => absurd rfl h)
        refine lv_iinc (v := nI (5 * (t + 1))) (lv' := [(3, .int (nI (5 * (t + 1)))), (0, .ref b), (1, .ref x), (2, .ref y)]) hx hb dL_law_468 hl (k := 3) rfl (by show nI (5 * t) + nI 5 = nI (5 * (t + 1)); rw [nI_add]; rfl) (by decide) rfl (fun ls hl => ?_)
        refine lv_goto (tgt := 18) hx hb dL_law_471 (by decide) ?_
        refine W.widen (k := 30 + 3 * (t + 1)) (n := 17000 + 15 * (t + 1)) (by first | omega | (simp only []; omega)) (by first | omega | (simp only []; omega)) ?_
        exact ih (t + 1) x y _ _ _ _ _ _ _ ls (by omega) (by omega) (hX1.mono (Nat.le_succ _)) (hM1.mono (Nat.le_succ _)) hdis hwX hwM (lv_sub hl [1, 2, 3, 0] rfl)
      · refine lv_tableIn hx hb dL_law_32 (by decide) (by decide) (off := 158) (by decide) (tgt := 190) (by decide) ?_
        refine lv_aload_n hx hb dL_law_190 rfl (lv_at hl 1 rfl) ?_
        refine lv_aload_n hx hb dL_law_191 rfl (lv_at hl 0 rfl) ?_
        refine lv_iload_n hx hb dL_law_192 rfl (lv_at hl 3 rfl) ?_
        refine lv_iconst (v := nI 1) hx hb dL_law_193 (by decide) ?_
        refine lv_iadd hx hb dL_law_194 ?_
        rw [nI_add]
        refine jl_sld hx hb hX0 hbl hbA hwX.2.2.1 (show 5 * t + 1 < L by omega) (by omega) dL_law_195 ?_
        refine cl_L_25 (As := [.int (xs (5 * t + 1))]) (rest := []) hx hb hml hown hts hG hwX (c_X_clear l D ct hX (by omega)) rfl ⟨Nat.le_of_ble_eq_true rfl, Nat.le_of_ble_eq_true rfl⟩ hxL hfx hl.1 rfl (Nat.le_of_ble_eq_true rfl) dL_law_196 ⟨by show 30 + 3 * t + 0 ≤ 600000; omega, by show 17000 + 15 * t + 0 ≤ 7302250; omega⟩ (fun v L' f' H1 locs1 hp hw' hcf => ?_)
        obtain ⟨rfl, hX1⟩ := hp
        obtain ⟨hwM, hdis⟩ := jl_other hwM hdis hw' hcf
        have hwX := hw'
        generalize H1 = H at hwX hwM ⊢
        generalize locs1 = locs at hwX hwM ⊢
        clear hw' hcf
        refine lv_aload_n hx hb dL_law_199 rfl (lv_at hl 2 rfl) ?_
        refine lv_aload_n hx hb dL_law_200 rfl (lv_at hl 0 rfl) ?_
        refine lv_iload_n hx hb dL_law_201 rfl (lv_at hl 3 rfl) ?_
        refine lv_iconst (v := nI 1) hx hb dL_law_202 (by decide) ?_
        refine lv_iadd hx hb dL_law_203 ?_
        rw [nI_add]
        refine jl_sld hx hb hX0 hbl hbA hwM.2.2.1 (show 5 * t + 1 < L by omega) (by omega) dL_law_204 ?_
        have hdis2 : ∀ q ∈ Lm, q ∉ L' := fun q h1 h2 => hdis q h2 h1
        refine cl_L_29 (As := [.int (xs (5 * t + 1))]) (rest := [.int (sp_clr As (xs (5 * t + 1))).1]) hx hb hml hown hts hG hwM (c_M_clear l D ct hM (by omega)) rfl ⟨Nat.le_of_ble_eq_true rfl, Nat.le_of_ble_eq_true rfl⟩ hyL hfy hl.1 rfl (Nat.le_of_ble_eq_true rfl) dL_law_205 ⟨by show 30 + 3 * t + 0 + 0 ≤ 600000; omega, by show 17000 + 15 * t + 0 + 0 ≤ 7302250; omega⟩ (fun v L2 f2 H1 locs1 hp hw' hcf => ?_)
        obtain ⟨rfl, hM1⟩ := hp
        obtain ⟨hwX, hdis3⟩ := jl_other hwX hdis2 hw' hcf
        have hwM := hw'
        have hdis : ∀ q ∈ L', q ∉ L2 := fun q h1 h2 => hdis3 q h2 h1
        refine lv_icmp_eq (tgt := 468) hx hb dL_law_208 (by decide) (fun _ => ?_) (fun h => absurd rfl h)
        refine lv_iinc (v := nI (5 * (t + 1))) (lv' := [(3, .int (nI (5 * (t + 1)))), (0, .ref b), (1, .ref x), (2, .ref y)]) hx hb dL_law_468 hl (k := 3) rfl (by show nI (5 * t) + nI 5 = nI (5 * (t + 1)); rw [nI_add]; rfl) (by decide) rfl (fun ls hl => ?_)
        refine lv_goto (tgt := 18) hx hb dL_law_471 (by decide) ?_
        refine W.widen (k := 30 + 3 * (t + 1)) (n := 17000 + 15 * (t + 1)) (by first | omega | (simp only []; omega)) (by first | omega | (simp only []; omega)) ?_
        exact ih (t + 1) x y _ _ _ _ _ _ _ ls (by omega) (by omega) (hX1.mono (Nat.le_succ _)) (hM1.mono (Nat.le_succ _)) hdis hwX hwM (lv_sub hl [1, 2, 3, 0] rfl)
      · refine lv_tableIn hx hb dL_law_32 (by decide) (by decide) (off := 181) (by decide) (tgt := 213) (by decide) ?_
        refine lv_aload_n hx hb dL_law_213 rfl (lv_at hl 1 rfl) ?_
        refine lv_aload_n hx hb dL_law_214 rfl (lv_at hl 0 rfl) ?_
        refine lv_iload_n hx hb dL_law_215 rfl (lv_at hl 3 rfl) ?_
        refine lv_iconst (v := nI 1) hx hb dL_law_216 (by decide) ?_
        refine lv_iadd hx hb dL_law_217 ?_
        rw [nI_add]
        refine jl_sld hx hb hX0 hbl hbA hwX.2.2.1 (show 5 * t + 1 < L by omega) (by omega) dL_law_218 ?_
        refine lv_aload_n hx hb dL_law_219 rfl (lv_at hl 0 rfl) ?_
        refine lv_iload_n hx hb dL_law_220 rfl (lv_at hl 3 rfl) ?_
        refine lv_iconst (v := nI 2) hx hb dL_law_221 (by decide) ?_
        refine lv_iadd hx hb dL_law_222 ?_
        rw [nI_add]
        refine jl_sld hx hb hX0 hbl hbA hwX.2.2.1 (show 5 * t + 2 < L by omega) (by omega) dL_law_223 ?_
        refine cl_L_30 (As := [.int (xs (5 * t + 1)), .int (xs (5 * t + 2))]) (rest := []) hx hb hml hown hts hG hwX (c_X_score l D ct hX (by omega)) rfl ⟨Nat.le_of_ble_eq_true rfl, Nat.le_of_ble_eq_true rfl⟩ hxL hfx hl.1 rfl (Nat.le_of_ble_eq_true rfl) dL_law_224 ⟨by show 30 + 3 * t + 0 ≤ 600000; omega, by show 17000 + 15 * t + 0 ≤ 7302250; omega⟩ (fun v L' f' H1 locs1 hp hw' hcf => ?_)
        obtain ⟨rfl, hX1⟩ := hp
        obtain ⟨hwM, hdis⟩ := jl_other hwM hdis hw' hcf
        have hwX := hw'
        generalize H1 = H at hwX hwM ⊢
        generalize locs1 = locs at hwX hwM ⊢
        clear hw' hcf
        refine lv_aload_n hx hb dL_law_227 rfl (lv_at hl 2 rfl) ?_
        refine lv_aload_n hx hb dL_law_228 rfl (lv_at hl 0 rfl) ?_
        refine lv_iload_n hx hb dL_law_229 rfl (lv_at hl 3 rfl) ?_
        refine lv_iconst (v := nI 1) hx hb dL_law_230 (by decide) ?_
        refine lv_iadd hx hb dL_law_231 ?_
        rw [nI_add]
        refine jl_sld hx hb hX0 hbl hbA hwM.2.2.1 (show 5 * t + 1 < L by omega) (by omega) dL_law_232 ?_
        refine lv_aload_n hx hb dL_law_233 rfl (lv_at hl 0 rfl) ?_
        refine lv_iload_n hx hb dL_law_234 rfl (lv_at hl 3 rfl) ?_
        refine lv_iconst (v := nI 2) hx hb dL_law_235 (by decide) ?_
        refine lv_iadd hx hb dL_law_236 ?_
        rw [nI_add]
        refine jl_sld hx hb hX0 hbl hbA hwM.2.2.1 (show 5 * t + 2 < L by omega) (by omega) dL_law_237 ?_
        have hdis2 : ∀ q ∈ Lm, q ∉ L' := fun q h1 h2 => hdis q h2 h1
        refine cl_L_34 (As := [.int (xs (5 * t + 1)), .int (xs (5 * t + 2))]) (rest := [.long (sp_score As (xs (5 * t + 1)) (xs (5 * t + 2)))]) hx hb hml hown hts hG hwM (c_M_score l D ct hM (by omega)) rfl ⟨Nat.le_of_ble_eq_true rfl, Nat.le_of_ble_eq_true rfl⟩ hyL hfy hl.1 rfl (Nat.le_of_ble_eq_true rfl) dL_law_238 ⟨by show 30 + 3 * t + 0 + 0 ≤ 600000; omega, by show 17000 + 15 * t + 0 + 0 ≤ 7302250; omega⟩ (fun v L2 f2 H1 locs1 hp hw' hcf => ?_)
        obtain ⟨rfl, hM1⟩ := hp
        obtain ⟨hwX, hdis3⟩ := jl_other hwX hdis2 hw' hcf
        have hwM := hw'
        have hdis : ∀ q ∈ L', q ∉ L2 := fun q h1 h2 => hdis3 q h2 h1
        refine W.lcmp hx hb dL_law_241 ?_
        refine lv_if_eq (tgt := 468) hx hb dL_law_242 (by decide) (fun _ => ?_) (fun h => absurd ((lg_cmp_eq _ _).mpr rfl) h)
        refine lv_iinc (v := nI (5 * (t + 1))) (lv' := [(3, .int (nI (5 * (t + 1)))), (0, .ref b), (1, .ref x), (2, .ref y)]) hx hb dL_law_468 hl (k := 3) rfl (by show nI (5 * t) + nI 5 = nI (5 * (t + 1)); rw [nI_add]; rfl) (by decide) rfl (fun ls hl => ?_)
        refine lv_goto (tgt := 18) hx hb dL_law_471 (by decide) ?_
        refine W.widen (k := 30 + 3 * (t + 1)) (n := 17000 + 15 * (t + 1)) (by first | omega | (simp only []; omega)) (by first | omega | (simp only []; omega)) ?_
        exact ih (t + 1) x y _ _ _ _ _ _ _ ls (by omega) (by omega) (hX1.mono (Nat.le_succ _)) (hM1.mono (Nat.le_succ _)) hdis hwX hwM (lv_sub hl [1, 2, 3, 0] rfl)
      · refine lv_tableIn hx hb dL_law_32 (by decide) (by decide) (off := 215) (by decide) (tgt := 247) (by decide) ?_
        refine lv_aload_n hx hb dL_law_247 rfl (lv_at hl 1 rfl) ?_
        refine lv_aload_n hx hb dL_law_248 rfl (lv_at hl 0 rfl) ?_
        refine lv_iload_n hx hb dL_law_249 rfl (lv_at hl 3 rfl) ?_
        refine lv_iconst (v := nI 1) hx hb dL_law_250 (by decide) ?_
        refine lv_iadd hx hb dL_law_251 ?_
        rw [nI_add]
        refine jl_sld hx hb hX0 hbl hbA hwX.2.2.1 (show 5 * t + 1 < L by omega) (by omega) dL_law_252 ?_
        refine lv_aload_n hx hb dL_law_253 rfl (lv_at hl 0 rfl) ?_
        refine lv_iload_n hx hb dL_law_254 rfl (lv_at hl 3 rfl) ?_
        refine lv_iconst (v := nI 2) hx hb dL_law_255 (by decide) ?_
        refine lv_iadd hx hb dL_law_256 ?_
        rw [nI_add]
        refine jl_sld hx hb hX0 hbl hbA hwX.2.2.1 (show 5 * t + 2 < L by omega) (by omega) dL_law_257 ?_
        refine cl_L_35 (As := [.int (xs (5 * t + 1)), .int (xs (5 * t + 2))]) (rest := []) hx hb hml hown hts hG hwX (c_X_rank l D ct hX (by omega)) rfl ⟨Nat.le_of_ble_eq_true rfl, Nat.le_of_ble_eq_true rfl⟩ hxL hfx hl.1 rfl (Nat.le_of_ble_eq_true rfl) dL_law_258 ⟨by show 30 + 3 * t + 0 ≤ 600000; omega, by show 17000 + 15 * t + 0 ≤ 7302250; omega⟩ (fun v L' f' H1 locs1 hp hw' hcf => ?_)
        obtain ⟨rfl, hX1⟩ := hp
        obtain ⟨hwM, hdis⟩ := jl_other hwM hdis hw' hcf
        have hwX := hw'
        generalize H1 = H at hwX hwM ⊢
        generalize locs1 = locs at hwX hwM ⊢
        clear hw' hcf
        refine lv_aload_n hx hb dL_law_261 rfl (lv_at hl 2 rfl) ?_
        refine lv_aload_n hx hb dL_law_262 rfl (lv_at hl 0 rfl) ?_
        refine lv_iload_n hx hb dL_law_263 rfl (lv_at hl 3 rfl) ?_
        refine lv_iconst (v := nI 1) hx hb dL_law_264 (by decide) ?_
        refine lv_iadd hx hb dL_law_265 ?_
        rw [nI_add]
        refine jl_sld hx hb hX0 hbl hbA hwM.2.2.1 (show 5 * t + 1 < L by omega) (by omega) dL_law_266 ?_
        refine lv_aload_n hx hb dL_law_267 rfl (lv_at hl 0 rfl) ?_
        refine lv_iload_n hx hb dL_law_268 rfl (lv_at hl 3 rfl) ?_
        refine lv_iconst (v := nI 2) hx hb dL_law_269 (by decide) ?_
        refine lv_iadd hx hb dL_law_270 ?_
        rw [nI_add]
        refine jl_sld hx hb hX0 hbl hbA hwM.2.2.1 (show 5 * t + 2 < L by omega) (by omega) dL_law_271 ?_
        have hdis2 : ∀ q ∈ Lm, q ∉ L' := fun q h1 h2 => hdis q h2 h1
        refine cl_L_38 (As := [.int (xs (5 * t + 1)), .int (xs (5 * t + 2))]) (rest := [.int (sp_rank As (xs (5 * t + 1)) (xs (5 * t + 2)))]) hx hb hml hown hts hG hwM (c_M_rank l D ct hM (by omega)) rfl ⟨Nat.le_of_ble_eq_true rfl, Nat.le_of_ble_eq_true rfl⟩ hyL hfy hl.1 rfl (Nat.le_of_ble_eq_true rfl) dL_law_272 ⟨by show 30 + 3 * t + 0 + 0 ≤ 600000; omega, by show 17000 + 15 * t + 0 + 0 ≤ 7302250; omega⟩ (fun v L2 f2 H1 locs1 hp hw' hcf => ?_)
        obtain ⟨rfl, hM1⟩ := hp
        obtain ⟨hwX, hdis3⟩ := jl_other hwX hdis2 hw' hcf
        have hwM := hw'
        have hdis : ∀ q ∈ L', q ∉ L2 := fun q h1 h2 => hdis3 q h2 h1
        refine lv_icmp_eq (tgt := 468) hx hb dL_law_275 (by decide) (fun _ => ?_) (fun h => absurd rfl h)
        refine lv_iinc (v := nI (5 * (t + 1))) (lv' := [(3, .int (nI (5 * (t + 1)))), (0, .ref b), (1, .ref x), (2, .ref y)]) hx hb dL_law_468 hl (k := 3) rfl (by show nI (5 * t) + nI 5 = nI (5 * (t + 1)); rw [nI_add]; rfl) (by decide) rfl (fun ls hl => ?_)
        refine lv_goto (tgt := 18) hx hb dL_law_471 (by decide) ?_
        refine W.widen (k := 30 + 3 * (t + 1)) (n := 17000 + 15 * (t + 1)) (by first | omega | (simp only []; omega)) (by first | omega | (simp only []; omega)) ?_
        exact ih (t + 1) x y _ _ _ _ _ _ _ ls (by omega) (by omega) (hX1.mono (Nat.le_succ _)) (hM1.mono (Nat.le_succ _)) hdis hwX hwM (lv_sub hl [1, 2, 3, 0] rfl)
      · refine lv_tableIn hx hb dL_law_32 (by decide) (by decide) (off := 248) (by decide) (tgt := 280) (by decide) ?_
        refine lv_aload_n hx hb dL_law_280 rfl (lv_at hl 1 rfl) ?_
        refine lv_aload_n hx hb dL_law_281 rfl (lv_at hl 0 rfl) ?_
        refine lv_iload_n hx hb dL_law_282 rfl (lv_at hl 3 rfl) ?_
        refine lv_iconst (v := nI 1) hx hb dL_law_283 (by decide) ?_
        refine lv_iadd hx hb dL_law_284 ?_
        rw [nI_add]
        refine jl_sld hx hb hX0 hbl hbA hwX.2.2.1 (show 5 * t + 1 < L by omega) (by omega) dL_law_285 ?_
        refine lv_aload_n hx hb dL_law_286 rfl (lv_at hl 0 rfl) ?_
        refine lv_iload_n hx hb dL_law_287 rfl (lv_at hl 3 rfl) ?_
        refine lv_iconst (v := nI 2) hx hb dL_law_288 (by decide) ?_
        refine lv_iadd hx hb dL_law_289 ?_
        rw [nI_add]
        refine jl_sld hx hb hX0 hbl hbA hwX.2.2.1 (show 5 * t + 2 < L by omega) (by omega) dL_law_290 ?_
        refine cl_L_39 (As := [.int (xs (5 * t + 1)), .int (xs (5 * t + 2))]) (rest := []) hx hb hml hown hts hG hwX (c_X_at l D ct hX (by omega)) rfl ⟨Nat.le_of_ble_eq_true rfl, Nat.le_of_ble_eq_true rfl⟩ hxL hfx hl.1 rfl (Nat.le_of_ble_eq_true rfl) dL_law_291 ⟨by show 30 + 3 * t + 0 ≤ 600000; omega, by show 17000 + 15 * t + 0 ≤ 7302250; omega⟩ (fun v L' f' H1 locs1 hp hw' hcf => ?_)
        obtain ⟨rfl, hX1⟩ := hp
        obtain ⟨hwM, hdis⟩ := jl_other hwM hdis hw' hcf
        have hwX := hw'
        generalize H1 = H at hwX hwM ⊢
        generalize locs1 = locs at hwX hwM ⊢
        clear hw' hcf
        refine lv_aload_n hx hb dL_law_294 rfl (lv_at hl 2 rfl) ?_
        refine lv_aload_n hx hb dL_law_295 rfl (lv_at hl 0 rfl) ?_
        refine lv_iload_n hx hb dL_law_296 rfl (lv_at hl 3 rfl) ?_
        refine lv_iconst (v := nI 1) hx hb dL_law_297 (by decide) ?_
        refine lv_iadd hx hb dL_law_298 ?_
        rw [nI_add]
        refine jl_sld hx hb hX0 hbl hbA hwM.2.2.1 (show 5 * t + 1 < L by omega) (by omega) dL_law_299 ?_
        refine lv_aload_n hx hb dL_law_300 rfl (lv_at hl 0 rfl) ?_
        refine lv_iload_n hx hb dL_law_301 rfl (lv_at hl 3 rfl) ?_
        refine lv_iconst (v := nI 2) hx hb dL_law_302 (by decide) ?_
        refine lv_iadd hx hb dL_law_303 ?_
        rw [nI_add]
        refine jl_sld hx hb hX0 hbl hbA hwM.2.2.1 (show 5 * t + 2 < L by omega) (by omega) dL_law_304 ?_
        have hdis2 : ∀ q ∈ Lm, q ∉ L' := fun q h1 h2 => hdis q h2 h1
        refine cl_L_42 (As := [.int (xs (5 * t + 1)), .int (xs (5 * t + 2))]) (rest := [.int (sp_at As (xs (5 * t + 1)) (xs (5 * t + 2)))]) hx hb hml hown hts hG hwM (c_M_at l D ct hM (by omega)) rfl ⟨Nat.le_of_ble_eq_true rfl, Nat.le_of_ble_eq_true rfl⟩ hyL hfy hl.1 rfl (Nat.le_of_ble_eq_true rfl) dL_law_305 ⟨by show 30 + 3 * t + 0 + 0 ≤ 600000; omega, by show 17000 + 15 * t + 0 + 0 ≤ 7302250; omega⟩ (fun v L2 f2 H1 locs1 hp hw' hcf => ?_)
        obtain ⟨rfl, hM1⟩ := hp
        obtain ⟨hwX, hdis3⟩ := jl_other hwX hdis2 hw' hcf
        have hwM := hw'
        have hdis : ∀ q ∈ L', q ∉ L2 := fun q h1 h2 => hdis3 q h2 h1
        refine lv_icmp_eq (tgt := 468) hx hb dL_law_308 (by decide) (fun _ => ?_) (fun h => absurd rfl h)
        refine lv_iinc (v := nI (5 * (t + 1))) (lv' := [(3, .int (nI (5 * (t + 1)))), (0, .ref b), (1, .ref x), (2, .ref y)]) hx hb dL_law_468 hl (k := 3) rfl (by show nI (5 * t) + nI 5 = nI (5 * (t + 1)); rw [nI_add]; rfl) (by decide) rfl (fun ls hl => ?_)
        refine lv_goto (tgt := 18) hx hb dL_law_471 (by decide) ?_
        refine W.widen (k := 30 + 3 * (t + 1)) (n := 17000 + 15 * (t + 1)) (by first | omega | (simp only []; omega)) (by first | omega | (simp only []; omega)) ?_
        exact ih (t + 1) x y _ _ _ _ _ _ _ ls (by omega) (by omega) (hX1.mono (Nat.le_succ _)) (hM1.mono (Nat.le_succ _)) hdis hwX hwM (lv_sub hl [1, 2, 3, 0] rfl)
      · refine lv_tableIn hx hb dL_law_32 (by decide) (by decide) (off := 281) (by decide) (tgt := 313) (by decide) ?_
        refine lv_aload_n hx hb dL_law_313 rfl (lv_at hl 1 rfl) ?_
        refine lv_aload_n hx hb dL_law_314 rfl (lv_at hl 0 rfl) ?_
        refine lv_iload_n hx hb dL_law_315 rfl (lv_at hl 3 rfl) ?_
        refine lv_iconst (v := nI 1) hx hb dL_law_316 (by decide) ?_
        refine lv_iadd hx hb dL_law_317 ?_
        rw [nI_add]
        refine jl_sld hx hb hX0 hbl hbA hwX.2.2.1 (show 5 * t + 1 < L by omega) (by omega) dL_law_318 ?_
        refine lv_aload_n hx hb dL_law_319 rfl (lv_at hl 0 rfl) ?_
        refine lv_iload_n hx hb dL_law_320 rfl (lv_at hl 3 rfl) ?_
        refine lv_iconst (v := nI 2) hx hb dL_law_321 (by decide) ?_
        refine lv_iadd hx hb dL_law_322 ?_
        rw [nI_add]
        refine jl_sld hx hb hX0 hbl hbA hwX.2.2.1 (show 5 * t + 2 < L by omega) (by omega) dL_law_323 ?_
        refine lv_i2l hx hb dL_law_324 rfl ?_
        refine lv_bipush (v := 32) hx hb dL_law_325 (by decide) ?_
        refine lv_lshl hx hb dL_law_327 rfl ?_
        refine lv_aload_n hx hb dL_law_328 rfl (lv_at hl 0 rfl) ?_
        refine lv_iload_n hx hb dL_law_329 rfl (lv_at hl 3 rfl) ?_
        refine lv_iconst (v := nI 3) hx hb dL_law_330 (by decide) ?_
        refine lv_iadd hx hb dL_law_331 ?_
        rw [nI_add]
        refine jl_sld hx hb hX0 hbl hbA hwX.2.2.1 (show 5 * t + 3 < L by omega) (by omega) dL_law_332 ?_
        refine lv_i2l hx hb dL_law_333 rfl ?_
        refine lv_ldc2 (own := RL) (v := 4294967295) hx hb hown (hts (.constantLong RL 13 4294967295) (by decide +kernel)) dL_law_334 ?_
        refine lv_land hx hb dL_law_337 ?_
        refine lv_lor hx hb dL_law_338 ?_
        refine lv_topl (fun sc esc => ?_)
        refine lv_aload_n hx hb dL_law_339 rfl (lv_at hl 0 rfl) ?_
        refine lv_iload_n hx hb dL_law_340 rfl (lv_at hl 3 rfl) ?_
        refine lv_iconst (v := nI 4) hx hb dL_law_341 (by decide) ?_
        refine lv_iadd hx hb dL_law_342 ?_
        rw [nI_add]
        refine jl_sld hx hb hX0 hbl hbA hwX.2.2.1 (show 5 * t + 4 < L by omega) (by omega) dL_law_343 ?_
        refine lv_if_eq (tgt := 351) hx hb dL_law_344 (by decide) (fun h0 => ?_) (fun h0 => ?_)
        · refine lv_iconst (v := 0) hx hb dL_law_351 (by decide) ?_
          refine cl_L_43 (As := [.int (xs (5 * t + 1)), .long sc, .int 0]) (rest := []) hx hb hml hown hts hG hwX (c_X_below l D ct hX (by omega)) rfl ⟨Nat.le_of_ble_eq_true rfl, Nat.le_of_ble_eq_true rfl⟩ hxL hfx hl.1 rfl (Nat.le_of_ble_eq_true rfl) dL_law_352 ⟨by show 30 + 3 * t + 0 ≤ 600000; omega, by show 17000 + 15 * t + 0 ≤ 7302250; omega⟩ (fun v L' f' H1 locs1 hp hw' hcf => ?_)
          obtain ⟨rfl, hX1⟩ := hp
          obtain ⟨hwM, hdis⟩ := jl_other hwM hdis hw' hcf
          have hwX := hw'
          generalize H1 = H at hwX hwM ⊢
          generalize locs1 = locs at hwX hwM ⊢
          clear hw' hcf
          refine lv_aload_n hx hb dL_law_355 rfl (lv_at hl 2 rfl) ?_
          refine lv_aload_n hx hb dL_law_356 rfl (lv_at hl 0 rfl) ?_
          refine lv_iload_n hx hb dL_law_357 rfl (lv_at hl 3 rfl) ?_
          refine lv_iconst (v := nI 1) hx hb dL_law_358 (by decide) ?_
          refine lv_iadd hx hb dL_law_359 ?_
          rw [nI_add]
          refine jl_sld hx hb hX0 hbl hbA hwM.2.2.1 (show 5 * t + 1 < L by omega) (by omega) dL_law_360 ?_
          refine lv_aload_n hx hb dL_law_361 rfl (lv_at hl 0 rfl) ?_
          refine lv_iload_n hx hb dL_law_362 rfl (lv_at hl 3 rfl) ?_
          refine lv_iconst (v := nI 2) hx hb dL_law_363 (by decide) ?_
          refine lv_iadd hx hb dL_law_364 ?_
          rw [nI_add]
          refine jl_sld hx hb hX0 hbl hbA hwM.2.2.1 (show 5 * t + 2 < L by omega) (by omega) dL_law_365 ?_
          refine lv_i2l hx hb dL_law_366 rfl ?_
          refine lv_bipush (v := 32) hx hb dL_law_367 (by decide) ?_
          refine lv_lshl hx hb dL_law_369 rfl ?_
          refine lv_aload_n hx hb dL_law_370 rfl (lv_at hl 0 rfl) ?_
          refine lv_iload_n hx hb dL_law_371 rfl (lv_at hl 3 rfl) ?_
          refine lv_iconst (v := nI 3) hx hb dL_law_372 (by decide) ?_
          refine lv_iadd hx hb dL_law_373 ?_
          rw [nI_add]
          refine jl_sld hx hb hX0 hbl hbA hwM.2.2.1 (show 5 * t + 3 < L by omega) (by omega) dL_law_374 ?_
          refine lv_i2l hx hb dL_law_375 rfl ?_
          refine lv_ldc2 (own := RL) (v := 4294967295) hx hb hown (hts (.constantLong RL 13 4294967295) (by decide +kernel)) dL_law_376 ?_
          refine lv_land hx hb dL_law_379 ?_
          refine lv_lor hx hb dL_law_380 ?_
          refine lv_topl (fun sc2 esc2 => ?_)
          refine lv_aload_n hx hb dL_law_381 rfl (lv_at hl 0 rfl) ?_
          refine lv_iload_n hx hb dL_law_382 rfl (lv_at hl 3 rfl) ?_
          refine lv_iconst (v := nI 4) hx hb dL_law_383 (by decide) ?_
          refine lv_iadd hx hb dL_law_384 ?_
          rw [nI_add]
          refine jl_sld hx hb hX0 hbl hbA hwM.2.2.1 (show 5 * t + 4 < L by omega) (by omega) dL_law_385 ?_
          rw [show sc2 = sc from esc2.trans esc.symm]
          refine lv_if_eq (tgt := 393) hx hb dL_law_386 (by decide) (fun _ => ?_) (fun h => absurd h0 h)
          refine lv_iconst (v := 0) hx hb dL_law_393 (by decide) ?_
          have hdis2 : ∀ q ∈ Lm, q ∉ L' := fun q h1 h2 => hdis q h2 h1
          refine cl_L_47 (As := [.int (xs (5 * t + 1)), .long sc, .int 0]) (rest := [.int (sp_below As (xs (5 * t + 1)) sc 0)]) hx hb hml hown hts hG hwM (c_M_below l D ct hM (by omega)) rfl ⟨Nat.le_of_ble_eq_true rfl, Nat.le_of_ble_eq_true rfl⟩ hyL hfy hl.1 rfl (Nat.le_of_ble_eq_true rfl) dL_law_394 ⟨by show 30 + 3 * t + 0 + 0 ≤ 600000; omega, by show 17000 + 15 * t + 0 + 0 ≤ 7302250; omega⟩ (fun v L2 f2 H1 locs1 hp hw' hcf => ?_)
          obtain ⟨rfl, hM1⟩ := hp
          obtain ⟨hwX, hdis3⟩ := jl_other hwX hdis2 hw' hcf
          have hwM := hw'
          have hdis : ∀ q ∈ L', q ∉ L2 := fun q h1 h2 => hdis3 q h2 h1
          refine lv_icmp_eq (tgt := 468) hx hb dL_law_397 (by decide) (fun _ => ?_) (fun h => absurd rfl h)
          refine lv_iinc (v := nI (5 * (t + 1))) (lv' := [(3, .int (nI (5 * (t + 1)))), (0, .ref b), (1, .ref x), (2, .ref y)]) hx hb dL_law_468 hl (k := 3) rfl (by show nI (5 * t) + nI 5 = nI (5 * (t + 1)); rw [nI_add]; rfl) (by decide) rfl (fun ls hl => ?_)
          refine lv_goto (tgt := 18) hx hb dL_law_471 (by decide) ?_
          refine W.widen (k := 30 + 3 * (t + 1)) (n := 17000 + 15 * (t + 1)) (by first | omega | (simp only []; omega)) (by first | omega | (simp only []; omega)) ?_
          exact ih (t + 1) x y _ _ _ _ _ _ _ ls (by omega) (by omega) (hX1.mono (Nat.le_succ _)) (hM1.mono (Nat.le_succ _)) hdis hwX hwM (lv_sub hl [1, 2, 3, 0] rfl)
        · refine lv_iconst (v := 1) hx hb dL_law_347 (by decide) ?_
          refine lv_goto (tgt := 352) hx hb dL_law_348 (by decide) ?_
          refine cl_L_43 (As := [.int (xs (5 * t + 1)), .long sc, .int 1]) (rest := []) hx hb hml hown hts hG hwX (c_X_below l D ct hX (by omega)) rfl ⟨Nat.le_of_ble_eq_true rfl, Nat.le_of_ble_eq_true rfl⟩ hxL hfx hl.1 rfl (Nat.le_of_ble_eq_true rfl) dL_law_352 ⟨by show 30 + 3 * t + 0 ≤ 600000; omega, by show 17000 + 15 * t + 0 ≤ 7302250; omega⟩ (fun v L' f' H1 locs1 hp hw' hcf => ?_)
          obtain ⟨rfl, hX1⟩ := hp
          obtain ⟨hwM, hdis⟩ := jl_other hwM hdis hw' hcf
          have hwX := hw'
          generalize H1 = H at hwX hwM ⊢
          generalize locs1 = locs at hwX hwM ⊢
          clear hw' hcf
          refine lv_aload_n hx hb dL_law_355 rfl (lv_at hl 2 rfl) ?_
          refine lv_aload_n hx hb dL_law_356 rfl (lv_at hl 0 rfl) ?_
          refine lv_iload_n hx hb dL_law_357 rfl (lv_at hl 3 rfl) ?_
          refine lv_iconst (v := nI 1) hx hb dL_law_358 (by decide) ?_
          refine lv_iadd hx hb dL_law_359 ?_
          rw [nI_add]
          refine jl_sld hx hb hX0 hbl hbA hwM.2.2.1 (show 5 * t + 1 < L by omega) (by omega) dL_law_360 ?_
          refine lv_aload_n hx hb dL_law_361 rfl (lv_at hl 0 rfl) ?_
          refine lv_iload_n hx hb dL_law_362 rfl (lv_at hl 3 rfl) ?_
          refine lv_iconst (v := nI 2) hx hb dL_law_363 (by decide) ?_
          refine lv_iadd hx hb dL_law_364 ?_
          rw [nI_add]
          refine jl_sld hx hb hX0 hbl hbA hwM.2.2.1 (show 5 * t + 2 < L by omega) (by omega) dL_law_365 ?_
          refine lv_i2l hx hb dL_law_366 rfl ?_
          refine lv_bipush (v := 32) hx hb dL_law_367 (by decide) ?_
          refine lv_lshl hx hb dL_law_369 rfl ?_
          refine lv_aload_n hx hb dL_law_370 rfl (lv_at hl 0 rfl) ?_
          refine lv_iload_n hx hb dL_law_371 rfl (lv_at hl 3 rfl) ?_
          refine lv_iconst (v := nI 3) hx hb dL_law_372 (by decide) ?_
          refine lv_iadd hx hb dL_law_373 ?_
          rw [nI_add]
          refine jl_sld hx hb hX0 hbl hbA hwM.2.2.1 (show 5 * t + 3 < L by omega) (by omega) dL_law_374 ?_
          refine lv_i2l hx hb dL_law_375 rfl ?_
          refine lv_ldc2 (own := RL) (v := 4294967295) hx hb hown (hts (.constantLong RL 13 4294967295) (by decide +kernel)) dL_law_376 ?_
          refine lv_land hx hb dL_law_379 ?_
          refine lv_lor hx hb dL_law_380 ?_
          refine lv_topl (fun sc2 esc2 => ?_)
          refine lv_aload_n hx hb dL_law_381 rfl (lv_at hl 0 rfl) ?_
          refine lv_iload_n hx hb dL_law_382 rfl (lv_at hl 3 rfl) ?_
          refine lv_iconst (v := nI 4) hx hb dL_law_383 (by decide) ?_
          refine lv_iadd hx hb dL_law_384 ?_
          rw [nI_add]
          refine jl_sld hx hb hX0 hbl hbA hwM.2.2.1 (show 5 * t + 4 < L by omega) (by omega) dL_law_385 ?_
          rw [show sc2 = sc from esc2.trans esc.symm]
          refine lv_if_eq (tgt := 393) hx hb dL_law_386 (by decide) (fun h => absurd h h0) (fun _ => ?_)
          refine lv_iconst (v := 1) hx hb dL_law_389 (by decide) ?_
          refine lv_goto (tgt := 394) hx hb dL_law_390 (by decide) ?_
          have hdis2 : ∀ q ∈ Lm, q ∉ L' := fun q h1 h2 => hdis q h2 h1
          refine cl_L_47 (As := [.int (xs (5 * t + 1)), .long sc, .int 1]) (rest := [.int (sp_below As (xs (5 * t + 1)) sc 1)]) hx hb hml hown hts hG hwM (c_M_below l D ct hM (by omega)) rfl ⟨Nat.le_of_ble_eq_true rfl, Nat.le_of_ble_eq_true rfl⟩ hyL hfy hl.1 rfl (Nat.le_of_ble_eq_true rfl) dL_law_394 ⟨by show 30 + 3 * t + 0 + 0 ≤ 600000; omega, by show 17000 + 15 * t + 0 + 0 ≤ 7302250; omega⟩ (fun v L2 f2 H1 locs1 hp hw' hcf => ?_)
          obtain ⟨rfl, hM1⟩ := hp
          obtain ⟨hwX, hdis3⟩ := jl_other hwX hdis2 hw' hcf
          have hwM := hw'
          have hdis : ∀ q ∈ L', q ∉ L2 := fun q h1 h2 => hdis3 q h2 h1
          refine lv_icmp_eq (tgt := 468) hx hb dL_law_397 (by decide) (fun _ => ?_) (fun h => absurd rfl h)
          refine lv_iinc (v := nI (5 * (t + 1))) (lv' := [(3, .int (nI (5 * (t + 1)))), (0, .ref b), (1, .ref x), (2, .ref y)]) hx hb dL_law_468 hl (k := 3) rfl (by show nI (5 * t) + nI 5 = nI (5 * (t + 1)); rw [nI_add]; rfl) (by decide) rfl (fun ls hl => ?_)
          refine lv_goto (tgt := 18) hx hb dL_law_471 (by decide) ?_
          refine W.widen (k := 30 + 3 * (t + 1)) (n := 17000 + 15 * (t + 1)) (by first | omega | (simp only []; omega)) (by first | omega | (simp only []; omega)) ?_
          exact ih (t + 1) x y _ _ _ _ _ _ _ ls (by omega) (by omega) (hX1.mono (Nat.le_succ _)) (hM1.mono (Nat.le_succ _)) hdis hwX hwM (lv_sub hl [1, 2, 3, 0] rfl)
      · refine lv_tableIn hx hb dL_law_32 (by decide) (by decide) (off := 370) (by decide) (tgt := 402) (by decide) ?_
        refine lv_aload_n hx hb dL_law_402 rfl (lv_at hl 1 rfl) ?_
        refine lv_aload_n hx hb dL_law_403 rfl (lv_at hl 0 rfl) ?_
        refine lv_iload_n hx hb dL_law_404 rfl (lv_at hl 3 rfl) ?_
        refine lv_iconst (v := nI 1) hx hb dL_law_405 (by decide) ?_
        refine lv_iadd hx hb dL_law_406 ?_
        rw [nI_add]
        refine jl_sld hx hb hX0 hbl hbA hwX.2.2.1 (show 5 * t + 1 < L by omega) (by omega) dL_law_407 ?_
        refine cl_L_48 (As := [.int (xs (5 * t + 1))]) (rest := []) hx hb hml hown hts hG hwX (c_X_size l D ct hX (by omega)) rfl ⟨Nat.le_of_ble_eq_true rfl, Nat.le_of_ble_eq_true rfl⟩ hxL hfx hl.1 rfl (Nat.le_of_ble_eq_true rfl) dL_law_408 ⟨by show 30 + 3 * t + 0 ≤ 600000; omega, by show 17000 + 15 * t + 0 ≤ 7302250; omega⟩ (fun v L' f' H1 locs1 hp hw' hcf => ?_)
        obtain ⟨rfl, hX1⟩ := hp
        obtain ⟨hwM, hdis⟩ := jl_other hwM hdis hw' hcf
        have hwX := hw'
        generalize H1 = H at hwX hwM ⊢
        generalize locs1 = locs at hwX hwM ⊢
        clear hw' hcf
        refine lv_aload_n hx hb dL_law_411 rfl (lv_at hl 2 rfl) ?_
        refine lv_aload_n hx hb dL_law_412 rfl (lv_at hl 0 rfl) ?_
        refine lv_iload_n hx hb dL_law_413 rfl (lv_at hl 3 rfl) ?_
        refine lv_iconst (v := nI 1) hx hb dL_law_414 (by decide) ?_
        refine lv_iadd hx hb dL_law_415 ?_
        rw [nI_add]
        refine jl_sld hx hb hX0 hbl hbA hwM.2.2.1 (show 5 * t + 1 < L by omega) (by omega) dL_law_416 ?_
        have hdis2 : ∀ q ∈ Lm, q ∉ L' := fun q h1 h2 => hdis q h2 h1
        refine cl_L_51 (As := [.int (xs (5 * t + 1))]) (rest := [.int (sp_size As (xs (5 * t + 1)))]) hx hb hml hown hts hG hwM (c_M_size l D ct hM (by omega)) rfl ⟨Nat.le_of_ble_eq_true rfl, Nat.le_of_ble_eq_true rfl⟩ hyL hfy hl.1 rfl (Nat.le_of_ble_eq_true rfl) dL_law_417 ⟨by show 30 + 3 * t + 0 + 0 ≤ 600000; omega, by show 17000 + 15 * t + 0 + 0 ≤ 7302250; omega⟩ (fun v L2 f2 H1 locs1 hp hw' hcf => ?_)
        obtain ⟨rfl, hM1⟩ := hp
        obtain ⟨hwX, hdis3⟩ := jl_other hwX hdis2 hw' hcf
        have hwM := hw'
        have hdis : ∀ q ∈ L', q ∉ L2 := fun q h1 h2 => hdis3 q h2 h1
        refine lv_icmp_eq (tgt := 468) hx hb dL_law_420 (by decide) (fun _ => ?_) (fun h => absurd rfl h)
        refine lv_iinc (v := nI (5 * (t + 1))) (lv' := [(3, .int (nI (5 * (t + 1)))), (0, .ref b), (1, .ref x), (2, .ref y)]) hx hb dL_law_468 hl (k := 3) rfl (by show nI (5 * t) + nI 5 = nI (5 * (t + 1)); rw [nI_add]; rfl) (by decide) rfl (fun ls hl => ?_)
        refine lv_goto (tgt := 18) hx hb dL_law_471 (by decide) ?_
        refine W.widen (k := 30 + 3 * (t + 1)) (n := 17000 + 15 * (t + 1)) (by first | omega | (simp only []; omega)) (by first | omega | (simp only []; omega)) ?_
        exact ih (t + 1) x y _ _ _ _ _ _ _ ls (by omega) (by omega) (hX1.mono (Nat.le_succ _)) (hM1.mono (Nat.le_succ _)) hdis hwX hwM (lv_sub hl [1, 2, 3, 0] rfl)
      · refine lv_tableIn hx hb dL_law_32 (by decide) (by decide) (off := 393) (by decide) (tgt := 425) (by decide) ?_
        refine lv_aload_n hx hb dL_law_425 rfl (lv_at hl 1 rfl) ?_
        refine lv_aload_n hx hb dL_law_426 rfl (lv_at hl 0 rfl) ?_
        refine lv_iload_n hx hb dL_law_427 rfl (lv_at hl 3 rfl) ?_
        refine lv_iconst (v := nI 1) hx hb dL_law_428 (by decide) ?_
        refine lv_iadd hx hb dL_law_429 ?_
        rw [nI_add]
        refine jl_sld hx hb hX0 hbl hbA hwX.2.2.1 (show 5 * t + 1 < L by omega) (by omega) dL_law_430 ?_
        refine lv_aload_n hx hb dL_law_431 rfl (lv_at hl 0 rfl) ?_
        refine lv_iload_n hx hb dL_law_432 rfl (lv_at hl 3 rfl) ?_
        refine lv_iconst (v := nI 2) hx hb dL_law_433 (by decide) ?_
        refine lv_iadd hx hb dL_law_434 ?_
        rw [nI_add]
        refine jl_sld hx hb hX0 hbl hbA hwX.2.2.1 (show 5 * t + 2 < L by omega) (by omega) dL_law_435 ?_
        refine lv_aload_n hx hb dL_law_436 rfl (lv_at hl 0 rfl) ?_
        refine lv_iload_n hx hb dL_law_437 rfl (lv_at hl 3 rfl) ?_
        refine lv_iconst (v := nI 3) hx hb dL_law_438 (by decide) ?_
        refine lv_iadd hx hb dL_law_439 ?_
        rw [nI_add]
        refine jl_sld hx hb hX0 hbl hbA hwX.2.2.1 (show 5 * t + 3 < L by omega) (by omega) dL_law_440 ?_
        refine cl_L_52 (As := [.int (xs (5 * t + 1)), .int (xs (5 * t + 2)), .int (xs (5 * t + 3))]) (rest := []) hx hb hml hown hts hG hwX (c_X_walk l D ct hX (by omega)) rfl ⟨Nat.le_of_ble_eq_true rfl, Nat.le_of_ble_eq_true rfl⟩ hxL hfx hl.1 rfl (Nat.le_of_ble_eq_true rfl) dL_law_441 ⟨by show 30 + 3 * t + 0 ≤ 600000; omega, by show 17000 + 15 * t + 0 ≤ 7302250; omega⟩ (fun v L' f' H1 locs1 hp hw' hcf => ?_)
        obtain ⟨rfl, hX1⟩ := hp
        obtain ⟨hwM, hdis⟩ := jl_other hwM hdis hw' hcf
        have hwX := hw'
        generalize H1 = H at hwX hwM ⊢
        generalize locs1 = locs at hwX hwM ⊢
        clear hw' hcf
        refine lv_aload_n hx hb dL_law_444 rfl (lv_at hl 2 rfl) ?_
        refine lv_aload_n hx hb dL_law_445 rfl (lv_at hl 0 rfl) ?_
        refine lv_iload_n hx hb dL_law_446 rfl (lv_at hl 3 rfl) ?_
        refine lv_iconst (v := nI 1) hx hb dL_law_447 (by decide) ?_
        refine lv_iadd hx hb dL_law_448 ?_
        rw [nI_add]
        refine jl_sld hx hb hX0 hbl hbA hwM.2.2.1 (show 5 * t + 1 < L by omega) (by omega) dL_law_449 ?_
        refine lv_aload_n hx hb dL_law_450 rfl (lv_at hl 0 rfl) ?_
        refine lv_iload_n hx hb dL_law_451 rfl (lv_at hl 3 rfl) ?_
        refine lv_iconst (v := nI 2) hx hb dL_law_452 (by decide) ?_
        refine lv_iadd hx hb dL_law_453 ?_
        rw [nI_add]
        refine jl_sld hx hb hX0 hbl hbA hwM.2.2.1 (show 5 * t + 2 < L by omega) (by omega) dL_law_454 ?_
        refine lv_aload_n hx hb dL_law_455 rfl (lv_at hl 0 rfl) ?_
        refine lv_iload_n hx hb dL_law_456 rfl (lv_at hl 3 rfl) ?_
        refine lv_iconst (v := nI 3) hx hb dL_law_457 (by decide) ?_
        refine lv_iadd hx hb dL_law_458 ?_
        rw [nI_add]
        refine jl_sld hx hb hX0 hbl hbA hwM.2.2.1 (show 5 * t + 3 < L by omega) (by omega) dL_law_459 ?_
        have hdis2 : ∀ q ∈ Lm, q ∉ L' := fun q h1 h2 => hdis q h2 h1
        refine cl_L_56 (As := [.int (xs (5 * t + 1)), .int (xs (5 * t + 2)), .int (xs (5 * t + 3))]) (rest := [.int (sp_walk As (xs (5 * t + 1)) (xs (5 * t + 2)) (xs (5 * t + 3)))]) hx hb hml hown hts hG hwM (c_M_walk l D ct hM (by omega)) rfl ⟨Nat.le_of_ble_eq_true rfl, Nat.le_of_ble_eq_true rfl⟩ hyL hfy hl.1 rfl (Nat.le_of_ble_eq_true rfl) dL_law_460 ⟨by show 30 + 3 * t + 0 + 0 ≤ 600000; omega, by show 17000 + 15 * t + 0 + 0 ≤ 7302250; omega⟩ (fun v L2 f2 H1 locs1 hp hw' hcf => ?_)
        obtain ⟨rfl, hM1⟩ := hp
        obtain ⟨hwX, hdis3⟩ := jl_other hwX hdis2 hw' hcf
        have hwM := hw'
        have hdis : ∀ q ∈ L', q ∉ L2 := fun q h1 h2 => hdis3 q h2 h1
        refine lv_icmp_eq (tgt := 468) hx hb dL_law_463 (by decide) (fun _ => ?_) (fun h => absurd rfl h)
        refine lv_iinc (v := nI (5 * (t + 1))) (lv' := [(3, .int (nI (5 * (t + 1)))), (0, .ref b), (1, .ref x), (2, .ref y)]) hx hb dL_law_468 hl (k := 3) rfl (by show nI (5 * t) + nI 5 = nI (5 * (t + 1)); rw [nI_add]; rfl) (by decide) rfl (fun ls hl => ?_)
        refine lv_goto (tgt := 18) hx hb dL_law_471 (by decide) ?_
        refine W.widen (k := 30 + 3 * (t + 1)) (n := 17000 + 15 * (t + 1)) (by first | omega | (simp only []; omega)) (by first | omega | (simp only []; omega)) ?_
        exact ih (t + 1) x y _ _ _ _ _ _ _ ls (by omega) (by omega) (hX1.mono (Nat.le_succ _)) (hM1.mono (Nat.le_succ _)) hdis hwX hwM (lv_sub hl [1, 2, 3, 0] rfl)
      · refine lv_tableOut (tgt := 468) hx hb dL_law_32 (Or.inr (by rw [nI_toInt (by omega)]; omega)) (by decide) ?_
        refine lv_iinc (v := nI (5 * (t + 1))) (lv' := [(3, .int (nI (5 * (t + 1)))), (0, .ref b), (1, .ref x), (2, .ref y)]) hx hb dL_law_468 hl (k := 3) rfl (by show nI (5 * t) + nI 5 = nI (5 * (t + 1)); rw [nI_add]; rfl) (by decide) rfl (fun ls hl => ?_)
        refine lv_goto (tgt := 18) hx hb dL_law_471 (by decide) ?_
        refine W.widen (k := 30 + 3 * (t + 1)) (n := 17000 + 15 * (t + 1)) (by first | omega | (simp only []; omega)) (by first | omega | (simp only []; omega)) ?_
        exact ih (t + 1) x y _ _ _ _ _ _ _ ls (by omega) (by omega) (hX.mono (Nat.le_succ _)) (hM.mono (Nat.le_succ _)) hdis hwX hwM (lv_sub hl [1, 2, 3, 0] rfl)
set_option maxHeartbeats 4000000 in
set_option maxRecDepth 100000 in
theorem whole_start {p : Program} {e : Env} {s : State} {m : MethodId} {below : List Frame} {meth : Method} {c : Code} (l : Launch) {b L : Nat} {xs : Nat → Int32} (hL : L ≤ 2560) (C0 : lw_At p s m meth c b L xs) : W p l e room_1 s m #[Value.ref b] below meth c s.heap [] 0 0 (lw_Z below #[Value.ref b] s) (entryFrame m ([Value.ref b] : List Value).toArray 4) := by
  obtain ⟨hx, hb, hr, hml, hown, hts0, hX0, hbl, hlocks, hgv⟩ := id C0
  obtain ⟨D, ct, hG⟩ := jl_G hts0
  have hts : ∀ w ∈ jz_TT, w.before #[Value.ref b] s = true := fun w h => hts0 w (List.mem_filter.mp h).1
  have hw : jz_w D (fun q : Nat => s.heap.size ≤ q) s.heap [] (fun _ => .inr (0, [])) s.heap [] := ⟨fun k q h => by simp [va_pl] at h, ⟨fun i j p q h => by simp [va_pl] at h, fun k q h => by simp [va_pl] at h⟩, va_S.rf, fun _ h => h⟩
  have hl := lv_entry ([.ref b]) (n := 4) (Nat.le_of_ble_eq_true rfl)
  rw [lg_entry_eq]
  generalize (lg_sl ([.ref b]) ++ List.replicate (4 - (lg_sl ([.ref b])).length) Slot.unset).toArray = ls at hl ⊢
  have hl : lv_has ls 4 [(0, .ref b)] := hl
  refine jx_new (own := RL) (C := RX2) (T := TX2) (N := 1) (ci := 0) (fs := [.null]) hx hb hts jz_inX tyX2 tyX2_ok hown (by decide +kernel) (by decide +kernel) (by decide +kernel) hG hw rfl (fun j hj => by rcases (show j = 0 by omega) with rfl; rfl) (Nat.le_of_ble_eq_true rfl) (Nat.le_of_ble_eq_true rfl) dL_law_0 (fun x H hxN hw => ?_)
  refine lv_dup hx hb dL_law_3 rfl ?_
  refine cl_L_9 (As := []) (rest := [.ref x]) hx hb hml hown hts hG hw (c_X_init l D ct (List.mem_append_right _ (List.mem_singleton.mpr rfl)) (va_up_self _ _ _)) rfl ⟨Nat.le_of_ble_eq_true rfl, Nat.le_of_ble_eq_true rfl⟩ hl.1 rfl (Nat.le_of_ble_eq_true rfl) dL_law_4 ⟨Nat.le_of_ble_eq_true rfl, Nat.le_of_ble_eq_true rfl⟩ (fun v Lx fx H1 locs1 hp hw hcf => ?_)
  obtain ⟨rfl, hX⟩ := hp
  refine lv_astore_n (lv' := [(1, .ref x), (0, .ref b)]) hx hb dL_law_7 rfl hl (by decide) rfl (fun ls hl => ?_)
  refine jx_new (own := RL) (C := RX3) (T := TX3) (N := 4) (ci := 3) (fs := [.null, .null, .null, .null]) hx hb hts jz_inM tyX3 tyX3_ok hown (by decide +kernel) (by decide +kernel) (by decide +kernel) hG hw rfl (fun j hj => by rcases (show j = 0 ∨ j = 1 ∨ j = 2 ∨ j = 3 by omega) with rfl | rfl | rfl | rfl <;> rfl) (Nat.le_of_ble_eq_true rfl) (Nat.le_of_ble_eq_true rfl) dL_law_8 (fun y H hyN hw => ?_)
  obtain ⟨hwX, hwM⟩ := jl_split hyN hw
  have hdis : ∀ q ∈ [y], q ∉ Lx := fun q hq => by rw [List.mem_singleton.mp hq]; exact hyN
  refine lv_dup hx hb dL_law_11 rfl ?_
  refine cl_L_12 (As := []) (rest := [.ref y]) hx hb hml hown hts hG hwM (c_M_init l D ct (List.mem_singleton.mpr rfl) (va_up_self _ _ _)) rfl ⟨Nat.le_of_ble_eq_true rfl, Nat.le_of_ble_eq_true rfl⟩ hl.1 rfl (Nat.le_of_ble_eq_true rfl) dL_law_12 ⟨Nat.le_of_ble_eq_true rfl, Nat.le_of_ble_eq_true rfl⟩ (fun v Lm fm H2 locs2 hp hwM' hcf => ?_)
  obtain ⟨rfl, hM⟩ := hp
  obtain ⟨hwX, hdis2⟩ := jl_other hwX hdis hwM' hcf
  refine lv_astore_n (lv' := [(2, .ref y), (1, .ref x), (0, .ref b)]) hx hb dL_law_15 rfl hl (by decide) rfl (fun ls hl => ?_)
  refine lv_iconst (v := nI (5 * 0)) hx hb dL_law_16 (by decide) ?_
  refine lv_istore_n (lv' := [(3, .int (nI (5 * 0))), (2, .ref y), (1, .ref x), (0, .ref b)]) hx hb dL_law_17 rfl hl (by decide) rfl (fun ls hl => ?_)
  refine W.widen (k := 30 + 3 * 0) (n := 17000 + 15 * 0) (Nat.le_of_ble_eq_true rfl) (Nat.le_of_ble_eq_true rfl) ?_
  exact law_loop hL C0 hG (L + 1) 0 x y Lx Lm fx fm (fun _ => []) _ _ ls (by omega) (by omega) hX hM (fun q h1 h2 => hdis2 q h2 h1) hwX hwM' (lv_sub hl [3, 2, 1, 0] rfl)
end
section
set_option maxHeartbeats 4000000 in
theorem lw_walk (l : Launch) (b : Addr) (xs : List Int32) : MetFree l x (headSpec (Jvm.Cond.code x code maxLocals ret :: tables_1) room_1) (lw_P b xs) (fun _ _ _ _ _ => True) lw_Q := by
  refine MetFree.of_bodyS (code := code) (maxLocals := maxLocals) (ret := ret) (by decide) ?_ ?_
  · intro args s m h hn
    obtain ⟨meth, c, h1, h2, h3, h4, h5, h6, -, -⟩ := Cond.code_spec hn (atoms_spec (ws := Jvm.Cond.code x code maxLocals ret :: tables_1) h _ List.mem_cons_self)
    exact ⟨meth, c, h1, h2, h3, h4, h5, h6⟩
  · intro p e s m args below meth c s₁ B hml0 hP _
    obtain ⟨rfl, hx, hbd, hgv⟩ := hP
    obtain ⟨scr, harrAt, hlist, hof, hsmall⟩ := hx
    obtain ⟨hcb, hkn, -, -⟩ := State.arrayAt?_spec harrAt
    have hown : s.vm.findClass R_law = some m.cls := findClass_of_methodNamed B.named
    have hts0 : ∀ c ∈ (Jvm.Cond.code x code maxLocals ret :: tables_1), c.before #[Value.ref b] s = true := atoms_spec (ws := Jvm.Cond.code x code maxLocals ret :: tables_1) B.pre
    have hts : ∀ w ∈ lw_tbl, w.before #[Value.ref b] s = true := k2_hts_sels lw_privs (fun w hw => hts0 w (List.mem_cons_of_mem _ hw)) lw_privs_ok
    have hml : c.maxLocals = 4 := B.maxLocals_eq (hts0 _ List.mem_cons_self)
    have X₀ : Stand p l e room_1 s m #[Value.ref b] below meth c s₁ [] 0 0 := Stand.of_body B
    have hh0 : s₁.heap = s.heap := by rw [B.state]; rfl
    have hsz : scr.slots.size = xs.length := by rw [← Array.length_toList, hlist, List.length_map]
    have hval : ∀ j : Nat, j < xs.length → scr.slots[j]? = some (.int (xs.getD j 0)) := fun j hj => by
      rw [← Array.getElem?_toList, hlist]
      simp [hj]
    have hbl : b < s.heap.size := (Array.getElem?_eq_some_iff.mp hcb).1
    have hX : va_X b xs.length (fun j => xs.getD j 0) s s.heap := ⟨scr, hcb, hof, hkn, hsz, hval⟩
    have K : W p l e room_1 s m #[Value.ref b] below meth c s₁.heap [] 0 0 (lw_Z below #[Value.ref b] s) (entryFrame m ([Value.ref b] : List Value).toArray 4) := by
      rw [hh0]
      exact whole_start l hbd ⟨B.exec, B.bytes, B.returns, hml, hown, hts, hX, hbl, B.notSynchronized, hgv⟩
    obtain ⟨t, a1, o, b1, b2, b3⟩ := K s₁ rfl X₀
    exact ⟨t, o, a1, b1, b2, b3⟩
theorem lw_pre_spec {args : Array Value} {s : State} (h : (Jvm.Cond.and given_1 narrow_1).before args s = true) (hr : rest_1_c.before args s = true) : ∃ (b : Addr) (xs : List Int32), lw_P b xs args s := by
  have hs := flat_of_before _ h
  have hq := flat_of_before _ hr
  have hc : (Cond.count 1).before args s = true := hs _ (by decide +kernel)
  have harr : (Cond.arrayOf (.arg 0) .int).before args s = true := hs _ (by decide +kernel)
  have hle : (Cond.le (.length (.arg 0)) (.int 2560)).before args s = true := hs _ (by decide +kernel)
  have hlen : (Cond.isInt (.length (.arg 0))).before args s = true := hq _ (by decide +kernel)
  have hall : (Cond.all (.arg 0) (.isInt (.elem (.arg 0) (.index 0)))).before args s = true := hq _ (by decide +kernel)
  obtain ⟨b, xs, hb, hx⟩ := State.ints_of_pre rfl harr hlen hall
  have hsm : xs.length < 2 ^ 31 := hx.choose_spec.2.2.2
  have hev : (Term.length (.arg 0)).eval args s none [] s = some (.int xs.length.toInt32) := hx.length_eval hb
  have hv := Cond.le_ints hev (show (Term.int 2560).eval args s none [] s = some (.int 2560) from rfl)
  have hd : xs.length.toInt32 ≤ 2560 := by
    simpa [Cond.before, Cond.holds, hv] using hle
  have hN : xs.length ≤ 2560 := (Int32.ofNat_le_ofNat hsm (by decide)).mp (show Int32.ofNat xs.length ≤ Int32.ofNat 2560 from hd)
  exact ⟨b, xs, Cond.one_arg hc (show args[0]? = some (.ref b) from hb), hx, hN, h⟩
theorem lw_comes (l : Launch) : Comes l x (Jvm.Cond.code x code maxLocals ret :: tables_1) room_1 (fun tb e args s => Calls_1 tb e args s ∧ rest_1 tb e args s ∧ Pre_1 tb e args s)
    (fun _ _ args s o t => lw_Q args s o t) := by
  intro p e ha hc hk s m args below hf hfit hheap happ hpre
  obtain ⟨b, xs, hP⟩ := lw_pre_spec hpre.2.2 hpre.2.1
  obtain ⟨k, o, h1, h2, h3, hQ⟩ := lw_walk l b xs p e ha hc hk s m args below hf ((Spec.applies_iff_loose hf).mp happ).1 hP trivial
  exact ⟨k, o, h1, h2, h3, hQ⟩
theorem lw_frame {s t : State} {o : Outcome} {args : Array Value} (h : Framed s o t [] 600000 7302250) :
    Framed s o t (fieldLocs frame_1_writes args s ++ arrayLocs frame_1_arrays args s ++ staticLocs frame_1_statics s) 600000 7302250 := h
theorem lw_limb (L : Cond) (hL : ∀ (args : Array Value) (s t : State), L.after args s (.returned (some (.int 1))) t = true) :
    ArmFor flags0 classFile x code maxLocals ret World_1 tables_1 room_1 Calls_1 rest_1 Pre_1
      (fun tb e a s o t => postC L tb e a s o t ∧ Framed s o t (fieldLocs frame_1_writes a s ++ arrayLocs frame_1_arrays a s ++ staticLocs frame_1_statics s) 600000 7302250) := by
  intro l _ _ _ p e ha hc hk s m args below hf hfit hheap happ hpre
  obtain ⟨k, o, h1, h2, h3, rfl, hF⟩ := lw_comes l p e ha hc hk s m args below hf hfit hheap happ hpre
  exact ⟨k, _, h1, h2, h3, hL args s _, lw_frame hF⟩
theorem i_vc : Claimed_1_1 ∧ Claimed_1_2 := ⟨lw_limb limb_1_1 (fun args s t => by simp [limb_1_1, Cond.after, Cond.holds, Cond.value]), lw_limb limb_1_2 (fun args s t => Cond.after_iff.mpr (by
  first | (rw [show limb_1_2 = Cond.eq .result (.int 1) from rfl, Cond.eq_ints (x := 1) (y := 1) rfl rfl]; simp; done) | (simp [limb_1_2, Cond.value, Term.eval]; done)))⟩
end
