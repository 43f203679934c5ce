-- ===== PART A: goes FIRST, ahead of the names: the tables' words, and 'selects' of the private methods out of them =====
/-- a private method of a class that the tables say can be made, by its rows of tables_1 -/
def lw_okq (q : MethodName × Nat) : Prop := (q.1.cls ≠ "java/lang/invoke/MethodHandle" ∧ q.1.cls ≠ "java/lang/invoke/VarHandle") ∧ Cond.instantiable q.1.cls q.2 ∈ tables_1 ∧ Cond.privateMethod q.1 ∈ tables_1 ∧ Cond.instanceMethod q.1 ∈ tables_1
theorem lw_p0 : lw_okq (⟨"HeavyGuests$Row", "goesBefore", "(II)Z"⟩, 5) := ⟨⟨by decide +kernel, by decide +kernel⟩, List.mem_of_getElem? (i := 33) (by decide +kernel), List.mem_of_getElem? (i := 263) (by decide +kernel), List.mem_of_getElem? (i := 264) (by decide +kernel)⟩
theorem lw_p1 : lw_okq (⟨"HeavyGuests", "isSlot", "(I)Z"⟩, 6) := ⟨⟨by decide +kernel, by decide +kernel⟩, List.mem_of_getElem? (i := 13) (by decide +kernel), List.mem_of_getElem? (i := 299) (by decide +kernel), List.mem_of_getElem? (i := 300) (by decide +kernel)⟩
theorem lw_p2 : lw_okq (⟨"HeavyGuests$History", "dropOldest", "()V"⟩, 2) := ⟨⟨by decide +kernel, by decide +kernel⟩, List.mem_of_getElem? (i := 104) (by decide +kernel), List.mem_of_getElem? (i := 312) (by decide +kernel), List.mem_of_getElem? (i := 313) (by decide +kernel)⟩
theorem lw_p3 : lw_okq (⟨"HeavyGuests$Row", "giveUp", "(I)V"⟩, 5) := ⟨⟨by decide +kernel, by decide +kernel⟩, List.mem_of_getElem? (i := 33) (by decide +kernel), List.mem_of_getElem? (i := 402) (by decide +kernel), List.mem_of_getElem? (i := 403) (by decide +kernel)⟩
theorem lw_p4 : lw_okq (⟨"HeavyGuests$Row", "append", "(III)V"⟩, 5) := ⟨⟨by decide +kernel, by decide +kernel⟩, List.mem_of_getElem? (i := 33) (by decide +kernel), List.mem_of_getElem? (i := 423) (by decide +kernel), List.mem_of_getElem? (i := 424) (by decide +kernel)⟩
theorem lw_p5 : lw_okq (⟨"HeavyGuests$Tally", "append", "(II)V"⟩, 3) := ⟨⟨by decide +kernel, by decide +kernel⟩, List.mem_of_getElem? (i := 59) (by decide +kernel), List.mem_of_getElem? (i := 435) (by decide +kernel), List.mem_of_getElem? (i := 436) (by decide +kernel)⟩
theorem lw_p6 : lw_okq (⟨"HeavyGuests$Tally", "moveUp", "(I)V"⟩, 3) := ⟨⟨by decide +kernel, by decide +kernel⟩, List.mem_of_getElem? (i := 59) (by decide +kernel), List.mem_of_getElem? (i := 439) (by decide +kernel), List.mem_of_getElem? (i := 440) (by decide +kernel)⟩
theorem lw_p7 : lw_okq (⟨"HeavyGuests$State", "insertJoined", "(LHeavyGuests$Row;I)V"⟩, 2) := ⟨⟨by decide +kernel, by decide +kernel⟩, List.mem_of_getElem? (i := 21) (by decide +kernel), List.mem_of_getElem? (i := 463) (by decide +kernel), List.mem_of_getElem? (i := 464) (by decide +kernel)⟩
theorem lw_p8 : lw_okq (⟨"HeavyGuests$Row", "swapWithFormer", "(I)V"⟩, 5) := ⟨⟨by decide +kernel, by decide +kernel⟩, List.mem_of_getElem? (i := 33) (by decide +kernel), List.mem_of_getElem? (i := 477) (by decide +kernel), List.mem_of_getElem? (i := 478) (by decide +kernel)⟩
def lw_privs_1 : List (MethodName × Nat) := [(⟨"HeavyGuests$Row", "goesBefore", "(II)Z"⟩, 5), (⟨"HeavyGuests", "isSlot", "(I)Z"⟩, 6), (⟨"HeavyGuests$History", "dropOldest", "()V"⟩, 2), (⟨"HeavyGuests$Row", "giveUp", "(I)V"⟩, 5), (⟨"HeavyGuests$Row", "append", "(III)V"⟩, 5), (⟨"HeavyGuests$Tally", "append", "(II)V"⟩, 3), (⟨"HeavyGuests$Tally", "moveUp", "(I)V"⟩, 3), (⟨"HeavyGuests$State", "insertJoined", "(LHeavyGuests$Row;I)V"⟩, 2), (⟨"HeavyGuests$Row", "swapWithFormer", "(I)V"⟩, 5)]
theorem lw_r1 : ∀ q ∈ lw_privs_1, lw_okq q := List.forall_mem_cons.mpr ⟨lw_p0, List.forall_mem_cons.mpr ⟨lw_p1, List.forall_mem_cons.mpr ⟨lw_p2, List.forall_mem_cons.mpr ⟨lw_p3, List.forall_mem_cons.mpr ⟨lw_p4, List.forall_mem_cons.mpr ⟨lw_p5, List.forall_mem_cons.mpr ⟨lw_p6, List.forall_mem_cons.mpr ⟨lw_p7, List.forall_mem_cons.mpr ⟨lw_p8, fun _ h => absurd h List.not_mem_nil⟩⟩⟩⟩⟩⟩⟩⟩⟩
def lw_privs : List (MethodName × Nat) := lw_privs_1
def lw_tbl : List Cond := k2_sels lw_privs ++ tables_1
theorem lw_privs_ok : ∀ q ∈ lw_privs, lw_okq q := lw_r1
def RX0 : String := "HeavyGuests$History"
def TX0 : u_T := fun k => match k with
  | 0 => ("HeavyGuests$History", "states", "[LHeavyGuests$State;", true)
  | _ => ("HeavyGuests$History", "size", "I", false)
def tyX0 : Nat → FieldType := fun k => match k with
  | 0 => .array (.object "HeavyGuests$State")
  | _ => .int
abbrev wsX00 : List Cond := u_ws RX0 TX0 2
theorem nmX0 : ∀ a, a < 2 → ∀ b, b < 2 → a ≠ b → (TX0 a).2.1 ≠ (TX0 b).2.1 := by decide +kernel
theorem tyX0_ok : ∀ k, k < 2 → parseFieldDescriptor (TX0 k).2.2.1 = some (tyX0 k) := by decide +kernel
abbrev cX0_init : ByteArray := prog_2_method_1_code
def yX0_init : MethodName := ⟨RX0, "<init>", "()V"⟩
abbrev cX0_remember : ByteArray := prog_2_method_2_code
def yX0_remember : MethodName := ⟨RX0, "remember", "(LHeavyGuests$State;)V"⟩
abbrev cX0_bringBack : ByteArray := prog_2_method_3_code
def yX0_bringBack : MethodName := ⟨RX0, "bringBack", "(LHeavyGuests$State;)V"⟩
abbrev cX0_dropOldest : ByteArray := prog_2_method_4_code
def yX0_dropOldest : MethodName := ⟨RX0, "dropOldest", "()V"⟩
def RX1 : String := "HeavyGuests$Order"
def TX1 : u_T := fun k => match k with
  | 0 => ("HeavyGuests$Order", "place", "I", false)
  | 1 => ("HeavyGuests$Order", "kind", "I", false)
  | 2 => ("HeavyGuests$Order", "stream", "I", false)
  | 3 => ("HeavyGuests$Order", "guest", "I", false)
  | 4 => ("HeavyGuests$Order", "letters", "I", false)
  | _ => ("HeavyGuests$Order", "times", "I", false)
def tyX1 : Nat → FieldType := fun k => match k with
  | 0 => .int
  | 1 => .int
  | 2 => .int
  | 3 => .int
  | 4 => .int
  | _ => .int
abbrev wsX10 : List Cond := u_ws RX1 TX1 6
theorem nmX1 : ∀ a, a < 6 → ∀ b, b < 6 → a ≠ b → (TX1 a).2.1 ≠ (TX1 b).2.1 := by decide +kernel
theorem tyX1_ok : ∀ k, k < 6 → parseFieldDescriptor (TX1 k).2.2.1 = some (tyX1 k) := by decide +kernel
abbrev cX1_init : ByteArray := prog_3_method_1_code
def yX1_init : MethodName := ⟨RX1, "<init>", "()V"⟩
def RX2 : String := "HeavyGuests$Pad"
def TX2 : u_T := fun k => match k with
  | 0 => ("HeavyGuests$Pad", "signs", "[I", true)
  | _ => ("HeavyGuests$Pad", "length", "I", false)
def tyX2 : Nat → FieldType := fun k => match k with
  | 0 => .array .int
  | _ => .int
abbrev wsX20 : List Cond := u_ws RX2 TX2 2
theorem nmX2 : ∀ a, a < 2 → ∀ b, b < 2 → a ≠ b → (TX2 a).2.1 ≠ (TX2 b).2.1 := by decide +kernel
theorem tyX2_ok : ∀ k, k < 2 → parseFieldDescriptor (TX2 k).2.2.1 = some (tyX2 k) := by decide +kernel
abbrev cX2_init : ByteArray := prog_4_method_1_code
def yX2_init : MethodName := ⟨RX2, "<init>", "()V"⟩
def RX3 : String := "HeavyGuests$Row"
def TX3 : u_T := fun k => match k with
  | 0 => ("HeavyGuests$Row", "guests", "[I", true)
  | 1 => ("HeavyGuests$Row", "counts", "[I", true)
  | 2 => ("HeavyGuests$Row", "excesses", "[I", true)
  | 3 => ("HeavyGuests$Row", "seats", "I", false)
  | _ => ("HeavyGuests$Row", "taken", "I", false)
def tyX3 : Nat → FieldType := fun k => match k with
  | 0 => .array .int
  | 1 => .array .int
  | 2 => .array .int
  | 3 => .int
  | _ => .int
abbrev wsX30 : List Cond := u_ws RX3 TX3 5
theorem nmX3 : ∀ a, a < 5 → ∀ b, b < 5 → a ≠ b → (TX3 a).2.1 ≠ (TX3 b).2.1 := by decide +kernel
theorem tyX3_ok : ∀ k, k < 5 → parseFieldDescriptor (TX3 k).2.2.1 = some (tyX3 k) := by decide +kernel
abbrev cX3_init : ByteArray := prog_5_method_1_code
def yX3_init : MethodName := ⟨RX3, "<init>", "(I)V"⟩
abbrev cX3_copyFrom : ByteArray := prog_5_method_2_code
def yX3_copyFrom : MethodName := ⟨RX3, "copyFrom", "(LHeavyGuests$Row;)V"⟩
abbrev cX3_isTaken : ByteArray := prog_5_method_3_code
def yX3_isTaken : MethodName := ⟨RX3, "isTaken", "(I)Z"⟩
abbrev cX3_guestAt : ByteArray := prog_5_method_4_code
def yX3_guestAt : MethodName := ⟨RX3, "guestAt", "(I)I"⟩
abbrev cX3_countAt : ByteArray := prog_5_method_5_code
def yX3_countAt : MethodName := ⟨RX3, "countAt", "(I)I"⟩
abbrev cX3_excessAt : ByteArray := prog_5_method_6_code
def yX3_excessAt : MethodName := ⟨RX3, "excessAt", "(I)I"⟩
abbrev cX3_seatOf : ByteArray := prog_5_method_7_code
def yX3_seatOf : MethodName := ⟨RX3, "seatOf", "(I)I"⟩
abbrev cX3_mostOf : ByteArray := prog_5_method_8_code
def yX3_mostOf : MethodName := ⟨RX3, "mostOf", "(I)I"⟩
abbrev cX3_leastOf : ByteArray := prog_5_method_9_code
def yX3_leastOf : MethodName := ⟨RX3, "leastOf", "(I)I"⟩
abbrev cX3_leastAt : ByteArray := prog_5_method_10_code
def yX3_leastAt : MethodName := ⟨RX3, "leastAt", "(I)I"⟩
abbrev cX3_mostWithoutSeat : ByteArray := prog_5_method_11_code
def yX3_mostWithoutSeat : MethodName := ⟨RX3, "mostWithoutSeat", "()I"⟩
abbrev cX3_sumOfCounts : ByteArray := prog_5_method_12_code
def yX3_sumOfCounts : MethodName := ⟨RX3, "sumOfCounts", "()I"⟩
abbrev cX3_greatestExcess : ByteArray := prog_5_method_13_code
def yX3_greatestExcess : MethodName := ⟨RX3, "greatestExcess", "()I"⟩
abbrev cX3_surelyAbove : ByteArray := prog_5_method_14_code
def yX3_surelyAbove : MethodName := ⟨RX3, "surelyAbove", "(I)I"⟩
abbrev cX3_perhapsAbove : ByteArray := prog_5_method_15_code
def yX3_perhapsAbove : MethodName := ⟨RX3, "perhapsAbove", "(I)I"⟩
abbrev cX3_seatFor : ByteArray := prog_5_method_16_code
def yX3_seatFor : MethodName := ⟨RX3, "seatFor", "(I)I"⟩
abbrev cX3_firstToGo : ByteArray := prog_5_method_17_code
def yX3_firstToGo : MethodName := ⟨RX3, "firstToGo", "()I"⟩
abbrev cX3_goesBefore : ByteArray := prog_5_method_18_code
def yX3_goesBefore : MethodName := ⟨RX3, "goesBefore", "(II)Z"⟩
abbrev cX3_isHeavier : ByteArray := prog_5_method_19_code
def yX3_isHeavier : MethodName := ⟨RX3, "isHeavier", "(II)Z"⟩
abbrev cX3_serve : ByteArray := prog_5_method_23_code
def yX3_serve : MethodName := ⟨RX3, "serve", "(III)Z"⟩
abbrev cX3_append : ByteArray := prog_5_method_24_code
def yX3_append : MethodName := ⟨RX3, "append", "(III)V"⟩
abbrev cX3_insertByWeight : ByteArray := prog_5_method_25_code
def yX3_insertByWeight : MethodName := ⟨RX3, "insertByWeight", "(III)V"⟩
abbrev cX3_swapWithFormer : ByteArray := prog_5_method_26_code
def yX3_swapWithFormer : MethodName := ⟨RX3, "swapWithFormer", "(I)V"⟩
abbrev cX3_clear : ByteArray := prog_5_method_27_code
def yX3_clear : MethodName := ⟨RX3, "clear", "()V"⟩
abbrev cX3_replaceByFirstOf : ByteArray := prog_5_method_28_code
def yX3_replaceByFirstOf : MethodName := ⟨RX3, "replaceByFirstOf", "(LHeavyGuests$Row;)V"⟩
abbrev cX3_changeSeats : ByteArray := prog_5_method_29_code
def yX3_changeSeats : MethodName := ⟨RX3, "changeSeats", "(I)V"⟩
abbrev cX3_giveUp : ByteArray := prog_5_method_30_code
def yX3_giveUp : MethodName := ⟨RX3, "giveUp", "(I)V"⟩
abbrev cX3_halve : ByteArray := prog_5_method_31_code
def yX3_halve : MethodName := ⟨RX3, "halve", "()V"⟩
def RX4 : String := "HeavyGuests$Slot"
def TX4 : u_T := fun k => match k with
  | 0 => ("HeavyGuests$Slot", "state", "LHeavyGuests$State;", true)
  | _ => ("HeavyGuests$Slot", "isUsed", "Z", false)
def tyX4 : Nat → FieldType := fun k => match k with
  | 0 => .object "HeavyGuests$State"
  | _ => .boolean
abbrev wsX40 : List Cond := u_ws RX4 TX4 2
theorem nmX4 : ∀ a, a < 2 → ∀ b, b < 2 → a ≠ b → (TX4 a).2.1 ≠ (TX4 b).2.1 := by decide +kernel
theorem tyX4_ok : ∀ k, k < 2 → parseFieldDescriptor (TX4 k).2.2.1 = some (tyX4 k) := by decide +kernel
abbrev cX4_init : ByteArray := prog_6_method_1_code
def yX4_init : MethodName := ⟨RX4, "<init>", "()V"⟩
def RX5 : String := "HeavyGuests$State"
def TX5 : u_T := fun k => match k with
  | 0 => ("HeavyGuests$State", "zero", "LHeavyGuests$Stream;", true)
  | _ => ("HeavyGuests$State", "one", "LHeavyGuests$Stream;", true)
def tyX5 : Nat → FieldType := fun k => match k with
  | 0 => .object "HeavyGuests$Stream"
  | _ => .object "HeavyGuests$Stream"
abbrev wsX50 : List Cond := u_ws RX5 TX5 2
theorem nmX5 : ∀ a, a < 2 → ∀ b, b < 2 → a ≠ b → (TX5 a).2.1 ≠ (TX5 b).2.1 := by decide +kernel
theorem tyX5_ok : ∀ k, k < 2 → parseFieldDescriptor (TX5 k).2.2.1 = some (tyX5 k) := by decide +kernel
abbrev cX5_init : ByteArray := prog_7_method_1_code
def yX5_init : MethodName := ⟨RX5, "<init>", "()V"⟩
abbrev cX5_copyFrom : ByteArray := prog_7_method_2_code
def yX5_copyFrom : MethodName := ⟨RX5, "copyFrom", "(LHeavyGuests$State;)V"⟩
abbrev cX5_streamOf : ByteArray := prog_7_method_3_code
def yX5_streamOf : MethodName := ⟨RX5, "streamOf", "(I)LHeavyGuests$Stream;"⟩
abbrev cX5_seatsOfEach : ByteArray := prog_7_method_4_code
def yX5_seatsOfEach : MethodName := ⟨RX5, "seatsOfEach", "()I"⟩
abbrev cX5_changeSeats : ByteArray := prog_7_method_5_code
def yX5_changeSeats : MethodName := ⟨RX5, "changeSeats", "(I)V"⟩
abbrev cX5_errorOfJoining : ByteArray := prog_7_method_6_code
def yX5_errorOfJoining : MethodName := ⟨RX5, "errorOfJoining", "()I"⟩
abbrev cX5_joinStreams : ByteArray := prog_7_method_7_code
def yX5_joinStreams : MethodName := ⟨RX5, "joinStreams", "(LHeavyGuests$Row;)V"⟩
abbrev cX5_insertJoined : ByteArray := prog_7_method_8_code
def yX5_insertJoined : MethodName := ⟨RX5, "insertJoined", "(LHeavyGuests$Row;I)V"⟩
def RX6 : String := "HeavyGuests$Stream"
def TX6 : u_T := fun k => match k with
  | 0 => ("HeavyGuests$Stream", "row", "LHeavyGuests$Row;", true)
  | 1 => ("HeavyGuests$Stream", "tally", "LHeavyGuests$Tally;", true)
  | 2 => ("HeavyGuests$Stream", "total", "I", false)
  | _ => ("HeavyGuests$Stream", "takeovers", "I", false)
def tyX6 : Nat → FieldType := fun k => match k with
  | 0 => .object "HeavyGuests$Row"
  | 1 => .object "HeavyGuests$Tally"
  | 2 => .int
  | _ => .int
abbrev wsX60 : List Cond := u_ws RX6 TX6 4
theorem nmX6 : ∀ a, a < 4 → ∀ b, b < 4 → a ≠ b → (TX6 a).2.1 ≠ (TX6 b).2.1 := by decide +kernel
theorem tyX6_ok : ∀ k, k < 4 → parseFieldDescriptor (TX6 k).2.2.1 = some (tyX6 k) := by decide +kernel
abbrev cX6_init : ByteArray := prog_8_method_1_code
def yX6_init : MethodName := ⟨RX6, "<init>", "()V"⟩
abbrev cX6_copyFrom : ByteArray := prog_8_method_2_code
def yX6_copyFrom : MethodName := ⟨RX6, "copyFrom", "(LHeavyGuests$Stream;)V"⟩
abbrev cX6_errorOfComing : ByteArray := prog_8_method_3_code
def yX6_errorOfComing : MethodName := ⟨RX6, "errorOfComing", "(II)I"⟩
abbrev cX6_letCome : ByteArray := prog_8_method_4_code
def yX6_letCome : MethodName := ⟨RX6, "letCome", "(II)I"⟩
abbrev cX6_halve : ByteArray := prog_8_method_5_code
def yX6_halve : MethodName := ⟨RX6, "halve", "()V"⟩
abbrev cX6_beginAnew : ByteArray := prog_8_method_6_code
def yX6_beginAnew : MethodName := ⟨RX6, "beginAnew", "()V"⟩
def RX7 : String := "HeavyGuests$Tally"
def TX7 : u_T := fun k => match k with
  | 0 => ("HeavyGuests$Tally", "guests", "[I", true)
  | 1 => ("HeavyGuests$Tally", "counts", "[I", true)
  | _ => ("HeavyGuests$Tally", "size", "I", false)
def tyX7 : Nat → FieldType := fun k => match k with
  | 0 => .array .int
  | 1 => .array .int
  | _ => .int
abbrev wsX70 : List Cond := u_ws RX7 TX7 3
theorem nmX7 : ∀ a, a < 3 → ∀ b, b < 3 → a ≠ b → (TX7 a).2.1 ≠ (TX7 b).2.1 := by decide +kernel
theorem tyX7_ok : ∀ k, k < 3 → parseFieldDescriptor (TX7 k).2.2.1 = some (tyX7 k) := by decide +kernel
abbrev cX7_init : ByteArray := prog_9_method_1_code
def yX7_init : MethodName := ⟨RX7, "<init>", "()V"⟩
abbrev cX7_copyFrom : ByteArray := prog_9_method_2_code
def yX7_copyFrom : MethodName := ⟨RX7, "copyFrom", "(LHeavyGuests$Tally;)V"⟩
abbrev cX7_hasPlace : ByteArray := prog_9_method_3_code
def yX7_hasPlace : MethodName := ⟨RX7, "hasPlace", "(I)Z"⟩
abbrev cX7_guestAt : ByteArray := prog_9_method_4_code
def yX7_guestAt : MethodName := ⟨RX7, "guestAt", "(I)I"⟩
abbrev cX7_timesAt : ByteArray := prog_9_method_5_code
def yX7_timesAt : MethodName := ⟨RX7, "timesAt", "(I)I"⟩
abbrev cX7_placeOf : ByteArray := prog_9_method_6_code
def yX7_placeOf : MethodName := ⟨RX7, "placeOf", "(I)I"⟩
abbrev cX7_timesOf : ByteArray := prog_9_method_7_code
def yX7_timesOf : MethodName := ⟨RX7, "timesOf", "(I)I"⟩
abbrev cX7_trulyAbove : ByteArray := prog_9_method_8_code
def yX7_trulyAbove : MethodName := ⟨RX7, "trulyAbove", "(I)I"⟩
abbrev cX7_unlikeGuestsWith : ByteArray := prog_9_method_9_code
def yX7_unlikeGuestsWith : MethodName := ⟨RX7, "unlikeGuestsWith", "(LHeavyGuests$Tally;)I"⟩
abbrev cX7_add : ByteArray := prog_9_method_10_code
def yX7_add : MethodName := ⟨RX7, "add", "(II)V"⟩
abbrev cX7_addAllOf : ByteArray := prog_9_method_11_code
def yX7_addAllOf : MethodName := ⟨RX7, "addAllOf", "(LHeavyGuests$Tally;)V"⟩
abbrev cX7_append : ByteArray := prog_9_method_12_code
def yX7_append : MethodName := ⟨RX7, "append", "(II)V"⟩
abbrev cX7_moveUp : ByteArray := prog_9_method_13_code
def yX7_moveUp : MethodName := ⟨RX7, "moveUp", "(I)V"⟩
abbrev cX7_clear : ByteArray := prog_9_method_14_code
def yX7_clear : MethodName := ⟨RX7, "clear", "()V"⟩
abbrev cX7_halve : ByteArray := prog_9_method_15_code
def yX7_halve : MethodName := ⟨RX7, "halve", "()V"⟩
def RX8 : String := "HeavyGuests"
def TX8 : u_T := fun k => match k with
  | 0 => ("HeavyGuests", "now", "LHeavyGuests$State;", true)
  | 1 => ("HeavyGuests", "history", "LHeavyGuests$History;", true)
  | 2 => ("HeavyGuests", "slots", "[LHeavyGuests$Slot;", true)
  | 3 => ("HeavyGuests", "pad", "LHeavyGuests$Pad;", true)
  | 4 => ("HeavyGuests", "order", "LHeavyGuests$Order;", true)
  | _ => ("HeavyGuests", "joinedRow", "LHeavyGuests$Row;", true)
def tyX8 : Nat → FieldType := fun k => match k with
  | 0 => .object "HeavyGuests$State"
  | 1 => .object "HeavyGuests$History"
  | 2 => .array (.object "HeavyGuests$Slot")
  | 3 => .object "HeavyGuests$Pad"
  | 4 => .object "HeavyGuests$Order"
  | _ => .object "HeavyGuests$Row"
abbrev wsX80 : List Cond := u_ws RX8 TX8 6
theorem nmX8 : ∀ a, a < 6 → ∀ b, b < 6 → a ≠ b → (TX8 a).2.1 ≠ (TX8 b).2.1 := by decide +kernel
theorem tyX8_ok : ∀ k, k < 6 → parseFieldDescriptor (TX8 k).2.2.1 = some (tyX8 k) := by decide +kernel
abbrev cX8_init : ByteArray := prog_1_method_1_code
def yX8_init : MethodName := ⟨RX8, "<init>", "()V"⟩
abbrev cX8_seats : ByteArray := prog_1_method_2_code
def yX8_seats : MethodName := ⟨RX8, "seats", "(I)I"⟩
abbrev cX8_come : ByteArray := prog_1_method_3_code
def yX8_come : MethodName := ⟨RX8, "come", "(III)I"⟩
abbrev cX8_age : ByteArray := prog_1_method_4_code
def yX8_age : MethodName := ⟨RX8, "age", "(I)I"⟩
abbrev cX8_join : ByteArray := prog_1_method_5_code
def yX8_join : MethodName := ⟨RX8, "join", "()I"⟩
abbrev cX8_seat : ByteArray := prog_1_method_6_code
def yX8_seat : MethodName := ⟨RX8, "seat", "(III)I"⟩
abbrev cX8_of : ByteArray := prog_1_method_7_code
def yX8_of : MethodName := ⟨RX8, "of", "(III)I"⟩
abbrev cX8_stream : ByteArray := prog_1_method_8_code
def yX8_stream : MethodName := ⟨RX8, "stream", "(II)I"⟩
abbrev cX8_count : ByteArray := prog_1_method_9_code
def yX8_count : MethodName := ⟨RX8, "count", "(I)I"⟩
abbrev cX8_above : ByteArray := prog_1_method_10_code
def yX8_above : MethodName := ⟨RX8, "above", "(III)I"⟩
abbrev cX8_truly : ByteArray := prog_1_method_12_code
def yX8_truly : MethodName := ⟨RX8, "truly", "(II)I"⟩
abbrev cX8_wouldTake : ByteArray := prog_1_method_14_code
def yX8_wouldTake : MethodName := ⟨RX8, "wouldTake", "(II)I"⟩
abbrev cX8_undo : ByteArray := prog_1_method_20_code
def yX8_undo : MethodName := ⟨RX8, "undo", "()I"⟩
abbrev cX8_save : ByteArray := prog_1_method_21_code
def yX8_save : MethodName := ⟨RX8, "save", "(I)I"⟩
abbrev cX8_restore : ByteArray := prog_1_method_22_code
def yX8_restore : MethodName := ⟨RX8, "restore", "(I)I"⟩
abbrev cX8_isStream : ByteArray := prog_1_method_23_code
def yX8_isStream : MethodName := ⟨RX8, "isStream", "(I)Z"⟩
abbrev cX8_isSlot : ByteArray := prog_1_method_24_code
def yX8_isSlot : MethodName := ⟨RX8, "isSlot", "(I)Z"⟩
abbrev cX8_errorOfAsking : ByteArray := prog_1_method_25_code
def yX8_errorOfAsking : MethodName := ⟨RX8, "errorOfAsking", "(II)I"⟩
abbrev cX8_isCode : ByteArray := prog_1_method_26_code
def yX8_isCode : MethodName := ⟨RX8, "isCode", "(I)Z"⟩
abbrev cX8_lettersOf : ByteArray := prog_1_method_27_code
def yX8_lettersOf : MethodName := ⟨RX8, "lettersOf", "(I)I"⟩
def RX9 : String := "HeavyGuestsModel"
def TX9 : u_T := fun k => match k with
  | _ => ("", "", "", false)
def tyX9 : Nat → FieldType := fun k => match k with
  | _ => .int
abbrev wsX90 : List Cond := u_ws RX9 TX9 0
theorem nmX9 : ∀ a, a < 0 → ∀ b, b < 0 → a ≠ b → (TX9 a).2.1 ≠ (TX9 b).2.1 := by decide +kernel
theorem tyX9_ok : ∀ k, k < 0 → parseFieldDescriptor (TX9 k).2.2.1 = some (tyX9 k) := by decide +kernel
def RJ9 : String := "java/lang/Math"
def TJ9 : u_T := fun k => match k with
  | _ => ("", "", "", false)
def tyJ9 : Nat → FieldType := fun k => match k with
  | _ => .int
abbrev wsJ90 : List Cond := u_ws RJ9 TJ9 0
theorem nmJ9 : ∀ a, a < 0 → ∀ b, b < 0 → a ≠ b → (TJ9 a).2.1 ≠ (TJ9 b).2.1 := by decide +kernel
theorem tyJ9_ok : ∀ k, k < 0 → parseFieldDescriptor (TJ9 k).2.2.1 = some (tyJ9 k) := by decide +kernel
abbrev cJ9_max_7cf53 : ByteArray := prog_12_method_65_code
def yJ9_max_7cf53 : MethodName := ⟨RJ9, "max", "(II)I"⟩
abbrev cJ9_min_7cf53 : ByteArray := prog_12_method_69_code
def yJ9_min_7cf53 : MethodName := ⟨RJ9, "min", "(II)I"⟩
def RJ10 : String := "java/lang/System"
def TJ10 : u_T := fun k => match k with
  | _ => ("", "", "", false)
def tyJ10 : Nat → FieldType := fun k => match k with
  | _ => .int
abbrev wsJ100 : List Cond := u_ws RJ10 TJ10 0
theorem nmJ10 : ∀ a, a < 0 → ∀ b, b < 0 → a ≠ b → (TJ10 a).2.1 ≠ (TJ10 b).2.1 := by decide +kernel
theorem tyJ10_ok : ∀ k, k < 0 → parseFieldDescriptor (TJ10 k).2.2.1 = some (tyJ10 k) := by decide +kernel
def RL : String := "HeavyGuestsLaw"
abbrev cL_cell : ByteArray := method_2_code
def yL_cell : MethodName := ⟨RL, "cell", "([II)I"⟩
abbrev cL_low : ByteArray := method_3_code
def yL_low : MethodName := ⟨RL, "low", "(II)I"⟩
abbrev cL_guest : ByteArray := method_4_code
def yL_guest : MethodName := ⟨RL, "guest", "(I)I"⟩
abbrev cL_digest : ByteArray := method_5_code
def yL_digest : MethodName := ⟨RL, "digest", "(LHeavyGuests;)J"⟩
abbrev cL_act : ByteArray := method_6_code
def yL_act : MethodName := ⟨RL, "act", "(LHeavyGuests;II)I"⟩
abbrev cL_holds : ByteArray := method_7_code
def yL_holds : MethodName := ⟨RL, "holds", "(LHeavyGuests;II)Z"⟩
abbrev cL_law : ByteArray := code
def yL_law : MethodName := ⟨RL, "law", "([I)Z"⟩
