section
-- ===== PART A: goes FIRST, ahead of the names: the tables' words, and 'selects' of the private methods out of them =====
/-- a private method of a class that the tables say can be made, by its rows of tables_1 -/
def lw_okq (q : MethodName × Nat) : Prop := (q.1.cls ≠ "java/lang/invoke/MethodHandle" ∧ q.1.cls ≠ "java/lang/invoke/VarHandle") ∧ Cond.instantiable q.1.cls q.2 ∈ tables_1 ∧ Cond.privateMethod q.1 ∈ tables_1 ∧ Cond.instanceMethod q.1 ∈ tables_1
theorem lw_p0 : lw_okq (⟨"WokenRooms", "note", "()V"⟩, 5) := ⟨⟨by decide +kernel, by decide +kernel⟩, List.mem_of_getElem? (i := 7) (by decide +kernel), List.mem_of_getElem? (i := 255) (by decide +kernel), List.mem_of_getElem? (i := 256) (by decide +kernel)⟩
theorem lw_p1 : lw_okq (⟨"WokenRooms", "kept", "(I)I"⟩, 5) := ⟨⟨by decide +kernel, by decide +kernel⟩, List.mem_of_getElem? (i := 7) (by decide +kernel), List.mem_of_getElem? (i := 275) (by decide +kernel), List.mem_of_getElem? (i := 276) (by decide +kernel)⟩
theorem lw_p2 : lw_okq (⟨"WokenRooms", "dropOldest", "()V"⟩, 5) := ⟨⟨by decide +kernel, by decide +kernel⟩, List.mem_of_getElem? (i := 7) (by decide +kernel), List.mem_of_getElem? (i := 279) (by decide +kernel), List.mem_of_getElem? (i := 280) (by decide +kernel)⟩
def lw_privs_1 : List (MethodName × Nat) := [(⟨"WokenRooms", "note", "()V"⟩, 5), (⟨"WokenRooms", "kept", "(I)I"⟩, 5), (⟨"WokenRooms", "dropOldest", "()V"⟩, 5)]
theorem lw_r1 : ∀ q ∈ lw_privs_1, lw_okq q := List.forall_mem_cons.mpr ⟨lw_p0, List.forall_mem_cons.mpr ⟨lw_p1, List.forall_mem_cons.mpr ⟨lw_p2, fun _ h => absurd h List.not_mem_nil⟩⟩⟩
def lw_privs : List (MethodName × Nat) := lw_privs_1
def lw_tbl : List Cond := k2_sels lw_privs ++ tables_1
theorem lw_privs_ok : ∀ q ∈ lw_privs, lw_okq q := lw_r1
/-! ===== BEGIN words of one list among another's, by their places ===== -/
theorem goodIn_r {big : List Cond} (ws : List Cond) (ps : List Nat) (hp : ws = ps.filterMap (fun i => big[i]?)) (h : ws.all goodWord = true) : GoodIn big ws := by
  intro w hw
  have h1 := List.all_eq_true.mp h w hw
  rw [hp] at hw
  obtain ⟨i, -, hi⟩ := List.mem_filterMap.mp hw
  have hm : w ∈ big := by first | exact List.mem_of_getElem? hi | exact List.getElem?_mem hi
  exact ⟨hm, good_of_word h1⟩
theorem goodIn_app {big a b : List Cond} (ha : GoodIn big a) (hb : GoodIn big b) : GoodIn big (a ++ b) := fun w h => (List.mem_append.mp h).elim (ha w) (hb w)
theorem goodIn_ca {big a b : List Cond} {c : Cond} (ha : GoodIn big (c :: a)) (hb : GoodIn big b) : GoodIn big (c :: (a ++ b)) := fun w h => (List.mem_cons.mp h).elim (fun e => ha w (List.mem_cons.mpr (Or.inl e))) (fun h => (List.mem_append.mp h).elim (fun h => ha w (List.mem_cons.mpr (Or.inr h))) (hb w))
theorem goodIn_sub {big ws : List Cond} (hm : ∀ w ∈ ws, w ∈ big) (h : ws.all goodWord = true) : GoodIn big ws := fun w hw => ⟨hm w hw, good_of_word (List.all_eq_true.mp h w hw)⟩
/-! ===== END ===== -/

/-! ===== BEGIN printed: names, fields, word lists, decode rows ===== -/
def RX0 : String := "WokenRooms$Chip"
def TX0 : u_T := fun k => match k with
  | 0 => ("WokenRooms$Chip", "rooms", "[LWokenRooms$Room;", true)
  | 1 => ("WokenRooms$Chip", "roomCount", "I", false)
  | 2 => ("WokenRooms$Chip", "limits", "[I", true)
  | 3 => ("WokenRooms$Chip", "useRooms", "[I", true)
  | 4 => ("WokenRooms$Chip", "useTimes", "[I", true)
  | 5 => ("WokenRooms$Chip", "useLengths", "[I", true)
  | 6 => ("WokenRooms$Chip", "useCount", "I", false)
  | _ => ("WokenRooms$Chip", "time", "I", false)
def tyX0 : Nat → FieldType := fun k => match k with
  | 0 => .array (.object "WokenRooms$Room")
  | 1 => .int
  | 2 => .array .int
  | 3 => .array .int
  | 4 => .array .int
  | 5 => .array .int
  | 6 => .int
  | _ => .int
abbrev wsX00 : List Cond := u_ws RX0 TX0 8
theorem nmX0 : ∀ a, a < 8 → ∀ b, b < 8 → a ≠ b → (TX0 a).2.1 ≠ (TX0 b).2.1 := by decide +kernel
theorem tyX0_ok : ∀ k, k < 8 → parseFieldDescriptor (TX0 k).2.2.1 = some (tyX0 k) := by decide +kernel
abbrev cX0_init : ByteArray := prog_2_method_1_code
def yX0_init : MethodName := ⟨RX0, "<init>", "()V"⟩
abbrev cX0_copyFrom : ByteArray := prog_2_method_2_code
def yX0_copyFrom : MethodName := ⟨RX0, "copyFrom", "(LWokenRooms$Chip;)V"⟩
abbrev cX0_hasRoom : ByteArray := prog_2_method_3_code
def yX0_hasRoom : MethodName := ⟨RX0, "hasRoom", "(I)Z"⟩
abbrev cX0_hasUse : ByteArray := prog_2_method_4_code
def yX0_hasUse : MethodName := ⟨RX0, "hasUse", "(I)Z"⟩
abbrev cX0_tell : ByteArray := prog_2_method_5_code
def yX0_tell : MethodName := ⟨RX0, "tell", "(I)I"⟩
abbrev cX0_roomsIn : ByteArray := prog_2_method_6_code
def yX0_roomsIn : MethodName := ⟨RX0, "roomsIn", "(I)I"⟩
abbrev cX0_paidInAll : ByteArray := prog_2_method_7_code
def yX0_paidInAll : MethodName := ⟨RX0, "paidInAll", "()I"⟩
abbrev cX0_begunInAll : ByteArray := prog_2_method_9_code
def yX0_begunInAll : MethodName := ⟨RX0, "begunInAll", "()I"⟩
abbrev cX0_lateInAll : ByteArray := prog_2_method_10_code
def yX0_lateInAll : MethodName := ⟨RX0, "lateInAll", "()I"⟩
abbrev cX0_setNeed : ByteArray := prog_2_method_11_code
def yX0_setNeed : MethodName := ⟨RX0, "setNeed", "(II)I"⟩
abbrev cX0_plugIn : ByteArray := prog_2_method_12_code
def yX0_plugIn : MethodName := ⟨RX0, "plugIn", "(II)I"⟩
abbrev cX0_plugOut : ByteArray := prog_2_method_13_code
def yX0_plugOut : MethodName := ⟨RX0, "plugOut", "(I)I"⟩
abbrev cX0_pluggedInto : ByteArray := prog_2_method_14_code
def yX0_pluggedInto : MethodName := ⟨RX0, "pluggedInto", "(I)I"⟩
abbrev cX0_roomOnRail : ByteArray := prog_2_method_15_code
def yX0_roomOnRail : MethodName := ⟨RX0, "roomOnRail", "(II)I"⟩
abbrev cX0_setLimit : ByteArray := prog_2_method_16_code
def yX0_setLimit : MethodName := ⟨RX0, "setLimit", "(II)I"⟩
abbrev cX0_setPolicy : ByteArray := prog_2_method_17_code
def yX0_setPolicy : MethodName := ⟨RX0, "setPolicy", "(III)I"⟩
abbrev cX0_planUse : ByteArray := prog_2_method_18_code
def yX0_planUse : MethodName := ⟨RX0, "planUse", "(III)I"⟩
abbrev cX0_dropUse : ByteArray := prog_2_method_19_code
def yX0_dropUse : MethodName := ⟨RX0, "dropUse", "(I)I"⟩
abbrev cX0_removeUse : ByteArray := prog_2_method_20_code
def yX0_removeUse : MethodName := ⟨RX0, "removeUse", "(I)V"⟩
abbrev cX0_usesOf : ByteArray := prog_2_method_21_code
def yX0_usesOf : MethodName := ⟨RX0, "usesOf", "(I)I"⟩
abbrev cX0_firstUseOf : ByteArray := prog_2_method_22_code
def yX0_firstUseOf : MethodName := ⟨RX0, "firstUseOf", "(I)I"⟩
abbrev cX0_isCalled : ByteArray := prog_2_method_23_code
def yX0_isCalled : MethodName := ⟨RX0, "isCalled", "(I)Z"⟩
abbrev cX0_isReady : ByteArray := prog_2_method_24_code
def yX0_isReady : MethodName := ⟨RX0, "isReady", "(I)Z"⟩
abbrev cX0_railLetsWake : ByteArray := prog_2_method_25_code
def yX0_railLetsWake : MethodName := ⟨RX0, "railLetsWake", "(I)Z"⟩
abbrev cX0_hasDependentsUp : ByteArray := prog_2_method_26_code
def yX0_hasDependentsUp : MethodName := ⟨RX0, "hasDependentsUp", "(I)Z"⟩
abbrev cX0_wakeRoom : ByteArray := prog_2_method_27_code
def yX0_wakeRoom : MethodName := ⟨RX0, "wakeRoom", "(I)I"⟩
abbrev cX0_sendToSleep : ByteArray := prog_2_method_28_code
def yX0_sendToSleep : MethodName := ⟨RX0, "sendToSleep", "(I)I"⟩
abbrev cX0_letTicksGoBy : ByteArray := prog_2_method_29_code
def yX0_letTicksGoBy : MethodName := ⟨RX0, "letTicksGoBy", "(I)I"⟩
abbrev cX0_passTick : ByteArray := prog_2_method_31_code
def yX0_passTick : MethodName := ⟨RX0, "passTick", "()V"⟩
abbrev cX0_soughtFor : ByteArray := prog_2_method_32_code
def yX0_soughtFor : MethodName := ⟨RX0, "soughtFor", "(I)I"⟩
abbrev cX0_wakeIfPossible : ByteArray := prog_2_method_33_code
def yX0_wakeIfPossible : MethodName := ⟨RX0, "wakeIfPossible", "(I)V"⟩
abbrev cX0_beginDueUse : ByteArray := prog_2_method_34_code
def yX0_beginDueUse : MethodName := ⟨RX0, "beginDueUse", "(I)V"⟩
abbrev cX0_goOn : ByteArray := prog_2_method_35_code
def yX0_goOn : MethodName := ⟨RX0, "goOn", "(I)V"⟩
def RX1 : String := "WokenRooms$Orders"
def TX1 : u_T := fun k => match k with
  | 0 => ("WokenRooms$Orders", "signs", "[C", true)
  | 1 => ("WokenRooms$Orders", "length", "I", false)
  | 2 => ("WokenRooms$Orders", "next", "I", false)
  | 3 => ("WokenRooms$Orders", "letter", "C", false)
  | 4 => ("WokenRooms$Orders", "numbers", "[I", true)
  | 5 => ("WokenRooms$Orders", "done", "I", false)
  | 6 => ("WokenRooms$Orders", "faultAt", "I", false)
  | 7 => ("WokenRooms$Orders", "reason", "I", false)
  | _ => ("WokenRooms$Orders", "cause", "I", false)
def tyX1 : Nat → FieldType := fun k => match k with
  | 0 => .array .char
  | 1 => .int
  | 2 => .int
  | 3 => .char
  | 4 => .array .int
  | 5 => .int
  | 6 => .int
  | 7 => .int
  | _ => .int
abbrev wsX10 : List Cond := u_ws RX1 TX1 9
theorem nmX1 : ∀ a, a < 9 → ∀ b, b < 9 → a ≠ b → (TX1 a).2.1 ≠ (TX1 b).2.1 := by decide +kernel
theorem tyX1_ok : ∀ k, k < 9 → parseFieldDescriptor (TX1 k).2.2.1 = some (tyX1 k) := by decide +kernel
abbrev cX1_init : ByteArray := prog_3_method_1_code
def yX1_init : MethodName := ⟨RX1, "<init>", "()V"⟩
def RX2 : String := "WokenRooms$Room"
def TX2 : u_T := fun k => match k with
  | 0 => ("WokenRooms$Room", "costs", "[I", true)
  | 1 => ("WokenRooms$Room", "paid", "[I", true)
  | 2 => ("WokenRooms$Room", "kind", "I", false)
  | 3 => ("WokenRooms$Room", "needed", "I", false)
  | 4 => ("WokenRooms$Room", "rail", "I", false)
  | 5 => ("WokenRooms$Room", "timeOut", "I", false)
  | 6 => ("WokenRooms$Room", "guess", "I", false)
  | 7 => ("WokenRooms$Room", "state", "I", false)
  | 8 => ("WokenRooms$Room", "left", "I", false)
  | 9 => ("WokenRooms$Room", "idled", "I", false)
  | 10 => ("WokenRooms$Room", "begun", "I", false)
  | 11 => ("WokenRooms$Room", "late", "I", false)
  | 12 => ("WokenRooms$Room", "woken", "I", false)
  | 13 => ("WokenRooms$Room", "latestEnd", "I", false)
  | _ => ("WokenRooms$Room", "gap", "I", false)
def tyX2 : Nat → FieldType := fun k => match k with
  | 0 => .array .int
  | 1 => .array .int
  | 2 => .int
  | 3 => .int
  | 4 => .int
  | 5 => .int
  | 6 => .int
  | 7 => .int
  | 8 => .int
  | 9 => .int
  | 10 => .int
  | 11 => .int
  | 12 => .int
  | 13 => .int
  | _ => .int
abbrev wsX20 : List Cond := u_ws RX2 TX2 15
theorem nmX2 : ∀ a, a < 15 → ∀ b, b < 15 → a ≠ b → (TX2 a).2.1 ≠ (TX2 b).2.1 := by decide +kernel
theorem tyX2_ok : ∀ k, k < 15 → parseFieldDescriptor (TX2 k).2.2.1 = some (tyX2 k) := by decide +kernel
abbrev cX2_init : ByteArray := prog_4_method_1_code
def yX2_init : MethodName := ⟨RX2, "<init>", "()V"⟩
abbrev cX2_startAnew : ByteArray := prog_4_method_2_code
def yX2_startAnew : MethodName := ⟨RX2, "startAnew", "(I)V"⟩
abbrev cX2_copyFrom : ByteArray := prog_4_method_3_code
def yX2_copyFrom : MethodName := ⟨RX2, "copyFrom", "(LWokenRooms$Room;)V"⟩
abbrev cX2_tell : ByteArray := prog_4_method_4_code
def yX2_tell : MethodName := ⟨RX2, "tell", "(I)I"⟩
abbrev cX2_paidInAll : ByteArray := prog_4_method_5_code
def yX2_paidInAll : MethodName := ⟨RX2, "paidInAll", "()I"⟩
abbrev cX2_startWaking : ByteArray := prog_4_method_6_code
def yX2_startWaking : MethodName := ⟨RX2, "startWaking", "()V"⟩
abbrev cX2_begin : ByteArray := prog_4_method_7_code
def yX2_begin : MethodName := ⟨RX2, "begin", "(III)V"⟩
abbrev cX2_isGuessedByGap : ByteArray := prog_4_method_8_code
def yX2_isGuessedByGap : MethodName := ⟨RX2, "isGuessedByGap", "(I)Z"⟩
abbrev cX2_payForTick : ByteArray := prog_4_method_9_code
def yX2_payForTick : MethodName := ⟨RX2, "payForTick", "()V"⟩
abbrev cX2_workOn : ByteArray := prog_4_method_10_code
def yX2_workOn : MethodName := ⟨RX2, "workOn", "()V"⟩
abbrev cX2_isTimedOut : ByteArray := prog_4_method_11_code
def yX2_isTimedOut : MethodName := ⟨RX2, "isTimedOut", "()Z"⟩
def RX3 : String := "WokenRooms"
def TX3 : u_T := fun k => match k with
  | 0 => ("WokenRooms", "chip", "LWokenRooms$Chip;", true)
  | 1 => ("WokenRooms", "trial", "LWokenRooms$Chip;", true)
  | 2 => ("WokenRooms", "history", "[LWokenRooms$Chip;", true)
  | 3 => ("WokenRooms", "historySize", "I", false)
  | _ => ("WokenRooms", "orders", "LWokenRooms$Orders;", true)
def tyX3 : Nat → FieldType := fun k => match k with
  | 0 => .object "WokenRooms$Chip"
  | 1 => .object "WokenRooms$Chip"
  | 2 => .array (.object "WokenRooms$Chip")
  | 3 => .int
  | _ => .object "WokenRooms$Orders"
abbrev wsX30 : List Cond := u_ws RX3 TX3 5
theorem nmX3 : ∀ a, a < 5 → ∀ b, b < 5 → a ≠ b → (TX3 a).2.1 ≠ (TX3 b).2.1 := by decide +kernel
theorem tyX3_ok : ∀ k, k < 5 → parseFieldDescriptor (TX3 k).2.2.1 = some (tyX3 k) := by decide +kernel
abbrev cX3_init : ByteArray := prog_1_method_1_code
def yX3_init : MethodName := ⟨RX3, "<init>", "()V"⟩
abbrev cX3_room : ByteArray := prog_1_method_2_code
def yX3_room : MethodName := ⟨RX3, "room", "(IIIIII)I"⟩
abbrev cX3_need : ByteArray := prog_1_method_3_code
def yX3_need : MethodName := ⟨RX3, "need", "(II)I"⟩
abbrev cX3_plug : ByteArray := prog_1_method_4_code
def yX3_plug : MethodName := ⟨RX3, "plug", "(II)I"⟩
abbrev cX3_unplug : ByteArray := prog_1_method_5_code
def yX3_unplug : MethodName := ⟨RX3, "unplug", "(I)I"⟩
abbrev cX3_limit : ByteArray := prog_1_method_6_code
def yX3_limit : MethodName := ⟨RX3, "limit", "(II)I"⟩
abbrev cX3_policy : ByteArray := prog_1_method_7_code
def yX3_policy : MethodName := ⟨RX3, "policy", "(III)I"⟩
abbrev cX3_roomOf : ByteArray := prog_1_method_8_code
def yX3_roomOf : MethodName := ⟨RX3, "roomOf", "(II)I"⟩
abbrev cX3_costOf : ByteArray := prog_1_method_9_code
def yX3_costOf : MethodName := ⟨RX3, "costOf", "(II)I"⟩
abbrev cX3_pluggedAt : ByteArray := prog_1_method_10_code
def yX3_pluggedAt : MethodName := ⟨RX3, "pluggedAt", "(II)I"⟩
abbrev cX3_use : ByteArray := prog_1_method_11_code
def yX3_use : MethodName := ⟨RX3, "use", "(III)I"⟩
abbrev cX3_useOf : ByteArray := prog_1_method_12_code
def yX3_useOf : MethodName := ⟨RX3, "useOf", "(II)I"⟩
abbrev cX3_drop : ByteArray := prog_1_method_13_code
def yX3_drop : MethodName := ⟨RX3, "drop", "(I)I"⟩
abbrev cX3_wake : ByteArray := prog_1_method_14_code
def yX3_wake : MethodName := ⟨RX3, "wake", "(I)I"⟩
abbrev cX3_sleep : ByteArray := prog_1_method_15_code
def yX3_sleep : MethodName := ⟨RX3, "sleep", "(I)I"⟩
abbrev cX3_tick : ByteArray := prog_1_method_16_code
def yX3_tick : MethodName := ⟨RX3, "tick", "(I)I"⟩
abbrev cX3_energy : ByteArray := prog_1_method_17_code
def yX3_energy : MethodName := ⟨RX3, "energy", "(II)I"⟩
abbrev cX3_count : ByteArray := prog_1_method_21_code
def yX3_count : MethodName := ⟨RX3, "count", "(I)I"⟩
abbrev cX3_outside : ByteArray := prog_1_method_30_code
def yX3_outside : MethodName := ⟨RX3, "outside", "(III)Z"⟩
abbrev cX3_note : ByteArray := prog_1_method_31_code
def yX3_note : MethodName := ⟨RX3, "note", "()V"⟩
abbrev cX3_kept : ByteArray := prog_1_method_32_code
def yX3_kept : MethodName := ⟨RX3, "kept", "(I)I"⟩
abbrev cX3_dropOldest : ByteArray := prog_1_method_33_code
def yX3_dropOldest : MethodName := ⟨RX3, "dropOldest", "()V"⟩
def RX4 : String := "WokenRoomsModel"
def TX4 : u_T := fun k => match k with
  | _ => ("", "", "", false)
def tyX4 : Nat → FieldType := fun k => match k with
  | _ => .int
abbrev wsX40 : List Cond := u_ws RX4 TX4 0
theorem nmX4 : ∀ a, a < 0 → ∀ b, b < 0 → a ≠ b → (TX4 a).2.1 ≠ (TX4 b).2.1 := by decide +kernel
theorem tyX4_ok : ∀ k, k < 0 → parseFieldDescriptor (TX4 k).2.2.1 = some (tyX4 k) := by decide +kernel
def RJ10 : String := "java/lang/System"
def TJ10 : u_T := fun k => match k with
  | _ => ("", "", "", false)
def tyJ10 : Nat → FieldType := fun k => match k with
  | _ => .int
abbrev wsJ100 : List Cond := u_ws RJ10 TJ10 0
theorem nmJ10 : ∀ a, a < 0 → ∀ b, b < 0 → a ≠ b → (TJ10 a).2.1 ≠ (TJ10 b).2.1 := by decide +kernel
theorem tyJ10_ok : ∀ k, k < 0 → parseFieldDescriptor (TJ10 k).2.2.1 = some (tyJ10 k) := by decide +kernel
def RL : String := "WokenRoomsLaw"
abbrev cL_cell : ByteArray := method_2_code
def yL_cell : MethodName := ⟨RL, "cell", "([II)I"⟩
abbrev cL_low : ByteArray := method_3_code
def yL_low : MethodName := ⟨RL, "low", "(II)I"⟩
abbrev cL_first : ByteArray := method_4_code
def yL_first : MethodName := ⟨RL, "first", "([I[II)I"⟩
abbrev cL_due : ByteArray := method_5_code
def yL_due : MethodName := ⟨RL, "due", "([I[III)Z"⟩
abbrev cL_called : ByteArray := method_6_code
def yL_called : MethodName := ⟨RL, "called", "([I[I[I[I[II)Z"⟩
abbrev cL_ready : ByteArray := method_7_code
def yL_ready : MethodName := ⟨RL, "ready", "([I[II)Z"⟩
abbrev cL_can : ByteArray := method_8_code
def yL_can : MethodName := ⟨RL, "can", "([I[I[II)Z"⟩
abbrev cL_wake : ByteArray := method_9_code
def yL_wake : MethodName := ⟨RL, "wake", "([I[I[II)V"⟩
abbrev cL_drop : ByteArray := method_10_code
def yL_drop : MethodName := ⟨RL, "drop", "([I[II)V"⟩
abbrev cL_needed : ByteArray := method_11_code
def yL_needed : MethodName := ⟨RL, "needed", "([I[I[II)Z"⟩
abbrev cL_tick : ByteArray := method_12_code
def yL_tick : MethodName := ⟨RL, "tick", "([I[I[I[I[I)J"⟩
abbrev cL_lays : ByteArray := method_13_code
def yL_lays : MethodName := ⟨RL, "lays", "(LWokenRooms;[I[I[I[III)Z"⟩
abbrev cL_acts : ByteArray := method_14_code
def yL_acts : MethodName := ⟨RL, "acts", "(LWokenRooms;[I[I[I[I[II)Z"⟩
abbrev cL_isRoom : ByteArray := method_15_code
def yL_isRoom : MethodName := ⟨RL, "isRoom", "(LWokenRooms;[I[I[I[I[II)Z"⟩
abbrev cL_isSo : ByteArray := method_16_code
def yL_isSo : MethodName := ⟨RL, "isSo", "(LWokenRooms;[I[I[I[I[I)Z"⟩
abbrev cL_law : ByteArray := code
def yL_law : MethodName := ⟨RL, "law", "([I)Z"⟩
def wsX2_init : List Cond := .code yX2_init cX2_init 1 none :: ([.methodLink RX2 3 objectInit, .instanceMethod objectInit, .code objectInit ⟨#[0xb1]⟩ 1 none, .arrayClass .int, .fieldLink RX2 9 "WokenRooms$Room" "costs" "[I", .fieldLink RX2 15 "WokenRooms$Room" "paid" "[I"] ++ wsX20)
def wsX0_init : List Cond := .code yX0_init cX0_init 2 none :: ([.methodLink RX0 3 objectInit, .instanceMethod objectInit, .code objectInit ⟨#[0xb1]⟩ 1 none, .classLink RX0 9 RX2, .fieldLink RX0 11 "WokenRooms$Chip" "rooms" "[LWokenRooms$Room;", .arrayClass .int, .fieldLink RX0 17 "WokenRooms$Chip" "limits" "[I", .fieldLink RX0 21 "WokenRooms$Chip" "useRooms" "[I", .fieldLink RX0 24 "WokenRooms$Chip" "useTimes" "[I", .fieldLink RX0 27 "WokenRooms$Chip" "useLengths" "[I", .instantiable RX2 15, .initialized RX2, .instanceMethod yX2_init, .code yX2_init cX2_init 1 none, .methodLink RX2 3 objectInit, .fieldLink RX2 9 "WokenRooms$Room" "costs" "[I", .fieldLink RX2 15 "WokenRooms$Room" "paid" "[I"] ++ wsX00 ++ wsX20)
def wsX2_copyFrom : List Cond := .code yX2_copyFrom cX2_copyFrom 2 none :: ([.fieldLink RX2 9 "WokenRooms$Room" "costs" "[I", .methodLink RX2 58 arraycopyName, .native arraycopyName, .static arraycopyName, .initialized "java/lang/System", .fieldLink RX2 15 "WokenRooms$Room" "paid" "[I", .fieldLink RX2 18 "WokenRooms$Room" "kind" "I", .fieldLink RX2 22 "WokenRooms$Room" "needed" "I", .fieldLink RX2 25 "WokenRooms$Room" "rail" "I", .fieldLink RX2 28 "WokenRooms$Room" "timeOut" "I", .fieldLink RX2 31 "WokenRooms$Room" "guess" "I", .fieldLink RX2 34 "WokenRooms$Room" "state" "I", .fieldLink RX2 37 "WokenRooms$Room" "left" "I", .fieldLink RX2 40 "WokenRooms$Room" "idled" "I", .fieldLink RX2 43 "WokenRooms$Room" "begun" "I", .fieldLink RX2 46 "WokenRooms$Room" "late" "I", .fieldLink RX2 49 "WokenRooms$Room" "woken" "I", .fieldLink RX2 52 "WokenRooms$Room" "latestEnd" "I", .fieldLink RX2 55 "WokenRooms$Room" "gap" "I"] ++ wsX20)
def wsX0_copyFrom_r1 : List Cond := [Cond.fieldLink RX0 31 "WokenRooms$Chip" "roomCount" "I", Cond.fieldLink RX0 11 "WokenRooms$Chip" "rooms" "[LWokenRooms$Room;", Cond.fieldLink RX0 17 "WokenRooms$Chip" "limits" "[I", Cond.methodLink RX0 39 arraycopyName, Cond.native arraycopyName, Cond.static arraycopyName, Cond.initialized "java/lang/System", Cond.fieldLink RX0 21 "WokenRooms$Chip" "useRooms" "[I", Cond.fieldLink RX0 24 "WokenRooms$Chip" "useTimes" "[I", Cond.fieldLink RX0 27 "WokenRooms$Chip" "useLengths" "[I", Cond.fieldLink RX0 45 "WokenRooms$Chip" "useCount" "I", Cond.fieldLink RX0 48 "WokenRooms$Chip" "time" "I", Cond.methodLink RX0 35 yX2_copyFrom, Cond.instanceMethod yX2_copyFrom, Cond.selects RX2 yX2_copyFrom yX2_copyFrom, Cond.initialized RX2, Cond.code yX2_copyFrom cX2_copyFrom 2 none, Cond.fieldLink RX2 9 "WokenRooms$Room" "costs" "[I", Cond.methodLink RX2 58 arraycopyName, Cond.fieldLink RX2 15 "WokenRooms$Room" "paid" "[I", Cond.fieldLink RX2 18 "WokenRooms$Room" "kind" "I", Cond.fieldLink RX2 22 "WokenRooms$Room" "needed" "I", Cond.fieldLink RX2 25 "WokenRooms$Room" "rail" "I", Cond.fieldLink RX2 28 "WokenRooms$Room" "timeOut" "I"]
def wsX0_copyFrom_r2 : List Cond := [Cond.fieldLink RX2 31 "WokenRooms$Room" "guess" "I", Cond.fieldLink RX2 34 "WokenRooms$Room" "state" "I", Cond.fieldLink RX2 37 "WokenRooms$Room" "left" "I", Cond.fieldLink RX2 40 "WokenRooms$Room" "idled" "I", Cond.fieldLink RX2 43 "WokenRooms$Room" "begun" "I", Cond.fieldLink RX2 46 "WokenRooms$Room" "late" "I", Cond.fieldLink RX2 49 "WokenRooms$Room" "woken" "I", Cond.fieldLink RX2 52 "WokenRooms$Room" "latestEnd" "I", Cond.fieldLink RX2 55 "WokenRooms$Room" "gap" "I"]
def wsX0_copyFrom : List Cond := .code yX0_copyFrom cX0_copyFrom 3 none :: ((wsX0_copyFrom_r1 ++ wsX0_copyFrom_r2) ++ wsX00 ++ wsX20)
def wsX0_hasRoom : List Cond := .code yX0_hasRoom cX0_hasRoom 2 (some .boolean) :: ([.fieldLink RX0 31 "WokenRooms$Chip" "roomCount" "I"] ++ wsX00)
def wsX0_hasUse : List Cond := .code yX0_hasUse cX0_hasUse 2 (some .boolean) :: ([.fieldLink RX0 45 "WokenRooms$Chip" "useCount" "I"] ++ wsX00)
def wsX0_roomsIn : List Cond := .code yX0_roomsIn cX0_roomsIn 4 (some .int) :: ([.fieldLink RX0 31 "WokenRooms$Chip" "roomCount" "I", .fieldLink RX0 11 "WokenRooms$Chip" "rooms" "[LWokenRooms$Room;", .fieldLink RX0 65 "WokenRooms$Room" "state" "I"] ++ wsX00 ++ wsX20)
def wsX2_paidInAll : List Cond := .code yX2_paidInAll cX2_paidInAll 1 (some .int) :: ([.fieldLink RX2 15 "WokenRooms$Room" "paid" "[I"] ++ wsX20)
def wsX0_paidInAll : List Cond := .code yX0_paidInAll cX0_paidInAll 3 (some .int) :: ([.fieldLink RX0 31 "WokenRooms$Chip" "roomCount" "I", .fieldLink RX0 11 "WokenRooms$Chip" "rooms" "[LWokenRooms$Room;", .methodLink RX0 68 yX2_paidInAll, .instanceMethod yX2_paidInAll, .selects RX2 yX2_paidInAll yX2_paidInAll, .initialized RX2, .code yX2_paidInAll cX2_paidInAll 1 (some .int), .fieldLink RX2 15 "WokenRooms$Room" "paid" "[I"] ++ wsX00 ++ wsX20)
def wsX0_begunInAll : List Cond := .code yX0_begunInAll cX0_begunInAll 3 (some .int) :: ([.fieldLink RX0 31 "WokenRooms$Chip" "roomCount" "I", .fieldLink RX0 11 "WokenRooms$Chip" "rooms" "[LWokenRooms$Room;", .fieldLink RX0 72 "WokenRooms$Room" "begun" "I"] ++ wsX00 ++ wsX20)
def wsX0_lateInAll : List Cond := .code yX0_lateInAll cX0_lateInAll 3 (some .int) :: ([.fieldLink RX0 31 "WokenRooms$Chip" "roomCount" "I", .fieldLink RX0 11 "WokenRooms$Chip" "rooms" "[LWokenRooms$Room;", .fieldLink RX0 75 "WokenRooms$Room" "late" "I"] ++ wsX00 ++ wsX20)
def wsX0_tell_r1 : List Cond := [Cond.fieldLink RX0 31 "WokenRooms$Chip" "roomCount" "I", Cond.fieldLink RX0 45 "WokenRooms$Chip" "useCount" "I", Cond.fieldLink RX0 48 "WokenRooms$Chip" "time" "I", Cond.methodLink RX0 51 yX0_roomsIn, Cond.instanceMethod yX0_roomsIn, Cond.selects RX0 yX0_roomsIn yX0_roomsIn, Cond.initialized RX0, Cond.code yX0_roomsIn cX0_roomsIn 4 (some .int), Cond.fieldLink RX0 11 "WokenRooms$Chip" "rooms" "[LWokenRooms$Room;", Cond.fieldLink RX0 65 "WokenRooms$Room" "state" "I", Cond.methodLink RX0 55 yX0_paidInAll, Cond.instanceMethod yX0_paidInAll, Cond.selects RX0 yX0_paidInAll yX0_paidInAll, Cond.code yX0_paidInAll cX0_paidInAll 3 (some .int), Cond.methodLink RX0 68 yX2_paidInAll, Cond.instanceMethod yX2_paidInAll, Cond.selects RX2 yX2_paidInAll yX2_paidInAll, Cond.initialized RX2, Cond.code yX2_paidInAll cX2_paidInAll 1 (some .int), Cond.fieldLink RX2 15 "WokenRooms$Room" "paid" "[I", Cond.methodLink RX0 59 yX0_begunInAll, Cond.instanceMethod yX0_begunInAll, Cond.selects RX0 yX0_begunInAll yX0_begunInAll, Cond.code yX0_begunInAll cX0_begunInAll 3 (some .int)]
def wsX0_tell_r2 : List Cond := [Cond.fieldLink RX0 72 "WokenRooms$Room" "begun" "I", Cond.methodLink RX0 62 yX0_lateInAll, Cond.instanceMethod yX0_lateInAll, Cond.selects RX0 yX0_lateInAll yX0_lateInAll, Cond.code yX0_lateInAll cX0_lateInAll 3 (some .int), Cond.fieldLink RX0 75 "WokenRooms$Room" "late" "I"]
def wsX0_tell : List Cond := .code yX0_tell cX0_tell 2 (some .int) :: ((wsX0_tell_r1 ++ wsX0_tell_r2) ++ wsX00 ++ wsX20)
def wsX3_outside : List Cond := .code yX3_outside cX3_outside 3 (some .boolean) :: ([])
def wsX0_setNeed : List Cond := .code yX0_setNeed cX0_setNeed 5 (some .int) :: ([.fieldLink RX0 11 "WokenRooms$Chip" "rooms" "[LWokenRooms$Room;", .fieldLink RX0 65 "WokenRooms$Room" "state" "I", .fieldLink RX0 86 "WokenRooms$Room" "needed" "I", .methodLink RX0 78 yX0_hasRoom, .instanceMethod yX0_hasRoom, .selects RX0 yX0_hasRoom yX0_hasRoom, .initialized RX0, .code yX0_hasRoom cX0_hasRoom 2 (some .boolean), .fieldLink RX0 31 "WokenRooms$Chip" "roomCount" "I", .static yX3_outside, .initialized RX3, .code yX3_outside cX3_outside 3 (some .boolean)] ++ wsX00 ++ wsX20)
def wsX0_pluggedInto : List Cond := .code yX0_pluggedInto cX0_pluggedInto 4 (some .int) :: ([.fieldLink RX0 31 "WokenRooms$Chip" "roomCount" "I", .fieldLink RX0 11 "WokenRooms$Chip" "rooms" "[LWokenRooms$Room;", .fieldLink RX0 89 "WokenRooms$Room" "rail" "I"] ++ wsX00 ++ wsX20)
def wsX0_plugIn : List Cond := .code yX0_plugIn cX0_plugIn 4 (some .int) :: ([.fieldLink RX0 11 "WokenRooms$Chip" "rooms" "[LWokenRooms$Room;", .fieldLink RX0 89 "WokenRooms$Room" "rail" "I", .fieldLink RX0 92 "WokenRooms$Room" "kind" "I", .methodLink RX0 78 yX0_hasRoom, .instanceMethod yX0_hasRoom, .selects RX0 yX0_hasRoom yX0_hasRoom, .initialized RX0, .code yX0_hasRoom cX0_hasRoom 2 (some .boolean), .fieldLink RX0 31 "WokenRooms$Chip" "roomCount" "I", .static yX3_outside, .initialized RX3, .code yX3_outside cX3_outside 3 (some .boolean), .methodLink RX0 95 yX0_pluggedInto, .instanceMethod yX0_pluggedInto, .selects RX0 yX0_pluggedInto yX0_pluggedInto, .code yX0_pluggedInto cX0_pluggedInto 4 (some .int)] ++ wsX00 ++ wsX20)
def wsX0_plugOut : List Cond := .code yX0_plugOut cX0_plugOut 4 (some .int) :: ([.fieldLink RX0 11 "WokenRooms$Chip" "rooms" "[LWokenRooms$Room;", .fieldLink RX0 89 "WokenRooms$Room" "rail" "I", .fieldLink RX0 65 "WokenRooms$Room" "state" "I", .methodLink RX0 78 yX0_hasRoom, .instanceMethod yX0_hasRoom, .selects RX0 yX0_hasRoom yX0_hasRoom, .initialized RX0, .code yX0_hasRoom cX0_hasRoom 2 (some .boolean), .fieldLink RX0 31 "WokenRooms$Chip" "roomCount" "I", .methodLink RX0 95 yX0_pluggedInto, .instanceMethod yX0_pluggedInto, .selects RX0 yX0_pluggedInto yX0_pluggedInto, .code yX0_pluggedInto cX0_pluggedInto 4 (some .int)] ++ wsX00 ++ wsX20)
def wsX0_roomOnRail : List Cond := .code yX0_roomOnRail cX0_roomOnRail 5 (some .int) :: ([.fieldLink RX0 31 "WokenRooms$Chip" "roomCount" "I", .fieldLink RX0 11 "WokenRooms$Chip" "rooms" "[LWokenRooms$Room;", .fieldLink RX0 89 "WokenRooms$Room" "rail" "I"] ++ wsX00 ++ wsX20)
def wsX0_setLimit : List Cond := .code yX0_setLimit cX0_setLimit 4 (some .int) :: ([.fieldLink RX0 17 "WokenRooms$Chip" "limits" "[I", .static yX3_outside, .initialized RX3, .code yX3_outside cX3_outside 3 (some .boolean)] ++ wsX00)
def wsX0_setPolicy : List Cond := .code yX0_setPolicy cX0_setPolicy 6 (some .int) :: ([.fieldLink RX0 11 "WokenRooms$Chip" "rooms" "[LWokenRooms$Room;", .fieldLink RX0 98 "WokenRooms$Room" "timeOut" "I", .fieldLink RX0 101 "WokenRooms$Room" "guess" "I", .methodLink RX0 78 yX0_hasRoom, .instanceMethod yX0_hasRoom, .selects RX0 yX0_hasRoom yX0_hasRoom, .initialized RX0, .code yX0_hasRoom cX0_hasRoom 2 (some .boolean), .fieldLink RX0 31 "WokenRooms$Chip" "roomCount" "I", .static yX3_outside, .initialized RX3, .code yX3_outside cX3_outside 3 (some .boolean)] ++ wsX00 ++ wsX20)
def wsX0_planUse : List Cond := .code yX0_planUse cX0_planUse 4 (some .int) :: ([.fieldLink RX0 48 "WokenRooms$Chip" "time" "I", .constant RX0 104 (50000), .fieldLink RX0 45 "WokenRooms$Chip" "useCount" "I", .fieldLink RX0 21 "WokenRooms$Chip" "useRooms" "[I", .fieldLink RX0 24 "WokenRooms$Chip" "useTimes" "[I", .fieldLink RX0 27 "WokenRooms$Chip" "useLengths" "[I", .methodLink RX0 78 yX0_hasRoom, .instanceMethod yX0_hasRoom, .selects RX0 yX0_hasRoom yX0_hasRoom, .initialized RX0, .code yX0_hasRoom cX0_hasRoom 2 (some .boolean), .fieldLink RX0 31 "WokenRooms$Chip" "roomCount" "I", .static yX3_outside, .initialized RX3, .code yX3_outside cX3_outside 3 (some .boolean)] ++ wsX00)
def wsX0_removeUse : List Cond := .code yX0_removeUse cX0_removeUse 3 none :: ([.fieldLink RX0 45 "WokenRooms$Chip" "useCount" "I", .fieldLink RX0 21 "WokenRooms$Chip" "useRooms" "[I", .fieldLink RX0 24 "WokenRooms$Chip" "useTimes" "[I", .fieldLink RX0 27 "WokenRooms$Chip" "useLengths" "[I"] ++ wsX00)
def wsX0_dropUse : List Cond := .code yX0_dropUse cX0_dropUse 3 (some .int) :: ([.fieldLink RX0 21 "WokenRooms$Chip" "useRooms" "[I", .methodLink RX0 105 yX0_hasUse, .instanceMethod yX0_hasUse, .selects RX0 yX0_hasUse yX0_hasUse, .initialized RX0, .code yX0_hasUse cX0_hasUse 2 (some .boolean), .fieldLink RX0 45 "WokenRooms$Chip" "useCount" "I", .methodLink RX0 108 yX0_removeUse, .instanceMethod yX0_removeUse, .selects RX0 yX0_removeUse yX0_removeUse, .code yX0_removeUse cX0_removeUse 3 none, .fieldLink RX0 24 "WokenRooms$Chip" "useTimes" "[I", .fieldLink RX0 27 "WokenRooms$Chip" "useLengths" "[I"] ++ wsX00)
def wsX0_usesOf : List Cond := .code yX0_usesOf cX0_usesOf 4 (some .int) :: ([.fieldLink RX0 45 "WokenRooms$Chip" "useCount" "I", .fieldLink RX0 21 "WokenRooms$Chip" "useRooms" "[I"] ++ wsX00)
def wsX0_firstUseOf : List Cond := .code yX0_firstUseOf cX0_firstUseOf 5 (some .int) :: ([.fieldLink RX0 45 "WokenRooms$Chip" "useCount" "I", .fieldLink RX0 21 "WokenRooms$Chip" "useRooms" "[I", .fieldLink RX0 24 "WokenRooms$Chip" "useTimes" "[I"] ++ wsX00)
def wsX2_isGuessedByGap : List Cond := .code yX2_isGuessedByGap cX2_isGuessedByGap 2 (some .boolean) :: ([.fieldLink RX2 31 "WokenRooms$Room" "guess" "I", .fieldLink RX2 43 "WokenRooms$Room" "begun" "I", .fieldLink RX2 34 "WokenRooms$Room" "state" "I", .fieldLink RX2 52 "WokenRooms$Room" "latestEnd" "I", .fieldLink RX2 55 "WokenRooms$Room" "gap" "I", .fieldLink RX2 9 "WokenRooms$Room" "costs" "[I"] ++ wsX20)
def wsX0_isCalled_r1 : List Cond := [Cond.fieldLink RX0 11 "WokenRooms$Chip" "rooms" "[LWokenRooms$Room;", Cond.fieldLink RX0 101 "WokenRooms$Room" "guess" "I", Cond.fieldLink RX0 115 "WokenRooms$Room" "costs" "[I", Cond.fieldLink RX0 24 "WokenRooms$Chip" "useTimes" "[I", Cond.fieldLink RX0 48 "WokenRooms$Chip" "time" "I", Cond.methodLink RX0 112 yX0_firstUseOf, Cond.instanceMethod yX0_firstUseOf, Cond.selects RX0 yX0_firstUseOf yX0_firstUseOf, Cond.initialized RX0, Cond.code yX0_firstUseOf cX0_firstUseOf 5 (some .int), Cond.fieldLink RX0 45 "WokenRooms$Chip" "useCount" "I", Cond.fieldLink RX0 21 "WokenRooms$Chip" "useRooms" "[I", Cond.methodLink RX0 105 yX0_hasUse, Cond.instanceMethod yX0_hasUse, Cond.selects RX0 yX0_hasUse yX0_hasUse, Cond.code yX0_hasUse cX0_hasUse 2 (some .boolean), Cond.methodLink RX0 118 yX2_isGuessedByGap, Cond.instanceMethod yX2_isGuessedByGap, Cond.selects RX2 yX2_isGuessedByGap yX2_isGuessedByGap, Cond.initialized RX2, Cond.code yX2_isGuessedByGap cX2_isGuessedByGap 2 (some .boolean), Cond.fieldLink RX2 31 "WokenRooms$Room" "guess" "I", Cond.fieldLink RX2 43 "WokenRooms$Room" "begun" "I", Cond.fieldLink RX2 34 "WokenRooms$Room" "state" "I"]
def wsX0_isCalled_r2 : List Cond := [Cond.fieldLink RX2 52 "WokenRooms$Room" "latestEnd" "I", Cond.fieldLink RX2 55 "WokenRooms$Room" "gap" "I", Cond.fieldLink RX2 9 "WokenRooms$Room" "costs" "[I"]
def wsX0_isCalled : List Cond := .code yX0_isCalled cX0_isCalled 5 (some .boolean) :: ((wsX0_isCalled_r1 ++ wsX0_isCalled_r2) ++ wsX00 ++ wsX20)
def wsX0_isReady : List Cond := .code yX0_isReady cX0_isReady 3 (some .boolean) :: ([.fieldLink RX0 11 "WokenRooms$Chip" "rooms" "[LWokenRooms$Room;", .fieldLink RX0 86 "WokenRooms$Room" "needed" "I", .fieldLink RX0 31 "WokenRooms$Chip" "roomCount" "I", .fieldLink RX0 65 "WokenRooms$Room" "state" "I"] ++ wsX00 ++ wsX20)
def wsX0_railLetsWake : List Cond := .code yX0_railLetsWake cX0_railLetsWake 5 (some .boolean) :: ([.fieldLink RX0 11 "WokenRooms$Chip" "rooms" "[LWokenRooms$Room;", .fieldLink RX0 89 "WokenRooms$Room" "rail" "I", .fieldLink RX0 31 "WokenRooms$Chip" "roomCount" "I", .fieldLink RX0 65 "WokenRooms$Room" "state" "I", .fieldLink RX0 17 "WokenRooms$Chip" "limits" "[I"] ++ wsX00 ++ wsX20)
def wsX0_hasDependentsUp : List Cond := .code yX0_hasDependentsUp cX0_hasDependentsUp 3 (some .boolean) :: ([.fieldLink RX0 31 "WokenRooms$Chip" "roomCount" "I", .fieldLink RX0 11 "WokenRooms$Chip" "rooms" "[LWokenRooms$Room;", .fieldLink RX0 86 "WokenRooms$Room" "needed" "I", .fieldLink RX0 65 "WokenRooms$Room" "state" "I"] ++ wsX00 ++ wsX20)
def wsX2_startWaking : List Cond := .code yX2_startWaking cX2_startWaking 1 none :: ([.fieldLink RX2 15 "WokenRooms$Room" "paid" "[I", .fieldLink RX2 9 "WokenRooms$Room" "costs" "[I", .fieldLink RX2 34 "WokenRooms$Room" "state" "I", .fieldLink RX2 37 "WokenRooms$Room" "left" "I", .fieldLink RX2 49 "WokenRooms$Room" "woken" "I"] ++ wsX20)
def wsX0_wakeRoom_r1 : List Cond := [Cond.fieldLink RX0 11 "WokenRooms$Chip" "rooms" "[LWokenRooms$Room;", Cond.fieldLink RX0 65 "WokenRooms$Room" "state" "I", Cond.fieldLink RX0 115 "WokenRooms$Room" "costs" "[I", Cond.methodLink RX0 78 yX0_hasRoom, Cond.instanceMethod yX0_hasRoom, Cond.selects RX0 yX0_hasRoom yX0_hasRoom, Cond.initialized RX0, Cond.code yX0_hasRoom cX0_hasRoom 2 (some .boolean), Cond.fieldLink RX0 31 "WokenRooms$Chip" "roomCount" "I", Cond.methodLink RX0 121 yX0_isReady, Cond.instanceMethod yX0_isReady, Cond.selects RX0 yX0_isReady yX0_isReady, Cond.code yX0_isReady cX0_isReady 3 (some .boolean), Cond.fieldLink RX0 86 "WokenRooms$Room" "needed" "I", Cond.methodLink RX0 124 yX0_railLetsWake, Cond.instanceMethod yX0_railLetsWake, Cond.selects RX0 yX0_railLetsWake yX0_railLetsWake, Cond.code yX0_railLetsWake cX0_railLetsWake 5 (some .boolean), Cond.fieldLink RX0 89 "WokenRooms$Room" "rail" "I", Cond.fieldLink RX0 17 "WokenRooms$Chip" "limits" "[I", Cond.methodLink RX0 127 yX2_startWaking, Cond.instanceMethod yX2_startWaking, Cond.selects RX2 yX2_startWaking yX2_startWaking, Cond.initialized RX2]
def wsX0_wakeRoom_r2 : List Cond := [Cond.code yX2_startWaking cX2_startWaking 1 none, Cond.fieldLink RX2 15 "WokenRooms$Room" "paid" "[I", Cond.fieldLink RX2 9 "WokenRooms$Room" "costs" "[I", Cond.fieldLink RX2 34 "WokenRooms$Room" "state" "I", Cond.fieldLink RX2 37 "WokenRooms$Room" "left" "I", Cond.fieldLink RX2 49 "WokenRooms$Room" "woken" "I"]
def wsX0_wakeRoom : List Cond := .code yX0_wakeRoom cX0_wakeRoom 3 (some .int) :: ((wsX0_wakeRoom_r1 ++ wsX0_wakeRoom_r2) ++ wsX00 ++ wsX20)
def wsX0_sendToSleep : List Cond := .code yX0_sendToSleep cX0_sendToSleep 3 (some .int) :: ([.fieldLink RX0 11 "WokenRooms$Chip" "rooms" "[LWokenRooms$Room;", .fieldLink RX0 65 "WokenRooms$Room" "state" "I", .fieldLink RX0 133 "WokenRooms$Room" "idled" "I", .methodLink RX0 78 yX0_hasRoom, .instanceMethod yX0_hasRoom, .selects RX0 yX0_hasRoom yX0_hasRoom, .initialized RX0, .code yX0_hasRoom cX0_hasRoom 2 (some .boolean), .fieldLink RX0 31 "WokenRooms$Chip" "roomCount" "I", .methodLink RX0 130 yX0_hasDependentsUp, .instanceMethod yX0_hasDependentsUp, .selects RX0 yX0_hasDependentsUp yX0_hasDependentsUp, .code yX0_hasDependentsUp cX0_hasDependentsUp 3 (some .boolean), .fieldLink RX0 86 "WokenRooms$Room" "needed" "I"] ++ wsX00 ++ wsX20)
def wsX0_soughtFor : List Cond := .code yX0_soughtFor cX0_soughtFor 4 (some .int) :: ([.fieldLink RX0 11 "WokenRooms$Chip" "rooms" "[LWokenRooms$Room;", .fieldLink RX0 65 "WokenRooms$Room" "state" "I", .fieldLink RX0 86 "WokenRooms$Room" "needed" "I", .methodLink RX0 78 yX0_hasRoom, .instanceMethod yX0_hasRoom, .selects RX0 yX0_hasRoom yX0_hasRoom, .initialized RX0, .code yX0_hasRoom cX0_hasRoom 2 (some .boolean), .fieldLink RX0 31 "WokenRooms$Chip" "roomCount" "I", .methodLink RX0 121 yX0_isReady, .instanceMethod yX0_isReady, .selects RX0 yX0_isReady yX0_isReady, .code yX0_isReady cX0_isReady 3 (some .boolean)] ++ wsX00 ++ wsX20)
def wsX0_wakeIfPossible : List Cond := .code yX0_wakeIfPossible cX0_wakeIfPossible 2 none :: ([.fieldLink RX0 11 "WokenRooms$Chip" "rooms" "[LWokenRooms$Room;", .methodLink RX0 78 yX0_hasRoom, .instanceMethod yX0_hasRoom, .selects RX0 yX0_hasRoom yX0_hasRoom, .initialized RX0, .code yX0_hasRoom cX0_hasRoom 2 (some .boolean), .fieldLink RX0 31 "WokenRooms$Chip" "roomCount" "I", .methodLink RX0 124 yX0_railLetsWake, .instanceMethod yX0_railLetsWake, .selects RX0 yX0_railLetsWake yX0_railLetsWake, .code yX0_railLetsWake cX0_railLetsWake 5 (some .boolean), .fieldLink RX0 89 "WokenRooms$Room" "rail" "I", .fieldLink RX0 65 "WokenRooms$Room" "state" "I", .fieldLink RX0 17 "WokenRooms$Chip" "limits" "[I", .methodLink RX0 127 yX2_startWaking, .instanceMethod yX2_startWaking, .selects RX2 yX2_startWaking yX2_startWaking, .initialized RX2, .code yX2_startWaking cX2_startWaking 1 none, .fieldLink RX2 15 "WokenRooms$Room" "paid" "[I", .fieldLink RX2 9 "WokenRooms$Room" "costs" "[I", .fieldLink RX2 34 "WokenRooms$Room" "state" "I", .fieldLink RX2 37 "WokenRooms$Room" "left" "I", .fieldLink RX2 49 "WokenRooms$Room" "woken" "I"] ++ wsX00 ++ wsX20)
def wsX2_begin : List Cond := .code yX2_begin cX2_begin 4 none :: ([.fieldLink RX2 43 "WokenRooms$Room" "begun" "I", .fieldLink RX2 52 "WokenRooms$Room" "latestEnd" "I", .fieldLink RX2 55 "WokenRooms$Room" "gap" "I", .fieldLink RX2 46 "WokenRooms$Room" "late" "I", .fieldLink RX2 34 "WokenRooms$Room" "state" "I", .fieldLink RX2 37 "WokenRooms$Room" "left" "I"] ++ wsX20)
def wsX0_beginDueUse_r1 : List Cond := [Cond.fieldLink RX0 11 "WokenRooms$Chip" "rooms" "[LWokenRooms$Room;", Cond.fieldLink RX0 65 "WokenRooms$Room" "state" "I", Cond.fieldLink RX0 24 "WokenRooms$Chip" "useTimes" "[I", Cond.fieldLink RX0 48 "WokenRooms$Chip" "time" "I", Cond.fieldLink RX0 27 "WokenRooms$Chip" "useLengths" "[I", Cond.methodLink RX0 112 yX0_firstUseOf, Cond.instanceMethod yX0_firstUseOf, Cond.selects RX0 yX0_firstUseOf yX0_firstUseOf, Cond.initialized RX0, Cond.code yX0_firstUseOf cX0_firstUseOf 5 (some .int), Cond.fieldLink RX0 45 "WokenRooms$Chip" "useCount" "I", Cond.fieldLink RX0 21 "WokenRooms$Chip" "useRooms" "[I", Cond.methodLink RX0 105 yX0_hasUse, Cond.instanceMethod yX0_hasUse, Cond.selects RX0 yX0_hasUse yX0_hasUse, Cond.code yX0_hasUse cX0_hasUse 2 (some .boolean), Cond.methodLink RX0 157 yX2_begin, Cond.instanceMethod yX2_begin, Cond.selects RX2 yX2_begin yX2_begin, Cond.initialized RX2, Cond.code yX2_begin cX2_begin 4 none, Cond.fieldLink RX2 43 "WokenRooms$Room" "begun" "I", Cond.fieldLink RX2 52 "WokenRooms$Room" "latestEnd" "I", Cond.fieldLink RX2 55 "WokenRooms$Room" "gap" "I"]
def wsX0_beginDueUse_r2 : List Cond := [Cond.fieldLink RX2 46 "WokenRooms$Room" "late" "I", Cond.fieldLink RX2 34 "WokenRooms$Room" "state" "I", Cond.fieldLink RX2 37 "WokenRooms$Room" "left" "I", Cond.methodLink RX0 108 yX0_removeUse, Cond.instanceMethod yX0_removeUse, Cond.selects RX0 yX0_removeUse yX0_removeUse, Cond.code yX0_removeUse cX0_removeUse 3 none]
def wsX0_beginDueUse : List Cond := .code yX0_beginDueUse cX0_beginDueUse 3 none :: ((wsX0_beginDueUse_r1 ++ wsX0_beginDueUse_r2) ++ wsX00 ++ wsX20)
def wsX2_payForTick : List Cond := .code yX2_payForTick cX2_payForTick 1 none :: ([.fieldLink RX2 34 "WokenRooms$Room" "state" "I", .fieldLink RX2 15 "WokenRooms$Room" "paid" "[I", .fieldLink RX2 9 "WokenRooms$Room" "costs" "[I"] ++ wsX20)
def wsX2_workOn : List Cond := .code yX2_workOn cX2_workOn 1 none :: ([.fieldLink RX2 37 "WokenRooms$Room" "left" "I", .fieldLink RX2 34 "WokenRooms$Room" "state" "I", .fieldLink RX2 40 "WokenRooms$Room" "idled" "I"] ++ wsX20)
def wsX2_isTimedOut : List Cond := .code yX2_isTimedOut cX2_isTimedOut 1 (some .boolean) :: ([.fieldLink RX2 28 "WokenRooms$Room" "timeOut" "I", .fieldLink RX2 40 "WokenRooms$Room" "idled" "I"] ++ wsX20)
def wsX0_goOn : List Cond := .code yX0_goOn cX0_goOn 3 none :: ([.fieldLink RX0 11 "WokenRooms$Chip" "rooms" "[LWokenRooms$Room;", .fieldLink RX0 65 "WokenRooms$Room" "state" "I", .fieldLink RX0 133 "WokenRooms$Room" "idled" "I", .methodLink RX0 161 yX2_workOn, .instanceMethod yX2_workOn, .selects RX2 yX2_workOn yX2_workOn, .initialized RX2, .code yX2_workOn cX2_workOn 1 none, .fieldLink RX2 37 "WokenRooms$Room" "left" "I", .fieldLink RX2 34 "WokenRooms$Room" "state" "I", .fieldLink RX2 40 "WokenRooms$Room" "idled" "I", .methodLink RX0 164 yX2_isTimedOut, .instanceMethod yX2_isTimedOut, .selects RX2 yX2_isTimedOut yX2_isTimedOut, .code yX2_isTimedOut cX2_isTimedOut 1 (some .boolean), .fieldLink RX2 28 "WokenRooms$Room" "timeOut" "I", .methodLink RX0 130 yX0_hasDependentsUp, .instanceMethod yX0_hasDependentsUp, .selects RX0 yX0_hasDependentsUp yX0_hasDependentsUp, .initialized RX0, .code yX0_hasDependentsUp cX0_hasDependentsUp 3 (some .boolean), .fieldLink RX0 31 "WokenRooms$Chip" "roomCount" "I", .fieldLink RX0 86 "WokenRooms$Room" "needed" "I"] ++ wsX00 ++ wsX20)
def wsX0_passTick_r1 : List Cond := [Cond.fieldLink RX0 31 "WokenRooms$Chip" "roomCount" "I", Cond.fieldLink RX0 11 "WokenRooms$Chip" "rooms" "[LWokenRooms$Room;", Cond.fieldLink RX0 65 "WokenRooms$Room" "state" "I", Cond.fieldLink RX0 48 "WokenRooms$Chip" "time" "I", Cond.methodLink RX0 139 yX0_isCalled, Cond.instanceMethod yX0_isCalled, Cond.selects RX0 yX0_isCalled yX0_isCalled, Cond.initialized RX0, Cond.code yX0_isCalled cX0_isCalled 5 (some .boolean), Cond.fieldLink RX0 101 "WokenRooms$Room" "guess" "I", Cond.fieldLink RX0 115 "WokenRooms$Room" "costs" "[I", Cond.fieldLink RX0 24 "WokenRooms$Chip" "useTimes" "[I", Cond.methodLink RX0 112 yX0_firstUseOf, Cond.instanceMethod yX0_firstUseOf, Cond.selects RX0 yX0_firstUseOf yX0_firstUseOf, Cond.code yX0_firstUseOf cX0_firstUseOf 5 (some .int), Cond.fieldLink RX0 45 "WokenRooms$Chip" "useCount" "I", Cond.fieldLink RX0 21 "WokenRooms$Chip" "useRooms" "[I", Cond.methodLink RX0 105 yX0_hasUse, Cond.instanceMethod yX0_hasUse, Cond.selects RX0 yX0_hasUse yX0_hasUse, Cond.code yX0_hasUse cX0_hasUse 2 (some .boolean), Cond.methodLink RX0 118 yX2_isGuessedByGap, Cond.instanceMethod yX2_isGuessedByGap]
def wsX0_passTick_r2 : List Cond := [Cond.selects RX2 yX2_isGuessedByGap yX2_isGuessedByGap, Cond.initialized RX2, Cond.code yX2_isGuessedByGap cX2_isGuessedByGap 2 (some .boolean), Cond.fieldLink RX2 31 "WokenRooms$Room" "guess" "I", Cond.fieldLink RX2 43 "WokenRooms$Room" "begun" "I", Cond.fieldLink RX2 34 "WokenRooms$Room" "state" "I", Cond.fieldLink RX2 52 "WokenRooms$Room" "latestEnd" "I", Cond.fieldLink RX2 55 "WokenRooms$Room" "gap" "I", Cond.fieldLink RX2 9 "WokenRooms$Room" "costs" "[I", Cond.methodLink RX0 142 yX0_soughtFor, Cond.instanceMethod yX0_soughtFor, Cond.selects RX0 yX0_soughtFor yX0_soughtFor, Cond.code yX0_soughtFor cX0_soughtFor 4 (some .int), Cond.fieldLink RX0 86 "WokenRooms$Room" "needed" "I", Cond.methodLink RX0 78 yX0_hasRoom, Cond.instanceMethod yX0_hasRoom, Cond.selects RX0 yX0_hasRoom yX0_hasRoom, Cond.code yX0_hasRoom cX0_hasRoom 2 (some .boolean), Cond.methodLink RX0 121 yX0_isReady, Cond.instanceMethod yX0_isReady, Cond.selects RX0 yX0_isReady yX0_isReady, Cond.code yX0_isReady cX0_isReady 3 (some .boolean), Cond.methodLink RX0 145 yX0_wakeIfPossible, Cond.instanceMethod yX0_wakeIfPossible]
def wsX0_passTick_r3 : List Cond := [Cond.selects RX0 yX0_wakeIfPossible yX0_wakeIfPossible, Cond.code yX0_wakeIfPossible cX0_wakeIfPossible 2 none, Cond.methodLink RX0 124 yX0_railLetsWake, Cond.instanceMethod yX0_railLetsWake, Cond.selects RX0 yX0_railLetsWake yX0_railLetsWake, Cond.code yX0_railLetsWake cX0_railLetsWake 5 (some .boolean), Cond.fieldLink RX0 89 "WokenRooms$Room" "rail" "I", Cond.fieldLink RX0 17 "WokenRooms$Chip" "limits" "[I", Cond.methodLink RX0 127 yX2_startWaking, Cond.instanceMethod yX2_startWaking, Cond.selects RX2 yX2_startWaking yX2_startWaking, Cond.code yX2_startWaking cX2_startWaking 1 none, Cond.fieldLink RX2 15 "WokenRooms$Room" "paid" "[I", Cond.fieldLink RX2 37 "WokenRooms$Room" "left" "I", Cond.fieldLink RX2 49 "WokenRooms$Room" "woken" "I", Cond.methodLink RX0 148 yX0_beginDueUse, Cond.instanceMethod yX0_beginDueUse, Cond.selects RX0 yX0_beginDueUse yX0_beginDueUse, Cond.code yX0_beginDueUse cX0_beginDueUse 3 none, Cond.fieldLink RX0 27 "WokenRooms$Chip" "useLengths" "[I", Cond.methodLink RX0 157 yX2_begin, Cond.instanceMethod yX2_begin, Cond.selects RX2 yX2_begin yX2_begin, Cond.code yX2_begin cX2_begin 4 none]
def wsX0_passTick_r4 : List Cond := [Cond.fieldLink RX2 46 "WokenRooms$Room" "late" "I", Cond.methodLink RX0 108 yX0_removeUse, Cond.instanceMethod yX0_removeUse, Cond.selects RX0 yX0_removeUse yX0_removeUse, Cond.code yX0_removeUse cX0_removeUse 3 none, Cond.methodLink RX0 151 yX2_payForTick, Cond.instanceMethod yX2_payForTick, Cond.selects RX2 yX2_payForTick yX2_payForTick, Cond.code yX2_payForTick cX2_payForTick 1 none, Cond.methodLink RX0 154 yX0_goOn, Cond.instanceMethod yX0_goOn, Cond.selects RX0 yX0_goOn yX0_goOn, Cond.code yX0_goOn cX0_goOn 3 none, Cond.fieldLink RX0 133 "WokenRooms$Room" "idled" "I", Cond.methodLink RX0 161 yX2_workOn, Cond.instanceMethod yX2_workOn, Cond.selects RX2 yX2_workOn yX2_workOn, Cond.code yX2_workOn cX2_workOn 1 none, Cond.fieldLink RX2 40 "WokenRooms$Room" "idled" "I", Cond.methodLink RX0 164 yX2_isTimedOut, Cond.instanceMethod yX2_isTimedOut, Cond.selects RX2 yX2_isTimedOut yX2_isTimedOut, Cond.code yX2_isTimedOut cX2_isTimedOut 1 (some .boolean), Cond.fieldLink RX2 28 "WokenRooms$Room" "timeOut" "I"]
def wsX0_passTick_r5 : List Cond := [Cond.methodLink RX0 130 yX0_hasDependentsUp, Cond.instanceMethod yX0_hasDependentsUp, Cond.selects RX0 yX0_hasDependentsUp yX0_hasDependentsUp, Cond.code yX0_hasDependentsUp cX0_hasDependentsUp 3 (some .boolean)]
def wsX0_passTick : List Cond := .code yX0_passTick cX0_passTick 2 none :: ((wsX0_passTick_r1 ++ (wsX0_passTick_r2 ++ (wsX0_passTick_r3 ++ (wsX0_passTick_r4 ++ wsX0_passTick_r5)))) ++ wsX00 ++ wsX20)
def wsX0_letTicksGoBy_r1 : List Cond := [Cond.fieldLink RX0 48 "WokenRooms$Chip" "time" "I", Cond.constant RX0 104 (50000), Cond.static yX3_outside, Cond.initialized RX3, Cond.code yX3_outside cX3_outside 3 (some .boolean), Cond.methodLink RX0 59 yX0_begunInAll, Cond.instanceMethod yX0_begunInAll, Cond.selects RX0 yX0_begunInAll yX0_begunInAll, Cond.initialized RX0, Cond.code yX0_begunInAll cX0_begunInAll 3 (some .int), Cond.fieldLink RX0 31 "WokenRooms$Chip" "roomCount" "I", Cond.fieldLink RX0 11 "WokenRooms$Chip" "rooms" "[LWokenRooms$Room;", Cond.fieldLink RX0 72 "WokenRooms$Room" "begun" "I", Cond.methodLink RX0 136 yX0_passTick, Cond.instanceMethod yX0_passTick, Cond.selects RX0 yX0_passTick yX0_passTick, Cond.code yX0_passTick cX0_passTick 2 none, Cond.fieldLink RX0 65 "WokenRooms$Room" "state" "I", Cond.methodLink RX0 139 yX0_isCalled, Cond.instanceMethod yX0_isCalled, Cond.selects RX0 yX0_isCalled yX0_isCalled, Cond.code yX0_isCalled cX0_isCalled 5 (some .boolean), Cond.fieldLink RX0 101 "WokenRooms$Room" "guess" "I", Cond.fieldLink RX0 115 "WokenRooms$Room" "costs" "[I"]
def wsX0_letTicksGoBy_r2 : List Cond := [Cond.fieldLink RX0 24 "WokenRooms$Chip" "useTimes" "[I", Cond.methodLink RX0 112 yX0_firstUseOf, Cond.instanceMethod yX0_firstUseOf, Cond.selects RX0 yX0_firstUseOf yX0_firstUseOf, Cond.code yX0_firstUseOf cX0_firstUseOf 5 (some .int), Cond.fieldLink RX0 45 "WokenRooms$Chip" "useCount" "I", Cond.fieldLink RX0 21 "WokenRooms$Chip" "useRooms" "[I", Cond.methodLink RX0 105 yX0_hasUse, Cond.instanceMethod yX0_hasUse, Cond.selects RX0 yX0_hasUse yX0_hasUse, Cond.code yX0_hasUse cX0_hasUse 2 (some .boolean), Cond.methodLink RX0 118 yX2_isGuessedByGap, Cond.instanceMethod yX2_isGuessedByGap, Cond.selects RX2 yX2_isGuessedByGap yX2_isGuessedByGap, Cond.initialized RX2, Cond.code yX2_isGuessedByGap cX2_isGuessedByGap 2 (some .boolean), Cond.fieldLink RX2 31 "WokenRooms$Room" "guess" "I", Cond.fieldLink RX2 43 "WokenRooms$Room" "begun" "I", Cond.fieldLink RX2 34 "WokenRooms$Room" "state" "I", Cond.fieldLink RX2 52 "WokenRooms$Room" "latestEnd" "I", Cond.fieldLink RX2 55 "WokenRooms$Room" "gap" "I", Cond.fieldLink RX2 9 "WokenRooms$Room" "costs" "[I", Cond.methodLink RX0 142 yX0_soughtFor, Cond.instanceMethod yX0_soughtFor]
def wsX0_letTicksGoBy_r3 : List Cond := [Cond.selects RX0 yX0_soughtFor yX0_soughtFor, Cond.code yX0_soughtFor cX0_soughtFor 4 (some .int), Cond.fieldLink RX0 86 "WokenRooms$Room" "needed" "I", Cond.methodLink RX0 78 yX0_hasRoom, Cond.instanceMethod yX0_hasRoom, Cond.selects RX0 yX0_hasRoom yX0_hasRoom, Cond.code yX0_hasRoom cX0_hasRoom 2 (some .boolean), Cond.methodLink RX0 121 yX0_isReady, Cond.instanceMethod yX0_isReady, Cond.selects RX0 yX0_isReady yX0_isReady, Cond.code yX0_isReady cX0_isReady 3 (some .boolean), Cond.methodLink RX0 145 yX0_wakeIfPossible, Cond.instanceMethod yX0_wakeIfPossible, Cond.selects RX0 yX0_wakeIfPossible yX0_wakeIfPossible, Cond.code yX0_wakeIfPossible cX0_wakeIfPossible 2 none, Cond.methodLink RX0 124 yX0_railLetsWake, Cond.instanceMethod yX0_railLetsWake, Cond.selects RX0 yX0_railLetsWake yX0_railLetsWake, Cond.code yX0_railLetsWake cX0_railLetsWake 5 (some .boolean), Cond.fieldLink RX0 89 "WokenRooms$Room" "rail" "I", Cond.fieldLink RX0 17 "WokenRooms$Chip" "limits" "[I", Cond.methodLink RX0 127 yX2_startWaking, Cond.instanceMethod yX2_startWaking, Cond.selects RX2 yX2_startWaking yX2_startWaking]
def wsX0_letTicksGoBy_r4 : List Cond := [Cond.code yX2_startWaking cX2_startWaking 1 none, Cond.fieldLink RX2 15 "WokenRooms$Room" "paid" "[I", Cond.fieldLink RX2 37 "WokenRooms$Room" "left" "I", Cond.fieldLink RX2 49 "WokenRooms$Room" "woken" "I", Cond.methodLink RX0 148 yX0_beginDueUse, Cond.instanceMethod yX0_beginDueUse, Cond.selects RX0 yX0_beginDueUse yX0_beginDueUse, Cond.code yX0_beginDueUse cX0_beginDueUse 3 none, Cond.fieldLink RX0 27 "WokenRooms$Chip" "useLengths" "[I", Cond.methodLink RX0 157 yX2_begin, Cond.instanceMethod yX2_begin, Cond.selects RX2 yX2_begin yX2_begin, Cond.code yX2_begin cX2_begin 4 none, Cond.fieldLink RX2 46 "WokenRooms$Room" "late" "I", Cond.methodLink RX0 108 yX0_removeUse, Cond.instanceMethod yX0_removeUse, Cond.selects RX0 yX0_removeUse yX0_removeUse, Cond.code yX0_removeUse cX0_removeUse 3 none, Cond.methodLink RX0 151 yX2_payForTick, Cond.instanceMethod yX2_payForTick, Cond.selects RX2 yX2_payForTick yX2_payForTick, Cond.code yX2_payForTick cX2_payForTick 1 none, Cond.methodLink RX0 154 yX0_goOn, Cond.instanceMethod yX0_goOn]
def wsX0_letTicksGoBy_r5 : List Cond := [Cond.selects RX0 yX0_goOn yX0_goOn, Cond.code yX0_goOn cX0_goOn 3 none, Cond.fieldLink RX0 133 "WokenRooms$Room" "idled" "I", Cond.methodLink RX0 161 yX2_workOn, Cond.instanceMethod yX2_workOn, Cond.selects RX2 yX2_workOn yX2_workOn, Cond.code yX2_workOn cX2_workOn 1 none, Cond.fieldLink RX2 40 "WokenRooms$Room" "idled" "I", Cond.methodLink RX0 164 yX2_isTimedOut, Cond.instanceMethod yX2_isTimedOut, Cond.selects RX2 yX2_isTimedOut yX2_isTimedOut, Cond.code yX2_isTimedOut cX2_isTimedOut 1 (some .boolean), Cond.fieldLink RX2 28 "WokenRooms$Room" "timeOut" "I", Cond.methodLink RX0 130 yX0_hasDependentsUp, Cond.instanceMethod yX0_hasDependentsUp, Cond.selects RX0 yX0_hasDependentsUp yX0_hasDependentsUp, Cond.code yX0_hasDependentsUp cX0_hasDependentsUp 3 (some .boolean)]
def wsX0_letTicksGoBy : List Cond := .code yX0_letTicksGoBy cX0_letTicksGoBy 4 (some .int) :: ((wsX0_letTicksGoBy_r1 ++ (wsX0_letTicksGoBy_r2 ++ (wsX0_letTicksGoBy_r3 ++ (wsX0_letTicksGoBy_r4 ++ wsX0_letTicksGoBy_r5)))) ++ wsX00 ++ wsX20)
def wsX1_init : List Cond := .code yX1_init cX1_init 1 none :: ([.methodLink RX1 3 objectInit, .instanceMethod objectInit, .code objectInit ⟨#[0xb1]⟩ 1 none, .arrayClass .char, .fieldLink RX1 9 "WokenRooms$Orders" "signs" "[C", .arrayClass .int, .fieldLink RX1 15 "WokenRooms$Orders" "numbers" "[I"] ++ wsX10)
def wsX2_startAnew : List Cond := .code yX2_startAnew cX2_startAnew 3 none :: ([.fieldLink RX2 15 "WokenRooms$Room" "paid" "[I", .fieldLink RX2 18 "WokenRooms$Room" "kind" "I", .fieldLink RX2 22 "WokenRooms$Room" "needed" "I", .fieldLink RX2 25 "WokenRooms$Room" "rail" "I", .fieldLink RX2 28 "WokenRooms$Room" "timeOut" "I", .fieldLink RX2 31 "WokenRooms$Room" "guess" "I", .fieldLink RX2 34 "WokenRooms$Room" "state" "I", .fieldLink RX2 37 "WokenRooms$Room" "left" "I", .fieldLink RX2 40 "WokenRooms$Room" "idled" "I", .fieldLink RX2 43 "WokenRooms$Room" "begun" "I", .fieldLink RX2 46 "WokenRooms$Room" "late" "I", .fieldLink RX2 49 "WokenRooms$Room" "woken" "I", .fieldLink RX2 52 "WokenRooms$Room" "latestEnd" "I", .fieldLink RX2 55 "WokenRooms$Room" "gap" "I"] ++ wsX20)
def wsX2_tell : List Cond := .code yX2_tell cX2_tell 2 (some .int) :: ([.fieldLink RX2 18 "WokenRooms$Room" "kind" "I", .fieldLink RX2 34 "WokenRooms$Room" "state" "I", .fieldLink RX2 22 "WokenRooms$Room" "needed" "I", .fieldLink RX2 25 "WokenRooms$Room" "rail" "I", .fieldLink RX2 37 "WokenRooms$Room" "left" "I", .fieldLink RX2 40 "WokenRooms$Room" "idled" "I", .fieldLink RX2 28 "WokenRooms$Room" "timeOut" "I", .fieldLink RX2 31 "WokenRooms$Room" "guess" "I", .fieldLink RX2 43 "WokenRooms$Room" "begun" "I", .fieldLink RX2 46 "WokenRooms$Room" "late" "I", .fieldLink RX2 49 "WokenRooms$Room" "woken" "I", .fieldLink RX2 55 "WokenRooms$Room" "gap" "I"] ++ wsX20)
def wsX3_init_r1 : List Cond := [Cond.methodLink RX3 1 objectInit, Cond.instanceMethod objectInit, Cond.code objectInit ⟨#[0xb1]⟩ 1 none, Cond.classLink RX3 7 RX0, Cond.instantiable RX0 8, Cond.initialized RX0, Cond.fieldLink RX3 10 "WokenRooms" "chip" "LWokenRooms$Chip;", Cond.fieldLink RX3 16 "WokenRooms" "trial" "LWokenRooms$Chip;", Cond.fieldLink RX3 19 "WokenRooms" "history" "[LWokenRooms$Chip;", Cond.classLink RX3 23 RX1, Cond.instantiable RX1 9, Cond.initialized RX1, Cond.fieldLink RX3 26 "WokenRooms" "orders" "LWokenRooms$Orders;", Cond.methodLink RX3 9 yX0_init, Cond.instanceMethod yX0_init, Cond.code yX0_init cX0_init 2 none, Cond.methodLink RX0 3 objectInit, Cond.classLink RX0 9 RX2, Cond.fieldLink RX0 11 "WokenRooms$Chip" "rooms" "[LWokenRooms$Room;", Cond.arrayClass .int, Cond.fieldLink RX0 17 "WokenRooms$Chip" "limits" "[I", Cond.fieldLink RX0 21 "WokenRooms$Chip" "useRooms" "[I", Cond.fieldLink RX0 24 "WokenRooms$Chip" "useTimes" "[I", Cond.fieldLink RX0 27 "WokenRooms$Chip" "useLengths" "[I"]
def wsX3_init_r2 : List Cond := [Cond.instantiable RX2 15, Cond.initialized RX2, Cond.instanceMethod yX2_init, Cond.code yX2_init cX2_init 1 none, Cond.methodLink RX2 3 objectInit, Cond.fieldLink RX2 9 "WokenRooms$Room" "costs" "[I", Cond.fieldLink RX2 15 "WokenRooms$Room" "paid" "[I", Cond.instanceMethod yX1_init, Cond.code yX1_init cX1_init 1 none, Cond.methodLink RX1 3 objectInit, Cond.arrayClass .char, Cond.fieldLink RX1 9 "WokenRooms$Orders" "signs" "[C", Cond.fieldLink RX1 15 "WokenRooms$Orders" "numbers" "[I"]
def wsX3_init : List Cond := .code yX3_init cX3_init 2 none :: ((wsX3_init_r1 ++ wsX3_init_r2) ++ wsX00 ++ wsX30 ++ wsX10 ++ wsX20)
def wsX3_note_r1 : List Cond := [Cond.fieldLink RX3 143 "WokenRooms" "historySize" "I", Cond.fieldLink RX3 19 "WokenRooms" "history" "[LWokenRooms$Chip;", Cond.fieldLink RX3 10 "WokenRooms" "chip" "LWokenRooms$Chip;", Cond.methodLink RX3 153 yX0_copyFrom, Cond.instanceMethod yX0_copyFrom, Cond.selects RX0 yX0_copyFrom yX0_copyFrom, Cond.initialized RX0, Cond.code yX0_copyFrom cX0_copyFrom 3 none, Cond.fieldLink RX0 31 "WokenRooms$Chip" "roomCount" "I", Cond.fieldLink RX0 11 "WokenRooms$Chip" "rooms" "[LWokenRooms$Room;", Cond.fieldLink RX0 17 "WokenRooms$Chip" "limits" "[I", Cond.methodLink RX0 39 arraycopyName, Cond.native arraycopyName, Cond.static arraycopyName, Cond.initialized "java/lang/System", Cond.fieldLink RX0 21 "WokenRooms$Chip" "useRooms" "[I", Cond.fieldLink RX0 24 "WokenRooms$Chip" "useTimes" "[I", Cond.fieldLink RX0 27 "WokenRooms$Chip" "useLengths" "[I", Cond.fieldLink RX0 45 "WokenRooms$Chip" "useCount" "I", Cond.fieldLink RX0 48 "WokenRooms$Chip" "time" "I", Cond.methodLink RX0 35 yX2_copyFrom, Cond.instanceMethod yX2_copyFrom, Cond.selects RX2 yX2_copyFrom yX2_copyFrom, Cond.initialized RX2]
def wsX3_note_r2 : List Cond := [Cond.code yX2_copyFrom cX2_copyFrom 2 none, Cond.fieldLink RX2 9 "WokenRooms$Room" "costs" "[I", Cond.methodLink RX2 58 arraycopyName, Cond.fieldLink RX2 15 "WokenRooms$Room" "paid" "[I", Cond.fieldLink RX2 18 "WokenRooms$Room" "kind" "I", Cond.fieldLink RX2 22 "WokenRooms$Room" "needed" "I", Cond.fieldLink RX2 25 "WokenRooms$Room" "rail" "I", Cond.fieldLink RX2 28 "WokenRooms$Room" "timeOut" "I", Cond.fieldLink RX2 31 "WokenRooms$Room" "guess" "I", Cond.fieldLink RX2 34 "WokenRooms$Room" "state" "I", Cond.fieldLink RX2 37 "WokenRooms$Room" "left" "I", Cond.fieldLink RX2 40 "WokenRooms$Room" "idled" "I", Cond.fieldLink RX2 43 "WokenRooms$Room" "begun" "I", Cond.fieldLink RX2 46 "WokenRooms$Room" "late" "I", Cond.fieldLink RX2 49 "WokenRooms$Room" "woken" "I", Cond.fieldLink RX2 52 "WokenRooms$Room" "latestEnd" "I", Cond.fieldLink RX2 55 "WokenRooms$Room" "gap" "I"]
def wsX3_note : List Cond := .code yX3_note cX3_note 1 none :: ((wsX3_note_r1 ++ wsX3_note_r2) ++ wsX30 ++ wsX00 ++ wsX20)
def wsX3_dropOldest : List Cond := .code yX3_dropOldest cX3_dropOldest 3 none :: ([.fieldLink RX3 19 "WokenRooms" "history" "[LWokenRooms$Chip;", .fieldLink RX3 143 "WokenRooms" "historySize" "I"] ++ wsX30)
def wsX3_kept : List Cond := .code yX3_kept cX3_kept 2 (some .int) :: ([.fieldLink RX3 143 "WokenRooms" "historySize" "I", .methodLink RX3 195 yX3_dropOldest, .instanceMethod yX3_dropOldest, .selects RX3 yX3_dropOldest yX3_dropOldest, .initialized RX3, .code yX3_dropOldest cX3_dropOldest 3 none, .fieldLink RX3 19 "WokenRooms" "history" "[LWokenRooms$Chip;"] ++ wsX30)
def wsX3_room_r1 : List Cond := [Cond.fieldLink RX3 10 "WokenRooms" "chip" "LWokenRooms$Chip;", Cond.fieldLink RX3 34 "WokenRooms$Chip" "roomCount" "I", Cond.fieldLink RX3 41 "WokenRooms$Chip" "rooms" "[LWokenRooms$Room;", Cond.fieldLink RX3 51 "WokenRooms$Room" "costs" "[I", Cond.methodLink RX3 30 yX3_outside, Cond.static yX3_outside, Cond.initialized RX3, Cond.code yX3_outside cX3_outside 3 (some .boolean), Cond.methodLink RX3 38 yX3_note, Cond.instanceMethod yX3_note, Cond.selects RX3 yX3_note yX3_note, Cond.code yX3_note cX3_note 1 none, Cond.fieldLink RX3 143 "WokenRooms" "historySize" "I", Cond.fieldLink RX3 19 "WokenRooms" "history" "[LWokenRooms$Chip;", Cond.methodLink RX3 153 yX0_copyFrom, Cond.instanceMethod yX0_copyFrom, Cond.selects RX0 yX0_copyFrom yX0_copyFrom, Cond.initialized RX0, Cond.code yX0_copyFrom cX0_copyFrom 3 none, Cond.fieldLink RX0 31 "WokenRooms$Chip" "roomCount" "I", Cond.fieldLink RX0 11 "WokenRooms$Chip" "rooms" "[LWokenRooms$Room;", Cond.fieldLink RX0 17 "WokenRooms$Chip" "limits" "[I", Cond.methodLink RX0 39 arraycopyName, Cond.native arraycopyName]
def wsX3_room_r2 : List Cond := [Cond.static arraycopyName, Cond.initialized "java/lang/System", Cond.fieldLink RX0 21 "WokenRooms$Chip" "useRooms" "[I", Cond.fieldLink RX0 24 "WokenRooms$Chip" "useTimes" "[I", Cond.fieldLink RX0 27 "WokenRooms$Chip" "useLengths" "[I", Cond.fieldLink RX0 45 "WokenRooms$Chip" "useCount" "I", Cond.fieldLink RX0 48 "WokenRooms$Chip" "time" "I", Cond.methodLink RX0 35 yX2_copyFrom, Cond.instanceMethod yX2_copyFrom, Cond.selects RX2 yX2_copyFrom yX2_copyFrom, Cond.initialized RX2, Cond.code yX2_copyFrom cX2_copyFrom 2 none, Cond.fieldLink RX2 9 "WokenRooms$Room" "costs" "[I", Cond.methodLink RX2 58 arraycopyName, Cond.fieldLink RX2 15 "WokenRooms$Room" "paid" "[I", Cond.fieldLink RX2 18 "WokenRooms$Room" "kind" "I", Cond.fieldLink RX2 22 "WokenRooms$Room" "needed" "I", Cond.fieldLink RX2 25 "WokenRooms$Room" "rail" "I", Cond.fieldLink RX2 28 "WokenRooms$Room" "timeOut" "I", Cond.fieldLink RX2 31 "WokenRooms$Room" "guess" "I", Cond.fieldLink RX2 34 "WokenRooms$Room" "state" "I", Cond.fieldLink RX2 37 "WokenRooms$Room" "left" "I", Cond.fieldLink RX2 40 "WokenRooms$Room" "idled" "I", Cond.fieldLink RX2 43 "WokenRooms$Room" "begun" "I"]
def wsX3_room_r3 : List Cond := [Cond.fieldLink RX2 46 "WokenRooms$Room" "late" "I", Cond.fieldLink RX2 49 "WokenRooms$Room" "woken" "I", Cond.fieldLink RX2 52 "WokenRooms$Room" "latestEnd" "I", Cond.fieldLink RX2 55 "WokenRooms$Room" "gap" "I", Cond.methodLink RX3 45 yX2_startAnew, Cond.instanceMethod yX2_startAnew, Cond.selects RX2 yX2_startAnew yX2_startAnew, Cond.code yX2_startAnew cX2_startAnew 3 none, Cond.methodLink RX3 55 yX3_kept, Cond.instanceMethod yX3_kept, Cond.selects RX3 yX3_kept yX3_kept, Cond.code yX3_kept cX3_kept 2 (some .int), Cond.methodLink RX3 195 yX3_dropOldest, Cond.instanceMethod yX3_dropOldest, Cond.selects RX3 yX3_dropOldest yX3_dropOldest, Cond.code yX3_dropOldest cX3_dropOldest 3 none]
def wsX3_room : List Cond := .code yX3_room cX3_room 8 (some .int) :: ((wsX3_room_r1 ++ (wsX3_room_r2 ++ wsX3_room_r3)) ++ wsX30 ++ wsX00 ++ wsX20)
def wsX3_need_r1 : List Cond := [Cond.fieldLink RX3 10 "WokenRooms" "chip" "LWokenRooms$Chip;", Cond.methodLink RX3 38 yX3_note, Cond.instanceMethod yX3_note, Cond.selects RX3 yX3_note yX3_note, Cond.initialized RX3, Cond.code yX3_note cX3_note 1 none, Cond.fieldLink RX3 143 "WokenRooms" "historySize" "I", Cond.fieldLink RX3 19 "WokenRooms" "history" "[LWokenRooms$Chip;", Cond.methodLink RX3 153 yX0_copyFrom, Cond.instanceMethod yX0_copyFrom, Cond.selects RX0 yX0_copyFrom yX0_copyFrom, Cond.initialized RX0, Cond.code yX0_copyFrom cX0_copyFrom 3 none, Cond.fieldLink RX0 31 "WokenRooms$Chip" "roomCount" "I", Cond.fieldLink RX0 11 "WokenRooms$Chip" "rooms" "[LWokenRooms$Room;", Cond.fieldLink RX0 17 "WokenRooms$Chip" "limits" "[I", Cond.methodLink RX0 39 arraycopyName, Cond.native arraycopyName, Cond.static arraycopyName, Cond.initialized "java/lang/System", Cond.fieldLink RX0 21 "WokenRooms$Chip" "useRooms" "[I", Cond.fieldLink RX0 24 "WokenRooms$Chip" "useTimes" "[I", Cond.fieldLink RX0 27 "WokenRooms$Chip" "useLengths" "[I", Cond.fieldLink RX0 45 "WokenRooms$Chip" "useCount" "I"]
def wsX3_need_r2 : List Cond := [Cond.fieldLink RX0 48 "WokenRooms$Chip" "time" "I", Cond.methodLink RX0 35 yX2_copyFrom, Cond.instanceMethod yX2_copyFrom, Cond.selects RX2 yX2_copyFrom yX2_copyFrom, Cond.initialized RX2, Cond.code yX2_copyFrom cX2_copyFrom 2 none, Cond.fieldLink RX2 9 "WokenRooms$Room" "costs" "[I", Cond.methodLink RX2 58 arraycopyName, Cond.fieldLink RX2 15 "WokenRooms$Room" "paid" "[I", Cond.fieldLink RX2 18 "WokenRooms$Room" "kind" "I", Cond.fieldLink RX2 22 "WokenRooms$Room" "needed" "I", Cond.fieldLink RX2 25 "WokenRooms$Room" "rail" "I", Cond.fieldLink RX2 28 "WokenRooms$Room" "timeOut" "I", Cond.fieldLink RX2 31 "WokenRooms$Room" "guess" "I", Cond.fieldLink RX2 34 "WokenRooms$Room" "state" "I", Cond.fieldLink RX2 37 "WokenRooms$Room" "left" "I", Cond.fieldLink RX2 40 "WokenRooms$Room" "idled" "I", Cond.fieldLink RX2 43 "WokenRooms$Room" "begun" "I", Cond.fieldLink RX2 46 "WokenRooms$Room" "late" "I", Cond.fieldLink RX2 49 "WokenRooms$Room" "woken" "I", Cond.fieldLink RX2 52 "WokenRooms$Room" "latestEnd" "I", Cond.fieldLink RX2 55 "WokenRooms$Room" "gap" "I", Cond.methodLink RX3 59 yX0_setNeed, Cond.instanceMethod yX0_setNeed]
def wsX3_need_r3 : List Cond := [Cond.selects RX0 yX0_setNeed yX0_setNeed, Cond.code yX0_setNeed cX0_setNeed 5 (some .int), Cond.fieldLink RX0 65 "WokenRooms$Room" "state" "I", Cond.fieldLink RX0 86 "WokenRooms$Room" "needed" "I", Cond.methodLink RX0 78 yX0_hasRoom, Cond.instanceMethod yX0_hasRoom, Cond.selects RX0 yX0_hasRoom yX0_hasRoom, Cond.code yX0_hasRoom cX0_hasRoom 2 (some .boolean), Cond.static yX3_outside, Cond.code yX3_outside cX3_outside 3 (some .boolean), Cond.methodLink RX3 55 yX3_kept, Cond.instanceMethod yX3_kept, Cond.selects RX3 yX3_kept yX3_kept, Cond.code yX3_kept cX3_kept 2 (some .int), Cond.methodLink RX3 195 yX3_dropOldest, Cond.instanceMethod yX3_dropOldest, Cond.selects RX3 yX3_dropOldest yX3_dropOldest, Cond.code yX3_dropOldest cX3_dropOldest 3 none]
def wsX3_need : List Cond := .code yX3_need cX3_need 3 (some .int) :: ((wsX3_need_r1 ++ (wsX3_need_r2 ++ wsX3_need_r3)) ++ wsX30 ++ wsX00 ++ wsX20)
def wsX3_plug_r1 : List Cond := [Cond.fieldLink RX3 10 "WokenRooms" "chip" "LWokenRooms$Chip;", Cond.methodLink RX3 38 yX3_note, Cond.instanceMethod yX3_note, Cond.selects RX3 yX3_note yX3_note, Cond.initialized RX3, Cond.code yX3_note cX3_note 1 none, Cond.fieldLink RX3 143 "WokenRooms" "historySize" "I", Cond.fieldLink RX3 19 "WokenRooms" "history" "[LWokenRooms$Chip;", Cond.methodLink RX3 153 yX0_copyFrom, Cond.instanceMethod yX0_copyFrom, Cond.selects RX0 yX0_copyFrom yX0_copyFrom, Cond.initialized RX0, Cond.code yX0_copyFrom cX0_copyFrom 3 none, Cond.fieldLink RX0 31 "WokenRooms$Chip" "roomCount" "I", Cond.fieldLink RX0 11 "WokenRooms$Chip" "rooms" "[LWokenRooms$Room;", Cond.fieldLink RX0 17 "WokenRooms$Chip" "limits" "[I", Cond.methodLink RX0 39 arraycopyName, Cond.native arraycopyName, Cond.static arraycopyName, Cond.initialized "java/lang/System", Cond.fieldLink RX0 21 "WokenRooms$Chip" "useRooms" "[I", Cond.fieldLink RX0 24 "WokenRooms$Chip" "useTimes" "[I", Cond.fieldLink RX0 27 "WokenRooms$Chip" "useLengths" "[I", Cond.fieldLink RX0 45 "WokenRooms$Chip" "useCount" "I"]
def wsX3_plug_r2 : List Cond := [Cond.fieldLink RX0 48 "WokenRooms$Chip" "time" "I", Cond.methodLink RX0 35 yX2_copyFrom, Cond.instanceMethod yX2_copyFrom, Cond.selects RX2 yX2_copyFrom yX2_copyFrom, Cond.initialized RX2, Cond.code yX2_copyFrom cX2_copyFrom 2 none, Cond.fieldLink RX2 9 "WokenRooms$Room" "costs" "[I", Cond.methodLink RX2 58 arraycopyName, Cond.fieldLink RX2 15 "WokenRooms$Room" "paid" "[I", Cond.fieldLink RX2 18 "WokenRooms$Room" "kind" "I", Cond.fieldLink RX2 22 "WokenRooms$Room" "needed" "I", Cond.fieldLink RX2 25 "WokenRooms$Room" "rail" "I", Cond.fieldLink RX2 28 "WokenRooms$Room" "timeOut" "I", Cond.fieldLink RX2 31 "WokenRooms$Room" "guess" "I", Cond.fieldLink RX2 34 "WokenRooms$Room" "state" "I", Cond.fieldLink RX2 37 "WokenRooms$Room" "left" "I", Cond.fieldLink RX2 40 "WokenRooms$Room" "idled" "I", Cond.fieldLink RX2 43 "WokenRooms$Room" "begun" "I", Cond.fieldLink RX2 46 "WokenRooms$Room" "late" "I", Cond.fieldLink RX2 49 "WokenRooms$Room" "woken" "I", Cond.fieldLink RX2 52 "WokenRooms$Room" "latestEnd" "I", Cond.fieldLink RX2 55 "WokenRooms$Room" "gap" "I", Cond.methodLink RX3 63 yX0_plugIn, Cond.instanceMethod yX0_plugIn]
def wsX3_plug_r3 : List Cond := [Cond.selects RX0 yX0_plugIn yX0_plugIn, Cond.code yX0_plugIn cX0_plugIn 4 (some .int), Cond.fieldLink RX0 89 "WokenRooms$Room" "rail" "I", Cond.fieldLink RX0 92 "WokenRooms$Room" "kind" "I", Cond.methodLink RX0 78 yX0_hasRoom, Cond.instanceMethod yX0_hasRoom, Cond.selects RX0 yX0_hasRoom yX0_hasRoom, Cond.code yX0_hasRoom cX0_hasRoom 2 (some .boolean), Cond.static yX3_outside, Cond.code yX3_outside cX3_outside 3 (some .boolean), Cond.methodLink RX0 95 yX0_pluggedInto, Cond.instanceMethod yX0_pluggedInto, Cond.selects RX0 yX0_pluggedInto yX0_pluggedInto, Cond.code yX0_pluggedInto cX0_pluggedInto 4 (some .int), Cond.methodLink RX3 55 yX3_kept, Cond.instanceMethod yX3_kept, Cond.selects RX3 yX3_kept yX3_kept, Cond.code yX3_kept cX3_kept 2 (some .int), Cond.methodLink RX3 195 yX3_dropOldest, Cond.instanceMethod yX3_dropOldest, Cond.selects RX3 yX3_dropOldest yX3_dropOldest, Cond.code yX3_dropOldest cX3_dropOldest 3 none]
def wsX3_plug : List Cond := .code yX3_plug cX3_plug 3 (some .int) :: ((wsX3_plug_r1 ++ (wsX3_plug_r2 ++ wsX3_plug_r3)) ++ wsX30 ++ wsX00 ++ wsX20)
def wsX3_unplug_r1 : List Cond := [Cond.fieldLink RX3 10 "WokenRooms" "chip" "LWokenRooms$Chip;", Cond.methodLink RX3 38 yX3_note, Cond.instanceMethod yX3_note, Cond.selects RX3 yX3_note yX3_note, Cond.initialized RX3, Cond.code yX3_note cX3_note 1 none, Cond.fieldLink RX3 143 "WokenRooms" "historySize" "I", Cond.fieldLink RX3 19 "WokenRooms" "history" "[LWokenRooms$Chip;", Cond.methodLink RX3 153 yX0_copyFrom, Cond.instanceMethod yX0_copyFrom, Cond.selects RX0 yX0_copyFrom yX0_copyFrom, Cond.initialized RX0, Cond.code yX0_copyFrom cX0_copyFrom 3 none, Cond.fieldLink RX0 31 "WokenRooms$Chip" "roomCount" "I", Cond.fieldLink RX0 11 "WokenRooms$Chip" "rooms" "[LWokenRooms$Room;", Cond.fieldLink RX0 17 "WokenRooms$Chip" "limits" "[I", Cond.methodLink RX0 39 arraycopyName, Cond.native arraycopyName, Cond.static arraycopyName, Cond.initialized "java/lang/System", Cond.fieldLink RX0 21 "WokenRooms$Chip" "useRooms" "[I", Cond.fieldLink RX0 24 "WokenRooms$Chip" "useTimes" "[I", Cond.fieldLink RX0 27 "WokenRooms$Chip" "useLengths" "[I", Cond.fieldLink RX0 45 "WokenRooms$Chip" "useCount" "I"]
def wsX3_unplug_r2 : List Cond := [Cond.fieldLink RX0 48 "WokenRooms$Chip" "time" "I", Cond.methodLink RX0 35 yX2_copyFrom, Cond.instanceMethod yX2_copyFrom, Cond.selects RX2 yX2_copyFrom yX2_copyFrom, Cond.initialized RX2, Cond.code yX2_copyFrom cX2_copyFrom 2 none, Cond.fieldLink RX2 9 "WokenRooms$Room" "costs" "[I", Cond.methodLink RX2 58 arraycopyName, Cond.fieldLink RX2 15 "WokenRooms$Room" "paid" "[I", Cond.fieldLink RX2 18 "WokenRooms$Room" "kind" "I", Cond.fieldLink RX2 22 "WokenRooms$Room" "needed" "I", Cond.fieldLink RX2 25 "WokenRooms$Room" "rail" "I", Cond.fieldLink RX2 28 "WokenRooms$Room" "timeOut" "I", Cond.fieldLink RX2 31 "WokenRooms$Room" "guess" "I", Cond.fieldLink RX2 34 "WokenRooms$Room" "state" "I", Cond.fieldLink RX2 37 "WokenRooms$Room" "left" "I", Cond.fieldLink RX2 40 "WokenRooms$Room" "idled" "I", Cond.fieldLink RX2 43 "WokenRooms$Room" "begun" "I", Cond.fieldLink RX2 46 "WokenRooms$Room" "late" "I", Cond.fieldLink RX2 49 "WokenRooms$Room" "woken" "I", Cond.fieldLink RX2 52 "WokenRooms$Room" "latestEnd" "I", Cond.fieldLink RX2 55 "WokenRooms$Room" "gap" "I", Cond.methodLink RX3 66 yX0_plugOut, Cond.instanceMethod yX0_plugOut]
def wsX3_unplug_r3 : List Cond := [Cond.selects RX0 yX0_plugOut yX0_plugOut, Cond.code yX0_plugOut cX0_plugOut 4 (some .int), Cond.fieldLink RX0 89 "WokenRooms$Room" "rail" "I", Cond.fieldLink RX0 65 "WokenRooms$Room" "state" "I", Cond.methodLink RX0 78 yX0_hasRoom, Cond.instanceMethod yX0_hasRoom, Cond.selects RX0 yX0_hasRoom yX0_hasRoom, Cond.code yX0_hasRoom cX0_hasRoom 2 (some .boolean), Cond.methodLink RX0 95 yX0_pluggedInto, Cond.instanceMethod yX0_pluggedInto, Cond.selects RX0 yX0_pluggedInto yX0_pluggedInto, Cond.code yX0_pluggedInto cX0_pluggedInto 4 (some .int), Cond.methodLink RX3 55 yX3_kept, Cond.instanceMethod yX3_kept, Cond.selects RX3 yX3_kept yX3_kept, Cond.code yX3_kept cX3_kept 2 (some .int), Cond.methodLink RX3 195 yX3_dropOldest, Cond.instanceMethod yX3_dropOldest, Cond.selects RX3 yX3_dropOldest yX3_dropOldest, Cond.code yX3_dropOldest cX3_dropOldest 3 none]
def wsX3_unplug : List Cond := .code yX3_unplug cX3_unplug 2 (some .int) :: ((wsX3_unplug_r1 ++ (wsX3_unplug_r2 ++ wsX3_unplug_r3)) ++ wsX30 ++ wsX00 ++ wsX20)
def wsX3_limit_r1 : List Cond := [Cond.fieldLink RX3 10 "WokenRooms" "chip" "LWokenRooms$Chip;", Cond.methodLink RX3 38 yX3_note, Cond.instanceMethod yX3_note, Cond.selects RX3 yX3_note yX3_note, Cond.initialized RX3, Cond.code yX3_note cX3_note 1 none, Cond.fieldLink RX3 143 "WokenRooms" "historySize" "I", Cond.fieldLink RX3 19 "WokenRooms" "history" "[LWokenRooms$Chip;", Cond.methodLink RX3 153 yX0_copyFrom, Cond.instanceMethod yX0_copyFrom, Cond.selects RX0 yX0_copyFrom yX0_copyFrom, Cond.initialized RX0, Cond.code yX0_copyFrom cX0_copyFrom 3 none, Cond.fieldLink RX0 31 "WokenRooms$Chip" "roomCount" "I", Cond.fieldLink RX0 11 "WokenRooms$Chip" "rooms" "[LWokenRooms$Room;", Cond.fieldLink RX0 17 "WokenRooms$Chip" "limits" "[I", Cond.methodLink RX0 39 arraycopyName, Cond.native arraycopyName, Cond.static arraycopyName, Cond.initialized "java/lang/System", Cond.fieldLink RX0 21 "WokenRooms$Chip" "useRooms" "[I", Cond.fieldLink RX0 24 "WokenRooms$Chip" "useTimes" "[I", Cond.fieldLink RX0 27 "WokenRooms$Chip" "useLengths" "[I", Cond.fieldLink RX0 45 "WokenRooms$Chip" "useCount" "I"]
def wsX3_limit_r2 : List Cond := [Cond.fieldLink RX0 48 "WokenRooms$Chip" "time" "I", Cond.methodLink RX0 35 yX2_copyFrom, Cond.instanceMethod yX2_copyFrom, Cond.selects RX2 yX2_copyFrom yX2_copyFrom, Cond.initialized RX2, Cond.code yX2_copyFrom cX2_copyFrom 2 none, Cond.fieldLink RX2 9 "WokenRooms$Room" "costs" "[I", Cond.methodLink RX2 58 arraycopyName, Cond.fieldLink RX2 15 "WokenRooms$Room" "paid" "[I", Cond.fieldLink RX2 18 "WokenRooms$Room" "kind" "I", Cond.fieldLink RX2 22 "WokenRooms$Room" "needed" "I", Cond.fieldLink RX2 25 "WokenRooms$Room" "rail" "I", Cond.fieldLink RX2 28 "WokenRooms$Room" "timeOut" "I", Cond.fieldLink RX2 31 "WokenRooms$Room" "guess" "I", Cond.fieldLink RX2 34 "WokenRooms$Room" "state" "I", Cond.fieldLink RX2 37 "WokenRooms$Room" "left" "I", Cond.fieldLink RX2 40 "WokenRooms$Room" "idled" "I", Cond.fieldLink RX2 43 "WokenRooms$Room" "begun" "I", Cond.fieldLink RX2 46 "WokenRooms$Room" "late" "I", Cond.fieldLink RX2 49 "WokenRooms$Room" "woken" "I", Cond.fieldLink RX2 52 "WokenRooms$Room" "latestEnd" "I", Cond.fieldLink RX2 55 "WokenRooms$Room" "gap" "I", Cond.methodLink RX3 69 yX0_setLimit, Cond.instanceMethod yX0_setLimit]
def wsX3_limit_r3 : List Cond := [Cond.selects RX0 yX0_setLimit yX0_setLimit, Cond.code yX0_setLimit cX0_setLimit 4 (some .int), Cond.static yX3_outside, Cond.code yX3_outside cX3_outside 3 (some .boolean), Cond.methodLink RX3 55 yX3_kept, Cond.instanceMethod yX3_kept, Cond.selects RX3 yX3_kept yX3_kept, Cond.code yX3_kept cX3_kept 2 (some .int), Cond.methodLink RX3 195 yX3_dropOldest, Cond.instanceMethod yX3_dropOldest, Cond.selects RX3 yX3_dropOldest yX3_dropOldest, Cond.code yX3_dropOldest cX3_dropOldest 3 none]
def wsX3_limit : List Cond := .code yX3_limit cX3_limit 3 (some .int) :: ((wsX3_limit_r1 ++ (wsX3_limit_r2 ++ wsX3_limit_r3)) ++ wsX30 ++ wsX00 ++ wsX20)
def wsX3_policy_r1 : List Cond := [Cond.fieldLink RX3 10 "WokenRooms" "chip" "LWokenRooms$Chip;", Cond.methodLink RX3 38 yX3_note, Cond.instanceMethod yX3_note, Cond.selects RX3 yX3_note yX3_note, Cond.initialized RX3, Cond.code yX3_note cX3_note 1 none, Cond.fieldLink RX3 143 "WokenRooms" "historySize" "I", Cond.fieldLink RX3 19 "WokenRooms" "history" "[LWokenRooms$Chip;", Cond.methodLink RX3 153 yX0_copyFrom, Cond.instanceMethod yX0_copyFrom, Cond.selects RX0 yX0_copyFrom yX0_copyFrom, Cond.initialized RX0, Cond.code yX0_copyFrom cX0_copyFrom 3 none, Cond.fieldLink RX0 31 "WokenRooms$Chip" "roomCount" "I", Cond.fieldLink RX0 11 "WokenRooms$Chip" "rooms" "[LWokenRooms$Room;", Cond.fieldLink RX0 17 "WokenRooms$Chip" "limits" "[I", Cond.methodLink RX0 39 arraycopyName, Cond.native arraycopyName, Cond.static arraycopyName, Cond.initialized "java/lang/System", Cond.fieldLink RX0 21 "WokenRooms$Chip" "useRooms" "[I", Cond.fieldLink RX0 24 "WokenRooms$Chip" "useTimes" "[I", Cond.fieldLink RX0 27 "WokenRooms$Chip" "useLengths" "[I", Cond.fieldLink RX0 45 "WokenRooms$Chip" "useCount" "I"]
def wsX3_policy_r2 : List Cond := [Cond.fieldLink RX0 48 "WokenRooms$Chip" "time" "I", Cond.methodLink RX0 35 yX2_copyFrom, Cond.instanceMethod yX2_copyFrom, Cond.selects RX2 yX2_copyFrom yX2_copyFrom, Cond.initialized RX2, Cond.code yX2_copyFrom cX2_copyFrom 2 none, Cond.fieldLink RX2 9 "WokenRooms$Room" "costs" "[I", Cond.methodLink RX2 58 arraycopyName, Cond.fieldLink RX2 15 "WokenRooms$Room" "paid" "[I", Cond.fieldLink RX2 18 "WokenRooms$Room" "kind" "I", Cond.fieldLink RX2 22 "WokenRooms$Room" "needed" "I", Cond.fieldLink RX2 25 "WokenRooms$Room" "rail" "I", Cond.fieldLink RX2 28 "WokenRooms$Room" "timeOut" "I", Cond.fieldLink RX2 31 "WokenRooms$Room" "guess" "I", Cond.fieldLink RX2 34 "WokenRooms$Room" "state" "I", Cond.fieldLink RX2 37 "WokenRooms$Room" "left" "I", Cond.fieldLink RX2 40 "WokenRooms$Room" "idled" "I", Cond.fieldLink RX2 43 "WokenRooms$Room" "begun" "I", Cond.fieldLink RX2 46 "WokenRooms$Room" "late" "I", Cond.fieldLink RX2 49 "WokenRooms$Room" "woken" "I", Cond.fieldLink RX2 52 "WokenRooms$Room" "latestEnd" "I", Cond.fieldLink RX2 55 "WokenRooms$Room" "gap" "I", Cond.methodLink RX3 72 yX0_setPolicy, Cond.instanceMethod yX0_setPolicy]
def wsX3_policy_r3 : List Cond := [Cond.selects RX0 yX0_setPolicy yX0_setPolicy, Cond.code yX0_setPolicy cX0_setPolicy 6 (some .int), Cond.fieldLink RX0 98 "WokenRooms$Room" "timeOut" "I", Cond.fieldLink RX0 101 "WokenRooms$Room" "guess" "I", Cond.methodLink RX0 78 yX0_hasRoom, Cond.instanceMethod yX0_hasRoom, Cond.selects RX0 yX0_hasRoom yX0_hasRoom, Cond.code yX0_hasRoom cX0_hasRoom 2 (some .boolean), Cond.static yX3_outside, Cond.code yX3_outside cX3_outside 3 (some .boolean), Cond.methodLink RX3 55 yX3_kept, Cond.instanceMethod yX3_kept, Cond.selects RX3 yX3_kept yX3_kept, Cond.code yX3_kept cX3_kept 2 (some .int), Cond.methodLink RX3 195 yX3_dropOldest, Cond.instanceMethod yX3_dropOldest, Cond.selects RX3 yX3_dropOldest yX3_dropOldest, Cond.code yX3_dropOldest cX3_dropOldest 3 none]
def wsX3_policy : List Cond := .code yX3_policy cX3_policy 4 (some .int) :: ((wsX3_policy_r1 ++ (wsX3_policy_r2 ++ wsX3_policy_r3)) ++ wsX30 ++ wsX00 ++ wsX20)
def wsX3_roomOf_r1 : List Cond := [Cond.fieldLink RX3 10 "WokenRooms" "chip" "LWokenRooms$Chip;", Cond.fieldLink RX3 41 "WokenRooms$Chip" "rooms" "[LWokenRooms$Room;", Cond.methodLink RX3 76 yX0_hasRoom, Cond.instanceMethod yX0_hasRoom, Cond.selects RX0 yX0_hasRoom yX0_hasRoom, Cond.initialized RX0, Cond.code yX0_hasRoom cX0_hasRoom 2 (some .boolean), Cond.fieldLink RX0 31 "WokenRooms$Chip" "roomCount" "I", Cond.methodLink RX3 30 yX3_outside, Cond.static yX3_outside, Cond.initialized RX3, Cond.code yX3_outside cX3_outside 3 (some .boolean), Cond.methodLink RX3 80 yX0_usesOf, Cond.instanceMethod yX0_usesOf, Cond.selects RX0 yX0_usesOf yX0_usesOf, Cond.code yX0_usesOf cX0_usesOf 4 (some .int), Cond.fieldLink RX0 45 "WokenRooms$Chip" "useCount" "I", Cond.fieldLink RX0 21 "WokenRooms$Chip" "useRooms" "[I", Cond.methodLink RX3 83 yX0_isCalled, Cond.instanceMethod yX0_isCalled, Cond.selects RX0 yX0_isCalled yX0_isCalled, Cond.code yX0_isCalled cX0_isCalled 5 (some .boolean), Cond.fieldLink RX0 11 "WokenRooms$Chip" "rooms" "[LWokenRooms$Room;", Cond.fieldLink RX0 101 "WokenRooms$Room" "guess" "I"]
def wsX3_roomOf_r2 : List Cond := [Cond.fieldLink RX0 115 "WokenRooms$Room" "costs" "[I", Cond.fieldLink RX0 24 "WokenRooms$Chip" "useTimes" "[I", Cond.fieldLink RX0 48 "WokenRooms$Chip" "time" "I", Cond.methodLink RX0 112 yX0_firstUseOf, Cond.instanceMethod yX0_firstUseOf, Cond.selects RX0 yX0_firstUseOf yX0_firstUseOf, Cond.code yX0_firstUseOf cX0_firstUseOf 5 (some .int), Cond.methodLink RX0 105 yX0_hasUse, Cond.instanceMethod yX0_hasUse, Cond.selects RX0 yX0_hasUse yX0_hasUse, Cond.code yX0_hasUse cX0_hasUse 2 (some .boolean), Cond.methodLink RX0 118 yX2_isGuessedByGap, Cond.instanceMethod yX2_isGuessedByGap, Cond.selects RX2 yX2_isGuessedByGap yX2_isGuessedByGap, Cond.initialized RX2, Cond.code yX2_isGuessedByGap cX2_isGuessedByGap 2 (some .boolean), Cond.fieldLink RX2 31 "WokenRooms$Room" "guess" "I", Cond.fieldLink RX2 43 "WokenRooms$Room" "begun" "I", Cond.fieldLink RX2 34 "WokenRooms$Room" "state" "I", Cond.fieldLink RX2 52 "WokenRooms$Room" "latestEnd" "I", Cond.fieldLink RX2 55 "WokenRooms$Room" "gap" "I", Cond.fieldLink RX2 9 "WokenRooms$Room" "costs" "[I", Cond.methodLink RX3 86 yX2_tell, Cond.instanceMethod yX2_tell]
def wsX3_roomOf_r3 : List Cond := [Cond.selects RX2 yX2_tell yX2_tell, Cond.code yX2_tell cX2_tell 2 (some .int), Cond.fieldLink RX2 18 "WokenRooms$Room" "kind" "I", Cond.fieldLink RX2 22 "WokenRooms$Room" "needed" "I", Cond.fieldLink RX2 25 "WokenRooms$Room" "rail" "I", Cond.fieldLink RX2 37 "WokenRooms$Room" "left" "I", Cond.fieldLink RX2 40 "WokenRooms$Room" "idled" "I", Cond.fieldLink RX2 28 "WokenRooms$Room" "timeOut" "I", Cond.fieldLink RX2 46 "WokenRooms$Room" "late" "I", Cond.fieldLink RX2 49 "WokenRooms$Room" "woken" "I"]
def wsX3_roomOf : List Cond := .code yX3_roomOf cX3_roomOf 3 (some .int) :: ((wsX3_roomOf_r1 ++ (wsX3_roomOf_r2 ++ wsX3_roomOf_r3)) ++ wsX30 ++ wsX00 ++ wsX20)
def wsX3_costOf : List Cond := .code yX3_costOf cX3_costOf 3 (some .int) :: ([.fieldLink RX3 10 "WokenRooms" "chip" "LWokenRooms$Chip;", .fieldLink RX3 41 "WokenRooms$Chip" "rooms" "[LWokenRooms$Room;", .fieldLink RX3 51 "WokenRooms$Room" "costs" "[I", .methodLink RX3 76 yX0_hasRoom, .instanceMethod yX0_hasRoom, .selects RX0 yX0_hasRoom yX0_hasRoom, .initialized RX0, .code yX0_hasRoom cX0_hasRoom 2 (some .boolean), .fieldLink RX0 31 "WokenRooms$Chip" "roomCount" "I", .methodLink RX3 30 yX3_outside, .static yX3_outside, .initialized RX3, .code yX3_outside cX3_outside 3 (some .boolean)] ++ wsX30 ++ wsX00 ++ wsX20)
def wsX3_pluggedAt : List Cond := .code yX3_pluggedAt cX3_pluggedAt 3 (some .int) :: ([.fieldLink RX3 10 "WokenRooms" "chip" "LWokenRooms$Chip;", .methodLink RX3 30 yX3_outside, .static yX3_outside, .initialized RX3, .code yX3_outside cX3_outside 3 (some .boolean), .methodLink RX3 89 yX0_roomOnRail, .instanceMethod yX0_roomOnRail, .selects RX0 yX0_roomOnRail yX0_roomOnRail, .initialized RX0, .code yX0_roomOnRail cX0_roomOnRail 5 (some .int), .fieldLink RX0 31 "WokenRooms$Chip" "roomCount" "I", .fieldLink RX0 11 "WokenRooms$Chip" "rooms" "[LWokenRooms$Room;", .fieldLink RX0 89 "WokenRooms$Room" "rail" "I"] ++ wsX30 ++ wsX00 ++ wsX20)
def wsX3_use_r1 : List Cond := [Cond.fieldLink RX3 10 "WokenRooms" "chip" "LWokenRooms$Chip;", Cond.methodLink RX3 38 yX3_note, Cond.instanceMethod yX3_note, Cond.selects RX3 yX3_note yX3_note, Cond.initialized RX3, Cond.code yX3_note cX3_note 1 none, Cond.fieldLink RX3 143 "WokenRooms" "historySize" "I", Cond.fieldLink RX3 19 "WokenRooms" "history" "[LWokenRooms$Chip;", Cond.methodLink RX3 153 yX0_copyFrom, Cond.instanceMethod yX0_copyFrom, Cond.selects RX0 yX0_copyFrom yX0_copyFrom, Cond.initialized RX0, Cond.code yX0_copyFrom cX0_copyFrom 3 none, Cond.fieldLink RX0 31 "WokenRooms$Chip" "roomCount" "I", Cond.fieldLink RX0 11 "WokenRooms$Chip" "rooms" "[LWokenRooms$Room;", Cond.fieldLink RX0 17 "WokenRooms$Chip" "limits" "[I", Cond.methodLink RX0 39 arraycopyName, Cond.native arraycopyName, Cond.static arraycopyName, Cond.initialized "java/lang/System", Cond.fieldLink RX0 21 "WokenRooms$Chip" "useRooms" "[I", Cond.fieldLink RX0 24 "WokenRooms$Chip" "useTimes" "[I", Cond.fieldLink RX0 27 "WokenRooms$Chip" "useLengths" "[I", Cond.fieldLink RX0 45 "WokenRooms$Chip" "useCount" "I"]
def wsX3_use_r2 : List Cond := [Cond.fieldLink RX0 48 "WokenRooms$Chip" "time" "I", Cond.methodLink RX0 35 yX2_copyFrom, Cond.instanceMethod yX2_copyFrom, Cond.selects RX2 yX2_copyFrom yX2_copyFrom, Cond.initialized RX2, Cond.code yX2_copyFrom cX2_copyFrom 2 none, Cond.fieldLink RX2 9 "WokenRooms$Room" "costs" "[I", Cond.methodLink RX2 58 arraycopyName, Cond.fieldLink RX2 15 "WokenRooms$Room" "paid" "[I", Cond.fieldLink RX2 18 "WokenRooms$Room" "kind" "I", Cond.fieldLink RX2 22 "WokenRooms$Room" "needed" "I", Cond.fieldLink RX2 25 "WokenRooms$Room" "rail" "I", Cond.fieldLink RX2 28 "WokenRooms$Room" "timeOut" "I", Cond.fieldLink RX2 31 "WokenRooms$Room" "guess" "I", Cond.fieldLink RX2 34 "WokenRooms$Room" "state" "I", Cond.fieldLink RX2 37 "WokenRooms$Room" "left" "I", Cond.fieldLink RX2 40 "WokenRooms$Room" "idled" "I", Cond.fieldLink RX2 43 "WokenRooms$Room" "begun" "I", Cond.fieldLink RX2 46 "WokenRooms$Room" "late" "I", Cond.fieldLink RX2 49 "WokenRooms$Room" "woken" "I", Cond.fieldLink RX2 52 "WokenRooms$Room" "latestEnd" "I", Cond.fieldLink RX2 55 "WokenRooms$Room" "gap" "I", Cond.methodLink RX3 92 yX0_planUse, Cond.instanceMethod yX0_planUse]
def wsX3_use_r3 : List Cond := [Cond.selects RX0 yX0_planUse yX0_planUse, Cond.code yX0_planUse cX0_planUse 4 (some .int), Cond.constant RX0 104 (50000), Cond.methodLink RX0 78 yX0_hasRoom, Cond.instanceMethod yX0_hasRoom, Cond.selects RX0 yX0_hasRoom yX0_hasRoom, Cond.code yX0_hasRoom cX0_hasRoom 2 (some .boolean), Cond.static yX3_outside, Cond.code yX3_outside cX3_outside 3 (some .boolean), Cond.methodLink RX3 55 yX3_kept, Cond.instanceMethod yX3_kept, Cond.selects RX3 yX3_kept yX3_kept, Cond.code yX3_kept cX3_kept 2 (some .int), Cond.methodLink RX3 195 yX3_dropOldest, Cond.instanceMethod yX3_dropOldest, Cond.selects RX3 yX3_dropOldest yX3_dropOldest, Cond.code yX3_dropOldest cX3_dropOldest 3 none]
def wsX3_use : List Cond := .code yX3_use cX3_use 4 (some .int) :: ((wsX3_use_r1 ++ (wsX3_use_r2 ++ wsX3_use_r3)) ++ wsX30 ++ wsX00 ++ wsX20)
def wsX3_useOf : List Cond := .code yX3_useOf cX3_useOf 3 (some .int) :: ([.fieldLink RX3 10 "WokenRooms" "chip" "LWokenRooms$Chip;", .fieldLink RX3 98 "WokenRooms$Chip" "useRooms" "[I", .fieldLink RX3 101 "WokenRooms$Chip" "useTimes" "[I", .fieldLink RX3 104 "WokenRooms$Chip" "useLengths" "[I", .methodLink RX3 95 yX0_hasUse, .instanceMethod yX0_hasUse, .selects RX0 yX0_hasUse yX0_hasUse, .initialized RX0, .code yX0_hasUse cX0_hasUse 2 (some .boolean), .fieldLink RX0 45 "WokenRooms$Chip" "useCount" "I", .methodLink RX3 30 yX3_outside, .static yX3_outside, .initialized RX3, .code yX3_outside cX3_outside 3 (some .boolean), .methodLink RX3 107 yX0_firstUseOf, .instanceMethod yX0_firstUseOf, .selects RX0 yX0_firstUseOf yX0_firstUseOf, .code yX0_firstUseOf cX0_firstUseOf 5 (some .int), .fieldLink RX0 21 "WokenRooms$Chip" "useRooms" "[I", .fieldLink RX0 24 "WokenRooms$Chip" "useTimes" "[I"] ++ wsX30 ++ wsX00)
def wsX3_drop_r1 : List Cond := [Cond.fieldLink RX3 10 "WokenRooms" "chip" "LWokenRooms$Chip;", Cond.methodLink RX3 38 yX3_note, Cond.instanceMethod yX3_note, Cond.selects RX3 yX3_note yX3_note, Cond.initialized RX3, Cond.code yX3_note cX3_note 1 none, Cond.fieldLink RX3 143 "WokenRooms" "historySize" "I", Cond.fieldLink RX3 19 "WokenRooms" "history" "[LWokenRooms$Chip;", Cond.methodLink RX3 153 yX0_copyFrom, Cond.instanceMethod yX0_copyFrom, Cond.selects RX0 yX0_copyFrom yX0_copyFrom, Cond.initialized RX0, Cond.code yX0_copyFrom cX0_copyFrom 3 none, Cond.fieldLink RX0 31 "WokenRooms$Chip" "roomCount" "I", Cond.fieldLink RX0 11 "WokenRooms$Chip" "rooms" "[LWokenRooms$Room;", Cond.fieldLink RX0 17 "WokenRooms$Chip" "limits" "[I", Cond.methodLink RX0 39 arraycopyName, Cond.native arraycopyName, Cond.static arraycopyName, Cond.initialized "java/lang/System", Cond.fieldLink RX0 21 "WokenRooms$Chip" "useRooms" "[I", Cond.fieldLink RX0 24 "WokenRooms$Chip" "useTimes" "[I", Cond.fieldLink RX0 27 "WokenRooms$Chip" "useLengths" "[I", Cond.fieldLink RX0 45 "WokenRooms$Chip" "useCount" "I"]
def wsX3_drop_r2 : List Cond := [Cond.fieldLink RX0 48 "WokenRooms$Chip" "time" "I", Cond.methodLink RX0 35 yX2_copyFrom, Cond.instanceMethod yX2_copyFrom, Cond.selects RX2 yX2_copyFrom yX2_copyFrom, Cond.initialized RX2, Cond.code yX2_copyFrom cX2_copyFrom 2 none, Cond.fieldLink RX2 9 "WokenRooms$Room" "costs" "[I", Cond.methodLink RX2 58 arraycopyName, Cond.fieldLink RX2 15 "WokenRooms$Room" "paid" "[I", Cond.fieldLink RX2 18 "WokenRooms$Room" "kind" "I", Cond.fieldLink RX2 22 "WokenRooms$Room" "needed" "I", Cond.fieldLink RX2 25 "WokenRooms$Room" "rail" "I", Cond.fieldLink RX2 28 "WokenRooms$Room" "timeOut" "I", Cond.fieldLink RX2 31 "WokenRooms$Room" "guess" "I", Cond.fieldLink RX2 34 "WokenRooms$Room" "state" "I", Cond.fieldLink RX2 37 "WokenRooms$Room" "left" "I", Cond.fieldLink RX2 40 "WokenRooms$Room" "idled" "I", Cond.fieldLink RX2 43 "WokenRooms$Room" "begun" "I", Cond.fieldLink RX2 46 "WokenRooms$Room" "late" "I", Cond.fieldLink RX2 49 "WokenRooms$Room" "woken" "I", Cond.fieldLink RX2 52 "WokenRooms$Room" "latestEnd" "I", Cond.fieldLink RX2 55 "WokenRooms$Room" "gap" "I", Cond.methodLink RX3 110 yX0_dropUse, Cond.instanceMethod yX0_dropUse]
def wsX3_drop_r3 : List Cond := [Cond.selects RX0 yX0_dropUse yX0_dropUse, Cond.code yX0_dropUse cX0_dropUse 3 (some .int), Cond.methodLink RX0 105 yX0_hasUse, Cond.instanceMethod yX0_hasUse, Cond.selects RX0 yX0_hasUse yX0_hasUse, Cond.code yX0_hasUse cX0_hasUse 2 (some .boolean), Cond.methodLink RX0 108 yX0_removeUse, Cond.instanceMethod yX0_removeUse, Cond.selects RX0 yX0_removeUse yX0_removeUse, Cond.code yX0_removeUse cX0_removeUse 3 none, Cond.methodLink RX3 55 yX3_kept, Cond.instanceMethod yX3_kept, Cond.selects RX3 yX3_kept yX3_kept, Cond.code yX3_kept cX3_kept 2 (some .int), Cond.methodLink RX3 195 yX3_dropOldest, Cond.instanceMethod yX3_dropOldest, Cond.selects RX3 yX3_dropOldest yX3_dropOldest, Cond.code yX3_dropOldest cX3_dropOldest 3 none]
def wsX3_drop : List Cond := .code yX3_drop cX3_drop 2 (some .int) :: ((wsX3_drop_r1 ++ (wsX3_drop_r2 ++ wsX3_drop_r3)) ++ wsX30 ++ wsX00 ++ wsX20)
def wsX3_wake_r1 : List Cond := [Cond.fieldLink RX3 10 "WokenRooms" "chip" "LWokenRooms$Chip;", Cond.methodLink RX3 38 yX3_note, Cond.instanceMethod yX3_note, Cond.selects RX3 yX3_note yX3_note, Cond.initialized RX3, Cond.code yX3_note cX3_note 1 none, Cond.fieldLink RX3 143 "WokenRooms" "historySize" "I", Cond.fieldLink RX3 19 "WokenRooms" "history" "[LWokenRooms$Chip;", Cond.methodLink RX3 153 yX0_copyFrom, Cond.instanceMethod yX0_copyFrom, Cond.selects RX0 yX0_copyFrom yX0_copyFrom, Cond.initialized RX0, Cond.code yX0_copyFrom cX0_copyFrom 3 none, Cond.fieldLink RX0 31 "WokenRooms$Chip" "roomCount" "I", Cond.fieldLink RX0 11 "WokenRooms$Chip" "rooms" "[LWokenRooms$Room;", Cond.fieldLink RX0 17 "WokenRooms$Chip" "limits" "[I", Cond.methodLink RX0 39 arraycopyName, Cond.native arraycopyName, Cond.static arraycopyName, Cond.initialized "java/lang/System", Cond.fieldLink RX0 21 "WokenRooms$Chip" "useRooms" "[I", Cond.fieldLink RX0 24 "WokenRooms$Chip" "useTimes" "[I", Cond.fieldLink RX0 27 "WokenRooms$Chip" "useLengths" "[I", Cond.fieldLink RX0 45 "WokenRooms$Chip" "useCount" "I"]
def wsX3_wake_r2 : List Cond := [Cond.fieldLink RX0 48 "WokenRooms$Chip" "time" "I", Cond.methodLink RX0 35 yX2_copyFrom, Cond.instanceMethod yX2_copyFrom, Cond.selects RX2 yX2_copyFrom yX2_copyFrom, Cond.initialized RX2, Cond.code yX2_copyFrom cX2_copyFrom 2 none, Cond.fieldLink RX2 9 "WokenRooms$Room" "costs" "[I", Cond.methodLink RX2 58 arraycopyName, Cond.fieldLink RX2 15 "WokenRooms$Room" "paid" "[I", Cond.fieldLink RX2 18 "WokenRooms$Room" "kind" "I", Cond.fieldLink RX2 22 "WokenRooms$Room" "needed" "I", Cond.fieldLink RX2 25 "WokenRooms$Room" "rail" "I", Cond.fieldLink RX2 28 "WokenRooms$Room" "timeOut" "I", Cond.fieldLink RX2 31 "WokenRooms$Room" "guess" "I", Cond.fieldLink RX2 34 "WokenRooms$Room" "state" "I", Cond.fieldLink RX2 37 "WokenRooms$Room" "left" "I", Cond.fieldLink RX2 40 "WokenRooms$Room" "idled" "I", Cond.fieldLink RX2 43 "WokenRooms$Room" "begun" "I", Cond.fieldLink RX2 46 "WokenRooms$Room" "late" "I", Cond.fieldLink RX2 49 "WokenRooms$Room" "woken" "I", Cond.fieldLink RX2 52 "WokenRooms$Room" "latestEnd" "I", Cond.fieldLink RX2 55 "WokenRooms$Room" "gap" "I", Cond.methodLink RX3 113 yX0_wakeRoom, Cond.instanceMethod yX0_wakeRoom]
def wsX3_wake_r3 : List Cond := [Cond.selects RX0 yX0_wakeRoom yX0_wakeRoom, Cond.code yX0_wakeRoom cX0_wakeRoom 3 (some .int), Cond.fieldLink RX0 65 "WokenRooms$Room" "state" "I", Cond.fieldLink RX0 115 "WokenRooms$Room" "costs" "[I", Cond.methodLink RX0 78 yX0_hasRoom, Cond.instanceMethod yX0_hasRoom, Cond.selects RX0 yX0_hasRoom yX0_hasRoom, Cond.code yX0_hasRoom cX0_hasRoom 2 (some .boolean), Cond.methodLink RX0 121 yX0_isReady, Cond.instanceMethod yX0_isReady, Cond.selects RX0 yX0_isReady yX0_isReady, Cond.code yX0_isReady cX0_isReady 3 (some .boolean), Cond.fieldLink RX0 86 "WokenRooms$Room" "needed" "I", Cond.methodLink RX0 124 yX0_railLetsWake, Cond.instanceMethod yX0_railLetsWake, Cond.selects RX0 yX0_railLetsWake yX0_railLetsWake, Cond.code yX0_railLetsWake cX0_railLetsWake 5 (some .boolean), Cond.fieldLink RX0 89 "WokenRooms$Room" "rail" "I", Cond.methodLink RX0 127 yX2_startWaking, Cond.instanceMethod yX2_startWaking, Cond.selects RX2 yX2_startWaking yX2_startWaking, Cond.code yX2_startWaking cX2_startWaking 1 none, Cond.methodLink RX3 55 yX3_kept, Cond.instanceMethod yX3_kept]
def wsX3_wake_r4 : List Cond := [Cond.selects RX3 yX3_kept yX3_kept, Cond.code yX3_kept cX3_kept 2 (some .int), Cond.methodLink RX3 195 yX3_dropOldest, Cond.instanceMethod yX3_dropOldest, Cond.selects RX3 yX3_dropOldest yX3_dropOldest, Cond.code yX3_dropOldest cX3_dropOldest 3 none]
def wsX3_wake : List Cond := .code yX3_wake cX3_wake 2 (some .int) :: ((wsX3_wake_r1 ++ (wsX3_wake_r2 ++ (wsX3_wake_r3 ++ wsX3_wake_r4))) ++ wsX30 ++ wsX00 ++ wsX20)
def wsX3_sleep_r1 : List Cond := [Cond.fieldLink RX3 10 "WokenRooms" "chip" "LWokenRooms$Chip;", Cond.methodLink RX3 38 yX3_note, Cond.instanceMethod yX3_note, Cond.selects RX3 yX3_note yX3_note, Cond.initialized RX3, Cond.code yX3_note cX3_note 1 none, Cond.fieldLink RX3 143 "WokenRooms" "historySize" "I", Cond.fieldLink RX3 19 "WokenRooms" "history" "[LWokenRooms$Chip;", Cond.methodLink RX3 153 yX0_copyFrom, Cond.instanceMethod yX0_copyFrom, Cond.selects RX0 yX0_copyFrom yX0_copyFrom, Cond.initialized RX0, Cond.code yX0_copyFrom cX0_copyFrom 3 none, Cond.fieldLink RX0 31 "WokenRooms$Chip" "roomCount" "I", Cond.fieldLink RX0 11 "WokenRooms$Chip" "rooms" "[LWokenRooms$Room;", Cond.fieldLink RX0 17 "WokenRooms$Chip" "limits" "[I", Cond.methodLink RX0 39 arraycopyName, Cond.native arraycopyName, Cond.static arraycopyName, Cond.initialized "java/lang/System", Cond.fieldLink RX0 21 "WokenRooms$Chip" "useRooms" "[I", Cond.fieldLink RX0 24 "WokenRooms$Chip" "useTimes" "[I", Cond.fieldLink RX0 27 "WokenRooms$Chip" "useLengths" "[I", Cond.fieldLink RX0 45 "WokenRooms$Chip" "useCount" "I"]
def wsX3_sleep_r2 : List Cond := [Cond.fieldLink RX0 48 "WokenRooms$Chip" "time" "I", Cond.methodLink RX0 35 yX2_copyFrom, Cond.instanceMethod yX2_copyFrom, Cond.selects RX2 yX2_copyFrom yX2_copyFrom, Cond.initialized RX2, Cond.code yX2_copyFrom cX2_copyFrom 2 none, Cond.fieldLink RX2 9 "WokenRooms$Room" "costs" "[I", Cond.methodLink RX2 58 arraycopyName, Cond.fieldLink RX2 15 "WokenRooms$Room" "paid" "[I", Cond.fieldLink RX2 18 "WokenRooms$Room" "kind" "I", Cond.fieldLink RX2 22 "WokenRooms$Room" "needed" "I", Cond.fieldLink RX2 25 "WokenRooms$Room" "rail" "I", Cond.fieldLink RX2 28 "WokenRooms$Room" "timeOut" "I", Cond.fieldLink RX2 31 "WokenRooms$Room" "guess" "I", Cond.fieldLink RX2 34 "WokenRooms$Room" "state" "I", Cond.fieldLink RX2 37 "WokenRooms$Room" "left" "I", Cond.fieldLink RX2 40 "WokenRooms$Room" "idled" "I", Cond.fieldLink RX2 43 "WokenRooms$Room" "begun" "I", Cond.fieldLink RX2 46 "WokenRooms$Room" "late" "I", Cond.fieldLink RX2 49 "WokenRooms$Room" "woken" "I", Cond.fieldLink RX2 52 "WokenRooms$Room" "latestEnd" "I", Cond.fieldLink RX2 55 "WokenRooms$Room" "gap" "I", Cond.methodLink RX3 116 yX0_sendToSleep, Cond.instanceMethod yX0_sendToSleep]
def wsX3_sleep_r3 : List Cond := [Cond.selects RX0 yX0_sendToSleep yX0_sendToSleep, Cond.code yX0_sendToSleep cX0_sendToSleep 3 (some .int), Cond.fieldLink RX0 65 "WokenRooms$Room" "state" "I", Cond.fieldLink RX0 133 "WokenRooms$Room" "idled" "I", Cond.methodLink RX0 78 yX0_hasRoom, Cond.instanceMethod yX0_hasRoom, Cond.selects RX0 yX0_hasRoom yX0_hasRoom, Cond.code yX0_hasRoom cX0_hasRoom 2 (some .boolean), Cond.methodLink RX0 130 yX0_hasDependentsUp, Cond.instanceMethod yX0_hasDependentsUp, Cond.selects RX0 yX0_hasDependentsUp yX0_hasDependentsUp, Cond.code yX0_hasDependentsUp cX0_hasDependentsUp 3 (some .boolean), Cond.fieldLink RX0 86 "WokenRooms$Room" "needed" "I", Cond.methodLink RX3 55 yX3_kept, Cond.instanceMethod yX3_kept, Cond.selects RX3 yX3_kept yX3_kept, Cond.code yX3_kept cX3_kept 2 (some .int), Cond.methodLink RX3 195 yX3_dropOldest, Cond.instanceMethod yX3_dropOldest, Cond.selects RX3 yX3_dropOldest yX3_dropOldest, Cond.code yX3_dropOldest cX3_dropOldest 3 none]
def wsX3_sleep : List Cond := .code yX3_sleep cX3_sleep 2 (some .int) :: ((wsX3_sleep_r1 ++ (wsX3_sleep_r2 ++ wsX3_sleep_r3)) ++ wsX30 ++ wsX00 ++ wsX20)
def wsX3_tick_r1 : List Cond := [Cond.fieldLink RX3 10 "WokenRooms" "chip" "LWokenRooms$Chip;", Cond.methodLink RX3 38 yX3_note, Cond.instanceMethod yX3_note, Cond.selects RX3 yX3_note yX3_note, Cond.initialized RX3, Cond.code yX3_note cX3_note 1 none, Cond.fieldLink RX3 143 "WokenRooms" "historySize" "I", Cond.fieldLink RX3 19 "WokenRooms" "history" "[LWokenRooms$Chip;", Cond.methodLink RX3 153 yX0_copyFrom, Cond.instanceMethod yX0_copyFrom, Cond.selects RX0 yX0_copyFrom yX0_copyFrom, Cond.initialized RX0, Cond.code yX0_copyFrom cX0_copyFrom 3 none, Cond.fieldLink RX0 31 "WokenRooms$Chip" "roomCount" "I", Cond.fieldLink RX0 11 "WokenRooms$Chip" "rooms" "[LWokenRooms$Room;", Cond.fieldLink RX0 17 "WokenRooms$Chip" "limits" "[I", Cond.methodLink RX0 39 arraycopyName, Cond.native arraycopyName, Cond.static arraycopyName, Cond.initialized "java/lang/System", Cond.fieldLink RX0 21 "WokenRooms$Chip" "useRooms" "[I", Cond.fieldLink RX0 24 "WokenRooms$Chip" "useTimes" "[I", Cond.fieldLink RX0 27 "WokenRooms$Chip" "useLengths" "[I", Cond.fieldLink RX0 45 "WokenRooms$Chip" "useCount" "I"]
def wsX3_tick_r2 : List Cond := [Cond.fieldLink RX0 48 "WokenRooms$Chip" "time" "I", Cond.methodLink RX0 35 yX2_copyFrom, Cond.instanceMethod yX2_copyFrom, Cond.selects RX2 yX2_copyFrom yX2_copyFrom, Cond.initialized RX2, Cond.code yX2_copyFrom cX2_copyFrom 2 none, Cond.fieldLink RX2 9 "WokenRooms$Room" "costs" "[I", Cond.methodLink RX2 58 arraycopyName, Cond.fieldLink RX2 15 "WokenRooms$Room" "paid" "[I", Cond.fieldLink RX2 18 "WokenRooms$Room" "kind" "I", Cond.fieldLink RX2 22 "WokenRooms$Room" "needed" "I", Cond.fieldLink RX2 25 "WokenRooms$Room" "rail" "I", Cond.fieldLink RX2 28 "WokenRooms$Room" "timeOut" "I", Cond.fieldLink RX2 31 "WokenRooms$Room" "guess" "I", Cond.fieldLink RX2 34 "WokenRooms$Room" "state" "I", Cond.fieldLink RX2 37 "WokenRooms$Room" "left" "I", Cond.fieldLink RX2 40 "WokenRooms$Room" "idled" "I", Cond.fieldLink RX2 43 "WokenRooms$Room" "begun" "I", Cond.fieldLink RX2 46 "WokenRooms$Room" "late" "I", Cond.fieldLink RX2 49 "WokenRooms$Room" "woken" "I", Cond.fieldLink RX2 52 "WokenRooms$Room" "latestEnd" "I", Cond.fieldLink RX2 55 "WokenRooms$Room" "gap" "I", Cond.methodLink RX3 119 yX0_letTicksGoBy, Cond.instanceMethod yX0_letTicksGoBy]
def wsX3_tick_r3 : List Cond := [Cond.selects RX0 yX0_letTicksGoBy yX0_letTicksGoBy, Cond.code yX0_letTicksGoBy cX0_letTicksGoBy 4 (some .int), Cond.constant RX0 104 (50000), Cond.static yX3_outside, Cond.code yX3_outside cX3_outside 3 (some .boolean), Cond.methodLink RX0 59 yX0_begunInAll, Cond.instanceMethod yX0_begunInAll, Cond.selects RX0 yX0_begunInAll yX0_begunInAll, Cond.code yX0_begunInAll cX0_begunInAll 3 (some .int), Cond.fieldLink RX0 72 "WokenRooms$Room" "begun" "I", Cond.methodLink RX0 136 yX0_passTick, Cond.instanceMethod yX0_passTick, Cond.selects RX0 yX0_passTick yX0_passTick, Cond.code yX0_passTick cX0_passTick 2 none, Cond.fieldLink RX0 65 "WokenRooms$Room" "state" "I", Cond.methodLink RX0 139 yX0_isCalled, Cond.instanceMethod yX0_isCalled, Cond.selects RX0 yX0_isCalled yX0_isCalled, Cond.code yX0_isCalled cX0_isCalled 5 (some .boolean), Cond.fieldLink RX0 101 "WokenRooms$Room" "guess" "I", Cond.fieldLink RX0 115 "WokenRooms$Room" "costs" "[I", Cond.methodLink RX0 112 yX0_firstUseOf, Cond.instanceMethod yX0_firstUseOf, Cond.selects RX0 yX0_firstUseOf yX0_firstUseOf]
def wsX3_tick_r4 : List Cond := [Cond.code yX0_firstUseOf cX0_firstUseOf 5 (some .int), Cond.methodLink RX0 105 yX0_hasUse, Cond.instanceMethod yX0_hasUse, Cond.selects RX0 yX0_hasUse yX0_hasUse, Cond.code yX0_hasUse cX0_hasUse 2 (some .boolean), Cond.methodLink RX0 118 yX2_isGuessedByGap, Cond.instanceMethod yX2_isGuessedByGap, Cond.selects RX2 yX2_isGuessedByGap yX2_isGuessedByGap, Cond.code yX2_isGuessedByGap cX2_isGuessedByGap 2 (some .boolean), Cond.methodLink RX0 142 yX0_soughtFor, Cond.instanceMethod yX0_soughtFor, Cond.selects RX0 yX0_soughtFor yX0_soughtFor, Cond.code yX0_soughtFor cX0_soughtFor 4 (some .int), Cond.fieldLink RX0 86 "WokenRooms$Room" "needed" "I", Cond.methodLink RX0 78 yX0_hasRoom, Cond.instanceMethod yX0_hasRoom, Cond.selects RX0 yX0_hasRoom yX0_hasRoom, Cond.code yX0_hasRoom cX0_hasRoom 2 (some .boolean), Cond.methodLink RX0 121 yX0_isReady, Cond.instanceMethod yX0_isReady, Cond.selects RX0 yX0_isReady yX0_isReady, Cond.code yX0_isReady cX0_isReady 3 (some .boolean), Cond.methodLink RX0 145 yX0_wakeIfPossible, Cond.instanceMethod yX0_wakeIfPossible]
def wsX3_tick_r5 : List Cond := [Cond.selects RX0 yX0_wakeIfPossible yX0_wakeIfPossible, Cond.code yX0_wakeIfPossible cX0_wakeIfPossible 2 none, Cond.methodLink RX0 124 yX0_railLetsWake, Cond.instanceMethod yX0_railLetsWake, Cond.selects RX0 yX0_railLetsWake yX0_railLetsWake, Cond.code yX0_railLetsWake cX0_railLetsWake 5 (some .boolean), Cond.fieldLink RX0 89 "WokenRooms$Room" "rail" "I", Cond.methodLink RX0 127 yX2_startWaking, Cond.instanceMethod yX2_startWaking, Cond.selects RX2 yX2_startWaking yX2_startWaking, Cond.code yX2_startWaking cX2_startWaking 1 none, Cond.methodLink RX0 148 yX0_beginDueUse, Cond.instanceMethod yX0_beginDueUse, Cond.selects RX0 yX0_beginDueUse yX0_beginDueUse, Cond.code yX0_beginDueUse cX0_beginDueUse 3 none, Cond.methodLink RX0 157 yX2_begin, Cond.instanceMethod yX2_begin, Cond.selects RX2 yX2_begin yX2_begin, Cond.code yX2_begin cX2_begin 4 none, Cond.methodLink RX0 108 yX0_removeUse, Cond.instanceMethod yX0_removeUse, Cond.selects RX0 yX0_removeUse yX0_removeUse, Cond.code yX0_removeUse cX0_removeUse 3 none, Cond.methodLink RX0 151 yX2_payForTick]
def wsX3_tick_r6 : List Cond := [Cond.instanceMethod yX2_payForTick, Cond.selects RX2 yX2_payForTick yX2_payForTick, Cond.code yX2_payForTick cX2_payForTick 1 none, Cond.methodLink RX0 154 yX0_goOn, Cond.instanceMethod yX0_goOn, Cond.selects RX0 yX0_goOn yX0_goOn, Cond.code yX0_goOn cX0_goOn 3 none, Cond.fieldLink RX0 133 "WokenRooms$Room" "idled" "I", Cond.methodLink RX0 161 yX2_workOn, Cond.instanceMethod yX2_workOn, Cond.selects RX2 yX2_workOn yX2_workOn, Cond.code yX2_workOn cX2_workOn 1 none, Cond.methodLink RX0 164 yX2_isTimedOut, Cond.instanceMethod yX2_isTimedOut, Cond.selects RX2 yX2_isTimedOut yX2_isTimedOut, Cond.code yX2_isTimedOut cX2_isTimedOut 1 (some .boolean), Cond.methodLink RX0 130 yX0_hasDependentsUp, Cond.instanceMethod yX0_hasDependentsUp, Cond.selects RX0 yX0_hasDependentsUp yX0_hasDependentsUp, Cond.code yX0_hasDependentsUp cX0_hasDependentsUp 3 (some .boolean), Cond.methodLink RX3 55 yX3_kept, Cond.instanceMethod yX3_kept, Cond.selects RX3 yX3_kept yX3_kept, Cond.code yX3_kept cX3_kept 2 (some .int)]
def wsX3_tick_r7 : List Cond := [Cond.methodLink RX3 195 yX3_dropOldest, Cond.instanceMethod yX3_dropOldest, Cond.selects RX3 yX3_dropOldest yX3_dropOldest, Cond.code yX3_dropOldest cX3_dropOldest 3 none]
def wsX3_tick : List Cond := .code yX3_tick cX3_tick 2 (some .int) :: ((wsX3_tick_r1 ++ (wsX3_tick_r2 ++ (wsX3_tick_r3 ++ (wsX3_tick_r4 ++ (wsX3_tick_r5 ++ (wsX3_tick_r6 ++ wsX3_tick_r7)))))) ++ wsX30 ++ wsX00 ++ wsX20)
def wsX3_energy : List Cond := .code yX3_energy cX3_energy 4 (some .int) :: ([.fieldLink RX3 10 "WokenRooms" "chip" "LWokenRooms$Chip;", .fieldLink RX3 41 "WokenRooms$Chip" "rooms" "[LWokenRooms$Room;", .fieldLink RX3 126 "WokenRooms$Room" "paid" "[I", .methodLink RX3 76 yX0_hasRoom, .instanceMethod yX0_hasRoom, .selects RX0 yX0_hasRoom yX0_hasRoom, .initialized RX0, .code yX0_hasRoom cX0_hasRoom 2 (some .boolean), .fieldLink RX0 31 "WokenRooms$Chip" "roomCount" "I", .methodLink RX3 30 yX3_outside, .static yX3_outside, .initialized RX3, .code yX3_outside cX3_outside 3 (some .boolean), .methodLink RX3 122 yX2_paidInAll, .instanceMethod yX2_paidInAll, .selects RX2 yX2_paidInAll yX2_paidInAll, .initialized RX2, .code yX2_paidInAll cX2_paidInAll 1 (some .int), .fieldLink RX2 15 "WokenRooms$Room" "paid" "[I"] ++ wsX30 ++ wsX00 ++ wsX20)
def wsX3_count_r1 : List Cond := [Cond.fieldLink RX3 143 "WokenRooms" "historySize" "I", Cond.fieldLink RX3 26 "WokenRooms" "orders" "LWokenRooms$Orders;", Cond.fieldLink RX3 146 "WokenRooms$Orders" "length" "I", Cond.fieldLink RX3 10 "WokenRooms" "chip" "LWokenRooms$Chip;", Cond.fieldLink RX3 149 "WokenRooms$Chip" "limits" "[I", Cond.methodLink RX3 30 yX3_outside, Cond.static yX3_outside, Cond.initialized RX3, Cond.code yX3_outside cX3_outside 3 (some .boolean), Cond.methodLink RX3 152 yX0_tell, Cond.instanceMethod yX0_tell, Cond.selects RX0 yX0_tell yX0_tell, Cond.initialized RX0, Cond.code yX0_tell cX0_tell 2 (some .int), Cond.fieldLink RX0 31 "WokenRooms$Chip" "roomCount" "I", Cond.fieldLink RX0 45 "WokenRooms$Chip" "useCount" "I", Cond.fieldLink RX0 48 "WokenRooms$Chip" "time" "I", Cond.methodLink RX0 51 yX0_roomsIn, Cond.instanceMethod yX0_roomsIn, Cond.selects RX0 yX0_roomsIn yX0_roomsIn, Cond.code yX0_roomsIn cX0_roomsIn 4 (some .int), Cond.fieldLink RX0 11 "WokenRooms$Chip" "rooms" "[LWokenRooms$Room;", Cond.fieldLink RX0 65 "WokenRooms$Room" "state" "I", Cond.methodLink RX0 55 yX0_paidInAll]
def wsX3_count_r2 : List Cond := [Cond.instanceMethod yX0_paidInAll, Cond.selects RX0 yX0_paidInAll yX0_paidInAll, Cond.code yX0_paidInAll cX0_paidInAll 3 (some .int), Cond.methodLink RX0 68 yX2_paidInAll, Cond.instanceMethod yX2_paidInAll, Cond.selects RX2 yX2_paidInAll yX2_paidInAll, Cond.initialized RX2, Cond.code yX2_paidInAll cX2_paidInAll 1 (some .int), Cond.fieldLink RX2 15 "WokenRooms$Room" "paid" "[I", Cond.methodLink RX0 59 yX0_begunInAll, Cond.instanceMethod yX0_begunInAll, Cond.selects RX0 yX0_begunInAll yX0_begunInAll, Cond.code yX0_begunInAll cX0_begunInAll 3 (some .int), Cond.fieldLink RX0 72 "WokenRooms$Room" "begun" "I", Cond.methodLink RX0 62 yX0_lateInAll, Cond.instanceMethod yX0_lateInAll, Cond.selects RX0 yX0_lateInAll yX0_lateInAll, Cond.code yX0_lateInAll cX0_lateInAll 3 (some .int), Cond.fieldLink RX0 75 "WokenRooms$Room" "late" "I"]
def wsX3_count : List Cond := .code yX3_count cX3_count 2 (some .int) :: ((wsX3_count_r1 ++ wsX3_count_r2) ++ wsX30 ++ wsX10 ++ wsX00 ++ wsX20)
def wsL_cell : List Cond := .code yL_cell cL_cell 2 (some .int) :: ([.constant RL 7 (40503)])
def wsL_low : List Cond := .code yL_low cL_low 2 (some .int) :: ([.constant RL 8 (2147483647)])
def wsL_first : List Cond := .code yL_first cL_first 5 (some .int) :: ([])
def wsL_due : List Cond := .code yL_due cL_due 5 (some .boolean) :: ([.methodLink RL 9 yL_first, .static yL_first, .initialized RL, .code yL_first cL_first 5 (some .int)])
def wsL_called : List Cond := .code yL_called cL_called 6 (some .boolean) :: ([.methodLink RL 15 yL_due, .static yL_due, .initialized RL, .code yL_due cL_due 5 (some .boolean), .methodLink RL 9 yL_first, .static yL_first, .code yL_first cL_first 5 (some .int)])
def wsL_ready : List Cond := .code yL_ready cL_ready 3 (some .boolean) :: ([])
def wsL_can : List Cond := .code yL_can cL_can 7 (some .boolean) :: ([.methodLink RL 19 yL_ready, .static yL_ready, .initialized RL, .code yL_ready cL_ready 3 (some .boolean)])
def wsL_wake : List Cond := .code yL_wake cL_wake 4 none :: ([])
def wsL_drop : List Cond := .code yL_drop cL_drop 4 none :: ([])
def wsL_needed : List Cond := .code yL_needed cL_needed 6 (some .boolean) :: ([])
def wsL_tick_r1 : List Cond := [Cond.constantLong RL 35 (1000), Cond.methodLink RL 23 yL_called, Cond.static yL_called, Cond.initialized RL, Cond.code yL_called cL_called 6 (some .boolean), Cond.methodLink RL 15 yL_due, Cond.static yL_due, Cond.code yL_due cL_due 5 (some .boolean), Cond.methodLink RL 9 yL_first, Cond.static yL_first, Cond.code yL_first cL_first 5 (some .int), Cond.methodLink RL 27 yL_can, Cond.static yL_can, Cond.code yL_can cL_can 7 (some .boolean), Cond.methodLink RL 19 yL_ready, Cond.static yL_ready, Cond.code yL_ready cL_ready 3 (some .boolean), Cond.methodLink RL 31 yL_wake, Cond.static yL_wake, Cond.code yL_wake cL_wake 4 none, Cond.methodLink RL 37 yL_drop, Cond.static yL_drop, Cond.code yL_drop cL_drop 4 none, Cond.methodLink RL 41 yL_needed]
def wsL_tick_r2 : List Cond := [Cond.static yL_needed, Cond.code yL_needed cL_needed 6 (some .boolean)]
def wsL_tick : List Cond := .code yL_tick cL_tick 11 (some .long) :: ((wsL_tick_r1 ++ wsL_tick_r2))
def wsL_lays_r1 : List Cond := [Cond.methodLink RL 44 yX3_room, Cond.instanceMethod yX3_room, Cond.selects RX3 yX3_room yX3_room, Cond.initialized RX3, Cond.code yX3_room cX3_room 8 (some .int), Cond.fieldLink RX3 10 "WokenRooms" "chip" "LWokenRooms$Chip;", Cond.fieldLink RX3 34 "WokenRooms$Chip" "roomCount" "I", Cond.fieldLink RX3 41 "WokenRooms$Chip" "rooms" "[LWokenRooms$Room;", Cond.fieldLink RX3 51 "WokenRooms$Room" "costs" "[I", Cond.methodLink RX3 30 yX3_outside, Cond.static yX3_outside, Cond.code yX3_outside cX3_outside 3 (some .boolean), Cond.methodLink RX3 38 yX3_note, Cond.instanceMethod yX3_note, Cond.selects RX3 yX3_note yX3_note, Cond.code yX3_note cX3_note 1 none, Cond.fieldLink RX3 143 "WokenRooms" "historySize" "I", Cond.fieldLink RX3 19 "WokenRooms" "history" "[LWokenRooms$Chip;", Cond.methodLink RX3 153 yX0_copyFrom, Cond.instanceMethod yX0_copyFrom, Cond.selects RX0 yX0_copyFrom yX0_copyFrom, Cond.initialized RX0, Cond.code yX0_copyFrom cX0_copyFrom 3 none, Cond.fieldLink RX0 31 "WokenRooms$Chip" "roomCount" "I"]
def wsL_lays_r2 : List Cond := [Cond.fieldLink RX0 11 "WokenRooms$Chip" "rooms" "[LWokenRooms$Room;", Cond.fieldLink RX0 17 "WokenRooms$Chip" "limits" "[I", Cond.methodLink RX0 39 arraycopyName, Cond.native arraycopyName, Cond.static arraycopyName, Cond.initialized "java/lang/System", Cond.fieldLink RX0 21 "WokenRooms$Chip" "useRooms" "[I", Cond.fieldLink RX0 24 "WokenRooms$Chip" "useTimes" "[I", Cond.fieldLink RX0 27 "WokenRooms$Chip" "useLengths" "[I", Cond.fieldLink RX0 45 "WokenRooms$Chip" "useCount" "I", Cond.fieldLink RX0 48 "WokenRooms$Chip" "time" "I", Cond.methodLink RX0 35 yX2_copyFrom, Cond.instanceMethod yX2_copyFrom, Cond.selects RX2 yX2_copyFrom yX2_copyFrom, Cond.initialized RX2, Cond.code yX2_copyFrom cX2_copyFrom 2 none, Cond.fieldLink RX2 9 "WokenRooms$Room" "costs" "[I", Cond.methodLink RX2 58 arraycopyName, Cond.fieldLink RX2 15 "WokenRooms$Room" "paid" "[I", Cond.fieldLink RX2 18 "WokenRooms$Room" "kind" "I", Cond.fieldLink RX2 22 "WokenRooms$Room" "needed" "I", Cond.fieldLink RX2 25 "WokenRooms$Room" "rail" "I", Cond.fieldLink RX2 28 "WokenRooms$Room" "timeOut" "I", Cond.fieldLink RX2 31 "WokenRooms$Room" "guess" "I"]
def wsL_lays_r3 : List Cond := [Cond.fieldLink RX2 34 "WokenRooms$Room" "state" "I", Cond.fieldLink RX2 37 "WokenRooms$Room" "left" "I", Cond.fieldLink RX2 40 "WokenRooms$Room" "idled" "I", Cond.fieldLink RX2 43 "WokenRooms$Room" "begun" "I", Cond.fieldLink RX2 46 "WokenRooms$Room" "late" "I", Cond.fieldLink RX2 49 "WokenRooms$Room" "woken" "I", Cond.fieldLink RX2 52 "WokenRooms$Room" "latestEnd" "I", Cond.fieldLink RX2 55 "WokenRooms$Room" "gap" "I", Cond.methodLink RX3 45 yX2_startAnew, Cond.instanceMethod yX2_startAnew, Cond.selects RX2 yX2_startAnew yX2_startAnew, Cond.code yX2_startAnew cX2_startAnew 3 none, Cond.methodLink RX3 55 yX3_kept, Cond.instanceMethod yX3_kept, Cond.selects RX3 yX3_kept yX3_kept, Cond.code yX3_kept cX3_kept 2 (some .int), Cond.methodLink RX3 195 yX3_dropOldest, Cond.instanceMethod yX3_dropOldest, Cond.selects RX3 yX3_dropOldest yX3_dropOldest, Cond.code yX3_dropOldest cX3_dropOldest 3 none, Cond.methodLink RL 50 yX3_need, Cond.instanceMethod yX3_need, Cond.selects RX3 yX3_need yX3_need, Cond.code yX3_need cX3_need 3 (some .int)]
def wsL_lays_r4 : List Cond := [Cond.methodLink RX3 59 yX0_setNeed, Cond.instanceMethod yX0_setNeed, Cond.selects RX0 yX0_setNeed yX0_setNeed, Cond.code yX0_setNeed cX0_setNeed 5 (some .int), Cond.fieldLink RX0 65 "WokenRooms$Room" "state" "I", Cond.fieldLink RX0 86 "WokenRooms$Room" "needed" "I", Cond.methodLink RX0 78 yX0_hasRoom, Cond.instanceMethod yX0_hasRoom, Cond.selects RX0 yX0_hasRoom yX0_hasRoom, Cond.code yX0_hasRoom cX0_hasRoom 2 (some .boolean), Cond.methodLink RL 54 yX3_plug, Cond.instanceMethod yX3_plug, Cond.selects RX3 yX3_plug yX3_plug, Cond.code yX3_plug cX3_plug 3 (some .int), Cond.methodLink RX3 63 yX0_plugIn, Cond.instanceMethod yX0_plugIn, Cond.selects RX0 yX0_plugIn yX0_plugIn, Cond.code yX0_plugIn cX0_plugIn 4 (some .int), Cond.fieldLink RX0 89 "WokenRooms$Room" "rail" "I", Cond.fieldLink RX0 92 "WokenRooms$Room" "kind" "I", Cond.methodLink RX0 95 yX0_pluggedInto, Cond.instanceMethod yX0_pluggedInto, Cond.selects RX0 yX0_pluggedInto yX0_pluggedInto, Cond.code yX0_pluggedInto cX0_pluggedInto 4 (some .int)]
def wsL_lays_r5 : List Cond := [Cond.methodLink RL 57 yX3_unplug, Cond.instanceMethod yX3_unplug, Cond.selects RX3 yX3_unplug yX3_unplug, Cond.code yX3_unplug cX3_unplug 2 (some .int), Cond.methodLink RX3 66 yX0_plugOut, Cond.instanceMethod yX0_plugOut, Cond.selects RX0 yX0_plugOut yX0_plugOut, Cond.code yX0_plugOut cX0_plugOut 4 (some .int), Cond.methodLink RL 61 yX3_limit, Cond.instanceMethod yX3_limit, Cond.selects RX3 yX3_limit yX3_limit, Cond.code yX3_limit cX3_limit 3 (some .int), Cond.methodLink RX3 69 yX0_setLimit, Cond.instanceMethod yX0_setLimit, Cond.selects RX0 yX0_setLimit yX0_setLimit, Cond.code yX0_setLimit cX0_setLimit 4 (some .int), Cond.methodLink RL 64 yX3_policy, Cond.instanceMethod yX3_policy, Cond.selects RX3 yX3_policy yX3_policy, Cond.code yX3_policy cX3_policy 4 (some .int), Cond.methodLink RX3 72 yX0_setPolicy, Cond.instanceMethod yX0_setPolicy, Cond.selects RX0 yX0_setPolicy yX0_setPolicy, Cond.code yX0_setPolicy cX0_setPolicy 6 (some .int)]
def wsL_lays_r6 : List Cond := [Cond.fieldLink RX0 98 "WokenRooms$Room" "timeOut" "I", Cond.fieldLink RX0 101 "WokenRooms$Room" "guess" "I"]
def wsL_lays : List Cond := .code yL_lays cL_lays 11 (some .boolean) :: ((wsL_lays_r1 ++ (wsL_lays_r2 ++ (wsL_lays_r3 ++ (wsL_lays_r4 ++ (wsL_lays_r5 ++ wsL_lays_r6))))) ++ wsX30 ++ wsX00 ++ wsX20)
def wsL_acts_r1 : List Cond := [Cond.constant RL 68 (10000000), Cond.constantLong RL 35 (1000), Cond.methodLink RL 69 yL_low, Cond.static yL_low, Cond.initialized RL, Cond.code yL_low cL_low 2 (some .int), Cond.constant RL 8 (2147483647), Cond.methodLink RL 72 yL_lays, Cond.static yL_lays, Cond.code yL_lays cL_lays 11 (some .boolean), Cond.methodLink RL 44 yX3_room, Cond.instanceMethod yX3_room, Cond.selects RX3 yX3_room yX3_room, Cond.initialized RX3, Cond.code yX3_room cX3_room 8 (some .int), Cond.fieldLink RX3 10 "WokenRooms" "chip" "LWokenRooms$Chip;", Cond.fieldLink RX3 34 "WokenRooms$Chip" "roomCount" "I", Cond.fieldLink RX3 41 "WokenRooms$Chip" "rooms" "[LWokenRooms$Room;", Cond.fieldLink RX3 51 "WokenRooms$Room" "costs" "[I", Cond.methodLink RX3 30 yX3_outside, Cond.static yX3_outside, Cond.code yX3_outside cX3_outside 3 (some .boolean), Cond.methodLink RX3 38 yX3_note, Cond.instanceMethod yX3_note]
def wsL_acts_r2 : List Cond := [Cond.selects RX3 yX3_note yX3_note, Cond.code yX3_note cX3_note 1 none, Cond.fieldLink RX3 143 "WokenRooms" "historySize" "I", Cond.fieldLink RX3 19 "WokenRooms" "history" "[LWokenRooms$Chip;", Cond.methodLink RX3 153 yX0_copyFrom, Cond.instanceMethod yX0_copyFrom, Cond.selects RX0 yX0_copyFrom yX0_copyFrom, Cond.initialized RX0, Cond.code yX0_copyFrom cX0_copyFrom 3 none, Cond.fieldLink RX0 31 "WokenRooms$Chip" "roomCount" "I", Cond.fieldLink RX0 11 "WokenRooms$Chip" "rooms" "[LWokenRooms$Room;", Cond.fieldLink RX0 17 "WokenRooms$Chip" "limits" "[I", Cond.methodLink RX0 39 arraycopyName, Cond.native arraycopyName, Cond.static arraycopyName, Cond.initialized "java/lang/System", Cond.fieldLink RX0 21 "WokenRooms$Chip" "useRooms" "[I", Cond.fieldLink RX0 24 "WokenRooms$Chip" "useTimes" "[I", Cond.fieldLink RX0 27 "WokenRooms$Chip" "useLengths" "[I", Cond.fieldLink RX0 45 "WokenRooms$Chip" "useCount" "I", Cond.fieldLink RX0 48 "WokenRooms$Chip" "time" "I", Cond.methodLink RX0 35 yX2_copyFrom, Cond.instanceMethod yX2_copyFrom, Cond.selects RX2 yX2_copyFrom yX2_copyFrom]
def wsL_acts_r3 : List Cond := [Cond.initialized RX2, Cond.code yX2_copyFrom cX2_copyFrom 2 none, Cond.fieldLink RX2 9 "WokenRooms$Room" "costs" "[I", Cond.methodLink RX2 58 arraycopyName, Cond.fieldLink RX2 15 "WokenRooms$Room" "paid" "[I", Cond.fieldLink RX2 18 "WokenRooms$Room" "kind" "I", Cond.fieldLink RX2 22 "WokenRooms$Room" "needed" "I", Cond.fieldLink RX2 25 "WokenRooms$Room" "rail" "I", Cond.fieldLink RX2 28 "WokenRooms$Room" "timeOut" "I", Cond.fieldLink RX2 31 "WokenRooms$Room" "guess" "I", Cond.fieldLink RX2 34 "WokenRooms$Room" "state" "I", Cond.fieldLink RX2 37 "WokenRooms$Room" "left" "I", Cond.fieldLink RX2 40 "WokenRooms$Room" "idled" "I", Cond.fieldLink RX2 43 "WokenRooms$Room" "begun" "I", Cond.fieldLink RX2 46 "WokenRooms$Room" "late" "I", Cond.fieldLink RX2 49 "WokenRooms$Room" "woken" "I", Cond.fieldLink RX2 52 "WokenRooms$Room" "latestEnd" "I", Cond.fieldLink RX2 55 "WokenRooms$Room" "gap" "I", Cond.methodLink RX3 45 yX2_startAnew, Cond.instanceMethod yX2_startAnew, Cond.selects RX2 yX2_startAnew yX2_startAnew, Cond.code yX2_startAnew cX2_startAnew 3 none, Cond.methodLink RX3 55 yX3_kept, Cond.instanceMethod yX3_kept]
def wsL_acts_r4 : List Cond := [Cond.selects RX3 yX3_kept yX3_kept, Cond.code yX3_kept cX3_kept 2 (some .int), Cond.methodLink RX3 195 yX3_dropOldest, Cond.instanceMethod yX3_dropOldest, Cond.selects RX3 yX3_dropOldest yX3_dropOldest, Cond.code yX3_dropOldest cX3_dropOldest 3 none, Cond.methodLink RL 50 yX3_need, Cond.instanceMethod yX3_need, Cond.selects RX3 yX3_need yX3_need, Cond.code yX3_need cX3_need 3 (some .int), Cond.methodLink RX3 59 yX0_setNeed, Cond.instanceMethod yX0_setNeed, Cond.selects RX0 yX0_setNeed yX0_setNeed, Cond.code yX0_setNeed cX0_setNeed 5 (some .int), Cond.fieldLink RX0 65 "WokenRooms$Room" "state" "I", Cond.fieldLink RX0 86 "WokenRooms$Room" "needed" "I", Cond.methodLink RX0 78 yX0_hasRoom, Cond.instanceMethod yX0_hasRoom, Cond.selects RX0 yX0_hasRoom yX0_hasRoom, Cond.code yX0_hasRoom cX0_hasRoom 2 (some .boolean), Cond.methodLink RL 54 yX3_plug, Cond.instanceMethod yX3_plug, Cond.selects RX3 yX3_plug yX3_plug, Cond.code yX3_plug cX3_plug 3 (some .int)]
def wsL_acts_r5 : List Cond := [Cond.methodLink RX3 63 yX0_plugIn, Cond.instanceMethod yX0_plugIn, Cond.selects RX0 yX0_plugIn yX0_plugIn, Cond.code yX0_plugIn cX0_plugIn 4 (some .int), Cond.fieldLink RX0 89 "WokenRooms$Room" "rail" "I", Cond.fieldLink RX0 92 "WokenRooms$Room" "kind" "I", Cond.methodLink RX0 95 yX0_pluggedInto, Cond.instanceMethod yX0_pluggedInto, Cond.selects RX0 yX0_pluggedInto yX0_pluggedInto, Cond.code yX0_pluggedInto cX0_pluggedInto 4 (some .int), Cond.methodLink RL 57 yX3_unplug, Cond.instanceMethod yX3_unplug, Cond.selects RX3 yX3_unplug yX3_unplug, Cond.code yX3_unplug cX3_unplug 2 (some .int), Cond.methodLink RX3 66 yX0_plugOut, Cond.instanceMethod yX0_plugOut, Cond.selects RX0 yX0_plugOut yX0_plugOut, Cond.code yX0_plugOut cX0_plugOut 4 (some .int), Cond.methodLink RL 61 yX3_limit, Cond.instanceMethod yX3_limit, Cond.selects RX3 yX3_limit yX3_limit, Cond.code yX3_limit cX3_limit 3 (some .int), Cond.methodLink RX3 69 yX0_setLimit, Cond.instanceMethod yX0_setLimit]
def wsL_acts_r6 : List Cond := [Cond.selects RX0 yX0_setLimit yX0_setLimit, Cond.code yX0_setLimit cX0_setLimit 4 (some .int), Cond.methodLink RL 64 yX3_policy, Cond.instanceMethod yX3_policy, Cond.selects RX3 yX3_policy yX3_policy, Cond.code yX3_policy cX3_policy 4 (some .int), Cond.methodLink RX3 72 yX0_setPolicy, Cond.instanceMethod yX0_setPolicy, Cond.selects RX0 yX0_setPolicy yX0_setPolicy, Cond.code yX0_setPolicy cX0_setPolicy 6 (some .int), Cond.fieldLink RX0 98 "WokenRooms$Room" "timeOut" "I", Cond.fieldLink RX0 101 "WokenRooms$Room" "guess" "I", Cond.methodLink RL 76 yX3_use, Cond.instanceMethod yX3_use, Cond.selects RX3 yX3_use yX3_use, Cond.code yX3_use cX3_use 4 (some .int), Cond.methodLink RX3 92 yX0_planUse, Cond.instanceMethod yX0_planUse, Cond.selects RX0 yX0_planUse yX0_planUse, Cond.code yX0_planUse cX0_planUse 4 (some .int), Cond.constant RX0 104 (50000), Cond.methodLink RL 79 yX3_drop, Cond.instanceMethod yX3_drop, Cond.selects RX3 yX3_drop yX3_drop]
def wsL_acts_r7 : List Cond := [Cond.code yX3_drop cX3_drop 2 (some .int), Cond.methodLink RX3 110 yX0_dropUse, Cond.instanceMethod yX0_dropUse, Cond.selects RX0 yX0_dropUse yX0_dropUse, Cond.code yX0_dropUse cX0_dropUse 3 (some .int), Cond.methodLink RX0 105 yX0_hasUse, Cond.instanceMethod yX0_hasUse, Cond.selects RX0 yX0_hasUse yX0_hasUse, Cond.code yX0_hasUse cX0_hasUse 2 (some .boolean), Cond.methodLink RX0 108 yX0_removeUse, Cond.instanceMethod yX0_removeUse, Cond.selects RX0 yX0_removeUse yX0_removeUse, Cond.code yX0_removeUse cX0_removeUse 3 none, Cond.methodLink RL 37 yL_drop, Cond.static yL_drop, Cond.code yL_drop cL_drop 4 none, Cond.methodLink RL 27 yL_can, Cond.static yL_can, Cond.code yL_can cL_can 7 (some .boolean), Cond.methodLink RL 19 yL_ready, Cond.static yL_ready, Cond.code yL_ready cL_ready 3 (some .boolean), Cond.methodLink RL 81 yX3_wake, Cond.instanceMethod yX3_wake]
def wsL_acts_r8 : List Cond := [Cond.selects RX3 yX3_wake yX3_wake, Cond.code yX3_wake cX3_wake 2 (some .int), Cond.methodLink RX3 113 yX0_wakeRoom, Cond.instanceMethod yX0_wakeRoom, Cond.selects RX0 yX0_wakeRoom yX0_wakeRoom, Cond.code yX0_wakeRoom cX0_wakeRoom 3 (some .int), Cond.fieldLink RX0 115 "WokenRooms$Room" "costs" "[I", Cond.methodLink RX0 121 yX0_isReady, Cond.instanceMethod yX0_isReady, Cond.selects RX0 yX0_isReady yX0_isReady, Cond.code yX0_isReady cX0_isReady 3 (some .boolean), Cond.methodLink RX0 124 yX0_railLetsWake, Cond.instanceMethod yX0_railLetsWake, Cond.selects RX0 yX0_railLetsWake yX0_railLetsWake, Cond.code yX0_railLetsWake cX0_railLetsWake 5 (some .boolean), Cond.methodLink RX0 127 yX2_startWaking, Cond.instanceMethod yX2_startWaking, Cond.selects RX2 yX2_startWaking yX2_startWaking, Cond.code yX2_startWaking cX2_startWaking 1 none, Cond.methodLink RL 31 yL_wake, Cond.static yL_wake, Cond.code yL_wake cL_wake 4 none, Cond.methodLink RL 41 yL_needed, Cond.static yL_needed]
def wsL_acts_r9 : List Cond := [Cond.code yL_needed cL_needed 6 (some .boolean), Cond.methodLink RL 83 yX3_sleep, Cond.instanceMethod yX3_sleep, Cond.selects RX3 yX3_sleep yX3_sleep, Cond.code yX3_sleep cX3_sleep 2 (some .int), Cond.methodLink RX3 116 yX0_sendToSleep, Cond.instanceMethod yX0_sendToSleep, Cond.selects RX0 yX0_sendToSleep yX0_sendToSleep, Cond.code yX0_sendToSleep cX0_sendToSleep 3 (some .int), Cond.fieldLink RX0 133 "WokenRooms$Room" "idled" "I", Cond.methodLink RX0 130 yX0_hasDependentsUp, Cond.instanceMethod yX0_hasDependentsUp, Cond.selects RX0 yX0_hasDependentsUp yX0_hasDependentsUp, Cond.code yX0_hasDependentsUp cX0_hasDependentsUp 3 (some .boolean), Cond.methodLink RL 86 yL_tick, Cond.static yL_tick, Cond.code yL_tick cL_tick 11 (some .long), Cond.methodLink RL 23 yL_called, Cond.static yL_called, Cond.code yL_called cL_called 6 (some .boolean), Cond.methodLink RL 15 yL_due, Cond.static yL_due, Cond.code yL_due cL_due 5 (some .boolean), Cond.methodLink RL 9 yL_first]
def wsL_acts_r10 : List Cond := [Cond.static yL_first, Cond.code yL_first cL_first 5 (some .int), Cond.methodLink RL 90 yX3_tick, Cond.instanceMethod yX3_tick, Cond.selects RX3 yX3_tick yX3_tick, Cond.code yX3_tick cX3_tick 2 (some .int), Cond.methodLink RX3 119 yX0_letTicksGoBy, Cond.instanceMethod yX0_letTicksGoBy, Cond.selects RX0 yX0_letTicksGoBy yX0_letTicksGoBy, Cond.code yX0_letTicksGoBy cX0_letTicksGoBy 4 (some .int), Cond.methodLink RX0 59 yX0_begunInAll, Cond.instanceMethod yX0_begunInAll, Cond.selects RX0 yX0_begunInAll yX0_begunInAll, Cond.code yX0_begunInAll cX0_begunInAll 3 (some .int), Cond.fieldLink RX0 72 "WokenRooms$Room" "begun" "I", Cond.methodLink RX0 136 yX0_passTick, Cond.instanceMethod yX0_passTick, Cond.selects RX0 yX0_passTick yX0_passTick, Cond.code yX0_passTick cX0_passTick 2 none, Cond.methodLink RX0 139 yX0_isCalled, Cond.instanceMethod yX0_isCalled, Cond.selects RX0 yX0_isCalled yX0_isCalled, Cond.code yX0_isCalled cX0_isCalled 5 (some .boolean), Cond.methodLink RX0 112 yX0_firstUseOf]
def wsL_acts_r11 : List Cond := [Cond.instanceMethod yX0_firstUseOf, Cond.selects RX0 yX0_firstUseOf yX0_firstUseOf, Cond.code yX0_firstUseOf cX0_firstUseOf 5 (some .int), Cond.methodLink RX0 118 yX2_isGuessedByGap, Cond.instanceMethod yX2_isGuessedByGap, Cond.selects RX2 yX2_isGuessedByGap yX2_isGuessedByGap, Cond.code yX2_isGuessedByGap cX2_isGuessedByGap 2 (some .boolean), Cond.methodLink RX0 142 yX0_soughtFor, Cond.instanceMethod yX0_soughtFor, Cond.selects RX0 yX0_soughtFor yX0_soughtFor, Cond.code yX0_soughtFor cX0_soughtFor 4 (some .int), Cond.methodLink RX0 145 yX0_wakeIfPossible, Cond.instanceMethod yX0_wakeIfPossible, Cond.selects RX0 yX0_wakeIfPossible yX0_wakeIfPossible, Cond.code yX0_wakeIfPossible cX0_wakeIfPossible 2 none, Cond.methodLink RX0 148 yX0_beginDueUse, Cond.instanceMethod yX0_beginDueUse, Cond.selects RX0 yX0_beginDueUse yX0_beginDueUse, Cond.code yX0_beginDueUse cX0_beginDueUse 3 none, Cond.methodLink RX0 157 yX2_begin, Cond.instanceMethod yX2_begin, Cond.selects RX2 yX2_begin yX2_begin, Cond.code yX2_begin cX2_begin 4 none, Cond.methodLink RX0 151 yX2_payForTick]
def wsL_acts_r12 : List Cond := [Cond.instanceMethod yX2_payForTick, Cond.selects RX2 yX2_payForTick yX2_payForTick, Cond.code yX2_payForTick cX2_payForTick 1 none, Cond.methodLink RX0 154 yX0_goOn, Cond.instanceMethod yX0_goOn, Cond.selects RX0 yX0_goOn yX0_goOn, Cond.code yX0_goOn cX0_goOn 3 none, Cond.methodLink RX0 161 yX2_workOn, Cond.instanceMethod yX2_workOn, Cond.selects RX2 yX2_workOn yX2_workOn, Cond.code yX2_workOn cX2_workOn 1 none, Cond.methodLink RX0 164 yX2_isTimedOut, Cond.instanceMethod yX2_isTimedOut, Cond.selects RX2 yX2_isTimedOut yX2_isTimedOut, Cond.code yX2_isTimedOut cX2_isTimedOut 1 (some .boolean)]
def wsL_acts : List Cond := .code yL_acts cL_acts 14 (some .boolean) :: ((wsL_acts_r1 ++ (wsL_acts_r2 ++ (wsL_acts_r3 ++ (wsL_acts_r4 ++ (wsL_acts_r5 ++ (wsL_acts_r6 ++ (wsL_acts_r7 ++ (wsL_acts_r8 ++ (wsL_acts_r9 ++ (wsL_acts_r10 ++ (wsL_acts_r11 ++ wsL_acts_r12))))))))))) ++ wsX30 ++ wsX00 ++ wsX20)
def wsL_isRoom_r1 : List Cond := [Cond.methodLink RL 92 yX3_costOf, Cond.instanceMethod yX3_costOf, Cond.selects RX3 yX3_costOf yX3_costOf, Cond.initialized RX3, Cond.code yX3_costOf cX3_costOf 3 (some .int), Cond.fieldLink RX3 10 "WokenRooms" "chip" "LWokenRooms$Chip;", Cond.fieldLink RX3 41 "WokenRooms$Chip" "rooms" "[LWokenRooms$Room;", Cond.fieldLink RX3 51 "WokenRooms$Room" "costs" "[I", Cond.methodLink RX3 76 yX0_hasRoom, Cond.instanceMethod yX0_hasRoom, Cond.selects RX0 yX0_hasRoom yX0_hasRoom, Cond.initialized RX0, Cond.code yX0_hasRoom cX0_hasRoom 2 (some .boolean), Cond.fieldLink RX0 31 "WokenRooms$Chip" "roomCount" "I", Cond.methodLink RX3 30 yX3_outside, Cond.static yX3_outside, Cond.code yX3_outside cX3_outside 3 (some .boolean), Cond.methodLink RL 95 yX3_energy, Cond.instanceMethod yX3_energy, Cond.selects RX3 yX3_energy yX3_energy, Cond.code yX3_energy cX3_energy 4 (some .int), Cond.fieldLink RX3 126 "WokenRooms$Room" "paid" "[I", Cond.methodLink RX3 122 yX2_paidInAll, Cond.instanceMethod yX2_paidInAll]
def wsL_isRoom_r2 : List Cond := [Cond.selects RX2 yX2_paidInAll yX2_paidInAll, Cond.initialized RX2, Cond.code yX2_paidInAll cX2_paidInAll 1 (some .int), Cond.fieldLink RX2 15 "WokenRooms$Room" "paid" "[I", Cond.methodLink RL 98 yX3_roomOf, Cond.instanceMethod yX3_roomOf, Cond.selects RX3 yX3_roomOf yX3_roomOf, Cond.code yX3_roomOf cX3_roomOf 3 (some .int), Cond.methodLink RX3 80 yX0_usesOf, Cond.instanceMethod yX0_usesOf, Cond.selects RX0 yX0_usesOf yX0_usesOf, Cond.code yX0_usesOf cX0_usesOf 4 (some .int), Cond.fieldLink RX0 45 "WokenRooms$Chip" "useCount" "I", Cond.fieldLink RX0 21 "WokenRooms$Chip" "useRooms" "[I", Cond.methodLink RX3 83 yX0_isCalled, Cond.instanceMethod yX0_isCalled, Cond.selects RX0 yX0_isCalled yX0_isCalled, Cond.code yX0_isCalled cX0_isCalled 5 (some .boolean), Cond.fieldLink RX0 11 "WokenRooms$Chip" "rooms" "[LWokenRooms$Room;", Cond.fieldLink RX0 101 "WokenRooms$Room" "guess" "I", Cond.fieldLink RX0 115 "WokenRooms$Room" "costs" "[I", Cond.fieldLink RX0 24 "WokenRooms$Chip" "useTimes" "[I", Cond.fieldLink RX0 48 "WokenRooms$Chip" "time" "I", Cond.methodLink RX0 112 yX0_firstUseOf]
def wsL_isRoom_r3 : List Cond := [Cond.instanceMethod yX0_firstUseOf, Cond.selects RX0 yX0_firstUseOf yX0_firstUseOf, Cond.code yX0_firstUseOf cX0_firstUseOf 5 (some .int), Cond.methodLink RX0 105 yX0_hasUse, Cond.instanceMethod yX0_hasUse, Cond.selects RX0 yX0_hasUse yX0_hasUse, Cond.code yX0_hasUse cX0_hasUse 2 (some .boolean), Cond.methodLink RX0 118 yX2_isGuessedByGap, Cond.instanceMethod yX2_isGuessedByGap, Cond.selects RX2 yX2_isGuessedByGap yX2_isGuessedByGap, Cond.code yX2_isGuessedByGap cX2_isGuessedByGap 2 (some .boolean), Cond.fieldLink RX2 31 "WokenRooms$Room" "guess" "I", Cond.fieldLink RX2 43 "WokenRooms$Room" "begun" "I", Cond.fieldLink RX2 34 "WokenRooms$Room" "state" "I", Cond.fieldLink RX2 52 "WokenRooms$Room" "latestEnd" "I", Cond.fieldLink RX2 55 "WokenRooms$Room" "gap" "I", Cond.fieldLink RX2 9 "WokenRooms$Room" "costs" "[I", Cond.methodLink RX3 86 yX2_tell, Cond.instanceMethod yX2_tell, Cond.selects RX2 yX2_tell yX2_tell, Cond.code yX2_tell cX2_tell 2 (some .int), Cond.fieldLink RX2 18 "WokenRooms$Room" "kind" "I", Cond.fieldLink RX2 22 "WokenRooms$Room" "needed" "I", Cond.fieldLink RX2 25 "WokenRooms$Room" "rail" "I"]
def wsL_isRoom_r4 : List Cond := [Cond.fieldLink RX2 37 "WokenRooms$Room" "left" "I", Cond.fieldLink RX2 40 "WokenRooms$Room" "idled" "I", Cond.fieldLink RX2 28 "WokenRooms$Room" "timeOut" "I", Cond.fieldLink RX2 46 "WokenRooms$Room" "late" "I", Cond.fieldLink RX2 49 "WokenRooms$Room" "woken" "I", Cond.methodLink RL 23 yL_called, Cond.static yL_called, Cond.initialized RL, Cond.code yL_called cL_called 6 (some .boolean), Cond.methodLink RL 15 yL_due, Cond.static yL_due, Cond.code yL_due cL_due 5 (some .boolean), Cond.methodLink RL 9 yL_first, Cond.static yL_first, Cond.code yL_first cL_first 5 (some .int)]
def wsL_isRoom : List Cond := .code yL_isRoom cL_isRoom 10 (some .boolean) :: ((wsL_isRoom_r1 ++ (wsL_isRoom_r2 ++ (wsL_isRoom_r3 ++ wsL_isRoom_r4))) ++ wsX30 ++ wsX00 ++ wsX20)
def wsL_isSo_r1 : List Cond := [Cond.arrayClass .int, Cond.methodLink RL 101 yL_isRoom, Cond.static yL_isRoom, Cond.initialized RL, Cond.code yL_isRoom cL_isRoom 10 (some .boolean), Cond.methodLink RL 92 yX3_costOf, Cond.instanceMethod yX3_costOf, Cond.selects RX3 yX3_costOf yX3_costOf, Cond.initialized RX3, Cond.code yX3_costOf cX3_costOf 3 (some .int), Cond.fieldLink RX3 10 "WokenRooms" "chip" "LWokenRooms$Chip;", Cond.fieldLink RX3 41 "WokenRooms$Chip" "rooms" "[LWokenRooms$Room;", Cond.fieldLink RX3 51 "WokenRooms$Room" "costs" "[I", Cond.methodLink RX3 76 yX0_hasRoom, Cond.instanceMethod yX0_hasRoom, Cond.selects RX0 yX0_hasRoom yX0_hasRoom, Cond.initialized RX0, Cond.code yX0_hasRoom cX0_hasRoom 2 (some .boolean), Cond.fieldLink RX0 31 "WokenRooms$Chip" "roomCount" "I", Cond.methodLink RX3 30 yX3_outside, Cond.static yX3_outside, Cond.code yX3_outside cX3_outside 3 (some .boolean), Cond.methodLink RL 95 yX3_energy, Cond.instanceMethod yX3_energy]
def wsL_isSo_r2 : List Cond := [Cond.selects RX3 yX3_energy yX3_energy, Cond.code yX3_energy cX3_energy 4 (some .int), Cond.fieldLink RX3 126 "WokenRooms$Room" "paid" "[I", Cond.methodLink RX3 122 yX2_paidInAll, Cond.instanceMethod yX2_paidInAll, Cond.selects RX2 yX2_paidInAll yX2_paidInAll, Cond.initialized RX2, Cond.code yX2_paidInAll cX2_paidInAll 1 (some .int), Cond.fieldLink RX2 15 "WokenRooms$Room" "paid" "[I", Cond.methodLink RL 98 yX3_roomOf, Cond.instanceMethod yX3_roomOf, Cond.selects RX3 yX3_roomOf yX3_roomOf, Cond.code yX3_roomOf cX3_roomOf 3 (some .int), Cond.methodLink RX3 80 yX0_usesOf, Cond.instanceMethod yX0_usesOf, Cond.selects RX0 yX0_usesOf yX0_usesOf, Cond.code yX0_usesOf cX0_usesOf 4 (some .int), Cond.fieldLink RX0 45 "WokenRooms$Chip" "useCount" "I", Cond.fieldLink RX0 21 "WokenRooms$Chip" "useRooms" "[I", Cond.methodLink RX3 83 yX0_isCalled, Cond.instanceMethod yX0_isCalled, Cond.selects RX0 yX0_isCalled yX0_isCalled, Cond.code yX0_isCalled cX0_isCalled 5 (some .boolean), Cond.fieldLink RX0 11 "WokenRooms$Chip" "rooms" "[LWokenRooms$Room;"]
def wsL_isSo_r3 : List Cond := [Cond.fieldLink RX0 101 "WokenRooms$Room" "guess" "I", Cond.fieldLink RX0 115 "WokenRooms$Room" "costs" "[I", Cond.fieldLink RX0 24 "WokenRooms$Chip" "useTimes" "[I", Cond.fieldLink RX0 48 "WokenRooms$Chip" "time" "I", Cond.methodLink RX0 112 yX0_firstUseOf, Cond.instanceMethod yX0_firstUseOf, Cond.selects RX0 yX0_firstUseOf yX0_firstUseOf, Cond.code yX0_firstUseOf cX0_firstUseOf 5 (some .int), Cond.methodLink RX0 105 yX0_hasUse, Cond.instanceMethod yX0_hasUse, Cond.selects RX0 yX0_hasUse yX0_hasUse, Cond.code yX0_hasUse cX0_hasUse 2 (some .boolean), Cond.methodLink RX0 118 yX2_isGuessedByGap, Cond.instanceMethod yX2_isGuessedByGap, Cond.selects RX2 yX2_isGuessedByGap yX2_isGuessedByGap, Cond.code yX2_isGuessedByGap cX2_isGuessedByGap 2 (some .boolean), Cond.fieldLink RX2 31 "WokenRooms$Room" "guess" "I", Cond.fieldLink RX2 43 "WokenRooms$Room" "begun" "I", Cond.fieldLink RX2 34 "WokenRooms$Room" "state" "I", Cond.fieldLink RX2 52 "WokenRooms$Room" "latestEnd" "I", Cond.fieldLink RX2 55 "WokenRooms$Room" "gap" "I", Cond.fieldLink RX2 9 "WokenRooms$Room" "costs" "[I", Cond.methodLink RX3 86 yX2_tell, Cond.instanceMethod yX2_tell]
def wsL_isSo_r4 : List Cond := [Cond.selects RX2 yX2_tell yX2_tell, Cond.code yX2_tell cX2_tell 2 (some .int), Cond.fieldLink RX2 18 "WokenRooms$Room" "kind" "I", Cond.fieldLink RX2 22 "WokenRooms$Room" "needed" "I", Cond.fieldLink RX2 25 "WokenRooms$Room" "rail" "I", Cond.fieldLink RX2 37 "WokenRooms$Room" "left" "I", Cond.fieldLink RX2 40 "WokenRooms$Room" "idled" "I", Cond.fieldLink RX2 28 "WokenRooms$Room" "timeOut" "I", Cond.fieldLink RX2 46 "WokenRooms$Room" "late" "I", Cond.fieldLink RX2 49 "WokenRooms$Room" "woken" "I", Cond.methodLink RL 23 yL_called, Cond.static yL_called, Cond.code yL_called cL_called 6 (some .boolean), Cond.methodLink RL 15 yL_due, Cond.static yL_due, Cond.code yL_due cL_due 5 (some .boolean), Cond.methodLink RL 9 yL_first, Cond.static yL_first, Cond.code yL_first cL_first 5 (some .int), Cond.methodLink RL 105 yX3_useOf, Cond.instanceMethod yX3_useOf, Cond.selects RX3 yX3_useOf yX3_useOf, Cond.code yX3_useOf cX3_useOf 3 (some .int), Cond.fieldLink RX3 98 "WokenRooms$Chip" "useRooms" "[I"]
def wsL_isSo_r5 : List Cond := [Cond.fieldLink RX3 101 "WokenRooms$Chip" "useTimes" "[I", Cond.fieldLink RX3 104 "WokenRooms$Chip" "useLengths" "[I", Cond.methodLink RX3 95 yX0_hasUse, Cond.methodLink RX3 107 yX0_firstUseOf, Cond.methodLink RL 108 yX3_pluggedAt, Cond.instanceMethod yX3_pluggedAt, Cond.selects RX3 yX3_pluggedAt yX3_pluggedAt, Cond.code yX3_pluggedAt cX3_pluggedAt 3 (some .int), Cond.methodLink RX3 89 yX0_roomOnRail, Cond.instanceMethod yX0_roomOnRail, Cond.selects RX0 yX0_roomOnRail yX0_roomOnRail, Cond.code yX0_roomOnRail cX0_roomOnRail 5 (some .int), Cond.fieldLink RX0 89 "WokenRooms$Room" "rail" "I", Cond.methodLink RL 111 yX3_count, Cond.instanceMethod yX3_count, Cond.selects RX3 yX3_count yX3_count, Cond.code yX3_count cX3_count 2 (some .int), Cond.fieldLink RX3 143 "WokenRooms" "historySize" "I", Cond.fieldLink RX3 26 "WokenRooms" "orders" "LWokenRooms$Orders;", Cond.fieldLink RX3 146 "WokenRooms$Orders" "length" "I", Cond.fieldLink RX3 149 "WokenRooms$Chip" "limits" "[I", Cond.methodLink RX3 152 yX0_tell, Cond.instanceMethod yX0_tell, Cond.selects RX0 yX0_tell yX0_tell]
def wsL_isSo_r6 : List Cond := [Cond.code yX0_tell cX0_tell 2 (some .int), Cond.methodLink RX0 51 yX0_roomsIn, Cond.instanceMethod yX0_roomsIn, Cond.selects RX0 yX0_roomsIn yX0_roomsIn, Cond.code yX0_roomsIn cX0_roomsIn 4 (some .int), Cond.fieldLink RX0 65 "WokenRooms$Room" "state" "I", Cond.methodLink RX0 55 yX0_paidInAll, Cond.instanceMethod yX0_paidInAll, Cond.selects RX0 yX0_paidInAll yX0_paidInAll, Cond.code yX0_paidInAll cX0_paidInAll 3 (some .int), Cond.methodLink RX0 68 yX2_paidInAll, Cond.methodLink RX0 59 yX0_begunInAll, Cond.instanceMethod yX0_begunInAll, Cond.selects RX0 yX0_begunInAll yX0_begunInAll, Cond.code yX0_begunInAll cX0_begunInAll 3 (some .int), Cond.fieldLink RX0 72 "WokenRooms$Room" "begun" "I", Cond.methodLink RX0 62 yX0_lateInAll, Cond.instanceMethod yX0_lateInAll, Cond.selects RX0 yX0_lateInAll yX0_lateInAll, Cond.code yX0_lateInAll cX0_lateInAll 3 (some .int), Cond.fieldLink RX0 75 "WokenRooms$Room" "late" "I"]
def wsL_isSo : List Cond := .code yL_isSo cL_isSo 14 (some .boolean) :: ((wsL_isSo_r1 ++ (wsL_isSo_r2 ++ (wsL_isSo_r3 ++ (wsL_isSo_r4 ++ (wsL_isSo_r5 ++ wsL_isSo_r6))))) ++ wsX30 ++ wsX00 ++ wsX20 ++ wsX10)
def wsL_law_r1 : List Cond := [Cond.classLink RL 45 RX3, Cond.instantiable RX3 5, Cond.initialized RX3, Cond.arrayClass .int, Cond.constant RL 8 (2147483647), Cond.constant RL 123 (1000000), Cond.methodLink RL 114 yX3_init, Cond.instanceMethod yX3_init, Cond.code yX3_init cX3_init 2 none, Cond.methodLink RX3 1 objectInit, Cond.instanceMethod objectInit, Cond.code objectInit ⟨#[0xb1]⟩ 1 none, Cond.classLink RX3 7 RX0, Cond.instantiable RX0 8, Cond.initialized RX0, Cond.fieldLink RX3 10 "WokenRooms" "chip" "LWokenRooms$Chip;", Cond.fieldLink RX3 16 "WokenRooms" "trial" "LWokenRooms$Chip;", Cond.fieldLink RX3 19 "WokenRooms" "history" "[LWokenRooms$Chip;", Cond.classLink RX3 23 RX1, Cond.instantiable RX1 9, Cond.initialized RX1, Cond.fieldLink RX3 26 "WokenRooms" "orders" "LWokenRooms$Orders;", Cond.methodLink RX3 9 yX0_init, Cond.instanceMethod yX0_init]
def wsL_law_r2 : List Cond := [Cond.code yX0_init cX0_init 2 none, Cond.methodLink RX0 3 objectInit, Cond.classLink RX0 9 RX2, Cond.fieldLink RX0 11 "WokenRooms$Chip" "rooms" "[LWokenRooms$Room;", Cond.fieldLink RX0 17 "WokenRooms$Chip" "limits" "[I", Cond.fieldLink RX0 21 "WokenRooms$Chip" "useRooms" "[I", Cond.fieldLink RX0 24 "WokenRooms$Chip" "useTimes" "[I", Cond.fieldLink RX0 27 "WokenRooms$Chip" "useLengths" "[I", Cond.instantiable RX2 15, Cond.initialized RX2, Cond.instanceMethod yX2_init, Cond.code yX2_init cX2_init 1 none, Cond.methodLink RX2 3 objectInit, Cond.fieldLink RX2 9 "WokenRooms$Room" "costs" "[I", Cond.fieldLink RX2 15 "WokenRooms$Room" "paid" "[I", Cond.instanceMethod yX1_init, Cond.code yX1_init cX1_init 1 none, Cond.methodLink RX1 3 objectInit, Cond.arrayClass .char, Cond.fieldLink RX1 9 "WokenRooms$Orders" "signs" "[C", Cond.fieldLink RX1 15 "WokenRooms$Orders" "numbers" "[I", Cond.methodLink RL 115 yL_isSo, Cond.static yL_isSo, Cond.initialized RL]
def wsL_law_r3 : List Cond := [Cond.code yL_isSo cL_isSo 14 (some .boolean), Cond.methodLink RL 101 yL_isRoom, Cond.static yL_isRoom, Cond.code yL_isRoom cL_isRoom 10 (some .boolean), Cond.methodLink RL 92 yX3_costOf, Cond.instanceMethod yX3_costOf, Cond.selects RX3 yX3_costOf yX3_costOf, Cond.code yX3_costOf cX3_costOf 3 (some .int), Cond.fieldLink RX3 41 "WokenRooms$Chip" "rooms" "[LWokenRooms$Room;", Cond.fieldLink RX3 51 "WokenRooms$Room" "costs" "[I", Cond.methodLink RX3 76 yX0_hasRoom, Cond.instanceMethod yX0_hasRoom, Cond.selects RX0 yX0_hasRoom yX0_hasRoom, Cond.code yX0_hasRoom cX0_hasRoom 2 (some .boolean), Cond.fieldLink RX0 31 "WokenRooms$Chip" "roomCount" "I", Cond.methodLink RX3 30 yX3_outside, Cond.static yX3_outside, Cond.code yX3_outside cX3_outside 3 (some .boolean), Cond.methodLink RL 95 yX3_energy, Cond.instanceMethod yX3_energy, Cond.selects RX3 yX3_energy yX3_energy, Cond.code yX3_energy cX3_energy 4 (some .int), Cond.fieldLink RX3 126 "WokenRooms$Room" "paid" "[I", Cond.methodLink RX3 122 yX2_paidInAll]
def wsL_law_r4 : List Cond := [Cond.instanceMethod yX2_paidInAll, Cond.selects RX2 yX2_paidInAll yX2_paidInAll, Cond.code yX2_paidInAll cX2_paidInAll 1 (some .int), Cond.methodLink RL 98 yX3_roomOf, Cond.instanceMethod yX3_roomOf, Cond.selects RX3 yX3_roomOf yX3_roomOf, Cond.code yX3_roomOf cX3_roomOf 3 (some .int), Cond.methodLink RX3 80 yX0_usesOf, Cond.instanceMethod yX0_usesOf, Cond.selects RX0 yX0_usesOf yX0_usesOf, Cond.code yX0_usesOf cX0_usesOf 4 (some .int), Cond.fieldLink RX0 45 "WokenRooms$Chip" "useCount" "I", Cond.methodLink RX3 83 yX0_isCalled, Cond.instanceMethod yX0_isCalled, Cond.selects RX0 yX0_isCalled yX0_isCalled, Cond.code yX0_isCalled cX0_isCalled 5 (some .boolean), Cond.fieldLink RX0 101 "WokenRooms$Room" "guess" "I", Cond.fieldLink RX0 115 "WokenRooms$Room" "costs" "[I", Cond.fieldLink RX0 48 "WokenRooms$Chip" "time" "I", Cond.methodLink RX0 112 yX0_firstUseOf, Cond.instanceMethod yX0_firstUseOf, Cond.selects RX0 yX0_firstUseOf yX0_firstUseOf, Cond.code yX0_firstUseOf cX0_firstUseOf 5 (some .int), Cond.methodLink RX0 105 yX0_hasUse]
def wsL_law_r5 : List Cond := [Cond.instanceMethod yX0_hasUse, Cond.selects RX0 yX0_hasUse yX0_hasUse, Cond.code yX0_hasUse cX0_hasUse 2 (some .boolean), Cond.methodLink RX0 118 yX2_isGuessedByGap, Cond.instanceMethod yX2_isGuessedByGap, Cond.selects RX2 yX2_isGuessedByGap yX2_isGuessedByGap, Cond.code yX2_isGuessedByGap cX2_isGuessedByGap 2 (some .boolean), Cond.fieldLink RX2 31 "WokenRooms$Room" "guess" "I", Cond.fieldLink RX2 43 "WokenRooms$Room" "begun" "I", Cond.fieldLink RX2 34 "WokenRooms$Room" "state" "I", Cond.fieldLink RX2 52 "WokenRooms$Room" "latestEnd" "I", Cond.fieldLink RX2 55 "WokenRooms$Room" "gap" "I", Cond.methodLink RX3 86 yX2_tell, Cond.instanceMethod yX2_tell, Cond.selects RX2 yX2_tell yX2_tell, Cond.code yX2_tell cX2_tell 2 (some .int), Cond.fieldLink RX2 18 "WokenRooms$Room" "kind" "I", Cond.fieldLink RX2 22 "WokenRooms$Room" "needed" "I", Cond.fieldLink RX2 25 "WokenRooms$Room" "rail" "I", Cond.fieldLink RX2 37 "WokenRooms$Room" "left" "I", Cond.fieldLink RX2 40 "WokenRooms$Room" "idled" "I", Cond.fieldLink RX2 28 "WokenRooms$Room" "timeOut" "I", Cond.fieldLink RX2 46 "WokenRooms$Room" "late" "I", Cond.fieldLink RX2 49 "WokenRooms$Room" "woken" "I"]
def wsL_law_r6 : List Cond := [Cond.methodLink RL 23 yL_called, Cond.static yL_called, Cond.code yL_called cL_called 6 (some .boolean), Cond.methodLink RL 15 yL_due, Cond.static yL_due, Cond.code yL_due cL_due 5 (some .boolean), Cond.methodLink RL 9 yL_first, Cond.static yL_first, Cond.code yL_first cL_first 5 (some .int), Cond.methodLink RL 105 yX3_useOf, Cond.instanceMethod yX3_useOf, Cond.selects RX3 yX3_useOf yX3_useOf, Cond.code yX3_useOf cX3_useOf 3 (some .int), Cond.fieldLink RX3 98 "WokenRooms$Chip" "useRooms" "[I", Cond.fieldLink RX3 101 "WokenRooms$Chip" "useTimes" "[I", Cond.fieldLink RX3 104 "WokenRooms$Chip" "useLengths" "[I", Cond.methodLink RX3 95 yX0_hasUse, Cond.methodLink RX3 107 yX0_firstUseOf, Cond.methodLink RL 108 yX3_pluggedAt, Cond.instanceMethod yX3_pluggedAt, Cond.selects RX3 yX3_pluggedAt yX3_pluggedAt, Cond.code yX3_pluggedAt cX3_pluggedAt 3 (some .int), Cond.methodLink RX3 89 yX0_roomOnRail, Cond.instanceMethod yX0_roomOnRail]
def wsL_law_r7 : List Cond := [Cond.selects RX0 yX0_roomOnRail yX0_roomOnRail, Cond.code yX0_roomOnRail cX0_roomOnRail 5 (some .int), Cond.fieldLink RX0 89 "WokenRooms$Room" "rail" "I", Cond.methodLink RL 111 yX3_count, Cond.instanceMethod yX3_count, Cond.selects RX3 yX3_count yX3_count, Cond.code yX3_count cX3_count 2 (some .int), Cond.fieldLink RX3 143 "WokenRooms" "historySize" "I", Cond.fieldLink RX3 146 "WokenRooms$Orders" "length" "I", Cond.fieldLink RX3 149 "WokenRooms$Chip" "limits" "[I", Cond.methodLink RX3 152 yX0_tell, Cond.instanceMethod yX0_tell, Cond.selects RX0 yX0_tell yX0_tell, Cond.code yX0_tell cX0_tell 2 (some .int), Cond.methodLink RX0 51 yX0_roomsIn, Cond.instanceMethod yX0_roomsIn, Cond.selects RX0 yX0_roomsIn yX0_roomsIn, Cond.code yX0_roomsIn cX0_roomsIn 4 (some .int), Cond.fieldLink RX0 65 "WokenRooms$Room" "state" "I", Cond.methodLink RX0 55 yX0_paidInAll, Cond.instanceMethod yX0_paidInAll, Cond.selects RX0 yX0_paidInAll yX0_paidInAll, Cond.code yX0_paidInAll cX0_paidInAll 3 (some .int), Cond.methodLink RX0 68 yX2_paidInAll]
def wsL_law_r8 : List Cond := [Cond.methodLink RX0 59 yX0_begunInAll, Cond.instanceMethod yX0_begunInAll, Cond.selects RX0 yX0_begunInAll yX0_begunInAll, Cond.code yX0_begunInAll cX0_begunInAll 3 (some .int), Cond.fieldLink RX0 72 "WokenRooms$Room" "begun" "I", Cond.methodLink RX0 62 yX0_lateInAll, Cond.instanceMethod yX0_lateInAll, Cond.selects RX0 yX0_lateInAll yX0_lateInAll, Cond.code yX0_lateInAll cX0_lateInAll 3 (some .int), Cond.fieldLink RX0 75 "WokenRooms$Room" "late" "I", Cond.methodLink RL 119 yL_cell, Cond.static yL_cell, Cond.code yL_cell cL_cell 2 (some .int), Cond.constant RL 7 (40503), Cond.methodLink RL 72 yL_lays, Cond.static yL_lays, Cond.code yL_lays cL_lays 11 (some .boolean), Cond.methodLink RL 44 yX3_room, Cond.instanceMethod yX3_room, Cond.selects RX3 yX3_room yX3_room, Cond.code yX3_room cX3_room 8 (some .int), Cond.fieldLink RX3 34 "WokenRooms$Chip" "roomCount" "I", Cond.methodLink RX3 38 yX3_note, Cond.instanceMethod yX3_note]
def wsL_law_r9 : List Cond := [Cond.selects RX3 yX3_note yX3_note, Cond.code yX3_note cX3_note 1 none, Cond.methodLink RX3 153 yX0_copyFrom, Cond.instanceMethod yX0_copyFrom, Cond.selects RX0 yX0_copyFrom yX0_copyFrom, Cond.code yX0_copyFrom cX0_copyFrom 3 none, Cond.methodLink RX0 39 arraycopyName, Cond.native arraycopyName, Cond.static arraycopyName, Cond.initialized "java/lang/System", Cond.methodLink RX0 35 yX2_copyFrom, Cond.instanceMethod yX2_copyFrom, Cond.selects RX2 yX2_copyFrom yX2_copyFrom, Cond.code yX2_copyFrom cX2_copyFrom 2 none, Cond.methodLink RX2 58 arraycopyName, Cond.methodLink RX3 45 yX2_startAnew, Cond.instanceMethod yX2_startAnew, Cond.selects RX2 yX2_startAnew yX2_startAnew, Cond.code yX2_startAnew cX2_startAnew 3 none, Cond.methodLink RX3 55 yX3_kept, Cond.instanceMethod yX3_kept, Cond.selects RX3 yX3_kept yX3_kept, Cond.code yX3_kept cX3_kept 2 (some .int), Cond.methodLink RX3 195 yX3_dropOldest]
def wsL_law_r10 : List Cond := [Cond.instanceMethod yX3_dropOldest, Cond.selects RX3 yX3_dropOldest yX3_dropOldest, Cond.code yX3_dropOldest cX3_dropOldest 3 none, Cond.methodLink RL 50 yX3_need, Cond.instanceMethod yX3_need, Cond.selects RX3 yX3_need yX3_need, Cond.code yX3_need cX3_need 3 (some .int), Cond.methodLink RX3 59 yX0_setNeed, Cond.instanceMethod yX0_setNeed, Cond.selects RX0 yX0_setNeed yX0_setNeed, Cond.code yX0_setNeed cX0_setNeed 5 (some .int), Cond.fieldLink RX0 86 "WokenRooms$Room" "needed" "I", Cond.methodLink RX0 78 yX0_hasRoom, Cond.methodLink RL 54 yX3_plug, Cond.instanceMethod yX3_plug, Cond.selects RX3 yX3_plug yX3_plug, Cond.code yX3_plug cX3_plug 3 (some .int), Cond.methodLink RX3 63 yX0_plugIn, Cond.instanceMethod yX0_plugIn, Cond.selects RX0 yX0_plugIn yX0_plugIn, Cond.code yX0_plugIn cX0_plugIn 4 (some .int), Cond.fieldLink RX0 92 "WokenRooms$Room" "kind" "I", Cond.methodLink RX0 95 yX0_pluggedInto, Cond.instanceMethod yX0_pluggedInto]
def wsL_law_r11 : List Cond := [Cond.selects RX0 yX0_pluggedInto yX0_pluggedInto, Cond.code yX0_pluggedInto cX0_pluggedInto 4 (some .int), Cond.methodLink RL 57 yX3_unplug, Cond.instanceMethod yX3_unplug, Cond.selects RX3 yX3_unplug yX3_unplug, Cond.code yX3_unplug cX3_unplug 2 (some .int), Cond.methodLink RX3 66 yX0_plugOut, Cond.instanceMethod yX0_plugOut, Cond.selects RX0 yX0_plugOut yX0_plugOut, Cond.code yX0_plugOut cX0_plugOut 4 (some .int), Cond.methodLink RL 61 yX3_limit, Cond.instanceMethod yX3_limit, Cond.selects RX3 yX3_limit yX3_limit, Cond.code yX3_limit cX3_limit 3 (some .int), Cond.methodLink RX3 69 yX0_setLimit, Cond.instanceMethod yX0_setLimit, Cond.selects RX0 yX0_setLimit yX0_setLimit, Cond.code yX0_setLimit cX0_setLimit 4 (some .int), Cond.methodLink RL 64 yX3_policy, Cond.instanceMethod yX3_policy, Cond.selects RX3 yX3_policy yX3_policy, Cond.code yX3_policy cX3_policy 4 (some .int), Cond.methodLink RX3 72 yX0_setPolicy, Cond.instanceMethod yX0_setPolicy]
def wsL_law_r12 : List Cond := [Cond.selects RX0 yX0_setPolicy yX0_setPolicy, Cond.code yX0_setPolicy cX0_setPolicy 6 (some .int), Cond.fieldLink RX0 98 "WokenRooms$Room" "timeOut" "I", Cond.methodLink RL 124 yL_acts, Cond.static yL_acts, Cond.code yL_acts cL_acts 14 (some .boolean), Cond.constant RL 68 (10000000), Cond.constantLong RL 35 (1000), Cond.methodLink RL 69 yL_low, Cond.static yL_low, Cond.code yL_low cL_low 2 (some .int), Cond.methodLink RL 76 yX3_use, Cond.instanceMethod yX3_use, Cond.selects RX3 yX3_use yX3_use, Cond.code yX3_use cX3_use 4 (some .int), Cond.methodLink RX3 92 yX0_planUse, Cond.instanceMethod yX0_planUse, Cond.selects RX0 yX0_planUse yX0_planUse, Cond.code yX0_planUse cX0_planUse 4 (some .int), Cond.constant RX0 104 (50000), Cond.methodLink RL 79 yX3_drop, Cond.instanceMethod yX3_drop, Cond.selects RX3 yX3_drop yX3_drop, Cond.code yX3_drop cX3_drop 2 (some .int)]
def wsL_law_r13 : List Cond := [Cond.methodLink RX3 110 yX0_dropUse, Cond.instanceMethod yX0_dropUse, Cond.selects RX0 yX0_dropUse yX0_dropUse, Cond.code yX0_dropUse cX0_dropUse 3 (some .int), Cond.methodLink RX0 108 yX0_removeUse, Cond.instanceMethod yX0_removeUse, Cond.selects RX0 yX0_removeUse yX0_removeUse, Cond.code yX0_removeUse cX0_removeUse 3 none, Cond.methodLink RL 37 yL_drop, Cond.static yL_drop, Cond.code yL_drop cL_drop 4 none, Cond.methodLink RL 27 yL_can, Cond.static yL_can, Cond.code yL_can cL_can 7 (some .boolean), Cond.methodLink RL 19 yL_ready, Cond.static yL_ready, Cond.code yL_ready cL_ready 3 (some .boolean), Cond.methodLink RL 81 yX3_wake, Cond.instanceMethod yX3_wake, Cond.selects RX3 yX3_wake yX3_wake, Cond.code yX3_wake cX3_wake 2 (some .int), Cond.methodLink RX3 113 yX0_wakeRoom, Cond.instanceMethod yX0_wakeRoom, Cond.selects RX0 yX0_wakeRoom yX0_wakeRoom]
def wsL_law_r14 : List Cond := [Cond.code yX0_wakeRoom cX0_wakeRoom 3 (some .int), Cond.methodLink RX0 121 yX0_isReady, Cond.instanceMethod yX0_isReady, Cond.selects RX0 yX0_isReady yX0_isReady, Cond.code yX0_isReady cX0_isReady 3 (some .boolean), Cond.methodLink RX0 124 yX0_railLetsWake, Cond.instanceMethod yX0_railLetsWake, Cond.selects RX0 yX0_railLetsWake yX0_railLetsWake, Cond.code yX0_railLetsWake cX0_railLetsWake 5 (some .boolean), Cond.methodLink RX0 127 yX2_startWaking, Cond.instanceMethod yX2_startWaking, Cond.selects RX2 yX2_startWaking yX2_startWaking, Cond.code yX2_startWaking cX2_startWaking 1 none, Cond.methodLink RL 31 yL_wake, Cond.static yL_wake, Cond.code yL_wake cL_wake 4 none, Cond.methodLink RL 41 yL_needed, Cond.static yL_needed, Cond.code yL_needed cL_needed 6 (some .boolean), Cond.methodLink RL 83 yX3_sleep, Cond.instanceMethod yX3_sleep, Cond.selects RX3 yX3_sleep yX3_sleep, Cond.code yX3_sleep cX3_sleep 2 (some .int), Cond.methodLink RX3 116 yX0_sendToSleep]
def wsL_law_r15 : List Cond := [Cond.instanceMethod yX0_sendToSleep, Cond.selects RX0 yX0_sendToSleep yX0_sendToSleep, Cond.code yX0_sendToSleep cX0_sendToSleep 3 (some .int), Cond.fieldLink RX0 133 "WokenRooms$Room" "idled" "I", Cond.methodLink RX0 130 yX0_hasDependentsUp, Cond.instanceMethod yX0_hasDependentsUp, Cond.selects RX0 yX0_hasDependentsUp yX0_hasDependentsUp, Cond.code yX0_hasDependentsUp cX0_hasDependentsUp 3 (some .boolean), Cond.methodLink RL 86 yL_tick, Cond.static yL_tick, Cond.code yL_tick cL_tick 11 (some .long), Cond.methodLink RL 90 yX3_tick, Cond.instanceMethod yX3_tick, Cond.selects RX3 yX3_tick yX3_tick, Cond.code yX3_tick cX3_tick 2 (some .int), Cond.methodLink RX3 119 yX0_letTicksGoBy, Cond.instanceMethod yX0_letTicksGoBy, Cond.selects RX0 yX0_letTicksGoBy yX0_letTicksGoBy, Cond.code yX0_letTicksGoBy cX0_letTicksGoBy 4 (some .int), Cond.methodLink RX0 136 yX0_passTick, Cond.instanceMethod yX0_passTick, Cond.selects RX0 yX0_passTick yX0_passTick, Cond.code yX0_passTick cX0_passTick 2 none, Cond.methodLink RX0 139 yX0_isCalled]
def wsL_law_r16 : List Cond := [Cond.methodLink RX0 142 yX0_soughtFor, Cond.instanceMethod yX0_soughtFor, Cond.selects RX0 yX0_soughtFor yX0_soughtFor, Cond.code yX0_soughtFor cX0_soughtFor 4 (some .int), Cond.methodLink RX0 145 yX0_wakeIfPossible, Cond.instanceMethod yX0_wakeIfPossible, Cond.selects RX0 yX0_wakeIfPossible yX0_wakeIfPossible, Cond.code yX0_wakeIfPossible cX0_wakeIfPossible 2 none, Cond.methodLink RX0 148 yX0_beginDueUse, Cond.instanceMethod yX0_beginDueUse, Cond.selects RX0 yX0_beginDueUse yX0_beginDueUse, Cond.code yX0_beginDueUse cX0_beginDueUse 3 none, Cond.methodLink RX0 157 yX2_begin, Cond.instanceMethod yX2_begin, Cond.selects RX2 yX2_begin yX2_begin, Cond.code yX2_begin cX2_begin 4 none, Cond.methodLink RX0 151 yX2_payForTick, Cond.instanceMethod yX2_payForTick, Cond.selects RX2 yX2_payForTick yX2_payForTick, Cond.code yX2_payForTick cX2_payForTick 1 none, Cond.methodLink RX0 154 yX0_goOn, Cond.instanceMethod yX0_goOn, Cond.selects RX0 yX0_goOn yX0_goOn, Cond.code yX0_goOn cX0_goOn 3 none]
def wsL_law_r17 : List Cond := [Cond.methodLink RX0 161 yX2_workOn, Cond.instanceMethod yX2_workOn, Cond.selects RX2 yX2_workOn yX2_workOn, Cond.code yX2_workOn cX2_workOn 1 none, Cond.methodLink RX0 164 yX2_isTimedOut, Cond.instanceMethod yX2_isTimedOut, Cond.selects RX2 yX2_isTimedOut yX2_isTimedOut, Cond.code yX2_isTimedOut cX2_isTimedOut 1 (some .boolean)]
def wsL_law : List Cond := (wsL_law_r1 ++ (wsL_law_r2 ++ (wsL_law_r3 ++ (wsL_law_r4 ++ (wsL_law_r5 ++ (wsL_law_r6 ++ (wsL_law_r7 ++ (wsL_law_r8 ++ (wsL_law_r9 ++ (wsL_law_r10 ++ (wsL_law_r11 ++ (wsL_law_r12 ++ (wsL_law_r13 ++ (wsL_law_r14 ++ (wsL_law_r15 ++ (wsL_law_r16 ++ wsL_law_r17)))))))))))))))) ++ wsX30 ++ wsX00 ++ wsX10 ++ wsX20 ++ ([] : List Cond)
end
section
theorem wk_ma {big a b : List Cond} (ha : ∀ w ∈ a, w ∈ big) (hb : ∀ w ∈ b, w ∈ big) : ∀ w ∈ a ++ b, w ∈ big := fun w h => (List.mem_append.mp h).elim (ha w) (hb w)
theorem wk_m0 {w : Cond} (i : Nat) (h : (k2_sels lw_privs)[i]? = some w) : w ∈ lw_tbl := List.mem_append_left _ (List.mem_of_getElem? h)
theorem wk_m1 {w : Cond} (i : Nat) (h : tables_1_1[i]? = some w) : w ∈ lw_tbl := List.mem_append_right _ (List.mem_append_left _ (List.mem_of_getElem? h))
theorem wk_m2 {w : Cond} (i : Nat) (h : tables_1_2[i]? = some w) : w ∈ lw_tbl := List.mem_append_right _ (List.mem_append_right _ (List.mem_of_getElem? h))
theorem wk_mn {P : Cond → Prop} : ∀ w ∈ ([] : List Cond), P w := fun _ h => absurd h List.not_mem_nil
set_option maxRecDepth 20000 in
theorem wk_m_wsL_law_r1 : ∀ w ∈ wsL_law_r1, w ∈ lw_tbl := List.forall_mem_cons.mpr ⟨(wk_m1 6 rfl), List.forall_mem_cons.mpr ⟨(wk_m1 7 rfl), List.forall_mem_cons.mpr ⟨(wk_m1 1 rfl), List.forall_mem_cons.mpr ⟨(wk_m1 85 rfl), List.forall_mem_cons.mpr ⟨(wk_m2 6 rfl), List.forall_mem_cons.mpr ⟨(wk_m2 234 rfl), List.forall_mem_cons.mpr ⟨(wk_m1 8 rfl), List.forall_mem_cons.mpr ⟨(wk_m1 9 rfl), List.forall_mem_cons.mpr ⟨(wk_m1 10 rfl), List.forall_mem_cons.mpr ⟨(wk_m1 11 rfl), List.forall_mem_cons.mpr ⟨(wk_m1 12 rfl), List.forall_mem_cons.mpr ⟨(wk_m1 13 rfl), List.forall_mem_cons.mpr ⟨(wk_m1 14 rfl), List.forall_mem_cons.mpr ⟨(wk_m1 15 rfl), List.forall_mem_cons.mpr ⟨(wk_m1 2 rfl), List.forall_mem_cons.mpr ⟨(wk_m1 147 rfl), List.forall_mem_cons.mpr ⟨(wk_m1 148 rfl), List.forall_mem_cons.mpr ⟨(wk_m1 149 rfl), List.forall_mem_cons.mpr ⟨(wk_m1 118 rfl), List.forall_mem_cons.mpr ⟨(wk_m1 119 rfl), List.forall_mem_cons.mpr ⟨(wk_m1 4 rfl), List.forall_mem_cons.mpr ⟨(wk_m1 151 rfl), List.forall_mem_cons.mpr ⟨(wk_m1 16 rfl), List.forall_mem_cons.mpr ⟨(wk_m1 17 rfl), wk_mn⟩⟩⟩⟩⟩⟩⟩⟩⟩⟩⟩⟩⟩⟩⟩⟩⟩⟩⟩⟩⟩⟩⟩⟩
set_option maxRecDepth 20000 in
theorem wk_m_wsL_law_r2 : ∀ w ∈ wsL_law_r2, w ∈ lw_tbl := List.forall_mem_cons.mpr ⟨(wk_m1 18 rfl), List.forall_mem_cons.mpr ⟨(wk_m1 19 rfl), List.forall_mem_cons.mpr ⟨(wk_m1 20 rfl), List.forall_mem_cons.mpr ⟨(wk_m1 86 rfl), List.forall_mem_cons.mpr ⟨(wk_m1 90 rfl), List.forall_mem_cons.mpr ⟨(wk_m1 92 rfl), List.forall_mem_cons.mpr ⟨(wk_m1 94 rfl), List.forall_mem_cons.mpr ⟨(wk_m1 96 rfl), List.forall_mem_cons.mpr ⟨(wk_m1 22 rfl), List.forall_mem_cons.mpr ⟨(wk_m1 3 rfl), List.forall_mem_cons.mpr ⟨(wk_m1 24 rfl), List.forall_mem_cons.mpr ⟨(wk_m1 25 rfl), List.forall_mem_cons.mpr ⟨(wk_m1 26 rfl), List.forall_mem_cons.mpr ⟨(wk_m1 27 rfl), List.forall_mem_cons.mpr ⟨(wk_m1 30 rfl), List.forall_mem_cons.mpr ⟨(wk_m1 121 rfl), List.forall_mem_cons.mpr ⟨(wk_m1 122 rfl), List.forall_mem_cons.mpr ⟨(wk_m1 123 rfl), List.forall_mem_cons.mpr ⟨(wk_m1 146 rfl), List.forall_mem_cons.mpr ⟨(wk_m1 124 rfl), List.forall_mem_cons.mpr ⟨(wk_m1 126 rfl), List.forall_mem_cons.mpr ⟨(wk_m2 218 rfl), List.forall_mem_cons.mpr ⟨(wk_m2 219 rfl), List.forall_mem_cons.mpr ⟨(wk_m1 0 rfl), wk_mn⟩⟩⟩⟩⟩⟩⟩⟩⟩⟩⟩⟩⟩⟩⟩⟩⟩⟩⟩⟩⟩⟩⟩⟩
set_option maxRecDepth 20000 in
theorem wk_m_wsL_law_r3 : ∀ w ∈ wsL_law_r3, w ∈ lw_tbl := List.forall_mem_cons.mpr ⟨(wk_m2 220 rfl), List.forall_mem_cons.mpr ⟨(wk_m2 221 rfl), List.forall_mem_cons.mpr ⟨(wk_m2 222 rfl), List.forall_mem_cons.mpr ⟨(wk_m2 223 rfl), List.forall_mem_cons.mpr ⟨(wk_m2 224 rfl), List.forall_mem_cons.mpr ⟨(wk_m2 225 rfl), List.forall_mem_cons.mpr ⟨(wk_m2 226 rfl), List.forall_mem_cons.mpr ⟨(wk_m2 227 rfl), List.forall_mem_cons.mpr ⟨(wk_m1 87 rfl), List.forall_mem_cons.mpr ⟨(wk_m1 28 rfl), List.forall_mem_cons.mpr ⟨(wk_m1 167 rfl), List.forall_mem_cons.mpr ⟨(wk_m1 168 rfl), List.forall_mem_cons.mpr ⟨(wk_m1 169 rfl), List.forall_mem_cons.mpr ⟨(wk_m1 170 rfl), List.forall_mem_cons.mpr ⟨(wk_m1 88 rfl), List.forall_mem_cons.mpr ⟨(wk_m1 171 rfl), List.forall_mem_cons.mpr ⟨(wk_m1 172 rfl), List.forall_mem_cons.mpr ⟨(wk_m1 173 rfl), List.forall_mem_cons.mpr ⟨(wk_m1 206 rfl), List.forall_mem_cons.mpr ⟨(wk_m1 207 rfl), List.forall_mem_cons.mpr ⟨(wk_m1 208 rfl), List.forall_mem_cons.mpr ⟨(wk_m1 209 rfl), List.forall_mem_cons.mpr ⟨(wk_m1 31 rfl), List.forall_mem_cons.mpr ⟨(wk_m1 210 rfl), wk_mn⟩⟩⟩⟩⟩⟩⟩⟩⟩⟩⟩⟩⟩⟩⟩⟩⟩⟩⟩⟩⟩⟩⟩⟩
set_option maxRecDepth 20000 in
theorem wk_m_wsL_law_r4 : ∀ w ∈ wsL_law_r4, w ∈ lw_tbl := List.forall_mem_cons.mpr ⟨(wk_m1 211 rfl), List.forall_mem_cons.mpr ⟨(wk_m1 212 rfl), List.forall_mem_cons.mpr ⟨(wk_m1 213 rfl), List.forall_mem_cons.mpr ⟨(wk_m1 163 rfl), List.forall_mem_cons.mpr ⟨(wk_m1 164 rfl), List.forall_mem_cons.mpr ⟨(wk_m1 165 rfl), List.forall_mem_cons.mpr ⟨(wk_m1 166 rfl), List.forall_mem_cons.mpr ⟨(wk_m1 174 rfl), List.forall_mem_cons.mpr ⟨(wk_m1 175 rfl), List.forall_mem_cons.mpr ⟨(wk_m1 176 rfl), List.forall_mem_cons.mpr ⟨(wk_m1 177 rfl), List.forall_mem_cons.mpr ⟨(wk_m1 98 rfl), List.forall_mem_cons.mpr ⟨(wk_m1 178 rfl), List.forall_mem_cons.mpr ⟨(wk_m1 179 rfl), List.forall_mem_cons.mpr ⟨(wk_m1 180 rfl), List.forall_mem_cons.mpr ⟨(wk_m1 181 rfl), List.forall_mem_cons.mpr ⟨(wk_m1 41 rfl), List.forall_mem_cons.mpr ⟨(wk_m1 29 rfl), List.forall_mem_cons.mpr ⟨(wk_m1 99 rfl), List.forall_mem_cons.mpr ⟨(wk_m1 182 rfl), List.forall_mem_cons.mpr ⟨(wk_m1 183 rfl), List.forall_mem_cons.mpr ⟨(wk_m1 184 rfl), List.forall_mem_cons.mpr ⟨(wk_m1 185 rfl), List.forall_mem_cons.mpr ⟨(wk_m1 186 rfl), wk_mn⟩⟩⟩⟩⟩⟩⟩⟩⟩⟩⟩⟩⟩⟩⟩⟩⟩⟩⟩⟩⟩⟩⟩⟩
set_option maxRecDepth 20000 in
theorem wk_m_wsL_law_r5 : ∀ w ∈ wsL_law_r5, w ∈ lw_tbl := List.forall_mem_cons.mpr ⟨(wk_m1 187 rfl), List.forall_mem_cons.mpr ⟨(wk_m1 188 rfl), List.forall_mem_cons.mpr ⟨(wk_m1 189 rfl), List.forall_mem_cons.mpr ⟨(wk_m1 190 rfl), List.forall_mem_cons.mpr ⟨(wk_m1 191 rfl), List.forall_mem_cons.mpr ⟨(wk_m1 192 rfl), List.forall_mem_cons.mpr ⟨(wk_m1 193 rfl), List.forall_mem_cons.mpr ⟨(wk_m1 40 rfl), List.forall_mem_cons.mpr ⟨(wk_m1 47 rfl), List.forall_mem_cons.mpr ⟨(wk_m1 42 rfl), List.forall_mem_cons.mpr ⟨(wk_m1 52 rfl), List.forall_mem_cons.mpr ⟨(wk_m1 53 rfl), List.forall_mem_cons.mpr ⟨(wk_m1 194 rfl), List.forall_mem_cons.mpr ⟨(wk_m1 195 rfl), List.forall_mem_cons.mpr ⟨(wk_m1 196 rfl), List.forall_mem_cons.mpr ⟨(wk_m1 197 rfl), List.forall_mem_cons.mpr ⟨(wk_m1 32 rfl), List.forall_mem_cons.mpr ⟨(wk_m1 34 rfl), List.forall_mem_cons.mpr ⟨(wk_m1 36 rfl), List.forall_mem_cons.mpr ⟨(wk_m1 44 rfl), List.forall_mem_cons.mpr ⟨(wk_m1 45 rfl), List.forall_mem_cons.mpr ⟨(wk_m1 38 rfl), List.forall_mem_cons.mpr ⟨(wk_m1 49 rfl), List.forall_mem_cons.mpr ⟨(wk_m1 51 rfl), wk_mn⟩⟩⟩⟩⟩⟩⟩⟩⟩⟩⟩⟩⟩⟩⟩⟩⟩⟩⟩⟩⟩⟩⟩⟩
set_option maxRecDepth 20000 in
theorem wk_m_wsL_law_r6 : ∀ w ∈ wsL_law_r6, w ∈ lw_tbl := List.forall_mem_cons.mpr ⟨(wk_m2 163 rfl), List.forall_mem_cons.mpr ⟨(wk_m2 164 rfl), List.forall_mem_cons.mpr ⟨(wk_m2 165 rfl), List.forall_mem_cons.mpr ⟨(wk_m2 166 rfl), List.forall_mem_cons.mpr ⟨(wk_m2 167 rfl), List.forall_mem_cons.mpr ⟨(wk_m2 168 rfl), List.forall_mem_cons.mpr ⟨(wk_m2 169 rfl), List.forall_mem_cons.mpr ⟨(wk_m2 170 rfl), List.forall_mem_cons.mpr ⟨(wk_m2 171 rfl), List.forall_mem_cons.mpr ⟨(wk_m2 228 rfl), List.forall_mem_cons.mpr ⟨(wk_m2 229 rfl), List.forall_mem_cons.mpr ⟨(wk_m2 230 rfl), List.forall_mem_cons.mpr ⟨(wk_m2 231 rfl), List.forall_mem_cons.mpr ⟨(wk_m1 93 rfl), List.forall_mem_cons.mpr ⟨(wk_m1 95 rfl), List.forall_mem_cons.mpr ⟨(wk_m1 97 rfl), List.forall_mem_cons.mpr ⟨(wk_m2 232 rfl), List.forall_mem_cons.mpr ⟨(wk_m2 233 rfl), List.forall_mem_cons.mpr ⟨(wk_m1 198 rfl), List.forall_mem_cons.mpr ⟨(wk_m1 199 rfl), List.forall_mem_cons.mpr ⟨(wk_m1 200 rfl), List.forall_mem_cons.mpr ⟨(wk_m1 201 rfl), List.forall_mem_cons.mpr ⟨(wk_m1 202 rfl), List.forall_mem_cons.mpr ⟨(wk_m1 203 rfl), wk_mn⟩⟩⟩⟩⟩⟩⟩⟩⟩⟩⟩⟩⟩⟩⟩⟩⟩⟩⟩⟩⟩⟩⟩⟩
set_option maxRecDepth 20000 in
theorem wk_m_wsL_law_r7 : ∀ w ∈ wsL_law_r7, w ∈ lw_tbl := List.forall_mem_cons.mpr ⟨(wk_m1 204 rfl), List.forall_mem_cons.mpr ⟨(wk_m1 205 rfl), List.forall_mem_cons.mpr ⟨(wk_m1 37 rfl), List.forall_mem_cons.mpr ⟨(wk_m1 214 rfl), List.forall_mem_cons.mpr ⟨(wk_m1 215 rfl), List.forall_mem_cons.mpr ⟨(wk_m1 216 rfl), List.forall_mem_cons.mpr ⟨(wk_m1 217 rfl), List.forall_mem_cons.mpr ⟨(wk_m1 150 rfl), List.forall_mem_cons.mpr ⟨(wk_m1 125 rfl), List.forall_mem_cons.mpr ⟨(wk_m1 91 rfl), List.forall_mem_cons.mpr ⟨(wk_m1 218 rfl), List.forall_mem_cons.mpr ⟨(wk_m1 219 rfl), List.forall_mem_cons.mpr ⟨(wk_m1 220 rfl), List.forall_mem_cons.mpr ⟨(wk_m1 221 rfl), List.forall_mem_cons.mpr ⟨(wk_m1 222 rfl), List.forall_mem_cons.mpr ⟨(wk_m1 223 rfl), List.forall_mem_cons.mpr ⟨(wk_m1 224 rfl), List.forall_mem_cons.mpr ⟨(wk_m1 225 rfl), List.forall_mem_cons.mpr ⟨(wk_m1 43 rfl), List.forall_mem_cons.mpr ⟨(wk_m1 226 rfl), List.forall_mem_cons.mpr ⟨(wk_m1 227 rfl), List.forall_mem_cons.mpr ⟨(wk_m1 228 rfl), List.forall_mem_cons.mpr ⟨(wk_m1 229 rfl), List.forall_mem_cons.mpr ⟨(wk_m1 230 rfl), wk_mn⟩⟩⟩⟩⟩⟩⟩⟩⟩⟩⟩⟩⟩⟩⟩⟩⟩⟩⟩⟩⟩⟩⟩⟩
set_option maxRecDepth 20000 in
theorem wk_m_wsL_law_r8 : ∀ w ∈ wsL_law_r8, w ∈ lw_tbl := List.forall_mem_cons.mpr ⟨(wk_m1 231 rfl), List.forall_mem_cons.mpr ⟨(wk_m1 232 rfl), List.forall_mem_cons.mpr ⟨(wk_m1 233 rfl), List.forall_mem_cons.mpr ⟨(wk_m1 234 rfl), List.forall_mem_cons.mpr ⟨(wk_m1 48 rfl), List.forall_mem_cons.mpr ⟨(wk_m1 235 rfl), List.forall_mem_cons.mpr ⟨(wk_m1 236 rfl), List.forall_mem_cons.mpr ⟨(wk_m1 237 rfl), List.forall_mem_cons.mpr ⟨(wk_m1 238 rfl), List.forall_mem_cons.mpr ⟨(wk_m1 50 rfl), List.forall_mem_cons.mpr ⟨(wk_m1 239 rfl), List.forall_mem_cons.mpr ⟨(wk_m2 0 rfl), List.forall_mem_cons.mpr ⟨(wk_m2 1 rfl), List.forall_mem_cons.mpr ⟨(wk_m2 2 rfl), List.forall_mem_cons.mpr ⟨(wk_m2 7 rfl), List.forall_mem_cons.mpr ⟨(wk_m2 8 rfl), List.forall_mem_cons.mpr ⟨(wk_m2 9 rfl), List.forall_mem_cons.mpr ⟨(wk_m2 10 rfl), List.forall_mem_cons.mpr ⟨(wk_m2 11 rfl), List.forall_mem_cons.mpr ⟨(wk_m2 12 rfl), List.forall_mem_cons.mpr ⟨(wk_m2 13 rfl), List.forall_mem_cons.mpr ⟨(wk_m1 89 rfl), List.forall_mem_cons.mpr ⟨(wk_m2 14 rfl), List.forall_mem_cons.mpr ⟨(wk_m2 16 rfl), wk_mn⟩⟩⟩⟩⟩⟩⟩⟩⟩⟩⟩⟩⟩⟩⟩⟩⟩⟩⟩⟩⟩⟩⟩⟩
set_option maxRecDepth 20000 in
theorem wk_m_wsL_law_r9 : ∀ w ∈ wsL_law_r9, w ∈ lw_tbl := List.forall_mem_cons.mpr ⟨(wk_m0 0 rfl), List.forall_mem_cons.mpr ⟨(wk_m2 17 rfl), List.forall_mem_cons.mpr ⟨(wk_m2 18 rfl), List.forall_mem_cons.mpr ⟨(wk_m2 19 rfl), List.forall_mem_cons.mpr ⟨(wk_m2 20 rfl), List.forall_mem_cons.mpr ⟨(wk_m2 21 rfl), List.forall_mem_cons.mpr ⟨(wk_m2 29 rfl), List.forall_mem_cons.mpr ⟨(wk_m2 28 rfl), List.forall_mem_cons.mpr ⟨(wk_m2 27 rfl), List.forall_mem_cons.mpr ⟨(wk_m1 5 rfl), List.forall_mem_cons.mpr ⟨(wk_m2 22 rfl), List.forall_mem_cons.mpr ⟨(wk_m2 23 rfl), List.forall_mem_cons.mpr ⟨(wk_m2 24 rfl), List.forall_mem_cons.mpr ⟨(wk_m2 25 rfl), List.forall_mem_cons.mpr ⟨(wk_m2 26 rfl), List.forall_mem_cons.mpr ⟨(wk_m2 30 rfl), List.forall_mem_cons.mpr ⟨(wk_m2 31 rfl), List.forall_mem_cons.mpr ⟨(wk_m2 32 rfl), List.forall_mem_cons.mpr ⟨(wk_m2 33 rfl), List.forall_mem_cons.mpr ⟨(wk_m2 34 rfl), List.forall_mem_cons.mpr ⟨(wk_m2 36 rfl), List.forall_mem_cons.mpr ⟨(wk_m0 1 rfl), List.forall_mem_cons.mpr ⟨(wk_m2 37 rfl), List.forall_mem_cons.mpr ⟨(wk_m2 38 rfl), wk_mn⟩⟩⟩⟩⟩⟩⟩⟩⟩⟩⟩⟩⟩⟩⟩⟩⟩⟩⟩⟩⟩⟩⟩⟩
set_option maxRecDepth 20000 in
theorem wk_m_wsL_law_r10 : ∀ w ∈ wsL_law_r10, w ∈ lw_tbl := List.forall_mem_cons.mpr ⟨(wk_m2 40 rfl), List.forall_mem_cons.mpr ⟨(wk_m0 2 rfl), List.forall_mem_cons.mpr ⟨(wk_m2 41 rfl), List.forall_mem_cons.mpr ⟨(wk_m2 42 rfl), List.forall_mem_cons.mpr ⟨(wk_m2 43 rfl), List.forall_mem_cons.mpr ⟨(wk_m2 44 rfl), List.forall_mem_cons.mpr ⟨(wk_m2 45 rfl), List.forall_mem_cons.mpr ⟨(wk_m2 46 rfl), List.forall_mem_cons.mpr ⟨(wk_m2 47 rfl), List.forall_mem_cons.mpr ⟨(wk_m2 48 rfl), List.forall_mem_cons.mpr ⟨(wk_m2 49 rfl), List.forall_mem_cons.mpr ⟨(wk_m1 35 rfl), List.forall_mem_cons.mpr ⟨(wk_m2 50 rfl), List.forall_mem_cons.mpr ⟨(wk_m2 52 rfl), List.forall_mem_cons.mpr ⟨(wk_m2 53 rfl), List.forall_mem_cons.mpr ⟨(wk_m2 54 rfl), List.forall_mem_cons.mpr ⟨(wk_m2 55 rfl), List.forall_mem_cons.mpr ⟨(wk_m2 56 rfl), List.forall_mem_cons.mpr ⟨(wk_m2 57 rfl), List.forall_mem_cons.mpr ⟨(wk_m2 58 rfl), List.forall_mem_cons.mpr ⟨(wk_m2 59 rfl), List.forall_mem_cons.mpr ⟨(wk_m1 33 rfl), List.forall_mem_cons.mpr ⟨(wk_m2 60 rfl), List.forall_mem_cons.mpr ⟨(wk_m2 61 rfl), wk_mn⟩⟩⟩⟩⟩⟩⟩⟩⟩⟩⟩⟩⟩⟩⟩⟩⟩⟩⟩⟩⟩⟩⟩⟩
set_option maxRecDepth 20000 in
theorem wk_m_wsL_law_r11 : ∀ w ∈ wsL_law_r11, w ∈ lw_tbl := List.forall_mem_cons.mpr ⟨(wk_m2 62 rfl), List.forall_mem_cons.mpr ⟨(wk_m2 63 rfl), List.forall_mem_cons.mpr ⟨(wk_m2 64 rfl), List.forall_mem_cons.mpr ⟨(wk_m2 65 rfl), List.forall_mem_cons.mpr ⟨(wk_m2 66 rfl), List.forall_mem_cons.mpr ⟨(wk_m2 67 rfl), List.forall_mem_cons.mpr ⟨(wk_m2 68 rfl), List.forall_mem_cons.mpr ⟨(wk_m2 69 rfl), List.forall_mem_cons.mpr ⟨(wk_m2 70 rfl), List.forall_mem_cons.mpr ⟨(wk_m2 71 rfl), List.forall_mem_cons.mpr ⟨(wk_m2 72 rfl), List.forall_mem_cons.mpr ⟨(wk_m2 73 rfl), List.forall_mem_cons.mpr ⟨(wk_m2 74 rfl), List.forall_mem_cons.mpr ⟨(wk_m2 75 rfl), List.forall_mem_cons.mpr ⟨(wk_m2 76 rfl), List.forall_mem_cons.mpr ⟨(wk_m2 77 rfl), List.forall_mem_cons.mpr ⟨(wk_m2 78 rfl), List.forall_mem_cons.mpr ⟨(wk_m2 79 rfl), List.forall_mem_cons.mpr ⟨(wk_m2 80 rfl), List.forall_mem_cons.mpr ⟨(wk_m2 81 rfl), List.forall_mem_cons.mpr ⟨(wk_m2 82 rfl), List.forall_mem_cons.mpr ⟨(wk_m2 83 rfl), List.forall_mem_cons.mpr ⟨(wk_m2 84 rfl), List.forall_mem_cons.mpr ⟨(wk_m2 85 rfl), wk_mn⟩⟩⟩⟩⟩⟩⟩⟩⟩⟩⟩⟩⟩⟩⟩⟩⟩⟩⟩⟩⟩⟩⟩⟩
set_option maxRecDepth 20000 in
theorem wk_m_wsL_law_r12 : ∀ w ∈ wsL_law_r12, w ∈ lw_tbl := List.forall_mem_cons.mpr ⟨(wk_m2 86 rfl), List.forall_mem_cons.mpr ⟨(wk_m2 87 rfl), List.forall_mem_cons.mpr ⟨(wk_m1 39 rfl), List.forall_mem_cons.mpr ⟨(wk_m2 88 rfl), List.forall_mem_cons.mpr ⟨(wk_m2 89 rfl), List.forall_mem_cons.mpr ⟨(wk_m2 90 rfl), List.forall_mem_cons.mpr ⟨(wk_m2 91 rfl), List.forall_mem_cons.mpr ⟨(wk_m2 172 rfl), List.forall_mem_cons.mpr ⟨(wk_m2 3 rfl), List.forall_mem_cons.mpr ⟨(wk_m2 4 rfl), List.forall_mem_cons.mpr ⟨(wk_m2 5 rfl), List.forall_mem_cons.mpr ⟨(wk_m2 92 rfl), List.forall_mem_cons.mpr ⟨(wk_m2 93 rfl), List.forall_mem_cons.mpr ⟨(wk_m2 94 rfl), List.forall_mem_cons.mpr ⟨(wk_m2 95 rfl), List.forall_mem_cons.mpr ⟨(wk_m2 96 rfl), List.forall_mem_cons.mpr ⟨(wk_m2 97 rfl), List.forall_mem_cons.mpr ⟨(wk_m2 98 rfl), List.forall_mem_cons.mpr ⟨(wk_m2 99 rfl), List.forall_mem_cons.mpr ⟨(wk_m2 100 rfl), List.forall_mem_cons.mpr ⟨(wk_m2 101 rfl), List.forall_mem_cons.mpr ⟨(wk_m2 102 rfl), List.forall_mem_cons.mpr ⟨(wk_m2 103 rfl), List.forall_mem_cons.mpr ⟨(wk_m2 104 rfl), wk_mn⟩⟩⟩⟩⟩⟩⟩⟩⟩⟩⟩⟩⟩⟩⟩⟩⟩⟩⟩⟩⟩⟩⟩⟩
set_option maxRecDepth 20000 in
theorem wk_m_wsL_law_r13 : ∀ w ∈ wsL_law_r13, w ∈ lw_tbl := List.forall_mem_cons.mpr ⟨(wk_m2 105 rfl), List.forall_mem_cons.mpr ⟨(wk_m2 106 rfl), List.forall_mem_cons.mpr ⟨(wk_m2 107 rfl), List.forall_mem_cons.mpr ⟨(wk_m2 108 rfl), List.forall_mem_cons.mpr ⟨(wk_m2 109 rfl), List.forall_mem_cons.mpr ⟨(wk_m2 110 rfl), List.forall_mem_cons.mpr ⟨(wk_m2 111 rfl), List.forall_mem_cons.mpr ⟨(wk_m2 112 rfl), List.forall_mem_cons.mpr ⟨(wk_m2 113 rfl), List.forall_mem_cons.mpr ⟨(wk_m2 114 rfl), List.forall_mem_cons.mpr ⟨(wk_m2 115 rfl), List.forall_mem_cons.mpr ⟨(wk_m2 116 rfl), List.forall_mem_cons.mpr ⟨(wk_m2 117 rfl), List.forall_mem_cons.mpr ⟨(wk_m2 118 rfl), List.forall_mem_cons.mpr ⟨(wk_m2 119 rfl), List.forall_mem_cons.mpr ⟨(wk_m2 120 rfl), List.forall_mem_cons.mpr ⟨(wk_m2 121 rfl), List.forall_mem_cons.mpr ⟨(wk_m2 122 rfl), List.forall_mem_cons.mpr ⟨(wk_m2 123 rfl), List.forall_mem_cons.mpr ⟨(wk_m2 124 rfl), List.forall_mem_cons.mpr ⟨(wk_m2 125 rfl), List.forall_mem_cons.mpr ⟨(wk_m2 126 rfl), List.forall_mem_cons.mpr ⟨(wk_m2 127 rfl), List.forall_mem_cons.mpr ⟨(wk_m2 128 rfl), wk_mn⟩⟩⟩⟩⟩⟩⟩⟩⟩⟩⟩⟩⟩⟩⟩⟩⟩⟩⟩⟩⟩⟩⟩⟩
set_option maxRecDepth 20000 in
theorem wk_m_wsL_law_r14 : ∀ w ∈ wsL_law_r14, w ∈ lw_tbl := List.forall_mem_cons.mpr ⟨(wk_m2 129 rfl), List.forall_mem_cons.mpr ⟨(wk_m2 130 rfl), List.forall_mem_cons.mpr ⟨(wk_m2 131 rfl), List.forall_mem_cons.mpr ⟨(wk_m2 132 rfl), List.forall_mem_cons.mpr ⟨(wk_m2 133 rfl), List.forall_mem_cons.mpr ⟨(wk_m2 134 rfl), List.forall_mem_cons.mpr ⟨(wk_m2 135 rfl), List.forall_mem_cons.mpr ⟨(wk_m2 136 rfl), List.forall_mem_cons.mpr ⟨(wk_m2 137 rfl), List.forall_mem_cons.mpr ⟨(wk_m2 138 rfl), List.forall_mem_cons.mpr ⟨(wk_m2 139 rfl), List.forall_mem_cons.mpr ⟨(wk_m2 140 rfl), List.forall_mem_cons.mpr ⟨(wk_m2 141 rfl), List.forall_mem_cons.mpr ⟨(wk_m2 142 rfl), List.forall_mem_cons.mpr ⟨(wk_m2 143 rfl), List.forall_mem_cons.mpr ⟨(wk_m2 144 rfl), List.forall_mem_cons.mpr ⟨(wk_m2 145 rfl), List.forall_mem_cons.mpr ⟨(wk_m2 146 rfl), List.forall_mem_cons.mpr ⟨(wk_m2 147 rfl), List.forall_mem_cons.mpr ⟨(wk_m2 148 rfl), List.forall_mem_cons.mpr ⟨(wk_m2 149 rfl), List.forall_mem_cons.mpr ⟨(wk_m2 150 rfl), List.forall_mem_cons.mpr ⟨(wk_m2 151 rfl), List.forall_mem_cons.mpr ⟨(wk_m2 152 rfl), wk_mn⟩⟩⟩⟩⟩⟩⟩⟩⟩⟩⟩⟩⟩⟩⟩⟩⟩⟩⟩⟩⟩⟩⟩⟩
set_option maxRecDepth 20000 in
theorem wk_m_wsL_law_r15 : ∀ w ∈ wsL_law_r15, w ∈ lw_tbl := List.forall_mem_cons.mpr ⟨(wk_m2 153 rfl), List.forall_mem_cons.mpr ⟨(wk_m2 154 rfl), List.forall_mem_cons.mpr ⟨(wk_m2 155 rfl), List.forall_mem_cons.mpr ⟨(wk_m1 46 rfl), List.forall_mem_cons.mpr ⟨(wk_m2 156 rfl), List.forall_mem_cons.mpr ⟨(wk_m2 157 rfl), List.forall_mem_cons.mpr ⟨(wk_m2 158 rfl), List.forall_mem_cons.mpr ⟨(wk_m2 159 rfl), List.forall_mem_cons.mpr ⟨(wk_m2 160 rfl), List.forall_mem_cons.mpr ⟨(wk_m2 161 rfl), List.forall_mem_cons.mpr ⟨(wk_m2 162 rfl), List.forall_mem_cons.mpr ⟨(wk_m2 173 rfl), List.forall_mem_cons.mpr ⟨(wk_m2 174 rfl), List.forall_mem_cons.mpr ⟨(wk_m2 175 rfl), List.forall_mem_cons.mpr ⟨(wk_m2 176 rfl), List.forall_mem_cons.mpr ⟨(wk_m2 177 rfl), List.forall_mem_cons.mpr ⟨(wk_m2 178 rfl), List.forall_mem_cons.mpr ⟨(wk_m2 179 rfl), List.forall_mem_cons.mpr ⟨(wk_m2 180 rfl), List.forall_mem_cons.mpr ⟨(wk_m2 181 rfl), List.forall_mem_cons.mpr ⟨(wk_m2 182 rfl), List.forall_mem_cons.mpr ⟨(wk_m2 183 rfl), List.forall_mem_cons.mpr ⟨(wk_m2 184 rfl), List.forall_mem_cons.mpr ⟨(wk_m2 185 rfl), wk_mn⟩⟩⟩⟩⟩⟩⟩⟩⟩⟩⟩⟩⟩⟩⟩⟩⟩⟩⟩⟩⟩⟩⟩⟩
set_option maxRecDepth 20000 in
theorem wk_m_wsL_law_r16 : ∀ w ∈ wsL_law_r16, w ∈ lw_tbl := List.forall_mem_cons.mpr ⟨(wk_m2 186 rfl), List.forall_mem_cons.mpr ⟨(wk_m2 187 rfl), List.forall_mem_cons.mpr ⟨(wk_m2 188 rfl), List.forall_mem_cons.mpr ⟨(wk_m2 189 rfl), List.forall_mem_cons.mpr ⟨(wk_m2 190 rfl), List.forall_mem_cons.mpr ⟨(wk_m2 191 rfl), List.forall_mem_cons.mpr ⟨(wk_m2 192 rfl), List.forall_mem_cons.mpr ⟨(wk_m2 193 rfl), List.forall_mem_cons.mpr ⟨(wk_m2 194 rfl), List.forall_mem_cons.mpr ⟨(wk_m2 195 rfl), List.forall_mem_cons.mpr ⟨(wk_m2 196 rfl), List.forall_mem_cons.mpr ⟨(wk_m2 197 rfl), List.forall_mem_cons.mpr ⟨(wk_m2 198 rfl), List.forall_mem_cons.mpr ⟨(wk_m2 199 rfl), List.forall_mem_cons.mpr ⟨(wk_m2 200 rfl), List.forall_mem_cons.mpr ⟨(wk_m2 201 rfl), List.forall_mem_cons.mpr ⟨(wk_m2 202 rfl), List.forall_mem_cons.mpr ⟨(wk_m2 203 rfl), List.forall_mem_cons.mpr ⟨(wk_m2 204 rfl), List.forall_mem_cons.mpr ⟨(wk_m2 205 rfl), List.forall_mem_cons.mpr ⟨(wk_m2 206 rfl), List.forall_mem_cons.mpr ⟨(wk_m2 207 rfl), List.forall_mem_cons.mpr ⟨(wk_m2 208 rfl), List.forall_mem_cons.mpr ⟨(wk_m2 209 rfl), wk_mn⟩⟩⟩⟩⟩⟩⟩⟩⟩⟩⟩⟩⟩⟩⟩⟩⟩⟩⟩⟩⟩⟩⟩⟩
set_option maxRecDepth 20000 in
theorem wk_m_wsL_law_r17 : ∀ w ∈ wsL_law_r17, w ∈ lw_tbl := List.forall_mem_cons.mpr ⟨(wk_m2 210 rfl), List.forall_mem_cons.mpr ⟨(wk_m2 211 rfl), List.forall_mem_cons.mpr ⟨(wk_m2 212 rfl), List.forall_mem_cons.mpr ⟨(wk_m2 213 rfl), List.forall_mem_cons.mpr ⟨(wk_m2 214 rfl), List.forall_mem_cons.mpr ⟨(wk_m2 215 rfl), List.forall_mem_cons.mpr ⟨(wk_m2 216 rfl), List.forall_mem_cons.mpr ⟨(wk_m2 217 rfl), wk_mn⟩⟩⟩⟩⟩⟩⟩⟩
set_option maxRecDepth 20000 in
theorem wk_m_wsX30 : ∀ w ∈ wsX30, w ∈ lw_tbl := List.forall_mem_cons.mpr ⟨(wk_m1 152 rfl), List.forall_mem_cons.mpr ⟨(wk_m1 154 rfl), List.forall_mem_cons.mpr ⟨(wk_m1 156 rfl), List.forall_mem_cons.mpr ⟨(wk_m1 158 rfl), List.forall_mem_cons.mpr ⟨(wk_m1 160 rfl), wk_mn⟩⟩⟩⟩⟩
set_option maxRecDepth 20000 in
theorem wk_m_wsX00 : ∀ w ∈ wsX00, w ∈ lw_tbl := List.forall_mem_cons.mpr ⟨(wk_m1 100 rfl), List.forall_mem_cons.mpr ⟨(wk_m1 102 rfl), List.forall_mem_cons.mpr ⟨(wk_m1 104 rfl), List.forall_mem_cons.mpr ⟨(wk_m1 106 rfl), List.forall_mem_cons.mpr ⟨(wk_m1 108 rfl), List.forall_mem_cons.mpr ⟨(wk_m1 110 rfl), List.forall_mem_cons.mpr ⟨(wk_m1 112 rfl), List.forall_mem_cons.mpr ⟨(wk_m1 114 rfl), wk_mn⟩⟩⟩⟩⟩⟩⟩⟩
set_option maxRecDepth 20000 in
theorem wk_m_wsX10 : ∀ w ∈ wsX10, w ∈ lw_tbl := List.forall_mem_cons.mpr ⟨(wk_m1 127 rfl), List.forall_mem_cons.mpr ⟨(wk_m1 129 rfl), List.forall_mem_cons.mpr ⟨(wk_m1 131 rfl), List.forall_mem_cons.mpr ⟨(wk_m1 133 rfl), List.forall_mem_cons.mpr ⟨(wk_m1 135 rfl), List.forall_mem_cons.mpr ⟨(wk_m1 137 rfl), List.forall_mem_cons.mpr ⟨(wk_m1 139 rfl), List.forall_mem_cons.mpr ⟨(wk_m1 141 rfl), List.forall_mem_cons.mpr ⟨(wk_m1 143 rfl), wk_mn⟩⟩⟩⟩⟩⟩⟩⟩⟩
set_option maxRecDepth 20000 in
theorem wk_m_wsX20 : ∀ w ∈ wsX20, w ∈ lw_tbl := List.forall_mem_cons.mpr ⟨(wk_m1 54 rfl), List.forall_mem_cons.mpr ⟨(wk_m1 56 rfl), List.forall_mem_cons.mpr ⟨(wk_m1 58 rfl), List.forall_mem_cons.mpr ⟨(wk_m1 60 rfl), List.forall_mem_cons.mpr ⟨(wk_m1 62 rfl), List.forall_mem_cons.mpr ⟨(wk_m1 64 rfl), List.forall_mem_cons.mpr ⟨(wk_m1 66 rfl), List.forall_mem_cons.mpr ⟨(wk_m1 68 rfl), List.forall_mem_cons.mpr ⟨(wk_m1 70 rfl), List.forall_mem_cons.mpr ⟨(wk_m1 72 rfl), List.forall_mem_cons.mpr ⟨(wk_m1 74 rfl), List.forall_mem_cons.mpr ⟨(wk_m1 76 rfl), List.forall_mem_cons.mpr ⟨(wk_m1 78 rfl), List.forall_mem_cons.mpr ⟨(wk_m1 80 rfl), List.forall_mem_cons.mpr ⟨(wk_m1 82 rfl), wk_mn⟩⟩⟩⟩⟩⟩⟩⟩⟩⟩⟩⟩⟩⟩⟩
theorem wsL_law_in : ∀ w ∈ wsL_law, w ∈ lw_tbl := (wk_ma (wk_ma (wk_ma (wk_ma (wk_ma (wk_ma wk_m_wsL_law_r1 (wk_ma wk_m_wsL_law_r2 (wk_ma wk_m_wsL_law_r3 (wk_ma wk_m_wsL_law_r4 (wk_ma wk_m_wsL_law_r5 (wk_ma wk_m_wsL_law_r6 (wk_ma wk_m_wsL_law_r7 (wk_ma wk_m_wsL_law_r8 (wk_ma wk_m_wsL_law_r9 (wk_ma wk_m_wsL_law_r10 (wk_ma wk_m_wsL_law_r11 (wk_ma wk_m_wsL_law_r12 (wk_ma wk_m_wsL_law_r13 (wk_ma wk_m_wsL_law_r14 (wk_ma wk_m_wsL_law_r15 (wk_ma wk_m_wsL_law_r16 wk_m_wsL_law_r17)))))))))))))))) wk_m_wsX30) wk_m_wsX00) wk_m_wsX10) wk_m_wsX20) wk_mn)
theorem inlX0 : ∀ w ∈ wsX00, w ∈ wsL_law := fun _ h => List.mem_append_left _ (List.mem_append_left _ (List.mem_append_left _ (List.mem_append_right _ h)))
theorem inX0 : ∀ w ∈ wsX00, w ∈ lw_tbl := fun w h => wsL_law_in w (inlX0 w h)
theorem inlX1 : ∀ w ∈ wsX10, w ∈ wsL_law := fun _ h => List.mem_append_left _ (List.mem_append_left _ (List.mem_append_right _ h))
theorem inX1 : ∀ w ∈ wsX10, w ∈ lw_tbl := fun w h => wsL_law_in w (inlX1 w h)
theorem inlX2 : ∀ w ∈ wsX20, w ∈ wsL_law := fun _ h => List.mem_append_left _ (List.mem_append_right _ h)
theorem inX2 : ∀ w ∈ wsX20, w ∈ lw_tbl := fun w h => wsL_law_in w (inlX2 w h)
theorem inlX3 : ∀ w ∈ wsX30, w ∈ wsL_law := fun _ h => List.mem_append_left _ (List.mem_append_left _ (List.mem_append_left _ (List.mem_append_left _ (List.mem_append_right _ h))))
theorem inX3 : ∀ w ∈ wsX30, w ∈ lw_tbl := fun w h => wsL_law_in w (inlX3 w h)
end
section
set_option maxRecDepth 20000 in
theorem ggX0_init_X2_init : GoodIn wsX0_init wsX2_init := goodIn_r _ [14, 15, 2, 3, 6, 16, 17, 26, 27, 28, 29, 30, 31, 32, 33, 34, 35, 36, 37, 38, 39, 40] (by decide +kernel) (by decide +kernel)
set_option maxRecDepth 20000 in
theorem gX0_init_X2_init_n30 : GoodIn wsX0_init (wsX2_init) := ggX0_init_X2_init
theorem dX0_init_0 : decode cX0_init 0 = .ok (.aload_n 0, 1) := by decide +kernel
theorem dX0_init_1 : decode cX0_init 1 = .ok (.invokespecial 3, 3) := by decide +kernel
theorem dX0_init_4 : decode cX0_init 4 = .ok (.aload_n 0, 1) := by decide +kernel
theorem dX0_init_5 : decode cX0_init 5 = .ok (.bipush 8, 2) := by decide +kernel
theorem dX0_init_7 : decode cX0_init 7 = .ok (.anewarray 9, 3) := by decide +kernel
theorem dX0_init_10 : decode cX0_init 10 = .ok (.putfield 11, 3) := by decide +kernel
theorem dX0_init_13 : decode cX0_init 13 = .ok (.aload_n 0, 1) := by decide +kernel
theorem dX0_init_14 : decode cX0_init 14 = .ok (.iconst 2, 1) := by decide +kernel
theorem dX0_init_15 : decode cX0_init 15 = .ok (.newarray .int, 2) := by decide +kernel
theorem dX0_init_17 : decode cX0_init 17 = .ok (.putfield 17, 3) := by decide +kernel
theorem dX0_init_20 : decode cX0_init 20 = .ok (.aload_n 0, 1) := by decide +kernel
theorem dX0_init_21 : decode cX0_init 21 = .ok (.bipush 12, 2) := by decide +kernel
theorem dX0_init_23 : decode cX0_init 23 = .ok (.newarray .int, 2) := by decide +kernel
theorem dX0_init_25 : decode cX0_init 25 = .ok (.putfield 21, 3) := by decide +kernel
theorem dX0_init_28 : decode cX0_init 28 = .ok (.aload_n 0, 1) := by decide +kernel
theorem dX0_init_29 : decode cX0_init 29 = .ok (.bipush 12, 2) := by decide +kernel
theorem dX0_init_31 : decode cX0_init 31 = .ok (.newarray .int, 2) := by decide +kernel
theorem dX0_init_33 : decode cX0_init 33 = .ok (.putfield 24, 3) := by decide +kernel
theorem dX0_init_36 : decode cX0_init 36 = .ok (.aload_n 0, 1) := by decide +kernel
theorem dX0_init_37 : decode cX0_init 37 = .ok (.bipush 12, 2) := by decide +kernel
theorem dX0_init_39 : decode cX0_init 39 = .ok (.newarray .int, 2) := by decide +kernel
theorem dX0_init_41 : decode cX0_init 41 = .ok (.putfield 27, 3) := by decide +kernel
theorem dX0_init_44 : decode cX0_init 44 = .ok (.iconst 0, 1) := by decide +kernel
theorem dX0_init_45 : decode cX0_init 45 = .ok (.istore_n 1, 1) := by decide +kernel
theorem dX0_init_46 : decode cX0_init 46 = .ok (.iload_n 1, 1) := by decide +kernel
theorem dX0_init_47 : decode cX0_init 47 = .ok (.bipush 8, 2) := by decide +kernel
theorem dX0_init_49 : decode cX0_init 49 = .ok (.if_icmp .ge 22, 3) := by decide +kernel
theorem dX0_init_52 : decode cX0_init 52 = .ok (.aload_n 0, 1) := by decide +kernel
theorem dX0_init_53 : decode cX0_init 53 = .ok (.getfield 11, 3) := by decide +kernel
theorem dX0_init_56 : decode cX0_init 56 = .ok (.iload_n 1, 1) := by decide +kernel
theorem dX0_init_57 : decode cX0_init 57 = .ok (.new 9, 3) := by decide +kernel
theorem dX0_init_60 : decode cX0_init 60 = .ok (.dup, 1) := by decide +kernel
theorem dX0_init_61 : decode cX0_init 61 = .ok (.invokespecial 30, 3) := by decide +kernel
theorem dX0_init_64 : decode cX0_init 64 = .ok (.aastore, 1) := by decide +kernel
theorem dX0_init_65 : decode cX0_init 65 = .ok (.iinc 1 1, 3) := by decide +kernel
theorem dX0_init_68 : decode cX0_init 68 = .ok (.goto (-22), 3) := by decide +kernel
theorem dX0_init_71 : decode cX0_init 71 = .ok (.iconst 0, 1) := by decide +kernel
theorem dX0_init_72 : decode cX0_init 72 = .ok (.istore_n 1, 1) := by decide +kernel
theorem dX0_init_73 : decode cX0_init 73 = .ok (.iload_n 1, 1) := by decide +kernel
theorem dX0_init_74 : decode cX0_init 74 = .ok (.iconst 2, 1) := by decide +kernel
theorem dX0_init_75 : decode cX0_init 75 = .ok (.if_icmp .ge 16, 3) := by decide +kernel
theorem dX0_init_78 : decode cX0_init 78 = .ok (.aload_n 0, 1) := by decide +kernel
theorem dX0_init_79 : decode cX0_init 79 = .ok (.getfield 17, 3) := by decide +kernel
theorem dX0_init_82 : decode cX0_init 82 = .ok (.iload_n 1, 1) := by decide +kernel
theorem dX0_init_83 : decode cX0_init 83 = .ok (.iconst 2, 1) := by decide +kernel
theorem dX0_init_84 : decode cX0_init 84 = .ok (.iastore, 1) := by decide +kernel
theorem dX0_init_85 : decode cX0_init 85 = .ok (.iinc 1 1, 3) := by decide +kernel
theorem dX0_init_88 : decode cX0_init 88 = .ok (.goto (-15), 3) := by decide +kernel
theorem dX0_init_91 : decode cX0_init 91 = .ok (.return_, 1) := by decide +kernel
set_option maxRecDepth 20000 in
theorem ggX0_copyFrom_X2_copyFrom : GoodIn wsX0_copyFrom wsX2_copyFrom := goodIn_r _ [17, 18, 19, 5, 6, 7, 20, 21, 22, 23, 24, 25, 26, 27, 28, 29, 30, 31, 32, 33, 42, 43, 44, 45, 46, 47, 48, 49, 50, 51, 52, 53, 54, 55, 56] (by decide +kernel) (by decide +kernel)
set_option maxRecDepth 20000 in
theorem gX0_copyFrom_X2_copyFrom : GoodIn wsX0_copyFrom (wsV RX0 35 RX2 yX2_copyFrom wsX2_copyFrom) := goodIn_app (goodIn_of _ (by decide +kernel)) ggX0_copyFrom_X2_copyFrom
theorem dX0_copyFrom_0 : decode cX0_copyFrom 0 = .ok (.iconst 0, 1) := by decide +kernel
theorem dX0_copyFrom_1 : decode cX0_copyFrom 1 = .ok (.istore_n 2, 1) := by decide +kernel
theorem dX0_copyFrom_2 : decode cX0_copyFrom 2 = .ok (.iload_n 2, 1) := by decide +kernel
theorem dX0_copyFrom_3 : decode cX0_copyFrom 3 = .ok (.aload_n 1, 1) := by decide +kernel
theorem dX0_copyFrom_4 : decode cX0_copyFrom 4 = .ok (.getfield 31, 3) := by decide +kernel
theorem dX0_copyFrom_7 : decode cX0_copyFrom 7 = .ok (.if_icmp .ge 24, 3) := by decide +kernel
theorem dX0_copyFrom_10 : decode cX0_copyFrom 10 = .ok (.aload_n 0, 1) := by decide +kernel
theorem dX0_copyFrom_11 : decode cX0_copyFrom 11 = .ok (.getfield 11, 3) := by decide +kernel
theorem dX0_copyFrom_14 : decode cX0_copyFrom 14 = .ok (.iload_n 2, 1) := by decide +kernel
theorem dX0_copyFrom_15 : decode cX0_copyFrom 15 = .ok (.aaload, 1) := by decide +kernel
theorem dX0_copyFrom_16 : decode cX0_copyFrom 16 = .ok (.aload_n 1, 1) := by decide +kernel
theorem dX0_copyFrom_17 : decode cX0_copyFrom 17 = .ok (.getfield 11, 3) := by decide +kernel
theorem dX0_copyFrom_20 : decode cX0_copyFrom 20 = .ok (.iload_n 2, 1) := by decide +kernel
theorem dX0_copyFrom_21 : decode cX0_copyFrom 21 = .ok (.aaload, 1) := by decide +kernel
theorem dX0_copyFrom_22 : decode cX0_copyFrom 22 = .ok (.invokevirtual 35, 3) := by decide +kernel
theorem dX0_copyFrom_25 : decode cX0_copyFrom 25 = .ok (.iinc 2 1, 3) := by decide +kernel
theorem dX0_copyFrom_28 : decode cX0_copyFrom 28 = .ok (.goto (-26), 3) := by decide +kernel
theorem dX0_copyFrom_31 : decode cX0_copyFrom 31 = .ok (.aload_n 0, 1) := by decide +kernel
theorem dX0_copyFrom_32 : decode cX0_copyFrom 32 = .ok (.aload_n 1, 1) := by decide +kernel
theorem dX0_copyFrom_33 : decode cX0_copyFrom 33 = .ok (.getfield 31, 3) := by decide +kernel
theorem dX0_copyFrom_36 : decode cX0_copyFrom 36 = .ok (.putfield 31, 3) := by decide +kernel
theorem dX0_copyFrom_39 : decode cX0_copyFrom 39 = .ok (.aload_n 1, 1) := by decide +kernel
theorem dX0_copyFrom_40 : decode cX0_copyFrom 40 = .ok (.getfield 17, 3) := by decide +kernel
theorem dX0_copyFrom_43 : decode cX0_copyFrom 43 = .ok (.iconst 0, 1) := by decide +kernel
theorem dX0_copyFrom_44 : decode cX0_copyFrom 44 = .ok (.aload_n 0, 1) := by decide +kernel
theorem dX0_copyFrom_45 : decode cX0_copyFrom 45 = .ok (.getfield 17, 3) := by decide +kernel
theorem dX0_copyFrom_48 : decode cX0_copyFrom 48 = .ok (.iconst 0, 1) := by decide +kernel
theorem dX0_copyFrom_49 : decode cX0_copyFrom 49 = .ok (.iconst 2, 1) := by decide +kernel
theorem dX0_copyFrom_50 : decode cX0_copyFrom 50 = .ok (.invokestatic 39, 3) := by decide +kernel
theorem dX0_copyFrom_53 : decode cX0_copyFrom 53 = .ok (.aload_n 1, 1) := by decide +kernel
theorem dX0_copyFrom_54 : decode cX0_copyFrom 54 = .ok (.getfield 21, 3) := by decide +kernel
theorem dX0_copyFrom_57 : decode cX0_copyFrom 57 = .ok (.iconst 0, 1) := by decide +kernel
theorem dX0_copyFrom_58 : decode cX0_copyFrom 58 = .ok (.aload_n 0, 1) := by decide +kernel
theorem dX0_copyFrom_59 : decode cX0_copyFrom 59 = .ok (.getfield 21, 3) := by decide +kernel
theorem dX0_copyFrom_62 : decode cX0_copyFrom 62 = .ok (.iconst 0, 1) := by decide +kernel
theorem dX0_copyFrom_63 : decode cX0_copyFrom 63 = .ok (.bipush 12, 2) := by decide +kernel
theorem dX0_copyFrom_65 : decode cX0_copyFrom 65 = .ok (.invokestatic 39, 3) := by decide +kernel
theorem dX0_copyFrom_68 : decode cX0_copyFrom 68 = .ok (.aload_n 1, 1) := by decide +kernel
theorem dX0_copyFrom_69 : decode cX0_copyFrom 69 = .ok (.getfield 24, 3) := by decide +kernel
theorem dX0_copyFrom_72 : decode cX0_copyFrom 72 = .ok (.iconst 0, 1) := by decide +kernel
theorem dX0_copyFrom_73 : decode cX0_copyFrom 73 = .ok (.aload_n 0, 1) := by decide +kernel
theorem dX0_copyFrom_74 : decode cX0_copyFrom 74 = .ok (.getfield 24, 3) := by decide +kernel
theorem dX0_copyFrom_77 : decode cX0_copyFrom 77 = .ok (.iconst 0, 1) := by decide +kernel
theorem dX0_copyFrom_78 : decode cX0_copyFrom 78 = .ok (.bipush 12, 2) := by decide +kernel
theorem dX0_copyFrom_80 : decode cX0_copyFrom 80 = .ok (.invokestatic 39, 3) := by decide +kernel
theorem dX0_copyFrom_83 : decode cX0_copyFrom 83 = .ok (.aload_n 1, 1) := by decide +kernel
theorem dX0_copyFrom_84 : decode cX0_copyFrom 84 = .ok (.getfield 27, 3) := by decide +kernel
theorem dX0_copyFrom_87 : decode cX0_copyFrom 87 = .ok (.iconst 0, 1) := by decide +kernel
theorem dX0_copyFrom_88 : decode cX0_copyFrom 88 = .ok (.aload_n 0, 1) := by decide +kernel
theorem dX0_copyFrom_89 : decode cX0_copyFrom 89 = .ok (.getfield 27, 3) := by decide +kernel
theorem dX0_copyFrom_92 : decode cX0_copyFrom 92 = .ok (.iconst 0, 1) := by decide +kernel
theorem dX0_copyFrom_93 : decode cX0_copyFrom 93 = .ok (.bipush 12, 2) := by decide +kernel
theorem dX0_copyFrom_95 : decode cX0_copyFrom 95 = .ok (.invokestatic 39, 3) := by decide +kernel
theorem dX0_copyFrom_98 : decode cX0_copyFrom 98 = .ok (.aload_n 0, 1) := by decide +kernel
theorem dX0_copyFrom_99 : decode cX0_copyFrom 99 = .ok (.aload_n 1, 1) := by decide +kernel
theorem dX0_copyFrom_100 : decode cX0_copyFrom 100 = .ok (.getfield 45, 3) := by decide +kernel
theorem dX0_copyFrom_103 : decode cX0_copyFrom 103 = .ok (.putfield 45, 3) := by decide +kernel
theorem dX0_copyFrom_106 : decode cX0_copyFrom 106 = .ok (.aload_n 0, 1) := by decide +kernel
theorem dX0_copyFrom_107 : decode cX0_copyFrom 107 = .ok (.aload_n 1, 1) := by decide +kernel
theorem dX0_copyFrom_108 : decode cX0_copyFrom 108 = .ok (.getfield 48, 3) := by decide +kernel
theorem dX0_copyFrom_111 : decode cX0_copyFrom 111 = .ok (.putfield 48, 3) := by decide +kernel
theorem dX0_copyFrom_114 : decode cX0_copyFrom 114 = .ok (.return_, 1) := by decide +kernel
theorem dX0_hasRoom_0 : decode cX0_hasRoom 0 = .ok (.iload_n 1, 1) := by decide +kernel
theorem dX0_hasRoom_1 : decode cX0_hasRoom 1 = .ok (.ifCond .lt 15, 3) := by decide +kernel
theorem dX0_hasRoom_4 : decode cX0_hasRoom 4 = .ok (.iload_n 1, 1) := by decide +kernel
theorem dX0_hasRoom_5 : decode cX0_hasRoom 5 = .ok (.aload_n 0, 1) := by decide +kernel
theorem dX0_hasRoom_6 : decode cX0_hasRoom 6 = .ok (.getfield 31, 3) := by decide +kernel
theorem dX0_hasRoom_9 : decode cX0_hasRoom 9 = .ok (.if_icmp .ge 7, 3) := by decide +kernel
theorem dX0_hasRoom_12 : decode cX0_hasRoom 12 = .ok (.iconst 1, 1) := by decide +kernel
theorem dX0_hasRoom_13 : decode cX0_hasRoom 13 = .ok (.goto 4, 3) := by decide +kernel
theorem dX0_hasRoom_16 : decode cX0_hasRoom 16 = .ok (.iconst 0, 1) := by decide +kernel
theorem dX0_hasRoom_17 : decode cX0_hasRoom 17 = .ok (.ireturn, 1) := by decide +kernel
theorem dX0_hasUse_0 : decode cX0_hasUse 0 = .ok (.iload_n 1, 1) := by decide +kernel
theorem dX0_hasUse_1 : decode cX0_hasUse 1 = .ok (.ifCond .lt 15, 3) := by decide +kernel
theorem dX0_hasUse_4 : decode cX0_hasUse 4 = .ok (.iload_n 1, 1) := by decide +kernel
theorem dX0_hasUse_5 : decode cX0_hasUse 5 = .ok (.aload_n 0, 1) := by decide +kernel
theorem dX0_hasUse_6 : decode cX0_hasUse 6 = .ok (.getfield 45, 3) := by decide +kernel
theorem dX0_hasUse_9 : decode cX0_hasUse 9 = .ok (.if_icmp .ge 7, 3) := by decide +kernel
theorem dX0_hasUse_12 : decode cX0_hasUse 12 = .ok (.iconst 1, 1) := by decide +kernel
theorem dX0_hasUse_13 : decode cX0_hasUse 13 = .ok (.goto 4, 3) := by decide +kernel
theorem dX0_hasUse_16 : decode cX0_hasUse 16 = .ok (.iconst 0, 1) := by decide +kernel
theorem dX0_hasUse_17 : decode cX0_hasUse 17 = .ok (.ireturn, 1) := by decide +kernel
set_option maxRecDepth 20000 in
theorem ggX0_tell_X0_roomsIn : GoodIn wsX0_tell wsX0_roomsIn := goodIn_r _ [8, 1, 9, 10, 31, 32, 33, 34, 35, 36, 37, 38, 39, 40, 41, 42, 43, 44, 45, 46, 47, 48, 49, 50, 51, 52, 53] (by decide +kernel) (by decide +kernel)
set_option maxRecDepth 20000 in
theorem gX0_tell_X0_roomsIn : GoodIn wsX0_tell (wsV RX0 51 RX0 yX0_roomsIn wsX0_roomsIn) := goodIn_app (goodIn_of _ (by decide +kernel)) ggX0_tell_X0_roomsIn
set_option maxRecDepth 20000 in
theorem ggX0_tell_X0_paidInAll : GoodIn wsX0_tell wsX0_paidInAll := goodIn_r _ [14, 1, 9, 15, 16, 17, 18, 19, 20, 31, 32, 33, 34, 35, 36, 37, 38, 39, 40, 41, 42, 43, 44, 45, 46, 47, 48, 49, 50, 51, 52, 53] (by decide +kernel) (by decide +kernel)
set_option maxRecDepth 20000 in
theorem gX0_tell_X0_paidInAll : GoodIn wsX0_tell (wsV RX0 55 RX0 yX0_paidInAll wsX0_paidInAll) := goodIn_app (goodIn_of _ (by decide +kernel)) ggX0_tell_X0_paidInAll
set_option maxRecDepth 20000 in
theorem ggX0_tell_X0_begunInAll : GoodIn wsX0_tell wsX0_begunInAll := goodIn_r _ [24, 1, 9, 25, 31, 32, 33, 34, 35, 36, 37, 38, 39, 40, 41, 42, 43, 44, 45, 46, 47, 48, 49, 50, 51, 52, 53] (by decide +kernel) (by decide +kernel)
set_option maxRecDepth 20000 in
theorem gX0_tell_X0_begunInAll : GoodIn wsX0_tell (wsV RX0 59 RX0 yX0_begunInAll wsX0_begunInAll) := goodIn_app (goodIn_of _ (by decide +kernel)) ggX0_tell_X0_begunInAll
set_option maxRecDepth 20000 in
theorem ggX0_tell_X0_lateInAll : GoodIn wsX0_tell wsX0_lateInAll := goodIn_r _ [29, 1, 9, 30, 31, 32, 33, 34, 35, 36, 37, 38, 39, 40, 41, 42, 43, 44, 45, 46, 47, 48, 49, 50, 51, 52, 53] (by decide +kernel) (by decide +kernel)
set_option maxRecDepth 20000 in
theorem gX0_tell_X0_lateInAll : GoodIn wsX0_tell (wsV RX0 62 RX0 yX0_lateInAll wsX0_lateInAll) := goodIn_app (goodIn_of _ (by decide +kernel)) ggX0_tell_X0_lateInAll
theorem dX0_tell_0 : decode cX0_tell 0 = .ok (.iload_n 1, 1) := by decide +kernel
theorem dX0_tell_1 : decode cX0_tell 1 = .ok (.tableswitch 100 0 8 #[51, 56, 61, 66, 72, 78, 84, 90, 95], 51) := by decide +kernel
theorem dX0_tell_52 : decode cX0_tell 52 = .ok (.aload_n 0, 1) := by decide +kernel
theorem dX0_tell_53 : decode cX0_tell 53 = .ok (.getfield 31, 3) := by decide +kernel
theorem dX0_tell_56 : decode cX0_tell 56 = .ok (.ireturn, 1) := by decide +kernel
theorem dX0_tell_57 : decode cX0_tell 57 = .ok (.aload_n 0, 1) := by decide +kernel
theorem dX0_tell_58 : decode cX0_tell 58 = .ok (.getfield 45, 3) := by decide +kernel
theorem dX0_tell_61 : decode cX0_tell 61 = .ok (.ireturn, 1) := by decide +kernel
theorem dX0_tell_62 : decode cX0_tell 62 = .ok (.aload_n 0, 1) := by decide +kernel
theorem dX0_tell_63 : decode cX0_tell 63 = .ok (.getfield 48, 3) := by decide +kernel
theorem dX0_tell_66 : decode cX0_tell 66 = .ok (.ireturn, 1) := by decide +kernel
theorem dX0_tell_67 : decode cX0_tell 67 = .ok (.aload_n 0, 1) := by decide +kernel
theorem dX0_tell_68 : decode cX0_tell 68 = .ok (.iconst 0, 1) := by decide +kernel
theorem dX0_tell_69 : decode cX0_tell 69 = .ok (.invokevirtual 51, 3) := by decide +kernel
theorem dX0_tell_72 : decode cX0_tell 72 = .ok (.ireturn, 1) := by decide +kernel
theorem dX0_tell_73 : decode cX0_tell 73 = .ok (.aload_n 0, 1) := by decide +kernel
theorem dX0_tell_74 : decode cX0_tell 74 = .ok (.iconst 1, 1) := by decide +kernel
theorem dX0_tell_75 : decode cX0_tell 75 = .ok (.invokevirtual 51, 3) := by decide +kernel
theorem dX0_tell_78 : decode cX0_tell 78 = .ok (.ireturn, 1) := by decide +kernel
theorem dX0_tell_79 : decode cX0_tell 79 = .ok (.aload_n 0, 1) := by decide +kernel
theorem dX0_tell_80 : decode cX0_tell 80 = .ok (.iconst 2, 1) := by decide +kernel
theorem dX0_tell_81 : decode cX0_tell 81 = .ok (.invokevirtual 51, 3) := by decide +kernel
theorem dX0_tell_84 : decode cX0_tell 84 = .ok (.ireturn, 1) := by decide +kernel
theorem dX0_tell_85 : decode cX0_tell 85 = .ok (.aload_n 0, 1) := by decide +kernel
theorem dX0_tell_86 : decode cX0_tell 86 = .ok (.iconst 3, 1) := by decide +kernel
theorem dX0_tell_87 : decode cX0_tell 87 = .ok (.invokevirtual 51, 3) := by decide +kernel
theorem dX0_tell_90 : decode cX0_tell 90 = .ok (.ireturn, 1) := by decide +kernel
theorem dX0_tell_91 : decode cX0_tell 91 = .ok (.aload_n 0, 1) := by decide +kernel
theorem dX0_tell_92 : decode cX0_tell 92 = .ok (.invokevirtual 55, 3) := by decide +kernel
theorem dX0_tell_95 : decode cX0_tell 95 = .ok (.ireturn, 1) := by decide +kernel
theorem dX0_tell_96 : decode cX0_tell 96 = .ok (.aload_n 0, 1) := by decide +kernel
theorem dX0_tell_97 : decode cX0_tell 97 = .ok (.invokevirtual 59, 3) := by decide +kernel
theorem dX0_tell_100 : decode cX0_tell 100 = .ok (.ireturn, 1) := by decide +kernel
theorem dX0_tell_101 : decode cX0_tell 101 = .ok (.aload_n 0, 1) := by decide +kernel
theorem dX0_tell_102 : decode cX0_tell 102 = .ok (.invokevirtual 62, 3) := by decide +kernel
theorem dX0_tell_105 : decode cX0_tell 105 = .ok (.ireturn, 1) := by decide +kernel
theorem dX0_roomsIn_0 : decode cX0_roomsIn 0 = .ok (.iconst 0, 1) := by decide +kernel
theorem dX0_roomsIn_1 : decode cX0_roomsIn 1 = .ok (.istore_n 2, 1) := by decide +kernel
theorem dX0_roomsIn_2 : decode cX0_roomsIn 2 = .ok (.iconst 0, 1) := by decide +kernel
theorem dX0_roomsIn_3 : decode cX0_roomsIn 3 = .ok (.istore_n 3, 1) := by decide +kernel
theorem dX0_roomsIn_4 : decode cX0_roomsIn 4 = .ok (.iload_n 3, 1) := by decide +kernel
theorem dX0_roomsIn_5 : decode cX0_roomsIn 5 = .ok (.aload_n 0, 1) := by decide +kernel
theorem dX0_roomsIn_6 : decode cX0_roomsIn 6 = .ok (.getfield 31, 3) := by decide +kernel
theorem dX0_roomsIn_9 : decode cX0_roomsIn 9 = .ok (.if_icmp .ge 25, 3) := by decide +kernel
theorem dX0_roomsIn_12 : decode cX0_roomsIn 12 = .ok (.aload_n 0, 1) := by decide +kernel
theorem dX0_roomsIn_13 : decode cX0_roomsIn 13 = .ok (.getfield 11, 3) := by decide +kernel
theorem dX0_roomsIn_16 : decode cX0_roomsIn 16 = .ok (.iload_n 3, 1) := by decide +kernel
theorem dX0_roomsIn_17 : decode cX0_roomsIn 17 = .ok (.aaload, 1) := by decide +kernel
theorem dX0_roomsIn_18 : decode cX0_roomsIn 18 = .ok (.getfield 65, 3) := by decide +kernel
theorem dX0_roomsIn_21 : decode cX0_roomsIn 21 = .ok (.iload_n 1, 1) := by decide +kernel
theorem dX0_roomsIn_22 : decode cX0_roomsIn 22 = .ok (.if_icmp .ne 6, 3) := by decide +kernel
theorem dX0_roomsIn_25 : decode cX0_roomsIn 25 = .ok (.iinc 2 1, 3) := by decide +kernel
theorem dX0_roomsIn_28 : decode cX0_roomsIn 28 = .ok (.iinc 3 1, 3) := by decide +kernel
theorem dX0_roomsIn_31 : decode cX0_roomsIn 31 = .ok (.goto (-27), 3) := by decide +kernel
theorem dX0_roomsIn_34 : decode cX0_roomsIn 34 = .ok (.iload_n 2, 1) := by decide +kernel
theorem dX0_roomsIn_35 : decode cX0_roomsIn 35 = .ok (.ireturn, 1) := by decide +kernel
set_option maxRecDepth 20000 in
theorem ggX0_paidInAll_X2_paidInAll : GoodIn wsX0_paidInAll wsX2_paidInAll := goodIn_r _ [7, 8, 17, 18, 19, 20, 21, 22, 23, 24, 25, 26, 27, 28, 29, 30, 31] (by decide +kernel) (by decide +kernel)
set_option maxRecDepth 20000 in
theorem gX0_paidInAll_X2_paidInAll : GoodIn wsX0_paidInAll (wsV RX0 68 RX2 yX2_paidInAll wsX2_paidInAll) := goodIn_app (goodIn_of _ (by decide +kernel)) ggX0_paidInAll_X2_paidInAll
theorem dX0_paidInAll_0 : decode cX0_paidInAll 0 = .ok (.iconst 0, 1) := by decide +kernel
theorem dX0_paidInAll_1 : decode cX0_paidInAll 1 = .ok (.istore_n 1, 1) := by decide +kernel
theorem dX0_paidInAll_2 : decode cX0_paidInAll 2 = .ok (.iconst 0, 1) := by decide +kernel
theorem dX0_paidInAll_3 : decode cX0_paidInAll 3 = .ok (.istore_n 2, 1) := by decide +kernel
theorem dX0_paidInAll_4 : decode cX0_paidInAll 4 = .ok (.iload_n 2, 1) := by decide +kernel
theorem dX0_paidInAll_5 : decode cX0_paidInAll 5 = .ok (.aload_n 0, 1) := by decide +kernel
theorem dX0_paidInAll_6 : decode cX0_paidInAll 6 = .ok (.getfield 31, 3) := by decide +kernel
theorem dX0_paidInAll_9 : decode cX0_paidInAll 9 = .ok (.if_icmp .ge 21, 3) := by decide +kernel
theorem dX0_paidInAll_12 : decode cX0_paidInAll 12 = .ok (.iload_n 1, 1) := by decide +kernel
theorem dX0_paidInAll_13 : decode cX0_paidInAll 13 = .ok (.aload_n 0, 1) := by decide +kernel
theorem dX0_paidInAll_14 : decode cX0_paidInAll 14 = .ok (.getfield 11, 3) := by decide +kernel
theorem dX0_paidInAll_17 : decode cX0_paidInAll 17 = .ok (.iload_n 2, 1) := by decide +kernel
theorem dX0_paidInAll_18 : decode cX0_paidInAll 18 = .ok (.aaload, 1) := by decide +kernel
theorem dX0_paidInAll_19 : decode cX0_paidInAll 19 = .ok (.invokevirtual 68, 3) := by decide +kernel
theorem dX0_paidInAll_22 : decode cX0_paidInAll 22 = .ok (.iadd, 1) := by decide +kernel
theorem dX0_paidInAll_23 : decode cX0_paidInAll 23 = .ok (.istore_n 1, 1) := by decide +kernel
theorem dX0_paidInAll_24 : decode cX0_paidInAll 24 = .ok (.iinc 2 1, 3) := by decide +kernel
theorem dX0_paidInAll_27 : decode cX0_paidInAll 27 = .ok (.goto (-23), 3) := by decide +kernel
theorem dX0_paidInAll_30 : decode cX0_paidInAll 30 = .ok (.iload_n 1, 1) := by decide +kernel
theorem dX0_paidInAll_31 : decode cX0_paidInAll 31 = .ok (.ireturn, 1) := by decide +kernel
theorem dX0_begunInAll_0 : decode cX0_begunInAll 0 = .ok (.iconst 0, 1) := by decide +kernel
theorem dX0_begunInAll_1 : decode cX0_begunInAll 1 = .ok (.istore_n 1, 1) := by decide +kernel
theorem dX0_begunInAll_2 : decode cX0_begunInAll 2 = .ok (.iconst 0, 1) := by decide +kernel
theorem dX0_begunInAll_3 : decode cX0_begunInAll 3 = .ok (.istore_n 2, 1) := by decide +kernel
theorem dX0_begunInAll_4 : decode cX0_begunInAll 4 = .ok (.iload_n 2, 1) := by decide +kernel
theorem dX0_begunInAll_5 : decode cX0_begunInAll 5 = .ok (.aload_n 0, 1) := by decide +kernel
theorem dX0_begunInAll_6 : decode cX0_begunInAll 6 = .ok (.getfield 31, 3) := by decide +kernel
theorem dX0_begunInAll_9 : decode cX0_begunInAll 9 = .ok (.if_icmp .ge 21, 3) := by decide +kernel
theorem dX0_begunInAll_12 : decode cX0_begunInAll 12 = .ok (.iload_n 1, 1) := by decide +kernel
theorem dX0_begunInAll_13 : decode cX0_begunInAll 13 = .ok (.aload_n 0, 1) := by decide +kernel
theorem dX0_begunInAll_14 : decode cX0_begunInAll 14 = .ok (.getfield 11, 3) := by decide +kernel
theorem dX0_begunInAll_17 : decode cX0_begunInAll 17 = .ok (.iload_n 2, 1) := by decide +kernel
theorem dX0_begunInAll_18 : decode cX0_begunInAll 18 = .ok (.aaload, 1) := by decide +kernel
theorem dX0_begunInAll_19 : decode cX0_begunInAll 19 = .ok (.getfield 72, 3) := by decide +kernel
theorem dX0_begunInAll_22 : decode cX0_begunInAll 22 = .ok (.iadd, 1) := by decide +kernel
theorem dX0_begunInAll_23 : decode cX0_begunInAll 23 = .ok (.istore_n 1, 1) := by decide +kernel
theorem dX0_begunInAll_24 : decode cX0_begunInAll 24 = .ok (.iinc 2 1, 3) := by decide +kernel
theorem dX0_begunInAll_27 : decode cX0_begunInAll 27 = .ok (.goto (-23), 3) := by decide +kernel
theorem dX0_begunInAll_30 : decode cX0_begunInAll 30 = .ok (.iload_n 1, 1) := by decide +kernel
theorem dX0_begunInAll_31 : decode cX0_begunInAll 31 = .ok (.ireturn, 1) := by decide +kernel
theorem dX0_lateInAll_0 : decode cX0_lateInAll 0 = .ok (.iconst 0, 1) := by decide +kernel
theorem dX0_lateInAll_1 : decode cX0_lateInAll 1 = .ok (.istore_n 1, 1) := by decide +kernel
theorem dX0_lateInAll_2 : decode cX0_lateInAll 2 = .ok (.iconst 0, 1) := by decide +kernel
theorem dX0_lateInAll_3 : decode cX0_lateInAll 3 = .ok (.istore_n 2, 1) := by decide +kernel
theorem dX0_lateInAll_4 : decode cX0_lateInAll 4 = .ok (.iload_n 2, 1) := by decide +kernel
theorem dX0_lateInAll_5 : decode cX0_lateInAll 5 = .ok (.aload_n 0, 1) := by decide +kernel
theorem dX0_lateInAll_6 : decode cX0_lateInAll 6 = .ok (.getfield 31, 3) := by decide +kernel
theorem dX0_lateInAll_9 : decode cX0_lateInAll 9 = .ok (.if_icmp .ge 21, 3) := by decide +kernel
theorem dX0_lateInAll_12 : decode cX0_lateInAll 12 = .ok (.iload_n 1, 1) := by decide +kernel
theorem dX0_lateInAll_13 : decode cX0_lateInAll 13 = .ok (.aload_n 0, 1) := by decide +kernel
theorem dX0_lateInAll_14 : decode cX0_lateInAll 14 = .ok (.getfield 11, 3) := by decide +kernel
theorem dX0_lateInAll_17 : decode cX0_lateInAll 17 = .ok (.iload_n 2, 1) := by decide +kernel
theorem dX0_lateInAll_18 : decode cX0_lateInAll 18 = .ok (.aaload, 1) := by decide +kernel
theorem dX0_lateInAll_19 : decode cX0_lateInAll 19 = .ok (.getfield 75, 3) := by decide +kernel
theorem dX0_lateInAll_22 : decode cX0_lateInAll 22 = .ok (.iadd, 1) := by decide +kernel
theorem dX0_lateInAll_23 : decode cX0_lateInAll 23 = .ok (.istore_n 1, 1) := by decide +kernel
theorem dX0_lateInAll_24 : decode cX0_lateInAll 24 = .ok (.iinc 2 1, 3) := by decide +kernel
theorem dX0_lateInAll_27 : decode cX0_lateInAll 27 = .ok (.goto (-23), 3) := by decide +kernel
theorem dX0_lateInAll_30 : decode cX0_lateInAll 30 = .ok (.iload_n 1, 1) := by decide +kernel
theorem dX0_lateInAll_31 : decode cX0_lateInAll 31 = .ok (.ireturn, 1) := by decide +kernel
set_option maxRecDepth 20000 in
theorem ggX0_setNeed_X0_hasRoom : GoodIn wsX0_setNeed wsX0_hasRoom := goodIn_r _ [8, 9, 13, 14, 15, 16, 17, 18, 19, 20] (by decide +kernel) (by decide +kernel)
set_option maxRecDepth 20000 in
theorem gX0_setNeed_X0_hasRoom : GoodIn wsX0_setNeed (wsV RX0 78 RX0 yX0_hasRoom wsX0_hasRoom) := goodIn_app (goodIn_of _ (by decide +kernel)) ggX0_setNeed_X0_hasRoom
set_option maxRecDepth 20000 in
theorem ggX0_setNeed_X3_outside : GoodIn wsX0_setNeed wsX3_outside := goodIn_r _ [12] (by decide +kernel) (by decide +kernel)
set_option maxRecDepth 20000 in
theorem gX0_setNeed_X3_outside_n82 : GoodIn wsX0_setNeed (wsX3_outside) := ggX0_setNeed_X3_outside
theorem dX0_setNeed_0 : decode cX0_setNeed 0 = .ok (.aload_n 0, 1) := by decide +kernel
theorem dX0_setNeed_1 : decode cX0_setNeed 1 = .ok (.iload_n 1, 1) := by decide +kernel
theorem dX0_setNeed_2 : decode cX0_setNeed 2 = .ok (.invokevirtual 78, 3) := by decide +kernel
theorem dX0_setNeed_5 : decode cX0_setNeed 5 = .ok (.ifCond .eq 14, 3) := by decide +kernel
theorem dX0_setNeed_8 : decode cX0_setNeed 8 = .ok (.iload_n 2, 1) := by decide +kernel
theorem dX0_setNeed_9 : decode cX0_setNeed 9 = .ok (.iconst (-1), 1) := by decide +kernel
theorem dX0_setNeed_10 : decode cX0_setNeed 10 = .ok (.iload_n 1, 1) := by decide +kernel
theorem dX0_setNeed_11 : decode cX0_setNeed 11 = .ok (.iconst 1, 1) := by decide +kernel
theorem dX0_setNeed_12 : decode cX0_setNeed 12 = .ok (.isub, 1) := by decide +kernel
theorem dX0_setNeed_13 : decode cX0_setNeed 13 = .ok (.invokestatic 82, 3) := by decide +kernel
theorem dX0_setNeed_16 : decode cX0_setNeed 16 = .ok (.ifCond .eq 5, 3) := by decide +kernel
theorem dX0_setNeed_19 : decode cX0_setNeed 19 = .ok (.iconst (-1), 1) := by decide +kernel
theorem dX0_setNeed_20 : decode cX0_setNeed 20 = .ok (.ireturn, 1) := by decide +kernel
theorem dX0_setNeed_21 : decode cX0_setNeed 21 = .ok (.aload_n 0, 1) := by decide +kernel
theorem dX0_setNeed_22 : decode cX0_setNeed 22 = .ok (.getfield 11, 3) := by decide +kernel
theorem dX0_setNeed_25 : decode cX0_setNeed 25 = .ok (.iload_n 1, 1) := by decide +kernel
theorem dX0_setNeed_26 : decode cX0_setNeed 26 = .ok (.aaload, 1) := by decide +kernel
theorem dX0_setNeed_27 : decode cX0_setNeed 27 = .ok (.astore_n 3, 1) := by decide +kernel
theorem dX0_setNeed_28 : decode cX0_setNeed 28 = .ok (.aload_n 3, 1) := by decide +kernel
theorem dX0_setNeed_29 : decode cX0_setNeed 29 = .ok (.getfield 65, 3) := by decide +kernel
theorem dX0_setNeed_32 : decode cX0_setNeed 32 = .ok (.ifCond .eq 6, 3) := by decide +kernel
theorem dX0_setNeed_35 : decode cX0_setNeed 35 = .ok (.bipush (-2), 2) := by decide +kernel
theorem dX0_setNeed_37 : decode cX0_setNeed 37 = .ok (.ireturn, 1) := by decide +kernel
theorem dX0_setNeed_38 : decode cX0_setNeed 38 = .ok (.aload_n 3, 1) := by decide +kernel
theorem dX0_setNeed_39 : decode cX0_setNeed 39 = .ok (.getfield 86, 3) := by decide +kernel
theorem dX0_setNeed_42 : decode cX0_setNeed 42 = .ok (.istore 4, 2) := by decide +kernel
theorem dX0_setNeed_44 : decode cX0_setNeed 44 = .ok (.aload_n 3, 1) := by decide +kernel
theorem dX0_setNeed_45 : decode cX0_setNeed 45 = .ok (.iload_n 2, 1) := by decide +kernel
theorem dX0_setNeed_46 : decode cX0_setNeed 46 = .ok (.putfield 86, 3) := by decide +kernel
theorem dX0_setNeed_49 : decode cX0_setNeed 49 = .ok (.iload 4, 2) := by decide +kernel
theorem dX0_setNeed_51 : decode cX0_setNeed 51 = .ok (.iconst 1, 1) := by decide +kernel
theorem dX0_setNeed_52 : decode cX0_setNeed 52 = .ok (.iadd, 1) := by decide +kernel
theorem dX0_setNeed_53 : decode cX0_setNeed 53 = .ok (.ireturn, 1) := by decide +kernel
set_option maxRecDepth 20000 in
theorem ggX0_plugIn_X0_hasRoom : GoodIn wsX0_plugIn wsX0_hasRoom := goodIn_r _ [8, 9, 17, 18, 19, 20, 21, 22, 23, 24] (by decide +kernel) (by decide +kernel)
set_option maxRecDepth 20000 in
theorem gX0_plugIn_X0_hasRoom : GoodIn wsX0_plugIn (wsV RX0 78 RX0 yX0_hasRoom wsX0_hasRoom) := goodIn_app (goodIn_of _ (by decide +kernel)) ggX0_plugIn_X0_hasRoom
set_option maxRecDepth 20000 in
theorem ggX0_plugIn_X3_outside : GoodIn wsX0_plugIn wsX3_outside := goodIn_r _ [12] (by decide +kernel) (by decide +kernel)
set_option maxRecDepth 20000 in
theorem gX0_plugIn_X3_outside_n82 : GoodIn wsX0_plugIn (wsX3_outside) := ggX0_plugIn_X3_outside
set_option maxRecDepth 20000 in
theorem ggX0_plugIn_X0_pluggedInto : GoodIn wsX0_plugIn wsX0_pluggedInto := goodIn_r _ [16, 9, 1, 2, 17, 18, 19, 20, 21, 22, 23, 24, 25, 26, 27, 28, 29, 30, 31, 32, 33, 34, 35, 36, 37, 38, 39] (by decide +kernel) (by decide +kernel)
set_option maxRecDepth 20000 in
theorem gX0_plugIn_X0_pluggedInto : GoodIn wsX0_plugIn (wsV RX0 95 RX0 yX0_pluggedInto wsX0_pluggedInto) := goodIn_app (goodIn_of _ (by decide +kernel)) ggX0_plugIn_X0_pluggedInto
theorem dX0_plugIn_0 : decode cX0_plugIn 0 = .ok (.aload_n 0, 1) := by decide +kernel
theorem dX0_plugIn_1 : decode cX0_plugIn 1 = .ok (.iload_n 1, 1) := by decide +kernel
theorem dX0_plugIn_2 : decode cX0_plugIn 2 = .ok (.invokevirtual 78, 3) := by decide +kernel
theorem dX0_plugIn_5 : decode cX0_plugIn 5 = .ok (.ifCond .eq 12, 3) := by decide +kernel
theorem dX0_plugIn_8 : decode cX0_plugIn 8 = .ok (.iload_n 2, 1) := by decide +kernel
theorem dX0_plugIn_9 : decode cX0_plugIn 9 = .ok (.iconst 0, 1) := by decide +kernel
theorem dX0_plugIn_10 : decode cX0_plugIn 10 = .ok (.iconst 1, 1) := by decide +kernel
theorem dX0_plugIn_11 : decode cX0_plugIn 11 = .ok (.invokestatic 82, 3) := by decide +kernel
theorem dX0_plugIn_14 : decode cX0_plugIn 14 = .ok (.ifCond .eq 5, 3) := by decide +kernel
theorem dX0_plugIn_17 : decode cX0_plugIn 17 = .ok (.iconst (-1), 1) := by decide +kernel
theorem dX0_plugIn_18 : decode cX0_plugIn 18 = .ok (.ireturn, 1) := by decide +kernel
theorem dX0_plugIn_19 : decode cX0_plugIn 19 = .ok (.aload_n 0, 1) := by decide +kernel
theorem dX0_plugIn_20 : decode cX0_plugIn 20 = .ok (.getfield 11, 3) := by decide +kernel
theorem dX0_plugIn_23 : decode cX0_plugIn 23 = .ok (.iload_n 1, 1) := by decide +kernel
theorem dX0_plugIn_24 : decode cX0_plugIn 24 = .ok (.aaload, 1) := by decide +kernel
theorem dX0_plugIn_25 : decode cX0_plugIn 25 = .ok (.astore_n 3, 1) := by decide +kernel
theorem dX0_plugIn_26 : decode cX0_plugIn 26 = .ok (.aload_n 3, 1) := by decide +kernel
theorem dX0_plugIn_27 : decode cX0_plugIn 27 = .ok (.getfield 89, 3) := by decide +kernel
theorem dX0_plugIn_30 : decode cX0_plugIn 30 = .ok (.iconst (-1), 1) := by decide +kernel
theorem dX0_plugIn_31 : decode cX0_plugIn 31 = .ok (.if_icmp .ne 11, 3) := by decide +kernel
theorem dX0_plugIn_34 : decode cX0_plugIn 34 = .ok (.aload_n 3, 1) := by decide +kernel
theorem dX0_plugIn_35 : decode cX0_plugIn 35 = .ok (.getfield 92, 3) := by decide +kernel
theorem dX0_plugIn_38 : decode cX0_plugIn 38 = .ok (.iload_n 2, 1) := by decide +kernel
theorem dX0_plugIn_39 : decode cX0_plugIn 39 = .ok (.if_icmp .eq 6, 3) := by decide +kernel
theorem dX0_plugIn_42 : decode cX0_plugIn 42 = .ok (.bipush (-2), 2) := by decide +kernel
theorem dX0_plugIn_44 : decode cX0_plugIn 44 = .ok (.ireturn, 1) := by decide +kernel
theorem dX0_plugIn_45 : decode cX0_plugIn 45 = .ok (.aload_n 0, 1) := by decide +kernel
theorem dX0_plugIn_46 : decode cX0_plugIn 46 = .ok (.iload_n 2, 1) := by decide +kernel
theorem dX0_plugIn_47 : decode cX0_plugIn 47 = .ok (.invokevirtual 95, 3) := by decide +kernel
theorem dX0_plugIn_50 : decode cX0_plugIn 50 = .ok (.iconst 4, 1) := by decide +kernel
theorem dX0_plugIn_51 : decode cX0_plugIn 51 = .ok (.if_icmp .lt 6, 3) := by decide +kernel
theorem dX0_plugIn_54 : decode cX0_plugIn 54 = .ok (.bipush (-3), 2) := by decide +kernel
theorem dX0_plugIn_56 : decode cX0_plugIn 56 = .ok (.ireturn, 1) := by decide +kernel
theorem dX0_plugIn_57 : decode cX0_plugIn 57 = .ok (.aload_n 3, 1) := by decide +kernel
theorem dX0_plugIn_58 : decode cX0_plugIn 58 = .ok (.iload_n 2, 1) := by decide +kernel
theorem dX0_plugIn_59 : decode cX0_plugIn 59 = .ok (.putfield 89, 3) := by decide +kernel
theorem dX0_plugIn_62 : decode cX0_plugIn 62 = .ok (.aload_n 0, 1) := by decide +kernel
theorem dX0_plugIn_63 : decode cX0_plugIn 63 = .ok (.iload_n 2, 1) := by decide +kernel
theorem dX0_plugIn_64 : decode cX0_plugIn 64 = .ok (.invokevirtual 95, 3) := by decide +kernel
theorem dX0_plugIn_67 : decode cX0_plugIn 67 = .ok (.ireturn, 1) := by decide +kernel
set_option maxRecDepth 20000 in
theorem ggX0_plugOut_X0_hasRoom : GoodIn wsX0_plugOut wsX0_hasRoom := goodIn_r _ [8, 9, 14, 15, 16, 17, 18, 19, 20, 21] (by decide +kernel) (by decide +kernel)
set_option maxRecDepth 20000 in
theorem gX0_plugOut_X0_hasRoom : GoodIn wsX0_plugOut (wsV RX0 78 RX0 yX0_hasRoom wsX0_hasRoom) := goodIn_app (goodIn_of _ (by decide +kernel)) ggX0_plugOut_X0_hasRoom
set_option maxRecDepth 20000 in
theorem ggX0_plugOut_X0_pluggedInto : GoodIn wsX0_plugOut wsX0_pluggedInto := goodIn_r _ [13, 9, 1, 2, 14, 15, 16, 17, 18, 19, 20, 21, 22, 23, 24, 25, 26, 27, 28, 29, 30, 31, 32, 33, 34, 35, 36] (by decide +kernel) (by decide +kernel)
set_option maxRecDepth 20000 in
theorem gX0_plugOut_X0_pluggedInto : GoodIn wsX0_plugOut (wsV RX0 95 RX0 yX0_pluggedInto wsX0_pluggedInto) := goodIn_app (goodIn_of _ (by decide +kernel)) ggX0_plugOut_X0_pluggedInto
theorem dX0_plugOut_0 : decode cX0_plugOut 0 = .ok (.aload_n 0, 1) := by decide +kernel
theorem dX0_plugOut_1 : decode cX0_plugOut 1 = .ok (.iload_n 1, 1) := by decide +kernel
theorem dX0_plugOut_2 : decode cX0_plugOut 2 = .ok (.invokevirtual 78, 3) := by decide +kernel
theorem dX0_plugOut_5 : decode cX0_plugOut 5 = .ok (.ifCond .ne 5, 3) := by decide +kernel
theorem dX0_plugOut_8 : decode cX0_plugOut 8 = .ok (.iconst (-1), 1) := by decide +kernel
theorem dX0_plugOut_9 : decode cX0_plugOut 9 = .ok (.ireturn, 1) := by decide +kernel
theorem dX0_plugOut_10 : decode cX0_plugOut 10 = .ok (.aload_n 0, 1) := by decide +kernel
theorem dX0_plugOut_11 : decode cX0_plugOut 11 = .ok (.getfield 11, 3) := by decide +kernel
theorem dX0_plugOut_14 : decode cX0_plugOut 14 = .ok (.iload_n 1, 1) := by decide +kernel
theorem dX0_plugOut_15 : decode cX0_plugOut 15 = .ok (.aaload, 1) := by decide +kernel
theorem dX0_plugOut_16 : decode cX0_plugOut 16 = .ok (.astore_n 2, 1) := by decide +kernel
theorem dX0_plugOut_17 : decode cX0_plugOut 17 = .ok (.aload_n 2, 1) := by decide +kernel
theorem dX0_plugOut_18 : decode cX0_plugOut 18 = .ok (.getfield 89, 3) := by decide +kernel
theorem dX0_plugOut_21 : decode cX0_plugOut 21 = .ok (.iconst (-1), 1) := by decide +kernel
theorem dX0_plugOut_22 : decode cX0_plugOut 22 = .ok (.if_icmp .eq 10, 3) := by decide +kernel
theorem dX0_plugOut_25 : decode cX0_plugOut 25 = .ok (.aload_n 2, 1) := by decide +kernel
theorem dX0_plugOut_26 : decode cX0_plugOut 26 = .ok (.getfield 65, 3) := by decide +kernel
theorem dX0_plugOut_29 : decode cX0_plugOut 29 = .ok (.ifCond .eq 6, 3) := by decide +kernel
theorem dX0_plugOut_32 : decode cX0_plugOut 32 = .ok (.bipush (-2), 2) := by decide +kernel
theorem dX0_plugOut_34 : decode cX0_plugOut 34 = .ok (.ireturn, 1) := by decide +kernel
theorem dX0_plugOut_35 : decode cX0_plugOut 35 = .ok (.aload_n 2, 1) := by decide +kernel
theorem dX0_plugOut_36 : decode cX0_plugOut 36 = .ok (.getfield 89, 3) := by decide +kernel
theorem dX0_plugOut_39 : decode cX0_plugOut 39 = .ok (.istore_n 3, 1) := by decide +kernel
theorem dX0_plugOut_40 : decode cX0_plugOut 40 = .ok (.aload_n 2, 1) := by decide +kernel
theorem dX0_plugOut_41 : decode cX0_plugOut 41 = .ok (.iconst (-1), 1) := by decide +kernel
theorem dX0_plugOut_42 : decode cX0_plugOut 42 = .ok (.putfield 89, 3) := by decide +kernel
theorem dX0_plugOut_45 : decode cX0_plugOut 45 = .ok (.aload_n 0, 1) := by decide +kernel
theorem dX0_plugOut_46 : decode cX0_plugOut 46 = .ok (.iload_n 3, 1) := by decide +kernel
theorem dX0_plugOut_47 : decode cX0_plugOut 47 = .ok (.invokevirtual 95, 3) := by decide +kernel
theorem dX0_plugOut_50 : decode cX0_plugOut 50 = .ok (.ireturn, 1) := by decide +kernel
theorem dX0_pluggedInto_0 : decode cX0_pluggedInto 0 = .ok (.iconst 0, 1) := by decide +kernel
theorem dX0_pluggedInto_1 : decode cX0_pluggedInto 1 = .ok (.istore_n 2, 1) := by decide +kernel
theorem dX0_pluggedInto_2 : decode cX0_pluggedInto 2 = .ok (.iconst 0, 1) := by decide +kernel
theorem dX0_pluggedInto_3 : decode cX0_pluggedInto 3 = .ok (.istore_n 3, 1) := by decide +kernel
theorem dX0_pluggedInto_4 : decode cX0_pluggedInto 4 = .ok (.iload_n 3, 1) := by decide +kernel
theorem dX0_pluggedInto_5 : decode cX0_pluggedInto 5 = .ok (.aload_n 0, 1) := by decide +kernel
theorem dX0_pluggedInto_6 : decode cX0_pluggedInto 6 = .ok (.getfield 31, 3) := by decide +kernel
theorem dX0_pluggedInto_9 : decode cX0_pluggedInto 9 = .ok (.if_icmp .ge 25, 3) := by decide +kernel
theorem dX0_pluggedInto_12 : decode cX0_pluggedInto 12 = .ok (.aload_n 0, 1) := by decide +kernel
theorem dX0_pluggedInto_13 : decode cX0_pluggedInto 13 = .ok (.getfield 11, 3) := by decide +kernel
theorem dX0_pluggedInto_16 : decode cX0_pluggedInto 16 = .ok (.iload_n 3, 1) := by decide +kernel
theorem dX0_pluggedInto_17 : decode cX0_pluggedInto 17 = .ok (.aaload, 1) := by decide +kernel
theorem dX0_pluggedInto_18 : decode cX0_pluggedInto 18 = .ok (.getfield 89, 3) := by decide +kernel
theorem dX0_pluggedInto_21 : decode cX0_pluggedInto 21 = .ok (.iload_n 1, 1) := by decide +kernel
theorem dX0_pluggedInto_22 : decode cX0_pluggedInto 22 = .ok (.if_icmp .ne 6, 3) := by decide +kernel
theorem dX0_pluggedInto_25 : decode cX0_pluggedInto 25 = .ok (.iinc 2 1, 3) := by decide +kernel
theorem dX0_pluggedInto_28 : decode cX0_pluggedInto 28 = .ok (.iinc 3 1, 3) := by decide +kernel
theorem dX0_pluggedInto_31 : decode cX0_pluggedInto 31 = .ok (.goto (-27), 3) := by decide +kernel
theorem dX0_pluggedInto_34 : decode cX0_pluggedInto 34 = .ok (.iload_n 2, 1) := by decide +kernel
theorem dX0_pluggedInto_35 : decode cX0_pluggedInto 35 = .ok (.ireturn, 1) := by decide +kernel
theorem dX0_roomOnRail_0 : decode cX0_roomOnRail 0 = .ok (.iconst 0, 1) := by decide +kernel
theorem dX0_roomOnRail_1 : decode cX0_roomOnRail 1 = .ok (.istore_n 3, 1) := by decide +kernel
theorem dX0_roomOnRail_2 : decode cX0_roomOnRail 2 = .ok (.iconst 0, 1) := by decide +kernel
theorem dX0_roomOnRail_3 : decode cX0_roomOnRail 3 = .ok (.istore 4, 2) := by decide +kernel
theorem dX0_roomOnRail_5 : decode cX0_roomOnRail 5 = .ok (.iload 4, 2) := by decide +kernel
theorem dX0_roomOnRail_7 : decode cX0_roomOnRail 7 = .ok (.aload_n 0, 1) := by decide +kernel
theorem dX0_roomOnRail_8 : decode cX0_roomOnRail 8 = .ok (.getfield 31, 3) := by decide +kernel
theorem dX0_roomOnRail_11 : decode cX0_roomOnRail 11 = .ok (.if_icmp .ge 34, 3) := by decide +kernel
theorem dX0_roomOnRail_14 : decode cX0_roomOnRail 14 = .ok (.aload_n 0, 1) := by decide +kernel
theorem dX0_roomOnRail_15 : decode cX0_roomOnRail 15 = .ok (.getfield 11, 3) := by decide +kernel
theorem dX0_roomOnRail_18 : decode cX0_roomOnRail 18 = .ok (.iload 4, 2) := by decide +kernel
theorem dX0_roomOnRail_20 : decode cX0_roomOnRail 20 = .ok (.aaload, 1) := by decide +kernel
theorem dX0_roomOnRail_21 : decode cX0_roomOnRail 21 = .ok (.getfield 89, 3) := by decide +kernel
theorem dX0_roomOnRail_24 : decode cX0_roomOnRail 24 = .ok (.iload_n 1, 1) := by decide +kernel
theorem dX0_roomOnRail_25 : decode cX0_roomOnRail 25 = .ok (.if_icmp .ne 14, 3) := by decide +kernel
theorem dX0_roomOnRail_28 : decode cX0_roomOnRail 28 = .ok (.iload_n 3, 1) := by decide +kernel
theorem dX0_roomOnRail_29 : decode cX0_roomOnRail 29 = .ok (.iload_n 2, 1) := by decide +kernel
theorem dX0_roomOnRail_30 : decode cX0_roomOnRail 30 = .ok (.if_icmp .ne 6, 3) := by decide +kernel
theorem dX0_roomOnRail_33 : decode cX0_roomOnRail 33 = .ok (.iload 4, 2) := by decide +kernel
theorem dX0_roomOnRail_35 : decode cX0_roomOnRail 35 = .ok (.ireturn, 1) := by decide +kernel
theorem dX0_roomOnRail_36 : decode cX0_roomOnRail 36 = .ok (.iinc 3 1, 3) := by decide +kernel
theorem dX0_roomOnRail_39 : decode cX0_roomOnRail 39 = .ok (.iinc 4 1, 3) := by decide +kernel
theorem dX0_roomOnRail_42 : decode cX0_roomOnRail 42 = .ok (.goto (-37), 3) := by decide +kernel
theorem dX0_roomOnRail_45 : decode cX0_roomOnRail 45 = .ok (.bipush (-4), 2) := by decide +kernel
theorem dX0_roomOnRail_47 : decode cX0_roomOnRail 47 = .ok (.ireturn, 1) := by decide +kernel
set_option maxRecDepth 20000 in
theorem ggX0_setLimit_X3_outside : GoodIn wsX0_setLimit wsX3_outside := goodIn_r _ [4] (by decide +kernel) (by decide +kernel)
set_option maxRecDepth 20000 in
theorem gX0_setLimit_X3_outside_n82 : GoodIn wsX0_setLimit (wsX3_outside) := ggX0_setLimit_X3_outside
theorem dX0_setLimit_0 : decode cX0_setLimit 0 = .ok (.iload_n 1, 1) := by decide +kernel
theorem dX0_setLimit_1 : decode cX0_setLimit 1 = .ok (.iconst 0, 1) := by decide +kernel
theorem dX0_setLimit_2 : decode cX0_setLimit 2 = .ok (.iconst 1, 1) := by decide +kernel
theorem dX0_setLimit_3 : decode cX0_setLimit 3 = .ok (.invokestatic 82, 3) := by decide +kernel
theorem dX0_setLimit_6 : decode cX0_setLimit 6 = .ok (.ifCond .ne 12, 3) := by decide +kernel
theorem dX0_setLimit_9 : decode cX0_setLimit 9 = .ok (.iload_n 2, 1) := by decide +kernel
theorem dX0_setLimit_10 : decode cX0_setLimit 10 = .ok (.iconst 1, 1) := by decide +kernel
theorem dX0_setLimit_11 : decode cX0_setLimit 11 = .ok (.iconst 4, 1) := by decide +kernel
theorem dX0_setLimit_12 : decode cX0_setLimit 12 = .ok (.invokestatic 82, 3) := by decide +kernel
theorem dX0_setLimit_15 : decode cX0_setLimit 15 = .ok (.ifCond .eq 5, 3) := by decide +kernel
theorem dX0_setLimit_18 : decode cX0_setLimit 18 = .ok (.iconst (-1), 1) := by decide +kernel
theorem dX0_setLimit_19 : decode cX0_setLimit 19 = .ok (.ireturn, 1) := by decide +kernel
theorem dX0_setLimit_20 : decode cX0_setLimit 20 = .ok (.aload_n 0, 1) := by decide +kernel
theorem dX0_setLimit_21 : decode cX0_setLimit 21 = .ok (.getfield 17, 3) := by decide +kernel
theorem dX0_setLimit_24 : decode cX0_setLimit 24 = .ok (.iload_n 1, 1) := by decide +kernel
theorem dX0_setLimit_25 : decode cX0_setLimit 25 = .ok (.iaload, 1) := by decide +kernel
theorem dX0_setLimit_26 : decode cX0_setLimit 26 = .ok (.istore_n 3, 1) := by decide +kernel
theorem dX0_setLimit_27 : decode cX0_setLimit 27 = .ok (.aload_n 0, 1) := by decide +kernel
theorem dX0_setLimit_28 : decode cX0_setLimit 28 = .ok (.getfield 17, 3) := by decide +kernel
theorem dX0_setLimit_31 : decode cX0_setLimit 31 = .ok (.iload_n 1, 1) := by decide +kernel
theorem dX0_setLimit_32 : decode cX0_setLimit 32 = .ok (.iload_n 2, 1) := by decide +kernel
theorem dX0_setLimit_33 : decode cX0_setLimit 33 = .ok (.iastore, 1) := by decide +kernel
theorem dX0_setLimit_34 : decode cX0_setLimit 34 = .ok (.iload_n 3, 1) := by decide +kernel
theorem dX0_setLimit_35 : decode cX0_setLimit 35 = .ok (.ireturn, 1) := by decide +kernel
set_option maxRecDepth 20000 in
theorem ggX0_setPolicy_X0_hasRoom : GoodIn wsX0_setPolicy wsX0_hasRoom := goodIn_r _ [8, 9, 13, 14, 15, 16, 17, 18, 19, 20] (by decide +kernel) (by decide +kernel)
set_option maxRecDepth 20000 in
theorem gX0_setPolicy_X0_hasRoom : GoodIn wsX0_setPolicy (wsV RX0 78 RX0 yX0_hasRoom wsX0_hasRoom) := goodIn_app (goodIn_of _ (by decide +kernel)) ggX0_setPolicy_X0_hasRoom
set_option maxRecDepth 20000 in
theorem ggX0_setPolicy_X3_outside : GoodIn wsX0_setPolicy wsX3_outside := goodIn_r _ [12] (by decide +kernel) (by decide +kernel)
set_option maxRecDepth 20000 in
theorem gX0_setPolicy_X3_outside_n82 : GoodIn wsX0_setPolicy (wsX3_outside) := ggX0_setPolicy_X3_outside
theorem dX0_setPolicy_0 : decode cX0_setPolicy 0 = .ok (.aload_n 0, 1) := by decide +kernel
theorem dX0_setPolicy_1 : decode cX0_setPolicy 1 = .ok (.iload_n 1, 1) := by decide +kernel
theorem dX0_setPolicy_2 : decode cX0_setPolicy 2 = .ok (.invokevirtual 78, 3) := by decide +kernel
theorem dX0_setPolicy_5 : decode cX0_setPolicy 5 = .ok (.ifCond .eq 22, 3) := by decide +kernel
theorem dX0_setPolicy_8 : decode cX0_setPolicy 8 = .ok (.iload_n 2, 1) := by decide +kernel
theorem dX0_setPolicy_9 : decode cX0_setPolicy 9 = .ok (.iconst 0, 1) := by decide +kernel
theorem dX0_setPolicy_10 : decode cX0_setPolicy 10 = .ok (.bipush 99, 2) := by decide +kernel
theorem dX0_setPolicy_12 : decode cX0_setPolicy 12 = .ok (.invokestatic 82, 3) := by decide +kernel
theorem dX0_setPolicy_15 : decode cX0_setPolicy 15 = .ok (.ifCond .ne 12, 3) := by decide +kernel
theorem dX0_setPolicy_18 : decode cX0_setPolicy 18 = .ok (.iload_n 3, 1) := by decide +kernel
theorem dX0_setPolicy_19 : decode cX0_setPolicy 19 = .ok (.iconst 0, 1) := by decide +kernel
theorem dX0_setPolicy_20 : decode cX0_setPolicy 20 = .ok (.iconst 2, 1) := by decide +kernel
theorem dX0_setPolicy_21 : decode cX0_setPolicy 21 = .ok (.invokestatic 82, 3) := by decide +kernel
theorem dX0_setPolicy_24 : decode cX0_setPolicy 24 = .ok (.ifCond .eq 5, 3) := by decide +kernel
theorem dX0_setPolicy_27 : decode cX0_setPolicy 27 = .ok (.iconst (-1), 1) := by decide +kernel
theorem dX0_setPolicy_28 : decode cX0_setPolicy 28 = .ok (.ireturn, 1) := by decide +kernel
theorem dX0_setPolicy_29 : decode cX0_setPolicy 29 = .ok (.aload_n 0, 1) := by decide +kernel
theorem dX0_setPolicy_30 : decode cX0_setPolicy 30 = .ok (.getfield 11, 3) := by decide +kernel
theorem dX0_setPolicy_33 : decode cX0_setPolicy 33 = .ok (.iload_n 1, 1) := by decide +kernel
theorem dX0_setPolicy_34 : decode cX0_setPolicy 34 = .ok (.aaload, 1) := by decide +kernel
theorem dX0_setPolicy_35 : decode cX0_setPolicy 35 = .ok (.astore 4, 2) := by decide +kernel
theorem dX0_setPolicy_37 : decode cX0_setPolicy 37 = .ok (.bipush 10, 2) := by decide +kernel
theorem dX0_setPolicy_39 : decode cX0_setPolicy 39 = .ok (.aload 4, 2) := by decide +kernel
theorem dX0_setPolicy_41 : decode cX0_setPolicy 41 = .ok (.getfield 98, 3) := by decide +kernel
theorem dX0_setPolicy_44 : decode cX0_setPolicy 44 = .ok (.imul, 1) := by decide +kernel
theorem dX0_setPolicy_45 : decode cX0_setPolicy 45 = .ok (.aload 4, 2) := by decide +kernel
theorem dX0_setPolicy_47 : decode cX0_setPolicy 47 = .ok (.getfield 101, 3) := by decide +kernel
theorem dX0_setPolicy_50 : decode cX0_setPolicy 50 = .ok (.iadd, 1) := by decide +kernel
theorem dX0_setPolicy_51 : decode cX0_setPolicy 51 = .ok (.istore 5, 2) := by decide +kernel
theorem dX0_setPolicy_53 : decode cX0_setPolicy 53 = .ok (.aload 4, 2) := by decide +kernel
theorem dX0_setPolicy_55 : decode cX0_setPolicy 55 = .ok (.iload_n 2, 1) := by decide +kernel
theorem dX0_setPolicy_56 : decode cX0_setPolicy 56 = .ok (.putfield 98, 3) := by decide +kernel
theorem dX0_setPolicy_59 : decode cX0_setPolicy 59 = .ok (.aload 4, 2) := by decide +kernel
theorem dX0_setPolicy_61 : decode cX0_setPolicy 61 = .ok (.iload_n 3, 1) := by decide +kernel
theorem dX0_setPolicy_62 : decode cX0_setPolicy 62 = .ok (.putfield 101, 3) := by decide +kernel
theorem dX0_setPolicy_65 : decode cX0_setPolicy 65 = .ok (.iload 5, 2) := by decide +kernel
theorem dX0_setPolicy_67 : decode cX0_setPolicy 67 = .ok (.ireturn, 1) := by decide +kernel
set_option maxRecDepth 20000 in
theorem ggX0_planUse_X0_hasRoom : GoodIn wsX0_planUse wsX0_hasRoom := goodIn_r _ [11, 12, 16, 17, 18, 19, 20, 21, 22, 23] (by decide +kernel) (by decide +kernel)
set_option maxRecDepth 20000 in
theorem gX0_planUse_X0_hasRoom : GoodIn wsX0_planUse (wsV RX0 78 RX0 yX0_hasRoom wsX0_hasRoom) := goodIn_app (goodIn_of _ (by decide +kernel)) ggX0_planUse_X0_hasRoom
set_option maxRecDepth 20000 in
theorem ggX0_planUse_X3_outside : GoodIn wsX0_planUse wsX3_outside := goodIn_r _ [15] (by decide +kernel) (by decide +kernel)
set_option maxRecDepth 20000 in
theorem gX0_planUse_X3_outside_n82 : GoodIn wsX0_planUse (wsX3_outside) := ggX0_planUse_X3_outside
theorem dX0_planUse_0 : decode cX0_planUse 0 = .ok (.aload_n 0, 1) := by decide +kernel
theorem dX0_planUse_1 : decode cX0_planUse 1 = .ok (.iload_n 1, 1) := by decide +kernel
theorem dX0_planUse_2 : decode cX0_planUse 2 = .ok (.invokevirtual 78, 3) := by decide +kernel
theorem dX0_planUse_5 : decode cX0_planUse 5 = .ok (.ifCond .eq 26, 3) := by decide +kernel
theorem dX0_planUse_8 : decode cX0_planUse 8 = .ok (.iload_n 2, 1) := by decide +kernel
theorem dX0_planUse_9 : decode cX0_planUse 9 = .ok (.aload_n 0, 1) := by decide +kernel
theorem dX0_planUse_10 : decode cX0_planUse 10 = .ok (.getfield 48, 3) := by decide +kernel
theorem dX0_planUse_13 : decode cX0_planUse 13 = .ok (.ldc 104, 2) := by decide +kernel
theorem dX0_planUse_15 : decode cX0_planUse 15 = .ok (.invokestatic 82, 3) := by decide +kernel
theorem dX0_planUse_18 : decode cX0_planUse 18 = .ok (.ifCond .ne 13, 3) := by decide +kernel
theorem dX0_planUse_21 : decode cX0_planUse 21 = .ok (.iload_n 3, 1) := by decide +kernel
theorem dX0_planUse_22 : decode cX0_planUse 22 = .ok (.iconst 1, 1) := by decide +kernel
theorem dX0_planUse_23 : decode cX0_planUse 23 = .ok (.bipush 50, 2) := by decide +kernel
theorem dX0_planUse_25 : decode cX0_planUse 25 = .ok (.invokestatic 82, 3) := by decide +kernel
theorem dX0_planUse_28 : decode cX0_planUse 28 = .ok (.ifCond .eq 5, 3) := by decide +kernel
theorem dX0_planUse_31 : decode cX0_planUse 31 = .ok (.iconst (-1), 1) := by decide +kernel
theorem dX0_planUse_32 : decode cX0_planUse 32 = .ok (.ireturn, 1) := by decide +kernel
theorem dX0_planUse_33 : decode cX0_planUse 33 = .ok (.aload_n 0, 1) := by decide +kernel
theorem dX0_planUse_34 : decode cX0_planUse 34 = .ok (.getfield 45, 3) := by decide +kernel
theorem dX0_planUse_37 : decode cX0_planUse 37 = .ok (.bipush 12, 2) := by decide +kernel
theorem dX0_planUse_39 : decode cX0_planUse 39 = .ok (.if_icmp .lt 6, 3) := by decide +kernel
theorem dX0_planUse_42 : decode cX0_planUse 42 = .ok (.bipush (-3), 2) := by decide +kernel
theorem dX0_planUse_44 : decode cX0_planUse 44 = .ok (.ireturn, 1) := by decide +kernel
theorem dX0_planUse_45 : decode cX0_planUse 45 = .ok (.aload_n 0, 1) := by decide +kernel
theorem dX0_planUse_46 : decode cX0_planUse 46 = .ok (.getfield 21, 3) := by decide +kernel
theorem dX0_planUse_49 : decode cX0_planUse 49 = .ok (.aload_n 0, 1) := by decide +kernel
theorem dX0_planUse_50 : decode cX0_planUse 50 = .ok (.getfield 45, 3) := by decide +kernel
theorem dX0_planUse_53 : decode cX0_planUse 53 = .ok (.iload_n 1, 1) := by decide +kernel
theorem dX0_planUse_54 : decode cX0_planUse 54 = .ok (.iastore, 1) := by decide +kernel
theorem dX0_planUse_55 : decode cX0_planUse 55 = .ok (.aload_n 0, 1) := by decide +kernel
theorem dX0_planUse_56 : decode cX0_planUse 56 = .ok (.getfield 24, 3) := by decide +kernel
theorem dX0_planUse_59 : decode cX0_planUse 59 = .ok (.aload_n 0, 1) := by decide +kernel
theorem dX0_planUse_60 : decode cX0_planUse 60 = .ok (.getfield 45, 3) := by decide +kernel
theorem dX0_planUse_63 : decode cX0_planUse 63 = .ok (.iload_n 2, 1) := by decide +kernel
theorem dX0_planUse_64 : decode cX0_planUse 64 = .ok (.iastore, 1) := by decide +kernel
theorem dX0_planUse_65 : decode cX0_planUse 65 = .ok (.aload_n 0, 1) := by decide +kernel
theorem dX0_planUse_66 : decode cX0_planUse 66 = .ok (.getfield 27, 3) := by decide +kernel
theorem dX0_planUse_69 : decode cX0_planUse 69 = .ok (.aload_n 0, 1) := by decide +kernel
theorem dX0_planUse_70 : decode cX0_planUse 70 = .ok (.getfield 45, 3) := by decide +kernel
theorem dX0_planUse_73 : decode cX0_planUse 73 = .ok (.iload_n 3, 1) := by decide +kernel
theorem dX0_planUse_74 : decode cX0_planUse 74 = .ok (.iastore, 1) := by decide +kernel
theorem dX0_planUse_75 : decode cX0_planUse 75 = .ok (.aload_n 0, 1) := by decide +kernel
theorem dX0_planUse_76 : decode cX0_planUse 76 = .ok (.dup, 1) := by decide +kernel
theorem dX0_planUse_77 : decode cX0_planUse 77 = .ok (.getfield 45, 3) := by decide +kernel
theorem dX0_planUse_80 : decode cX0_planUse 80 = .ok (.iconst 1, 1) := by decide +kernel
theorem dX0_planUse_81 : decode cX0_planUse 81 = .ok (.iadd, 1) := by decide +kernel
theorem dX0_planUse_82 : decode cX0_planUse 82 = .ok (.putfield 45, 3) := by decide +kernel
theorem dX0_planUse_85 : decode cX0_planUse 85 = .ok (.aload_n 0, 1) := by decide +kernel
theorem dX0_planUse_86 : decode cX0_planUse 86 = .ok (.getfield 45, 3) := by decide +kernel
theorem dX0_planUse_89 : decode cX0_planUse 89 = .ok (.ireturn, 1) := by decide +kernel
set_option maxRecDepth 20000 in
theorem ggX0_dropUse_X0_hasUse : GoodIn wsX0_dropUse wsX0_hasUse := goodIn_r _ [6, 7, 14, 15, 16, 17, 18, 19, 20, 21] (by decide +kernel) (by decide +kernel)
set_option maxRecDepth 20000 in
theorem gX0_dropUse_X0_hasUse : GoodIn wsX0_dropUse (wsV RX0 105 RX0 yX0_hasUse wsX0_hasUse) := goodIn_app (goodIn_of _ (by decide +kernel)) ggX0_dropUse_X0_hasUse
set_option maxRecDepth 20000 in
theorem ggX0_dropUse_X0_removeUse : GoodIn wsX0_dropUse wsX0_removeUse := goodIn_r _ [11, 7, 1, 12, 13, 14, 15, 16, 17, 18, 19, 20, 21] (by decide +kernel) (by decide +kernel)
set_option maxRecDepth 20000 in
theorem gX0_dropUse_X0_removeUse : GoodIn wsX0_dropUse (wsV RX0 108 RX0 yX0_removeUse wsX0_removeUse) := goodIn_app (goodIn_of _ (by decide +kernel)) ggX0_dropUse_X0_removeUse
theorem dX0_dropUse_0 : decode cX0_dropUse 0 = .ok (.aload_n 0, 1) := by decide +kernel
theorem dX0_dropUse_1 : decode cX0_dropUse 1 = .ok (.iload_n 1, 1) := by decide +kernel
theorem dX0_dropUse_2 : decode cX0_dropUse 2 = .ok (.invokevirtual 105, 3) := by decide +kernel
theorem dX0_dropUse_5 : decode cX0_dropUse 5 = .ok (.ifCond .ne 5, 3) := by decide +kernel
theorem dX0_dropUse_8 : decode cX0_dropUse 8 = .ok (.iconst (-1), 1) := by decide +kernel
theorem dX0_dropUse_9 : decode cX0_dropUse 9 = .ok (.ireturn, 1) := by decide +kernel
theorem dX0_dropUse_10 : decode cX0_dropUse 10 = .ok (.aload_n 0, 1) := by decide +kernel
theorem dX0_dropUse_11 : decode cX0_dropUse 11 = .ok (.getfield 21, 3) := by decide +kernel
theorem dX0_dropUse_14 : decode cX0_dropUse 14 = .ok (.iload_n 1, 1) := by decide +kernel
theorem dX0_dropUse_15 : decode cX0_dropUse 15 = .ok (.iaload, 1) := by decide +kernel
theorem dX0_dropUse_16 : decode cX0_dropUse 16 = .ok (.istore_n 2, 1) := by decide +kernel
theorem dX0_dropUse_17 : decode cX0_dropUse 17 = .ok (.aload_n 0, 1) := by decide +kernel
theorem dX0_dropUse_18 : decode cX0_dropUse 18 = .ok (.iload_n 1, 1) := by decide +kernel
theorem dX0_dropUse_19 : decode cX0_dropUse 19 = .ok (.invokevirtual 108, 3) := by decide +kernel
theorem dX0_dropUse_22 : decode cX0_dropUse 22 = .ok (.iload_n 2, 1) := by decide +kernel
theorem dX0_dropUse_23 : decode cX0_dropUse 23 = .ok (.ireturn, 1) := by decide +kernel
theorem dX0_removeUse_0 : decode cX0_removeUse 0 = .ok (.iload_n 1, 1) := by decide +kernel
theorem dX0_removeUse_1 : decode cX0_removeUse 1 = .ok (.istore_n 2, 1) := by decide +kernel
theorem dX0_removeUse_2 : decode cX0_removeUse 2 = .ok (.iload_n 2, 1) := by decide +kernel
theorem dX0_removeUse_3 : decode cX0_removeUse 3 = .ok (.iconst 1, 1) := by decide +kernel
theorem dX0_removeUse_4 : decode cX0_removeUse 4 = .ok (.iadd, 1) := by decide +kernel
theorem dX0_removeUse_5 : decode cX0_removeUse 5 = .ok (.aload_n 0, 1) := by decide +kernel
theorem dX0_removeUse_6 : decode cX0_removeUse 6 = .ok (.getfield 45, 3) := by decide +kernel
theorem dX0_removeUse_9 : decode cX0_removeUse 9 = .ok (.if_icmp .ge 51, 3) := by decide +kernel
theorem dX0_removeUse_12 : decode cX0_removeUse 12 = .ok (.aload_n 0, 1) := by decide +kernel
theorem dX0_removeUse_13 : decode cX0_removeUse 13 = .ok (.getfield 21, 3) := by decide +kernel
theorem dX0_removeUse_16 : decode cX0_removeUse 16 = .ok (.iload_n 2, 1) := by decide +kernel
theorem dX0_removeUse_17 : decode cX0_removeUse 17 = .ok (.aload_n 0, 1) := by decide +kernel
theorem dX0_removeUse_18 : decode cX0_removeUse 18 = .ok (.getfield 21, 3) := by decide +kernel
theorem dX0_removeUse_21 : decode cX0_removeUse 21 = .ok (.iload_n 2, 1) := by decide +kernel
theorem dX0_removeUse_22 : decode cX0_removeUse 22 = .ok (.iconst 1, 1) := by decide +kernel
theorem dX0_removeUse_23 : decode cX0_removeUse 23 = .ok (.iadd, 1) := by decide +kernel
theorem dX0_removeUse_24 : decode cX0_removeUse 24 = .ok (.iaload, 1) := by decide +kernel
theorem dX0_removeUse_25 : decode cX0_removeUse 25 = .ok (.iastore, 1) := by decide +kernel
theorem dX0_removeUse_26 : decode cX0_removeUse 26 = .ok (.aload_n 0, 1) := by decide +kernel
theorem dX0_removeUse_27 : decode cX0_removeUse 27 = .ok (.getfield 24, 3) := by decide +kernel
theorem dX0_removeUse_30 : decode cX0_removeUse 30 = .ok (.iload_n 2, 1) := by decide +kernel
theorem dX0_removeUse_31 : decode cX0_removeUse 31 = .ok (.aload_n 0, 1) := by decide +kernel
theorem dX0_removeUse_32 : decode cX0_removeUse 32 = .ok (.getfield 24, 3) := by decide +kernel
theorem dX0_removeUse_35 : decode cX0_removeUse 35 = .ok (.iload_n 2, 1) := by decide +kernel
theorem dX0_removeUse_36 : decode cX0_removeUse 36 = .ok (.iconst 1, 1) := by decide +kernel
theorem dX0_removeUse_37 : decode cX0_removeUse 37 = .ok (.iadd, 1) := by decide +kernel
theorem dX0_removeUse_38 : decode cX0_removeUse 38 = .ok (.iaload, 1) := by decide +kernel
theorem dX0_removeUse_39 : decode cX0_removeUse 39 = .ok (.iastore, 1) := by decide +kernel
theorem dX0_removeUse_40 : decode cX0_removeUse 40 = .ok (.aload_n 0, 1) := by decide +kernel
theorem dX0_removeUse_41 : decode cX0_removeUse 41 = .ok (.getfield 27, 3) := by decide +kernel
theorem dX0_removeUse_44 : decode cX0_removeUse 44 = .ok (.iload_n 2, 1) := by decide +kernel
theorem dX0_removeUse_45 : decode cX0_removeUse 45 = .ok (.aload_n 0, 1) := by decide +kernel
theorem dX0_removeUse_46 : decode cX0_removeUse 46 = .ok (.getfield 27, 3) := by decide +kernel
theorem dX0_removeUse_49 : decode cX0_removeUse 49 = .ok (.iload_n 2, 1) := by decide +kernel
theorem dX0_removeUse_50 : decode cX0_removeUse 50 = .ok (.iconst 1, 1) := by decide +kernel
theorem dX0_removeUse_51 : decode cX0_removeUse 51 = .ok (.iadd, 1) := by decide +kernel
theorem dX0_removeUse_52 : decode cX0_removeUse 52 = .ok (.iaload, 1) := by decide +kernel
theorem dX0_removeUse_53 : decode cX0_removeUse 53 = .ok (.iastore, 1) := by decide +kernel
theorem dX0_removeUse_54 : decode cX0_removeUse 54 = .ok (.iinc 2 1, 3) := by decide +kernel
theorem dX0_removeUse_57 : decode cX0_removeUse 57 = .ok (.goto (-55), 3) := by decide +kernel
theorem dX0_removeUse_60 : decode cX0_removeUse 60 = .ok (.aload_n 0, 1) := by decide +kernel
theorem dX0_removeUse_61 : decode cX0_removeUse 61 = .ok (.dup, 1) := by decide +kernel
theorem dX0_removeUse_62 : decode cX0_removeUse 62 = .ok (.getfield 45, 3) := by decide +kernel
theorem dX0_removeUse_65 : decode cX0_removeUse 65 = .ok (.iconst 1, 1) := by decide +kernel
theorem dX0_removeUse_66 : decode cX0_removeUse 66 = .ok (.isub, 1) := by decide +kernel
theorem dX0_removeUse_67 : decode cX0_removeUse 67 = .ok (.putfield 45, 3) := by decide +kernel
theorem dX0_removeUse_70 : decode cX0_removeUse 70 = .ok (.return_, 1) := by decide +kernel
theorem dX0_usesOf_0 : decode cX0_usesOf 0 = .ok (.iconst 0, 1) := by decide +kernel
theorem dX0_usesOf_1 : decode cX0_usesOf 1 = .ok (.istore_n 2, 1) := by decide +kernel
theorem dX0_usesOf_2 : decode cX0_usesOf 2 = .ok (.iconst 0, 1) := by decide +kernel
theorem dX0_usesOf_3 : decode cX0_usesOf 3 = .ok (.istore_n 3, 1) := by decide +kernel
theorem dX0_usesOf_4 : decode cX0_usesOf 4 = .ok (.iload_n 3, 1) := by decide +kernel
theorem dX0_usesOf_5 : decode cX0_usesOf 5 = .ok (.aload_n 0, 1) := by decide +kernel
theorem dX0_usesOf_6 : decode cX0_usesOf 6 = .ok (.getfield 45, 3) := by decide +kernel
theorem dX0_usesOf_9 : decode cX0_usesOf 9 = .ok (.if_icmp .ge 22, 3) := by decide +kernel
theorem dX0_usesOf_12 : decode cX0_usesOf 12 = .ok (.aload_n 0, 1) := by decide +kernel
theorem dX0_usesOf_13 : decode cX0_usesOf 13 = .ok (.getfield 21, 3) := by decide +kernel
theorem dX0_usesOf_16 : decode cX0_usesOf 16 = .ok (.iload_n 3, 1) := by decide +kernel
theorem dX0_usesOf_17 : decode cX0_usesOf 17 = .ok (.iaload, 1) := by decide +kernel
theorem dX0_usesOf_18 : decode cX0_usesOf 18 = .ok (.iload_n 1, 1) := by decide +kernel
theorem dX0_usesOf_19 : decode cX0_usesOf 19 = .ok (.if_icmp .ne 6, 3) := by decide +kernel
theorem dX0_usesOf_22 : decode cX0_usesOf 22 = .ok (.iinc 2 1, 3) := by decide +kernel
theorem dX0_usesOf_25 : decode cX0_usesOf 25 = .ok (.iinc 3 1, 3) := by decide +kernel
theorem dX0_usesOf_28 : decode cX0_usesOf 28 = .ok (.goto (-24), 3) := by decide +kernel
theorem dX0_usesOf_31 : decode cX0_usesOf 31 = .ok (.iload_n 2, 1) := by decide +kernel
theorem dX0_usesOf_32 : decode cX0_usesOf 32 = .ok (.ireturn, 1) := by decide +kernel
theorem dX0_firstUseOf_0 : decode cX0_firstUseOf 0 = .ok (.iconst (-1), 1) := by decide +kernel
theorem dX0_firstUseOf_1 : decode cX0_firstUseOf 1 = .ok (.istore_n 2, 1) := by decide +kernel
theorem dX0_firstUseOf_2 : decode cX0_firstUseOf 2 = .ok (.iconst 0, 1) := by decide +kernel
theorem dX0_firstUseOf_3 : decode cX0_firstUseOf 3 = .ok (.istore_n 3, 1) := by decide +kernel
theorem dX0_firstUseOf_4 : decode cX0_firstUseOf 4 = .ok (.iconst 0, 1) := by decide +kernel
theorem dX0_firstUseOf_5 : decode cX0_firstUseOf 5 = .ok (.istore 4, 2) := by decide +kernel
theorem dX0_firstUseOf_7 : decode cX0_firstUseOf 7 = .ok (.iload 4, 2) := by decide +kernel
theorem dX0_firstUseOf_9 : decode cX0_firstUseOf 9 = .ok (.aload_n 0, 1) := by decide +kernel
theorem dX0_firstUseOf_10 : decode cX0_firstUseOf 10 = .ok (.getfield 45, 3) := by decide +kernel
theorem dX0_firstUseOf_13 : decode cX0_firstUseOf 13 = .ok (.if_icmp .ge 47, 3) := by decide +kernel
theorem dX0_firstUseOf_16 : decode cX0_firstUseOf 16 = .ok (.aload_n 0, 1) := by decide +kernel
theorem dX0_firstUseOf_17 : decode cX0_firstUseOf 17 = .ok (.getfield 21, 3) := by decide +kernel
theorem dX0_firstUseOf_20 : decode cX0_firstUseOf 20 = .ok (.iload 4, 2) := by decide +kernel
theorem dX0_firstUseOf_22 : decode cX0_firstUseOf 22 = .ok (.iaload, 1) := by decide +kernel
theorem dX0_firstUseOf_23 : decode cX0_firstUseOf 23 = .ok (.iload_n 1, 1) := by decide +kernel
theorem dX0_firstUseOf_24 : decode cX0_firstUseOf 24 = .ok (.if_icmp .ne 30, 3) := by decide +kernel
theorem dX0_firstUseOf_27 : decode cX0_firstUseOf 27 = .ok (.iload_n 2, 1) := by decide +kernel
theorem dX0_firstUseOf_28 : decode cX0_firstUseOf 28 = .ok (.iconst (-1), 1) := by decide +kernel
theorem dX0_firstUseOf_29 : decode cX0_firstUseOf 29 = .ok (.if_icmp .eq 14, 3) := by decide +kernel
theorem dX0_firstUseOf_32 : decode cX0_firstUseOf 32 = .ok (.aload_n 0, 1) := by decide +kernel
theorem dX0_firstUseOf_33 : decode cX0_firstUseOf 33 = .ok (.getfield 24, 3) := by decide +kernel
theorem dX0_firstUseOf_36 : decode cX0_firstUseOf 36 = .ok (.iload 4, 2) := by decide +kernel
theorem dX0_firstUseOf_38 : decode cX0_firstUseOf 38 = .ok (.iaload, 1) := by decide +kernel
theorem dX0_firstUseOf_39 : decode cX0_firstUseOf 39 = .ok (.iload_n 3, 1) := by decide +kernel
theorem dX0_firstUseOf_40 : decode cX0_firstUseOf 40 = .ok (.if_icmp .ge 14, 3) := by decide +kernel
theorem dX0_firstUseOf_43 : decode cX0_firstUseOf 43 = .ok (.iload 4, 2) := by decide +kernel
theorem dX0_firstUseOf_45 : decode cX0_firstUseOf 45 = .ok (.istore_n 2, 1) := by decide +kernel
theorem dX0_firstUseOf_46 : decode cX0_firstUseOf 46 = .ok (.aload_n 0, 1) := by decide +kernel
theorem dX0_firstUseOf_47 : decode cX0_firstUseOf 47 = .ok (.getfield 24, 3) := by decide +kernel
theorem dX0_firstUseOf_50 : decode cX0_firstUseOf 50 = .ok (.iload 4, 2) := by decide +kernel
theorem dX0_firstUseOf_52 : decode cX0_firstUseOf 52 = .ok (.iaload, 1) := by decide +kernel
theorem dX0_firstUseOf_53 : decode cX0_firstUseOf 53 = .ok (.istore_n 3, 1) := by decide +kernel
theorem dX0_firstUseOf_54 : decode cX0_firstUseOf 54 = .ok (.iinc 4 1, 3) := by decide +kernel
theorem dX0_firstUseOf_57 : decode cX0_firstUseOf 57 = .ok (.goto (-50), 3) := by decide +kernel
theorem dX0_firstUseOf_60 : decode cX0_firstUseOf 60 = .ok (.iload_n 2, 1) := by decide +kernel
theorem dX0_firstUseOf_61 : decode cX0_firstUseOf 61 = .ok (.ireturn, 1) := by decide +kernel
set_option maxRecDepth 20000 in
theorem ggX0_isCalled_X0_firstUseOf : GoodIn wsX0_isCalled wsX0_firstUseOf := goodIn_r _ [10, 11, 12, 4, 28, 29, 30, 31, 32, 33, 34, 35] (by decide +kernel) (by decide +kernel)
set_option maxRecDepth 20000 in
theorem gX0_isCalled_X0_firstUseOf : GoodIn wsX0_isCalled (wsV RX0 112 RX0 yX0_firstUseOf wsX0_firstUseOf) := goodIn_app (goodIn_of _ (by decide +kernel)) ggX0_isCalled_X0_firstUseOf
set_option maxRecDepth 20000 in
theorem ggX0_isCalled_X0_hasUse : GoodIn wsX0_isCalled wsX0_hasUse := goodIn_r _ [16, 11, 28, 29, 30, 31, 32, 33, 34, 35] (by decide +kernel) (by decide +kernel)
set_option maxRecDepth 20000 in
theorem gX0_isCalled_X0_hasUse : GoodIn wsX0_isCalled (wsV RX0 105 RX0 yX0_hasUse wsX0_hasUse) := goodIn_app (goodIn_of _ (by decide +kernel)) ggX0_isCalled_X0_hasUse
set_option maxRecDepth 20000 in
theorem ggX0_isCalled_X2_isGuessedByGap : GoodIn wsX0_isCalled wsX2_isGuessedByGap := goodIn_r _ [21, 22, 23, 24, 25, 26, 27, 36, 37, 38, 39, 40, 41, 42, 43, 44, 45, 46, 47, 48, 49, 50] (by decide +kernel) (by decide +kernel)
set_option maxRecDepth 20000 in
theorem gX0_isCalled_X2_isGuessedByGap : GoodIn wsX0_isCalled (wsV RX0 118 RX2 yX2_isGuessedByGap wsX2_isGuessedByGap) := goodIn_app (goodIn_of _ (by decide +kernel)) ggX0_isCalled_X2_isGuessedByGap
theorem dX0_isCalled_0 : decode cX0_isCalled 0 = .ok (.aload_n 0, 1) := by decide +kernel
theorem dX0_isCalled_1 : decode cX0_isCalled 1 = .ok (.getfield 11, 3) := by decide +kernel
theorem dX0_isCalled_4 : decode cX0_isCalled 4 = .ok (.iload_n 1, 1) := by decide +kernel
theorem dX0_isCalled_5 : decode cX0_isCalled 5 = .ok (.aaload, 1) := by decide +kernel
theorem dX0_isCalled_6 : decode cX0_isCalled 6 = .ok (.astore_n 2, 1) := by decide +kernel
theorem dX0_isCalled_7 : decode cX0_isCalled 7 = .ok (.aload_n 0, 1) := by decide +kernel
theorem dX0_isCalled_8 : decode cX0_isCalled 8 = .ok (.iload_n 1, 1) := by decide +kernel
theorem dX0_isCalled_9 : decode cX0_isCalled 9 = .ok (.invokevirtual 112, 3) := by decide +kernel
theorem dX0_isCalled_12 : decode cX0_isCalled 12 = .ok (.istore_n 3, 1) := by decide +kernel
theorem dX0_isCalled_13 : decode cX0_isCalled 13 = .ok (.aload_n 0, 1) := by decide +kernel
theorem dX0_isCalled_14 : decode cX0_isCalled 14 = .ok (.iload_n 3, 1) := by decide +kernel
theorem dX0_isCalled_15 : decode cX0_isCalled 15 = .ok (.invokevirtual 105, 3) := by decide +kernel
theorem dX0_isCalled_18 : decode cX0_isCalled 18 = .ok (.ifCond .eq 41, 3) := by decide +kernel
theorem dX0_isCalled_21 : decode cX0_isCalled 21 = .ok (.aload_n 2, 1) := by decide +kernel
theorem dX0_isCalled_22 : decode cX0_isCalled 22 = .ok (.getfield 101, 3) := by decide +kernel
theorem dX0_isCalled_25 : decode cX0_isCalled 25 = .ok (.iconst 1, 1) := by decide +kernel
theorem dX0_isCalled_26 : decode cX0_isCalled 26 = .ok (.if_icmp .ne 12, 3) := by decide +kernel
theorem dX0_isCalled_29 : decode cX0_isCalled 29 = .ok (.aload_n 2, 1) := by decide +kernel
theorem dX0_isCalled_30 : decode cX0_isCalled 30 = .ok (.getfield 115, 3) := by decide +kernel
theorem dX0_isCalled_33 : decode cX0_isCalled 33 = .ok (.iconst 1, 1) := by decide +kernel
theorem dX0_isCalled_34 : decode cX0_isCalled 34 = .ok (.iaload, 1) := by decide +kernel
theorem dX0_isCalled_35 : decode cX0_isCalled 35 = .ok (.goto 4, 3) := by decide +kernel
theorem dX0_isCalled_38 : decode cX0_isCalled 38 = .ok (.iconst 0, 1) := by decide +kernel
theorem dX0_isCalled_39 : decode cX0_isCalled 39 = .ok (.istore 4, 2) := by decide +kernel
theorem dX0_isCalled_41 : decode cX0_isCalled 41 = .ok (.aload_n 0, 1) := by decide +kernel
theorem dX0_isCalled_42 : decode cX0_isCalled 42 = .ok (.getfield 24, 3) := by decide +kernel
theorem dX0_isCalled_45 : decode cX0_isCalled 45 = .ok (.iload_n 3, 1) := by decide +kernel
theorem dX0_isCalled_46 : decode cX0_isCalled 46 = .ok (.iaload, 1) := by decide +kernel
theorem dX0_isCalled_47 : decode cX0_isCalled 47 = .ok (.iload 4, 2) := by decide +kernel
theorem dX0_isCalled_49 : decode cX0_isCalled 49 = .ok (.isub, 1) := by decide +kernel
theorem dX0_isCalled_50 : decode cX0_isCalled 50 = .ok (.aload_n 0, 1) := by decide +kernel
theorem dX0_isCalled_51 : decode cX0_isCalled 51 = .ok (.getfield 48, 3) := by decide +kernel
theorem dX0_isCalled_54 : decode cX0_isCalled 54 = .ok (.if_icmp .gt 5, 3) := by decide +kernel
theorem dX0_isCalled_57 : decode cX0_isCalled 57 = .ok (.iconst 1, 1) := by decide +kernel
theorem dX0_isCalled_58 : decode cX0_isCalled 58 = .ok (.ireturn, 1) := by decide +kernel
theorem dX0_isCalled_59 : decode cX0_isCalled 59 = .ok (.aload_n 2, 1) := by decide +kernel
theorem dX0_isCalled_60 : decode cX0_isCalled 60 = .ok (.aload_n 0, 1) := by decide +kernel
theorem dX0_isCalled_61 : decode cX0_isCalled 61 = .ok (.getfield 48, 3) := by decide +kernel
theorem dX0_isCalled_64 : decode cX0_isCalled 64 = .ok (.invokevirtual 118, 3) := by decide +kernel
theorem dX0_isCalled_67 : decode cX0_isCalled 67 = .ok (.ireturn, 1) := by decide +kernel
theorem dX0_isReady_0 : decode cX0_isReady 0 = .ok (.aload_n 0, 1) := by decide +kernel
theorem dX0_isReady_1 : decode cX0_isReady 1 = .ok (.getfield 11, 3) := by decide +kernel
theorem dX0_isReady_4 : decode cX0_isReady 4 = .ok (.iload_n 1, 1) := by decide +kernel
theorem dX0_isReady_5 : decode cX0_isReady 5 = .ok (.aaload, 1) := by decide +kernel
theorem dX0_isReady_6 : decode cX0_isReady 6 = .ok (.getfield 86, 3) := by decide +kernel
theorem dX0_isReady_9 : decode cX0_isReady 9 = .ok (.istore_n 2, 1) := by decide +kernel
theorem dX0_isReady_10 : decode cX0_isReady 10 = .ok (.iload_n 2, 1) := by decide +kernel
theorem dX0_isReady_11 : decode cX0_isReady 11 = .ok (.ifCond .lt 11, 3) := by decide +kernel
theorem dX0_isReady_14 : decode cX0_isReady 14 = .ok (.iload_n 2, 1) := by decide +kernel
theorem dX0_isReady_15 : decode cX0_isReady 15 = .ok (.aload_n 0, 1) := by decide +kernel
theorem dX0_isReady_16 : decode cX0_isReady 16 = .ok (.getfield 31, 3) := by decide +kernel
theorem dX0_isReady_19 : decode cX0_isReady 19 = .ok (.if_icmp .lt 5, 3) := by decide +kernel
theorem dX0_isReady_22 : decode cX0_isReady 22 = .ok (.iconst 1, 1) := by decide +kernel
theorem dX0_isReady_23 : decode cX0_isReady 23 = .ok (.ireturn, 1) := by decide +kernel
theorem dX0_isReady_24 : decode cX0_isReady 24 = .ok (.aload_n 0, 1) := by decide +kernel
theorem dX0_isReady_25 : decode cX0_isReady 25 = .ok (.getfield 11, 3) := by decide +kernel
theorem dX0_isReady_28 : decode cX0_isReady 28 = .ok (.iload_n 2, 1) := by decide +kernel
theorem dX0_isReady_29 : decode cX0_isReady 29 = .ok (.aaload, 1) := by decide +kernel
theorem dX0_isReady_30 : decode cX0_isReady 30 = .ok (.getfield 65, 3) := by decide +kernel
theorem dX0_isReady_33 : decode cX0_isReady 33 = .ok (.iconst 2, 1) := by decide +kernel
theorem dX0_isReady_34 : decode cX0_isReady 34 = .ok (.if_icmp .eq 16, 3) := by decide +kernel
theorem dX0_isReady_37 : decode cX0_isReady 37 = .ok (.aload_n 0, 1) := by decide +kernel
theorem dX0_isReady_38 : decode cX0_isReady 38 = .ok (.getfield 11, 3) := by decide +kernel
theorem dX0_isReady_41 : decode cX0_isReady 41 = .ok (.iload_n 2, 1) := by decide +kernel
theorem dX0_isReady_42 : decode cX0_isReady 42 = .ok (.aaload, 1) := by decide +kernel
theorem dX0_isReady_43 : decode cX0_isReady 43 = .ok (.getfield 65, 3) := by decide +kernel
theorem dX0_isReady_46 : decode cX0_isReady 46 = .ok (.iconst 3, 1) := by decide +kernel
theorem dX0_isReady_47 : decode cX0_isReady 47 = .ok (.if_icmp .ne 7, 3) := by decide +kernel
theorem dX0_isReady_50 : decode cX0_isReady 50 = .ok (.iconst 1, 1) := by decide +kernel
theorem dX0_isReady_51 : decode cX0_isReady 51 = .ok (.goto 4, 3) := by decide +kernel
theorem dX0_isReady_54 : decode cX0_isReady 54 = .ok (.iconst 0, 1) := by decide +kernel
theorem dX0_isReady_55 : decode cX0_isReady 55 = .ok (.ireturn, 1) := by decide +kernel
theorem dX0_railLetsWake_0 : decode cX0_railLetsWake 0 = .ok (.aload_n 0, 1) := by decide +kernel
theorem dX0_railLetsWake_1 : decode cX0_railLetsWake 1 = .ok (.getfield 11, 3) := by decide +kernel
theorem dX0_railLetsWake_4 : decode cX0_railLetsWake 4 = .ok (.iload_n 1, 1) := by decide +kernel
theorem dX0_railLetsWake_5 : decode cX0_railLetsWake 5 = .ok (.aaload, 1) := by decide +kernel
theorem dX0_railLetsWake_6 : decode cX0_railLetsWake 6 = .ok (.getfield 89, 3) := by decide +kernel
theorem dX0_railLetsWake_9 : decode cX0_railLetsWake 9 = .ok (.istore_n 2, 1) := by decide +kernel
theorem dX0_railLetsWake_10 : decode cX0_railLetsWake 10 = .ok (.iload_n 2, 1) := by decide +kernel
theorem dX0_railLetsWake_11 : decode cX0_railLetsWake 11 = .ok (.ifCond .lt 8, 3) := by decide +kernel
theorem dX0_railLetsWake_14 : decode cX0_railLetsWake 14 = .ok (.iload_n 2, 1) := by decide +kernel
theorem dX0_railLetsWake_15 : decode cX0_railLetsWake 15 = .ok (.iconst 2, 1) := by decide +kernel
theorem dX0_railLetsWake_16 : decode cX0_railLetsWake 16 = .ok (.if_icmp .lt 5, 3) := by decide +kernel
theorem dX0_railLetsWake_19 : decode cX0_railLetsWake 19 = .ok (.iconst 0, 1) := by decide +kernel
theorem dX0_railLetsWake_20 : decode cX0_railLetsWake 20 = .ok (.ireturn, 1) := by decide +kernel
theorem dX0_railLetsWake_21 : decode cX0_railLetsWake 21 = .ok (.iconst 0, 1) := by decide +kernel
theorem dX0_railLetsWake_22 : decode cX0_railLetsWake 22 = .ok (.istore_n 3, 1) := by decide +kernel
theorem dX0_railLetsWake_23 : decode cX0_railLetsWake 23 = .ok (.iconst 0, 1) := by decide +kernel
theorem dX0_railLetsWake_24 : decode cX0_railLetsWake 24 = .ok (.istore 4, 2) := by decide +kernel
theorem dX0_railLetsWake_26 : decode cX0_railLetsWake 26 = .ok (.iload 4, 2) := by decide +kernel
theorem dX0_railLetsWake_28 : decode cX0_railLetsWake 28 = .ok (.aload_n 0, 1) := by decide +kernel
theorem dX0_railLetsWake_29 : decode cX0_railLetsWake 29 = .ok (.getfield 31, 3) := by decide +kernel
theorem dX0_railLetsWake_32 : decode cX0_railLetsWake 32 = .ok (.if_icmp .ge 40, 3) := by decide +kernel
theorem dX0_railLetsWake_35 : decode cX0_railLetsWake 35 = .ok (.aload_n 0, 1) := by decide +kernel
theorem dX0_railLetsWake_36 : decode cX0_railLetsWake 36 = .ok (.getfield 11, 3) := by decide +kernel
theorem dX0_railLetsWake_39 : decode cX0_railLetsWake 39 = .ok (.iload 4, 2) := by decide +kernel
theorem dX0_railLetsWake_41 : decode cX0_railLetsWake 41 = .ok (.aaload, 1) := by decide +kernel
theorem dX0_railLetsWake_42 : decode cX0_railLetsWake 42 = .ok (.getfield 89, 3) := by decide +kernel
theorem dX0_railLetsWake_45 : decode cX0_railLetsWake 45 = .ok (.iload_n 2, 1) := by decide +kernel
theorem dX0_railLetsWake_46 : decode cX0_railLetsWake 46 = .ok (.if_icmp .ne 20, 3) := by decide +kernel
theorem dX0_railLetsWake_49 : decode cX0_railLetsWake 49 = .ok (.aload_n 0, 1) := by decide +kernel
theorem dX0_railLetsWake_50 : decode cX0_railLetsWake 50 = .ok (.getfield 11, 3) := by decide +kernel
theorem dX0_railLetsWake_53 : decode cX0_railLetsWake 53 = .ok (.iload 4, 2) := by decide +kernel
theorem dX0_railLetsWake_55 : decode cX0_railLetsWake 55 = .ok (.aaload, 1) := by decide +kernel
theorem dX0_railLetsWake_56 : decode cX0_railLetsWake 56 = .ok (.getfield 65, 3) := by decide +kernel
theorem dX0_railLetsWake_59 : decode cX0_railLetsWake 59 = .ok (.iconst 1, 1) := by decide +kernel
theorem dX0_railLetsWake_60 : decode cX0_railLetsWake 60 = .ok (.if_icmp .ne 6, 3) := by decide +kernel
theorem dX0_railLetsWake_63 : decode cX0_railLetsWake 63 = .ok (.iinc 3 1, 3) := by decide +kernel
theorem dX0_railLetsWake_66 : decode cX0_railLetsWake 66 = .ok (.iinc 4 1, 3) := by decide +kernel
theorem dX0_railLetsWake_69 : decode cX0_railLetsWake 69 = .ok (.goto (-43), 3) := by decide +kernel
theorem dX0_railLetsWake_72 : decode cX0_railLetsWake 72 = .ok (.iload_n 3, 1) := by decide +kernel
theorem dX0_railLetsWake_73 : decode cX0_railLetsWake 73 = .ok (.aload_n 0, 1) := by decide +kernel
theorem dX0_railLetsWake_74 : decode cX0_railLetsWake 74 = .ok (.getfield 17, 3) := by decide +kernel
theorem dX0_railLetsWake_77 : decode cX0_railLetsWake 77 = .ok (.iload_n 2, 1) := by decide +kernel
theorem dX0_railLetsWake_78 : decode cX0_railLetsWake 78 = .ok (.iaload, 1) := by decide +kernel
theorem dX0_railLetsWake_79 : decode cX0_railLetsWake 79 = .ok (.if_icmp .ge 7, 3) := by decide +kernel
theorem dX0_railLetsWake_82 : decode cX0_railLetsWake 82 = .ok (.iconst 1, 1) := by decide +kernel
theorem dX0_railLetsWake_83 : decode cX0_railLetsWake 83 = .ok (.goto 4, 3) := by decide +kernel
theorem dX0_railLetsWake_86 : decode cX0_railLetsWake 86 = .ok (.iconst 0, 1) := by decide +kernel
theorem dX0_railLetsWake_87 : decode cX0_railLetsWake 87 = .ok (.ireturn, 1) := by decide +kernel
theorem dX0_hasDependentsUp_0 : decode cX0_hasDependentsUp 0 = .ok (.iconst 0, 1) := by decide +kernel
theorem dX0_hasDependentsUp_1 : decode cX0_hasDependentsUp 1 = .ok (.istore_n 2, 1) := by decide +kernel
theorem dX0_hasDependentsUp_2 : decode cX0_hasDependentsUp 2 = .ok (.iload_n 2, 1) := by decide +kernel
theorem dX0_hasDependentsUp_3 : decode cX0_hasDependentsUp 3 = .ok (.aload_n 0, 1) := by decide +kernel
theorem dX0_hasDependentsUp_4 : decode cX0_hasDependentsUp 4 = .ok (.getfield 31, 3) := by decide +kernel
theorem dX0_hasDependentsUp_7 : decode cX0_hasDependentsUp 7 = .ok (.if_icmp .ge 36, 3) := by decide +kernel
theorem dX0_hasDependentsUp_10 : decode cX0_hasDependentsUp 10 = .ok (.aload_n 0, 1) := by decide +kernel
theorem dX0_hasDependentsUp_11 : decode cX0_hasDependentsUp 11 = .ok (.getfield 11, 3) := by decide +kernel
theorem dX0_hasDependentsUp_14 : decode cX0_hasDependentsUp 14 = .ok (.iload_n 2, 1) := by decide +kernel
theorem dX0_hasDependentsUp_15 : decode cX0_hasDependentsUp 15 = .ok (.aaload, 1) := by decide +kernel
theorem dX0_hasDependentsUp_16 : decode cX0_hasDependentsUp 16 = .ok (.getfield 86, 3) := by decide +kernel
theorem dX0_hasDependentsUp_19 : decode cX0_hasDependentsUp 19 = .ok (.iload_n 1, 1) := by decide +kernel
theorem dX0_hasDependentsUp_20 : decode cX0_hasDependentsUp 20 = .ok (.if_icmp .ne 17, 3) := by decide +kernel
theorem dX0_hasDependentsUp_23 : decode cX0_hasDependentsUp 23 = .ok (.aload_n 0, 1) := by decide +kernel
theorem dX0_hasDependentsUp_24 : decode cX0_hasDependentsUp 24 = .ok (.getfield 11, 3) := by decide +kernel
theorem dX0_hasDependentsUp_27 : decode cX0_hasDependentsUp 27 = .ok (.iload_n 2, 1) := by decide +kernel
theorem dX0_hasDependentsUp_28 : decode cX0_hasDependentsUp 28 = .ok (.aaload, 1) := by decide +kernel
theorem dX0_hasDependentsUp_29 : decode cX0_hasDependentsUp 29 = .ok (.getfield 65, 3) := by decide +kernel
theorem dX0_hasDependentsUp_32 : decode cX0_hasDependentsUp 32 = .ok (.ifCond .eq 5, 3) := by decide +kernel
theorem dX0_hasDependentsUp_35 : decode cX0_hasDependentsUp 35 = .ok (.iconst 1, 1) := by decide +kernel
theorem dX0_hasDependentsUp_36 : decode cX0_hasDependentsUp 36 = .ok (.ireturn, 1) := by decide +kernel
theorem dX0_hasDependentsUp_37 : decode cX0_hasDependentsUp 37 = .ok (.iinc 2 1, 3) := by decide +kernel
theorem dX0_hasDependentsUp_40 : decode cX0_hasDependentsUp 40 = .ok (.goto (-38), 3) := by decide +kernel
theorem dX0_hasDependentsUp_43 : decode cX0_hasDependentsUp 43 = .ok (.iconst 0, 1) := by decide +kernel
theorem dX0_hasDependentsUp_44 : decode cX0_hasDependentsUp 44 = .ok (.ireturn, 1) := by decide +kernel
set_option maxRecDepth 20000 in
theorem ggX0_wakeRoom_X0_hasRoom : GoodIn wsX0_wakeRoom wsX0_hasRoom := goodIn_r _ [8, 9, 31, 32, 33, 34, 35, 36, 37, 38] (by decide +kernel) (by decide +kernel)
set_option maxRecDepth 20000 in
theorem gX0_wakeRoom_X0_hasRoom : GoodIn wsX0_wakeRoom (wsV RX0 78 RX0 yX0_hasRoom wsX0_hasRoom) := goodIn_app (goodIn_of _ (by decide +kernel)) ggX0_wakeRoom_X0_hasRoom
set_option maxRecDepth 20000 in
theorem ggX0_wakeRoom_X0_isReady : GoodIn wsX0_wakeRoom wsX0_isReady := goodIn_r _ [13, 1, 14, 9, 2, 31, 32, 33, 34, 35, 36, 37, 38, 39, 40, 41, 42, 43, 44, 45, 46, 47, 48, 49, 50, 51, 52, 53] (by decide +kernel) (by decide +kernel)
set_option maxRecDepth 20000 in
theorem gX0_wakeRoom_X0_isReady : GoodIn wsX0_wakeRoom (wsV RX0 121 RX0 yX0_isReady wsX0_isReady) := goodIn_app (goodIn_of _ (by decide +kernel)) ggX0_wakeRoom_X0_isReady
set_option maxRecDepth 20000 in
theorem ggX0_wakeRoom_X0_railLetsWake : GoodIn wsX0_wakeRoom wsX0_railLetsWake := goodIn_r _ [18, 1, 19, 9, 2, 20, 31, 32, 33, 34, 35, 36, 37, 38, 39, 40, 41, 42, 43, 44, 45, 46, 47, 48, 49, 50, 51, 52, 53] (by decide +kernel) (by decide +kernel)
set_option maxRecDepth 20000 in
theorem gX0_wakeRoom_X0_railLetsWake : GoodIn wsX0_wakeRoom (wsV RX0 124 RX0 yX0_railLetsWake wsX0_railLetsWake) := goodIn_app (goodIn_of _ (by decide +kernel)) ggX0_wakeRoom_X0_railLetsWake
set_option maxRecDepth 20000 in
theorem ggX0_wakeRoom_X2_startWaking : GoodIn wsX0_wakeRoom wsX2_startWaking := goodIn_r _ [25, 26, 27, 28, 29, 30, 39, 40, 41, 42, 43, 44, 45, 46, 47, 48, 49, 50, 51, 52, 53] (by decide +kernel) (by decide +kernel)
set_option maxRecDepth 20000 in
theorem gX0_wakeRoom_X2_startWaking : GoodIn wsX0_wakeRoom (wsV RX0 127 RX2 yX2_startWaking wsX2_startWaking) := goodIn_app (goodIn_of _ (by decide +kernel)) ggX0_wakeRoom_X2_startWaking
theorem dX0_wakeRoom_0 : decode cX0_wakeRoom 0 = .ok (.aload_n 0, 1) := by decide +kernel
theorem dX0_wakeRoom_1 : decode cX0_wakeRoom 1 = .ok (.iload_n 1, 1) := by decide +kernel
theorem dX0_wakeRoom_2 : decode cX0_wakeRoom 2 = .ok (.invokevirtual 78, 3) := by decide +kernel
theorem dX0_wakeRoom_5 : decode cX0_wakeRoom 5 = .ok (.ifCond .ne 5, 3) := by decide +kernel
theorem dX0_wakeRoom_8 : decode cX0_wakeRoom 8 = .ok (.iconst (-1), 1) := by decide +kernel
theorem dX0_wakeRoom_9 : decode cX0_wakeRoom 9 = .ok (.ireturn, 1) := by decide +kernel
theorem dX0_wakeRoom_10 : decode cX0_wakeRoom 10 = .ok (.aload_n 0, 1) := by decide +kernel
theorem dX0_wakeRoom_11 : decode cX0_wakeRoom 11 = .ok (.getfield 11, 3) := by decide +kernel
theorem dX0_wakeRoom_14 : decode cX0_wakeRoom 14 = .ok (.iload_n 1, 1) := by decide +kernel
theorem dX0_wakeRoom_15 : decode cX0_wakeRoom 15 = .ok (.aaload, 1) := by decide +kernel
theorem dX0_wakeRoom_16 : decode cX0_wakeRoom 16 = .ok (.astore_n 2, 1) := by decide +kernel
theorem dX0_wakeRoom_17 : decode cX0_wakeRoom 17 = .ok (.aload_n 2, 1) := by decide +kernel
theorem dX0_wakeRoom_18 : decode cX0_wakeRoom 18 = .ok (.getfield 65, 3) := by decide +kernel
theorem dX0_wakeRoom_21 : decode cX0_wakeRoom 21 = .ok (.ifCond .ne 19, 3) := by decide +kernel
theorem dX0_wakeRoom_24 : decode cX0_wakeRoom 24 = .ok (.aload_n 0, 1) := by decide +kernel
theorem dX0_wakeRoom_25 : decode cX0_wakeRoom 25 = .ok (.iload_n 1, 1) := by decide +kernel
theorem dX0_wakeRoom_26 : decode cX0_wakeRoom 26 = .ok (.invokevirtual 121, 3) := by decide +kernel
theorem dX0_wakeRoom_29 : decode cX0_wakeRoom 29 = .ok (.ifCond .eq 11, 3) := by decide +kernel
theorem dX0_wakeRoom_32 : decode cX0_wakeRoom 32 = .ok (.aload_n 0, 1) := by decide +kernel
theorem dX0_wakeRoom_33 : decode cX0_wakeRoom 33 = .ok (.iload_n 1, 1) := by decide +kernel
theorem dX0_wakeRoom_34 : decode cX0_wakeRoom 34 = .ok (.invokevirtual 124, 3) := by decide +kernel
theorem dX0_wakeRoom_37 : decode cX0_wakeRoom 37 = .ok (.ifCond .ne 6, 3) := by decide +kernel
theorem dX0_wakeRoom_40 : decode cX0_wakeRoom 40 = .ok (.bipush (-2), 2) := by decide +kernel
theorem dX0_wakeRoom_42 : decode cX0_wakeRoom 42 = .ok (.ireturn, 1) := by decide +kernel
theorem dX0_wakeRoom_43 : decode cX0_wakeRoom 43 = .ok (.aload_n 2, 1) := by decide +kernel
theorem dX0_wakeRoom_44 : decode cX0_wakeRoom 44 = .ok (.invokevirtual 127, 3) := by decide +kernel
theorem dX0_wakeRoom_47 : decode cX0_wakeRoom 47 = .ok (.aload_n 2, 1) := by decide +kernel
theorem dX0_wakeRoom_48 : decode cX0_wakeRoom 48 = .ok (.getfield 115, 3) := by decide +kernel
theorem dX0_wakeRoom_51 : decode cX0_wakeRoom 51 = .ok (.iconst 1, 1) := by decide +kernel
theorem dX0_wakeRoom_52 : decode cX0_wakeRoom 52 = .ok (.iaload, 1) := by decide +kernel
theorem dX0_wakeRoom_53 : decode cX0_wakeRoom 53 = .ok (.ireturn, 1) := by decide +kernel
set_option maxRecDepth 20000 in
theorem ggX0_sendToSleep_X0_hasRoom : GoodIn wsX0_sendToSleep wsX0_hasRoom := goodIn_r _ [8, 9, 15, 16, 17, 18, 19, 20, 21, 22] (by decide +kernel) (by decide +kernel)
set_option maxRecDepth 20000 in
theorem gX0_sendToSleep_X0_hasRoom : GoodIn wsX0_sendToSleep (wsV RX0 78 RX0 yX0_hasRoom wsX0_hasRoom) := goodIn_app (goodIn_of _ (by decide +kernel)) ggX0_sendToSleep_X0_hasRoom
set_option maxRecDepth 20000 in
theorem ggX0_sendToSleep_X0_hasDependentsUp : GoodIn wsX0_sendToSleep wsX0_hasDependentsUp := goodIn_r _ [13, 9, 1, 14, 2, 15, 16, 17, 18, 19, 20, 21, 22, 23, 24, 25, 26, 27, 28, 29, 30, 31, 32, 33, 34, 35, 36, 37] (by decide +kernel) (by decide +kernel)
set_option maxRecDepth 20000 in
theorem gX0_sendToSleep_X0_hasDependentsUp : GoodIn wsX0_sendToSleep (wsV RX0 130 RX0 yX0_hasDependentsUp wsX0_hasDependentsUp) := goodIn_app (goodIn_of _ (by decide +kernel)) ggX0_sendToSleep_X0_hasDependentsUp
theorem dX0_sendToSleep_0 : decode cX0_sendToSleep 0 = .ok (.aload_n 0, 1) := by decide +kernel
theorem dX0_sendToSleep_1 : decode cX0_sendToSleep 1 = .ok (.iload_n 1, 1) := by decide +kernel
theorem dX0_sendToSleep_2 : decode cX0_sendToSleep 2 = .ok (.invokevirtual 78, 3) := by decide +kernel
theorem dX0_sendToSleep_5 : decode cX0_sendToSleep 5 = .ok (.ifCond .ne 5, 3) := by decide +kernel
theorem dX0_sendToSleep_8 : decode cX0_sendToSleep 8 = .ok (.iconst (-1), 1) := by decide +kernel
theorem dX0_sendToSleep_9 : decode cX0_sendToSleep 9 = .ok (.ireturn, 1) := by decide +kernel
theorem dX0_sendToSleep_10 : decode cX0_sendToSleep 10 = .ok (.aload_n 0, 1) := by decide +kernel
theorem dX0_sendToSleep_11 : decode cX0_sendToSleep 11 = .ok (.getfield 11, 3) := by decide +kernel
theorem dX0_sendToSleep_14 : decode cX0_sendToSleep 14 = .ok (.iload_n 1, 1) := by decide +kernel
theorem dX0_sendToSleep_15 : decode cX0_sendToSleep 15 = .ok (.aaload, 1) := by decide +kernel
theorem dX0_sendToSleep_16 : decode cX0_sendToSleep 16 = .ok (.astore_n 2, 1) := by decide +kernel
theorem dX0_sendToSleep_17 : decode cX0_sendToSleep 17 = .ok (.aload_n 2, 1) := by decide +kernel
theorem dX0_sendToSleep_18 : decode cX0_sendToSleep 18 = .ok (.getfield 65, 3) := by decide +kernel
theorem dX0_sendToSleep_21 : decode cX0_sendToSleep 21 = .ok (.iconst 2, 1) := by decide +kernel
theorem dX0_sendToSleep_22 : decode cX0_sendToSleep 22 = .ok (.if_icmp .ne 11, 3) := by decide +kernel
theorem dX0_sendToSleep_25 : decode cX0_sendToSleep 25 = .ok (.aload_n 0, 1) := by decide +kernel
theorem dX0_sendToSleep_26 : decode cX0_sendToSleep 26 = .ok (.iload_n 1, 1) := by decide +kernel
theorem dX0_sendToSleep_27 : decode cX0_sendToSleep 27 = .ok (.invokevirtual 130, 3) := by decide +kernel
theorem dX0_sendToSleep_30 : decode cX0_sendToSleep 30 = .ok (.ifCond .eq 6, 3) := by decide +kernel
theorem dX0_sendToSleep_33 : decode cX0_sendToSleep 33 = .ok (.bipush (-2), 2) := by decide +kernel
theorem dX0_sendToSleep_35 : decode cX0_sendToSleep 35 = .ok (.ireturn, 1) := by decide +kernel
theorem dX0_sendToSleep_36 : decode cX0_sendToSleep 36 = .ok (.aload_n 2, 1) := by decide +kernel
theorem dX0_sendToSleep_37 : decode cX0_sendToSleep 37 = .ok (.iconst 0, 1) := by decide +kernel
theorem dX0_sendToSleep_38 : decode cX0_sendToSleep 38 = .ok (.putfield 65, 3) := by decide +kernel
theorem dX0_sendToSleep_41 : decode cX0_sendToSleep 41 = .ok (.aload_n 2, 1) := by decide +kernel
theorem dX0_sendToSleep_42 : decode cX0_sendToSleep 42 = .ok (.getfield 133, 3) := by decide +kernel
theorem dX0_sendToSleep_45 : decode cX0_sendToSleep 45 = .ok (.ireturn, 1) := by decide +kernel
set_option maxRecDepth 20000 in
theorem ggX0_letTicksGoBy_X3_outside : GoodIn wsX0_letTicksGoBy wsX3_outside := goodIn_r _ [5] (by decide +kernel) (by decide +kernel)
set_option maxRecDepth 20000 in
theorem gX0_letTicksGoBy_X3_outside_n82 : GoodIn wsX0_letTicksGoBy (wsX3_outside) := ggX0_letTicksGoBy_X3_outside
set_option maxRecDepth 20000 in
theorem ggX0_letTicksGoBy_X0_begunInAll : GoodIn wsX0_letTicksGoBy wsX0_begunInAll := goodIn_r _ [10, 11, 12, 13, 114, 115, 116, 117, 118, 119, 120, 121, 122, 123, 124, 125, 126, 127, 128, 129, 130, 131, 132, 133, 134, 135, 136] (by decide +kernel) (by decide +kernel)
set_option maxRecDepth 20000 in
theorem gX0_letTicksGoBy_X0_begunInAll : GoodIn wsX0_letTicksGoBy (wsV RX0 59 RX0 yX0_begunInAll wsX0_begunInAll) := goodIn_app (goodIn_of _ (by decide +kernel)) ggX0_letTicksGoBy_X0_begunInAll
set_option maxRecDepth 20000 in
theorem ggX0_letTicksGoBy_X0_passTick : GoodIn wsX0_letTicksGoBy wsX0_passTick := goodIn_r _ [17, 11, 12, 18, 1, 19, 20, 21, 9, 22, 23, 24, 25, 26, 27, 28, 29, 30, 31, 32, 33, 34, 35, 36, 37, 38, 39, 40, 41, 42, 43, 44, 45, 46, 47, 48, 49, 50, 51, 52, 53, 54, 55, 56, 57, 58, 59, 60, 61, 62, 63, 64, 65, 66, 67, 68, 69, 70, 71, 72, 73, 74, 75, 76, 77, 78, 79, 80, 81, 82, 83, 84, 85, 86, 87, 88, 89, 90, 91, 92, 93, 94, 95, 96, 97, 98, 99, 100, 101, 102, 103, 104, 105, 106, 107, 108, 109, 110, 111, 112, 113, 114, 115, 116, 117, 118, 119, 120, 121, 122, 123, 124, 125, 126, 127, 128, 129, 130, 131, 132, 133, 134, 135, 136] (by decide +kernel) (by decide +kernel)
set_option maxRecDepth 20000 in
theorem gX0_letTicksGoBy_X0_passTick : GoodIn wsX0_letTicksGoBy (wsV RX0 136 RX0 yX0_passTick wsX0_passTick) := goodIn_app (goodIn_of _ (by decide +kernel)) ggX0_letTicksGoBy_X0_passTick
theorem dX0_letTicksGoBy_0 : decode cX0_letTicksGoBy 0 = .ok (.iload_n 1, 1) := by decide +kernel
theorem dX0_letTicksGoBy_1 : decode cX0_letTicksGoBy 1 = .ok (.iconst 1, 1) := by decide +kernel
theorem dX0_letTicksGoBy_2 : decode cX0_letTicksGoBy 2 = .ok (.sipush 200, 3) := by decide +kernel
theorem dX0_letTicksGoBy_5 : decode cX0_letTicksGoBy 5 = .ok (.invokestatic 82, 3) := by decide +kernel
theorem dX0_letTicksGoBy_8 : decode cX0_letTicksGoBy 8 = .ok (.ifCond .eq 5, 3) := by decide +kernel
theorem dX0_letTicksGoBy_11 : decode cX0_letTicksGoBy 11 = .ok (.iconst (-1), 1) := by decide +kernel
theorem dX0_letTicksGoBy_12 : decode cX0_letTicksGoBy 12 = .ok (.ireturn, 1) := by decide +kernel
theorem dX0_letTicksGoBy_13 : decode cX0_letTicksGoBy 13 = .ok (.aload_n 0, 1) := by decide +kernel
theorem dX0_letTicksGoBy_14 : decode cX0_letTicksGoBy 14 = .ok (.getfield 48, 3) := by decide +kernel
theorem dX0_letTicksGoBy_17 : decode cX0_letTicksGoBy 17 = .ok (.iload_n 1, 1) := by decide +kernel
theorem dX0_letTicksGoBy_18 : decode cX0_letTicksGoBy 18 = .ok (.iadd, 1) := by decide +kernel
theorem dX0_letTicksGoBy_19 : decode cX0_letTicksGoBy 19 = .ok (.ldc 104, 2) := by decide +kernel
theorem dX0_letTicksGoBy_21 : decode cX0_letTicksGoBy 21 = .ok (.if_icmp .le 6, 3) := by decide +kernel
theorem dX0_letTicksGoBy_24 : decode cX0_letTicksGoBy 24 = .ok (.bipush (-3), 2) := by decide +kernel
theorem dX0_letTicksGoBy_26 : decode cX0_letTicksGoBy 26 = .ok (.ireturn, 1) := by decide +kernel
theorem dX0_letTicksGoBy_27 : decode cX0_letTicksGoBy 27 = .ok (.aload_n 0, 1) := by decide +kernel
theorem dX0_letTicksGoBy_28 : decode cX0_letTicksGoBy 28 = .ok (.invokevirtual 59, 3) := by decide +kernel
theorem dX0_letTicksGoBy_31 : decode cX0_letTicksGoBy 31 = .ok (.istore_n 2, 1) := by decide +kernel
theorem dX0_letTicksGoBy_32 : decode cX0_letTicksGoBy 32 = .ok (.iconst 0, 1) := by decide +kernel
theorem dX0_letTicksGoBy_33 : decode cX0_letTicksGoBy 33 = .ok (.istore_n 3, 1) := by decide +kernel
theorem dX0_letTicksGoBy_34 : decode cX0_letTicksGoBy 34 = .ok (.iload_n 3, 1) := by decide +kernel
theorem dX0_letTicksGoBy_35 : decode cX0_letTicksGoBy 35 = .ok (.iload_n 1, 1) := by decide +kernel
theorem dX0_letTicksGoBy_36 : decode cX0_letTicksGoBy 36 = .ok (.if_icmp .ge 13, 3) := by decide +kernel
theorem dX0_letTicksGoBy_39 : decode cX0_letTicksGoBy 39 = .ok (.aload_n 0, 1) := by decide +kernel
theorem dX0_letTicksGoBy_40 : decode cX0_letTicksGoBy 40 = .ok (.invokevirtual 136, 3) := by decide +kernel
theorem dX0_letTicksGoBy_43 : decode cX0_letTicksGoBy 43 = .ok (.iinc 3 1, 3) := by decide +kernel
theorem dX0_letTicksGoBy_46 : decode cX0_letTicksGoBy 46 = .ok (.goto (-12), 3) := by decide +kernel
theorem dX0_letTicksGoBy_49 : decode cX0_letTicksGoBy 49 = .ok (.aload_n 0, 1) := by decide +kernel
theorem dX0_letTicksGoBy_50 : decode cX0_letTicksGoBy 50 = .ok (.invokevirtual 59, 3) := by decide +kernel
theorem dX0_letTicksGoBy_53 : decode cX0_letTicksGoBy 53 = .ok (.iload_n 2, 1) := by decide +kernel
theorem dX0_letTicksGoBy_54 : decode cX0_letTicksGoBy 54 = .ok (.isub, 1) := by decide +kernel
theorem dX0_letTicksGoBy_55 : decode cX0_letTicksGoBy 55 = .ok (.ireturn, 1) := by decide +kernel
set_option maxRecDepth 20000 in
theorem ggX0_passTick_X0_isCalled : GoodIn wsX0_passTick wsX0_isCalled := goodIn_r _ [9, 2, 10, 11, 12, 4, 13, 14, 15, 8, 16, 17, 18, 19, 20, 21, 22, 23, 24, 25, 26, 27, 28, 29, 30, 31, 32, 33, 101, 102, 103, 104, 105, 106, 107, 108, 109, 110, 111, 112, 113, 114, 115, 116, 117, 118, 119, 120, 121, 122, 123] (by decide +kernel) (by decide +kernel)
set_option maxRecDepth 20000 in
theorem gX0_passTick_X0_isCalled : GoodIn wsX0_passTick (wsV RX0 139 RX0 yX0_isCalled wsX0_isCalled) := goodIn_app (goodIn_of _ (by decide +kernel)) ggX0_passTick_X0_isCalled
set_option maxRecDepth 20000 in
theorem ggX0_passTick_X0_soughtFor : GoodIn wsX0_passTick wsX0_soughtFor := goodIn_r _ [37, 2, 3, 38, 39, 40, 41, 8, 42, 1, 43, 44, 45, 46, 101, 102, 103, 104, 105, 106, 107, 108, 109, 110, 111, 112, 113, 114, 115, 116, 117, 118, 119, 120, 121, 122, 123] (by decide +kernel) (by decide +kernel)
set_option maxRecDepth 20000 in
theorem gX0_passTick_X0_soughtFor : GoodIn wsX0_passTick (wsV RX0 142 RX0 yX0_soughtFor wsX0_soughtFor) := goodIn_app (goodIn_of _ (by decide +kernel)) ggX0_passTick_X0_soughtFor
set_option maxRecDepth 20000 in
theorem ggX0_passTick_X0_wakeIfPossible : GoodIn wsX0_passTick wsX0_wakeIfPossible := goodIn_r _ [50, 2, 39, 40, 41, 8, 42, 1, 51, 52, 53, 54, 55, 3, 56, 57, 58, 59, 26, 60, 61, 33, 30, 62, 63, 101, 102, 103, 104, 105, 106, 107, 108, 109, 110, 111, 112, 113, 114, 115, 116, 117, 118, 119, 120, 121, 122, 123] (by decide +kernel) (by decide +kernel)
set_option maxRecDepth 20000 in
theorem gX0_passTick_X0_wakeIfPossible : GoodIn wsX0_passTick (wsV RX0 145 RX0 yX0_wakeIfPossible wsX0_wakeIfPossible) := goodIn_app (goodIn_of _ (by decide +kernel)) ggX0_passTick_X0_wakeIfPossible
set_option maxRecDepth 20000 in
theorem ggX0_passTick_X0_beginDueUse : GoodIn wsX0_passTick wsX0_beginDueUse := goodIn_r _ [67, 2, 3, 12, 4, 68, 13, 14, 15, 8, 16, 17, 18, 19, 20, 21, 22, 69, 70, 71, 26, 72, 29, 31, 32, 73, 30, 62, 74, 75, 76, 77, 101, 102, 103, 104, 105, 106, 107, 108, 109, 110, 111, 112, 113, 114, 115, 116, 117, 118, 119, 120, 121, 122, 123] (by decide +kernel) (by decide +kernel)
set_option maxRecDepth 20000 in
theorem gX0_passTick_X0_beginDueUse : GoodIn wsX0_passTick (wsV RX0 148 RX0 yX0_beginDueUse wsX0_beginDueUse) := goodIn_app (goodIn_of _ (by decide +kernel)) ggX0_passTick_X0_beginDueUse
set_option maxRecDepth 20000 in
theorem ggX0_passTick_X2_payForTick : GoodIn wsX0_passTick wsX2_payForTick := goodIn_r _ [81, 30, 61, 33, 109, 110, 111, 112, 113, 114, 115, 116, 117, 118, 119, 120, 121, 122, 123] (by decide +kernel) (by decide +kernel)
set_option maxRecDepth 20000 in
theorem gX0_passTick_X2_payForTick : GoodIn wsX0_passTick (wsV RX0 151 RX2 yX2_payForTick wsX2_payForTick) := goodIn_app (goodIn_of _ (by decide +kernel)) ggX0_passTick_X2_payForTick
set_option maxRecDepth 20000 in
theorem ggX0_passTick_X0_goOn : GoodIn wsX0_passTick wsX0_goOn := goodIn_r _ [85, 2, 3, 86, 87, 88, 89, 26, 90, 62, 30, 91, 92, 93, 94, 95, 96, 97, 98, 99, 8, 100, 1, 38, 101, 102, 103, 104, 105, 106, 107, 108, 109, 110, 111, 112, 113, 114, 115, 116, 117, 118, 119, 120, 121, 122, 123] (by decide +kernel) (by decide +kernel)
set_option maxRecDepth 20000 in
theorem gX0_passTick_X0_goOn : GoodIn wsX0_passTick (wsV RX0 154 RX0 yX0_goOn wsX0_goOn) := goodIn_app (goodIn_of _ (by decide +kernel)) ggX0_passTick_X0_goOn
theorem dX0_passTick_0 : decode cX0_passTick 0 = .ok (.iconst 0, 1) := by decide +kernel
theorem dX0_passTick_1 : decode cX0_passTick 1 = .ok (.istore_n 1, 1) := by decide +kernel
theorem dX0_passTick_2 : decode cX0_passTick 2 = .ok (.iload_n 1, 1) := by decide +kernel
theorem dX0_passTick_3 : decode cX0_passTick 3 = .ok (.aload_n 0, 1) := by decide +kernel
theorem dX0_passTick_4 : decode cX0_passTick 4 = .ok (.getfield 31, 3) := by decide +kernel
theorem dX0_passTick_7 : decode cX0_passTick 7 = .ok (.if_icmp .ge 43, 3) := by decide +kernel
theorem dX0_passTick_10 : decode cX0_passTick 10 = .ok (.aload_n 0, 1) := by decide +kernel
theorem dX0_passTick_11 : decode cX0_passTick 11 = .ok (.getfield 11, 3) := by decide +kernel
theorem dX0_passTick_14 : decode cX0_passTick 14 = .ok (.iload_n 1, 1) := by decide +kernel
theorem dX0_passTick_15 : decode cX0_passTick 15 = .ok (.aaload, 1) := by decide +kernel
theorem dX0_passTick_16 : decode cX0_passTick 16 = .ok (.getfield 65, 3) := by decide +kernel
theorem dX0_passTick_19 : decode cX0_passTick 19 = .ok (.ifCond .ne 20, 3) := by decide +kernel
theorem dX0_passTick_22 : decode cX0_passTick 22 = .ok (.aload_n 0, 1) := by decide +kernel
theorem dX0_passTick_23 : decode cX0_passTick 23 = .ok (.iload_n 1, 1) := by decide +kernel
theorem dX0_passTick_24 : decode cX0_passTick 24 = .ok (.invokevirtual 139, 3) := by decide +kernel
theorem dX0_passTick_27 : decode cX0_passTick 27 = .ok (.ifCond .eq 12, 3) := by decide +kernel
theorem dX0_passTick_30 : decode cX0_passTick 30 = .ok (.aload_n 0, 1) := by decide +kernel
theorem dX0_passTick_31 : decode cX0_passTick 31 = .ok (.aload_n 0, 1) := by decide +kernel
theorem dX0_passTick_32 : decode cX0_passTick 32 = .ok (.iload_n 1, 1) := by decide +kernel
theorem dX0_passTick_33 : decode cX0_passTick 33 = .ok (.invokevirtual 142, 3) := by decide +kernel
theorem dX0_passTick_36 : decode cX0_passTick 36 = .ok (.invokevirtual 145, 3) := by decide +kernel
theorem dX0_passTick_39 : decode cX0_passTick 39 = .ok (.aload_n 0, 1) := by decide +kernel
theorem dX0_passTick_40 : decode cX0_passTick 40 = .ok (.iload_n 1, 1) := by decide +kernel
theorem dX0_passTick_41 : decode cX0_passTick 41 = .ok (.invokevirtual 148, 3) := by decide +kernel
theorem dX0_passTick_44 : decode cX0_passTick 44 = .ok (.iinc 1 1, 3) := by decide +kernel
theorem dX0_passTick_47 : decode cX0_passTick 47 = .ok (.goto (-45), 3) := by decide +kernel
theorem dX0_passTick_50 : decode cX0_passTick 50 = .ok (.iconst 0, 1) := by decide +kernel
theorem dX0_passTick_51 : decode cX0_passTick 51 = .ok (.istore_n 1, 1) := by decide +kernel
theorem dX0_passTick_52 : decode cX0_passTick 52 = .ok (.iload_n 1, 1) := by decide +kernel
theorem dX0_passTick_53 : decode cX0_passTick 53 = .ok (.aload_n 0, 1) := by decide +kernel
theorem dX0_passTick_54 : decode cX0_passTick 54 = .ok (.getfield 31, 3) := by decide +kernel
theorem dX0_passTick_57 : decode cX0_passTick 57 = .ok (.if_icmp .ge 18, 3) := by decide +kernel
theorem dX0_passTick_60 : decode cX0_passTick 60 = .ok (.aload_n 0, 1) := by decide +kernel
theorem dX0_passTick_61 : decode cX0_passTick 61 = .ok (.getfield 11, 3) := by decide +kernel
theorem dX0_passTick_64 : decode cX0_passTick 64 = .ok (.iload_n 1, 1) := by decide +kernel
theorem dX0_passTick_65 : decode cX0_passTick 65 = .ok (.aaload, 1) := by decide +kernel
theorem dX0_passTick_66 : decode cX0_passTick 66 = .ok (.invokevirtual 151, 3) := by decide +kernel
theorem dX0_passTick_69 : decode cX0_passTick 69 = .ok (.iinc 1 1, 3) := by decide +kernel
theorem dX0_passTick_72 : decode cX0_passTick 72 = .ok (.goto (-20), 3) := by decide +kernel
theorem dX0_passTick_75 : decode cX0_passTick 75 = .ok (.iconst 0, 1) := by decide +kernel
theorem dX0_passTick_76 : decode cX0_passTick 76 = .ok (.istore_n 1, 1) := by decide +kernel
theorem dX0_passTick_77 : decode cX0_passTick 77 = .ok (.iload_n 1, 1) := by decide +kernel
theorem dX0_passTick_78 : decode cX0_passTick 78 = .ok (.aload_n 0, 1) := by decide +kernel
theorem dX0_passTick_79 : decode cX0_passTick 79 = .ok (.getfield 31, 3) := by decide +kernel
theorem dX0_passTick_82 : decode cX0_passTick 82 = .ok (.if_icmp .ge 14, 3) := by decide +kernel
theorem dX0_passTick_85 : decode cX0_passTick 85 = .ok (.aload_n 0, 1) := by decide +kernel
theorem dX0_passTick_86 : decode cX0_passTick 86 = .ok (.iload_n 1, 1) := by decide +kernel
theorem dX0_passTick_87 : decode cX0_passTick 87 = .ok (.invokevirtual 154, 3) := by decide +kernel
theorem dX0_passTick_90 : decode cX0_passTick 90 = .ok (.iinc 1 1, 3) := by decide +kernel
theorem dX0_passTick_93 : decode cX0_passTick 93 = .ok (.goto (-16), 3) := by decide +kernel
theorem dX0_passTick_96 : decode cX0_passTick 96 = .ok (.aload_n 0, 1) := by decide +kernel
theorem dX0_passTick_97 : decode cX0_passTick 97 = .ok (.dup, 1) := by decide +kernel
theorem dX0_passTick_98 : decode cX0_passTick 98 = .ok (.getfield 48, 3) := by decide +kernel
theorem dX0_passTick_101 : decode cX0_passTick 101 = .ok (.iconst 1, 1) := by decide +kernel
theorem dX0_passTick_102 : decode cX0_passTick 102 = .ok (.iadd, 1) := by decide +kernel
theorem dX0_passTick_103 : decode cX0_passTick 103 = .ok (.putfield 48, 3) := by decide +kernel
theorem dX0_passTick_106 : decode cX0_passTick 106 = .ok (.return_, 1) := by decide +kernel
set_option maxRecDepth 20000 in
theorem ggX0_soughtFor_X0_hasRoom : GoodIn wsX0_soughtFor wsX0_hasRoom := goodIn_r _ [8, 9, 14, 15, 16, 17, 18, 19, 20, 21] (by decide +kernel) (by decide +kernel)
set_option maxRecDepth 20000 in
theorem gX0_soughtFor_X0_hasRoom : GoodIn wsX0_soughtFor (wsV RX0 78 RX0 yX0_hasRoom wsX0_hasRoom) := goodIn_app (goodIn_of _ (by decide +kernel)) ggX0_soughtFor_X0_hasRoom
set_option maxRecDepth 20000 in
theorem ggX0_soughtFor_X0_isReady : GoodIn wsX0_soughtFor wsX0_isReady := goodIn_r _ [13, 1, 3, 9, 2, 14, 15, 16, 17, 18, 19, 20, 21, 22, 23, 24, 25, 26, 27, 28, 29, 30, 31, 32, 33, 34, 35, 36] (by decide +kernel) (by decide +kernel)
set_option maxRecDepth 20000 in
theorem gX0_soughtFor_X0_isReady : GoodIn wsX0_soughtFor (wsV RX0 121 RX0 yX0_isReady wsX0_isReady) := goodIn_app (goodIn_of _ (by decide +kernel)) ggX0_soughtFor_X0_isReady
theorem dX0_soughtFor_0 : decode cX0_soughtFor 0 = .ok (.iload_n 1, 1) := by decide +kernel
theorem dX0_soughtFor_1 : decode cX0_soughtFor 1 = .ok (.istore_n 2, 1) := by decide +kernel
theorem dX0_soughtFor_2 : decode cX0_soughtFor 2 = .ok (.iconst 0, 1) := by decide +kernel
theorem dX0_soughtFor_3 : decode cX0_soughtFor 3 = .ok (.istore_n 3, 1) := by decide +kernel
theorem dX0_soughtFor_4 : decode cX0_soughtFor 4 = .ok (.iload_n 3, 1) := by decide +kernel
theorem dX0_soughtFor_5 : decode cX0_soughtFor 5 = .ok (.bipush 8, 2) := by decide +kernel
theorem dX0_soughtFor_7 : decode cX0_soughtFor 7 = .ok (.if_icmp .ge 51, 3) := by decide +kernel
theorem dX0_soughtFor_10 : decode cX0_soughtFor 10 = .ok (.aload_n 0, 1) := by decide +kernel
theorem dX0_soughtFor_11 : decode cX0_soughtFor 11 = .ok (.iload_n 2, 1) := by decide +kernel
theorem dX0_soughtFor_12 : decode cX0_soughtFor 12 = .ok (.invokevirtual 78, 3) := by decide +kernel
theorem dX0_soughtFor_15 : decode cX0_soughtFor 15 = .ok (.ifCond .eq 43, 3) := by decide +kernel
theorem dX0_soughtFor_18 : decode cX0_soughtFor 18 = .ok (.aload_n 0, 1) := by decide +kernel
theorem dX0_soughtFor_19 : decode cX0_soughtFor 19 = .ok (.getfield 11, 3) := by decide +kernel
theorem dX0_soughtFor_22 : decode cX0_soughtFor 22 = .ok (.iload_n 2, 1) := by decide +kernel
theorem dX0_soughtFor_23 : decode cX0_soughtFor 23 = .ok (.aaload, 1) := by decide +kernel
theorem dX0_soughtFor_24 : decode cX0_soughtFor 24 = .ok (.getfield 65, 3) := by decide +kernel
theorem dX0_soughtFor_27 : decode cX0_soughtFor 27 = .ok (.ifCond .eq 5, 3) := by decide +kernel
theorem dX0_soughtFor_30 : decode cX0_soughtFor 30 = .ok (.iconst (-1), 1) := by decide +kernel
theorem dX0_soughtFor_31 : decode cX0_soughtFor 31 = .ok (.ireturn, 1) := by decide +kernel
theorem dX0_soughtFor_32 : decode cX0_soughtFor 32 = .ok (.aload_n 0, 1) := by decide +kernel
theorem dX0_soughtFor_33 : decode cX0_soughtFor 33 = .ok (.iload_n 2, 1) := by decide +kernel
theorem dX0_soughtFor_34 : decode cX0_soughtFor 34 = .ok (.invokevirtual 121, 3) := by decide +kernel
theorem dX0_soughtFor_37 : decode cX0_soughtFor 37 = .ok (.ifCond .eq 5, 3) := by decide +kernel
theorem dX0_soughtFor_40 : decode cX0_soughtFor 40 = .ok (.iload_n 2, 1) := by decide +kernel
theorem dX0_soughtFor_41 : decode cX0_soughtFor 41 = .ok (.ireturn, 1) := by decide +kernel
theorem dX0_soughtFor_42 : decode cX0_soughtFor 42 = .ok (.aload_n 0, 1) := by decide +kernel
theorem dX0_soughtFor_43 : decode cX0_soughtFor 43 = .ok (.getfield 11, 3) := by decide +kernel
theorem dX0_soughtFor_46 : decode cX0_soughtFor 46 = .ok (.iload_n 2, 1) := by decide +kernel
theorem dX0_soughtFor_47 : decode cX0_soughtFor 47 = .ok (.aaload, 1) := by decide +kernel
theorem dX0_soughtFor_48 : decode cX0_soughtFor 48 = .ok (.getfield 86, 3) := by decide +kernel
theorem dX0_soughtFor_51 : decode cX0_soughtFor 51 = .ok (.istore_n 2, 1) := by decide +kernel
theorem dX0_soughtFor_52 : decode cX0_soughtFor 52 = .ok (.iinc 3 1, 3) := by decide +kernel
theorem dX0_soughtFor_55 : decode cX0_soughtFor 55 = .ok (.goto (-51), 3) := by decide +kernel
theorem dX0_soughtFor_58 : decode cX0_soughtFor 58 = .ok (.iconst (-1), 1) := by decide +kernel
theorem dX0_soughtFor_59 : decode cX0_soughtFor 59 = .ok (.ireturn, 1) := by decide +kernel
set_option maxRecDepth 20000 in
theorem ggX0_wakeIfPossible_X0_hasRoom : GoodIn wsX0_wakeIfPossible wsX0_hasRoom := goodIn_r _ [6, 7, 25, 26, 27, 28, 29, 30, 31, 32] (by decide +kernel) (by decide +kernel)
set_option maxRecDepth 20000 in
theorem gX0_wakeIfPossible_X0_hasRoom : GoodIn wsX0_wakeIfPossible (wsV RX0 78 RX0 yX0_hasRoom wsX0_hasRoom) := goodIn_app (goodIn_of _ (by decide +kernel)) ggX0_wakeIfPossible_X0_hasRoom
set_option maxRecDepth 20000 in
theorem ggX0_wakeIfPossible_X0_railLetsWake : GoodIn wsX0_wakeIfPossible wsX0_railLetsWake := goodIn_r _ [11, 1, 12, 7, 13, 14, 25, 26, 27, 28, 29, 30, 31, 32, 33, 34, 35, 36, 37, 38, 39, 40, 41, 42, 43, 44, 45, 46, 47] (by decide +kernel) (by decide +kernel)
set_option maxRecDepth 20000 in
theorem gX0_wakeIfPossible_X0_railLetsWake : GoodIn wsX0_wakeIfPossible (wsV RX0 124 RX0 yX0_railLetsWake wsX0_railLetsWake) := goodIn_app (goodIn_of _ (by decide +kernel)) ggX0_wakeIfPossible_X0_railLetsWake
set_option maxRecDepth 20000 in
theorem ggX0_wakeIfPossible_X2_startWaking : GoodIn wsX0_wakeIfPossible wsX2_startWaking := goodIn_r _ [19, 20, 21, 22, 23, 24, 33, 34, 35, 36, 37, 38, 39, 40, 41, 42, 43, 44, 45, 46, 47] (by decide +kernel) (by decide +kernel)
set_option maxRecDepth 20000 in
theorem gX0_wakeIfPossible_X2_startWaking : GoodIn wsX0_wakeIfPossible (wsV RX0 127 RX2 yX2_startWaking wsX2_startWaking) := goodIn_app (goodIn_of _ (by decide +kernel)) ggX0_wakeIfPossible_X2_startWaking
theorem dX0_wakeIfPossible_0 : decode cX0_wakeIfPossible 0 = .ok (.aload_n 0, 1) := by decide +kernel
theorem dX0_wakeIfPossible_1 : decode cX0_wakeIfPossible 1 = .ok (.iload_n 1, 1) := by decide +kernel
theorem dX0_wakeIfPossible_2 : decode cX0_wakeIfPossible 2 = .ok (.invokevirtual 78, 3) := by decide +kernel
theorem dX0_wakeIfPossible_5 : decode cX0_wakeIfPossible 5 = .ok (.ifCond .eq 20, 3) := by decide +kernel
theorem dX0_wakeIfPossible_8 : decode cX0_wakeIfPossible 8 = .ok (.aload_n 0, 1) := by decide +kernel
theorem dX0_wakeIfPossible_9 : decode cX0_wakeIfPossible 9 = .ok (.iload_n 1, 1) := by decide +kernel
theorem dX0_wakeIfPossible_10 : decode cX0_wakeIfPossible 10 = .ok (.invokevirtual 124, 3) := by decide +kernel
theorem dX0_wakeIfPossible_13 : decode cX0_wakeIfPossible 13 = .ok (.ifCond .eq 12, 3) := by decide +kernel
theorem dX0_wakeIfPossible_16 : decode cX0_wakeIfPossible 16 = .ok (.aload_n 0, 1) := by decide +kernel
theorem dX0_wakeIfPossible_17 : decode cX0_wakeIfPossible 17 = .ok (.getfield 11, 3) := by decide +kernel
theorem dX0_wakeIfPossible_20 : decode cX0_wakeIfPossible 20 = .ok (.iload_n 1, 1) := by decide +kernel
theorem dX0_wakeIfPossible_21 : decode cX0_wakeIfPossible 21 = .ok (.aaload, 1) := by decide +kernel
theorem dX0_wakeIfPossible_22 : decode cX0_wakeIfPossible 22 = .ok (.invokevirtual 127, 3) := by decide +kernel
theorem dX0_wakeIfPossible_25 : decode cX0_wakeIfPossible 25 = .ok (.return_, 1) := by decide +kernel
set_option maxRecDepth 20000 in
theorem ggX0_beginDueUse_X0_firstUseOf : GoodIn wsX0_beginDueUse wsX0_firstUseOf := goodIn_r _ [10, 11, 12, 3, 32, 33, 34, 35, 36, 37, 38, 39] (by decide +kernel) (by decide +kernel)
set_option maxRecDepth 20000 in
theorem gX0_beginDueUse_X0_firstUseOf : GoodIn wsX0_beginDueUse (wsV RX0 112 RX0 yX0_firstUseOf wsX0_firstUseOf) := goodIn_app (goodIn_of _ (by decide +kernel)) ggX0_beginDueUse_X0_firstUseOf
set_option maxRecDepth 20000 in
theorem ggX0_beginDueUse_X0_hasUse : GoodIn wsX0_beginDueUse wsX0_hasUse := goodIn_r _ [16, 11, 32, 33, 34, 35, 36, 37, 38, 39] (by decide +kernel) (by decide +kernel)
set_option maxRecDepth 20000 in
theorem gX0_beginDueUse_X0_hasUse : GoodIn wsX0_beginDueUse (wsV RX0 105 RX0 yX0_hasUse wsX0_hasUse) := goodIn_app (goodIn_of _ (by decide +kernel)) ggX0_beginDueUse_X0_hasUse
set_option maxRecDepth 20000 in
theorem ggX0_beginDueUse_X2_begin : GoodIn wsX0_beginDueUse wsX2_begin := goodIn_r _ [21, 22, 23, 24, 25, 26, 27, 40, 41, 42, 43, 44, 45, 46, 47, 48, 49, 50, 51, 52, 53, 54] (by decide +kernel) (by decide +kernel)
set_option maxRecDepth 20000 in
theorem gX0_beginDueUse_X2_begin : GoodIn wsX0_beginDueUse (wsV RX0 157 RX2 yX2_begin wsX2_begin) := goodIn_app (goodIn_of _ (by decide +kernel)) ggX0_beginDueUse_X2_begin
set_option maxRecDepth 20000 in
theorem ggX0_beginDueUse_X0_removeUse : GoodIn wsX0_beginDueUse wsX0_removeUse := goodIn_r _ [31, 11, 12, 3, 5, 32, 33, 34, 35, 36, 37, 38, 39] (by decide +kernel) (by decide +kernel)
set_option maxRecDepth 20000 in
theorem gX0_beginDueUse_X0_removeUse : GoodIn wsX0_beginDueUse (wsV RX0 108 RX0 yX0_removeUse wsX0_removeUse) := goodIn_app (goodIn_of _ (by decide +kernel)) ggX0_beginDueUse_X0_removeUse
theorem dX0_beginDueUse_0 : decode cX0_beginDueUse 0 = .ok (.aload_n 0, 1) := by decide +kernel
theorem dX0_beginDueUse_1 : decode cX0_beginDueUse 1 = .ok (.getfield 11, 3) := by decide +kernel
theorem dX0_beginDueUse_4 : decode cX0_beginDueUse 4 = .ok (.iload_n 1, 1) := by decide +kernel
theorem dX0_beginDueUse_5 : decode cX0_beginDueUse 5 = .ok (.aaload, 1) := by decide +kernel
theorem dX0_beginDueUse_6 : decode cX0_beginDueUse 6 = .ok (.getfield 65, 3) := by decide +kernel
theorem dX0_beginDueUse_9 : decode cX0_beginDueUse 9 = .ok (.iconst 2, 1) := by decide +kernel
theorem dX0_beginDueUse_10 : decode cX0_beginDueUse 10 = .ok (.if_icmp .eq 4, 3) := by decide +kernel
theorem dX0_beginDueUse_13 : decode cX0_beginDueUse 13 = .ok (.return_, 1) := by decide +kernel
theorem dX0_beginDueUse_14 : decode cX0_beginDueUse 14 = .ok (.aload_n 0, 1) := by decide +kernel
theorem dX0_beginDueUse_15 : decode cX0_beginDueUse 15 = .ok (.iload_n 1, 1) := by decide +kernel
theorem dX0_beginDueUse_16 : decode cX0_beginDueUse 16 = .ok (.invokevirtual 112, 3) := by decide +kernel
theorem dX0_beginDueUse_19 : decode cX0_beginDueUse 19 = .ok (.istore_n 2, 1) := by decide +kernel
theorem dX0_beginDueUse_20 : decode cX0_beginDueUse 20 = .ok (.aload_n 0, 1) := by decide +kernel
theorem dX0_beginDueUse_21 : decode cX0_beginDueUse 21 = .ok (.iload_n 2, 1) := by decide +kernel
theorem dX0_beginDueUse_22 : decode cX0_beginDueUse 22 = .ok (.invokevirtual 105, 3) := by decide +kernel
theorem dX0_beginDueUse_25 : decode cX0_beginDueUse 25 = .ok (.ifCond .eq 46, 3) := by decide +kernel
theorem dX0_beginDueUse_28 : decode cX0_beginDueUse 28 = .ok (.aload_n 0, 1) := by decide +kernel
theorem dX0_beginDueUse_29 : decode cX0_beginDueUse 29 = .ok (.getfield 24, 3) := by decide +kernel
theorem dX0_beginDueUse_32 : decode cX0_beginDueUse 32 = .ok (.iload_n 2, 1) := by decide +kernel
theorem dX0_beginDueUse_33 : decode cX0_beginDueUse 33 = .ok (.iaload, 1) := by decide +kernel
theorem dX0_beginDueUse_34 : decode cX0_beginDueUse 34 = .ok (.aload_n 0, 1) := by decide +kernel
theorem dX0_beginDueUse_35 : decode cX0_beginDueUse 35 = .ok (.getfield 48, 3) := by decide +kernel
theorem dX0_beginDueUse_38 : decode cX0_beginDueUse 38 = .ok (.if_icmp .gt 33, 3) := by decide +kernel
theorem dX0_beginDueUse_41 : decode cX0_beginDueUse 41 = .ok (.aload_n 0, 1) := by decide +kernel
theorem dX0_beginDueUse_42 : decode cX0_beginDueUse 42 = .ok (.getfield 11, 3) := by decide +kernel
theorem dX0_beginDueUse_45 : decode cX0_beginDueUse 45 = .ok (.iload_n 1, 1) := by decide +kernel
theorem dX0_beginDueUse_46 : decode cX0_beginDueUse 46 = .ok (.aaload, 1) := by decide +kernel
theorem dX0_beginDueUse_47 : decode cX0_beginDueUse 47 = .ok (.aload_n 0, 1) := by decide +kernel
theorem dX0_beginDueUse_48 : decode cX0_beginDueUse 48 = .ok (.getfield 48, 3) := by decide +kernel
theorem dX0_beginDueUse_51 : decode cX0_beginDueUse 51 = .ok (.aload_n 0, 1) := by decide +kernel
theorem dX0_beginDueUse_52 : decode cX0_beginDueUse 52 = .ok (.getfield 24, 3) := by decide +kernel
theorem dX0_beginDueUse_55 : decode cX0_beginDueUse 55 = .ok (.iload_n 2, 1) := by decide +kernel
theorem dX0_beginDueUse_56 : decode cX0_beginDueUse 56 = .ok (.iaload, 1) := by decide +kernel
theorem dX0_beginDueUse_57 : decode cX0_beginDueUse 57 = .ok (.aload_n 0, 1) := by decide +kernel
theorem dX0_beginDueUse_58 : decode cX0_beginDueUse 58 = .ok (.getfield 27, 3) := by decide +kernel
theorem dX0_beginDueUse_61 : decode cX0_beginDueUse 61 = .ok (.iload_n 2, 1) := by decide +kernel
theorem dX0_beginDueUse_62 : decode cX0_beginDueUse 62 = .ok (.iaload, 1) := by decide +kernel
theorem dX0_beginDueUse_63 : decode cX0_beginDueUse 63 = .ok (.invokevirtual 157, 3) := by decide +kernel
theorem dX0_beginDueUse_66 : decode cX0_beginDueUse 66 = .ok (.aload_n 0, 1) := by decide +kernel
theorem dX0_beginDueUse_67 : decode cX0_beginDueUse 67 = .ok (.iload_n 2, 1) := by decide +kernel
theorem dX0_beginDueUse_68 : decode cX0_beginDueUse 68 = .ok (.invokevirtual 108, 3) := by decide +kernel
theorem dX0_beginDueUse_71 : decode cX0_beginDueUse 71 = .ok (.return_, 1) := by decide +kernel
set_option maxRecDepth 20000 in
theorem ggX0_goOn_X2_workOn : GoodIn wsX0_goOn wsX2_workOn := goodIn_r _ [8, 9, 10, 11, 32, 33, 34, 35, 36, 37, 38, 39, 40, 41, 42, 43, 44, 45, 46] (by decide +kernel) (by decide +kernel)
set_option maxRecDepth 20000 in
theorem gX0_goOn_X2_workOn : GoodIn wsX0_goOn (wsV RX0 161 RX2 yX2_workOn wsX2_workOn) := goodIn_app (goodIn_of _ (by decide +kernel)) ggX0_goOn_X2_workOn
set_option maxRecDepth 20000 in
theorem ggX0_goOn_X2_isTimedOut : GoodIn wsX0_goOn wsX2_isTimedOut := goodIn_r _ [15, 16, 11, 32, 33, 34, 35, 36, 37, 38, 39, 40, 41, 42, 43, 44, 45, 46] (by decide +kernel) (by decide +kernel)
set_option maxRecDepth 20000 in
theorem gX0_goOn_X2_isTimedOut : GoodIn wsX0_goOn (wsV RX0 164 RX2 yX2_isTimedOut wsX2_isTimedOut) := goodIn_app (goodIn_of _ (by decide +kernel)) ggX0_goOn_X2_isTimedOut
set_option maxRecDepth 20000 in
theorem ggX0_goOn_X0_hasDependentsUp : GoodIn wsX0_goOn wsX0_hasDependentsUp := goodIn_r _ [21, 22, 1, 23, 2, 24, 25, 26, 27, 28, 29, 30, 31, 32, 33, 34, 35, 36, 37, 38, 39, 40, 41, 42, 43, 44, 45, 46] (by decide +kernel) (by decide +kernel)
set_option maxRecDepth 20000 in
theorem gX0_goOn_X0_hasDependentsUp : GoodIn wsX0_goOn (wsV RX0 130 RX0 yX0_hasDependentsUp wsX0_hasDependentsUp) := goodIn_app (goodIn_of _ (by decide +kernel)) ggX0_goOn_X0_hasDependentsUp
theorem dX0_goOn_0 : decode cX0_goOn 0 = .ok (.aload_n 0, 1) := by decide +kernel
theorem dX0_goOn_1 : decode cX0_goOn 1 = .ok (.getfield 11, 3) := by decide +kernel
theorem dX0_goOn_4 : decode cX0_goOn 4 = .ok (.iload_n 1, 1) := by decide +kernel
theorem dX0_goOn_5 : decode cX0_goOn 5 = .ok (.aaload, 1) := by decide +kernel
theorem dX0_goOn_6 : decode cX0_goOn 6 = .ok (.astore_n 2, 1) := by decide +kernel
theorem dX0_goOn_7 : decode cX0_goOn 7 = .ok (.aload_n 2, 1) := by decide +kernel
theorem dX0_goOn_8 : decode cX0_goOn 8 = .ok (.getfield 65, 3) := by decide +kernel
theorem dX0_goOn_11 : decode cX0_goOn 11 = .ok (.iconst 1, 1) := by decide +kernel
theorem dX0_goOn_12 : decode cX0_goOn 12 = .ok (.if_icmp .eq 11, 3) := by decide +kernel
theorem dX0_goOn_15 : decode cX0_goOn 15 = .ok (.aload_n 2, 1) := by decide +kernel
theorem dX0_goOn_16 : decode cX0_goOn 16 = .ok (.getfield 65, 3) := by decide +kernel
theorem dX0_goOn_19 : decode cX0_goOn 19 = .ok (.iconst 3, 1) := by decide +kernel
theorem dX0_goOn_20 : decode cX0_goOn 20 = .ok (.if_icmp .ne 10, 3) := by decide +kernel
theorem dX0_goOn_23 : decode cX0_goOn 23 = .ok (.aload_n 2, 1) := by decide +kernel
theorem dX0_goOn_24 : decode cX0_goOn 24 = .ok (.invokevirtual 161, 3) := by decide +kernel
theorem dX0_goOn_27 : decode cX0_goOn 27 = .ok (.goto 41, 3) := by decide +kernel
theorem dX0_goOn_30 : decode cX0_goOn 30 = .ok (.aload_n 2, 1) := by decide +kernel
theorem dX0_goOn_31 : decode cX0_goOn 31 = .ok (.getfield 65, 3) := by decide +kernel
theorem dX0_goOn_34 : decode cX0_goOn 34 = .ok (.iconst 2, 1) := by decide +kernel
theorem dX0_goOn_35 : decode cX0_goOn 35 = .ok (.if_icmp .ne 33, 3) := by decide +kernel
theorem dX0_goOn_38 : decode cX0_goOn 38 = .ok (.aload_n 2, 1) := by decide +kernel
theorem dX0_goOn_39 : decode cX0_goOn 39 = .ok (.dup, 1) := by decide +kernel
theorem dX0_goOn_40 : decode cX0_goOn 40 = .ok (.getfield 133, 3) := by decide +kernel
theorem dX0_goOn_43 : decode cX0_goOn 43 = .ok (.iconst 1, 1) := by decide +kernel
theorem dX0_goOn_44 : decode cX0_goOn 44 = .ok (.iadd, 1) := by decide +kernel
theorem dX0_goOn_45 : decode cX0_goOn 45 = .ok (.putfield 133, 3) := by decide +kernel
theorem dX0_goOn_48 : decode cX0_goOn 48 = .ok (.aload_n 2, 1) := by decide +kernel
theorem dX0_goOn_49 : decode cX0_goOn 49 = .ok (.invokevirtual 164, 3) := by decide +kernel
theorem dX0_goOn_52 : decode cX0_goOn 52 = .ok (.ifCond .eq 16, 3) := by decide +kernel
theorem dX0_goOn_55 : decode cX0_goOn 55 = .ok (.aload_n 0, 1) := by decide +kernel
theorem dX0_goOn_56 : decode cX0_goOn 56 = .ok (.iload_n 1, 1) := by decide +kernel
theorem dX0_goOn_57 : decode cX0_goOn 57 = .ok (.invokevirtual 130, 3) := by decide +kernel
theorem dX0_goOn_60 : decode cX0_goOn 60 = .ok (.ifCond .ne 8, 3) := by decide +kernel
theorem dX0_goOn_63 : decode cX0_goOn 63 = .ok (.aload_n 2, 1) := by decide +kernel
theorem dX0_goOn_64 : decode cX0_goOn 64 = .ok (.iconst 0, 1) := by decide +kernel
theorem dX0_goOn_65 : decode cX0_goOn 65 = .ok (.putfield 65, 3) := by decide +kernel
theorem dX0_goOn_68 : decode cX0_goOn 68 = .ok (.return_, 1) := by decide +kernel
theorem dX1_init_0 : decode cX1_init 0 = .ok (.aload_n 0, 1) := by decide +kernel
theorem dX1_init_1 : decode cX1_init 1 = .ok (.invokespecial 3, 3) := by decide +kernel
theorem dX1_init_4 : decode cX1_init 4 = .ok (.aload_n 0, 1) := by decide +kernel
theorem dX1_init_5 : decode cX1_init 5 = .ok (.bipush 60, 2) := by decide +kernel
theorem dX1_init_7 : decode cX1_init 7 = .ok (.newarray .char, 2) := by decide +kernel
theorem dX1_init_9 : decode cX1_init 9 = .ok (.putfield 9, 3) := by decide +kernel
theorem dX1_init_12 : decode cX1_init 12 = .ok (.aload_n 0, 1) := by decide +kernel
theorem dX1_init_13 : decode cX1_init 13 = .ok (.iconst 3, 1) := by decide +kernel
theorem dX1_init_14 : decode cX1_init 14 = .ok (.newarray .int, 2) := by decide +kernel
theorem dX1_init_16 : decode cX1_init 16 = .ok (.putfield 15, 3) := by decide +kernel
theorem dX1_init_19 : decode cX1_init 19 = .ok (.return_, 1) := by decide +kernel
theorem dX2_init_0 : decode cX2_init 0 = .ok (.aload_n 0, 1) := by decide +kernel
theorem dX2_init_1 : decode cX2_init 1 = .ok (.invokespecial 3, 3) := by decide +kernel
theorem dX2_init_4 : decode cX2_init 4 = .ok (.aload_n 0, 1) := by decide +kernel
theorem dX2_init_5 : decode cX2_init 5 = .ok (.iconst 5, 1) := by decide +kernel
theorem dX2_init_6 : decode cX2_init 6 = .ok (.newarray .int, 2) := by decide +kernel
theorem dX2_init_8 : decode cX2_init 8 = .ok (.putfield 9, 3) := by decide +kernel
theorem dX2_init_11 : decode cX2_init 11 = .ok (.aload_n 0, 1) := by decide +kernel
theorem dX2_init_12 : decode cX2_init 12 = .ok (.iconst 4, 1) := by decide +kernel
theorem dX2_init_13 : decode cX2_init 13 = .ok (.newarray .int, 2) := by decide +kernel
theorem dX2_init_15 : decode cX2_init 15 = .ok (.putfield 15, 3) := by decide +kernel
theorem dX2_init_18 : decode cX2_init 18 = .ok (.return_, 1) := by decide +kernel
theorem dX2_startAnew_0 : decode cX2_startAnew 0 = .ok (.iconst 0, 1) := by decide +kernel
theorem dX2_startAnew_1 : decode cX2_startAnew 1 = .ok (.istore_n 2, 1) := by decide +kernel
theorem dX2_startAnew_2 : decode cX2_startAnew 2 = .ok (.iload_n 2, 1) := by decide +kernel
theorem dX2_startAnew_3 : decode cX2_startAnew 3 = .ok (.iconst 4, 1) := by decide +kernel
theorem dX2_startAnew_4 : decode cX2_startAnew 4 = .ok (.if_icmp .ge 16, 3) := by decide +kernel
theorem dX2_startAnew_7 : decode cX2_startAnew 7 = .ok (.aload_n 0, 1) := by decide +kernel
theorem dX2_startAnew_8 : decode cX2_startAnew 8 = .ok (.getfield 15, 3) := by decide +kernel
theorem dX2_startAnew_11 : decode cX2_startAnew 11 = .ok (.iload_n 2, 1) := by decide +kernel
theorem dX2_startAnew_12 : decode cX2_startAnew 12 = .ok (.iconst 0, 1) := by decide +kernel
theorem dX2_startAnew_13 : decode cX2_startAnew 13 = .ok (.iastore, 1) := by decide +kernel
theorem dX2_startAnew_14 : decode cX2_startAnew 14 = .ok (.iinc 2 1, 3) := by decide +kernel
theorem dX2_startAnew_17 : decode cX2_startAnew 17 = .ok (.goto (-15), 3) := by decide +kernel
theorem dX2_startAnew_20 : decode cX2_startAnew 20 = .ok (.aload_n 0, 1) := by decide +kernel
theorem dX2_startAnew_21 : decode cX2_startAnew 21 = .ok (.iload_n 1, 1) := by decide +kernel
theorem dX2_startAnew_22 : decode cX2_startAnew 22 = .ok (.putfield 18, 3) := by decide +kernel
theorem dX2_startAnew_25 : decode cX2_startAnew 25 = .ok (.aload_n 0, 1) := by decide +kernel
theorem dX2_startAnew_26 : decode cX2_startAnew 26 = .ok (.iconst (-1), 1) := by decide +kernel
theorem dX2_startAnew_27 : decode cX2_startAnew 27 = .ok (.putfield 22, 3) := by decide +kernel
theorem dX2_startAnew_30 : decode cX2_startAnew 30 = .ok (.aload_n 0, 1) := by decide +kernel
theorem dX2_startAnew_31 : decode cX2_startAnew 31 = .ok (.iconst (-1), 1) := by decide +kernel
theorem dX2_startAnew_32 : decode cX2_startAnew 32 = .ok (.putfield 25, 3) := by decide +kernel
theorem dX2_startAnew_35 : decode cX2_startAnew 35 = .ok (.aload_n 0, 1) := by decide +kernel
theorem dX2_startAnew_36 : decode cX2_startAnew 36 = .ok (.iconst 0, 1) := by decide +kernel
theorem dX2_startAnew_37 : decode cX2_startAnew 37 = .ok (.putfield 28, 3) := by decide +kernel
theorem dX2_startAnew_40 : decode cX2_startAnew 40 = .ok (.aload_n 0, 1) := by decide +kernel
theorem dX2_startAnew_41 : decode cX2_startAnew 41 = .ok (.iconst 0, 1) := by decide +kernel
theorem dX2_startAnew_42 : decode cX2_startAnew 42 = .ok (.putfield 31, 3) := by decide +kernel
theorem dX2_startAnew_45 : decode cX2_startAnew 45 = .ok (.aload_n 0, 1) := by decide +kernel
theorem dX2_startAnew_46 : decode cX2_startAnew 46 = .ok (.iconst 0, 1) := by decide +kernel
theorem dX2_startAnew_47 : decode cX2_startAnew 47 = .ok (.putfield 34, 3) := by decide +kernel
theorem dX2_startAnew_50 : decode cX2_startAnew 50 = .ok (.aload_n 0, 1) := by decide +kernel
theorem dX2_startAnew_51 : decode cX2_startAnew 51 = .ok (.iconst 0, 1) := by decide +kernel
theorem dX2_startAnew_52 : decode cX2_startAnew 52 = .ok (.putfield 37, 3) := by decide +kernel
theorem dX2_startAnew_55 : decode cX2_startAnew 55 = .ok (.aload_n 0, 1) := by decide +kernel
theorem dX2_startAnew_56 : decode cX2_startAnew 56 = .ok (.iconst 0, 1) := by decide +kernel
theorem dX2_startAnew_57 : decode cX2_startAnew 57 = .ok (.putfield 40, 3) := by decide +kernel
theorem dX2_startAnew_60 : decode cX2_startAnew 60 = .ok (.aload_n 0, 1) := by decide +kernel
theorem dX2_startAnew_61 : decode cX2_startAnew 61 = .ok (.iconst 0, 1) := by decide +kernel
theorem dX2_startAnew_62 : decode cX2_startAnew 62 = .ok (.putfield 43, 3) := by decide +kernel
theorem dX2_startAnew_65 : decode cX2_startAnew 65 = .ok (.aload_n 0, 1) := by decide +kernel
theorem dX2_startAnew_66 : decode cX2_startAnew 66 = .ok (.iconst 0, 1) := by decide +kernel
theorem dX2_startAnew_67 : decode cX2_startAnew 67 = .ok (.putfield 46, 3) := by decide +kernel
theorem dX2_startAnew_70 : decode cX2_startAnew 70 = .ok (.aload_n 0, 1) := by decide +kernel
theorem dX2_startAnew_71 : decode cX2_startAnew 71 = .ok (.iconst 0, 1) := by decide +kernel
theorem dX2_startAnew_72 : decode cX2_startAnew 72 = .ok (.putfield 49, 3) := by decide +kernel
theorem dX2_startAnew_75 : decode cX2_startAnew 75 = .ok (.aload_n 0, 1) := by decide +kernel
theorem dX2_startAnew_76 : decode cX2_startAnew 76 = .ok (.iconst 0, 1) := by decide +kernel
theorem dX2_startAnew_77 : decode cX2_startAnew 77 = .ok (.putfield 52, 3) := by decide +kernel
theorem dX2_startAnew_80 : decode cX2_startAnew 80 = .ok (.aload_n 0, 1) := by decide +kernel
theorem dX2_startAnew_81 : decode cX2_startAnew 81 = .ok (.iconst 0, 1) := by decide +kernel
theorem dX2_startAnew_82 : decode cX2_startAnew 82 = .ok (.putfield 55, 3) := by decide +kernel
theorem dX2_startAnew_85 : decode cX2_startAnew 85 = .ok (.return_, 1) := by decide +kernel
theorem dX2_copyFrom_0 : decode cX2_copyFrom 0 = .ok (.aload_n 1, 1) := by decide +kernel
theorem dX2_copyFrom_1 : decode cX2_copyFrom 1 = .ok (.getfield 9, 3) := by decide +kernel
theorem dX2_copyFrom_4 : decode cX2_copyFrom 4 = .ok (.iconst 0, 1) := by decide +kernel
theorem dX2_copyFrom_5 : decode cX2_copyFrom 5 = .ok (.aload_n 0, 1) := by decide +kernel
theorem dX2_copyFrom_6 : decode cX2_copyFrom 6 = .ok (.getfield 9, 3) := by decide +kernel
theorem dX2_copyFrom_9 : decode cX2_copyFrom 9 = .ok (.iconst 0, 1) := by decide +kernel
theorem dX2_copyFrom_10 : decode cX2_copyFrom 10 = .ok (.iconst 5, 1) := by decide +kernel
theorem dX2_copyFrom_11 : decode cX2_copyFrom 11 = .ok (.invokestatic 58, 3) := by decide +kernel
theorem dX2_copyFrom_14 : decode cX2_copyFrom 14 = .ok (.aload_n 1, 1) := by decide +kernel
theorem dX2_copyFrom_15 : decode cX2_copyFrom 15 = .ok (.getfield 15, 3) := by decide +kernel
theorem dX2_copyFrom_18 : decode cX2_copyFrom 18 = .ok (.iconst 0, 1) := by decide +kernel
theorem dX2_copyFrom_19 : decode cX2_copyFrom 19 = .ok (.aload_n 0, 1) := by decide +kernel
theorem dX2_copyFrom_20 : decode cX2_copyFrom 20 = .ok (.getfield 15, 3) := by decide +kernel
theorem dX2_copyFrom_23 : decode cX2_copyFrom 23 = .ok (.iconst 0, 1) := by decide +kernel
theorem dX2_copyFrom_24 : decode cX2_copyFrom 24 = .ok (.iconst 4, 1) := by decide +kernel
theorem dX2_copyFrom_25 : decode cX2_copyFrom 25 = .ok (.invokestatic 58, 3) := by decide +kernel
theorem dX2_copyFrom_28 : decode cX2_copyFrom 28 = .ok (.aload_n 0, 1) := by decide +kernel
theorem dX2_copyFrom_29 : decode cX2_copyFrom 29 = .ok (.aload_n 1, 1) := by decide +kernel
theorem dX2_copyFrom_30 : decode cX2_copyFrom 30 = .ok (.getfield 18, 3) := by decide +kernel
theorem dX2_copyFrom_33 : decode cX2_copyFrom 33 = .ok (.putfield 18, 3) := by decide +kernel
theorem dX2_copyFrom_36 : decode cX2_copyFrom 36 = .ok (.aload_n 0, 1) := by decide +kernel
theorem dX2_copyFrom_37 : decode cX2_copyFrom 37 = .ok (.aload_n 1, 1) := by decide +kernel
theorem dX2_copyFrom_38 : decode cX2_copyFrom 38 = .ok (.getfield 22, 3) := by decide +kernel
theorem dX2_copyFrom_41 : decode cX2_copyFrom 41 = .ok (.putfield 22, 3) := by decide +kernel
theorem dX2_copyFrom_44 : decode cX2_copyFrom 44 = .ok (.aload_n 0, 1) := by decide +kernel
theorem dX2_copyFrom_45 : decode cX2_copyFrom 45 = .ok (.aload_n 1, 1) := by decide +kernel
theorem dX2_copyFrom_46 : decode cX2_copyFrom 46 = .ok (.getfield 25, 3) := by decide +kernel
theorem dX2_copyFrom_49 : decode cX2_copyFrom 49 = .ok (.putfield 25, 3) := by decide +kernel
theorem dX2_copyFrom_52 : decode cX2_copyFrom 52 = .ok (.aload_n 0, 1) := by decide +kernel
theorem dX2_copyFrom_53 : decode cX2_copyFrom 53 = .ok (.aload_n 1, 1) := by decide +kernel
theorem dX2_copyFrom_54 : decode cX2_copyFrom 54 = .ok (.getfield 28, 3) := by decide +kernel
theorem dX2_copyFrom_57 : decode cX2_copyFrom 57 = .ok (.putfield 28, 3) := by decide +kernel
theorem dX2_copyFrom_60 : decode cX2_copyFrom 60 = .ok (.aload_n 0, 1) := by decide +kernel
theorem dX2_copyFrom_61 : decode cX2_copyFrom 61 = .ok (.aload_n 1, 1) := by decide +kernel
theorem dX2_copyFrom_62 : decode cX2_copyFrom 62 = .ok (.getfield 31, 3) := by decide +kernel
theorem dX2_copyFrom_65 : decode cX2_copyFrom 65 = .ok (.putfield 31, 3) := by decide +kernel
theorem dX2_copyFrom_68 : decode cX2_copyFrom 68 = .ok (.aload_n 0, 1) := by decide +kernel
theorem dX2_copyFrom_69 : decode cX2_copyFrom 69 = .ok (.aload_n 1, 1) := by decide +kernel
theorem dX2_copyFrom_70 : decode cX2_copyFrom 70 = .ok (.getfield 34, 3) := by decide +kernel
theorem dX2_copyFrom_73 : decode cX2_copyFrom 73 = .ok (.putfield 34, 3) := by decide +kernel
theorem dX2_copyFrom_76 : decode cX2_copyFrom 76 = .ok (.aload_n 0, 1) := by decide +kernel
theorem dX2_copyFrom_77 : decode cX2_copyFrom 77 = .ok (.aload_n 1, 1) := by decide +kernel
theorem dX2_copyFrom_78 : decode cX2_copyFrom 78 = .ok (.getfield 37, 3) := by decide +kernel
theorem dX2_copyFrom_81 : decode cX2_copyFrom 81 = .ok (.putfield 37, 3) := by decide +kernel
theorem dX2_copyFrom_84 : decode cX2_copyFrom 84 = .ok (.aload_n 0, 1) := by decide +kernel
theorem dX2_copyFrom_85 : decode cX2_copyFrom 85 = .ok (.aload_n 1, 1) := by decide +kernel
theorem dX2_copyFrom_86 : decode cX2_copyFrom 86 = .ok (.getfield 40, 3) := by decide +kernel
theorem dX2_copyFrom_89 : decode cX2_copyFrom 89 = .ok (.putfield 40, 3) := by decide +kernel
theorem dX2_copyFrom_92 : decode cX2_copyFrom 92 = .ok (.aload_n 0, 1) := by decide +kernel
theorem dX2_copyFrom_93 : decode cX2_copyFrom 93 = .ok (.aload_n 1, 1) := by decide +kernel
theorem dX2_copyFrom_94 : decode cX2_copyFrom 94 = .ok (.getfield 43, 3) := by decide +kernel
theorem dX2_copyFrom_97 : decode cX2_copyFrom 97 = .ok (.putfield 43, 3) := by decide +kernel
theorem dX2_copyFrom_100 : decode cX2_copyFrom 100 = .ok (.aload_n 0, 1) := by decide +kernel
theorem dX2_copyFrom_101 : decode cX2_copyFrom 101 = .ok (.aload_n 1, 1) := by decide +kernel
theorem dX2_copyFrom_102 : decode cX2_copyFrom 102 = .ok (.getfield 46, 3) := by decide +kernel
theorem dX2_copyFrom_105 : decode cX2_copyFrom 105 = .ok (.putfield 46, 3) := by decide +kernel
theorem dX2_copyFrom_108 : decode cX2_copyFrom 108 = .ok (.aload_n 0, 1) := by decide +kernel
theorem dX2_copyFrom_109 : decode cX2_copyFrom 109 = .ok (.aload_n 1, 1) := by decide +kernel
theorem dX2_copyFrom_110 : decode cX2_copyFrom 110 = .ok (.getfield 49, 3) := by decide +kernel
theorem dX2_copyFrom_113 : decode cX2_copyFrom 113 = .ok (.putfield 49, 3) := by decide +kernel
theorem dX2_copyFrom_116 : decode cX2_copyFrom 116 = .ok (.aload_n 0, 1) := by decide +kernel
theorem dX2_copyFrom_117 : decode cX2_copyFrom 117 = .ok (.aload_n 1, 1) := by decide +kernel
theorem dX2_copyFrom_118 : decode cX2_copyFrom 118 = .ok (.getfield 52, 3) := by decide +kernel
theorem dX2_copyFrom_121 : decode cX2_copyFrom 121 = .ok (.putfield 52, 3) := by decide +kernel
theorem dX2_copyFrom_124 : decode cX2_copyFrom 124 = .ok (.aload_n 0, 1) := by decide +kernel
theorem dX2_copyFrom_125 : decode cX2_copyFrom 125 = .ok (.aload_n 1, 1) := by decide +kernel
theorem dX2_copyFrom_126 : decode cX2_copyFrom 126 = .ok (.getfield 55, 3) := by decide +kernel
theorem dX2_copyFrom_129 : decode cX2_copyFrom 129 = .ok (.putfield 55, 3) := by decide +kernel
theorem dX2_copyFrom_132 : decode cX2_copyFrom 132 = .ok (.return_, 1) := by decide +kernel
theorem dX2_tell_0 : decode cX2_tell 0 = .ok (.iload_n 1, 1) := by decide +kernel
theorem dX2_tell_1 : decode cX2_tell 1 = .ok (.tableswitch 176 0 11 #[63, 68, 73, 91, 109, 134, 151, 156, 176, 161, 166, 171], 63) := by decide +kernel
theorem dX2_tell_64 : decode cX2_tell 64 = .ok (.aload_n 0, 1) := by decide +kernel
theorem dX2_tell_65 : decode cX2_tell 65 = .ok (.getfield 18, 3) := by decide +kernel
theorem dX2_tell_68 : decode cX2_tell 68 = .ok (.ireturn, 1) := by decide +kernel
theorem dX2_tell_69 : decode cX2_tell 69 = .ok (.aload_n 0, 1) := by decide +kernel
theorem dX2_tell_70 : decode cX2_tell 70 = .ok (.getfield 34, 3) := by decide +kernel
theorem dX2_tell_73 : decode cX2_tell 73 = .ok (.ireturn, 1) := by decide +kernel
theorem dX2_tell_74 : decode cX2_tell 74 = .ok (.aload_n 0, 1) := by decide +kernel
theorem dX2_tell_75 : decode cX2_tell 75 = .ok (.getfield 22, 3) := by decide +kernel
theorem dX2_tell_78 : decode cX2_tell 78 = .ok (.iconst (-1), 1) := by decide +kernel
theorem dX2_tell_79 : decode cX2_tell 79 = .ok (.if_icmp .ne 8, 3) := by decide +kernel
theorem dX2_tell_82 : decode cX2_tell 82 = .ok (.bipush (-4), 2) := by decide +kernel
theorem dX2_tell_84 : decode cX2_tell 84 = .ok (.goto 7, 3) := by decide +kernel
theorem dX2_tell_87 : decode cX2_tell 87 = .ok (.aload_n 0, 1) := by decide +kernel
theorem dX2_tell_88 : decode cX2_tell 88 = .ok (.getfield 22, 3) := by decide +kernel
theorem dX2_tell_91 : decode cX2_tell 91 = .ok (.ireturn, 1) := by decide +kernel
theorem dX2_tell_92 : decode cX2_tell 92 = .ok (.aload_n 0, 1) := by decide +kernel
theorem dX2_tell_93 : decode cX2_tell 93 = .ok (.getfield 25, 3) := by decide +kernel
theorem dX2_tell_96 : decode cX2_tell 96 = .ok (.iconst (-1), 1) := by decide +kernel
theorem dX2_tell_97 : decode cX2_tell 97 = .ok (.if_icmp .ne 8, 3) := by decide +kernel
theorem dX2_tell_100 : decode cX2_tell 100 = .ok (.bipush (-4), 2) := by decide +kernel
theorem dX2_tell_102 : decode cX2_tell 102 = .ok (.goto 7, 3) := by decide +kernel
theorem dX2_tell_105 : decode cX2_tell 105 = .ok (.aload_n 0, 1) := by decide +kernel
theorem dX2_tell_106 : decode cX2_tell 106 = .ok (.getfield 25, 3) := by decide +kernel
theorem dX2_tell_109 : decode cX2_tell 109 = .ok (.ireturn, 1) := by decide +kernel
theorem dX2_tell_110 : decode cX2_tell 110 = .ok (.aload_n 0, 1) := by decide +kernel
theorem dX2_tell_111 : decode cX2_tell 111 = .ok (.getfield 34, 3) := by decide +kernel
theorem dX2_tell_114 : decode cX2_tell 114 = .ok (.iconst 1, 1) := by decide +kernel
theorem dX2_tell_115 : decode cX2_tell 115 = .ok (.if_icmp .eq 11, 3) := by decide +kernel
theorem dX2_tell_118 : decode cX2_tell 118 = .ok (.aload_n 0, 1) := by decide +kernel
theorem dX2_tell_119 : decode cX2_tell 119 = .ok (.getfield 34, 3) := by decide +kernel
theorem dX2_tell_122 : decode cX2_tell 122 = .ok (.iconst 3, 1) := by decide +kernel
theorem dX2_tell_123 : decode cX2_tell 123 = .ok (.if_icmp .ne 10, 3) := by decide +kernel
theorem dX2_tell_126 : decode cX2_tell 126 = .ok (.aload_n 0, 1) := by decide +kernel
theorem dX2_tell_127 : decode cX2_tell 127 = .ok (.getfield 37, 3) := by decide +kernel
theorem dX2_tell_130 : decode cX2_tell 130 = .ok (.goto 4, 3) := by decide +kernel
theorem dX2_tell_133 : decode cX2_tell 133 = .ok (.iconst 0, 1) := by decide +kernel
theorem dX2_tell_134 : decode cX2_tell 134 = .ok (.ireturn, 1) := by decide +kernel
theorem dX2_tell_135 : decode cX2_tell 135 = .ok (.aload_n 0, 1) := by decide +kernel
theorem dX2_tell_136 : decode cX2_tell 136 = .ok (.getfield 34, 3) := by decide +kernel
theorem dX2_tell_139 : decode cX2_tell 139 = .ok (.iconst 2, 1) := by decide +kernel
theorem dX2_tell_140 : decode cX2_tell 140 = .ok (.if_icmp .ne 10, 3) := by decide +kernel
theorem dX2_tell_143 : decode cX2_tell 143 = .ok (.aload_n 0, 1) := by decide +kernel
theorem dX2_tell_144 : decode cX2_tell 144 = .ok (.getfield 40, 3) := by decide +kernel
theorem dX2_tell_147 : decode cX2_tell 147 = .ok (.goto 4, 3) := by decide +kernel
theorem dX2_tell_150 : decode cX2_tell 150 = .ok (.iconst 0, 1) := by decide +kernel
theorem dX2_tell_151 : decode cX2_tell 151 = .ok (.ireturn, 1) := by decide +kernel
theorem dX2_tell_152 : decode cX2_tell 152 = .ok (.aload_n 0, 1) := by decide +kernel
theorem dX2_tell_153 : decode cX2_tell 153 = .ok (.getfield 28, 3) := by decide +kernel
theorem dX2_tell_156 : decode cX2_tell 156 = .ok (.ireturn, 1) := by decide +kernel
theorem dX2_tell_157 : decode cX2_tell 157 = .ok (.aload_n 0, 1) := by decide +kernel
theorem dX2_tell_158 : decode cX2_tell 158 = .ok (.getfield 31, 3) := by decide +kernel
theorem dX2_tell_161 : decode cX2_tell 161 = .ok (.ireturn, 1) := by decide +kernel
theorem dX2_tell_162 : decode cX2_tell 162 = .ok (.aload_n 0, 1) := by decide +kernel
theorem dX2_tell_163 : decode cX2_tell 163 = .ok (.getfield 43, 3) := by decide +kernel
theorem dX2_tell_166 : decode cX2_tell 166 = .ok (.ireturn, 1) := by decide +kernel
theorem dX2_tell_167 : decode cX2_tell 167 = .ok (.aload_n 0, 1) := by decide +kernel
theorem dX2_tell_168 : decode cX2_tell 168 = .ok (.getfield 46, 3) := by decide +kernel
theorem dX2_tell_171 : decode cX2_tell 171 = .ok (.ireturn, 1) := by decide +kernel
theorem dX2_tell_172 : decode cX2_tell 172 = .ok (.aload_n 0, 1) := by decide +kernel
theorem dX2_tell_173 : decode cX2_tell 173 = .ok (.getfield 49, 3) := by decide +kernel
theorem dX2_tell_176 : decode cX2_tell 176 = .ok (.ireturn, 1) := by decide +kernel
theorem dX2_tell_177 : decode cX2_tell 177 = .ok (.aload_n 0, 1) := by decide +kernel
theorem dX2_tell_178 : decode cX2_tell 178 = .ok (.getfield 43, 3) := by decide +kernel
theorem dX2_tell_181 : decode cX2_tell 181 = .ok (.iconst 2, 1) := by decide +kernel
theorem dX2_tell_182 : decode cX2_tell 182 = .ok (.if_icmp .ge 8, 3) := by decide +kernel
theorem dX2_tell_185 : decode cX2_tell 185 = .ok (.bipush (-4), 2) := by decide +kernel
theorem dX2_tell_187 : decode cX2_tell 187 = .ok (.goto 7, 3) := by decide +kernel
theorem dX2_tell_190 : decode cX2_tell 190 = .ok (.aload_n 0, 1) := by decide +kernel
theorem dX2_tell_191 : decode cX2_tell 191 = .ok (.getfield 55, 3) := by decide +kernel
theorem dX2_tell_194 : decode cX2_tell 194 = .ok (.ireturn, 1) := by decide +kernel
theorem dX2_paidInAll_0 : decode cX2_paidInAll 0 = .ok (.aload_n 0, 1) := by decide +kernel
theorem dX2_paidInAll_1 : decode cX2_paidInAll 1 = .ok (.getfield 15, 3) := by decide +kernel
theorem dX2_paidInAll_4 : decode cX2_paidInAll 4 = .ok (.iconst 0, 1) := by decide +kernel
theorem dX2_paidInAll_5 : decode cX2_paidInAll 5 = .ok (.iaload, 1) := by decide +kernel
theorem dX2_paidInAll_6 : decode cX2_paidInAll 6 = .ok (.aload_n 0, 1) := by decide +kernel
theorem dX2_paidInAll_7 : decode cX2_paidInAll 7 = .ok (.getfield 15, 3) := by decide +kernel
theorem dX2_paidInAll_10 : decode cX2_paidInAll 10 = .ok (.iconst 1, 1) := by decide +kernel
theorem dX2_paidInAll_11 : decode cX2_paidInAll 11 = .ok (.iaload, 1) := by decide +kernel
theorem dX2_paidInAll_12 : decode cX2_paidInAll 12 = .ok (.iadd, 1) := by decide +kernel
theorem dX2_paidInAll_13 : decode cX2_paidInAll 13 = .ok (.aload_n 0, 1) := by decide +kernel
theorem dX2_paidInAll_14 : decode cX2_paidInAll 14 = .ok (.getfield 15, 3) := by decide +kernel
theorem dX2_paidInAll_17 : decode cX2_paidInAll 17 = .ok (.iconst 2, 1) := by decide +kernel
theorem dX2_paidInAll_18 : decode cX2_paidInAll 18 = .ok (.iaload, 1) := by decide +kernel
theorem dX2_paidInAll_19 : decode cX2_paidInAll 19 = .ok (.iadd, 1) := by decide +kernel
theorem dX2_paidInAll_20 : decode cX2_paidInAll 20 = .ok (.aload_n 0, 1) := by decide +kernel
theorem dX2_paidInAll_21 : decode cX2_paidInAll 21 = .ok (.getfield 15, 3) := by decide +kernel
theorem dX2_paidInAll_24 : decode cX2_paidInAll 24 = .ok (.iconst 3, 1) := by decide +kernel
theorem dX2_paidInAll_25 : decode cX2_paidInAll 25 = .ok (.iaload, 1) := by decide +kernel
theorem dX2_paidInAll_26 : decode cX2_paidInAll 26 = .ok (.iadd, 1) := by decide +kernel
theorem dX2_paidInAll_27 : decode cX2_paidInAll 27 = .ok (.ireturn, 1) := by decide +kernel
theorem dX2_startWaking_0 : decode cX2_startWaking 0 = .ok (.aload_n 0, 1) := by decide +kernel
theorem dX2_startWaking_1 : decode cX2_startWaking 1 = .ok (.getfield 15, 3) := by decide +kernel
theorem dX2_startWaking_4 : decode cX2_startWaking 4 = .ok (.iconst 0, 1) := by decide +kernel
theorem dX2_startWaking_5 : decode cX2_startWaking 5 = .ok (.dup2, 1) := by decide +kernel
theorem dX2_startWaking_6 : decode cX2_startWaking 6 = .ok (.iaload, 1) := by decide +kernel
theorem dX2_startWaking_7 : decode cX2_startWaking 7 = .ok (.aload_n 0, 1) := by decide +kernel
theorem dX2_startWaking_8 : decode cX2_startWaking 8 = .ok (.getfield 9, 3) := by decide +kernel
theorem dX2_startWaking_11 : decode cX2_startWaking 11 = .ok (.iconst 0, 1) := by decide +kernel
theorem dX2_startWaking_12 : decode cX2_startWaking 12 = .ok (.iaload, 1) := by decide +kernel
theorem dX2_startWaking_13 : decode cX2_startWaking 13 = .ok (.iadd, 1) := by decide +kernel
theorem dX2_startWaking_14 : decode cX2_startWaking 14 = .ok (.iastore, 1) := by decide +kernel
theorem dX2_startWaking_15 : decode cX2_startWaking 15 = .ok (.aload_n 0, 1) := by decide +kernel
theorem dX2_startWaking_16 : decode cX2_startWaking 16 = .ok (.iconst 1, 1) := by decide +kernel
theorem dX2_startWaking_17 : decode cX2_startWaking 17 = .ok (.putfield 34, 3) := by decide +kernel
theorem dX2_startWaking_20 : decode cX2_startWaking 20 = .ok (.aload_n 0, 1) := by decide +kernel
theorem dX2_startWaking_21 : decode cX2_startWaking 21 = .ok (.aload_n 0, 1) := by decide +kernel
theorem dX2_startWaking_22 : decode cX2_startWaking 22 = .ok (.getfield 9, 3) := by decide +kernel
theorem dX2_startWaking_25 : decode cX2_startWaking 25 = .ok (.iconst 1, 1) := by decide +kernel
theorem dX2_startWaking_26 : decode cX2_startWaking 26 = .ok (.iaload, 1) := by decide +kernel
theorem dX2_startWaking_27 : decode cX2_startWaking 27 = .ok (.putfield 37, 3) := by decide +kernel
theorem dX2_startWaking_30 : decode cX2_startWaking 30 = .ok (.aload_n 0, 1) := by decide +kernel
theorem dX2_startWaking_31 : decode cX2_startWaking 31 = .ok (.dup, 1) := by decide +kernel
theorem dX2_startWaking_32 : decode cX2_startWaking 32 = .ok (.getfield 49, 3) := by decide +kernel
theorem dX2_startWaking_35 : decode cX2_startWaking 35 = .ok (.iconst 1, 1) := by decide +kernel
theorem dX2_startWaking_36 : decode cX2_startWaking 36 = .ok (.iadd, 1) := by decide +kernel
theorem dX2_startWaking_37 : decode cX2_startWaking 37 = .ok (.putfield 49, 3) := by decide +kernel
theorem dX2_startWaking_40 : decode cX2_startWaking 40 = .ok (.return_, 1) := by decide +kernel
theorem dX2_begin_0 : decode cX2_begin 0 = .ok (.aload_n 0, 1) := by decide +kernel
theorem dX2_begin_1 : decode cX2_begin 1 = .ok (.getfield 43, 3) := by decide +kernel
theorem dX2_begin_4 : decode cX2_begin 4 = .ok (.ifCond .le 13, 3) := by decide +kernel
theorem dX2_begin_7 : decode cX2_begin 7 = .ok (.aload_n 0, 1) := by decide +kernel
theorem dX2_begin_8 : decode cX2_begin 8 = .ok (.iload_n 1, 1) := by decide +kernel
theorem dX2_begin_9 : decode cX2_begin 9 = .ok (.aload_n 0, 1) := by decide +kernel
theorem dX2_begin_10 : decode cX2_begin 10 = .ok (.getfield 52, 3) := by decide +kernel
theorem dX2_begin_13 : decode cX2_begin 13 = .ok (.isub, 1) := by decide +kernel
theorem dX2_begin_14 : decode cX2_begin 14 = .ok (.putfield 55, 3) := by decide +kernel
theorem dX2_begin_17 : decode cX2_begin 17 = .ok (.aload_n 0, 1) := by decide +kernel
theorem dX2_begin_18 : decode cX2_begin 18 = .ok (.iload_n 1, 1) := by decide +kernel
theorem dX2_begin_19 : decode cX2_begin 19 = .ok (.iload_n 3, 1) := by decide +kernel
theorem dX2_begin_20 : decode cX2_begin 20 = .ok (.iadd, 1) := by decide +kernel
theorem dX2_begin_21 : decode cX2_begin 21 = .ok (.putfield 52, 3) := by decide +kernel
theorem dX2_begin_24 : decode cX2_begin 24 = .ok (.aload_n 0, 1) := by decide +kernel
theorem dX2_begin_25 : decode cX2_begin 25 = .ok (.dup, 1) := by decide +kernel
theorem dX2_begin_26 : decode cX2_begin 26 = .ok (.getfield 43, 3) := by decide +kernel
theorem dX2_begin_29 : decode cX2_begin 29 = .ok (.iconst 1, 1) := by decide +kernel
theorem dX2_begin_30 : decode cX2_begin 30 = .ok (.iadd, 1) := by decide +kernel
theorem dX2_begin_31 : decode cX2_begin 31 = .ok (.putfield 43, 3) := by decide +kernel
theorem dX2_begin_34 : decode cX2_begin 34 = .ok (.aload_n 0, 1) := by decide +kernel
theorem dX2_begin_35 : decode cX2_begin 35 = .ok (.dup, 1) := by decide +kernel
theorem dX2_begin_36 : decode cX2_begin 36 = .ok (.getfield 46, 3) := by decide +kernel
theorem dX2_begin_39 : decode cX2_begin 39 = .ok (.iload_n 1, 1) := by decide +kernel
theorem dX2_begin_40 : decode cX2_begin 40 = .ok (.iload_n 2, 1) := by decide +kernel
theorem dX2_begin_41 : decode cX2_begin 41 = .ok (.isub, 1) := by decide +kernel
theorem dX2_begin_42 : decode cX2_begin 42 = .ok (.iadd, 1) := by decide +kernel
theorem dX2_begin_43 : decode cX2_begin 43 = .ok (.putfield 46, 3) := by decide +kernel
theorem dX2_begin_46 : decode cX2_begin 46 = .ok (.aload_n 0, 1) := by decide +kernel
theorem dX2_begin_47 : decode cX2_begin 47 = .ok (.iconst 3, 1) := by decide +kernel
theorem dX2_begin_48 : decode cX2_begin 48 = .ok (.putfield 34, 3) := by decide +kernel
theorem dX2_begin_51 : decode cX2_begin 51 = .ok (.aload_n 0, 1) := by decide +kernel
theorem dX2_begin_52 : decode cX2_begin 52 = .ok (.iload_n 3, 1) := by decide +kernel
theorem dX2_begin_53 : decode cX2_begin 53 = .ok (.putfield 37, 3) := by decide +kernel
theorem dX2_begin_56 : decode cX2_begin 56 = .ok (.return_, 1) := by decide +kernel
theorem dX2_isGuessedByGap_0 : decode cX2_isGuessedByGap 0 = .ok (.aload_n 0, 1) := by decide +kernel
theorem dX2_isGuessedByGap_1 : decode cX2_isGuessedByGap 1 = .ok (.getfield 31, 3) := by decide +kernel
theorem dX2_isGuessedByGap_4 : decode cX2_isGuessedByGap 4 = .ok (.iconst 2, 1) := by decide +kernel
theorem dX2_isGuessedByGap_5 : decode cX2_isGuessedByGap 5 = .ok (.if_icmp .ne 43, 3) := by decide +kernel
theorem dX2_isGuessedByGap_8 : decode cX2_isGuessedByGap 8 = .ok (.aload_n 0, 1) := by decide +kernel
theorem dX2_isGuessedByGap_9 : decode cX2_isGuessedByGap 9 = .ok (.getfield 43, 3) := by decide +kernel
theorem dX2_isGuessedByGap_12 : decode cX2_isGuessedByGap 12 = .ok (.iconst 2, 1) := by decide +kernel
theorem dX2_isGuessedByGap_13 : decode cX2_isGuessedByGap 13 = .ok (.if_icmp .lt 35, 3) := by decide +kernel
theorem dX2_isGuessedByGap_16 : decode cX2_isGuessedByGap 16 = .ok (.aload_n 0, 1) := by decide +kernel
theorem dX2_isGuessedByGap_17 : decode cX2_isGuessedByGap 17 = .ok (.getfield 34, 3) := by decide +kernel
theorem dX2_isGuessedByGap_20 : decode cX2_isGuessedByGap 20 = .ok (.iconst 3, 1) := by decide +kernel
theorem dX2_isGuessedByGap_21 : decode cX2_isGuessedByGap 21 = .ok (.if_icmp .eq 27, 3) := by decide +kernel
theorem dX2_isGuessedByGap_24 : decode cX2_isGuessedByGap 24 = .ok (.iload_n 1, 1) := by decide +kernel
theorem dX2_isGuessedByGap_25 : decode cX2_isGuessedByGap 25 = .ok (.aload_n 0, 1) := by decide +kernel
theorem dX2_isGuessedByGap_26 : decode cX2_isGuessedByGap 26 = .ok (.getfield 52, 3) := by decide +kernel
theorem dX2_isGuessedByGap_29 : decode cX2_isGuessedByGap 29 = .ok (.aload_n 0, 1) := by decide +kernel
theorem dX2_isGuessedByGap_30 : decode cX2_isGuessedByGap 30 = .ok (.getfield 55, 3) := by decide +kernel
theorem dX2_isGuessedByGap_33 : decode cX2_isGuessedByGap 33 = .ok (.iadd, 1) := by decide +kernel
theorem dX2_isGuessedByGap_34 : decode cX2_isGuessedByGap 34 = .ok (.aload_n 0, 1) := by decide +kernel
theorem dX2_isGuessedByGap_35 : decode cX2_isGuessedByGap 35 = .ok (.getfield 9, 3) := by decide +kernel
theorem dX2_isGuessedByGap_38 : decode cX2_isGuessedByGap 38 = .ok (.iconst 1, 1) := by decide +kernel
theorem dX2_isGuessedByGap_39 : decode cX2_isGuessedByGap 39 = .ok (.iaload, 1) := by decide +kernel
theorem dX2_isGuessedByGap_40 : decode cX2_isGuessedByGap 40 = .ok (.isub, 1) := by decide +kernel
theorem dX2_isGuessedByGap_41 : decode cX2_isGuessedByGap 41 = .ok (.if_icmp .ne 7, 3) := by decide +kernel
theorem dX2_isGuessedByGap_44 : decode cX2_isGuessedByGap 44 = .ok (.iconst 1, 1) := by decide +kernel
theorem dX2_isGuessedByGap_45 : decode cX2_isGuessedByGap 45 = .ok (.goto 4, 3) := by decide +kernel
theorem dX2_isGuessedByGap_48 : decode cX2_isGuessedByGap 48 = .ok (.iconst 0, 1) := by decide +kernel
theorem dX2_isGuessedByGap_49 : decode cX2_isGuessedByGap 49 = .ok (.ireturn, 1) := by decide +kernel
theorem dX2_payForTick_0 : decode cX2_payForTick 0 = .ok (.aload_n 0, 1) := by decide +kernel
theorem dX2_payForTick_1 : decode cX2_payForTick 1 = .ok (.getfield 34, 3) := by decide +kernel
theorem dX2_payForTick_4 : decode cX2_payForTick 4 = .ok (.tableswitch 86 0 3 #[32, 86, 50, 68], 32) := by decide +kernel
theorem dX2_payForTick_36 : decode cX2_payForTick 36 = .ok (.aload_n 0, 1) := by decide +kernel
theorem dX2_payForTick_37 : decode cX2_payForTick 37 = .ok (.getfield 15, 3) := by decide +kernel
theorem dX2_payForTick_40 : decode cX2_payForTick 40 = .ok (.iconst 3, 1) := by decide +kernel
theorem dX2_payForTick_41 : decode cX2_payForTick 41 = .ok (.dup2, 1) := by decide +kernel
theorem dX2_payForTick_42 : decode cX2_payForTick 42 = .ok (.iaload, 1) := by decide +kernel
theorem dX2_payForTick_43 : decode cX2_payForTick 43 = .ok (.aload_n 0, 1) := by decide +kernel
theorem dX2_payForTick_44 : decode cX2_payForTick 44 = .ok (.getfield 9, 3) := by decide +kernel
theorem dX2_payForTick_47 : decode cX2_payForTick 47 = .ok (.iconst 4, 1) := by decide +kernel
theorem dX2_payForTick_48 : decode cX2_payForTick 48 = .ok (.iaload, 1) := by decide +kernel
theorem dX2_payForTick_49 : decode cX2_payForTick 49 = .ok (.iadd, 1) := by decide +kernel
theorem dX2_payForTick_50 : decode cX2_payForTick 50 = .ok (.iastore, 1) := by decide +kernel
theorem dX2_payForTick_51 : decode cX2_payForTick 51 = .ok (.goto 39, 3) := by decide +kernel
theorem dX2_payForTick_54 : decode cX2_payForTick 54 = .ok (.aload_n 0, 1) := by decide +kernel
theorem dX2_payForTick_55 : decode cX2_payForTick 55 = .ok (.getfield 15, 3) := by decide +kernel
theorem dX2_payForTick_58 : decode cX2_payForTick 58 = .ok (.iconst 2, 1) := by decide +kernel
theorem dX2_payForTick_59 : decode cX2_payForTick 59 = .ok (.dup2, 1) := by decide +kernel
theorem dX2_payForTick_60 : decode cX2_payForTick 60 = .ok (.iaload, 1) := by decide +kernel
theorem dX2_payForTick_61 : decode cX2_payForTick 61 = .ok (.aload_n 0, 1) := by decide +kernel
theorem dX2_payForTick_62 : decode cX2_payForTick 62 = .ok (.getfield 9, 3) := by decide +kernel
theorem dX2_payForTick_65 : decode cX2_payForTick 65 = .ok (.iconst 3, 1) := by decide +kernel
theorem dX2_payForTick_66 : decode cX2_payForTick 66 = .ok (.iaload, 1) := by decide +kernel
theorem dX2_payForTick_67 : decode cX2_payForTick 67 = .ok (.iadd, 1) := by decide +kernel
theorem dX2_payForTick_68 : decode cX2_payForTick 68 = .ok (.iastore, 1) := by decide +kernel
theorem dX2_payForTick_69 : decode cX2_payForTick 69 = .ok (.goto 21, 3) := by decide +kernel
theorem dX2_payForTick_72 : decode cX2_payForTick 72 = .ok (.aload_n 0, 1) := by decide +kernel
theorem dX2_payForTick_73 : decode cX2_payForTick 73 = .ok (.getfield 15, 3) := by decide +kernel
theorem dX2_payForTick_76 : decode cX2_payForTick 76 = .ok (.iconst 1, 1) := by decide +kernel
theorem dX2_payForTick_77 : decode cX2_payForTick 77 = .ok (.dup2, 1) := by decide +kernel
theorem dX2_payForTick_78 : decode cX2_payForTick 78 = .ok (.iaload, 1) := by decide +kernel
theorem dX2_payForTick_79 : decode cX2_payForTick 79 = .ok (.aload_n 0, 1) := by decide +kernel
theorem dX2_payForTick_80 : decode cX2_payForTick 80 = .ok (.getfield 9, 3) := by decide +kernel
theorem dX2_payForTick_83 : decode cX2_payForTick 83 = .ok (.iconst 2, 1) := by decide +kernel
theorem dX2_payForTick_84 : decode cX2_payForTick 84 = .ok (.iaload, 1) := by decide +kernel
theorem dX2_payForTick_85 : decode cX2_payForTick 85 = .ok (.iadd, 1) := by decide +kernel
theorem dX2_payForTick_86 : decode cX2_payForTick 86 = .ok (.iastore, 1) := by decide +kernel
theorem dX2_payForTick_87 : decode cX2_payForTick 87 = .ok (.goto 3, 3) := by decide +kernel
theorem dX2_payForTick_90 : decode cX2_payForTick 90 = .ok (.return_, 1) := by decide +kernel
theorem dX2_workOn_0 : decode cX2_workOn 0 = .ok (.aload_n 0, 1) := by decide +kernel
theorem dX2_workOn_1 : decode cX2_workOn 1 = .ok (.dup, 1) := by decide +kernel
theorem dX2_workOn_2 : decode cX2_workOn 2 = .ok (.getfield 37, 3) := by decide +kernel
theorem dX2_workOn_5 : decode cX2_workOn 5 = .ok (.iconst 1, 1) := by decide +kernel
theorem dX2_workOn_6 : decode cX2_workOn 6 = .ok (.isub, 1) := by decide +kernel
theorem dX2_workOn_7 : decode cX2_workOn 7 = .ok (.putfield 37, 3) := by decide +kernel
theorem dX2_workOn_10 : decode cX2_workOn 10 = .ok (.aload_n 0, 1) := by decide +kernel
theorem dX2_workOn_11 : decode cX2_workOn 11 = .ok (.getfield 37, 3) := by decide +kernel
theorem dX2_workOn_14 : decode cX2_workOn 14 = .ok (.ifCond .gt 13, 3) := by decide +kernel
theorem dX2_workOn_17 : decode cX2_workOn 17 = .ok (.aload_n 0, 1) := by decide +kernel
theorem dX2_workOn_18 : decode cX2_workOn 18 = .ok (.iconst 2, 1) := by decide +kernel
theorem dX2_workOn_19 : decode cX2_workOn 19 = .ok (.putfield 34, 3) := by decide +kernel
theorem dX2_workOn_22 : decode cX2_workOn 22 = .ok (.aload_n 0, 1) := by decide +kernel
theorem dX2_workOn_23 : decode cX2_workOn 23 = .ok (.iconst 0, 1) := by decide +kernel
theorem dX2_workOn_24 : decode cX2_workOn 24 = .ok (.putfield 40, 3) := by decide +kernel
theorem dX2_workOn_27 : decode cX2_workOn 27 = .ok (.return_, 1) := by decide +kernel
theorem dX2_isTimedOut_0 : decode cX2_isTimedOut 0 = .ok (.aload_n 0, 1) := by decide +kernel
theorem dX2_isTimedOut_1 : decode cX2_isTimedOut 1 = .ok (.getfield 28, 3) := by decide +kernel
theorem dX2_isTimedOut_4 : decode cX2_isTimedOut 4 = .ok (.ifCond .le 18, 3) := by decide +kernel
theorem dX2_isTimedOut_7 : decode cX2_isTimedOut 7 = .ok (.aload_n 0, 1) := by decide +kernel
theorem dX2_isTimedOut_8 : decode cX2_isTimedOut 8 = .ok (.getfield 40, 3) := by decide +kernel
theorem dX2_isTimedOut_11 : decode cX2_isTimedOut 11 = .ok (.aload_n 0, 1) := by decide +kernel
theorem dX2_isTimedOut_12 : decode cX2_isTimedOut 12 = .ok (.getfield 28, 3) := by decide +kernel
theorem dX2_isTimedOut_15 : decode cX2_isTimedOut 15 = .ok (.if_icmp .lt 7, 3) := by decide +kernel
theorem dX2_isTimedOut_18 : decode cX2_isTimedOut 18 = .ok (.iconst 1, 1) := by decide +kernel
theorem dX2_isTimedOut_19 : decode cX2_isTimedOut 19 = .ok (.goto 4, 3) := by decide +kernel
theorem dX2_isTimedOut_22 : decode cX2_isTimedOut 22 = .ok (.iconst 0, 1) := by decide +kernel
theorem dX2_isTimedOut_23 : decode cX2_isTimedOut 23 = .ok (.ireturn, 1) := by decide +kernel
end
section
set_option maxRecDepth 20000 in
theorem ggX3_init_X0_init : GoodIn wsX3_init wsX0_init := goodIn_r _ [16, 17, 2, 3, 18, 19, 20, 21, 22, 23, 24, 25, 26, 27, 28, 29, 30, 31, 38, 39, 40, 41, 42, 43, 44, 45, 60, 61, 62, 63, 64, 65, 66, 67, 68, 69, 70, 71, 72, 73, 74] (by decide +kernel) (by decide +kernel)
set_option maxRecDepth 20000 in
theorem gX3_init_X0_init : GoodIn wsX3_init (wsX0_init) := ggX3_init_X0_init
set_option maxRecDepth 20000 in
theorem ggX3_init_X1_init : GoodIn wsX3_init wsX1_init := goodIn_r _ [33, 34, 2, 3, 35, 36, 20, 37, 51, 52, 53, 54, 55, 56, 57, 58, 59] (by decide +kernel) (by decide +kernel)
set_option maxRecDepth 20000 in
theorem gX3_init_X1_init_n25 : GoodIn wsX3_init (wsX1_init) := ggX3_init_X1_init
theorem dX3_init_0 : decode cX3_init 0 = .ok (.aload_n 0, 1) := by decide +kernel
theorem dX3_init_1 : decode cX3_init 1 = .ok (.invokespecial 1, 3) := by decide +kernel
theorem dX3_init_4 : decode cX3_init 4 = .ok (.aload_n 0, 1) := by decide +kernel
theorem dX3_init_5 : decode cX3_init 5 = .ok (.new 7, 3) := by decide +kernel
theorem dX3_init_8 : decode cX3_init 8 = .ok (.dup, 1) := by decide +kernel
theorem dX3_init_9 : decode cX3_init 9 = .ok (.invokespecial 9, 3) := by decide +kernel
theorem dX3_init_12 : decode cX3_init 12 = .ok (.putfield 10, 3) := by decide +kernel
theorem dX3_init_15 : decode cX3_init 15 = .ok (.aload_n 0, 1) := by decide +kernel
theorem dX3_init_16 : decode cX3_init 16 = .ok (.new 7, 3) := by decide +kernel
theorem dX3_init_19 : decode cX3_init 19 = .ok (.dup, 1) := by decide +kernel
theorem dX3_init_20 : decode cX3_init 20 = .ok (.invokespecial 9, 3) := by decide +kernel
theorem dX3_init_23 : decode cX3_init 23 = .ok (.putfield 16, 3) := by decide +kernel
theorem dX3_init_26 : decode cX3_init 26 = .ok (.aload_n 0, 1) := by decide +kernel
theorem dX3_init_27 : decode cX3_init 27 = .ok (.iconst 5, 1) := by decide +kernel
theorem dX3_init_28 : decode cX3_init 28 = .ok (.anewarray 7, 3) := by decide +kernel
theorem dX3_init_31 : decode cX3_init 31 = .ok (.putfield 19, 3) := by decide +kernel
theorem dX3_init_34 : decode cX3_init 34 = .ok (.iconst 0, 1) := by decide +kernel
theorem dX3_init_35 : decode cX3_init 35 = .ok (.istore_n 1, 1) := by decide +kernel
theorem dX3_init_36 : decode cX3_init 36 = .ok (.iload_n 1, 1) := by decide +kernel
theorem dX3_init_37 : decode cX3_init 37 = .ok (.aload_n 0, 1) := by decide +kernel
theorem dX3_init_38 : decode cX3_init 38 = .ok (.getfield 19, 3) := by decide +kernel
theorem dX3_init_41 : decode cX3_init 41 = .ok (.arraylength, 1) := by decide +kernel
theorem dX3_init_42 : decode cX3_init 42 = .ok (.if_icmp .ge 22, 3) := by decide +kernel
theorem dX3_init_45 : decode cX3_init 45 = .ok (.aload_n 0, 1) := by decide +kernel
theorem dX3_init_46 : decode cX3_init 46 = .ok (.getfield 19, 3) := by decide +kernel
theorem dX3_init_49 : decode cX3_init 49 = .ok (.iload_n 1, 1) := by decide +kernel
theorem dX3_init_50 : decode cX3_init 50 = .ok (.new 7, 3) := by decide +kernel
theorem dX3_init_53 : decode cX3_init 53 = .ok (.dup, 1) := by decide +kernel
theorem dX3_init_54 : decode cX3_init 54 = .ok (.invokespecial 9, 3) := by decide +kernel
theorem dX3_init_57 : decode cX3_init 57 = .ok (.aastore, 1) := by decide +kernel
theorem dX3_init_58 : decode cX3_init 58 = .ok (.iinc 1 1, 3) := by decide +kernel
theorem dX3_init_61 : decode cX3_init 61 = .ok (.goto (-25), 3) := by decide +kernel
theorem dX3_init_64 : decode cX3_init 64 = .ok (.aload_n 0, 1) := by decide +kernel
theorem dX3_init_65 : decode cX3_init 65 = .ok (.new 23, 3) := by decide +kernel
theorem dX3_init_68 : decode cX3_init 68 = .ok (.dup, 1) := by decide +kernel
theorem dX3_init_69 : decode cX3_init 69 = .ok (.invokespecial 25, 3) := by decide +kernel
theorem dX3_init_72 : decode cX3_init 72 = .ok (.putfield 26, 3) := by decide +kernel
theorem dX3_init_75 : decode cX3_init 75 = .ok (.return_, 1) := by decide +kernel
set_option maxRecDepth 20000 in
theorem ggX3_room_X3_outside : GoodIn wsX3_room wsX3_outside := goodIn_r _ [8] (by decide +kernel) (by decide +kernel)
set_option maxRecDepth 20000 in
theorem gX3_room_X3_outside : GoodIn wsX3_room (va_wsS RX3 30 yX3_outside wsX3_outside) := goodIn_app (goodIn_of _ (by decide +kernel)) ggX3_room_X3_outside
set_option maxRecDepth 20000 in
theorem ggX3_room_X3_note : GoodIn wsX3_room wsX3_note := goodIn_r _ [12, 13, 14, 1, 15, 16, 17, 18, 19, 20, 21, 22, 23, 24, 25, 26, 27, 28, 29, 30, 31, 32, 33, 34, 35, 36, 37, 38, 39, 40, 41, 42, 43, 44, 45, 46, 47, 48, 49, 50, 51, 52, 65, 66, 67, 68, 69, 70, 71, 72, 73, 74, 75, 76, 77, 78, 79, 80, 81, 82, 83, 84, 85, 86, 87, 88, 89, 90, 91, 92] (by decide +kernel) (by decide +kernel)
set_option maxRecDepth 20000 in
theorem gX3_room_X3_note : GoodIn wsX3_room (wsV RX3 38 RX3 yX3_note wsX3_note) := goodIn_app (goodIn_of _ (by decide +kernel)) ggX3_room_X3_note
set_option maxRecDepth 20000 in
theorem ggX3_room_X2_startAnew : GoodIn wsX3_room wsX2_startAnew := goodIn_r _ [56, 39, 40, 41, 42, 43, 44, 45, 46, 47, 48, 49, 50, 51, 52, 78, 79, 80, 81, 82, 83, 84, 85, 86, 87, 88, 89, 90, 91, 92] (by decide +kernel) (by decide +kernel)
set_option maxRecDepth 20000 in
theorem gX3_room_X2_startAnew : GoodIn wsX3_room (wsV RX3 45 RX2 yX2_startAnew wsX2_startAnew) := goodIn_app (goodIn_of _ (by decide +kernel)) ggX3_room_X2_startAnew
set_option maxRecDepth 20000 in
theorem ggX3_room_X3_kept : GoodIn wsX3_room wsX3_kept := goodIn_r _ [60, 13, 61, 62, 63, 7, 64, 14, 65, 66, 67, 68, 69] (by decide +kernel) (by decide +kernel)
set_option maxRecDepth 20000 in
theorem gX3_room_X3_kept : GoodIn wsX3_room (wsV RX3 55 RX3 yX3_kept wsX3_kept) := goodIn_app (goodIn_of _ (by decide +kernel)) ggX3_room_X3_kept
theorem dX3_room_0 : decode cX3_room 0 = .ok (.iload_n 1, 1) := by decide +kernel
theorem dX3_room_1 : decode cX3_room 1 = .ok (.iconst 0, 1) := by decide +kernel
theorem dX3_room_2 : decode cX3_room 2 = .ok (.iconst 1, 1) := by decide +kernel
theorem dX3_room_3 : decode cX3_room 3 = .ok (.invokestatic 30, 3) := by decide +kernel
theorem dX3_room_6 : decode cX3_room 6 = .ok (.ifCond .ne 57, 3) := by decide +kernel
theorem dX3_room_9 : decode cX3_room 9 = .ok (.iload_n 2, 1) := by decide +kernel
theorem dX3_room_10 : decode cX3_room 10 = .ok (.iconst 0, 1) := by decide +kernel
theorem dX3_room_11 : decode cX3_room 11 = .ok (.sipush 500, 3) := by decide +kernel
theorem dX3_room_14 : decode cX3_room 14 = .ok (.invokestatic 30, 3) := by decide +kernel
theorem dX3_room_17 : decode cX3_room 17 = .ok (.ifCond .ne 46, 3) := by decide +kernel
theorem dX3_room_20 : decode cX3_room 20 = .ok (.iload_n 3, 1) := by decide +kernel
theorem dX3_room_21 : decode cX3_room 21 = .ok (.iconst 1, 1) := by decide +kernel
theorem dX3_room_22 : decode cX3_room 22 = .ok (.bipush 20, 2) := by decide +kernel
theorem dX3_room_24 : decode cX3_room 24 = .ok (.invokestatic 30, 3) := by decide +kernel
theorem dX3_room_27 : decode cX3_room 27 = .ok (.ifCond .ne 36, 3) := by decide +kernel
theorem dX3_room_30 : decode cX3_room 30 = .ok (.iload 4, 2) := by decide +kernel
theorem dX3_room_32 : decode cX3_room 32 = .ok (.iconst 1, 1) := by decide +kernel
theorem dX3_room_33 : decode cX3_room 33 = .ok (.bipush 50, 2) := by decide +kernel
theorem dX3_room_35 : decode cX3_room 35 = .ok (.invokestatic 30, 3) := by decide +kernel
theorem dX3_room_38 : decode cX3_room 38 = .ok (.ifCond .ne 25, 3) := by decide +kernel
theorem dX3_room_41 : decode cX3_room 41 = .ok (.iload 5, 2) := by decide +kernel
theorem dX3_room_43 : decode cX3_room 43 = .ok (.iconst 0, 1) := by decide +kernel
theorem dX3_room_44 : decode cX3_room 44 = .ok (.bipush 50, 2) := by decide +kernel
theorem dX3_room_46 : decode cX3_room 46 = .ok (.invokestatic 30, 3) := by decide +kernel
theorem dX3_room_49 : decode cX3_room 49 = .ok (.ifCond .ne 14, 3) := by decide +kernel
theorem dX3_room_52 : decode cX3_room 52 = .ok (.iload 6, 2) := by decide +kernel
theorem dX3_room_54 : decode cX3_room 54 = .ok (.iconst 0, 1) := by decide +kernel
theorem dX3_room_55 : decode cX3_room 55 = .ok (.bipush 20, 2) := by decide +kernel
theorem dX3_room_57 : decode cX3_room 57 = .ok (.invokestatic 30, 3) := by decide +kernel
theorem dX3_room_60 : decode cX3_room 60 = .ok (.ifCond .eq 5, 3) := by decide +kernel
theorem dX3_room_63 : decode cX3_room 63 = .ok (.iconst (-1), 1) := by decide +kernel
theorem dX3_room_64 : decode cX3_room 64 = .ok (.ireturn, 1) := by decide +kernel
theorem dX3_room_65 : decode cX3_room 65 = .ok (.aload_n 0, 1) := by decide +kernel
theorem dX3_room_66 : decode cX3_room 66 = .ok (.getfield 10, 3) := by decide +kernel
theorem dX3_room_69 : decode cX3_room 69 = .ok (.getfield 34, 3) := by decide +kernel
theorem dX3_room_72 : decode cX3_room 72 = .ok (.bipush 8, 2) := by decide +kernel
theorem dX3_room_74 : decode cX3_room 74 = .ok (.if_icmp .lt 6, 3) := by decide +kernel
theorem dX3_room_77 : decode cX3_room 77 = .ok (.bipush (-3), 2) := by decide +kernel
theorem dX3_room_79 : decode cX3_room 79 = .ok (.ireturn, 1) := by decide +kernel
theorem dX3_room_80 : decode cX3_room 80 = .ok (.aload_n 0, 1) := by decide +kernel
theorem dX3_room_81 : decode cX3_room 81 = .ok (.invokevirtual 38, 3) := by decide +kernel
theorem dX3_room_84 : decode cX3_room 84 = .ok (.aload_n 0, 1) := by decide +kernel
theorem dX3_room_85 : decode cX3_room 85 = .ok (.getfield 10, 3) := by decide +kernel
theorem dX3_room_88 : decode cX3_room 88 = .ok (.getfield 41, 3) := by decide +kernel
theorem dX3_room_91 : decode cX3_room 91 = .ok (.aload_n 0, 1) := by decide +kernel
theorem dX3_room_92 : decode cX3_room 92 = .ok (.getfield 10, 3) := by decide +kernel
theorem dX3_room_95 : decode cX3_room 95 = .ok (.getfield 34, 3) := by decide +kernel
theorem dX3_room_98 : decode cX3_room 98 = .ok (.aaload, 1) := by decide +kernel
theorem dX3_room_99 : decode cX3_room 99 = .ok (.astore 7, 2) := by decide +kernel
theorem dX3_room_101 : decode cX3_room 101 = .ok (.aload 7, 2) := by decide +kernel
theorem dX3_room_103 : decode cX3_room 103 = .ok (.iload_n 1, 1) := by decide +kernel
theorem dX3_room_104 : decode cX3_room 104 = .ok (.invokevirtual 45, 3) := by decide +kernel
theorem dX3_room_107 : decode cX3_room 107 = .ok (.aload 7, 2) := by decide +kernel
theorem dX3_room_109 : decode cX3_room 109 = .ok (.getfield 51, 3) := by decide +kernel
theorem dX3_room_112 : decode cX3_room 112 = .ok (.iconst 0, 1) := by decide +kernel
theorem dX3_room_113 : decode cX3_room 113 = .ok (.iload_n 2, 1) := by decide +kernel
theorem dX3_room_114 : decode cX3_room 114 = .ok (.iastore, 1) := by decide +kernel
theorem dX3_room_115 : decode cX3_room 115 = .ok (.aload 7, 2) := by decide +kernel
theorem dX3_room_117 : decode cX3_room 117 = .ok (.getfield 51, 3) := by decide +kernel
theorem dX3_room_120 : decode cX3_room 120 = .ok (.iconst 1, 1) := by decide +kernel
theorem dX3_room_121 : decode cX3_room 121 = .ok (.iload_n 3, 1) := by decide +kernel
theorem dX3_room_122 : decode cX3_room 122 = .ok (.iastore, 1) := by decide +kernel
theorem dX3_room_123 : decode cX3_room 123 = .ok (.aload 7, 2) := by decide +kernel
theorem dX3_room_125 : decode cX3_room 125 = .ok (.getfield 51, 3) := by decide +kernel
theorem dX3_room_128 : decode cX3_room 128 = .ok (.iconst 2, 1) := by decide +kernel
theorem dX3_room_129 : decode cX3_room 129 = .ok (.iload 4, 2) := by decide +kernel
theorem dX3_room_131 : decode cX3_room 131 = .ok (.iastore, 1) := by decide +kernel
theorem dX3_room_132 : decode cX3_room 132 = .ok (.aload 7, 2) := by decide +kernel
theorem dX3_room_134 : decode cX3_room 134 = .ok (.getfield 51, 3) := by decide +kernel
theorem dX3_room_137 : decode cX3_room 137 = .ok (.iconst 3, 1) := by decide +kernel
theorem dX3_room_138 : decode cX3_room 138 = .ok (.iload 5, 2) := by decide +kernel
theorem dX3_room_140 : decode cX3_room 140 = .ok (.iastore, 1) := by decide +kernel
theorem dX3_room_141 : decode cX3_room 141 = .ok (.aload 7, 2) := by decide +kernel
theorem dX3_room_143 : decode cX3_room 143 = .ok (.getfield 51, 3) := by decide +kernel
theorem dX3_room_146 : decode cX3_room 146 = .ok (.iconst 4, 1) := by decide +kernel
theorem dX3_room_147 : decode cX3_room 147 = .ok (.iload 6, 2) := by decide +kernel
theorem dX3_room_149 : decode cX3_room 149 = .ok (.iastore, 1) := by decide +kernel
theorem dX3_room_150 : decode cX3_room 150 = .ok (.aload_n 0, 1) := by decide +kernel
theorem dX3_room_151 : decode cX3_room 151 = .ok (.getfield 10, 3) := by decide +kernel
theorem dX3_room_154 : decode cX3_room 154 = .ok (.dup, 1) := by decide +kernel
theorem dX3_room_155 : decode cX3_room 155 = .ok (.getfield 34, 3) := by decide +kernel
theorem dX3_room_158 : decode cX3_room 158 = .ok (.iconst 1, 1) := by decide +kernel
theorem dX3_room_159 : decode cX3_room 159 = .ok (.iadd, 1) := by decide +kernel
theorem dX3_room_160 : decode cX3_room 160 = .ok (.putfield 34, 3) := by decide +kernel
theorem dX3_room_163 : decode cX3_room 163 = .ok (.aload_n 0, 1) := by decide +kernel
theorem dX3_room_164 : decode cX3_room 164 = .ok (.aload_n 0, 1) := by decide +kernel
theorem dX3_room_165 : decode cX3_room 165 = .ok (.getfield 10, 3) := by decide +kernel
theorem dX3_room_168 : decode cX3_room 168 = .ok (.getfield 34, 3) := by decide +kernel
theorem dX3_room_171 : decode cX3_room 171 = .ok (.iconst 1, 1) := by decide +kernel
theorem dX3_room_172 : decode cX3_room 172 = .ok (.isub, 1) := by decide +kernel
theorem dX3_room_173 : decode cX3_room 173 = .ok (.invokevirtual 55, 3) := by decide +kernel
theorem dX3_room_176 : decode cX3_room 176 = .ok (.ireturn, 1) := by decide +kernel
set_option maxRecDepth 20000 in
theorem ggX3_need_X3_note : GoodIn wsX3_need wsX3_note := goodIn_r _ [6, 7, 8, 1, 9, 10, 11, 12, 13, 14, 15, 16, 17, 18, 19, 20, 21, 22, 23, 24, 25, 26, 27, 28, 29, 30, 31, 32, 33, 34, 35, 36, 37, 38, 39, 40, 41, 42, 43, 44, 45, 46, 67, 68, 69, 70, 71, 72, 73, 74, 75, 76, 77, 78, 79, 80, 81, 82, 83, 84, 85, 86, 87, 88, 89, 90, 91, 92, 93, 94] (by decide +kernel) (by decide +kernel)
set_option maxRecDepth 20000 in
theorem gX3_need_X3_note : GoodIn wsX3_need (wsV RX3 38 RX3 yX3_note wsX3_note) := goodIn_app (goodIn_of _ (by decide +kernel)) ggX3_need_X3_note
set_option maxRecDepth 20000 in
theorem ggX3_need_X0_setNeed : GoodIn wsX3_need wsX0_setNeed := goodIn_r _ [50, 15, 51, 52, 53, 54, 55, 12, 56, 14, 57, 5, 58, 72, 73, 74, 75, 76, 77, 78, 79, 80, 81, 82, 83, 84, 85, 86, 87, 88, 89, 90, 91, 92, 93, 94] (by decide +kernel) (by decide +kernel)
set_option maxRecDepth 20000 in
theorem gX3_need_X0_setNeed : GoodIn wsX3_need (wsV RX3 59 RX0 yX0_setNeed wsX0_setNeed) := goodIn_app (goodIn_of _ (by decide +kernel)) ggX3_need_X0_setNeed
set_option maxRecDepth 20000 in
theorem ggX3_need_X3_kept : GoodIn wsX3_need wsX3_kept := goodIn_r _ [62, 7, 63, 64, 65, 5, 66, 8, 67, 68, 69, 70, 71] (by decide +kernel) (by decide +kernel)
set_option maxRecDepth 20000 in
theorem gX3_need_X3_kept : GoodIn wsX3_need (wsV RX3 55 RX3 yX3_kept wsX3_kept) := goodIn_app (goodIn_of _ (by decide +kernel)) ggX3_need_X3_kept
theorem dX3_need_0 : decode cX3_need 0 = .ok (.aload_n 0, 1) := by decide +kernel
theorem dX3_need_1 : decode cX3_need 1 = .ok (.invokevirtual 38, 3) := by decide +kernel
theorem dX3_need_4 : decode cX3_need 4 = .ok (.aload_n 0, 1) := by decide +kernel
theorem dX3_need_5 : decode cX3_need 5 = .ok (.aload_n 0, 1) := by decide +kernel
theorem dX3_need_6 : decode cX3_need 6 = .ok (.getfield 10, 3) := by decide +kernel
theorem dX3_need_9 : decode cX3_need 9 = .ok (.iload_n 1, 1) := by decide +kernel
theorem dX3_need_10 : decode cX3_need 10 = .ok (.iload_n 2, 1) := by decide +kernel
theorem dX3_need_11 : decode cX3_need 11 = .ok (.invokevirtual 59, 3) := by decide +kernel
theorem dX3_need_14 : decode cX3_need 14 = .ok (.invokevirtual 55, 3) := by decide +kernel
theorem dX3_need_17 : decode cX3_need 17 = .ok (.ireturn, 1) := by decide +kernel
set_option maxRecDepth 20000 in
theorem ggX3_plug_X3_note : GoodIn wsX3_plug wsX3_note := goodIn_r _ [6, 7, 8, 1, 9, 10, 11, 12, 13, 14, 15, 16, 17, 18, 19, 20, 21, 22, 23, 24, 25, 26, 27, 28, 29, 30, 31, 32, 33, 34, 35, 36, 37, 38, 39, 40, 41, 42, 43, 44, 45, 46, 71, 72, 73, 74, 75, 76, 77, 78, 79, 80, 81, 82, 83, 84, 85, 86, 87, 88, 89, 90, 91, 92, 93, 94, 95, 96, 97, 98] (by decide +kernel) (by decide +kernel)
set_option maxRecDepth 20000 in
theorem gX3_plug_X3_note : GoodIn wsX3_plug (wsV RX3 38 RX3 yX3_note wsX3_note) := goodIn_app (goodIn_of _ (by decide +kernel)) ggX3_plug_X3_note
set_option maxRecDepth 20000 in
theorem ggX3_plug_X0_plugIn : GoodIn wsX3_plug wsX0_plugIn := goodIn_r _ [50, 15, 51, 52, 53, 54, 55, 12, 56, 14, 57, 5, 58, 59, 60, 61, 62, 76, 77, 78, 79, 80, 81, 82, 83, 84, 85, 86, 87, 88, 89, 90, 91, 92, 93, 94, 95, 96, 97, 98] (by decide +kernel) (by decide +kernel)
set_option maxRecDepth 20000 in
theorem gX3_plug_X0_plugIn : GoodIn wsX3_plug (wsV RX3 63 RX0 yX0_plugIn wsX0_plugIn) := goodIn_app (goodIn_of _ (by decide +kernel)) ggX3_plug_X0_plugIn
set_option maxRecDepth 20000 in
theorem ggX3_plug_X3_kept : GoodIn wsX3_plug wsX3_kept := goodIn_r _ [66, 7, 67, 68, 69, 5, 70, 8, 71, 72, 73, 74, 75] (by decide +kernel) (by decide +kernel)
set_option maxRecDepth 20000 in
theorem gX3_plug_X3_kept : GoodIn wsX3_plug (wsV RX3 55 RX3 yX3_kept wsX3_kept) := goodIn_app (goodIn_of _ (by decide +kernel)) ggX3_plug_X3_kept
theorem dX3_plug_0 : decode cX3_plug 0 = .ok (.aload_n 0, 1) := by decide +kernel
theorem dX3_plug_1 : decode cX3_plug 1 = .ok (.invokevirtual 38, 3) := by decide +kernel
theorem dX3_plug_4 : decode cX3_plug 4 = .ok (.aload_n 0, 1) := by decide +kernel
theorem dX3_plug_5 : decode cX3_plug 5 = .ok (.aload_n 0, 1) := by decide +kernel
theorem dX3_plug_6 : decode cX3_plug 6 = .ok (.getfield 10, 3) := by decide +kernel
theorem dX3_plug_9 : decode cX3_plug 9 = .ok (.iload_n 1, 1) := by decide +kernel
theorem dX3_plug_10 : decode cX3_plug 10 = .ok (.iload_n 2, 1) := by decide +kernel
theorem dX3_plug_11 : decode cX3_plug 11 = .ok (.invokevirtual 63, 3) := by decide +kernel
theorem dX3_plug_14 : decode cX3_plug 14 = .ok (.invokevirtual 55, 3) := by decide +kernel
theorem dX3_plug_17 : decode cX3_plug 17 = .ok (.ireturn, 1) := by decide +kernel
set_option maxRecDepth 20000 in
theorem ggX3_unplug_X3_note : GoodIn wsX3_unplug wsX3_note := goodIn_r _ [6, 7, 8, 1, 9, 10, 11, 12, 13, 14, 15, 16, 17, 18, 19, 20, 21, 22, 23, 24, 25, 26, 27, 28, 29, 30, 31, 32, 33, 34, 35, 36, 37, 38, 39, 40, 41, 42, 43, 44, 45, 46, 69, 70, 71, 72, 73, 74, 75, 76, 77, 78, 79, 80, 81, 82, 83, 84, 85, 86, 87, 88, 89, 90, 91, 92, 93, 94, 95, 96] (by decide +kernel) (by decide +kernel)
set_option maxRecDepth 20000 in
theorem gX3_unplug_X3_note : GoodIn wsX3_unplug (wsV RX3 38 RX3 yX3_note wsX3_note) := goodIn_app (goodIn_of _ (by decide +kernel)) ggX3_unplug_X3_note
set_option maxRecDepth 20000 in
theorem ggX3_unplug_X0_plugOut : GoodIn wsX3_unplug wsX0_plugOut := goodIn_r _ [50, 15, 51, 52, 53, 54, 55, 12, 56, 14, 57, 58, 59, 60, 74, 75, 76, 77, 78, 79, 80, 81, 82, 83, 84, 85, 86, 87, 88, 89, 90, 91, 92, 93, 94, 95, 96] (by decide +kernel) (by decide +kernel)
set_option maxRecDepth 20000 in
theorem gX3_unplug_X0_plugOut : GoodIn wsX3_unplug (wsV RX3 66 RX0 yX0_plugOut wsX0_plugOut) := goodIn_app (goodIn_of _ (by decide +kernel)) ggX3_unplug_X0_plugOut
set_option maxRecDepth 20000 in
theorem ggX3_unplug_X3_kept : GoodIn wsX3_unplug wsX3_kept := goodIn_r _ [64, 7, 65, 66, 67, 5, 68, 8, 69, 70, 71, 72, 73] (by decide +kernel) (by decide +kernel)
set_option maxRecDepth 20000 in
theorem gX3_unplug_X3_kept : GoodIn wsX3_unplug (wsV RX3 55 RX3 yX3_kept wsX3_kept) := goodIn_app (goodIn_of _ (by decide +kernel)) ggX3_unplug_X3_kept
theorem dX3_unplug_0 : decode cX3_unplug 0 = .ok (.aload_n 0, 1) := by decide +kernel
theorem dX3_unplug_1 : decode cX3_unplug 1 = .ok (.invokevirtual 38, 3) := by decide +kernel
theorem dX3_unplug_4 : decode cX3_unplug 4 = .ok (.aload_n 0, 1) := by decide +kernel
theorem dX3_unplug_5 : decode cX3_unplug 5 = .ok (.aload_n 0, 1) := by decide +kernel
theorem dX3_unplug_6 : decode cX3_unplug 6 = .ok (.getfield 10, 3) := by decide +kernel
theorem dX3_unplug_9 : decode cX3_unplug 9 = .ok (.iload_n 1, 1) := by decide +kernel
theorem dX3_unplug_10 : decode cX3_unplug 10 = .ok (.invokevirtual 66, 3) := by decide +kernel
theorem dX3_unplug_13 : decode cX3_unplug 13 = .ok (.invokevirtual 55, 3) := by decide +kernel
theorem dX3_unplug_16 : decode cX3_unplug 16 = .ok (.ireturn, 1) := by decide +kernel
set_option maxRecDepth 20000 in
theorem ggX3_limit_X3_note : GoodIn wsX3_limit wsX3_note := goodIn_r _ [6, 7, 8, 1, 9, 10, 11, 12, 13, 14, 15, 16, 17, 18, 19, 20, 21, 22, 23, 24, 25, 26, 27, 28, 29, 30, 31, 32, 33, 34, 35, 36, 37, 38, 39, 40, 41, 42, 43, 44, 45, 46, 61, 62, 63, 64, 65, 66, 67, 68, 69, 70, 71, 72, 73, 74, 75, 76, 77, 78, 79, 80, 81, 82, 83, 84, 85, 86, 87, 88] (by decide +kernel) (by decide +kernel)
set_option maxRecDepth 20000 in
theorem gX3_limit_X3_note : GoodIn wsX3_limit (wsV RX3 38 RX3 yX3_note wsX3_note) := goodIn_app (goodIn_of _ (by decide +kernel)) ggX3_limit_X3_note
set_option maxRecDepth 20000 in
theorem ggX3_limit_X0_setLimit : GoodIn wsX3_limit wsX0_setLimit := goodIn_r _ [50, 16, 51, 5, 52, 66, 67, 68, 69, 70, 71, 72, 73] (by decide +kernel) (by decide +kernel)
set_option maxRecDepth 20000 in
theorem gX3_limit_X0_setLimit : GoodIn wsX3_limit (wsV RX3 69 RX0 yX0_setLimit wsX0_setLimit) := goodIn_app (goodIn_of _ (by decide +kernel)) ggX3_limit_X0_setLimit
set_option maxRecDepth 20000 in
theorem ggX3_limit_X3_kept : GoodIn wsX3_limit wsX3_kept := goodIn_r _ [56, 7, 57, 58, 59, 5, 60, 8, 61, 62, 63, 64, 65] (by decide +kernel) (by decide +kernel)
set_option maxRecDepth 20000 in
theorem gX3_limit_X3_kept : GoodIn wsX3_limit (wsV RX3 55 RX3 yX3_kept wsX3_kept) := goodIn_app (goodIn_of _ (by decide +kernel)) ggX3_limit_X3_kept
theorem dX3_limit_0 : decode cX3_limit 0 = .ok (.aload_n 0, 1) := by decide +kernel
theorem dX3_limit_1 : decode cX3_limit 1 = .ok (.invokevirtual 38, 3) := by decide +kernel
theorem dX3_limit_4 : decode cX3_limit 4 = .ok (.aload_n 0, 1) := by decide +kernel
theorem dX3_limit_5 : decode cX3_limit 5 = .ok (.aload_n 0, 1) := by decide +kernel
theorem dX3_limit_6 : decode cX3_limit 6 = .ok (.getfield 10, 3) := by decide +kernel
theorem dX3_limit_9 : decode cX3_limit 9 = .ok (.iload_n 1, 1) := by decide +kernel
theorem dX3_limit_10 : decode cX3_limit 10 = .ok (.iload_n 2, 1) := by decide +kernel
theorem dX3_limit_11 : decode cX3_limit 11 = .ok (.invokevirtual 69, 3) := by decide +kernel
theorem dX3_limit_14 : decode cX3_limit 14 = .ok (.invokevirtual 55, 3) := by decide +kernel
theorem dX3_limit_17 : decode cX3_limit 17 = .ok (.ireturn, 1) := by decide +kernel
set_option maxRecDepth 20000 in
theorem ggX3_policy_X3_note : GoodIn wsX3_policy wsX3_note := goodIn_r _ [6, 7, 8, 1, 9, 10, 11, 12, 13, 14, 15, 16, 17, 18, 19, 20, 21, 22, 23, 24, 25, 26, 27, 28, 29, 30, 31, 32, 33, 34, 35, 36, 37, 38, 39, 40, 41, 42, 43, 44, 45, 46, 67, 68, 69, 70, 71, 72, 73, 74, 75, 76, 77, 78, 79, 80, 81, 82, 83, 84, 85, 86, 87, 88, 89, 90, 91, 92, 93, 94] (by decide +kernel) (by decide +kernel)
set_option maxRecDepth 20000 in
theorem gX3_policy_X3_note : GoodIn wsX3_policy (wsV RX3 38 RX3 yX3_note wsX3_note) := goodIn_app (goodIn_of _ (by decide +kernel)) ggX3_policy_X3_note
set_option maxRecDepth 20000 in
theorem ggX3_policy_X0_setPolicy : GoodIn wsX3_policy wsX0_setPolicy := goodIn_r _ [50, 15, 51, 52, 53, 54, 55, 12, 56, 14, 57, 5, 58, 72, 73, 74, 75, 76, 77, 78, 79, 80, 81, 82, 83, 84, 85, 86, 87, 88, 89, 90, 91, 92, 93, 94] (by decide +kernel) (by decide +kernel)
set_option maxRecDepth 20000 in
theorem gX3_policy_X0_setPolicy : GoodIn wsX3_policy (wsV RX3 72 RX0 yX0_setPolicy wsX0_setPolicy) := goodIn_app (goodIn_of _ (by decide +kernel)) ggX3_policy_X0_setPolicy
set_option maxRecDepth 20000 in
theorem ggX3_policy_X3_kept : GoodIn wsX3_policy wsX3_kept := goodIn_r _ [62, 7, 63, 64, 65, 5, 66, 8, 67, 68, 69, 70, 71] (by decide +kernel) (by decide +kernel)
set_option maxRecDepth 20000 in
theorem gX3_policy_X3_kept : GoodIn wsX3_policy (wsV RX3 55 RX3 yX3_kept wsX3_kept) := goodIn_app (goodIn_of _ (by decide +kernel)) ggX3_policy_X3_kept
theorem dX3_policy_0 : decode cX3_policy 0 = .ok (.aload_n 0, 1) := by decide +kernel
theorem dX3_policy_1 : decode cX3_policy 1 = .ok (.invokevirtual 38, 3) := by decide +kernel
theorem dX3_policy_4 : decode cX3_policy 4 = .ok (.aload_n 0, 1) := by decide +kernel
theorem dX3_policy_5 : decode cX3_policy 5 = .ok (.aload_n 0, 1) := by decide +kernel
theorem dX3_policy_6 : decode cX3_policy 6 = .ok (.getfield 10, 3) := by decide +kernel
theorem dX3_policy_9 : decode cX3_policy 9 = .ok (.iload_n 1, 1) := by decide +kernel
theorem dX3_policy_10 : decode cX3_policy 10 = .ok (.iload_n 2, 1) := by decide +kernel
theorem dX3_policy_11 : decode cX3_policy 11 = .ok (.iload_n 3, 1) := by decide +kernel
theorem dX3_policy_12 : decode cX3_policy 12 = .ok (.invokevirtual 72, 3) := by decide +kernel
theorem dX3_policy_15 : decode cX3_policy 15 = .ok (.invokevirtual 55, 3) := by decide +kernel
theorem dX3_policy_18 : decode cX3_policy 18 = .ok (.ireturn, 1) := by decide +kernel
set_option maxRecDepth 20000 in
theorem ggX3_roomOf_X0_hasRoom : GoodIn wsX3_roomOf wsX0_hasRoom := goodIn_r _ [7, 8, 64, 65, 66, 67, 68, 69, 70, 71] (by decide +kernel) (by decide +kernel)
set_option maxRecDepth 20000 in
theorem gX3_roomOf_X0_hasRoom : GoodIn wsX3_roomOf (wsV RX3 76 RX0 yX0_hasRoom wsX0_hasRoom) := goodIn_app (goodIn_of _ (by decide +kernel)) ggX3_roomOf_X0_hasRoom
set_option maxRecDepth 20000 in
theorem ggX3_roomOf_X3_outside : GoodIn wsX3_roomOf wsX3_outside := goodIn_r _ [12] (by decide +kernel) (by decide +kernel)
set_option maxRecDepth 20000 in
theorem gX3_roomOf_X3_outside : GoodIn wsX3_roomOf (va_wsS RX3 30 yX3_outside wsX3_outside) := goodIn_app (goodIn_of _ (by decide +kernel)) ggX3_roomOf_X3_outside
set_option maxRecDepth 20000 in
theorem ggX3_roomOf_X0_usesOf : GoodIn wsX3_roomOf wsX0_usesOf := goodIn_r _ [16, 17, 18, 64, 65, 66, 67, 68, 69, 70, 71] (by decide +kernel) (by decide +kernel)
set_option maxRecDepth 20000 in
theorem gX3_roomOf_X0_usesOf : GoodIn wsX3_roomOf (wsV RX3 80 RX0 yX0_usesOf wsX0_usesOf) := goodIn_app (goodIn_of _ (by decide +kernel)) ggX3_roomOf_X0_usesOf
set_option maxRecDepth 20000 in
theorem ggX3_roomOf_X0_isCalled : GoodIn wsX3_roomOf wsX0_isCalled := goodIn_r _ [22, 23, 24, 25, 26, 27, 28, 29, 30, 6, 31, 17, 18, 32, 33, 34, 35, 36, 37, 38, 39, 40, 41, 42, 43, 44, 45, 46, 64, 65, 66, 67, 68, 69, 70, 71, 72, 73, 74, 75, 76, 77, 78, 79, 80, 81, 82, 83, 84, 85, 86] (by decide +kernel) (by decide +kernel)
set_option maxRecDepth 20000 in
theorem gX3_roomOf_X0_isCalled : GoodIn wsX3_roomOf (wsV RX3 83 RX0 yX0_isCalled wsX0_isCalled) := goodIn_app (goodIn_of _ (by decide +kernel)) ggX3_roomOf_X0_isCalled
set_option maxRecDepth 20000 in
theorem ggX3_roomOf_X2_tell : GoodIn wsX3_roomOf wsX2_tell := goodIn_r _ [50, 51, 43, 52, 53, 54, 55, 56, 41, 42, 57, 58, 45, 72, 73, 74, 75, 76, 77, 78, 79, 80, 81, 82, 83, 84, 85, 86] (by decide +kernel) (by decide +kernel)
set_option maxRecDepth 20000 in
theorem gX3_roomOf_X2_tell : GoodIn wsX3_roomOf (wsV RX3 86 RX2 yX2_tell wsX2_tell) := goodIn_app (goodIn_of _ (by decide +kernel)) ggX3_roomOf_X2_tell
theorem dX3_roomOf_0 : decode cX3_roomOf 0 = .ok (.aload_n 0, 1) := by decide +kernel
theorem dX3_roomOf_1 : decode cX3_roomOf 1 = .ok (.getfield 10, 3) := by decide +kernel
theorem dX3_roomOf_4 : decode cX3_roomOf 4 = .ok (.iload_n 1, 1) := by decide +kernel
theorem dX3_roomOf_5 : decode cX3_roomOf 5 = .ok (.invokevirtual 76, 3) := by decide +kernel
theorem dX3_roomOf_8 : decode cX3_roomOf 8 = .ok (.ifCond .eq 13, 3) := by decide +kernel
theorem dX3_roomOf_11 : decode cX3_roomOf 11 = .ok (.iload_n 2, 1) := by decide +kernel
theorem dX3_roomOf_12 : decode cX3_roomOf 12 = .ok (.iconst 0, 1) := by decide +kernel
theorem dX3_roomOf_13 : decode cX3_roomOf 13 = .ok (.bipush 13, 2) := by decide +kernel
theorem dX3_roomOf_15 : decode cX3_roomOf 15 = .ok (.invokestatic 30, 3) := by decide +kernel
theorem dX3_roomOf_18 : decode cX3_roomOf 18 = .ok (.ifCond .eq 5, 3) := by decide +kernel
theorem dX3_roomOf_21 : decode cX3_roomOf 21 = .ok (.iconst (-1), 1) := by decide +kernel
theorem dX3_roomOf_22 : decode cX3_roomOf 22 = .ok (.ireturn, 1) := by decide +kernel
theorem dX3_roomOf_23 : decode cX3_roomOf 23 = .ok (.iload_n 2, 1) := by decide +kernel
theorem dX3_roomOf_24 : decode cX3_roomOf 24 = .ok (.bipush 8, 2) := by decide +kernel
theorem dX3_roomOf_26 : decode cX3_roomOf 26 = .ok (.if_icmp .ne 12, 3) := by decide +kernel
theorem dX3_roomOf_29 : decode cX3_roomOf 29 = .ok (.aload_n 0, 1) := by decide +kernel
theorem dX3_roomOf_30 : decode cX3_roomOf 30 = .ok (.getfield 10, 3) := by decide +kernel
theorem dX3_roomOf_33 : decode cX3_roomOf 33 = .ok (.iload_n 1, 1) := by decide +kernel
theorem dX3_roomOf_34 : decode cX3_roomOf 34 = .ok (.invokevirtual 80, 3) := by decide +kernel
theorem dX3_roomOf_37 : decode cX3_roomOf 37 = .ok (.ireturn, 1) := by decide +kernel
theorem dX3_roomOf_38 : decode cX3_roomOf 38 = .ok (.iload_n 2, 1) := by decide +kernel
theorem dX3_roomOf_39 : decode cX3_roomOf 39 = .ok (.bipush 12, 2) := by decide +kernel
theorem dX3_roomOf_41 : decode cX3_roomOf 41 = .ok (.if_icmp .ne 20, 3) := by decide +kernel
theorem dX3_roomOf_44 : decode cX3_roomOf 44 = .ok (.aload_n 0, 1) := by decide +kernel
theorem dX3_roomOf_45 : decode cX3_roomOf 45 = .ok (.getfield 10, 3) := by decide +kernel
theorem dX3_roomOf_48 : decode cX3_roomOf 48 = .ok (.iload_n 1, 1) := by decide +kernel
theorem dX3_roomOf_49 : decode cX3_roomOf 49 = .ok (.invokevirtual 83, 3) := by decide +kernel
theorem dX3_roomOf_52 : decode cX3_roomOf 52 = .ok (.ifCond .eq 7, 3) := by decide +kernel
theorem dX3_roomOf_55 : decode cX3_roomOf 55 = .ok (.iconst 1, 1) := by decide +kernel
theorem dX3_roomOf_56 : decode cX3_roomOf 56 = .ok (.goto 4, 3) := by decide +kernel
theorem dX3_roomOf_59 : decode cX3_roomOf 59 = .ok (.iconst 0, 1) := by decide +kernel
theorem dX3_roomOf_60 : decode cX3_roomOf 60 = .ok (.ireturn, 1) := by decide +kernel
theorem dX3_roomOf_61 : decode cX3_roomOf 61 = .ok (.aload_n 0, 1) := by decide +kernel
theorem dX3_roomOf_62 : decode cX3_roomOf 62 = .ok (.getfield 10, 3) := by decide +kernel
theorem dX3_roomOf_65 : decode cX3_roomOf 65 = .ok (.getfield 41, 3) := by decide +kernel
theorem dX3_roomOf_68 : decode cX3_roomOf 68 = .ok (.iload_n 1, 1) := by decide +kernel
theorem dX3_roomOf_69 : decode cX3_roomOf 69 = .ok (.aaload, 1) := by decide +kernel
theorem dX3_roomOf_70 : decode cX3_roomOf 70 = .ok (.iload_n 2, 1) := by decide +kernel
theorem dX3_roomOf_71 : decode cX3_roomOf 71 = .ok (.invokevirtual 86, 3) := by decide +kernel
theorem dX3_roomOf_74 : decode cX3_roomOf 74 = .ok (.ireturn, 1) := by decide +kernel
set_option maxRecDepth 20000 in
theorem ggX3_costOf_X0_hasRoom : GoodIn wsX3_costOf wsX0_hasRoom := goodIn_r _ [8, 9, 19, 20, 21, 22, 23, 24, 25, 26] (by decide +kernel) (by decide +kernel)
set_option maxRecDepth 20000 in
theorem gX3_costOf_X0_hasRoom : GoodIn wsX3_costOf (wsV RX3 76 RX0 yX0_hasRoom wsX0_hasRoom) := goodIn_app (goodIn_of _ (by decide +kernel)) ggX3_costOf_X0_hasRoom
set_option maxRecDepth 20000 in
theorem ggX3_costOf_X3_outside : GoodIn wsX3_costOf wsX3_outside := goodIn_r _ [13] (by decide +kernel) (by decide +kernel)
set_option maxRecDepth 20000 in
theorem gX3_costOf_X3_outside : GoodIn wsX3_costOf (va_wsS RX3 30 yX3_outside wsX3_outside) := goodIn_app (goodIn_of _ (by decide +kernel)) ggX3_costOf_X3_outside
theorem dX3_costOf_0 : decode cX3_costOf 0 = .ok (.aload_n 0, 1) := by decide +kernel
theorem dX3_costOf_1 : decode cX3_costOf 1 = .ok (.getfield 10, 3) := by decide +kernel
theorem dX3_costOf_4 : decode cX3_costOf 4 = .ok (.iload_n 1, 1) := by decide +kernel
theorem dX3_costOf_5 : decode cX3_costOf 5 = .ok (.invokevirtual 76, 3) := by decide +kernel
theorem dX3_costOf_8 : decode cX3_costOf 8 = .ok (.ifCond .eq 12, 3) := by decide +kernel
theorem dX3_costOf_11 : decode cX3_costOf 11 = .ok (.iload_n 2, 1) := by decide +kernel
theorem dX3_costOf_12 : decode cX3_costOf 12 = .ok (.iconst 0, 1) := by decide +kernel
theorem dX3_costOf_13 : decode cX3_costOf 13 = .ok (.iconst 4, 1) := by decide +kernel
theorem dX3_costOf_14 : decode cX3_costOf 14 = .ok (.invokestatic 30, 3) := by decide +kernel
theorem dX3_costOf_17 : decode cX3_costOf 17 = .ok (.ifCond .eq 5, 3) := by decide +kernel
theorem dX3_costOf_20 : decode cX3_costOf 20 = .ok (.iconst (-1), 1) := by decide +kernel
theorem dX3_costOf_21 : decode cX3_costOf 21 = .ok (.ireturn, 1) := by decide +kernel
theorem dX3_costOf_22 : decode cX3_costOf 22 = .ok (.aload_n 0, 1) := by decide +kernel
theorem dX3_costOf_23 : decode cX3_costOf 23 = .ok (.getfield 10, 3) := by decide +kernel
theorem dX3_costOf_26 : decode cX3_costOf 26 = .ok (.getfield 41, 3) := by decide +kernel
theorem dX3_costOf_29 : decode cX3_costOf 29 = .ok (.iload_n 1, 1) := by decide +kernel
theorem dX3_costOf_30 : decode cX3_costOf 30 = .ok (.aaload, 1) := by decide +kernel
theorem dX3_costOf_31 : decode cX3_costOf 31 = .ok (.getfield 51, 3) := by decide +kernel
theorem dX3_costOf_34 : decode cX3_costOf 34 = .ok (.iload_n 2, 1) := by decide +kernel
theorem dX3_costOf_35 : decode cX3_costOf 35 = .ok (.iaload, 1) := by decide +kernel
theorem dX3_costOf_36 : decode cX3_costOf 36 = .ok (.ireturn, 1) := by decide +kernel
set_option maxRecDepth 20000 in
theorem ggX3_pluggedAt_X3_outside : GoodIn wsX3_pluggedAt wsX3_outside := goodIn_r _ [5] (by decide +kernel) (by decide +kernel)
set_option maxRecDepth 20000 in
theorem gX3_pluggedAt_X3_outside : GoodIn wsX3_pluggedAt (va_wsS RX3 30 yX3_outside wsX3_outside) := goodIn_app (goodIn_of _ (by decide +kernel)) ggX3_pluggedAt_X3_outside
set_option maxRecDepth 20000 in
theorem ggX3_pluggedAt_X0_roomOnRail : GoodIn wsX3_pluggedAt wsX0_roomOnRail := goodIn_r _ [10, 11, 12, 13, 19, 20, 21, 22, 23, 24, 25, 26, 27, 28, 29, 30, 31, 32, 33, 34, 35, 36, 37, 38, 39, 40, 41] (by decide +kernel) (by decide +kernel)
set_option maxRecDepth 20000 in
theorem gX3_pluggedAt_X0_roomOnRail : GoodIn wsX3_pluggedAt (wsV RX3 89 RX0 yX0_roomOnRail wsX0_roomOnRail) := goodIn_app (goodIn_of _ (by decide +kernel)) ggX3_pluggedAt_X0_roomOnRail
theorem dX3_pluggedAt_0 : decode cX3_pluggedAt 0 = .ok (.iload_n 1, 1) := by decide +kernel
theorem dX3_pluggedAt_1 : decode cX3_pluggedAt 1 = .ok (.iconst 0, 1) := by decide +kernel
theorem dX3_pluggedAt_2 : decode cX3_pluggedAt 2 = .ok (.iconst 1, 1) := by decide +kernel
theorem dX3_pluggedAt_3 : decode cX3_pluggedAt 3 = .ok (.invokestatic 30, 3) := by decide +kernel
theorem dX3_pluggedAt_6 : decode cX3_pluggedAt 6 = .ok (.ifCond .ne 7, 3) := by decide +kernel
theorem dX3_pluggedAt_9 : decode cX3_pluggedAt 9 = .ok (.iload_n 2, 1) := by decide +kernel
theorem dX3_pluggedAt_10 : decode cX3_pluggedAt 10 = .ok (.ifCond .ge 5, 3) := by decide +kernel
theorem dX3_pluggedAt_13 : decode cX3_pluggedAt 13 = .ok (.iconst (-1), 1) := by decide +kernel
theorem dX3_pluggedAt_14 : decode cX3_pluggedAt 14 = .ok (.ireturn, 1) := by decide +kernel
theorem dX3_pluggedAt_15 : decode cX3_pluggedAt 15 = .ok (.aload_n 0, 1) := by decide +kernel
theorem dX3_pluggedAt_16 : decode cX3_pluggedAt 16 = .ok (.getfield 10, 3) := by decide +kernel
theorem dX3_pluggedAt_19 : decode cX3_pluggedAt 19 = .ok (.iload_n 1, 1) := by decide +kernel
theorem dX3_pluggedAt_20 : decode cX3_pluggedAt 20 = .ok (.iload_n 2, 1) := by decide +kernel
theorem dX3_pluggedAt_21 : decode cX3_pluggedAt 21 = .ok (.invokevirtual 89, 3) := by decide +kernel
theorem dX3_pluggedAt_24 : decode cX3_pluggedAt 24 = .ok (.ireturn, 1) := by decide +kernel
set_option maxRecDepth 20000 in
theorem ggX3_use_X3_note : GoodIn wsX3_use wsX3_note := goodIn_r _ [6, 7, 8, 1, 9, 10, 11, 12, 13, 14, 15, 16, 17, 18, 19, 20, 21, 22, 23, 24, 25, 26, 27, 28, 29, 30, 31, 32, 33, 34, 35, 36, 37, 38, 39, 40, 41, 42, 43, 44, 45, 46, 66, 67, 68, 69, 70, 71, 72, 73, 74, 75, 76, 77, 78, 79, 80, 81, 82, 83, 84, 85, 86, 87, 88, 89, 90, 91, 92, 93] (by decide +kernel) (by decide +kernel)
set_option maxRecDepth 20000 in
theorem gX3_use_X3_note : GoodIn wsX3_use (wsV RX3 38 RX3 yX3_note wsX3_note) := goodIn_app (goodIn_of _ (by decide +kernel)) ggX3_use_X3_note
set_option maxRecDepth 20000 in
theorem ggX3_use_X0_planUse : GoodIn wsX3_use wsX0_planUse := goodIn_r _ [50, 25, 51, 24, 21, 22, 23, 52, 53, 54, 12, 55, 14, 56, 5, 57, 71, 72, 73, 74, 75, 76, 77, 78] (by decide +kernel) (by decide +kernel)
set_option maxRecDepth 20000 in
theorem gX3_use_X0_planUse : GoodIn wsX3_use (wsV RX3 92 RX0 yX0_planUse wsX0_planUse) := goodIn_app (goodIn_of _ (by decide +kernel)) ggX3_use_X0_planUse
set_option maxRecDepth 20000 in
theorem ggX3_use_X3_kept : GoodIn wsX3_use wsX3_kept := goodIn_r _ [61, 7, 62, 63, 64, 5, 65, 8, 66, 67, 68, 69, 70] (by decide +kernel) (by decide +kernel)
set_option maxRecDepth 20000 in
theorem gX3_use_X3_kept : GoodIn wsX3_use (wsV RX3 55 RX3 yX3_kept wsX3_kept) := goodIn_app (goodIn_of _ (by decide +kernel)) ggX3_use_X3_kept
theorem dX3_use_0 : decode cX3_use 0 = .ok (.aload_n 0, 1) := by decide +kernel
theorem dX3_use_1 : decode cX3_use 1 = .ok (.invokevirtual 38, 3) := by decide +kernel
theorem dX3_use_4 : decode cX3_use 4 = .ok (.aload_n 0, 1) := by decide +kernel
theorem dX3_use_5 : decode cX3_use 5 = .ok (.aload_n 0, 1) := by decide +kernel
theorem dX3_use_6 : decode cX3_use 6 = .ok (.getfield 10, 3) := by decide +kernel
theorem dX3_use_9 : decode cX3_use 9 = .ok (.iload_n 1, 1) := by decide +kernel
theorem dX3_use_10 : decode cX3_use 10 = .ok (.iload_n 2, 1) := by decide +kernel
theorem dX3_use_11 : decode cX3_use 11 = .ok (.iload_n 3, 1) := by decide +kernel
theorem dX3_use_12 : decode cX3_use 12 = .ok (.invokevirtual 92, 3) := by decide +kernel
theorem dX3_use_15 : decode cX3_use 15 = .ok (.invokevirtual 55, 3) := by decide +kernel
theorem dX3_use_18 : decode cX3_use 18 = .ok (.ireturn, 1) := by decide +kernel
set_option maxRecDepth 20000 in
theorem ggX3_useOf_X0_hasUse : GoodIn wsX3_useOf wsX0_hasUse := goodIn_r _ [9, 10, 26, 27, 28, 29, 30, 31, 32, 33] (by decide +kernel) (by decide +kernel)
set_option maxRecDepth 20000 in
theorem gX3_useOf_X0_hasUse : GoodIn wsX3_useOf (wsV RX3 95 RX0 yX0_hasUse wsX0_hasUse) := goodIn_app (goodIn_of _ (by decide +kernel)) ggX3_useOf_X0_hasUse
set_option maxRecDepth 20000 in
theorem ggX3_useOf_X3_outside : GoodIn wsX3_useOf wsX3_outside := goodIn_r _ [14] (by decide +kernel) (by decide +kernel)
set_option maxRecDepth 20000 in
theorem gX3_useOf_X3_outside : GoodIn wsX3_useOf (va_wsS RX3 30 yX3_outside wsX3_outside) := goodIn_app (goodIn_of _ (by decide +kernel)) ggX3_useOf_X3_outside
set_option maxRecDepth 20000 in
theorem ggX3_useOf_X0_firstUseOf : GoodIn wsX3_useOf wsX0_firstUseOf := goodIn_r _ [18, 10, 19, 20, 26, 27, 28, 29, 30, 31, 32, 33] (by decide +kernel) (by decide +kernel)
set_option maxRecDepth 20000 in
theorem gX3_useOf_X0_firstUseOf : GoodIn wsX3_useOf (wsV RX3 107 RX0 yX0_firstUseOf wsX0_firstUseOf) := goodIn_app (goodIn_of _ (by decide +kernel)) ggX3_useOf_X0_firstUseOf
theorem dX3_useOf_0 : decode cX3_useOf 0 = .ok (.aload_n 0, 1) := by decide +kernel
theorem dX3_useOf_1 : decode cX3_useOf 1 = .ok (.getfield 10, 3) := by decide +kernel
theorem dX3_useOf_4 : decode cX3_useOf 4 = .ok (.iload_n 1, 1) := by decide +kernel
theorem dX3_useOf_5 : decode cX3_useOf 5 = .ok (.invokevirtual 95, 3) := by decide +kernel
theorem dX3_useOf_8 : decode cX3_useOf 8 = .ok (.ifCond .eq 12, 3) := by decide +kernel
theorem dX3_useOf_11 : decode cX3_useOf 11 = .ok (.iload_n 2, 1) := by decide +kernel
theorem dX3_useOf_12 : decode cX3_useOf 12 = .ok (.iconst 0, 1) := by decide +kernel
theorem dX3_useOf_13 : decode cX3_useOf 13 = .ok (.iconst 3, 1) := by decide +kernel
theorem dX3_useOf_14 : decode cX3_useOf 14 = .ok (.invokestatic 30, 3) := by decide +kernel
theorem dX3_useOf_17 : decode cX3_useOf 17 = .ok (.ifCond .eq 5, 3) := by decide +kernel
theorem dX3_useOf_20 : decode cX3_useOf 20 = .ok (.iconst (-1), 1) := by decide +kernel
theorem dX3_useOf_21 : decode cX3_useOf 21 = .ok (.ireturn, 1) := by decide +kernel
theorem dX3_useOf_22 : decode cX3_useOf 22 = .ok (.iload_n 2, 1) := by decide +kernel
theorem dX3_useOf_23 : decode cX3_useOf 23 = .ok (.tableswitch 55 0 2 #[25, 35, 45], 25) := by decide +kernel
theorem dX3_useOf_48 : decode cX3_useOf 48 = .ok (.aload_n 0, 1) := by decide +kernel
theorem dX3_useOf_49 : decode cX3_useOf 49 = .ok (.getfield 10, 3) := by decide +kernel
theorem dX3_useOf_52 : decode cX3_useOf 52 = .ok (.getfield 98, 3) := by decide +kernel
theorem dX3_useOf_55 : decode cX3_useOf 55 = .ok (.iload_n 1, 1) := by decide +kernel
theorem dX3_useOf_56 : decode cX3_useOf 56 = .ok (.iaload, 1) := by decide +kernel
theorem dX3_useOf_57 : decode cX3_useOf 57 = .ok (.ireturn, 1) := by decide +kernel
theorem dX3_useOf_58 : decode cX3_useOf 58 = .ok (.aload_n 0, 1) := by decide +kernel
theorem dX3_useOf_59 : decode cX3_useOf 59 = .ok (.getfield 10, 3) := by decide +kernel
theorem dX3_useOf_62 : decode cX3_useOf 62 = .ok (.getfield 101, 3) := by decide +kernel
theorem dX3_useOf_65 : decode cX3_useOf 65 = .ok (.iload_n 1, 1) := by decide +kernel
theorem dX3_useOf_66 : decode cX3_useOf 66 = .ok (.iaload, 1) := by decide +kernel
theorem dX3_useOf_67 : decode cX3_useOf 67 = .ok (.ireturn, 1) := by decide +kernel
theorem dX3_useOf_68 : decode cX3_useOf 68 = .ok (.aload_n 0, 1) := by decide +kernel
theorem dX3_useOf_69 : decode cX3_useOf 69 = .ok (.getfield 10, 3) := by decide +kernel
theorem dX3_useOf_72 : decode cX3_useOf 72 = .ok (.getfield 104, 3) := by decide +kernel
theorem dX3_useOf_75 : decode cX3_useOf 75 = .ok (.iload_n 1, 1) := by decide +kernel
theorem dX3_useOf_76 : decode cX3_useOf 76 = .ok (.iaload, 1) := by decide +kernel
theorem dX3_useOf_77 : decode cX3_useOf 77 = .ok (.ireturn, 1) := by decide +kernel
theorem dX3_useOf_78 : decode cX3_useOf 78 = .ok (.aload_n 0, 1) := by decide +kernel
theorem dX3_useOf_79 : decode cX3_useOf 79 = .ok (.getfield 10, 3) := by decide +kernel
theorem dX3_useOf_82 : decode cX3_useOf 82 = .ok (.aload_n 0, 1) := by decide +kernel
theorem dX3_useOf_83 : decode cX3_useOf 83 = .ok (.getfield 10, 3) := by decide +kernel
theorem dX3_useOf_86 : decode cX3_useOf 86 = .ok (.getfield 98, 3) := by decide +kernel
theorem dX3_useOf_89 : decode cX3_useOf 89 = .ok (.iload_n 1, 1) := by decide +kernel
theorem dX3_useOf_90 : decode cX3_useOf 90 = .ok (.iaload, 1) := by decide +kernel
theorem dX3_useOf_91 : decode cX3_useOf 91 = .ok (.invokevirtual 107, 3) := by decide +kernel
theorem dX3_useOf_94 : decode cX3_useOf 94 = .ok (.iload_n 1, 1) := by decide +kernel
theorem dX3_useOf_95 : decode cX3_useOf 95 = .ok (.if_icmp .ne 7, 3) := by decide +kernel
theorem dX3_useOf_98 : decode cX3_useOf 98 = .ok (.iconst 1, 1) := by decide +kernel
theorem dX3_useOf_99 : decode cX3_useOf 99 = .ok (.goto 4, 3) := by decide +kernel
theorem dX3_useOf_102 : decode cX3_useOf 102 = .ok (.iconst 0, 1) := by decide +kernel
theorem dX3_useOf_103 : decode cX3_useOf 103 = .ok (.ireturn, 1) := by decide +kernel
set_option maxRecDepth 20000 in
theorem ggX3_drop_X3_note : GoodIn wsX3_drop wsX3_note := goodIn_r _ [6, 7, 8, 1, 9, 10, 11, 12, 13, 14, 15, 16, 17, 18, 19, 20, 21, 22, 23, 24, 25, 26, 27, 28, 29, 30, 31, 32, 33, 34, 35, 36, 37, 38, 39, 40, 41, 42, 43, 44, 45, 46, 67, 68, 69, 70, 71, 72, 73, 74, 75, 76, 77, 78, 79, 80, 81, 82, 83, 84, 85, 86, 87, 88, 89, 90, 91, 92, 93, 94] (by decide +kernel) (by decide +kernel)
set_option maxRecDepth 20000 in
theorem gX3_drop_X3_note : GoodIn wsX3_drop (wsV RX3 38 RX3 yX3_note wsX3_note) := goodIn_app (goodIn_of _ (by decide +kernel)) ggX3_drop_X3_note
set_option maxRecDepth 20000 in
theorem ggX3_drop_X0_dropUse : GoodIn wsX3_drop wsX0_dropUse := goodIn_r _ [50, 21, 51, 52, 53, 12, 54, 24, 55, 56, 57, 58, 22, 23, 72, 73, 74, 75, 76, 77, 78, 79] (by decide +kernel) (by decide +kernel)
set_option maxRecDepth 20000 in
theorem gX3_drop_X0_dropUse : GoodIn wsX3_drop (wsV RX3 110 RX0 yX0_dropUse wsX0_dropUse) := goodIn_app (goodIn_of _ (by decide +kernel)) ggX3_drop_X0_dropUse
set_option maxRecDepth 20000 in
theorem ggX3_drop_X3_kept : GoodIn wsX3_drop wsX3_kept := goodIn_r _ [62, 7, 63, 64, 65, 5, 66, 8, 67, 68, 69, 70, 71] (by decide +kernel) (by decide +kernel)
set_option maxRecDepth 20000 in
theorem gX3_drop_X3_kept : GoodIn wsX3_drop (wsV RX3 55 RX3 yX3_kept wsX3_kept) := goodIn_app (goodIn_of _ (by decide +kernel)) ggX3_drop_X3_kept
theorem dX3_drop_0 : decode cX3_drop 0 = .ok (.aload_n 0, 1) := by decide +kernel
theorem dX3_drop_1 : decode cX3_drop 1 = .ok (.invokevirtual 38, 3) := by decide +kernel
theorem dX3_drop_4 : decode cX3_drop 4 = .ok (.aload_n 0, 1) := by decide +kernel
theorem dX3_drop_5 : decode cX3_drop 5 = .ok (.aload_n 0, 1) := by decide +kernel
theorem dX3_drop_6 : decode cX3_drop 6 = .ok (.getfield 10, 3) := by decide +kernel
theorem dX3_drop_9 : decode cX3_drop 9 = .ok (.iload_n 1, 1) := by decide +kernel
theorem dX3_drop_10 : decode cX3_drop 10 = .ok (.invokevirtual 110, 3) := by decide +kernel
theorem dX3_drop_13 : decode cX3_drop 13 = .ok (.invokevirtual 55, 3) := by decide +kernel
theorem dX3_drop_16 : decode cX3_drop 16 = .ok (.ireturn, 1) := by decide +kernel
set_option maxRecDepth 20000 in
theorem ggX3_wake_X3_note : GoodIn wsX3_wake wsX3_note := goodIn_r _ [6, 7, 8, 1, 9, 10, 11, 12, 13, 14, 15, 16, 17, 18, 19, 20, 21, 22, 23, 24, 25, 26, 27, 28, 29, 30, 31, 32, 33, 34, 35, 36, 37, 38, 39, 40, 41, 42, 43, 44, 45, 46, 79, 80, 81, 82, 83, 84, 85, 86, 87, 88, 89, 90, 91, 92, 93, 94, 95, 96, 97, 98, 99, 100, 101, 102, 103, 104, 105, 106] (by decide +kernel) (by decide +kernel)
set_option maxRecDepth 20000 in
theorem gX3_wake_X3_note : GoodIn wsX3_wake (wsV RX3 38 RX3 yX3_note wsX3_note) := goodIn_app (goodIn_of _ (by decide +kernel)) ggX3_wake_X3_note
set_option maxRecDepth 20000 in
theorem ggX3_wake_X0_wakeRoom : GoodIn wsX3_wake wsX0_wakeRoom := goodIn_r _ [50, 15, 51, 52, 53, 54, 55, 12, 56, 14, 57, 58, 59, 60, 61, 62, 63, 64, 65, 66, 16, 67, 68, 69, 29, 70, 33, 31, 39, 40, 44, 84, 85, 86, 87, 88, 89, 90, 91, 92, 93, 94, 95, 96, 97, 98, 99, 100, 101, 102, 103, 104, 105, 106] (by decide +kernel) (by decide +kernel)
set_option maxRecDepth 20000 in
theorem gX3_wake_X0_wakeRoom : GoodIn wsX3_wake (wsV RX3 113 RX0 yX0_wakeRoom wsX0_wakeRoom) := goodIn_app (goodIn_of _ (by decide +kernel)) ggX3_wake_X0_wakeRoom
set_option maxRecDepth 20000 in
theorem ggX3_wake_X3_kept : GoodIn wsX3_wake wsX3_kept := goodIn_r _ [74, 7, 75, 76, 77, 5, 78, 8, 79, 80, 81, 82, 83] (by decide +kernel) (by decide +kernel)
set_option maxRecDepth 20000 in
theorem gX3_wake_X3_kept : GoodIn wsX3_wake (wsV RX3 55 RX3 yX3_kept wsX3_kept) := goodIn_app (goodIn_of _ (by decide +kernel)) ggX3_wake_X3_kept
theorem dX3_wake_0 : decode cX3_wake 0 = .ok (.aload_n 0, 1) := by decide +kernel
theorem dX3_wake_1 : decode cX3_wake 1 = .ok (.invokevirtual 38, 3) := by decide +kernel
theorem dX3_wake_4 : decode cX3_wake 4 = .ok (.aload_n 0, 1) := by decide +kernel
theorem dX3_wake_5 : decode cX3_wake 5 = .ok (.aload_n 0, 1) := by decide +kernel
theorem dX3_wake_6 : decode cX3_wake 6 = .ok (.getfield 10, 3) := by decide +kernel
theorem dX3_wake_9 : decode cX3_wake 9 = .ok (.iload_n 1, 1) := by decide +kernel
theorem dX3_wake_10 : decode cX3_wake 10 = .ok (.invokevirtual 113, 3) := by decide +kernel
theorem dX3_wake_13 : decode cX3_wake 13 = .ok (.invokevirtual 55, 3) := by decide +kernel
theorem dX3_wake_16 : decode cX3_wake 16 = .ok (.ireturn, 1) := by decide +kernel
set_option maxRecDepth 20000 in
theorem ggX3_sleep_X3_note : GoodIn wsX3_sleep wsX3_note := goodIn_r _ [6, 7, 8, 1, 9, 10, 11, 12, 13, 14, 15, 16, 17, 18, 19, 20, 21, 22, 23, 24, 25, 26, 27, 28, 29, 30, 31, 32, 33, 34, 35, 36, 37, 38, 39, 40, 41, 42, 43, 44, 45, 46, 70, 71, 72, 73, 74, 75, 76, 77, 78, 79, 80, 81, 82, 83, 84, 85, 86, 87, 88, 89, 90, 91, 92, 93, 94, 95, 96, 97] (by decide +kernel) (by decide +kernel)
set_option maxRecDepth 20000 in
theorem gX3_sleep_X3_note : GoodIn wsX3_sleep (wsV RX3 38 RX3 yX3_note wsX3_note) := goodIn_app (goodIn_of _ (by decide +kernel)) ggX3_sleep_X3_note
set_option maxRecDepth 20000 in
theorem ggX3_sleep_X0_sendToSleep : GoodIn wsX3_sleep wsX0_sendToSleep := goodIn_r _ [50, 15, 51, 52, 53, 54, 55, 12, 56, 14, 57, 58, 59, 60, 61, 75, 76, 77, 78, 79, 80, 81, 82, 83, 84, 85, 86, 87, 88, 89, 90, 91, 92, 93, 94, 95, 96, 97] (by decide +kernel) (by decide +kernel)
set_option maxRecDepth 20000 in
theorem gX3_sleep_X0_sendToSleep : GoodIn wsX3_sleep (wsV RX3 116 RX0 yX0_sendToSleep wsX0_sendToSleep) := goodIn_app (goodIn_of _ (by decide +kernel)) ggX3_sleep_X0_sendToSleep
set_option maxRecDepth 20000 in
theorem ggX3_sleep_X3_kept : GoodIn wsX3_sleep wsX3_kept := goodIn_r _ [65, 7, 66, 67, 68, 5, 69, 8, 70, 71, 72, 73, 74] (by decide +kernel) (by decide +kernel)
set_option maxRecDepth 20000 in
theorem gX3_sleep_X3_kept : GoodIn wsX3_sleep (wsV RX3 55 RX3 yX3_kept wsX3_kept) := goodIn_app (goodIn_of _ (by decide +kernel)) ggX3_sleep_X3_kept
theorem dX3_sleep_0 : decode cX3_sleep 0 = .ok (.aload_n 0, 1) := by decide +kernel
theorem dX3_sleep_1 : decode cX3_sleep 1 = .ok (.invokevirtual 38, 3) := by decide +kernel
theorem dX3_sleep_4 : decode cX3_sleep 4 = .ok (.aload_n 0, 1) := by decide +kernel
theorem dX3_sleep_5 : decode cX3_sleep 5 = .ok (.aload_n 0, 1) := by decide +kernel
theorem dX3_sleep_6 : decode cX3_sleep 6 = .ok (.getfield 10, 3) := by decide +kernel
theorem dX3_sleep_9 : decode cX3_sleep 9 = .ok (.iload_n 1, 1) := by decide +kernel
theorem dX3_sleep_10 : decode cX3_sleep 10 = .ok (.invokevirtual 116, 3) := by decide +kernel
theorem dX3_sleep_13 : decode cX3_sleep 13 = .ok (.invokevirtual 55, 3) := by decide +kernel
theorem dX3_sleep_16 : decode cX3_sleep 16 = .ok (.ireturn, 1) := by decide +kernel
set_option maxRecDepth 20000 in
theorem ggX3_tick_X3_note : GoodIn wsX3_tick wsX3_note := goodIn_r _ [6, 7, 8, 1, 9, 10, 11, 12, 13, 14, 15, 16, 17, 18, 19, 20, 21, 22, 23, 24, 25, 26, 27, 28, 29, 30, 31, 32, 33, 34, 35, 36, 37, 38, 39, 40, 41, 42, 43, 44, 45, 46, 149, 150, 151, 152, 153, 154, 155, 156, 157, 158, 159, 160, 161, 162, 163, 164, 165, 166, 167, 168, 169, 170, 171, 172, 173, 174, 175, 176] (by decide +kernel) (by decide +kernel)
set_option maxRecDepth 20000 in
theorem gX3_tick_X3_note : GoodIn wsX3_tick (wsV RX3 38 RX3 yX3_note wsX3_note) := goodIn_app (goodIn_of _ (by decide +kernel)) ggX3_tick_X3_note
set_option maxRecDepth 20000 in
theorem ggX3_tick_X0_letTicksGoBy : GoodIn wsX3_tick wsX0_letTicksGoBy := goodIn_r _ [50, 25, 51, 52, 5, 53, 54, 55, 56, 12, 57, 14, 15, 58, 59, 60, 61, 62, 63, 64, 65, 66, 67, 68, 69, 22, 70, 71, 72, 73, 24, 21, 74, 75, 76, 77, 78, 79, 80, 29, 81, 38, 42, 39, 45, 46, 31, 82, 83, 84, 85, 86, 87, 88, 89, 90, 91, 92, 93, 94, 95, 96, 97, 98, 99, 100, 101, 102, 103, 16, 104, 105, 106, 107, 33, 40, 44, 108, 109, 110, 111, 23, 112, 113, 114, 115, 43, 116, 117, 118, 119, 120, 121, 122, 123, 124, 125, 126, 127, 128, 129, 130, 131, 132, 41, 133, 134, 135, 136, 37, 137, 138, 139, 140, 154, 155, 156, 157, 158, 159, 160, 161, 162, 163, 164, 165, 166, 167, 168, 169, 170, 171, 172, 173, 174, 175, 176] (by decide +kernel) (by decide +kernel)
set_option maxRecDepth 20000 in
theorem gX3_tick_X0_letTicksGoBy : GoodIn wsX3_tick (wsV RX3 119 RX0 yX0_letTicksGoBy wsX0_letTicksGoBy) := goodIn_app (goodIn_of _ (by decide +kernel)) ggX3_tick_X0_letTicksGoBy
set_option maxRecDepth 20000 in
theorem ggX3_tick_X3_kept : GoodIn wsX3_tick wsX3_kept := goodIn_r _ [144, 7, 145, 146, 147, 5, 148, 8, 149, 150, 151, 152, 153] (by decide +kernel) (by decide +kernel)
set_option maxRecDepth 20000 in
theorem gX3_tick_X3_kept : GoodIn wsX3_tick (wsV RX3 55 RX3 yX3_kept wsX3_kept) := goodIn_app (goodIn_of _ (by decide +kernel)) ggX3_tick_X3_kept
theorem dX3_tick_0 : decode cX3_tick 0 = .ok (.aload_n 0, 1) := by decide +kernel
theorem dX3_tick_1 : decode cX3_tick 1 = .ok (.invokevirtual 38, 3) := by decide +kernel
theorem dX3_tick_4 : decode cX3_tick 4 = .ok (.aload_n 0, 1) := by decide +kernel
theorem dX3_tick_5 : decode cX3_tick 5 = .ok (.aload_n 0, 1) := by decide +kernel
theorem dX3_tick_6 : decode cX3_tick 6 = .ok (.getfield 10, 3) := by decide +kernel
theorem dX3_tick_9 : decode cX3_tick 9 = .ok (.iload_n 1, 1) := by decide +kernel
theorem dX3_tick_10 : decode cX3_tick 10 = .ok (.invokevirtual 119, 3) := by decide +kernel
theorem dX3_tick_13 : decode cX3_tick 13 = .ok (.invokevirtual 55, 3) := by decide +kernel
theorem dX3_tick_16 : decode cX3_tick 16 = .ok (.ireturn, 1) := by decide +kernel
set_option maxRecDepth 20000 in
theorem ggX3_energy_X0_hasRoom : GoodIn wsX3_energy wsX0_hasRoom := goodIn_r _ [8, 9, 25, 26, 27, 28, 29, 30, 31, 32] (by decide +kernel) (by decide +kernel)
set_option maxRecDepth 20000 in
theorem gX3_energy_X0_hasRoom : GoodIn wsX3_energy (wsV RX3 76 RX0 yX0_hasRoom wsX0_hasRoom) := goodIn_app (goodIn_of _ (by decide +kernel)) ggX3_energy_X0_hasRoom
set_option maxRecDepth 20000 in
theorem ggX3_energy_X3_outside : GoodIn wsX3_energy wsX3_outside := goodIn_r _ [13] (by decide +kernel) (by decide +kernel)
set_option maxRecDepth 20000 in
theorem gX3_energy_X3_outside : GoodIn wsX3_energy (va_wsS RX3 30 yX3_outside wsX3_outside) := goodIn_app (goodIn_of _ (by decide +kernel)) ggX3_energy_X3_outside
set_option maxRecDepth 20000 in
theorem ggX3_energy_X2_paidInAll : GoodIn wsX3_energy wsX2_paidInAll := goodIn_r _ [18, 19, 33, 34, 35, 36, 37, 38, 39, 40, 41, 42, 43, 44, 45, 46, 47] (by decide +kernel) (by decide +kernel)
set_option maxRecDepth 20000 in
theorem gX3_energy_X2_paidInAll : GoodIn wsX3_energy (wsV RX3 122 RX2 yX2_paidInAll wsX2_paidInAll) := goodIn_app (goodIn_of _ (by decide +kernel)) ggX3_energy_X2_paidInAll
theorem dX3_energy_0 : decode cX3_energy 0 = .ok (.aload_n 0, 1) := by decide +kernel
theorem dX3_energy_1 : decode cX3_energy 1 = .ok (.getfield 10, 3) := by decide +kernel
theorem dX3_energy_4 : decode cX3_energy 4 = .ok (.iload_n 1, 1) := by decide +kernel
theorem dX3_energy_5 : decode cX3_energy 5 = .ok (.invokevirtual 76, 3) := by decide +kernel
theorem dX3_energy_8 : decode cX3_energy 8 = .ok (.ifCond .eq 12, 3) := by decide +kernel
theorem dX3_energy_11 : decode cX3_energy 11 = .ok (.iload_n 2, 1) := by decide +kernel
theorem dX3_energy_12 : decode cX3_energy 12 = .ok (.iconst 0, 1) := by decide +kernel
theorem dX3_energy_13 : decode cX3_energy 13 = .ok (.iconst 4, 1) := by decide +kernel
theorem dX3_energy_14 : decode cX3_energy 14 = .ok (.invokestatic 30, 3) := by decide +kernel
theorem dX3_energy_17 : decode cX3_energy 17 = .ok (.ifCond .eq 5, 3) := by decide +kernel
theorem dX3_energy_20 : decode cX3_energy 20 = .ok (.iconst (-1), 1) := by decide +kernel
theorem dX3_energy_21 : decode cX3_energy 21 = .ok (.ireturn, 1) := by decide +kernel
theorem dX3_energy_22 : decode cX3_energy 22 = .ok (.aload_n 0, 1) := by decide +kernel
theorem dX3_energy_23 : decode cX3_energy 23 = .ok (.getfield 10, 3) := by decide +kernel
theorem dX3_energy_26 : decode cX3_energy 26 = .ok (.getfield 41, 3) := by decide +kernel
theorem dX3_energy_29 : decode cX3_energy 29 = .ok (.iload_n 1, 1) := by decide +kernel
theorem dX3_energy_30 : decode cX3_energy 30 = .ok (.aaload, 1) := by decide +kernel
theorem dX3_energy_31 : decode cX3_energy 31 = .ok (.astore_n 3, 1) := by decide +kernel
theorem dX3_energy_32 : decode cX3_energy 32 = .ok (.iload_n 2, 1) := by decide +kernel
theorem dX3_energy_33 : decode cX3_energy 33 = .ok (.iconst 4, 1) := by decide +kernel
theorem dX3_energy_34 : decode cX3_energy 34 = .ok (.if_icmp .ne 10, 3) := by decide +kernel
theorem dX3_energy_37 : decode cX3_energy 37 = .ok (.aload_n 3, 1) := by decide +kernel
theorem dX3_energy_38 : decode cX3_energy 38 = .ok (.invokevirtual 122, 3) := by decide +kernel
theorem dX3_energy_41 : decode cX3_energy 41 = .ok (.goto 9, 3) := by decide +kernel
theorem dX3_energy_44 : decode cX3_energy 44 = .ok (.aload_n 3, 1) := by decide +kernel
theorem dX3_energy_45 : decode cX3_energy 45 = .ok (.getfield 126, 3) := by decide +kernel
theorem dX3_energy_48 : decode cX3_energy 48 = .ok (.iload_n 2, 1) := by decide +kernel
theorem dX3_energy_49 : decode cX3_energy 49 = .ok (.iaload, 1) := by decide +kernel
theorem dX3_energy_50 : decode cX3_energy 50 = .ok (.ireturn, 1) := by decide +kernel
set_option maxRecDepth 20000 in
theorem ggX3_count_X3_outside : GoodIn wsX3_count wsX3_outside := goodIn_r _ [9] (by decide +kernel) (by decide +kernel)
set_option maxRecDepth 20000 in
theorem gX3_count_X3_outside : GoodIn wsX3_count (va_wsS RX3 30 yX3_outside wsX3_outside) := goodIn_app (goodIn_of _ (by decide +kernel)) ggX3_count_X3_outside
set_option maxRecDepth 20000 in
theorem ggX3_count_X0_tell : GoodIn wsX3_count wsX0_tell := goodIn_r _ [14, 15, 16, 17, 18, 19, 20, 13, 21, 22, 23, 24, 25, 26, 27, 28, 29, 30, 31, 32, 33, 34, 35, 36, 37, 38, 39, 40, 41, 42, 43, 58, 59, 60, 61, 62, 63, 64, 65, 66, 67, 68, 69, 70, 71, 72, 73, 74, 75, 76, 77, 78, 79, 80] (by decide +kernel) (by decide +kernel)
set_option maxRecDepth 20000 in
theorem gX3_count_X0_tell : GoodIn wsX3_count (wsV RX3 152 RX0 yX0_tell wsX0_tell) := goodIn_app (goodIn_of _ (by decide +kernel)) ggX3_count_X0_tell
theorem dX3_count_0 : decode cX3_count 0 = .ok (.iload_n 1, 1) := by decide +kernel
theorem dX3_count_1 : decode cX3_count 1 = .ok (.lookupswitch 76 #[(10, 43), (11, 48), (20, 56), (21, 66)], 43) := by decide +kernel
theorem dX3_count_44 : decode cX3_count 44 = .ok (.aload_n 0, 1) := by decide +kernel
theorem dX3_count_45 : decode cX3_count 45 = .ok (.getfield 143, 3) := by decide +kernel
theorem dX3_count_48 : decode cX3_count 48 = .ok (.ireturn, 1) := by decide +kernel
theorem dX3_count_49 : decode cX3_count 49 = .ok (.aload_n 0, 1) := by decide +kernel
theorem dX3_count_50 : decode cX3_count 50 = .ok (.getfield 26, 3) := by decide +kernel
theorem dX3_count_53 : decode cX3_count 53 = .ok (.getfield 146, 3) := by decide +kernel
theorem dX3_count_56 : decode cX3_count 56 = .ok (.ireturn, 1) := by decide +kernel
theorem dX3_count_57 : decode cX3_count 57 = .ok (.aload_n 0, 1) := by decide +kernel
theorem dX3_count_58 : decode cX3_count 58 = .ok (.getfield 10, 3) := by decide +kernel
theorem dX3_count_61 : decode cX3_count 61 = .ok (.getfield 149, 3) := by decide +kernel
theorem dX3_count_64 : decode cX3_count 64 = .ok (.iconst 0, 1) := by decide +kernel
theorem dX3_count_65 : decode cX3_count 65 = .ok (.iaload, 1) := by decide +kernel
theorem dX3_count_66 : decode cX3_count 66 = .ok (.ireturn, 1) := by decide +kernel
theorem dX3_count_67 : decode cX3_count 67 = .ok (.aload_n 0, 1) := by decide +kernel
theorem dX3_count_68 : decode cX3_count 68 = .ok (.getfield 10, 3) := by decide +kernel
theorem dX3_count_71 : decode cX3_count 71 = .ok (.getfield 149, 3) := by decide +kernel
theorem dX3_count_74 : decode cX3_count 74 = .ok (.iconst 1, 1) := by decide +kernel
theorem dX3_count_75 : decode cX3_count 75 = .ok (.iaload, 1) := by decide +kernel
theorem dX3_count_76 : decode cX3_count 76 = .ok (.ireturn, 1) := by decide +kernel
theorem dX3_count_77 : decode cX3_count 77 = .ok (.iload_n 1, 1) := by decide +kernel
theorem dX3_count_78 : decode cX3_count 78 = .ok (.iconst 0, 1) := by decide +kernel
theorem dX3_count_79 : decode cX3_count 79 = .ok (.bipush 9, 2) := by decide +kernel
theorem dX3_count_81 : decode cX3_count 81 = .ok (.invokestatic 30, 3) := by decide +kernel
theorem dX3_count_84 : decode cX3_count 84 = .ok (.ifCond .eq 7, 3) := by decide +kernel
theorem dX3_count_87 : decode cX3_count 87 = .ok (.iconst (-1), 1) := by decide +kernel
theorem dX3_count_88 : decode cX3_count 88 = .ok (.goto 11, 3) := by decide +kernel
theorem dX3_count_91 : decode cX3_count 91 = .ok (.aload_n 0, 1) := by decide +kernel
theorem dX3_count_92 : decode cX3_count 92 = .ok (.getfield 10, 3) := by decide +kernel
theorem dX3_count_95 : decode cX3_count 95 = .ok (.iload_n 1, 1) := by decide +kernel
theorem dX3_count_96 : decode cX3_count 96 = .ok (.invokevirtual 152, 3) := by decide +kernel
theorem dX3_count_99 : decode cX3_count 99 = .ok (.ireturn, 1) := by decide +kernel
theorem dX3_outside_0 : decode cX3_outside 0 = .ok (.iload_n 0, 1) := by decide +kernel
theorem dX3_outside_1 : decode cX3_outside 1 = .ok (.iload_n 1, 1) := by decide +kernel
theorem dX3_outside_2 : decode cX3_outside 2 = .ok (.if_icmp .lt 8, 3) := by decide +kernel
theorem dX3_outside_5 : decode cX3_outside 5 = .ok (.iload_n 0, 1) := by decide +kernel
theorem dX3_outside_6 : decode cX3_outside 6 = .ok (.iload_n 2, 1) := by decide +kernel
theorem dX3_outside_7 : decode cX3_outside 7 = .ok (.if_icmp .le 7, 3) := by decide +kernel
theorem dX3_outside_10 : decode cX3_outside 10 = .ok (.iconst 1, 1) := by decide +kernel
theorem dX3_outside_11 : decode cX3_outside 11 = .ok (.goto 4, 3) := by decide +kernel
theorem dX3_outside_14 : decode cX3_outside 14 = .ok (.iconst 0, 1) := by decide +kernel
theorem dX3_outside_15 : decode cX3_outside 15 = .ok (.ireturn, 1) := by decide +kernel
set_option maxRecDepth 20000 in
theorem ggX3_note_X0_copyFrom : GoodIn wsX3_note wsX0_copyFrom := goodIn_r _ [8, 9, 10, 11, 12, 13, 14, 15, 16, 17, 18, 19, 20, 21, 22, 23, 24, 25, 26, 27, 28, 29, 30, 31, 32, 33, 34, 35, 36, 37, 38, 39, 40, 41, 47, 48, 49, 50, 51, 52, 53, 54, 55, 56, 57, 58, 59, 60, 61, 62, 63, 64, 65, 66, 67, 68, 69] (by decide +kernel) (by decide +kernel)
set_option maxRecDepth 20000 in
theorem gX3_note_X0_copyFrom : GoodIn wsX3_note (wsV RX3 153 RX0 yX0_copyFrom wsX0_copyFrom) := goodIn_app (goodIn_of _ (by decide +kernel)) ggX3_note_X0_copyFrom
theorem dX3_note_0 : decode cX3_note 0 = .ok (.aload_n 0, 1) := by decide +kernel
theorem dX3_note_1 : decode cX3_note 1 = .ok (.getfield 143, 3) := by decide +kernel
theorem dX3_note_4 : decode cX3_note 4 = .ok (.aload_n 0, 1) := by decide +kernel
theorem dX3_note_5 : decode cX3_note 5 = .ok (.getfield 19, 3) := by decide +kernel
theorem dX3_note_8 : decode cX3_note 8 = .ok (.arraylength, 1) := by decide +kernel
theorem dX3_note_9 : decode cX3_note 9 = .ok (.if_icmp .ge 19, 3) := by decide +kernel
theorem dX3_note_12 : decode cX3_note 12 = .ok (.aload_n 0, 1) := by decide +kernel
theorem dX3_note_13 : decode cX3_note 13 = .ok (.getfield 19, 3) := by decide +kernel
theorem dX3_note_16 : decode cX3_note 16 = .ok (.aload_n 0, 1) := by decide +kernel
theorem dX3_note_17 : decode cX3_note 17 = .ok (.getfield 143, 3) := by decide +kernel
theorem dX3_note_20 : decode cX3_note 20 = .ok (.aaload, 1) := by decide +kernel
theorem dX3_note_21 : decode cX3_note 21 = .ok (.aload_n 0, 1) := by decide +kernel
theorem dX3_note_22 : decode cX3_note 22 = .ok (.getfield 10, 3) := by decide +kernel
theorem dX3_note_25 : decode cX3_note 25 = .ok (.invokevirtual 153, 3) := by decide +kernel
theorem dX3_note_28 : decode cX3_note 28 = .ok (.return_, 1) := by decide +kernel
set_option maxRecDepth 20000 in
theorem ggX3_kept_X3_dropOldest : GoodIn wsX3_kept wsX3_dropOldest := goodIn_r _ [6, 7, 1, 8, 9, 10, 11, 12] (by decide +kernel) (by decide +kernel)
set_option maxRecDepth 20000 in
theorem gX3_kept_X3_dropOldest : GoodIn wsX3_kept (wsV RX3 195 RX3 yX3_dropOldest wsX3_dropOldest) := goodIn_app (goodIn_of _ (by decide +kernel)) ggX3_kept_X3_dropOldest
theorem dX3_kept_0 : decode cX3_kept 0 = .ok (.iload_n 1, 1) := by decide +kernel
theorem dX3_kept_1 : decode cX3_kept 1 = .ok (.ifCond .ge 5, 3) := by decide +kernel
theorem dX3_kept_4 : decode cX3_kept 4 = .ok (.iload_n 1, 1) := by decide +kernel
theorem dX3_kept_5 : decode cX3_kept 5 = .ok (.ireturn, 1) := by decide +kernel
theorem dX3_kept_6 : decode cX3_kept 6 = .ok (.aload_n 0, 1) := by decide +kernel
theorem dX3_kept_7 : decode cX3_kept 7 = .ok (.dup, 1) := by decide +kernel
theorem dX3_kept_8 : decode cX3_kept 8 = .ok (.getfield 143, 3) := by decide +kernel
theorem dX3_kept_11 : decode cX3_kept 11 = .ok (.iconst 1, 1) := by decide +kernel
theorem dX3_kept_12 : decode cX3_kept 12 = .ok (.iadd, 1) := by decide +kernel
theorem dX3_kept_13 : decode cX3_kept 13 = .ok (.putfield 143, 3) := by decide +kernel
theorem dX3_kept_16 : decode cX3_kept 16 = .ok (.aload_n 0, 1) := by decide +kernel
theorem dX3_kept_17 : decode cX3_kept 17 = .ok (.getfield 143, 3) := by decide +kernel
theorem dX3_kept_20 : decode cX3_kept 20 = .ok (.iconst 4, 1) := by decide +kernel
theorem dX3_kept_21 : decode cX3_kept 21 = .ok (.if_icmp .le 7, 3) := by decide +kernel
theorem dX3_kept_24 : decode cX3_kept 24 = .ok (.aload_n 0, 1) := by decide +kernel
theorem dX3_kept_25 : decode cX3_kept 25 = .ok (.invokevirtual 195, 3) := by decide +kernel
theorem dX3_kept_28 : decode cX3_kept 28 = .ok (.iload_n 1, 1) := by decide +kernel
theorem dX3_kept_29 : decode cX3_kept 29 = .ok (.ireturn, 1) := by decide +kernel
theorem dX3_dropOldest_0 : decode cX3_dropOldest 0 = .ok (.aload_n 0, 1) := by decide +kernel
theorem dX3_dropOldest_1 : decode cX3_dropOldest 1 = .ok (.getfield 19, 3) := by decide +kernel
theorem dX3_dropOldest_4 : decode cX3_dropOldest 4 = .ok (.iconst 0, 1) := by decide +kernel
theorem dX3_dropOldest_5 : decode cX3_dropOldest 5 = .ok (.aaload, 1) := by decide +kernel
theorem dX3_dropOldest_6 : decode cX3_dropOldest 6 = .ok (.astore_n 1, 1) := by decide +kernel
theorem dX3_dropOldest_7 : decode cX3_dropOldest 7 = .ok (.iconst 0, 1) := by decide +kernel
theorem dX3_dropOldest_8 : decode cX3_dropOldest 8 = .ok (.istore_n 2, 1) := by decide +kernel
theorem dX3_dropOldest_9 : decode cX3_dropOldest 9 = .ok (.iload_n 2, 1) := by decide +kernel
theorem dX3_dropOldest_10 : decode cX3_dropOldest 10 = .ok (.iconst 4, 1) := by decide +kernel
theorem dX3_dropOldest_11 : decode cX3_dropOldest 11 = .ok (.if_icmp .ge 23, 3) := by decide +kernel
theorem dX3_dropOldest_14 : decode cX3_dropOldest 14 = .ok (.aload_n 0, 1) := by decide +kernel
theorem dX3_dropOldest_15 : decode cX3_dropOldest 15 = .ok (.getfield 19, 3) := by decide +kernel
theorem dX3_dropOldest_18 : decode cX3_dropOldest 18 = .ok (.iload_n 2, 1) := by decide +kernel
theorem dX3_dropOldest_19 : decode cX3_dropOldest 19 = .ok (.aload_n 0, 1) := by decide +kernel
theorem dX3_dropOldest_20 : decode cX3_dropOldest 20 = .ok (.getfield 19, 3) := by decide +kernel
theorem dX3_dropOldest_23 : decode cX3_dropOldest 23 = .ok (.iload_n 2, 1) := by decide +kernel
theorem dX3_dropOldest_24 : decode cX3_dropOldest 24 = .ok (.iconst 1, 1) := by decide +kernel
theorem dX3_dropOldest_25 : decode cX3_dropOldest 25 = .ok (.iadd, 1) := by decide +kernel
theorem dX3_dropOldest_26 : decode cX3_dropOldest 26 = .ok (.aaload, 1) := by decide +kernel
theorem dX3_dropOldest_27 : decode cX3_dropOldest 27 = .ok (.aastore, 1) := by decide +kernel
theorem dX3_dropOldest_28 : decode cX3_dropOldest 28 = .ok (.iinc 2 1, 3) := by decide +kernel
theorem dX3_dropOldest_31 : decode cX3_dropOldest 31 = .ok (.goto (-22), 3) := by decide +kernel
theorem dX3_dropOldest_34 : decode cX3_dropOldest 34 = .ok (.aload_n 0, 1) := by decide +kernel
theorem dX3_dropOldest_35 : decode cX3_dropOldest 35 = .ok (.getfield 19, 3) := by decide +kernel
theorem dX3_dropOldest_38 : decode cX3_dropOldest 38 = .ok (.iconst 4, 1) := by decide +kernel
theorem dX3_dropOldest_39 : decode cX3_dropOldest 39 = .ok (.aload_n 1, 1) := by decide +kernel
theorem dX3_dropOldest_40 : decode cX3_dropOldest 40 = .ok (.aastore, 1) := by decide +kernel
theorem dX3_dropOldest_41 : decode cX3_dropOldest 41 = .ok (.aload_n 0, 1) := by decide +kernel
theorem dX3_dropOldest_42 : decode cX3_dropOldest 42 = .ok (.iconst 4, 1) := by decide +kernel
theorem dX3_dropOldest_43 : decode cX3_dropOldest 43 = .ok (.putfield 143, 3) := by decide +kernel
theorem dX3_dropOldest_46 : decode cX3_dropOldest 46 = .ok (.return_, 1) := by decide +kernel
end
section
theorem dL_cell_0 : decode cL_cell 0 = .ok (.iload_n 1, 1) := by decide +kernel
theorem dL_cell_1 : decode cL_cell 1 = .ok (.aload_n 0, 1) := by decide +kernel
theorem dL_cell_2 : decode cL_cell 2 = .ok (.arraylength, 1) := by decide +kernel
theorem dL_cell_3 : decode cL_cell 3 = .ok (.if_icmp .ge 9, 3) := by decide +kernel
theorem dL_cell_6 : decode cL_cell 6 = .ok (.aload_n 0, 1) := by decide +kernel
theorem dL_cell_7 : decode cL_cell 7 = .ok (.iload_n 1, 1) := by decide +kernel
theorem dL_cell_8 : decode cL_cell 8 = .ok (.iaload, 1) := by decide +kernel
theorem dL_cell_9 : decode cL_cell 9 = .ok (.goto 9, 3) := by decide +kernel
theorem dL_cell_12 : decode cL_cell 12 = .ok (.ldc 7, 2) := by decide +kernel
theorem dL_cell_14 : decode cL_cell 14 = .ok (.iload_n 1, 1) := by decide +kernel
theorem dL_cell_15 : decode cL_cell 15 = .ok (.iconst 3, 1) := by decide +kernel
theorem dL_cell_16 : decode cL_cell 16 = .ok (.iadd, 1) := by decide +kernel
theorem dL_cell_17 : decode cL_cell 17 = .ok (.imul, 1) := by decide +kernel
theorem dL_cell_18 : decode cL_cell 18 = .ok (.ireturn, 1) := by decide +kernel
theorem dL_low_0 : decode cL_low 0 = .ok (.iload_n 0, 1) := by decide +kernel
theorem dL_low_1 : decode cL_low 1 = .ok (.ldc 8, 2) := by decide +kernel
theorem dL_low_3 : decode cL_low 3 = .ok (.iand, 1) := by decide +kernel
theorem dL_low_4 : decode cL_low 4 = .ok (.iload_n 1, 1) := by decide +kernel
theorem dL_low_5 : decode cL_low 5 = .ok (.irem, 1) := by decide +kernel
theorem dL_low_6 : decode cL_low 6 = .ok (.ireturn, 1) := by decide +kernel
theorem dL_first_0 : decode cL_first 0 = .ok (.iconst (-1), 1) := by decide +kernel
theorem dL_first_1 : decode cL_first 1 = .ok (.istore_n 3, 1) := by decide +kernel
theorem dL_first_2 : decode cL_first 2 = .ok (.aload_n 0, 1) := by decide +kernel
theorem dL_first_3 : decode cL_first 3 = .ok (.iconst 1, 1) := by decide +kernel
theorem dL_first_4 : decode cL_first 4 = .ok (.iaload, 1) := by decide +kernel
theorem dL_first_5 : decode cL_first 5 = .ok (.iconst 1, 1) := by decide +kernel
theorem dL_first_6 : decode cL_first 6 = .ok (.isub, 1) := by decide +kernel
theorem dL_first_7 : decode cL_first 7 = .ok (.istore 4, 2) := by decide +kernel
theorem dL_first_9 : decode cL_first 9 = .ok (.iload 4, 2) := by decide +kernel
theorem dL_first_11 : decode cL_first 11 = .ok (.ifCond .lt 48, 3) := by decide +kernel
theorem dL_first_14 : decode cL_first 14 = .ok (.aload_n 1, 1) := by decide +kernel
theorem dL_first_15 : decode cL_first 15 = .ok (.iconst 3, 1) := by decide +kernel
theorem dL_first_16 : decode cL_first 16 = .ok (.iload 4, 2) := by decide +kernel
theorem dL_first_18 : decode cL_first 18 = .ok (.imul, 1) := by decide +kernel
theorem dL_first_19 : decode cL_first 19 = .ok (.iaload, 1) := by decide +kernel
theorem dL_first_20 : decode cL_first 20 = .ok (.iload_n 2, 1) := by decide +kernel
theorem dL_first_21 : decode cL_first 21 = .ok (.if_icmp .ne 30, 3) := by decide +kernel
theorem dL_first_24 : decode cL_first 24 = .ok (.iload_n 3, 1) := by decide +kernel
theorem dL_first_25 : decode cL_first 25 = .ok (.ifCond .lt 21, 3) := by decide +kernel
theorem dL_first_28 : decode cL_first 28 = .ok (.aload_n 1, 1) := by decide +kernel
theorem dL_first_29 : decode cL_first 29 = .ok (.iconst 3, 1) := by decide +kernel
theorem dL_first_30 : decode cL_first 30 = .ok (.iload 4, 2) := by decide +kernel
theorem dL_first_32 : decode cL_first 32 = .ok (.imul, 1) := by decide +kernel
theorem dL_first_33 : decode cL_first 33 = .ok (.iconst 1, 1) := by decide +kernel
theorem dL_first_34 : decode cL_first 34 = .ok (.iadd, 1) := by decide +kernel
theorem dL_first_35 : decode cL_first 35 = .ok (.iaload, 1) := by decide +kernel
theorem dL_first_36 : decode cL_first 36 = .ok (.aload_n 1, 1) := by decide +kernel
theorem dL_first_37 : decode cL_first 37 = .ok (.iconst 3, 1) := by decide +kernel
theorem dL_first_38 : decode cL_first 38 = .ok (.iload_n 3, 1) := by decide +kernel
theorem dL_first_39 : decode cL_first 39 = .ok (.imul, 1) := by decide +kernel
theorem dL_first_40 : decode cL_first 40 = .ok (.iconst 1, 1) := by decide +kernel
theorem dL_first_41 : decode cL_first 41 = .ok (.iadd, 1) := by decide +kernel
theorem dL_first_42 : decode cL_first 42 = .ok (.iaload, 1) := by decide +kernel
theorem dL_first_43 : decode cL_first 43 = .ok (.if_icmp .gt 8, 3) := by decide +kernel
theorem dL_first_46 : decode cL_first 46 = .ok (.iload 4, 2) := by decide +kernel
theorem dL_first_48 : decode cL_first 48 = .ok (.goto 4, 3) := by decide +kernel
theorem dL_first_51 : decode cL_first 51 = .ok (.iload_n 3, 1) := by decide +kernel
theorem dL_first_52 : decode cL_first 52 = .ok (.istore_n 3, 1) := by decide +kernel
theorem dL_first_53 : decode cL_first 53 = .ok (.iinc 4 (-1), 3) := by decide +kernel
theorem dL_first_56 : decode cL_first 56 = .ok (.goto (-47), 3) := by decide +kernel
theorem dL_first_59 : decode cL_first 59 = .ok (.iload_n 3, 1) := by decide +kernel
theorem dL_first_60 : decode cL_first 60 = .ok (.ireturn, 1) := by decide +kernel
set_option maxRecDepth 20000 in
theorem ggL_due_L_first : GoodIn wsL_due wsL_first := goodIn_sub (List.forall_mem_cons.mpr ⟨List.mem_of_getElem? (i := 4) rfl, wk_mn⟩) (by decide +kernel)
set_option maxRecDepth 20000 in
theorem gL_due_L_first : GoodIn wsL_due (va_wsS RL 9 yL_first wsL_first) := goodIn_app (goodIn_sub (List.forall_mem_cons.mpr ⟨List.mem_of_getElem? (i := 1) rfl, List.forall_mem_cons.mpr ⟨List.mem_of_getElem? (i := 2) rfl, List.forall_mem_cons.mpr ⟨List.mem_of_getElem? (i := 3) rfl, wk_mn⟩⟩⟩) (by decide +kernel)) ggL_due_L_first
theorem dL_due_0 : decode cL_due 0 = .ok (.aload_n 0, 1) := by decide +kernel
theorem dL_due_1 : decode cL_due 1 = .ok (.aload_n 1, 1) := by decide +kernel
theorem dL_due_2 : decode cL_due 2 = .ok (.iload_n 2, 1) := by decide +kernel
theorem dL_due_3 : decode cL_due 3 = .ok (.invokestatic 9, 3) := by decide +kernel
theorem dL_due_6 : decode cL_due 6 = .ok (.istore 4, 2) := by decide +kernel
theorem dL_due_8 : decode cL_due 8 = .ok (.iload 4, 2) := by decide +kernel
theorem dL_due_10 : decode cL_due 10 = .ok (.ifCond .lt 23, 3) := by decide +kernel
theorem dL_due_13 : decode cL_due 13 = .ok (.aload_n 1, 1) := by decide +kernel
theorem dL_due_14 : decode cL_due 14 = .ok (.iconst 3, 1) := by decide +kernel
theorem dL_due_15 : decode cL_due 15 = .ok (.iload 4, 2) := by decide +kernel
theorem dL_due_17 : decode cL_due 17 = .ok (.imul, 1) := by decide +kernel
theorem dL_due_18 : decode cL_due 18 = .ok (.iconst 1, 1) := by decide +kernel
theorem dL_due_19 : decode cL_due 19 = .ok (.iadd, 1) := by decide +kernel
theorem dL_due_20 : decode cL_due 20 = .ok (.iaload, 1) := by decide +kernel
theorem dL_due_21 : decode cL_due 21 = .ok (.iload_n 3, 1) := by decide +kernel
theorem dL_due_22 : decode cL_due 22 = .ok (.isub, 1) := by decide +kernel
theorem dL_due_23 : decode cL_due 23 = .ok (.aload_n 0, 1) := by decide +kernel
theorem dL_due_24 : decode cL_due 24 = .ok (.iconst 2, 1) := by decide +kernel
theorem dL_due_25 : decode cL_due 25 = .ok (.iaload, 1) := by decide +kernel
theorem dL_due_26 : decode cL_due 26 = .ok (.if_icmp .gt 7, 3) := by decide +kernel
theorem dL_due_29 : decode cL_due 29 = .ok (.iconst 1, 1) := by decide +kernel
theorem dL_due_30 : decode cL_due 30 = .ok (.goto 4, 3) := by decide +kernel
theorem dL_due_33 : decode cL_due 33 = .ok (.iconst 0, 1) := by decide +kernel
theorem dL_due_34 : decode cL_due 34 = .ok (.ireturn, 1) := by decide +kernel
set_option maxRecDepth 20000 in
theorem ggL_called_L_due : GoodIn wsL_called wsL_due := goodIn_sub (List.forall_mem_cons.mpr ⟨List.mem_of_getElem? (i := 4) rfl, List.forall_mem_cons.mpr ⟨List.mem_of_getElem? (i := 5) rfl, List.forall_mem_cons.mpr ⟨List.mem_of_getElem? (i := 6) rfl, List.forall_mem_cons.mpr ⟨List.mem_of_getElem? (i := 3) rfl, List.forall_mem_cons.mpr ⟨List.mem_of_getElem? (i := 7) rfl, wk_mn⟩⟩⟩⟩⟩) (by decide +kernel)
set_option maxRecDepth 20000 in
theorem gL_called_L_due : GoodIn wsL_called (va_wsS RL 15 yL_due wsL_due) := goodIn_app (goodIn_sub (List.forall_mem_cons.mpr ⟨List.mem_of_getElem? (i := 1) rfl, List.forall_mem_cons.mpr ⟨List.mem_of_getElem? (i := 2) rfl, List.forall_mem_cons.mpr ⟨List.mem_of_getElem? (i := 3) rfl, wk_mn⟩⟩⟩) (by decide +kernel)) ggL_called_L_due
theorem dL_called_0 : decode cL_called 0 = .ok (.aload_n 0, 1) := by decide +kernel
theorem dL_called_1 : decode cL_called 1 = .ok (.aload 4, 2) := by decide +kernel
theorem dL_called_3 : decode cL_called 3 = .ok (.iload 5, 2) := by decide +kernel
theorem dL_called_5 : decode cL_called 5 = .ok (.aload_n 2, 1) := by decide +kernel
theorem dL_called_6 : decode cL_called 6 = .ok (.bipush 8, 2) := by decide +kernel
theorem dL_called_8 : decode cL_called 8 = .ok (.iload 5, 2) := by decide +kernel
theorem dL_called_10 : decode cL_called 10 = .ok (.imul, 1) := by decide +kernel
theorem dL_called_11 : decode cL_called 11 = .ok (.iconst 4, 1) := by decide +kernel
theorem dL_called_12 : decode cL_called 12 = .ok (.iadd, 1) := by decide +kernel
theorem dL_called_13 : decode cL_called 13 = .ok (.iaload, 1) := by decide +kernel
theorem dL_called_14 : decode cL_called 14 = .ok (.iconst 1, 1) := by decide +kernel
theorem dL_called_15 : decode cL_called 15 = .ok (.if_icmp .ne 15, 3) := by decide +kernel
theorem dL_called_18 : decode cL_called 18 = .ok (.aload_n 1, 1) := by decide +kernel
theorem dL_called_19 : decode cL_called 19 = .ok (.bipush 8, 2) := by decide +kernel
theorem dL_called_21 : decode cL_called 21 = .ok (.iload 5, 2) := by decide +kernel
theorem dL_called_23 : decode cL_called 23 = .ok (.imul, 1) := by decide +kernel
theorem dL_called_24 : decode cL_called 24 = .ok (.iconst 2, 1) := by decide +kernel
theorem dL_called_25 : decode cL_called 25 = .ok (.iadd, 1) := by decide +kernel
theorem dL_called_26 : decode cL_called 26 = .ok (.iaload, 1) := by decide +kernel
theorem dL_called_27 : decode cL_called 27 = .ok (.goto 4, 3) := by decide +kernel
theorem dL_called_30 : decode cL_called 30 = .ok (.iconst 0, 1) := by decide +kernel
theorem dL_called_31 : decode cL_called 31 = .ok (.invokestatic 15, 3) := by decide +kernel
theorem dL_called_34 : decode cL_called 34 = .ok (.ifCond .eq 5, 3) := by decide +kernel
theorem dL_called_37 : decode cL_called 37 = .ok (.iconst 1, 1) := by decide +kernel
theorem dL_called_38 : decode cL_called 38 = .ok (.ireturn, 1) := by decide +kernel
theorem dL_called_39 : decode cL_called 39 = .ok (.aload_n 2, 1) := by decide +kernel
theorem dL_called_40 : decode cL_called 40 = .ok (.bipush 8, 2) := by decide +kernel
theorem dL_called_42 : decode cL_called 42 = .ok (.iload 5, 2) := by decide +kernel
theorem dL_called_44 : decode cL_called 44 = .ok (.imul, 1) := by decide +kernel
theorem dL_called_45 : decode cL_called 45 = .ok (.iconst 4, 1) := by decide +kernel
theorem dL_called_46 : decode cL_called 46 = .ok (.iadd, 1) := by decide +kernel
theorem dL_called_47 : decode cL_called 47 = .ok (.iaload, 1) := by decide +kernel
theorem dL_called_48 : decode cL_called 48 = .ok (.iconst 2, 1) := by decide +kernel
theorem dL_called_49 : decode cL_called 49 = .ok (.if_icmp .ne 66, 3) := by decide +kernel
theorem dL_called_52 : decode cL_called 52 = .ok (.aload_n 2, 1) := by decide +kernel
theorem dL_called_53 : decode cL_called 53 = .ok (.bipush 8, 2) := by decide +kernel
theorem dL_called_55 : decode cL_called 55 = .ok (.iload 5, 2) := by decide +kernel
theorem dL_called_57 : decode cL_called 57 = .ok (.imul, 1) := by decide +kernel
theorem dL_called_58 : decode cL_called 58 = .ok (.iconst 5, 1) := by decide +kernel
theorem dL_called_59 : decode cL_called 59 = .ok (.iadd, 1) := by decide +kernel
theorem dL_called_60 : decode cL_called 60 = .ok (.iaload, 1) := by decide +kernel
theorem dL_called_61 : decode cL_called 61 = .ok (.iconst 1, 1) := by decide +kernel
theorem dL_called_62 : decode cL_called 62 = .ok (.if_icmp .le 53, 3) := by decide +kernel
theorem dL_called_65 : decode cL_called 65 = .ok (.aload_n 2, 1) := by decide +kernel
theorem dL_called_66 : decode cL_called 66 = .ok (.bipush 8, 2) := by decide +kernel
theorem dL_called_68 : decode cL_called 68 = .ok (.iload 5, 2) := by decide +kernel
theorem dL_called_70 : decode cL_called 70 = .ok (.imul, 1) := by decide +kernel
theorem dL_called_71 : decode cL_called 71 = .ok (.iaload, 1) := by decide +kernel
theorem dL_called_72 : decode cL_called 72 = .ok (.iconst 3, 1) := by decide +kernel
theorem dL_called_73 : decode cL_called 73 = .ok (.if_icmp .eq 42, 3) := by decide +kernel
theorem dL_called_76 : decode cL_called 76 = .ok (.aload_n 0, 1) := by decide +kernel
theorem dL_called_77 : decode cL_called 77 = .ok (.iconst 2, 1) := by decide +kernel
theorem dL_called_78 : decode cL_called 78 = .ok (.iaload, 1) := by decide +kernel
theorem dL_called_79 : decode cL_called 79 = .ok (.aload_n 3, 1) := by decide +kernel
theorem dL_called_80 : decode cL_called 80 = .ok (.bipush 32, 2) := by decide +kernel
theorem dL_called_82 : decode cL_called 82 = .ok (.iconst 2, 1) := by decide +kernel
theorem dL_called_83 : decode cL_called 83 = .ok (.iload 5, 2) := by decide +kernel
theorem dL_called_85 : decode cL_called 85 = .ok (.imul, 1) := by decide +kernel
theorem dL_called_86 : decode cL_called 86 = .ok (.iadd, 1) := by decide +kernel
theorem dL_called_87 : decode cL_called 87 = .ok (.iaload, 1) := by decide +kernel
theorem dL_called_88 : decode cL_called 88 = .ok (.aload_n 3, 1) := by decide +kernel
theorem dL_called_89 : decode cL_called 89 = .ok (.bipush 33, 2) := by decide +kernel
theorem dL_called_91 : decode cL_called 91 = .ok (.iconst 2, 1) := by decide +kernel
theorem dL_called_92 : decode cL_called 92 = .ok (.iload 5, 2) := by decide +kernel
theorem dL_called_94 : decode cL_called 94 = .ok (.imul, 1) := by decide +kernel
theorem dL_called_95 : decode cL_called 95 = .ok (.iadd, 1) := by decide +kernel
theorem dL_called_96 : decode cL_called 96 = .ok (.iaload, 1) := by decide +kernel
theorem dL_called_97 : decode cL_called 97 = .ok (.iadd, 1) := by decide +kernel
theorem dL_called_98 : decode cL_called 98 = .ok (.aload_n 1, 1) := by decide +kernel
theorem dL_called_99 : decode cL_called 99 = .ok (.bipush 8, 2) := by decide +kernel
theorem dL_called_101 : decode cL_called 101 = .ok (.iload 5, 2) := by decide +kernel
theorem dL_called_103 : decode cL_called 103 = .ok (.imul, 1) := by decide +kernel
theorem dL_called_104 : decode cL_called 104 = .ok (.iconst 2, 1) := by decide +kernel
theorem dL_called_105 : decode cL_called 105 = .ok (.iadd, 1) := by decide +kernel
theorem dL_called_106 : decode cL_called 106 = .ok (.iaload, 1) := by decide +kernel
theorem dL_called_107 : decode cL_called 107 = .ok (.isub, 1) := by decide +kernel
theorem dL_called_108 : decode cL_called 108 = .ok (.if_icmp .ne 7, 3) := by decide +kernel
theorem dL_called_111 : decode cL_called 111 = .ok (.iconst 1, 1) := by decide +kernel
theorem dL_called_112 : decode cL_called 112 = .ok (.goto 4, 3) := by decide +kernel
theorem dL_called_115 : decode cL_called 115 = .ok (.iconst 0, 1) := by decide +kernel
theorem dL_called_116 : decode cL_called 116 = .ok (.ireturn, 1) := by decide +kernel
theorem dL_ready_0 : decode cL_ready 0 = .ok (.aload_n 0, 1) := by decide +kernel
theorem dL_ready_1 : decode cL_ready 1 = .ok (.bipush 8, 2) := by decide +kernel
theorem dL_ready_3 : decode cL_ready 3 = .ok (.iload_n 2, 1) := by decide +kernel
theorem dL_ready_4 : decode cL_ready 4 = .ok (.imul, 1) := by decide +kernel
theorem dL_ready_5 : decode cL_ready 5 = .ok (.bipush 6, 2) := by decide +kernel
theorem dL_ready_7 : decode cL_ready 7 = .ok (.iadd, 1) := by decide +kernel
theorem dL_ready_8 : decode cL_ready 8 = .ok (.iaload, 1) := by decide +kernel
theorem dL_ready_9 : decode cL_ready 9 = .ok (.ifCond .lt 21, 3) := by decide +kernel
theorem dL_ready_12 : decode cL_ready 12 = .ok (.aload_n 1, 1) := by decide +kernel
theorem dL_ready_13 : decode cL_ready 13 = .ok (.bipush 8, 2) := by decide +kernel
theorem dL_ready_15 : decode cL_ready 15 = .ok (.aload_n 0, 1) := by decide +kernel
theorem dL_ready_16 : decode cL_ready 16 = .ok (.bipush 8, 2) := by decide +kernel
theorem dL_ready_18 : decode cL_ready 18 = .ok (.iload_n 2, 1) := by decide +kernel
theorem dL_ready_19 : decode cL_ready 19 = .ok (.imul, 1) := by decide +kernel
theorem dL_ready_20 : decode cL_ready 20 = .ok (.bipush 6, 2) := by decide +kernel
theorem dL_ready_22 : decode cL_ready 22 = .ok (.iadd, 1) := by decide +kernel
theorem dL_ready_23 : decode cL_ready 23 = .ok (.iaload, 1) := by decide +kernel
theorem dL_ready_24 : decode cL_ready 24 = .ok (.imul, 1) := by decide +kernel
theorem dL_ready_25 : decode cL_ready 25 = .ok (.iaload, 1) := by decide +kernel
theorem dL_ready_26 : decode cL_ready 26 = .ok (.iconst 1, 1) := by decide +kernel
theorem dL_ready_27 : decode cL_ready 27 = .ok (.if_icmp .le 7, 3) := by decide +kernel
theorem dL_ready_30 : decode cL_ready 30 = .ok (.iconst 1, 1) := by decide +kernel
theorem dL_ready_31 : decode cL_ready 31 = .ok (.goto 4, 3) := by decide +kernel
theorem dL_ready_34 : decode cL_ready 34 = .ok (.iconst 0, 1) := by decide +kernel
theorem dL_ready_35 : decode cL_ready 35 = .ok (.ireturn, 1) := by decide +kernel
set_option maxRecDepth 20000 in
theorem ggL_can_L_ready : GoodIn wsL_can wsL_ready := goodIn_sub (List.forall_mem_cons.mpr ⟨List.mem_of_getElem? (i := 4) rfl, wk_mn⟩) (by decide +kernel)
set_option maxRecDepth 20000 in
theorem gL_can_L_ready : GoodIn wsL_can (va_wsS RL 19 yL_ready wsL_ready) := goodIn_app (goodIn_sub (List.forall_mem_cons.mpr ⟨List.mem_of_getElem? (i := 1) rfl, List.forall_mem_cons.mpr ⟨List.mem_of_getElem? (i := 2) rfl, List.forall_mem_cons.mpr ⟨List.mem_of_getElem? (i := 3) rfl, wk_mn⟩⟩⟩) (by decide +kernel)) ggL_can_L_ready
theorem dL_can_0 : decode cL_can 0 = .ok (.iconst 0, 1) := by decide +kernel
theorem dL_can_1 : decode cL_can 1 = .ok (.istore 4, 2) := by decide +kernel
theorem dL_can_3 : decode cL_can 3 = .ok (.aload_n 1, 1) := by decide +kernel
theorem dL_can_4 : decode cL_can 4 = .ok (.bipush 8, 2) := by decide +kernel
theorem dL_can_6 : decode cL_can 6 = .ok (.iload_n 3, 1) := by decide +kernel
theorem dL_can_7 : decode cL_can 7 = .ok (.imul, 1) := by decide +kernel
theorem dL_can_8 : decode cL_can 8 = .ok (.bipush 7, 2) := by decide +kernel
theorem dL_can_10 : decode cL_can 10 = .ok (.iadd, 1) := by decide +kernel
theorem dL_can_11 : decode cL_can 11 = .ok (.iaload, 1) := by decide +kernel
theorem dL_can_12 : decode cL_can 12 = .ok (.istore 5, 2) := by decide +kernel
theorem dL_can_14 : decode cL_can 14 = .ok (.iconst 0, 1) := by decide +kernel
theorem dL_can_15 : decode cL_can 15 = .ok (.istore 6, 2) := by decide +kernel
theorem dL_can_17 : decode cL_can 17 = .ok (.iload 6, 2) := by decide +kernel
theorem dL_can_19 : decode cL_can 19 = .ok (.aload_n 0, 1) := by decide +kernel
theorem dL_can_20 : decode cL_can 20 = .ok (.iconst 0, 1) := by decide +kernel
theorem dL_can_21 : decode cL_can 21 = .ok (.iaload, 1) := by decide +kernel
theorem dL_can_22 : decode cL_can 22 = .ok (.if_icmp .ge 45, 3) := by decide +kernel
theorem dL_can_25 : decode cL_can 25 = .ok (.iload 4, 2) := by decide +kernel
theorem dL_can_27 : decode cL_can 27 = .ok (.aload_n 1, 1) := by decide +kernel
theorem dL_can_28 : decode cL_can 28 = .ok (.bipush 8, 2) := by decide +kernel
theorem dL_can_30 : decode cL_can 30 = .ok (.iload 6, 2) := by decide +kernel
theorem dL_can_32 : decode cL_can 32 = .ok (.imul, 1) := by decide +kernel
theorem dL_can_33 : decode cL_can 33 = .ok (.bipush 7, 2) := by decide +kernel
theorem dL_can_35 : decode cL_can 35 = .ok (.iadd, 1) := by decide +kernel
theorem dL_can_36 : decode cL_can 36 = .ok (.iaload, 1) := by decide +kernel
theorem dL_can_37 : decode cL_can 37 = .ok (.iload 5, 2) := by decide +kernel
theorem dL_can_39 : decode cL_can 39 = .ok (.if_icmp .ne 18, 3) := by decide +kernel
theorem dL_can_42 : decode cL_can 42 = .ok (.aload_n 2, 1) := by decide +kernel
theorem dL_can_43 : decode cL_can 43 = .ok (.bipush 8, 2) := by decide +kernel
theorem dL_can_45 : decode cL_can 45 = .ok (.iload 6, 2) := by decide +kernel
theorem dL_can_47 : decode cL_can 47 = .ok (.imul, 1) := by decide +kernel
theorem dL_can_48 : decode cL_can 48 = .ok (.iaload, 1) := by decide +kernel
theorem dL_can_49 : decode cL_can 49 = .ok (.iconst 1, 1) := by decide +kernel
theorem dL_can_50 : decode cL_can 50 = .ok (.if_icmp .ne 7, 3) := by decide +kernel
theorem dL_can_53 : decode cL_can 53 = .ok (.iconst 1, 1) := by decide +kernel
theorem dL_can_54 : decode cL_can 54 = .ok (.goto 4, 3) := by decide +kernel
theorem dL_can_57 : decode cL_can 57 = .ok (.iconst 0, 1) := by decide +kernel
theorem dL_can_58 : decode cL_can 58 = .ok (.iadd, 1) := by decide +kernel
theorem dL_can_59 : decode cL_can 59 = .ok (.istore 4, 2) := by decide +kernel
theorem dL_can_61 : decode cL_can 61 = .ok (.iinc 6 1, 3) := by decide +kernel
theorem dL_can_64 : decode cL_can 64 = .ok (.goto (-47), 3) := by decide +kernel
theorem dL_can_67 : decode cL_can 67 = .ok (.aload_n 2, 1) := by decide +kernel
theorem dL_can_68 : decode cL_can 68 = .ok (.bipush 8, 2) := by decide +kernel
theorem dL_can_70 : decode cL_can 70 = .ok (.iload_n 3, 1) := by decide +kernel
theorem dL_can_71 : decode cL_can 71 = .ok (.imul, 1) := by decide +kernel
theorem dL_can_72 : decode cL_can 72 = .ok (.iaload, 1) := by decide +kernel
theorem dL_can_73 : decode cL_can 73 = .ok (.ifCond .ne 32, 3) := by decide +kernel
theorem dL_can_76 : decode cL_can 76 = .ok (.aload_n 1, 1) := by decide +kernel
theorem dL_can_77 : decode cL_can 77 = .ok (.aload_n 2, 1) := by decide +kernel
theorem dL_can_78 : decode cL_can 78 = .ok (.iload_n 3, 1) := by decide +kernel
theorem dL_can_79 : decode cL_can 79 = .ok (.invokestatic 19, 3) := by decide +kernel
theorem dL_can_82 : decode cL_can 82 = .ok (.ifCond .eq 23, 3) := by decide +kernel
theorem dL_can_85 : decode cL_can 85 = .ok (.iload 5, 2) := by decide +kernel
theorem dL_can_87 : decode cL_can 87 = .ok (.ifCond .lt 18, 3) := by decide +kernel
theorem dL_can_90 : decode cL_can 90 = .ok (.iload 4, 2) := by decide +kernel
theorem dL_can_92 : decode cL_can 92 = .ok (.aload_n 0, 1) := by decide +kernel
theorem dL_can_93 : decode cL_can 93 = .ok (.iconst 3, 1) := by decide +kernel
theorem dL_can_94 : decode cL_can 94 = .ok (.iload 5, 2) := by decide +kernel
theorem dL_can_96 : decode cL_can 96 = .ok (.iadd, 1) := by decide +kernel
theorem dL_can_97 : decode cL_can 97 = .ok (.iaload, 1) := by decide +kernel
theorem dL_can_98 : decode cL_can 98 = .ok (.if_icmp .ge 7, 3) := by decide +kernel
theorem dL_can_101 : decode cL_can 101 = .ok (.iconst 1, 1) := by decide +kernel
theorem dL_can_102 : decode cL_can 102 = .ok (.goto 4, 3) := by decide +kernel
theorem dL_can_105 : decode cL_can 105 = .ok (.iconst 0, 1) := by decide +kernel
theorem dL_can_106 : decode cL_can 106 = .ok (.ireturn, 1) := by decide +kernel
theorem dL_wake_0 : decode cL_wake 0 = .ok (.aload_n 1, 1) := by decide +kernel
theorem dL_wake_1 : decode cL_wake 1 = .ok (.bipush 8, 2) := by decide +kernel
theorem dL_wake_3 : decode cL_wake 3 = .ok (.iload_n 3, 1) := by decide +kernel
theorem dL_wake_4 : decode cL_wake 4 = .ok (.imul, 1) := by decide +kernel
theorem dL_wake_5 : decode cL_wake 5 = .ok (.iconst 1, 1) := by decide +kernel
theorem dL_wake_6 : decode cL_wake 6 = .ok (.iastore, 1) := by decide +kernel
theorem dL_wake_7 : decode cL_wake 7 = .ok (.aload_n 1, 1) := by decide +kernel
theorem dL_wake_8 : decode cL_wake 8 = .ok (.bipush 8, 2) := by decide +kernel
theorem dL_wake_10 : decode cL_wake 10 = .ok (.iload_n 3, 1) := by decide +kernel
theorem dL_wake_11 : decode cL_wake 11 = .ok (.imul, 1) := by decide +kernel
theorem dL_wake_12 : decode cL_wake 12 = .ok (.iconst 1, 1) := by decide +kernel
theorem dL_wake_13 : decode cL_wake 13 = .ok (.iadd, 1) := by decide +kernel
theorem dL_wake_14 : decode cL_wake 14 = .ok (.aload_n 0, 1) := by decide +kernel
theorem dL_wake_15 : decode cL_wake 15 = .ok (.bipush 8, 2) := by decide +kernel
theorem dL_wake_17 : decode cL_wake 17 = .ok (.iload_n 3, 1) := by decide +kernel
theorem dL_wake_18 : decode cL_wake 18 = .ok (.imul, 1) := by decide +kernel
theorem dL_wake_19 : decode cL_wake 19 = .ok (.iconst 2, 1) := by decide +kernel
theorem dL_wake_20 : decode cL_wake 20 = .ok (.iadd, 1) := by decide +kernel
theorem dL_wake_21 : decode cL_wake 21 = .ok (.iaload, 1) := by decide +kernel
theorem dL_wake_22 : decode cL_wake 22 = .ok (.iastore, 1) := by decide +kernel
theorem dL_wake_23 : decode cL_wake 23 = .ok (.aload_n 1, 1) := by decide +kernel
theorem dL_wake_24 : decode cL_wake 24 = .ok (.bipush 8, 2) := by decide +kernel
theorem dL_wake_26 : decode cL_wake 26 = .ok (.iload_n 3, 1) := by decide +kernel
theorem dL_wake_27 : decode cL_wake 27 = .ok (.imul, 1) := by decide +kernel
theorem dL_wake_28 : decode cL_wake 28 = .ok (.bipush 7, 2) := by decide +kernel
theorem dL_wake_30 : decode cL_wake 30 = .ok (.iadd, 1) := by decide +kernel
theorem dL_wake_31 : decode cL_wake 31 = .ok (.dup2, 1) := by decide +kernel
theorem dL_wake_32 : decode cL_wake 32 = .ok (.iaload, 1) := by decide +kernel
theorem dL_wake_33 : decode cL_wake 33 = .ok (.iconst 1, 1) := by decide +kernel
theorem dL_wake_34 : decode cL_wake 34 = .ok (.iadd, 1) := by decide +kernel
theorem dL_wake_35 : decode cL_wake 35 = .ok (.iastore, 1) := by decide +kernel
theorem dL_wake_36 : decode cL_wake 36 = .ok (.aload_n 2, 1) := by decide +kernel
theorem dL_wake_37 : decode cL_wake 37 = .ok (.iconst 4, 1) := by decide +kernel
theorem dL_wake_38 : decode cL_wake 38 = .ok (.iload_n 3, 1) := by decide +kernel
theorem dL_wake_39 : decode cL_wake 39 = .ok (.imul, 1) := by decide +kernel
theorem dL_wake_40 : decode cL_wake 40 = .ok (.dup2, 1) := by decide +kernel
theorem dL_wake_41 : decode cL_wake 41 = .ok (.iaload, 1) := by decide +kernel
theorem dL_wake_42 : decode cL_wake 42 = .ok (.aload_n 0, 1) := by decide +kernel
theorem dL_wake_43 : decode cL_wake 43 = .ok (.bipush 8, 2) := by decide +kernel
theorem dL_wake_45 : decode cL_wake 45 = .ok (.iload_n 3, 1) := by decide +kernel
theorem dL_wake_46 : decode cL_wake 46 = .ok (.imul, 1) := by decide +kernel
theorem dL_wake_47 : decode cL_wake 47 = .ok (.iconst 1, 1) := by decide +kernel
theorem dL_wake_48 : decode cL_wake 48 = .ok (.iadd, 1) := by decide +kernel
theorem dL_wake_49 : decode cL_wake 49 = .ok (.iaload, 1) := by decide +kernel
theorem dL_wake_50 : decode cL_wake 50 = .ok (.iadd, 1) := by decide +kernel
theorem dL_wake_51 : decode cL_wake 51 = .ok (.iastore, 1) := by decide +kernel
theorem dL_wake_52 : decode cL_wake 52 = .ok (.return_, 1) := by decide +kernel
theorem dL_drop_0 : decode cL_drop 0 = .ok (.aload_n 0, 1) := by decide +kernel
theorem dL_drop_1 : decode cL_drop 1 = .ok (.iconst 1, 1) := by decide +kernel
theorem dL_drop_2 : decode cL_drop 2 = .ok (.dup2, 1) := by decide +kernel
theorem dL_drop_3 : decode cL_drop 3 = .ok (.iaload, 1) := by decide +kernel
theorem dL_drop_4 : decode cL_drop 4 = .ok (.iconst 1, 1) := by decide +kernel
theorem dL_drop_5 : decode cL_drop 5 = .ok (.isub, 1) := by decide +kernel
theorem dL_drop_6 : decode cL_drop 6 = .ok (.iastore, 1) := by decide +kernel
theorem dL_drop_7 : decode cL_drop 7 = .ok (.iconst 3, 1) := by decide +kernel
theorem dL_drop_8 : decode cL_drop 8 = .ok (.iload_n 2, 1) := by decide +kernel
theorem dL_drop_9 : decode cL_drop 9 = .ok (.imul, 1) := by decide +kernel
theorem dL_drop_10 : decode cL_drop 10 = .ok (.istore_n 3, 1) := by decide +kernel
theorem dL_drop_11 : decode cL_drop 11 = .ok (.iload_n 3, 1) := by decide +kernel
theorem dL_drop_12 : decode cL_drop 12 = .ok (.iconst 3, 1) := by decide +kernel
theorem dL_drop_13 : decode cL_drop 13 = .ok (.aload_n 0, 1) := by decide +kernel
theorem dL_drop_14 : decode cL_drop 14 = .ok (.iconst 1, 1) := by decide +kernel
theorem dL_drop_15 : decode cL_drop 15 = .ok (.iaload, 1) := by decide +kernel
theorem dL_drop_16 : decode cL_drop 16 = .ok (.imul, 1) := by decide +kernel
theorem dL_drop_17 : decode cL_drop 17 = .ok (.if_icmp .ge 17, 3) := by decide +kernel
theorem dL_drop_20 : decode cL_drop 20 = .ok (.aload_n 1, 1) := by decide +kernel
theorem dL_drop_21 : decode cL_drop 21 = .ok (.iload_n 3, 1) := by decide +kernel
theorem dL_drop_22 : decode cL_drop 22 = .ok (.aload_n 1, 1) := by decide +kernel
theorem dL_drop_23 : decode cL_drop 23 = .ok (.iload_n 3, 1) := by decide +kernel
theorem dL_drop_24 : decode cL_drop 24 = .ok (.iconst 3, 1) := by decide +kernel
theorem dL_drop_25 : decode cL_drop 25 = .ok (.iadd, 1) := by decide +kernel
theorem dL_drop_26 : decode cL_drop 26 = .ok (.iaload, 1) := by decide +kernel
theorem dL_drop_27 : decode cL_drop 27 = .ok (.iastore, 1) := by decide +kernel
theorem dL_drop_28 : decode cL_drop 28 = .ok (.iinc 3 1, 3) := by decide +kernel
theorem dL_drop_31 : decode cL_drop 31 = .ok (.goto (-20), 3) := by decide +kernel
theorem dL_drop_34 : decode cL_drop 34 = .ok (.return_, 1) := by decide +kernel
theorem dL_needed_0 : decode cL_needed 0 = .ok (.iconst 0, 1) := by decide +kernel
theorem dL_needed_1 : decode cL_needed 1 = .ok (.istore 4, 2) := by decide +kernel
theorem dL_needed_3 : decode cL_needed 3 = .ok (.iload_n 3, 1) := by decide +kernel
theorem dL_needed_4 : decode cL_needed 4 = .ok (.iconst 1, 1) := by decide +kernel
theorem dL_needed_5 : decode cL_needed 5 = .ok (.iadd, 1) := by decide +kernel
theorem dL_needed_6 : decode cL_needed 6 = .ok (.istore 5, 2) := by decide +kernel
theorem dL_needed_8 : decode cL_needed 8 = .ok (.iload 5, 2) := by decide +kernel
theorem dL_needed_10 : decode cL_needed 10 = .ok (.aload_n 0, 1) := by decide +kernel
theorem dL_needed_11 : decode cL_needed 11 = .ok (.iconst 0, 1) := by decide +kernel
theorem dL_needed_12 : decode cL_needed 12 = .ok (.iaload, 1) := by decide +kernel
theorem dL_needed_13 : decode cL_needed 13 = .ok (.if_icmp .ge 45, 3) := by decide +kernel
theorem dL_needed_16 : decode cL_needed 16 = .ok (.iload 4, 2) := by decide +kernel
theorem dL_needed_18 : decode cL_needed 18 = .ok (.ifCond .ne 27, 3) := by decide +kernel
theorem dL_needed_21 : decode cL_needed 21 = .ok (.aload_n 1, 1) := by decide +kernel
theorem dL_needed_22 : decode cL_needed 22 = .ok (.bipush 8, 2) := by decide +kernel
theorem dL_needed_24 : decode cL_needed 24 = .ok (.iload 5, 2) := by decide +kernel
theorem dL_needed_26 : decode cL_needed 26 = .ok (.imul, 1) := by decide +kernel
theorem dL_needed_27 : decode cL_needed 27 = .ok (.bipush 6, 2) := by decide +kernel
theorem dL_needed_29 : decode cL_needed 29 = .ok (.iadd, 1) := by decide +kernel
theorem dL_needed_30 : decode cL_needed 30 = .ok (.iaload, 1) := by decide +kernel
theorem dL_needed_31 : decode cL_needed 31 = .ok (.iload_n 3, 1) := by decide +kernel
theorem dL_needed_32 : decode cL_needed 32 = .ok (.if_icmp .ne 17, 3) := by decide +kernel
theorem dL_needed_35 : decode cL_needed 35 = .ok (.aload_n 2, 1) := by decide +kernel
theorem dL_needed_36 : decode cL_needed 36 = .ok (.bipush 8, 2) := by decide +kernel
theorem dL_needed_38 : decode cL_needed 38 = .ok (.iload 5, 2) := by decide +kernel
theorem dL_needed_40 : decode cL_needed 40 = .ok (.imul, 1) := by decide +kernel
theorem dL_needed_41 : decode cL_needed 41 = .ok (.iaload, 1) := by decide +kernel
theorem dL_needed_42 : decode cL_needed 42 = .ok (.ifCond .le 7, 3) := by decide +kernel
theorem dL_needed_45 : decode cL_needed 45 = .ok (.iconst 1, 1) := by decide +kernel
theorem dL_needed_46 : decode cL_needed 46 = .ok (.goto 4, 3) := by decide +kernel
theorem dL_needed_49 : decode cL_needed 49 = .ok (.iconst 0, 1) := by decide +kernel
theorem dL_needed_50 : decode cL_needed 50 = .ok (.istore 4, 2) := by decide +kernel
theorem dL_needed_52 : decode cL_needed 52 = .ok (.iinc 5 1, 3) := by decide +kernel
theorem dL_needed_55 : decode cL_needed 55 = .ok (.goto (-47), 3) := by decide +kernel
theorem dL_needed_58 : decode cL_needed 58 = .ok (.iload 4, 2) := by decide +kernel
theorem dL_needed_60 : decode cL_needed 60 = .ok (.ireturn, 1) := by decide +kernel
set_option maxRecDepth 20000 in
theorem ggL_tick_L_called : GoodIn wsL_tick wsL_called := goodIn_sub (List.forall_mem_cons.mpr ⟨List.mem_of_getElem? (i := 5) rfl, List.forall_mem_cons.mpr ⟨List.mem_of_getElem? (i := 6) rfl, List.forall_mem_cons.mpr ⟨List.mem_of_getElem? (i := 7) rfl, List.forall_mem_cons.mpr ⟨List.mem_of_getElem? (i := 4) rfl, List.forall_mem_cons.mpr ⟨List.mem_of_getElem? (i := 8) rfl, List.forall_mem_cons.mpr ⟨List.mem_of_getElem? (i := 9) rfl, List.forall_mem_cons.mpr ⟨List.mem_of_getElem? (i := 10) rfl, List.forall_mem_cons.mpr ⟨List.mem_of_getElem? (i := 11) rfl, wk_mn⟩⟩⟩⟩⟩⟩⟩⟩) (by decide +kernel)
set_option maxRecDepth 20000 in
theorem gL_tick_L_called : GoodIn wsL_tick (va_wsS RL 23 yL_called wsL_called) := goodIn_app (goodIn_sub (List.forall_mem_cons.mpr ⟨List.mem_of_getElem? (i := 2) rfl, List.forall_mem_cons.mpr ⟨List.mem_of_getElem? (i := 3) rfl, List.forall_mem_cons.mpr ⟨List.mem_of_getElem? (i := 4) rfl, wk_mn⟩⟩⟩) (by decide +kernel)) ggL_tick_L_called
set_option maxRecDepth 20000 in
theorem ggL_tick_L_can : GoodIn wsL_tick wsL_can := goodIn_sub (List.forall_mem_cons.mpr ⟨List.mem_of_getElem? (i := 14) rfl, List.forall_mem_cons.mpr ⟨List.mem_of_getElem? (i := 15) rfl, List.forall_mem_cons.mpr ⟨List.mem_of_getElem? (i := 16) rfl, List.forall_mem_cons.mpr ⟨List.mem_of_getElem? (i := 4) rfl, List.forall_mem_cons.mpr ⟨List.mem_of_getElem? (i := 17) rfl, wk_mn⟩⟩⟩⟩⟩) (by decide +kernel)
set_option maxRecDepth 20000 in
theorem gL_tick_L_can : GoodIn wsL_tick (va_wsS RL 27 yL_can wsL_can) := goodIn_app (goodIn_sub (List.forall_mem_cons.mpr ⟨List.mem_of_getElem? (i := 12) rfl, List.forall_mem_cons.mpr ⟨List.mem_of_getElem? (i := 13) rfl, List.forall_mem_cons.mpr ⟨List.mem_of_getElem? (i := 4) rfl, wk_mn⟩⟩⟩) (by decide +kernel)) ggL_tick_L_can
set_option maxRecDepth 20000 in
theorem ggL_tick_L_wake : GoodIn wsL_tick wsL_wake := goodIn_sub (List.forall_mem_cons.mpr ⟨List.mem_of_getElem? (i := 20) rfl, wk_mn⟩) (by decide +kernel)
set_option maxRecDepth 20000 in
theorem gL_tick_L_wake : GoodIn wsL_tick (va_wsS RL 31 yL_wake wsL_wake) := goodIn_app (goodIn_sub (List.forall_mem_cons.mpr ⟨List.mem_of_getElem? (i := 18) rfl, List.forall_mem_cons.mpr ⟨List.mem_of_getElem? (i := 19) rfl, List.forall_mem_cons.mpr ⟨List.mem_of_getElem? (i := 4) rfl, wk_mn⟩⟩⟩) (by decide +kernel)) ggL_tick_L_wake
set_option maxRecDepth 20000 in
theorem ggL_tick_L_ready : GoodIn wsL_tick wsL_ready := goodIn_sub (List.forall_mem_cons.mpr ⟨List.mem_of_getElem? (i := 17) rfl, wk_mn⟩) (by decide +kernel)
set_option maxRecDepth 20000 in
theorem gL_tick_L_ready : GoodIn wsL_tick (va_wsS RL 19 yL_ready wsL_ready) := goodIn_app (goodIn_sub (List.forall_mem_cons.mpr ⟨List.mem_of_getElem? (i := 15) rfl, List.forall_mem_cons.mpr ⟨List.mem_of_getElem? (i := 16) rfl, List.forall_mem_cons.mpr ⟨List.mem_of_getElem? (i := 4) rfl, wk_mn⟩⟩⟩) (by decide +kernel)) ggL_tick_L_ready
set_option maxRecDepth 20000 in
theorem ggL_tick_L_due : GoodIn wsL_tick wsL_due := goodIn_sub (List.forall_mem_cons.mpr ⟨List.mem_of_getElem? (i := 8) rfl, List.forall_mem_cons.mpr ⟨List.mem_of_getElem? (i := 9) rfl, List.forall_mem_cons.mpr ⟨List.mem_of_getElem? (i := 10) rfl, List.forall_mem_cons.mpr ⟨List.mem_of_getElem? (i := 4) rfl, List.forall_mem_cons.mpr ⟨List.mem_of_getElem? (i := 11) rfl, wk_mn⟩⟩⟩⟩⟩) (by decide +kernel)
set_option maxRecDepth 20000 in
theorem gL_tick_L_due : GoodIn wsL_tick (va_wsS RL 15 yL_due wsL_due) := goodIn_app (goodIn_sub (List.forall_mem_cons.mpr ⟨List.mem_of_getElem? (i := 6) rfl, List.forall_mem_cons.mpr ⟨List.mem_of_getElem? (i := 7) rfl, List.forall_mem_cons.mpr ⟨List.mem_of_getElem? (i := 4) rfl, wk_mn⟩⟩⟩) (by decide +kernel)) ggL_tick_L_due
set_option maxRecDepth 20000 in
theorem ggL_tick_L_first : GoodIn wsL_tick wsL_first := goodIn_sub (List.forall_mem_cons.mpr ⟨List.mem_of_getElem? (i := 11) rfl, wk_mn⟩) (by decide +kernel)
set_option maxRecDepth 20000 in
theorem gL_tick_L_first : GoodIn wsL_tick (va_wsS RL 9 yL_first wsL_first) := goodIn_app (goodIn_sub (List.forall_mem_cons.mpr ⟨List.mem_of_getElem? (i := 9) rfl, List.forall_mem_cons.mpr ⟨List.mem_of_getElem? (i := 10) rfl, List.forall_mem_cons.mpr ⟨List.mem_of_getElem? (i := 4) rfl, wk_mn⟩⟩⟩) (by decide +kernel)) ggL_tick_L_first
set_option maxRecDepth 20000 in
theorem ggL_tick_L_drop : GoodIn wsL_tick wsL_drop := goodIn_sub (List.forall_mem_cons.mpr ⟨List.mem_of_getElem? (i := 23) rfl, wk_mn⟩) (by decide +kernel)
set_option maxRecDepth 20000 in
theorem gL_tick_L_drop : GoodIn wsL_tick (va_wsS RL 37 yL_drop wsL_drop) := goodIn_app (goodIn_sub (List.forall_mem_cons.mpr ⟨List.mem_of_getElem? (i := 21) rfl, List.forall_mem_cons.mpr ⟨List.mem_of_getElem? (i := 22) rfl, List.forall_mem_cons.mpr ⟨List.mem_of_getElem? (i := 4) rfl, wk_mn⟩⟩⟩) (by decide +kernel)) ggL_tick_L_drop
set_option maxRecDepth 20000 in
theorem ggL_tick_L_needed : GoodIn wsL_tick wsL_needed := goodIn_sub (List.forall_mem_cons.mpr ⟨List.mem_of_getElem? (i := 26) rfl, wk_mn⟩) (by decide +kernel)
set_option maxRecDepth 20000 in
theorem gL_tick_L_needed : GoodIn wsL_tick (va_wsS RL 41 yL_needed wsL_needed) := goodIn_app (goodIn_sub (List.forall_mem_cons.mpr ⟨List.mem_of_getElem? (i := 24) rfl, List.forall_mem_cons.mpr ⟨List.mem_of_getElem? (i := 25) rfl, List.forall_mem_cons.mpr ⟨List.mem_of_getElem? (i := 4) rfl, wk_mn⟩⟩⟩) (by decide +kernel)) ggL_tick_L_needed
theorem dL_tick_0 : decode cL_tick 0 = .ok (.lconst 0, 1) := by decide +kernel
theorem dL_tick_1 : decode cL_tick 1 = .ok (.lstore 5, 2) := by decide +kernel
theorem dL_tick_3 : decode cL_tick 3 = .ok (.iconst 0, 1) := by decide +kernel
theorem dL_tick_4 : decode cL_tick 4 = .ok (.istore 7, 2) := by decide +kernel
theorem dL_tick_6 : decode cL_tick 6 = .ok (.iload 7, 2) := by decide +kernel
theorem dL_tick_8 : decode cL_tick 8 = .ok (.aload_n 0, 1) := by decide +kernel
theorem dL_tick_9 : decode cL_tick 9 = .ok (.iconst 0, 1) := by decide +kernel
theorem dL_tick_10 : decode cL_tick 10 = .ok (.iaload, 1) := by decide +kernel
theorem dL_tick_11 : decode cL_tick 11 = .ok (.if_icmp .ge 258, 3) := by decide +kernel
theorem dL_tick_14 : decode cL_tick 14 = .ok (.iload 7, 2) := by decide +kernel
theorem dL_tick_16 : decode cL_tick 16 = .ok (.istore 8, 2) := by decide +kernel
theorem dL_tick_18 : decode cL_tick 18 = .ok (.aload_n 0, 1) := by decide +kernel
theorem dL_tick_19 : decode cL_tick 19 = .ok (.aload_n 1, 1) := by decide +kernel
theorem dL_tick_20 : decode cL_tick 20 = .ok (.aload_n 2, 1) := by decide +kernel
theorem dL_tick_21 : decode cL_tick 21 = .ok (.aload_n 3, 1) := by decide +kernel
theorem dL_tick_22 : decode cL_tick 22 = .ok (.aload 4, 2) := by decide +kernel
theorem dL_tick_24 : decode cL_tick 24 = .ok (.iload 7, 2) := by decide +kernel
theorem dL_tick_26 : decode cL_tick 26 = .ok (.invokestatic 23, 3) := by decide +kernel
theorem dL_tick_29 : decode cL_tick 29 = .ok (.ifCond .eq 66, 3) := by decide +kernel
theorem dL_tick_32 : decode cL_tick 32 = .ok (.iload 8, 2) := by decide +kernel
theorem dL_tick_34 : decode cL_tick 34 = .ok (.ifCond .lt 61, 3) := by decide +kernel
theorem dL_tick_37 : decode cL_tick 37 = .ok (.aload_n 2, 1) := by decide +kernel
theorem dL_tick_38 : decode cL_tick 38 = .ok (.bipush 8, 2) := by decide +kernel
theorem dL_tick_40 : decode cL_tick 40 = .ok (.iload 8, 2) := by decide +kernel
theorem dL_tick_42 : decode cL_tick 42 = .ok (.imul, 1) := by decide +kernel
theorem dL_tick_43 : decode cL_tick 43 = .ok (.iaload, 1) := by decide +kernel
theorem dL_tick_44 : decode cL_tick 44 = .ok (.ifCond .ne 51, 3) := by decide +kernel
theorem dL_tick_47 : decode cL_tick 47 = .ok (.aload_n 0, 1) := by decide +kernel
theorem dL_tick_48 : decode cL_tick 48 = .ok (.aload_n 1, 1) := by decide +kernel
theorem dL_tick_49 : decode cL_tick 49 = .ok (.aload_n 2, 1) := by decide +kernel
theorem dL_tick_50 : decode cL_tick 50 = .ok (.iload 8, 2) := by decide +kernel
theorem dL_tick_52 : decode cL_tick 52 = .ok (.invokestatic 27, 3) := by decide +kernel
theorem dL_tick_55 : decode cL_tick 55 = .ok (.ifCond .eq 11, 3) := by decide +kernel
theorem dL_tick_58 : decode cL_tick 58 = .ok (.aload_n 1, 1) := by decide +kernel
theorem dL_tick_59 : decode cL_tick 59 = .ok (.aload_n 2, 1) := by decide +kernel
theorem dL_tick_60 : decode cL_tick 60 = .ok (.aload_n 3, 1) := by decide +kernel
theorem dL_tick_61 : decode cL_tick 61 = .ok (.iload 8, 2) := by decide +kernel
theorem dL_tick_63 : decode cL_tick 63 = .ok (.invokestatic 31, 3) := by decide +kernel
theorem dL_tick_66 : decode cL_tick 66 = .ok (.aload_n 1, 1) := by decide +kernel
theorem dL_tick_67 : decode cL_tick 67 = .ok (.aload_n 2, 1) := by decide +kernel
theorem dL_tick_68 : decode cL_tick 68 = .ok (.iload 8, 2) := by decide +kernel
theorem dL_tick_70 : decode cL_tick 70 = .ok (.invokestatic 19, 3) := by decide +kernel
theorem dL_tick_73 : decode cL_tick 73 = .ok (.ifCond .eq 7, 3) := by decide +kernel
theorem dL_tick_76 : decode cL_tick 76 = .ok (.iconst (-1), 1) := by decide +kernel
theorem dL_tick_77 : decode cL_tick 77 = .ok (.goto 13, 3) := by decide +kernel
theorem dL_tick_80 : decode cL_tick 80 = .ok (.aload_n 1, 1) := by decide +kernel
theorem dL_tick_81 : decode cL_tick 81 = .ok (.bipush 8, 2) := by decide +kernel
theorem dL_tick_83 : decode cL_tick 83 = .ok (.iload 8, 2) := by decide +kernel
theorem dL_tick_85 : decode cL_tick 85 = .ok (.imul, 1) := by decide +kernel
theorem dL_tick_86 : decode cL_tick 86 = .ok (.bipush 6, 2) := by decide +kernel
theorem dL_tick_88 : decode cL_tick 88 = .ok (.iadd, 1) := by decide +kernel
theorem dL_tick_89 : decode cL_tick 89 = .ok (.iaload, 1) := by decide +kernel
theorem dL_tick_90 : decode cL_tick 90 = .ok (.istore 8, 2) := by decide +kernel
theorem dL_tick_92 : decode cL_tick 92 = .ok (.goto (-74), 3) := by decide +kernel
theorem dL_tick_95 : decode cL_tick 95 = .ok (.aload_n 2, 1) := by decide +kernel
theorem dL_tick_96 : decode cL_tick 96 = .ok (.bipush 8, 2) := by decide +kernel
theorem dL_tick_98 : decode cL_tick 98 = .ok (.iload 7, 2) := by decide +kernel
theorem dL_tick_100 : decode cL_tick 100 = .ok (.imul, 1) := by decide +kernel
theorem dL_tick_101 : decode cL_tick 101 = .ok (.iaload, 1) := by decide +kernel
theorem dL_tick_102 : decode cL_tick 102 = .ok (.iconst 2, 1) := by decide +kernel
theorem dL_tick_103 : decode cL_tick 103 = .ok (.if_icmp .ne 160, 3) := by decide +kernel
theorem dL_tick_106 : decode cL_tick 106 = .ok (.aload_n 0, 1) := by decide +kernel
theorem dL_tick_107 : decode cL_tick 107 = .ok (.aload 4, 2) := by decide +kernel
theorem dL_tick_109 : decode cL_tick 109 = .ok (.iload 7, 2) := by decide +kernel
theorem dL_tick_111 : decode cL_tick 111 = .ok (.iconst 0, 1) := by decide +kernel
theorem dL_tick_112 : decode cL_tick 112 = .ok (.invokestatic 15, 3) := by decide +kernel
theorem dL_tick_115 : decode cL_tick 115 = .ok (.ifCond .eq 148, 3) := by decide +kernel
theorem dL_tick_118 : decode cL_tick 118 = .ok (.aload_n 0, 1) := by decide +kernel
theorem dL_tick_119 : decode cL_tick 119 = .ok (.aload 4, 2) := by decide +kernel
theorem dL_tick_121 : decode cL_tick 121 = .ok (.iload 7, 2) := by decide +kernel
theorem dL_tick_123 : decode cL_tick 123 = .ok (.invokestatic 9, 3) := by decide +kernel
theorem dL_tick_126 : decode cL_tick 126 = .ok (.istore 9, 2) := by decide +kernel
theorem dL_tick_128 : decode cL_tick 128 = .ok (.aload_n 0, 1) := by decide +kernel
theorem dL_tick_129 : decode cL_tick 129 = .ok (.iconst 2, 1) := by decide +kernel
theorem dL_tick_130 : decode cL_tick 130 = .ok (.iaload, 1) := by decide +kernel
theorem dL_tick_131 : decode cL_tick 131 = .ok (.aload 4, 2) := by decide +kernel
theorem dL_tick_133 : decode cL_tick 133 = .ok (.iconst 3, 1) := by decide +kernel
theorem dL_tick_134 : decode cL_tick 134 = .ok (.iload 9, 2) := by decide +kernel
theorem dL_tick_136 : decode cL_tick 136 = .ok (.imul, 1) := by decide +kernel
theorem dL_tick_137 : decode cL_tick 137 = .ok (.iconst 1, 1) := by decide +kernel
theorem dL_tick_138 : decode cL_tick 138 = .ok (.iadd, 1) := by decide +kernel
theorem dL_tick_139 : decode cL_tick 139 = .ok (.iaload, 1) := by decide +kernel
theorem dL_tick_140 : decode cL_tick 140 = .ok (.isub, 1) := by decide +kernel
theorem dL_tick_141 : decode cL_tick 141 = .ok (.istore 10, 2) := by decide +kernel
theorem dL_tick_143 : decode cL_tick 143 = .ok (.lload 5, 2) := by decide +kernel
theorem dL_tick_145 : decode cL_tick 145 = .ok (.lconst 1, 1) := by decide +kernel
theorem dL_tick_146 : decode cL_tick 146 = .ok (.ldc2_w 35, 3) := by decide +kernel
theorem dL_tick_149 : decode cL_tick 149 = .ok (.iload 10, 2) := by decide +kernel
theorem dL_tick_151 : decode cL_tick 151 = .ok (.i2l, 1) := by decide +kernel
theorem dL_tick_152 : decode cL_tick 152 = .ok (.lmul, 1) := by decide +kernel
theorem dL_tick_153 : decode cL_tick 153 = .ok (.ladd, 1) := by decide +kernel
theorem dL_tick_154 : decode cL_tick 154 = .ok (.ladd, 1) := by decide +kernel
theorem dL_tick_155 : decode cL_tick 155 = .ok (.lstore 5, 2) := by decide +kernel
theorem dL_tick_157 : decode cL_tick 157 = .ok (.aload_n 2, 1) := by decide +kernel
theorem dL_tick_158 : decode cL_tick 158 = .ok (.bipush 8, 2) := by decide +kernel
theorem dL_tick_160 : decode cL_tick 160 = .ok (.iload 7, 2) := by decide +kernel
theorem dL_tick_162 : decode cL_tick 162 = .ok (.imul, 1) := by decide +kernel
theorem dL_tick_163 : decode cL_tick 163 = .ok (.iconst 3, 1) := by decide +kernel
theorem dL_tick_164 : decode cL_tick 164 = .ok (.iastore, 1) := by decide +kernel
theorem dL_tick_165 : decode cL_tick 165 = .ok (.aload_n 2, 1) := by decide +kernel
theorem dL_tick_166 : decode cL_tick 166 = .ok (.bipush 8, 2) := by decide +kernel
theorem dL_tick_168 : decode cL_tick 168 = .ok (.iload 7, 2) := by decide +kernel
theorem dL_tick_170 : decode cL_tick 170 = .ok (.imul, 1) := by decide +kernel
theorem dL_tick_171 : decode cL_tick 171 = .ok (.iconst 1, 1) := by decide +kernel
theorem dL_tick_172 : decode cL_tick 172 = .ok (.iadd, 1) := by decide +kernel
theorem dL_tick_173 : decode cL_tick 173 = .ok (.aload 4, 2) := by decide +kernel
theorem dL_tick_175 : decode cL_tick 175 = .ok (.iconst 3, 1) := by decide +kernel
theorem dL_tick_176 : decode cL_tick 176 = .ok (.iload 9, 2) := by decide +kernel
theorem dL_tick_178 : decode cL_tick 178 = .ok (.imul, 1) := by decide +kernel
theorem dL_tick_179 : decode cL_tick 179 = .ok (.iconst 2, 1) := by decide +kernel
theorem dL_tick_180 : decode cL_tick 180 = .ok (.iadd, 1) := by decide +kernel
theorem dL_tick_181 : decode cL_tick 181 = .ok (.iaload, 1) := by decide +kernel
theorem dL_tick_182 : decode cL_tick 182 = .ok (.iastore, 1) := by decide +kernel
theorem dL_tick_183 : decode cL_tick 183 = .ok (.aload_n 2, 1) := by decide +kernel
theorem dL_tick_184 : decode cL_tick 184 = .ok (.bipush 8, 2) := by decide +kernel
theorem dL_tick_186 : decode cL_tick 186 = .ok (.iload 7, 2) := by decide +kernel
theorem dL_tick_188 : decode cL_tick 188 = .ok (.imul, 1) := by decide +kernel
theorem dL_tick_189 : decode cL_tick 189 = .ok (.iconst 5, 1) := by decide +kernel
theorem dL_tick_190 : decode cL_tick 190 = .ok (.iadd, 1) := by decide +kernel
theorem dL_tick_191 : decode cL_tick 191 = .ok (.dup2, 1) := by decide +kernel
theorem dL_tick_192 : decode cL_tick 192 = .ok (.iaload, 1) := by decide +kernel
theorem dL_tick_193 : decode cL_tick 193 = .ok (.iconst 1, 1) := by decide +kernel
theorem dL_tick_194 : decode cL_tick 194 = .ok (.iadd, 1) := by decide +kernel
theorem dL_tick_195 : decode cL_tick 195 = .ok (.iastore, 1) := by decide +kernel
theorem dL_tick_196 : decode cL_tick 196 = .ok (.aload_n 2, 1) := by decide +kernel
theorem dL_tick_197 : decode cL_tick 197 = .ok (.bipush 8, 2) := by decide +kernel
theorem dL_tick_199 : decode cL_tick 199 = .ok (.iload 7, 2) := by decide +kernel
theorem dL_tick_201 : decode cL_tick 201 = .ok (.imul, 1) := by decide +kernel
theorem dL_tick_202 : decode cL_tick 202 = .ok (.bipush 6, 2) := by decide +kernel
theorem dL_tick_204 : decode cL_tick 204 = .ok (.iadd, 1) := by decide +kernel
theorem dL_tick_205 : decode cL_tick 205 = .ok (.dup2, 1) := by decide +kernel
theorem dL_tick_206 : decode cL_tick 206 = .ok (.iaload, 1) := by decide +kernel
theorem dL_tick_207 : decode cL_tick 207 = .ok (.iload 10, 2) := by decide +kernel
theorem dL_tick_209 : decode cL_tick 209 = .ok (.iadd, 1) := by decide +kernel
theorem dL_tick_210 : decode cL_tick 210 = .ok (.iastore, 1) := by decide +kernel
theorem dL_tick_211 : decode cL_tick 211 = .ok (.aload_n 3, 1) := by decide +kernel
theorem dL_tick_212 : decode cL_tick 212 = .ok (.bipush 33, 2) := by decide +kernel
theorem dL_tick_214 : decode cL_tick 214 = .ok (.iconst 2, 1) := by decide +kernel
theorem dL_tick_215 : decode cL_tick 215 = .ok (.iload 7, 2) := by decide +kernel
theorem dL_tick_217 : decode cL_tick 217 = .ok (.imul, 1) := by decide +kernel
theorem dL_tick_218 : decode cL_tick 218 = .ok (.iadd, 1) := by decide +kernel
theorem dL_tick_219 : decode cL_tick 219 = .ok (.aload_n 0, 1) := by decide +kernel
theorem dL_tick_220 : decode cL_tick 220 = .ok (.iconst 2, 1) := by decide +kernel
theorem dL_tick_221 : decode cL_tick 221 = .ok (.iaload, 1) := by decide +kernel
theorem dL_tick_222 : decode cL_tick 222 = .ok (.aload_n 3, 1) := by decide +kernel
theorem dL_tick_223 : decode cL_tick 223 = .ok (.bipush 32, 2) := by decide +kernel
theorem dL_tick_225 : decode cL_tick 225 = .ok (.iconst 2, 1) := by decide +kernel
theorem dL_tick_226 : decode cL_tick 226 = .ok (.iload 7, 2) := by decide +kernel
theorem dL_tick_228 : decode cL_tick 228 = .ok (.imul, 1) := by decide +kernel
theorem dL_tick_229 : decode cL_tick 229 = .ok (.iadd, 1) := by decide +kernel
theorem dL_tick_230 : decode cL_tick 230 = .ok (.iaload, 1) := by decide +kernel
theorem dL_tick_231 : decode cL_tick 231 = .ok (.isub, 1) := by decide +kernel
theorem dL_tick_232 : decode cL_tick 232 = .ok (.iastore, 1) := by decide +kernel
theorem dL_tick_233 : decode cL_tick 233 = .ok (.aload_n 3, 1) := by decide +kernel
theorem dL_tick_234 : decode cL_tick 234 = .ok (.bipush 32, 2) := by decide +kernel
theorem dL_tick_236 : decode cL_tick 236 = .ok (.iconst 2, 1) := by decide +kernel
theorem dL_tick_237 : decode cL_tick 237 = .ok (.iload 7, 2) := by decide +kernel
theorem dL_tick_239 : decode cL_tick 239 = .ok (.imul, 1) := by decide +kernel
theorem dL_tick_240 : decode cL_tick 240 = .ok (.iadd, 1) := by decide +kernel
theorem dL_tick_241 : decode cL_tick 241 = .ok (.aload_n 0, 1) := by decide +kernel
theorem dL_tick_242 : decode cL_tick 242 = .ok (.iconst 2, 1) := by decide +kernel
theorem dL_tick_243 : decode cL_tick 243 = .ok (.iaload, 1) := by decide +kernel
theorem dL_tick_244 : decode cL_tick 244 = .ok (.aload 4, 2) := by decide +kernel
theorem dL_tick_246 : decode cL_tick 246 = .ok (.iconst 3, 1) := by decide +kernel
theorem dL_tick_247 : decode cL_tick 247 = .ok (.iload 9, 2) := by decide +kernel
theorem dL_tick_249 : decode cL_tick 249 = .ok (.imul, 1) := by decide +kernel
theorem dL_tick_250 : decode cL_tick 250 = .ok (.iconst 2, 1) := by decide +kernel
theorem dL_tick_251 : decode cL_tick 251 = .ok (.iadd, 1) := by decide +kernel
theorem dL_tick_252 : decode cL_tick 252 = .ok (.iaload, 1) := by decide +kernel
theorem dL_tick_253 : decode cL_tick 253 = .ok (.iadd, 1) := by decide +kernel
theorem dL_tick_254 : decode cL_tick 254 = .ok (.iastore, 1) := by decide +kernel
theorem dL_tick_255 : decode cL_tick 255 = .ok (.aload_n 0, 1) := by decide +kernel
theorem dL_tick_256 : decode cL_tick 256 = .ok (.aload 4, 2) := by decide +kernel
theorem dL_tick_258 : decode cL_tick 258 = .ok (.iload 9, 2) := by decide +kernel
theorem dL_tick_260 : decode cL_tick 260 = .ok (.invokestatic 37, 3) := by decide +kernel
theorem dL_tick_263 : decode cL_tick 263 = .ok (.iinc 7 1, 3) := by decide +kernel
theorem dL_tick_266 : decode cL_tick 266 = .ok (.goto (-260), 3) := by decide +kernel
theorem dL_tick_269 : decode cL_tick 269 = .ok (.iconst 0, 1) := by decide +kernel
theorem dL_tick_270 : decode cL_tick 270 = .ok (.istore 7, 2) := by decide +kernel
theorem dL_tick_272 : decode cL_tick 272 = .ok (.iload 7, 2) := by decide +kernel
theorem dL_tick_274 : decode cL_tick 274 = .ok (.aload_n 0, 1) := by decide +kernel
theorem dL_tick_275 : decode cL_tick 275 = .ok (.iconst 0, 1) := by decide +kernel
theorem dL_tick_276 : decode cL_tick 276 = .ok (.iaload, 1) := by decide +kernel
theorem dL_tick_277 : decode cL_tick 277 = .ok (.if_icmp .ge 86, 3) := by decide +kernel
theorem dL_tick_280 : decode cL_tick 280 = .ok (.aload_n 2, 1) := by decide +kernel
theorem dL_tick_281 : decode cL_tick 281 = .ok (.bipush 8, 2) := by decide +kernel
theorem dL_tick_283 : decode cL_tick 283 = .ok (.iload 7, 2) := by decide +kernel
theorem dL_tick_285 : decode cL_tick 285 = .ok (.imul, 1) := by decide +kernel
theorem dL_tick_286 : decode cL_tick 286 = .ok (.iaload, 1) := by decide +kernel
theorem dL_tick_287 : decode cL_tick 287 = .ok (.istore 8, 2) := by decide +kernel
theorem dL_tick_289 : decode cL_tick 289 = .ok (.aload_n 3, 1) := by decide +kernel
theorem dL_tick_290 : decode cL_tick 290 = .ok (.iconst 4, 1) := by decide +kernel
theorem dL_tick_291 : decode cL_tick 291 = .ok (.iload 7, 2) := by decide +kernel
theorem dL_tick_293 : decode cL_tick 293 = .ok (.imul, 1) := by decide +kernel
theorem dL_tick_294 : decode cL_tick 294 = .ok (.iload 8, 2) := by decide +kernel
theorem dL_tick_296 : decode cL_tick 296 = .ok (.ifCond .ne 7, 3) := by decide +kernel
theorem dL_tick_299 : decode cL_tick 299 = .ok (.iconst 3, 1) := by decide +kernel
theorem dL_tick_300 : decode cL_tick 300 = .ok (.goto 14, 3) := by decide +kernel
theorem dL_tick_303 : decode cL_tick 303 = .ok (.iload 8, 2) := by decide +kernel
theorem dL_tick_305 : decode cL_tick 305 = .ok (.iconst 2, 1) := by decide +kernel
theorem dL_tick_306 : decode cL_tick 306 = .ok (.if_icmp .ne 7, 3) := by decide +kernel
theorem dL_tick_309 : decode cL_tick 309 = .ok (.iconst 2, 1) := by decide +kernel
theorem dL_tick_310 : decode cL_tick 310 = .ok (.goto 4, 3) := by decide +kernel
theorem dL_tick_313 : decode cL_tick 313 = .ok (.iconst 1, 1) := by decide +kernel
theorem dL_tick_314 : decode cL_tick 314 = .ok (.iadd, 1) := by decide +kernel
theorem dL_tick_315 : decode cL_tick 315 = .ok (.dup2, 1) := by decide +kernel
theorem dL_tick_316 : decode cL_tick 316 = .ok (.iaload, 1) := by decide +kernel
theorem dL_tick_317 : decode cL_tick 317 = .ok (.iload 8, 2) := by decide +kernel
theorem dL_tick_319 : decode cL_tick 319 = .ok (.iconst 1, 1) := by decide +kernel
theorem dL_tick_320 : decode cL_tick 320 = .ok (.if_icmp .ne 7, 3) := by decide +kernel
theorem dL_tick_323 : decode cL_tick 323 = .ok (.iconst 0, 1) := by decide +kernel
theorem dL_tick_324 : decode cL_tick 324 = .ok (.goto 31, 3) := by decide +kernel
theorem dL_tick_327 : decode cL_tick 327 = .ok (.aload_n 1, 1) := by decide +kernel
theorem dL_tick_328 : decode cL_tick 328 = .ok (.bipush 8, 2) := by decide +kernel
theorem dL_tick_330 : decode cL_tick 330 = .ok (.iload 7, 2) := by decide +kernel
theorem dL_tick_332 : decode cL_tick 332 = .ok (.imul, 1) := by decide +kernel
theorem dL_tick_333 : decode cL_tick 333 = .ok (.iload 8, 2) := by decide +kernel
theorem dL_tick_335 : decode cL_tick 335 = .ok (.ifCond .ne 7, 3) := by decide +kernel
theorem dL_tick_338 : decode cL_tick 338 = .ok (.iconst 5, 1) := by decide +kernel
theorem dL_tick_339 : decode cL_tick 339 = .ok (.goto 14, 3) := by decide +kernel
theorem dL_tick_342 : decode cL_tick 342 = .ok (.iload 8, 2) := by decide +kernel
theorem dL_tick_344 : decode cL_tick 344 = .ok (.iconst 2, 1) := by decide +kernel
theorem dL_tick_345 : decode cL_tick 345 = .ok (.if_icmp .ne 7, 3) := by decide +kernel
theorem dL_tick_348 : decode cL_tick 348 = .ok (.iconst 4, 1) := by decide +kernel
theorem dL_tick_349 : decode cL_tick 349 = .ok (.goto 4, 3) := by decide +kernel
theorem dL_tick_352 : decode cL_tick 352 = .ok (.iconst 3, 1) := by decide +kernel
theorem dL_tick_353 : decode cL_tick 353 = .ok (.iadd, 1) := by decide +kernel
theorem dL_tick_354 : decode cL_tick 354 = .ok (.iaload, 1) := by decide +kernel
theorem dL_tick_355 : decode cL_tick 355 = .ok (.iadd, 1) := by decide +kernel
theorem dL_tick_356 : decode cL_tick 356 = .ok (.iastore, 1) := by decide +kernel
theorem dL_tick_357 : decode cL_tick 357 = .ok (.iinc 7 1, 3) := by decide +kernel
theorem dL_tick_360 : decode cL_tick 360 = .ok (.goto (-88), 3) := by decide +kernel
theorem dL_tick_363 : decode cL_tick 363 = .ok (.iconst 0, 1) := by decide +kernel
theorem dL_tick_364 : decode cL_tick 364 = .ok (.istore 7, 2) := by decide +kernel
theorem dL_tick_366 : decode cL_tick 366 = .ok (.iload 7, 2) := by decide +kernel
theorem dL_tick_368 : decode cL_tick 368 = .ok (.aload_n 0, 1) := by decide +kernel
theorem dL_tick_369 : decode cL_tick 369 = .ok (.iconst 0, 1) := by decide +kernel
theorem dL_tick_370 : decode cL_tick 370 = .ok (.iaload, 1) := by decide +kernel
theorem dL_tick_371 : decode cL_tick 371 = .ok (.if_icmp .ge 149, 3) := by decide +kernel
theorem dL_tick_374 : decode cL_tick 374 = .ok (.aload_n 2, 1) := by decide +kernel
theorem dL_tick_375 : decode cL_tick 375 = .ok (.bipush 8, 2) := by decide +kernel
theorem dL_tick_377 : decode cL_tick 377 = .ok (.iload 7, 2) := by decide +kernel
theorem dL_tick_379 : decode cL_tick 379 = .ok (.imul, 1) := by decide +kernel
theorem dL_tick_380 : decode cL_tick 380 = .ok (.iaload, 1) := by decide +kernel
theorem dL_tick_381 : decode cL_tick 381 = .ok (.istore 8, 2) := by decide +kernel
theorem dL_tick_383 : decode cL_tick 383 = .ok (.iload 8, 2) := by decide +kernel
theorem dL_tick_385 : decode cL_tick 385 = .ok (.iconst 2, 1) := by decide +kernel
theorem dL_tick_386 : decode cL_tick 386 = .ok (.irem, 1) := by decide +kernel
theorem dL_tick_387 : decode cL_tick 387 = .ok (.iconst 1, 1) := by decide +kernel
theorem dL_tick_388 : decode cL_tick 388 = .ok (.if_icmp .ne 54, 3) := by decide +kernel
theorem dL_tick_391 : decode cL_tick 391 = .ok (.aload_n 2, 1) := by decide +kernel
theorem dL_tick_392 : decode cL_tick 392 = .ok (.bipush 8, 2) := by decide +kernel
theorem dL_tick_394 : decode cL_tick 394 = .ok (.iload 7, 2) := by decide +kernel
theorem dL_tick_396 : decode cL_tick 396 = .ok (.imul, 1) := by decide +kernel
theorem dL_tick_397 : decode cL_tick 397 = .ok (.iconst 1, 1) := by decide +kernel
theorem dL_tick_398 : decode cL_tick 398 = .ok (.iadd, 1) := by decide +kernel
theorem dL_tick_399 : decode cL_tick 399 = .ok (.dup2, 1) := by decide +kernel
theorem dL_tick_400 : decode cL_tick 400 = .ok (.iaload, 1) := by decide +kernel
theorem dL_tick_401 : decode cL_tick 401 = .ok (.iconst 1, 1) := by decide +kernel
theorem dL_tick_402 : decode cL_tick 402 = .ok (.isub, 1) := by decide +kernel
theorem dL_tick_403 : decode cL_tick 403 = .ok (.iastore, 1) := by decide +kernel
theorem dL_tick_404 : decode cL_tick 404 = .ok (.aload_n 2, 1) := by decide +kernel
theorem dL_tick_405 : decode cL_tick 405 = .ok (.bipush 8, 2) := by decide +kernel
theorem dL_tick_407 : decode cL_tick 407 = .ok (.iload 7, 2) := by decide +kernel
theorem dL_tick_409 : decode cL_tick 409 = .ok (.imul, 1) := by decide +kernel
theorem dL_tick_410 : decode cL_tick 410 = .ok (.iconst 2, 1) := by decide +kernel
theorem dL_tick_411 : decode cL_tick 411 = .ok (.iadd, 1) := by decide +kernel
theorem dL_tick_412 : decode cL_tick 412 = .ok (.iconst 0, 1) := by decide +kernel
theorem dL_tick_413 : decode cL_tick 413 = .ok (.iastore, 1) := by decide +kernel
theorem dL_tick_414 : decode cL_tick 414 = .ok (.aload_n 2, 1) := by decide +kernel
theorem dL_tick_415 : decode cL_tick 415 = .ok (.bipush 8, 2) := by decide +kernel
theorem dL_tick_417 : decode cL_tick 417 = .ok (.iload 7, 2) := by decide +kernel
theorem dL_tick_419 : decode cL_tick 419 = .ok (.imul, 1) := by decide +kernel
theorem dL_tick_420 : decode cL_tick 420 = .ok (.aload_n 2, 1) := by decide +kernel
theorem dL_tick_421 : decode cL_tick 421 = .ok (.bipush 8, 2) := by decide +kernel
theorem dL_tick_423 : decode cL_tick 423 = .ok (.iload 7, 2) := by decide +kernel
theorem dL_tick_425 : decode cL_tick 425 = .ok (.imul, 1) := by decide +kernel
theorem dL_tick_426 : decode cL_tick 426 = .ok (.iconst 1, 1) := by decide +kernel
theorem dL_tick_427 : decode cL_tick 427 = .ok (.iadd, 1) := by decide +kernel
theorem dL_tick_428 : decode cL_tick 428 = .ok (.iaload, 1) := by decide +kernel
theorem dL_tick_429 : decode cL_tick 429 = .ok (.ifCond .ne 7, 3) := by decide +kernel
theorem dL_tick_432 : decode cL_tick 432 = .ok (.iconst 2, 1) := by decide +kernel
theorem dL_tick_433 : decode cL_tick 433 = .ok (.goto 5, 3) := by decide +kernel
theorem dL_tick_436 : decode cL_tick 436 = .ok (.iload 8, 2) := by decide +kernel
theorem dL_tick_438 : decode cL_tick 438 = .ok (.iastore, 1) := by decide +kernel
theorem dL_tick_439 : decode cL_tick 439 = .ok (.goto 75, 3) := by decide +kernel
theorem dL_tick_442 : decode cL_tick 442 = .ok (.iload 8, 2) := by decide +kernel
theorem dL_tick_444 : decode cL_tick 444 = .ok (.iconst 2, 1) := by decide +kernel
end
section
theorem dL_tick_445 : decode cL_tick 445 = .ok (.if_icmp .ne 69, 3) := by decide +kernel
theorem dL_tick_448 : decode cL_tick 448 = .ok (.aload_n 2, 1) := by decide +kernel
theorem dL_tick_449 : decode cL_tick 449 = .ok (.bipush 8, 2) := by decide +kernel
theorem dL_tick_451 : decode cL_tick 451 = .ok (.iload 7, 2) := by decide +kernel
theorem dL_tick_453 : decode cL_tick 453 = .ok (.imul, 1) := by decide +kernel
theorem dL_tick_454 : decode cL_tick 454 = .ok (.iconst 2, 1) := by decide +kernel
theorem dL_tick_455 : decode cL_tick 455 = .ok (.iadd, 1) := by decide +kernel
theorem dL_tick_456 : decode cL_tick 456 = .ok (.dup2, 1) := by decide +kernel
theorem dL_tick_457 : decode cL_tick 457 = .ok (.iaload, 1) := by decide +kernel
theorem dL_tick_458 : decode cL_tick 458 = .ok (.iconst 1, 1) := by decide +kernel
theorem dL_tick_459 : decode cL_tick 459 = .ok (.iadd, 1) := by decide +kernel
theorem dL_tick_460 : decode cL_tick 460 = .ok (.iastore, 1) := by decide +kernel
theorem dL_tick_461 : decode cL_tick 461 = .ok (.aload_n 2, 1) := by decide +kernel
theorem dL_tick_462 : decode cL_tick 462 = .ok (.bipush 8, 2) := by decide +kernel
theorem dL_tick_464 : decode cL_tick 464 = .ok (.iload 7, 2) := by decide +kernel
theorem dL_tick_466 : decode cL_tick 466 = .ok (.imul, 1) := by decide +kernel
theorem dL_tick_467 : decode cL_tick 467 = .ok (.iconst 3, 1) := by decide +kernel
theorem dL_tick_468 : decode cL_tick 468 = .ok (.iadd, 1) := by decide +kernel
theorem dL_tick_469 : decode cL_tick 469 = .ok (.iaload, 1) := by decide +kernel
theorem dL_tick_470 : decode cL_tick 470 = .ok (.istore 9, 2) := by decide +kernel
theorem dL_tick_472 : decode cL_tick 472 = .ok (.aload_n 2, 1) := by decide +kernel
theorem dL_tick_473 : decode cL_tick 473 = .ok (.bipush 8, 2) := by decide +kernel
theorem dL_tick_475 : decode cL_tick 475 = .ok (.iload 7, 2) := by decide +kernel
theorem dL_tick_477 : decode cL_tick 477 = .ok (.imul, 1) := by decide +kernel
theorem dL_tick_478 : decode cL_tick 478 = .ok (.iload 9, 2) := by decide +kernel
theorem dL_tick_480 : decode cL_tick 480 = .ok (.ifCond .le 32, 3) := by decide +kernel
theorem dL_tick_483 : decode cL_tick 483 = .ok (.aload_n 2, 1) := by decide +kernel
theorem dL_tick_484 : decode cL_tick 484 = .ok (.bipush 8, 2) := by decide +kernel
theorem dL_tick_486 : decode cL_tick 486 = .ok (.iload 7, 2) := by decide +kernel
theorem dL_tick_488 : decode cL_tick 488 = .ok (.imul, 1) := by decide +kernel
theorem dL_tick_489 : decode cL_tick 489 = .ok (.iconst 2, 1) := by decide +kernel
theorem dL_tick_490 : decode cL_tick 490 = .ok (.iadd, 1) := by decide +kernel
theorem dL_tick_491 : decode cL_tick 491 = .ok (.iaload, 1) := by decide +kernel
theorem dL_tick_492 : decode cL_tick 492 = .ok (.iload 9, 2) := by decide +kernel
theorem dL_tick_494 : decode cL_tick 494 = .ok (.if_icmp .lt 18, 3) := by decide +kernel
theorem dL_tick_497 : decode cL_tick 497 = .ok (.aload_n 0, 1) := by decide +kernel
theorem dL_tick_498 : decode cL_tick 498 = .ok (.aload_n 1, 1) := by decide +kernel
theorem dL_tick_499 : decode cL_tick 499 = .ok (.aload_n 2, 1) := by decide +kernel
theorem dL_tick_500 : decode cL_tick 500 = .ok (.iload 7, 2) := by decide +kernel
theorem dL_tick_502 : decode cL_tick 502 = .ok (.invokestatic 41, 3) := by decide +kernel
theorem dL_tick_505 : decode cL_tick 505 = .ok (.ifCond .ne 7, 3) := by decide +kernel
theorem dL_tick_508 : decode cL_tick 508 = .ok (.iconst 0, 1) := by decide +kernel
theorem dL_tick_509 : decode cL_tick 509 = .ok (.goto 4, 3) := by decide +kernel
theorem dL_tick_512 : decode cL_tick 512 = .ok (.iconst 2, 1) := by decide +kernel
theorem dL_tick_513 : decode cL_tick 513 = .ok (.iastore, 1) := by decide +kernel
theorem dL_tick_514 : decode cL_tick 514 = .ok (.iinc 7 1, 3) := by decide +kernel
theorem dL_tick_517 : decode cL_tick 517 = .ok (.goto (-151), 3) := by decide +kernel
theorem dL_tick_520 : decode cL_tick 520 = .ok (.aload_n 0, 1) := by decide +kernel
theorem dL_tick_521 : decode cL_tick 521 = .ok (.iconst 2, 1) := by decide +kernel
theorem dL_tick_522 : decode cL_tick 522 = .ok (.dup2, 1) := by decide +kernel
theorem dL_tick_523 : decode cL_tick 523 = .ok (.iaload, 1) := by decide +kernel
theorem dL_tick_524 : decode cL_tick 524 = .ok (.iconst 1, 1) := by decide +kernel
theorem dL_tick_525 : decode cL_tick 525 = .ok (.iadd, 1) := by decide +kernel
theorem dL_tick_526 : decode cL_tick 526 = .ok (.iastore, 1) := by decide +kernel
theorem dL_tick_527 : decode cL_tick 527 = .ok (.lload 5, 2) := by decide +kernel
theorem dL_tick_529 : decode cL_tick 529 = .ok (.lreturn, 1) := by decide +kernel
set_option maxRecDepth 20000 in
theorem ggL_lays_X3_room : GoodIn wsL_lays wsX3_room := goodIn_sub (List.forall_mem_cons.mpr ⟨List.mem_of_getElem? (i := 5) rfl, List.forall_mem_cons.mpr ⟨List.mem_of_getElem? (i := 6) rfl, List.forall_mem_cons.mpr ⟨List.mem_of_getElem? (i := 7) rfl, List.forall_mem_cons.mpr ⟨List.mem_of_getElem? (i := 8) rfl, List.forall_mem_cons.mpr ⟨List.mem_of_getElem? (i := 9) rfl, List.forall_mem_cons.mpr ⟨List.mem_of_getElem? (i := 10) rfl, List.forall_mem_cons.mpr ⟨List.mem_of_getElem? (i := 11) rfl, List.forall_mem_cons.mpr ⟨List.mem_of_getElem? (i := 4) rfl, List.forall_mem_cons.mpr ⟨List.mem_of_getElem? (i := 12) rfl, List.forall_mem_cons.mpr ⟨List.mem_of_getElem? (i := 13) rfl, List.forall_mem_cons.mpr ⟨List.mem_of_getElem? (i := 14) rfl, List.forall_mem_cons.mpr ⟨List.mem_of_getElem? (i := 15) rfl, List.forall_mem_cons.mpr ⟨List.mem_of_getElem? (i := 16) rfl, List.forall_mem_cons.mpr ⟨List.mem_of_getElem? (i := 17) rfl, List.forall_mem_cons.mpr ⟨List.mem_of_getElem? (i := 18) rfl, List.forall_mem_cons.mpr ⟨List.mem_of_getElem? (i := 19) rfl, List.forall_mem_cons.mpr ⟨List.mem_of_getElem? (i := 20) rfl, List.forall_mem_cons.mpr ⟨List.mem_of_getElem? (i := 21) rfl, List.forall_mem_cons.mpr ⟨List.mem_of_getElem? (i := 22) rfl, List.forall_mem_cons.mpr ⟨List.mem_of_getElem? (i := 23) rfl, List.forall_mem_cons.mpr ⟨List.mem_of_getElem? (i := 24) rfl, List.forall_mem_cons.mpr ⟨List.mem_of_getElem? (i := 25) rfl, List.forall_mem_cons.mpr ⟨List.mem_of_getElem? (i := 26) rfl, List.forall_mem_cons.mpr ⟨List.mem_of_getElem? (i := 27) rfl, List.forall_mem_cons.mpr ⟨List.mem_of_getElem? (i := 28) rfl, List.forall_mem_cons.mpr ⟨List.mem_of_getElem? (i := 29) rfl, List.forall_mem_cons.mpr ⟨List.mem_of_getElem? (i := 30) rfl, List.forall_mem_cons.mpr ⟨List.mem_of_getElem? (i := 31) rfl, List.forall_mem_cons.mpr ⟨List.mem_of_getElem? (i := 32) rfl, List.forall_mem_cons.mpr ⟨List.mem_of_getElem? (i := 33) rfl, List.forall_mem_cons.mpr ⟨List.mem_of_getElem? (i := 34) rfl, List.forall_mem_cons.mpr ⟨List.mem_of_getElem? (i := 35) rfl, List.forall_mem_cons.mpr ⟨List.mem_of_getElem? (i := 36) rfl, List.forall_mem_cons.mpr ⟨List.mem_of_getElem? (i := 37) rfl, List.forall_mem_cons.mpr ⟨List.mem_of_getElem? (i := 38) rfl, List.forall_mem_cons.mpr ⟨List.mem_of_getElem? (i := 39) rfl, List.forall_mem_cons.mpr ⟨List.mem_of_getElem? (i := 40) rfl, List.forall_mem_cons.mpr ⟨List.mem_of_getElem? (i := 41) rfl, List.forall_mem_cons.mpr ⟨List.mem_of_getElem? (i := 42) rfl, List.forall_mem_cons.mpr ⟨List.mem_of_getElem? (i := 43) rfl, List.forall_mem_cons.mpr ⟨List.mem_of_getElem? (i := 44) rfl, List.forall_mem_cons.mpr ⟨List.mem_of_getElem? (i := 45) rfl, List.forall_mem_cons.mpr ⟨List.mem_of_getElem? (i := 46) rfl, List.forall_mem_cons.mpr ⟨List.mem_of_getElem? (i := 47) rfl, List.forall_mem_cons.mpr ⟨List.mem_of_getElem? (i := 48) rfl, List.forall_mem_cons.mpr ⟨List.mem_of_getElem? (i := 49) rfl, List.forall_mem_cons.mpr ⟨List.mem_of_getElem? (i := 50) rfl, List.forall_mem_cons.mpr ⟨List.mem_of_getElem? (i := 51) rfl, List.forall_mem_cons.mpr ⟨List.mem_of_getElem? (i := 52) rfl, List.forall_mem_cons.mpr ⟨List.mem_of_getElem? (i := 53) rfl, List.forall_mem_cons.mpr ⟨List.mem_of_getElem? (i := 54) rfl, List.forall_mem_cons.mpr ⟨List.mem_of_getElem? (i := 55) rfl, List.forall_mem_cons.mpr ⟨List.mem_of_getElem? (i := 56) rfl, List.forall_mem_cons.mpr ⟨List.mem_of_getElem? (i := 57) rfl, List.forall_mem_cons.mpr ⟨List.mem_of_getElem? (i := 58) rfl, List.forall_mem_cons.mpr ⟨List.mem_of_getElem? (i := 59) rfl, List.forall_mem_cons.mpr ⟨List.mem_of_getElem? (i := 60) rfl, List.forall_mem_cons.mpr ⟨List.mem_of_getElem? (i := 61) rfl, List.forall_mem_cons.mpr ⟨List.mem_of_getElem? (i := 62) rfl, List.forall_mem_cons.mpr ⟨List.mem_of_getElem? (i := 63) rfl, List.forall_mem_cons.mpr ⟨List.mem_of_getElem? (i := 64) rfl, List.forall_mem_cons.mpr ⟨List.mem_of_getElem? (i := 65) rfl, List.forall_mem_cons.mpr ⟨List.mem_of_getElem? (i := 66) rfl, List.forall_mem_cons.mpr ⟨List.mem_of_getElem? (i := 67) rfl, List.forall_mem_cons.mpr ⟨List.mem_of_getElem? (i := 68) rfl, List.forall_mem_cons.mpr ⟨List.mem_of_getElem? (i := 123) rfl, List.forall_mem_cons.mpr ⟨List.mem_of_getElem? (i := 124) rfl, List.forall_mem_cons.mpr ⟨List.mem_of_getElem? (i := 125) rfl, List.forall_mem_cons.mpr ⟨List.mem_of_getElem? (i := 126) rfl, List.forall_mem_cons.mpr ⟨List.mem_of_getElem? (i := 127) rfl, List.forall_mem_cons.mpr ⟨List.mem_of_getElem? (i := 128) rfl, List.forall_mem_cons.mpr ⟨List.mem_of_getElem? (i := 129) rfl, List.forall_mem_cons.mpr ⟨List.mem_of_getElem? (i := 130) rfl, List.forall_mem_cons.mpr ⟨List.mem_of_getElem? (i := 131) rfl, List.forall_mem_cons.mpr ⟨List.mem_of_getElem? (i := 132) rfl, List.forall_mem_cons.mpr ⟨List.mem_of_getElem? (i := 133) rfl, List.forall_mem_cons.mpr ⟨List.mem_of_getElem? (i := 134) rfl, List.forall_mem_cons.mpr ⟨List.mem_of_getElem? (i := 135) rfl, List.forall_mem_cons.mpr ⟨List.mem_of_getElem? (i := 136) rfl, List.forall_mem_cons.mpr ⟨List.mem_of_getElem? (i := 137) rfl, List.forall_mem_cons.mpr ⟨List.mem_of_getElem? (i := 138) rfl, List.forall_mem_cons.mpr ⟨List.mem_of_getElem? (i := 139) rfl, List.forall_mem_cons.mpr ⟨List.mem_of_getElem? (i := 140) rfl, List.forall_mem_cons.mpr ⟨List.mem_of_getElem? (i := 141) rfl, List.forall_mem_cons.mpr ⟨List.mem_of_getElem? (i := 142) rfl, List.forall_mem_cons.mpr ⟨List.mem_of_getElem? (i := 143) rfl, List.forall_mem_cons.mpr ⟨List.mem_of_getElem? (i := 144) rfl, List.forall_mem_cons.mpr ⟨List.mem_of_getElem? (i := 145) rfl, List.forall_mem_cons.mpr ⟨List.mem_of_getElem? (i := 146) rfl, List.forall_mem_cons.mpr ⟨List.mem_of_getElem? (i := 147) rfl, List.forall_mem_cons.mpr ⟨List.mem_of_getElem? (i := 148) rfl, List.forall_mem_cons.mpr ⟨List.mem_of_getElem? (i := 149) rfl, List.forall_mem_cons.mpr ⟨List.mem_of_getElem? (i := 150) rfl, wk_mn⟩⟩⟩⟩⟩⟩⟩⟩⟩⟩⟩⟩⟩⟩⟩⟩⟩⟩⟩⟩⟩⟩⟩⟩⟩⟩⟩⟩⟩⟩⟩⟩⟩⟩⟩⟩⟩⟩⟩⟩⟩⟩⟩⟩⟩⟩⟩⟩⟩⟩⟩⟩⟩⟩⟩⟩⟩⟩⟩⟩⟩⟩⟩⟩⟩⟩⟩⟩⟩⟩⟩⟩⟩⟩⟩⟩⟩⟩⟩⟩⟩⟩⟩⟩⟩⟩⟩⟩⟩⟩⟩⟩⟩) (by decide +kernel)
set_option maxRecDepth 20000 in
theorem gL_lays_X3_room : GoodIn wsL_lays (wsV RL 44 RX3 yX3_room wsX3_room) := goodIn_app (goodIn_sub (List.forall_mem_cons.mpr ⟨List.mem_of_getElem? (i := 1) rfl, List.forall_mem_cons.mpr ⟨List.mem_of_getElem? (i := 2) rfl, List.forall_mem_cons.mpr ⟨List.mem_of_getElem? (i := 3) rfl, List.forall_mem_cons.mpr ⟨List.mem_of_getElem? (i := 4) rfl, wk_mn⟩⟩⟩⟩) (by decide +kernel)) ggL_lays_X3_room
set_option maxRecDepth 20000 in
theorem ggL_lays_X3_need : GoodIn wsL_lays wsX3_need := goodIn_sub (List.forall_mem_cons.mpr ⟨List.mem_of_getElem? (i := 72) rfl, List.forall_mem_cons.mpr ⟨List.mem_of_getElem? (i := 6) rfl, List.forall_mem_cons.mpr ⟨List.mem_of_getElem? (i := 13) rfl, List.forall_mem_cons.mpr ⟨List.mem_of_getElem? (i := 14) rfl, List.forall_mem_cons.mpr ⟨List.mem_of_getElem? (i := 15) rfl, List.forall_mem_cons.mpr ⟨List.mem_of_getElem? (i := 4) rfl, List.forall_mem_cons.mpr ⟨List.mem_of_getElem? (i := 16) rfl, List.forall_mem_cons.mpr ⟨List.mem_of_getElem? (i := 17) rfl, List.forall_mem_cons.mpr ⟨List.mem_of_getElem? (i := 18) rfl, List.forall_mem_cons.mpr ⟨List.mem_of_getElem? (i := 19) rfl, List.forall_mem_cons.mpr ⟨List.mem_of_getElem? (i := 20) rfl, List.forall_mem_cons.mpr ⟨List.mem_of_getElem? (i := 21) rfl, List.forall_mem_cons.mpr ⟨List.mem_of_getElem? (i := 22) rfl, List.forall_mem_cons.mpr ⟨List.mem_of_getElem? (i := 23) rfl, List.forall_mem_cons.mpr ⟨List.mem_of_getElem? (i := 24) rfl, List.forall_mem_cons.mpr ⟨List.mem_of_getElem? (i := 25) rfl, List.forall_mem_cons.mpr ⟨List.mem_of_getElem? (i := 26) rfl, List.forall_mem_cons.mpr ⟨List.mem_of_getElem? (i := 27) rfl, List.forall_mem_cons.mpr ⟨List.mem_of_getElem? (i := 28) rfl, List.forall_mem_cons.mpr ⟨List.mem_of_getElem? (i := 29) rfl, List.forall_mem_cons.mpr ⟨List.mem_of_getElem? (i := 30) rfl, List.forall_mem_cons.mpr ⟨List.mem_of_getElem? (i := 31) rfl, List.forall_mem_cons.mpr ⟨List.mem_of_getElem? (i := 32) rfl, List.forall_mem_cons.mpr ⟨List.mem_of_getElem? (i := 33) rfl, List.forall_mem_cons.mpr ⟨List.mem_of_getElem? (i := 34) rfl, List.forall_mem_cons.mpr ⟨List.mem_of_getElem? (i := 35) rfl, List.forall_mem_cons.mpr ⟨List.mem_of_getElem? (i := 36) rfl, List.forall_mem_cons.mpr ⟨List.mem_of_getElem? (i := 37) rfl, List.forall_mem_cons.mpr ⟨List.mem_of_getElem? (i := 38) rfl, List.forall_mem_cons.mpr ⟨List.mem_of_getElem? (i := 39) rfl, List.forall_mem_cons.mpr ⟨List.mem_of_getElem? (i := 40) rfl, List.forall_mem_cons.mpr ⟨List.mem_of_getElem? (i := 41) rfl, List.forall_mem_cons.mpr ⟨List.mem_of_getElem? (i := 42) rfl, List.forall_mem_cons.mpr ⟨List.mem_of_getElem? (i := 43) rfl, List.forall_mem_cons.mpr ⟨List.mem_of_getElem? (i := 44) rfl, List.forall_mem_cons.mpr ⟨List.mem_of_getElem? (i := 45) rfl, List.forall_mem_cons.mpr ⟨List.mem_of_getElem? (i := 46) rfl, List.forall_mem_cons.mpr ⟨List.mem_of_getElem? (i := 47) rfl, List.forall_mem_cons.mpr ⟨List.mem_of_getElem? (i := 48) rfl, List.forall_mem_cons.mpr ⟨List.mem_of_getElem? (i := 49) rfl, List.forall_mem_cons.mpr ⟨List.mem_of_getElem? (i := 50) rfl, List.forall_mem_cons.mpr ⟨List.mem_of_getElem? (i := 51) rfl, List.forall_mem_cons.mpr ⟨List.mem_of_getElem? (i := 52) rfl, List.forall_mem_cons.mpr ⟨List.mem_of_getElem? (i := 53) rfl, List.forall_mem_cons.mpr ⟨List.mem_of_getElem? (i := 54) rfl, List.forall_mem_cons.mpr ⟨List.mem_of_getElem? (i := 55) rfl, List.forall_mem_cons.mpr ⟨List.mem_of_getElem? (i := 56) rfl, List.forall_mem_cons.mpr ⟨List.mem_of_getElem? (i := 73) rfl, List.forall_mem_cons.mpr ⟨List.mem_of_getElem? (i := 74) rfl, List.forall_mem_cons.mpr ⟨List.mem_of_getElem? (i := 75) rfl, List.forall_mem_cons.mpr ⟨List.mem_of_getElem? (i := 76) rfl, List.forall_mem_cons.mpr ⟨List.mem_of_getElem? (i := 77) rfl, List.forall_mem_cons.mpr ⟨List.mem_of_getElem? (i := 78) rfl, List.forall_mem_cons.mpr ⟨List.mem_of_getElem? (i := 79) rfl, List.forall_mem_cons.mpr ⟨List.mem_of_getElem? (i := 80) rfl, List.forall_mem_cons.mpr ⟨List.mem_of_getElem? (i := 81) rfl, List.forall_mem_cons.mpr ⟨List.mem_of_getElem? (i := 82) rfl, List.forall_mem_cons.mpr ⟨List.mem_of_getElem? (i := 11) rfl, List.forall_mem_cons.mpr ⟨List.mem_of_getElem? (i := 12) rfl, List.forall_mem_cons.mpr ⟨List.mem_of_getElem? (i := 61) rfl, List.forall_mem_cons.mpr ⟨List.mem_of_getElem? (i := 62) rfl, List.forall_mem_cons.mpr ⟨List.mem_of_getElem? (i := 63) rfl, List.forall_mem_cons.mpr ⟨List.mem_of_getElem? (i := 64) rfl, List.forall_mem_cons.mpr ⟨List.mem_of_getElem? (i := 65) rfl, List.forall_mem_cons.mpr ⟨List.mem_of_getElem? (i := 66) rfl, List.forall_mem_cons.mpr ⟨List.mem_of_getElem? (i := 67) rfl, List.forall_mem_cons.mpr ⟨List.mem_of_getElem? (i := 68) rfl, List.forall_mem_cons.mpr ⟨List.mem_of_getElem? (i := 123) rfl, List.forall_mem_cons.mpr ⟨List.mem_of_getElem? (i := 124) rfl, List.forall_mem_cons.mpr ⟨List.mem_of_getElem? (i := 125) rfl, List.forall_mem_cons.mpr ⟨List.mem_of_getElem? (i := 126) rfl, List.forall_mem_cons.mpr ⟨List.mem_of_getElem? (i := 127) rfl, List.forall_mem_cons.mpr ⟨List.mem_of_getElem? (i := 128) rfl, List.forall_mem_cons.mpr ⟨List.mem_of_getElem? (i := 129) rfl, List.forall_mem_cons.mpr ⟨List.mem_of_getElem? (i := 130) rfl, List.forall_mem_cons.mpr ⟨List.mem_of_getElem? (i := 131) rfl, List.forall_mem_cons.mpr ⟨List.mem_of_getElem? (i := 132) rfl, List.forall_mem_cons.mpr ⟨List.mem_of_getElem? (i := 133) rfl, List.forall_mem_cons.mpr ⟨List.mem_of_getElem? (i := 134) rfl, List.forall_mem_cons.mpr ⟨List.mem_of_getElem? (i := 135) rfl, List.forall_mem_cons.mpr ⟨List.mem_of_getElem? (i := 136) rfl, List.forall_mem_cons.mpr ⟨List.mem_of_getElem? (i := 137) rfl, List.forall_mem_cons.mpr ⟨List.mem_of_getElem? (i := 138) rfl, List.forall_mem_cons.mpr ⟨List.mem_of_getElem? (i := 139) rfl, List.forall_mem_cons.mpr ⟨List.mem_of_getElem? (i := 140) rfl, List.forall_mem_cons.mpr ⟨List.mem_of_getElem? (i := 141) rfl, List.forall_mem_cons.mpr ⟨List.mem_of_getElem? (i := 142) rfl, List.forall_mem_cons.mpr ⟨List.mem_of_getElem? (i := 143) rfl, List.forall_mem_cons.mpr ⟨List.mem_of_getElem? (i := 144) rfl, List.forall_mem_cons.mpr ⟨List.mem_of_getElem? (i := 145) rfl, List.forall_mem_cons.mpr ⟨List.mem_of_getElem? (i := 146) rfl, List.forall_mem_cons.mpr ⟨List.mem_of_getElem? (i := 147) rfl, List.forall_mem_cons.mpr ⟨List.mem_of_getElem? (i := 148) rfl, List.forall_mem_cons.mpr ⟨List.mem_of_getElem? (i := 149) rfl, List.forall_mem_cons.mpr ⟨List.mem_of_getElem? (i := 150) rfl, wk_mn⟩⟩⟩⟩⟩⟩⟩⟩⟩⟩⟩⟩⟩⟩⟩⟩⟩⟩⟩⟩⟩⟩⟩⟩⟩⟩⟩⟩⟩⟩⟩⟩⟩⟩⟩⟩⟩⟩⟩⟩⟩⟩⟩⟩⟩⟩⟩⟩⟩⟩⟩⟩⟩⟩⟩⟩⟩⟩⟩⟩⟩⟩⟩⟩⟩⟩⟩⟩⟩⟩⟩⟩⟩⟩⟩⟩⟩⟩⟩⟩⟩⟩⟩⟩⟩⟩⟩⟩⟩⟩⟩⟩⟩⟩⟩) (by decide +kernel)
set_option maxRecDepth 20000 in
theorem gL_lays_X3_need : GoodIn wsL_lays (wsV RL 50 RX3 yX3_need wsX3_need) := goodIn_app (goodIn_sub (List.forall_mem_cons.mpr ⟨List.mem_of_getElem? (i := 69) rfl, List.forall_mem_cons.mpr ⟨List.mem_of_getElem? (i := 70) rfl, List.forall_mem_cons.mpr ⟨List.mem_of_getElem? (i := 71) rfl, List.forall_mem_cons.mpr ⟨List.mem_of_getElem? (i := 4) rfl, wk_mn⟩⟩⟩⟩) (by decide +kernel)) ggL_lays_X3_need
set_option maxRecDepth 20000 in
theorem ggL_lays_X3_plug : GoodIn wsL_lays wsX3_plug := goodIn_sub (List.forall_mem_cons.mpr ⟨List.mem_of_getElem? (i := 86) rfl, List.forall_mem_cons.mpr ⟨List.mem_of_getElem? (i := 6) rfl, List.forall_mem_cons.mpr ⟨List.mem_of_getElem? (i := 13) rfl, List.forall_mem_cons.mpr ⟨List.mem_of_getElem? (i := 14) rfl, List.forall_mem_cons.mpr ⟨List.mem_of_getElem? (i := 15) rfl, List.forall_mem_cons.mpr ⟨List.mem_of_getElem? (i := 4) rfl, List.forall_mem_cons.mpr ⟨List.mem_of_getElem? (i := 16) rfl, List.forall_mem_cons.mpr ⟨List.mem_of_getElem? (i := 17) rfl, List.forall_mem_cons.mpr ⟨List.mem_of_getElem? (i := 18) rfl, List.forall_mem_cons.mpr ⟨List.mem_of_getElem? (i := 19) rfl, List.forall_mem_cons.mpr ⟨List.mem_of_getElem? (i := 20) rfl, List.forall_mem_cons.mpr ⟨List.mem_of_getElem? (i := 21) rfl, List.forall_mem_cons.mpr ⟨List.mem_of_getElem? (i := 22) rfl, List.forall_mem_cons.mpr ⟨List.mem_of_getElem? (i := 23) rfl, List.forall_mem_cons.mpr ⟨List.mem_of_getElem? (i := 24) rfl, List.forall_mem_cons.mpr ⟨List.mem_of_getElem? (i := 25) rfl, List.forall_mem_cons.mpr ⟨List.mem_of_getElem? (i := 26) rfl, List.forall_mem_cons.mpr ⟨List.mem_of_getElem? (i := 27) rfl, List.forall_mem_cons.mpr ⟨List.mem_of_getElem? (i := 28) rfl, List.forall_mem_cons.mpr ⟨List.mem_of_getElem? (i := 29) rfl, List.forall_mem_cons.mpr ⟨List.mem_of_getElem? (i := 30) rfl, List.forall_mem_cons.mpr ⟨List.mem_of_getElem? (i := 31) rfl, List.forall_mem_cons.mpr ⟨List.mem_of_getElem? (i := 32) rfl, List.forall_mem_cons.mpr ⟨List.mem_of_getElem? (i := 33) rfl, List.forall_mem_cons.mpr ⟨List.mem_of_getElem? (i := 34) rfl, List.forall_mem_cons.mpr ⟨List.mem_of_getElem? (i := 35) rfl, List.forall_mem_cons.mpr ⟨List.mem_of_getElem? (i := 36) rfl, List.forall_mem_cons.mpr ⟨List.mem_of_getElem? (i := 37) rfl, List.forall_mem_cons.mpr ⟨List.mem_of_getElem? (i := 38) rfl, List.forall_mem_cons.mpr ⟨List.mem_of_getElem? (i := 39) rfl, List.forall_mem_cons.mpr ⟨List.mem_of_getElem? (i := 40) rfl, List.forall_mem_cons.mpr ⟨List.mem_of_getElem? (i := 41) rfl, List.forall_mem_cons.mpr ⟨List.mem_of_getElem? (i := 42) rfl, List.forall_mem_cons.mpr ⟨List.mem_of_getElem? (i := 43) rfl, List.forall_mem_cons.mpr ⟨List.mem_of_getElem? (i := 44) rfl, List.forall_mem_cons.mpr ⟨List.mem_of_getElem? (i := 45) rfl, List.forall_mem_cons.mpr ⟨List.mem_of_getElem? (i := 46) rfl, List.forall_mem_cons.mpr ⟨List.mem_of_getElem? (i := 47) rfl, List.forall_mem_cons.mpr ⟨List.mem_of_getElem? (i := 48) rfl, List.forall_mem_cons.mpr ⟨List.mem_of_getElem? (i := 49) rfl, List.forall_mem_cons.mpr ⟨List.mem_of_getElem? (i := 50) rfl, List.forall_mem_cons.mpr ⟨List.mem_of_getElem? (i := 51) rfl, List.forall_mem_cons.mpr ⟨List.mem_of_getElem? (i := 52) rfl, List.forall_mem_cons.mpr ⟨List.mem_of_getElem? (i := 53) rfl, List.forall_mem_cons.mpr ⟨List.mem_of_getElem? (i := 54) rfl, List.forall_mem_cons.mpr ⟨List.mem_of_getElem? (i := 55) rfl, List.forall_mem_cons.mpr ⟨List.mem_of_getElem? (i := 56) rfl, List.forall_mem_cons.mpr ⟨List.mem_of_getElem? (i := 87) rfl, List.forall_mem_cons.mpr ⟨List.mem_of_getElem? (i := 88) rfl, List.forall_mem_cons.mpr ⟨List.mem_of_getElem? (i := 89) rfl, List.forall_mem_cons.mpr ⟨List.mem_of_getElem? (i := 90) rfl, List.forall_mem_cons.mpr ⟨List.mem_of_getElem? (i := 91) rfl, List.forall_mem_cons.mpr ⟨List.mem_of_getElem? (i := 92) rfl, List.forall_mem_cons.mpr ⟨List.mem_of_getElem? (i := 79) rfl, List.forall_mem_cons.mpr ⟨List.mem_of_getElem? (i := 80) rfl, List.forall_mem_cons.mpr ⟨List.mem_of_getElem? (i := 81) rfl, List.forall_mem_cons.mpr ⟨List.mem_of_getElem? (i := 82) rfl, List.forall_mem_cons.mpr ⟨List.mem_of_getElem? (i := 11) rfl, List.forall_mem_cons.mpr ⟨List.mem_of_getElem? (i := 12) rfl, List.forall_mem_cons.mpr ⟨List.mem_of_getElem? (i := 93) rfl, List.forall_mem_cons.mpr ⟨List.mem_of_getElem? (i := 94) rfl, List.forall_mem_cons.mpr ⟨List.mem_of_getElem? (i := 95) rfl, List.forall_mem_cons.mpr ⟨List.mem_of_getElem? (i := 96) rfl, List.forall_mem_cons.mpr ⟨List.mem_of_getElem? (i := 61) rfl, List.forall_mem_cons.mpr ⟨List.mem_of_getElem? (i := 62) rfl, List.forall_mem_cons.mpr ⟨List.mem_of_getElem? (i := 63) rfl, List.forall_mem_cons.mpr ⟨List.mem_of_getElem? (i := 64) rfl, List.forall_mem_cons.mpr ⟨List.mem_of_getElem? (i := 65) rfl, List.forall_mem_cons.mpr ⟨List.mem_of_getElem? (i := 66) rfl, List.forall_mem_cons.mpr ⟨List.mem_of_getElem? (i := 67) rfl, List.forall_mem_cons.mpr ⟨List.mem_of_getElem? (i := 68) rfl, List.forall_mem_cons.mpr ⟨List.mem_of_getElem? (i := 123) rfl, List.forall_mem_cons.mpr ⟨List.mem_of_getElem? (i := 124) rfl, List.forall_mem_cons.mpr ⟨List.mem_of_getElem? (i := 125) rfl, List.forall_mem_cons.mpr ⟨List.mem_of_getElem? (i := 126) rfl, List.forall_mem_cons.mpr ⟨List.mem_of_getElem? (i := 127) rfl, List.forall_mem_cons.mpr ⟨List.mem_of_getElem? (i := 128) rfl, List.forall_mem_cons.mpr ⟨List.mem_of_getElem? (i := 129) rfl, List.forall_mem_cons.mpr ⟨List.mem_of_getElem? (i := 130) rfl, List.forall_mem_cons.mpr ⟨List.mem_of_getElem? (i := 131) rfl, List.forall_mem_cons.mpr ⟨List.mem_of_getElem? (i := 132) rfl, List.forall_mem_cons.mpr ⟨List.mem_of_getElem? (i := 133) rfl, List.forall_mem_cons.mpr ⟨List.mem_of_getElem? (i := 134) rfl, List.forall_mem_cons.mpr ⟨List.mem_of_getElem? (i := 135) rfl, List.forall_mem_cons.mpr ⟨List.mem_of_getElem? (i := 136) rfl, List.forall_mem_cons.mpr ⟨List.mem_of_getElem? (i := 137) rfl, List.forall_mem_cons.mpr ⟨List.mem_of_getElem? (i := 138) rfl, List.forall_mem_cons.mpr ⟨List.mem_of_getElem? (i := 139) rfl, List.forall_mem_cons.mpr ⟨List.mem_of_getElem? (i := 140) rfl, List.forall_mem_cons.mpr ⟨List.mem_of_getElem? (i := 141) rfl, List.forall_mem_cons.mpr ⟨List.mem_of_getElem? (i := 142) rfl, List.forall_mem_cons.mpr ⟨List.mem_of_getElem? (i := 143) rfl, List.forall_mem_cons.mpr ⟨List.mem_of_getElem? (i := 144) rfl, List.forall_mem_cons.mpr ⟨List.mem_of_getElem? (i := 145) rfl, List.forall_mem_cons.mpr ⟨List.mem_of_getElem? (i := 146) rfl, List.forall_mem_cons.mpr ⟨List.mem_of_getElem? (i := 147) rfl, List.forall_mem_cons.mpr ⟨List.mem_of_getElem? (i := 148) rfl, List.forall_mem_cons.mpr ⟨List.mem_of_getElem? (i := 149) rfl, List.forall_mem_cons.mpr ⟨List.mem_of_getElem? (i := 150) rfl, wk_mn⟩⟩⟩⟩⟩⟩⟩⟩⟩⟩⟩⟩⟩⟩⟩⟩⟩⟩⟩⟩⟩⟩⟩⟩⟩⟩⟩⟩⟩⟩⟩⟩⟩⟩⟩⟩⟩⟩⟩⟩⟩⟩⟩⟩⟩⟩⟩⟩⟩⟩⟩⟩⟩⟩⟩⟩⟩⟩⟩⟩⟩⟩⟩⟩⟩⟩⟩⟩⟩⟩⟩⟩⟩⟩⟩⟩⟩⟩⟩⟩⟩⟩⟩⟩⟩⟩⟩⟩⟩⟩⟩⟩⟩⟩⟩⟩⟩⟩⟩) (by decide +kernel)
set_option maxRecDepth 20000 in
theorem gL_lays_X3_plug : GoodIn wsL_lays (wsV RL 54 RX3 yX3_plug wsX3_plug) := goodIn_app (goodIn_sub (List.forall_mem_cons.mpr ⟨List.mem_of_getElem? (i := 83) rfl, List.forall_mem_cons.mpr ⟨List.mem_of_getElem? (i := 84) rfl, List.forall_mem_cons.mpr ⟨List.mem_of_getElem? (i := 85) rfl, List.forall_mem_cons.mpr ⟨List.mem_of_getElem? (i := 4) rfl, wk_mn⟩⟩⟩⟩) (by decide +kernel)) ggL_lays_X3_plug
set_option maxRecDepth 20000 in
theorem ggL_lays_X3_unplug : GoodIn wsL_lays wsX3_unplug := goodIn_sub (List.forall_mem_cons.mpr ⟨List.mem_of_getElem? (i := 100) rfl, List.forall_mem_cons.mpr ⟨List.mem_of_getElem? (i := 6) rfl, List.forall_mem_cons.mpr ⟨List.mem_of_getElem? (i := 13) rfl, List.forall_mem_cons.mpr ⟨List.mem_of_getElem? (i := 14) rfl, List.forall_mem_cons.mpr ⟨List.mem_of_getElem? (i := 15) rfl, List.forall_mem_cons.mpr ⟨List.mem_of_getElem? (i := 4) rfl, List.forall_mem_cons.mpr ⟨List.mem_of_getElem? (i := 16) rfl, List.forall_mem_cons.mpr ⟨List.mem_of_getElem? (i := 17) rfl, List.forall_mem_cons.mpr ⟨List.mem_of_getElem? (i := 18) rfl, List.forall_mem_cons.mpr ⟨List.mem_of_getElem? (i := 19) rfl, List.forall_mem_cons.mpr ⟨List.mem_of_getElem? (i := 20) rfl, List.forall_mem_cons.mpr ⟨List.mem_of_getElem? (i := 21) rfl, List.forall_mem_cons.mpr ⟨List.mem_of_getElem? (i := 22) rfl, List.forall_mem_cons.mpr ⟨List.mem_of_getElem? (i := 23) rfl, List.forall_mem_cons.mpr ⟨List.mem_of_getElem? (i := 24) rfl, List.forall_mem_cons.mpr ⟨List.mem_of_getElem? (i := 25) rfl, List.forall_mem_cons.mpr ⟨List.mem_of_getElem? (i := 26) rfl, List.forall_mem_cons.mpr ⟨List.mem_of_getElem? (i := 27) rfl, List.forall_mem_cons.mpr ⟨List.mem_of_getElem? (i := 28) rfl, List.forall_mem_cons.mpr ⟨List.mem_of_getElem? (i := 29) rfl, List.forall_mem_cons.mpr ⟨List.mem_of_getElem? (i := 30) rfl, List.forall_mem_cons.mpr ⟨List.mem_of_getElem? (i := 31) rfl, List.forall_mem_cons.mpr ⟨List.mem_of_getElem? (i := 32) rfl, List.forall_mem_cons.mpr ⟨List.mem_of_getElem? (i := 33) rfl, List.forall_mem_cons.mpr ⟨List.mem_of_getElem? (i := 34) rfl, List.forall_mem_cons.mpr ⟨List.mem_of_getElem? (i := 35) rfl, List.forall_mem_cons.mpr ⟨List.mem_of_getElem? (i := 36) rfl, List.forall_mem_cons.mpr ⟨List.mem_of_getElem? (i := 37) rfl, List.forall_mem_cons.mpr ⟨List.mem_of_getElem? (i := 38) rfl, List.forall_mem_cons.mpr ⟨List.mem_of_getElem? (i := 39) rfl, List.forall_mem_cons.mpr ⟨List.mem_of_getElem? (i := 40) rfl, List.forall_mem_cons.mpr ⟨List.mem_of_getElem? (i := 41) rfl, List.forall_mem_cons.mpr ⟨List.mem_of_getElem? (i := 42) rfl, List.forall_mem_cons.mpr ⟨List.mem_of_getElem? (i := 43) rfl, List.forall_mem_cons.mpr ⟨List.mem_of_getElem? (i := 44) rfl, List.forall_mem_cons.mpr ⟨List.mem_of_getElem? (i := 45) rfl, List.forall_mem_cons.mpr ⟨List.mem_of_getElem? (i := 46) rfl, List.forall_mem_cons.mpr ⟨List.mem_of_getElem? (i := 47) rfl, List.forall_mem_cons.mpr ⟨List.mem_of_getElem? (i := 48) rfl, List.forall_mem_cons.mpr ⟨List.mem_of_getElem? (i := 49) rfl, List.forall_mem_cons.mpr ⟨List.mem_of_getElem? (i := 50) rfl, List.forall_mem_cons.mpr ⟨List.mem_of_getElem? (i := 51) rfl, List.forall_mem_cons.mpr ⟨List.mem_of_getElem? (i := 52) rfl, List.forall_mem_cons.mpr ⟨List.mem_of_getElem? (i := 53) rfl, List.forall_mem_cons.mpr ⟨List.mem_of_getElem? (i := 54) rfl, List.forall_mem_cons.mpr ⟨List.mem_of_getElem? (i := 55) rfl, List.forall_mem_cons.mpr ⟨List.mem_of_getElem? (i := 56) rfl, List.forall_mem_cons.mpr ⟨List.mem_of_getElem? (i := 101) rfl, List.forall_mem_cons.mpr ⟨List.mem_of_getElem? (i := 102) rfl, List.forall_mem_cons.mpr ⟨List.mem_of_getElem? (i := 103) rfl, List.forall_mem_cons.mpr ⟨List.mem_of_getElem? (i := 104) rfl, List.forall_mem_cons.mpr ⟨List.mem_of_getElem? (i := 91) rfl, List.forall_mem_cons.mpr ⟨List.mem_of_getElem? (i := 77) rfl, List.forall_mem_cons.mpr ⟨List.mem_of_getElem? (i := 79) rfl, List.forall_mem_cons.mpr ⟨List.mem_of_getElem? (i := 80) rfl, List.forall_mem_cons.mpr ⟨List.mem_of_getElem? (i := 81) rfl, List.forall_mem_cons.mpr ⟨List.mem_of_getElem? (i := 82) rfl, List.forall_mem_cons.mpr ⟨List.mem_of_getElem? (i := 93) rfl, List.forall_mem_cons.mpr ⟨List.mem_of_getElem? (i := 94) rfl, List.forall_mem_cons.mpr ⟨List.mem_of_getElem? (i := 95) rfl, List.forall_mem_cons.mpr ⟨List.mem_of_getElem? (i := 96) rfl, List.forall_mem_cons.mpr ⟨List.mem_of_getElem? (i := 61) rfl, List.forall_mem_cons.mpr ⟨List.mem_of_getElem? (i := 62) rfl, List.forall_mem_cons.mpr ⟨List.mem_of_getElem? (i := 63) rfl, List.forall_mem_cons.mpr ⟨List.mem_of_getElem? (i := 64) rfl, List.forall_mem_cons.mpr ⟨List.mem_of_getElem? (i := 65) rfl, List.forall_mem_cons.mpr ⟨List.mem_of_getElem? (i := 66) rfl, List.forall_mem_cons.mpr ⟨List.mem_of_getElem? (i := 67) rfl, List.forall_mem_cons.mpr ⟨List.mem_of_getElem? (i := 68) rfl, List.forall_mem_cons.mpr ⟨List.mem_of_getElem? (i := 123) rfl, List.forall_mem_cons.mpr ⟨List.mem_of_getElem? (i := 124) rfl, List.forall_mem_cons.mpr ⟨List.mem_of_getElem? (i := 125) rfl, List.forall_mem_cons.mpr ⟨List.mem_of_getElem? (i := 126) rfl, List.forall_mem_cons.mpr ⟨List.mem_of_getElem? (i := 127) rfl, List.forall_mem_cons.mpr ⟨List.mem_of_getElem? (i := 128) rfl, List.forall_mem_cons.mpr ⟨List.mem_of_getElem? (i := 129) rfl, List.forall_mem_cons.mpr ⟨List.mem_of_getElem? (i := 130) rfl, List.forall_mem_cons.mpr ⟨List.mem_of_getElem? (i := 131) rfl, List.forall_mem_cons.mpr ⟨List.mem_of_getElem? (i := 132) rfl, List.forall_mem_cons.mpr ⟨List.mem_of_getElem? (i := 133) rfl, List.forall_mem_cons.mpr ⟨List.mem_of_getElem? (i := 134) rfl, List.forall_mem_cons.mpr ⟨List.mem_of_getElem? (i := 135) rfl, List.forall_mem_cons.mpr ⟨List.mem_of_getElem? (i := 136) rfl, List.forall_mem_cons.mpr ⟨List.mem_of_getElem? (i := 137) rfl, List.forall_mem_cons.mpr ⟨List.mem_of_getElem? (i := 138) rfl, List.forall_mem_cons.mpr ⟨List.mem_of_getElem? (i := 139) rfl, List.forall_mem_cons.mpr ⟨List.mem_of_getElem? (i := 140) rfl, List.forall_mem_cons.mpr ⟨List.mem_of_getElem? (i := 141) rfl, List.forall_mem_cons.mpr ⟨List.mem_of_getElem? (i := 142) rfl, List.forall_mem_cons.mpr ⟨List.mem_of_getElem? (i := 143) rfl, List.forall_mem_cons.mpr ⟨List.mem_of_getElem? (i := 144) rfl, List.forall_mem_cons.mpr ⟨List.mem_of_getElem? (i := 145) rfl, List.forall_mem_cons.mpr ⟨List.mem_of_getElem? (i := 146) rfl, List.forall_mem_cons.mpr ⟨List.mem_of_getElem? (i := 147) rfl, List.forall_mem_cons.mpr ⟨List.mem_of_getElem? (i := 148) rfl, List.forall_mem_cons.mpr ⟨List.mem_of_getElem? (i := 149) rfl, List.forall_mem_cons.mpr ⟨List.mem_of_getElem? (i := 150) rfl, wk_mn⟩⟩⟩⟩⟩⟩⟩⟩⟩⟩⟩⟩⟩⟩⟩⟩⟩⟩⟩⟩⟩⟩⟩⟩⟩⟩⟩⟩⟩⟩⟩⟩⟩⟩⟩⟩⟩⟩⟩⟩⟩⟩⟩⟩⟩⟩⟩⟩⟩⟩⟩⟩⟩⟩⟩⟩⟩⟩⟩⟩⟩⟩⟩⟩⟩⟩⟩⟩⟩⟩⟩⟩⟩⟩⟩⟩⟩⟩⟩⟩⟩⟩⟩⟩⟩⟩⟩⟩⟩⟩⟩⟩⟩⟩⟩⟩⟩) (by decide +kernel)
set_option maxRecDepth 20000 in
theorem gL_lays_X3_unplug : GoodIn wsL_lays (wsV RL 57 RX3 yX3_unplug wsX3_unplug) := goodIn_app (goodIn_sub (List.forall_mem_cons.mpr ⟨List.mem_of_getElem? (i := 97) rfl, List.forall_mem_cons.mpr ⟨List.mem_of_getElem? (i := 98) rfl, List.forall_mem_cons.mpr ⟨List.mem_of_getElem? (i := 99) rfl, List.forall_mem_cons.mpr ⟨List.mem_of_getElem? (i := 4) rfl, wk_mn⟩⟩⟩⟩) (by decide +kernel)) ggL_lays_X3_unplug
set_option maxRecDepth 20000 in
theorem ggL_lays_X3_limit : GoodIn wsL_lays wsX3_limit := goodIn_sub (List.forall_mem_cons.mpr ⟨List.mem_of_getElem? (i := 108) rfl, List.forall_mem_cons.mpr ⟨List.mem_of_getElem? (i := 6) rfl, List.forall_mem_cons.mpr ⟨List.mem_of_getElem? (i := 13) rfl, List.forall_mem_cons.mpr ⟨List.mem_of_getElem? (i := 14) rfl, List.forall_mem_cons.mpr ⟨List.mem_of_getElem? (i := 15) rfl, List.forall_mem_cons.mpr ⟨List.mem_of_getElem? (i := 4) rfl, List.forall_mem_cons.mpr ⟨List.mem_of_getElem? (i := 16) rfl, List.forall_mem_cons.mpr ⟨List.mem_of_getElem? (i := 17) rfl, List.forall_mem_cons.mpr ⟨List.mem_of_getElem? (i := 18) rfl, List.forall_mem_cons.mpr ⟨List.mem_of_getElem? (i := 19) rfl, List.forall_mem_cons.mpr ⟨List.mem_of_getElem? (i := 20) rfl, List.forall_mem_cons.mpr ⟨List.mem_of_getElem? (i := 21) rfl, List.forall_mem_cons.mpr ⟨List.mem_of_getElem? (i := 22) rfl, List.forall_mem_cons.mpr ⟨List.mem_of_getElem? (i := 23) rfl, List.forall_mem_cons.mpr ⟨List.mem_of_getElem? (i := 24) rfl, List.forall_mem_cons.mpr ⟨List.mem_of_getElem? (i := 25) rfl, List.forall_mem_cons.mpr ⟨List.mem_of_getElem? (i := 26) rfl, List.forall_mem_cons.mpr ⟨List.mem_of_getElem? (i := 27) rfl, List.forall_mem_cons.mpr ⟨List.mem_of_getElem? (i := 28) rfl, List.forall_mem_cons.mpr ⟨List.mem_of_getElem? (i := 29) rfl, List.forall_mem_cons.mpr ⟨List.mem_of_getElem? (i := 30) rfl, List.forall_mem_cons.mpr ⟨List.mem_of_getElem? (i := 31) rfl, List.forall_mem_cons.mpr ⟨List.mem_of_getElem? (i := 32) rfl, List.forall_mem_cons.mpr ⟨List.mem_of_getElem? (i := 33) rfl, List.forall_mem_cons.mpr ⟨List.mem_of_getElem? (i := 34) rfl, List.forall_mem_cons.mpr ⟨List.mem_of_getElem? (i := 35) rfl, List.forall_mem_cons.mpr ⟨List.mem_of_getElem? (i := 36) rfl, List.forall_mem_cons.mpr ⟨List.mem_of_getElem? (i := 37) rfl, List.forall_mem_cons.mpr ⟨List.mem_of_getElem? (i := 38) rfl, List.forall_mem_cons.mpr ⟨List.mem_of_getElem? (i := 39) rfl, List.forall_mem_cons.mpr ⟨List.mem_of_getElem? (i := 40) rfl, List.forall_mem_cons.mpr ⟨List.mem_of_getElem? (i := 41) rfl, List.forall_mem_cons.mpr ⟨List.mem_of_getElem? (i := 42) rfl, List.forall_mem_cons.mpr ⟨List.mem_of_getElem? (i := 43) rfl, List.forall_mem_cons.mpr ⟨List.mem_of_getElem? (i := 44) rfl, List.forall_mem_cons.mpr ⟨List.mem_of_getElem? (i := 45) rfl, List.forall_mem_cons.mpr ⟨List.mem_of_getElem? (i := 46) rfl, List.forall_mem_cons.mpr ⟨List.mem_of_getElem? (i := 47) rfl, List.forall_mem_cons.mpr ⟨List.mem_of_getElem? (i := 48) rfl, List.forall_mem_cons.mpr ⟨List.mem_of_getElem? (i := 49) rfl, List.forall_mem_cons.mpr ⟨List.mem_of_getElem? (i := 50) rfl, List.forall_mem_cons.mpr ⟨List.mem_of_getElem? (i := 51) rfl, List.forall_mem_cons.mpr ⟨List.mem_of_getElem? (i := 52) rfl, List.forall_mem_cons.mpr ⟨List.mem_of_getElem? (i := 53) rfl, List.forall_mem_cons.mpr ⟨List.mem_of_getElem? (i := 54) rfl, List.forall_mem_cons.mpr ⟨List.mem_of_getElem? (i := 55) rfl, List.forall_mem_cons.mpr ⟨List.mem_of_getElem? (i := 56) rfl, List.forall_mem_cons.mpr ⟨List.mem_of_getElem? (i := 109) rfl, List.forall_mem_cons.mpr ⟨List.mem_of_getElem? (i := 110) rfl, List.forall_mem_cons.mpr ⟨List.mem_of_getElem? (i := 111) rfl, List.forall_mem_cons.mpr ⟨List.mem_of_getElem? (i := 112) rfl, List.forall_mem_cons.mpr ⟨List.mem_of_getElem? (i := 11) rfl, List.forall_mem_cons.mpr ⟨List.mem_of_getElem? (i := 12) rfl, List.forall_mem_cons.mpr ⟨List.mem_of_getElem? (i := 61) rfl, List.forall_mem_cons.mpr ⟨List.mem_of_getElem? (i := 62) rfl, List.forall_mem_cons.mpr ⟨List.mem_of_getElem? (i := 63) rfl, List.forall_mem_cons.mpr ⟨List.mem_of_getElem? (i := 64) rfl, List.forall_mem_cons.mpr ⟨List.mem_of_getElem? (i := 65) rfl, List.forall_mem_cons.mpr ⟨List.mem_of_getElem? (i := 66) rfl, List.forall_mem_cons.mpr ⟨List.mem_of_getElem? (i := 67) rfl, List.forall_mem_cons.mpr ⟨List.mem_of_getElem? (i := 68) rfl, List.forall_mem_cons.mpr ⟨List.mem_of_getElem? (i := 123) rfl, List.forall_mem_cons.mpr ⟨List.mem_of_getElem? (i := 124) rfl, List.forall_mem_cons.mpr ⟨List.mem_of_getElem? (i := 125) rfl, List.forall_mem_cons.mpr ⟨List.mem_of_getElem? (i := 126) rfl, List.forall_mem_cons.mpr ⟨List.mem_of_getElem? (i := 127) rfl, List.forall_mem_cons.mpr ⟨List.mem_of_getElem? (i := 128) rfl, List.forall_mem_cons.mpr ⟨List.mem_of_getElem? (i := 129) rfl, List.forall_mem_cons.mpr ⟨List.mem_of_getElem? (i := 130) rfl, List.forall_mem_cons.mpr ⟨List.mem_of_getElem? (i := 131) rfl, List.forall_mem_cons.mpr ⟨List.mem_of_getElem? (i := 132) rfl, List.forall_mem_cons.mpr ⟨List.mem_of_getElem? (i := 133) rfl, List.forall_mem_cons.mpr ⟨List.mem_of_getElem? (i := 134) rfl, List.forall_mem_cons.mpr ⟨List.mem_of_getElem? (i := 135) rfl, List.forall_mem_cons.mpr ⟨List.mem_of_getElem? (i := 136) rfl, List.forall_mem_cons.mpr ⟨List.mem_of_getElem? (i := 137) rfl, List.forall_mem_cons.mpr ⟨List.mem_of_getElem? (i := 138) rfl, List.forall_mem_cons.mpr ⟨List.mem_of_getElem? (i := 139) rfl, List.forall_mem_cons.mpr ⟨List.mem_of_getElem? (i := 140) rfl, List.forall_mem_cons.mpr ⟨List.mem_of_getElem? (i := 141) rfl, List.forall_mem_cons.mpr ⟨List.mem_of_getElem? (i := 142) rfl, List.forall_mem_cons.mpr ⟨List.mem_of_getElem? (i := 143) rfl, List.forall_mem_cons.mpr ⟨List.mem_of_getElem? (i := 144) rfl, List.forall_mem_cons.mpr ⟨List.mem_of_getElem? (i := 145) rfl, List.forall_mem_cons.mpr ⟨List.mem_of_getElem? (i := 146) rfl, List.forall_mem_cons.mpr ⟨List.mem_of_getElem? (i := 147) rfl, List.forall_mem_cons.mpr ⟨List.mem_of_getElem? (i := 148) rfl, List.forall_mem_cons.mpr ⟨List.mem_of_getElem? (i := 149) rfl, List.forall_mem_cons.mpr ⟨List.mem_of_getElem? (i := 150) rfl, wk_mn⟩⟩⟩⟩⟩⟩⟩⟩⟩⟩⟩⟩⟩⟩⟩⟩⟩⟩⟩⟩⟩⟩⟩⟩⟩⟩⟩⟩⟩⟩⟩⟩⟩⟩⟩⟩⟩⟩⟩⟩⟩⟩⟩⟩⟩⟩⟩⟩⟩⟩⟩⟩⟩⟩⟩⟩⟩⟩⟩⟩⟩⟩⟩⟩⟩⟩⟩⟩⟩⟩⟩⟩⟩⟩⟩⟩⟩⟩⟩⟩⟩⟩⟩⟩⟩⟩⟩⟩⟩) (by decide +kernel)
set_option maxRecDepth 20000 in
theorem gL_lays_X3_limit : GoodIn wsL_lays (wsV RL 61 RX3 yX3_limit wsX3_limit) := goodIn_app (goodIn_sub (List.forall_mem_cons.mpr ⟨List.mem_of_getElem? (i := 105) rfl, List.forall_mem_cons.mpr ⟨List.mem_of_getElem? (i := 106) rfl, List.forall_mem_cons.mpr ⟨List.mem_of_getElem? (i := 107) rfl, List.forall_mem_cons.mpr ⟨List.mem_of_getElem? (i := 4) rfl, wk_mn⟩⟩⟩⟩) (by decide +kernel)) ggL_lays_X3_limit
set_option maxRecDepth 20000 in
theorem ggL_lays_X3_policy : GoodIn wsL_lays wsX3_policy := goodIn_sub (List.forall_mem_cons.mpr ⟨List.mem_of_getElem? (i := 116) rfl, List.forall_mem_cons.mpr ⟨List.mem_of_getElem? (i := 6) rfl, List.forall_mem_cons.mpr ⟨List.mem_of_getElem? (i := 13) rfl, List.forall_mem_cons.mpr ⟨List.mem_of_getElem? (i := 14) rfl, List.forall_mem_cons.mpr ⟨List.mem_of_getElem? (i := 15) rfl, List.forall_mem_cons.mpr ⟨List.mem_of_getElem? (i := 4) rfl, List.forall_mem_cons.mpr ⟨List.mem_of_getElem? (i := 16) rfl, List.forall_mem_cons.mpr ⟨List.mem_of_getElem? (i := 17) rfl, List.forall_mem_cons.mpr ⟨List.mem_of_getElem? (i := 18) rfl, List.forall_mem_cons.mpr ⟨List.mem_of_getElem? (i := 19) rfl, List.forall_mem_cons.mpr ⟨List.mem_of_getElem? (i := 20) rfl, List.forall_mem_cons.mpr ⟨List.mem_of_getElem? (i := 21) rfl, List.forall_mem_cons.mpr ⟨List.mem_of_getElem? (i := 22) rfl, List.forall_mem_cons.mpr ⟨List.mem_of_getElem? (i := 23) rfl, List.forall_mem_cons.mpr ⟨List.mem_of_getElem? (i := 24) rfl, List.forall_mem_cons.mpr ⟨List.mem_of_getElem? (i := 25) rfl, List.forall_mem_cons.mpr ⟨List.mem_of_getElem? (i := 26) rfl, List.forall_mem_cons.mpr ⟨List.mem_of_getElem? (i := 27) rfl, List.forall_mem_cons.mpr ⟨List.mem_of_getElem? (i := 28) rfl, List.forall_mem_cons.mpr ⟨List.mem_of_getElem? (i := 29) rfl, List.forall_mem_cons.mpr ⟨List.mem_of_getElem? (i := 30) rfl, List.forall_mem_cons.mpr ⟨List.mem_of_getElem? (i := 31) rfl, List.forall_mem_cons.mpr ⟨List.mem_of_getElem? (i := 32) rfl, List.forall_mem_cons.mpr ⟨List.mem_of_getElem? (i := 33) rfl, List.forall_mem_cons.mpr ⟨List.mem_of_getElem? (i := 34) rfl, List.forall_mem_cons.mpr ⟨List.mem_of_getElem? (i := 35) rfl, List.forall_mem_cons.mpr ⟨List.mem_of_getElem? (i := 36) rfl, List.forall_mem_cons.mpr ⟨List.mem_of_getElem? (i := 37) rfl, List.forall_mem_cons.mpr ⟨List.mem_of_getElem? (i := 38) rfl, List.forall_mem_cons.mpr ⟨List.mem_of_getElem? (i := 39) rfl, List.forall_mem_cons.mpr ⟨List.mem_of_getElem? (i := 40) rfl, List.forall_mem_cons.mpr ⟨List.mem_of_getElem? (i := 41) rfl, List.forall_mem_cons.mpr ⟨List.mem_of_getElem? (i := 42) rfl, List.forall_mem_cons.mpr ⟨List.mem_of_getElem? (i := 43) rfl, List.forall_mem_cons.mpr ⟨List.mem_of_getElem? (i := 44) rfl, List.forall_mem_cons.mpr ⟨List.mem_of_getElem? (i := 45) rfl, List.forall_mem_cons.mpr ⟨List.mem_of_getElem? (i := 46) rfl, List.forall_mem_cons.mpr ⟨List.mem_of_getElem? (i := 47) rfl, List.forall_mem_cons.mpr ⟨List.mem_of_getElem? (i := 48) rfl, List.forall_mem_cons.mpr ⟨List.mem_of_getElem? (i := 49) rfl, List.forall_mem_cons.mpr ⟨List.mem_of_getElem? (i := 50) rfl, List.forall_mem_cons.mpr ⟨List.mem_of_getElem? (i := 51) rfl, List.forall_mem_cons.mpr ⟨List.mem_of_getElem? (i := 52) rfl, List.forall_mem_cons.mpr ⟨List.mem_of_getElem? (i := 53) rfl, List.forall_mem_cons.mpr ⟨List.mem_of_getElem? (i := 54) rfl, List.forall_mem_cons.mpr ⟨List.mem_of_getElem? (i := 55) rfl, List.forall_mem_cons.mpr ⟨List.mem_of_getElem? (i := 56) rfl, List.forall_mem_cons.mpr ⟨List.mem_of_getElem? (i := 117) rfl, List.forall_mem_cons.mpr ⟨List.mem_of_getElem? (i := 118) rfl, List.forall_mem_cons.mpr ⟨List.mem_of_getElem? (i := 119) rfl, List.forall_mem_cons.mpr ⟨List.mem_of_getElem? (i := 120) rfl, List.forall_mem_cons.mpr ⟨List.mem_of_getElem? (i := 121) rfl, List.forall_mem_cons.mpr ⟨List.mem_of_getElem? (i := 122) rfl, List.forall_mem_cons.mpr ⟨List.mem_of_getElem? (i := 79) rfl, List.forall_mem_cons.mpr ⟨List.mem_of_getElem? (i := 80) rfl, List.forall_mem_cons.mpr ⟨List.mem_of_getElem? (i := 81) rfl, List.forall_mem_cons.mpr ⟨List.mem_of_getElem? (i := 82) rfl, List.forall_mem_cons.mpr ⟨List.mem_of_getElem? (i := 11) rfl, List.forall_mem_cons.mpr ⟨List.mem_of_getElem? (i := 12) rfl, List.forall_mem_cons.mpr ⟨List.mem_of_getElem? (i := 61) rfl, List.forall_mem_cons.mpr ⟨List.mem_of_getElem? (i := 62) rfl, List.forall_mem_cons.mpr ⟨List.mem_of_getElem? (i := 63) rfl, List.forall_mem_cons.mpr ⟨List.mem_of_getElem? (i := 64) rfl, List.forall_mem_cons.mpr ⟨List.mem_of_getElem? (i := 65) rfl, List.forall_mem_cons.mpr ⟨List.mem_of_getElem? (i := 66) rfl, List.forall_mem_cons.mpr ⟨List.mem_of_getElem? (i := 67) rfl, List.forall_mem_cons.mpr ⟨List.mem_of_getElem? (i := 68) rfl, List.forall_mem_cons.mpr ⟨List.mem_of_getElem? (i := 123) rfl, List.forall_mem_cons.mpr ⟨List.mem_of_getElem? (i := 124) rfl, List.forall_mem_cons.mpr ⟨List.mem_of_getElem? (i := 125) rfl, List.forall_mem_cons.mpr ⟨List.mem_of_getElem? (i := 126) rfl, List.forall_mem_cons.mpr ⟨List.mem_of_getElem? (i := 127) rfl, List.forall_mem_cons.mpr ⟨List.mem_of_getElem? (i := 128) rfl, List.forall_mem_cons.mpr ⟨List.mem_of_getElem? (i := 129) rfl, List.forall_mem_cons.mpr ⟨List.mem_of_getElem? (i := 130) rfl, List.forall_mem_cons.mpr ⟨List.mem_of_getElem? (i := 131) rfl, List.forall_mem_cons.mpr ⟨List.mem_of_getElem? (i := 132) rfl, List.forall_mem_cons.mpr ⟨List.mem_of_getElem? (i := 133) rfl, List.forall_mem_cons.mpr ⟨List.mem_of_getElem? (i := 134) rfl, List.forall_mem_cons.mpr ⟨List.mem_of_getElem? (i := 135) rfl, List.forall_mem_cons.mpr ⟨List.mem_of_getElem? (i := 136) rfl, List.forall_mem_cons.mpr ⟨List.mem_of_getElem? (i := 137) rfl, List.forall_mem_cons.mpr ⟨List.mem_of_getElem? (i := 138) rfl, List.forall_mem_cons.mpr ⟨List.mem_of_getElem? (i := 139) rfl, List.forall_mem_cons.mpr ⟨List.mem_of_getElem? (i := 140) rfl, List.forall_mem_cons.mpr ⟨List.mem_of_getElem? (i := 141) rfl, List.forall_mem_cons.mpr ⟨List.mem_of_getElem? (i := 142) rfl, List.forall_mem_cons.mpr ⟨List.mem_of_getElem? (i := 143) rfl, List.forall_mem_cons.mpr ⟨List.mem_of_getElem? (i := 144) rfl, List.forall_mem_cons.mpr ⟨List.mem_of_getElem? (i := 145) rfl, List.forall_mem_cons.mpr ⟨List.mem_of_getElem? (i := 146) rfl, List.forall_mem_cons.mpr ⟨List.mem_of_getElem? (i := 147) rfl, List.forall_mem_cons.mpr ⟨List.mem_of_getElem? (i := 148) rfl, List.forall_mem_cons.mpr ⟨List.mem_of_getElem? (i := 149) rfl, List.forall_mem_cons.mpr ⟨List.mem_of_getElem? (i := 150) rfl, wk_mn⟩⟩⟩⟩⟩⟩⟩⟩⟩⟩⟩⟩⟩⟩⟩⟩⟩⟩⟩⟩⟩⟩⟩⟩⟩⟩⟩⟩⟩⟩⟩⟩⟩⟩⟩⟩⟩⟩⟩⟩⟩⟩⟩⟩⟩⟩⟩⟩⟩⟩⟩⟩⟩⟩⟩⟩⟩⟩⟩⟩⟩⟩⟩⟩⟩⟩⟩⟩⟩⟩⟩⟩⟩⟩⟩⟩⟩⟩⟩⟩⟩⟩⟩⟩⟩⟩⟩⟩⟩⟩⟩⟩⟩⟩⟩) (by decide +kernel)
set_option maxRecDepth 20000 in
theorem gL_lays_X3_policy : GoodIn wsL_lays (wsV RL 64 RX3 yX3_policy wsX3_policy) := goodIn_app (goodIn_sub (List.forall_mem_cons.mpr ⟨List.mem_of_getElem? (i := 113) rfl, List.forall_mem_cons.mpr ⟨List.mem_of_getElem? (i := 114) rfl, List.forall_mem_cons.mpr ⟨List.mem_of_getElem? (i := 115) rfl, List.forall_mem_cons.mpr ⟨List.mem_of_getElem? (i := 4) rfl, wk_mn⟩⟩⟩⟩) (by decide +kernel)) ggL_lays_X3_policy
theorem dL_lays_0 : decode cL_lays 0 = .ok (.iload 6, 2) := by decide +kernel
theorem dL_lays_2 : decode cL_lays 2 = .ok (.ifCond .ne 213, 3) := by decide +kernel
theorem dL_lays_5 : decode cL_lays 5 = .ok (.iload 5, 2) := by decide +kernel
theorem dL_lays_7 : decode cL_lays 7 = .ok (.iconst 2, 1) := by decide +kernel
theorem dL_lays_8 : decode cL_lays 8 = .ok (.irem, 1) := by decide +kernel
theorem dL_lays_9 : decode cL_lays 9 = .ok (.istore 7, 2) := by decide +kernel
theorem dL_lays_11 : decode cL_lays 11 = .ok (.aload_n 1, 1) := by decide +kernel
theorem dL_lays_12 : decode cL_lays 12 = .ok (.iconst 0, 1) := by decide +kernel
theorem dL_lays_13 : decode cL_lays 13 = .ok (.iaload, 1) := by decide +kernel
theorem dL_lays_14 : decode cL_lays 14 = .ok (.bipush 8, 2) := by decide +kernel
theorem dL_lays_16 : decode cL_lays 16 = .ok (.if_icmp .ne 39, 3) := by decide +kernel
theorem dL_lays_19 : decode cL_lays 19 = .ok (.aload_n 0, 1) := by decide +kernel
theorem dL_lays_20 : decode cL_lays 20 = .ok (.iload 7, 2) := by decide +kernel
theorem dL_lays_22 : decode cL_lays 22 = .ok (.iconst 0, 1) := by decide +kernel
theorem dL_lays_23 : decode cL_lays 23 = .ok (.iconst 1, 1) := by decide +kernel
theorem dL_lays_24 : decode cL_lays 24 = .ok (.iconst 1, 1) := by decide +kernel
theorem dL_lays_25 : decode cL_lays 25 = .ok (.iconst 0, 1) := by decide +kernel
theorem dL_lays_26 : decode cL_lays 26 = .ok (.iconst 0, 1) := by decide +kernel
theorem dL_lays_27 : decode cL_lays 27 = .ok (.invokevirtual 44, 3) := by decide +kernel
theorem dL_lays_30 : decode cL_lays 30 = .ok (.bipush (-3), 2) := by decide +kernel
theorem dL_lays_32 : decode cL_lays 32 = .ok (.if_icmp .ne 21, 3) := by decide +kernel
theorem dL_lays_35 : decode cL_lays 35 = .ok (.aload_n 0, 1) := by decide +kernel
theorem dL_lays_36 : decode cL_lays 36 = .ok (.iconst 2, 1) := by decide +kernel
theorem dL_lays_37 : decode cL_lays 37 = .ok (.iconst 0, 1) := by decide +kernel
theorem dL_lays_38 : decode cL_lays 38 = .ok (.iconst 1, 1) := by decide +kernel
theorem dL_lays_39 : decode cL_lays 39 = .ok (.iconst 1, 1) := by decide +kernel
theorem dL_lays_40 : decode cL_lays 40 = .ok (.iconst 0, 1) := by decide +kernel
theorem dL_lays_41 : decode cL_lays 41 = .ok (.iconst 0, 1) := by decide +kernel
theorem dL_lays_42 : decode cL_lays 42 = .ok (.invokevirtual 44, 3) := by decide +kernel
theorem dL_lays_45 : decode cL_lays 45 = .ok (.iconst (-1), 1) := by decide +kernel
theorem dL_lays_46 : decode cL_lays 46 = .ok (.if_icmp .ne 7, 3) := by decide +kernel
theorem dL_lays_49 : decode cL_lays 49 = .ok (.iconst 1, 1) := by decide +kernel
theorem dL_lays_50 : decode cL_lays 50 = .ok (.goto 4, 3) := by decide +kernel
theorem dL_lays_53 : decode cL_lays 53 = .ok (.iconst 0, 1) := by decide +kernel
theorem dL_lays_54 : decode cL_lays 54 = .ok (.ireturn, 1) := by decide +kernel
theorem dL_lays_55 : decode cL_lays 55 = .ok (.bipush 8, 2) := by decide +kernel
theorem dL_lays_57 : decode cL_lays 57 = .ok (.aload_n 1, 1) := by decide +kernel
theorem dL_lays_58 : decode cL_lays 58 = .ok (.iconst 0, 1) := by decide +kernel
theorem dL_lays_59 : decode cL_lays 59 = .ok (.iaload, 1) := by decide +kernel
theorem dL_lays_60 : decode cL_lays 60 = .ok (.imul, 1) := by decide +kernel
theorem dL_lays_61 : decode cL_lays 61 = .ok (.istore 8, 2) := by decide +kernel
theorem dL_lays_63 : decode cL_lays 63 = .ok (.aload_n 2, 1) := by decide +kernel
theorem dL_lays_64 : decode cL_lays 64 = .ok (.iload 8, 2) := by decide +kernel
theorem dL_lays_66 : decode cL_lays 66 = .ok (.iload 7, 2) := by decide +kernel
theorem dL_lays_68 : decode cL_lays 68 = .ok (.iastore, 1) := by decide +kernel
theorem dL_lays_69 : decode cL_lays 69 = .ok (.aload_n 2, 1) := by decide +kernel
theorem dL_lays_70 : decode cL_lays 70 = .ok (.iload 8, 2) := by decide +kernel
theorem dL_lays_72 : decode cL_lays 72 = .ok (.iconst 1, 1) := by decide +kernel
theorem dL_lays_73 : decode cL_lays 73 = .ok (.iadd, 1) := by decide +kernel
theorem dL_lays_74 : decode cL_lays 74 = .ok (.iload 5, 2) := by decide +kernel
theorem dL_lays_76 : decode cL_lays 76 = .ok (.iconst 2, 1) := by decide +kernel
theorem dL_lays_77 : decode cL_lays 77 = .ok (.idiv, 1) := by decide +kernel
theorem dL_lays_78 : decode cL_lays 78 = .ok (.bipush 80, 2) := by decide +kernel
theorem dL_lays_80 : decode cL_lays 80 = .ok (.irem, 1) := by decide +kernel
theorem dL_lays_81 : decode cL_lays 81 = .ok (.iastore, 1) := by decide +kernel
theorem dL_lays_82 : decode cL_lays 82 = .ok (.aload_n 2, 1) := by decide +kernel
theorem dL_lays_83 : decode cL_lays 83 = .ok (.iload 8, 2) := by decide +kernel
theorem dL_lays_85 : decode cL_lays 85 = .ok (.iconst 2, 1) := by decide +kernel
theorem dL_lays_86 : decode cL_lays 86 = .ok (.iadd, 1) := by decide +kernel
theorem dL_lays_87 : decode cL_lays 87 = .ok (.iconst 1, 1) := by decide +kernel
theorem dL_lays_88 : decode cL_lays 88 = .ok (.iload 5, 2) := by decide +kernel
theorem dL_lays_90 : decode cL_lays 90 = .ok (.bipush 7, 2) := by decide +kernel
theorem dL_lays_92 : decode cL_lays 92 = .ok (.idiv, 1) := by decide +kernel
theorem dL_lays_93 : decode cL_lays 93 = .ok (.bipush 9, 2) := by decide +kernel
theorem dL_lays_95 : decode cL_lays 95 = .ok (.irem, 1) := by decide +kernel
theorem dL_lays_96 : decode cL_lays 96 = .ok (.iadd, 1) := by decide +kernel
theorem dL_lays_97 : decode cL_lays 97 = .ok (.iastore, 1) := by decide +kernel
theorem dL_lays_98 : decode cL_lays 98 = .ok (.aload_n 2, 1) := by decide +kernel
theorem dL_lays_99 : decode cL_lays 99 = .ok (.iload 8, 2) := by decide +kernel
theorem dL_lays_101 : decode cL_lays 101 = .ok (.iconst 3, 1) := by decide +kernel
theorem dL_lays_102 : decode cL_lays 102 = .ok (.iadd, 1) := by decide +kernel
theorem dL_lays_103 : decode cL_lays 103 = .ok (.iconst 1, 1) := by decide +kernel
theorem dL_lays_104 : decode cL_lays 104 = .ok (.iload 5, 2) := by decide +kernel
theorem dL_lays_106 : decode cL_lays 106 = .ok (.bipush 11, 2) := by decide +kernel
theorem dL_lays_108 : decode cL_lays 108 = .ok (.idiv, 1) := by decide +kernel
theorem dL_lays_109 : decode cL_lays 109 = .ok (.bipush 50, 2) := by decide +kernel
theorem dL_lays_111 : decode cL_lays 111 = .ok (.irem, 1) := by decide +kernel
theorem dL_lays_112 : decode cL_lays 112 = .ok (.iadd, 1) := by decide +kernel
theorem dL_lays_113 : decode cL_lays 113 = .ok (.iastore, 1) := by decide +kernel
theorem dL_lays_114 : decode cL_lays 114 = .ok (.aload_n 2, 1) := by decide +kernel
theorem dL_lays_115 : decode cL_lays 115 = .ok (.iload 8, 2) := by decide +kernel
theorem dL_lays_117 : decode cL_lays 117 = .ok (.iconst 4, 1) := by decide +kernel
theorem dL_lays_118 : decode cL_lays 118 = .ok (.iadd, 1) := by decide +kernel
theorem dL_lays_119 : decode cL_lays 119 = .ok (.iload 5, 2) := by decide +kernel
theorem dL_lays_121 : decode cL_lays 121 = .ok (.bipush 13, 2) := by decide +kernel
theorem dL_lays_123 : decode cL_lays 123 = .ok (.idiv, 1) := by decide +kernel
theorem dL_lays_124 : decode cL_lays 124 = .ok (.bipush 51, 2) := by decide +kernel
theorem dL_lays_126 : decode cL_lays 126 = .ok (.irem, 1) := by decide +kernel
theorem dL_lays_127 : decode cL_lays 127 = .ok (.iastore, 1) := by decide +kernel
theorem dL_lays_128 : decode cL_lays 128 = .ok (.aload_n 2, 1) := by decide +kernel
theorem dL_lays_129 : decode cL_lays 129 = .ok (.iload 8, 2) := by decide +kernel
theorem dL_lays_131 : decode cL_lays 131 = .ok (.iconst 5, 1) := by decide +kernel
theorem dL_lays_132 : decode cL_lays 132 = .ok (.iadd, 1) := by decide +kernel
theorem dL_lays_133 : decode cL_lays 133 = .ok (.iload 5, 2) := by decide +kernel
theorem dL_lays_135 : decode cL_lays 135 = .ok (.bipush 17, 2) := by decide +kernel
theorem dL_lays_137 : decode cL_lays 137 = .ok (.idiv, 1) := by decide +kernel
theorem dL_lays_138 : decode cL_lays 138 = .ok (.bipush 21, 2) := by decide +kernel
theorem dL_lays_140 : decode cL_lays 140 = .ok (.irem, 1) := by decide +kernel
theorem dL_lays_141 : decode cL_lays 141 = .ok (.iastore, 1) := by decide +kernel
theorem dL_lays_142 : decode cL_lays 142 = .ok (.aload_n 2, 1) := by decide +kernel
theorem dL_lays_143 : decode cL_lays 143 = .ok (.iload 8, 2) := by decide +kernel
theorem dL_lays_145 : decode cL_lays 145 = .ok (.bipush 6, 2) := by decide +kernel
theorem dL_lays_147 : decode cL_lays 147 = .ok (.iadd, 1) := by decide +kernel
theorem dL_lays_148 : decode cL_lays 148 = .ok (.iconst (-1), 1) := by decide +kernel
theorem dL_lays_149 : decode cL_lays 149 = .ok (.iastore, 1) := by decide +kernel
theorem dL_lays_150 : decode cL_lays 150 = .ok (.aload_n 2, 1) := by decide +kernel
theorem dL_lays_151 : decode cL_lays 151 = .ok (.iload 8, 2) := by decide +kernel
theorem dL_lays_153 : decode cL_lays 153 = .ok (.bipush 7, 2) := by decide +kernel
theorem dL_lays_155 : decode cL_lays 155 = .ok (.iadd, 1) := by decide +kernel
theorem dL_lays_156 : decode cL_lays 156 = .ok (.iconst (-1), 1) := by decide +kernel
theorem dL_lays_157 : decode cL_lays 157 = .ok (.iastore, 1) := by decide +kernel
theorem dL_lays_158 : decode cL_lays 158 = .ok (.aload_n 1, 1) := by decide +kernel
theorem dL_lays_159 : decode cL_lays 159 = .ok (.iconst 0, 1) := by decide +kernel
theorem dL_lays_160 : decode cL_lays 160 = .ok (.dup2, 1) := by decide +kernel
theorem dL_lays_161 : decode cL_lays 161 = .ok (.iaload, 1) := by decide +kernel
theorem dL_lays_162 : decode cL_lays 162 = .ok (.iconst 1, 1) := by decide +kernel
theorem dL_lays_163 : decode cL_lays 163 = .ok (.iadd, 1) := by decide +kernel
theorem dL_lays_164 : decode cL_lays 164 = .ok (.iastore, 1) := by decide +kernel
theorem dL_lays_165 : decode cL_lays 165 = .ok (.aload_n 0, 1) := by decide +kernel
theorem dL_lays_166 : decode cL_lays 166 = .ok (.iload 7, 2) := by decide +kernel
theorem dL_lays_168 : decode cL_lays 168 = .ok (.aload_n 2, 1) := by decide +kernel
theorem dL_lays_169 : decode cL_lays 169 = .ok (.iload 8, 2) := by decide +kernel
theorem dL_lays_171 : decode cL_lays 171 = .ok (.iconst 1, 1) := by decide +kernel
theorem dL_lays_172 : decode cL_lays 172 = .ok (.iadd, 1) := by decide +kernel
theorem dL_lays_173 : decode cL_lays 173 = .ok (.iaload, 1) := by decide +kernel
theorem dL_lays_174 : decode cL_lays 174 = .ok (.aload_n 2, 1) := by decide +kernel
theorem dL_lays_175 : decode cL_lays 175 = .ok (.iload 8, 2) := by decide +kernel
theorem dL_lays_177 : decode cL_lays 177 = .ok (.iconst 2, 1) := by decide +kernel
theorem dL_lays_178 : decode cL_lays 178 = .ok (.iadd, 1) := by decide +kernel
theorem dL_lays_179 : decode cL_lays 179 = .ok (.iaload, 1) := by decide +kernel
theorem dL_lays_180 : decode cL_lays 180 = .ok (.aload_n 2, 1) := by decide +kernel
theorem dL_lays_181 : decode cL_lays 181 = .ok (.iload 8, 2) := by decide +kernel
theorem dL_lays_183 : decode cL_lays 183 = .ok (.iconst 3, 1) := by decide +kernel
theorem dL_lays_184 : decode cL_lays 184 = .ok (.iadd, 1) := by decide +kernel
theorem dL_lays_185 : decode cL_lays 185 = .ok (.iaload, 1) := by decide +kernel
theorem dL_lays_186 : decode cL_lays 186 = .ok (.aload_n 2, 1) := by decide +kernel
theorem dL_lays_187 : decode cL_lays 187 = .ok (.iload 8, 2) := by decide +kernel
theorem dL_lays_189 : decode cL_lays 189 = .ok (.iconst 4, 1) := by decide +kernel
theorem dL_lays_190 : decode cL_lays 190 = .ok (.iadd, 1) := by decide +kernel
theorem dL_lays_191 : decode cL_lays 191 = .ok (.iaload, 1) := by decide +kernel
theorem dL_lays_192 : decode cL_lays 192 = .ok (.aload_n 2, 1) := by decide +kernel
theorem dL_lays_193 : decode cL_lays 193 = .ok (.iload 8, 2) := by decide +kernel
theorem dL_lays_195 : decode cL_lays 195 = .ok (.iconst 5, 1) := by decide +kernel
theorem dL_lays_196 : decode cL_lays 196 = .ok (.iadd, 1) := by decide +kernel
theorem dL_lays_197 : decode cL_lays 197 = .ok (.iaload, 1) := by decide +kernel
theorem dL_lays_198 : decode cL_lays 198 = .ok (.invokevirtual 44, 3) := by decide +kernel
theorem dL_lays_201 : decode cL_lays 201 = .ok (.aload_n 1, 1) := by decide +kernel
theorem dL_lays_202 : decode cL_lays 202 = .ok (.iconst 0, 1) := by decide +kernel
theorem dL_lays_203 : decode cL_lays 203 = .ok (.iaload, 1) := by decide +kernel
theorem dL_lays_204 : decode cL_lays 204 = .ok (.iconst 1, 1) := by decide +kernel
theorem dL_lays_205 : decode cL_lays 205 = .ok (.isub, 1) := by decide +kernel
theorem dL_lays_206 : decode cL_lays 206 = .ok (.if_icmp .ne 7, 3) := by decide +kernel
theorem dL_lays_209 : decode cL_lays 209 = .ok (.iconst 1, 1) := by decide +kernel
theorem dL_lays_210 : decode cL_lays 210 = .ok (.goto 4, 3) := by decide +kernel
theorem dL_lays_213 : decode cL_lays 213 = .ok (.iconst 0, 1) := by decide +kernel
theorem dL_lays_214 : decode cL_lays 214 = .ok (.ireturn, 1) := by decide +kernel
theorem dL_lays_215 : decode cL_lays 215 = .ok (.iload 5, 2) := by decide +kernel
theorem dL_lays_217 : decode cL_lays 217 = .ok (.aload_n 1, 1) := by decide +kernel
theorem dL_lays_218 : decode cL_lays 218 = .ok (.iconst 0, 1) := by decide +kernel
theorem dL_lays_219 : decode cL_lays 219 = .ok (.iaload, 1) := by decide +kernel
theorem dL_lays_220 : decode cL_lays 220 = .ok (.irem, 1) := by decide +kernel
theorem dL_lays_221 : decode cL_lays 221 = .ok (.istore 7, 2) := by decide +kernel
theorem dL_lays_223 : decode cL_lays 223 = .ok (.iload 6, 2) := by decide +kernel
theorem dL_lays_225 : decode cL_lays 225 = .ok (.iconst 1, 1) := by decide +kernel
theorem dL_lays_226 : decode cL_lays 226 = .ok (.if_icmp .ne 117, 3) := by decide +kernel
theorem dL_lays_229 : decode cL_lays 229 = .ok (.iload 5, 2) := by decide +kernel
theorem dL_lays_231 : decode cL_lays 231 = .ok (.bipush 8, 2) := by decide +kernel
theorem dL_lays_233 : decode cL_lays 233 = .ok (.idiv, 1) := by decide +kernel
theorem dL_lays_234 : decode cL_lays 234 = .ok (.iload 7, 2) := by decide +kernel
theorem dL_lays_236 : decode cL_lays 236 = .ok (.iconst 2, 1) := by decide +kernel
theorem dL_lays_237 : decode cL_lays 237 = .ok (.iadd, 1) := by decide +kernel
theorem dL_lays_238 : decode cL_lays 238 = .ok (.irem, 1) := by decide +kernel
theorem dL_lays_239 : decode cL_lays 239 = .ok (.iconst 1, 1) := by decide +kernel
theorem dL_lays_240 : decode cL_lays 240 = .ok (.isub, 1) := by decide +kernel
theorem dL_lays_241 : decode cL_lays 241 = .ok (.istore 8, 2) := by decide +kernel
theorem dL_lays_243 : decode cL_lays 243 = .ok (.aload_n 2, 1) := by decide +kernel
theorem dL_lays_244 : decode cL_lays 244 = .ok (.bipush 8, 2) := by decide +kernel
theorem dL_lays_246 : decode cL_lays 246 = .ok (.iload 7, 2) := by decide +kernel
theorem dL_lays_248 : decode cL_lays 248 = .ok (.imul, 1) := by decide +kernel
theorem dL_lays_249 : decode cL_lays 249 = .ok (.bipush 6, 2) := by decide +kernel
theorem dL_lays_251 : decode cL_lays 251 = .ok (.iadd, 1) := by decide +kernel
theorem dL_lays_252 : decode cL_lays 252 = .ok (.iaload, 1) := by decide +kernel
theorem dL_lays_253 : decode cL_lays 253 = .ok (.istore 9, 2) := by decide +kernel
theorem dL_lays_255 : decode cL_lays 255 = .ok (.aload_n 3, 1) := by decide +kernel
theorem dL_lays_256 : decode cL_lays 256 = .ok (.bipush 8, 2) := by decide +kernel
theorem dL_lays_258 : decode cL_lays 258 = .ok (.iload 7, 2) := by decide +kernel
theorem dL_lays_260 : decode cL_lays 260 = .ok (.imul, 1) := by decide +kernel
theorem dL_lays_261 : decode cL_lays 261 = .ok (.iaload, 1) := by decide +kernel
theorem dL_lays_262 : decode cL_lays 262 = .ok (.ifCond .ne 14, 3) := by decide +kernel
theorem dL_lays_265 : decode cL_lays 265 = .ok (.iload 8, 2) := by decide +kernel
theorem dL_lays_267 : decode cL_lays 267 = .ok (.iload 7, 2) := by decide +kernel
theorem dL_lays_269 : decode cL_lays 269 = .ok (.if_icmp .ge 7, 3) := by decide +kernel
theorem dL_lays_272 : decode cL_lays 272 = .ok (.iconst 1, 1) := by decide +kernel
theorem dL_lays_273 : decode cL_lays 273 = .ok (.goto 4, 3) := by decide +kernel
theorem dL_lays_276 : decode cL_lays 276 = .ok (.iconst 0, 1) := by decide +kernel
theorem dL_lays_277 : decode cL_lays 277 = .ok (.istore 10, 2) := by decide +kernel
theorem dL_lays_279 : decode cL_lays 279 = .ok (.aload_n 2, 1) := by decide +kernel
theorem dL_lays_280 : decode cL_lays 280 = .ok (.bipush 8, 2) := by decide +kernel
theorem dL_lays_282 : decode cL_lays 282 = .ok (.iload 7, 2) := by decide +kernel
theorem dL_lays_284 : decode cL_lays 284 = .ok (.imul, 1) := by decide +kernel
theorem dL_lays_285 : decode cL_lays 285 = .ok (.bipush 6, 2) := by decide +kernel
theorem dL_lays_287 : decode cL_lays 287 = .ok (.iadd, 1) := by decide +kernel
theorem dL_lays_288 : decode cL_lays 288 = .ok (.iload 10, 2) := by decide +kernel
theorem dL_lays_290 : decode cL_lays 290 = .ok (.ifCond .eq 8, 3) := by decide +kernel
theorem dL_lays_293 : decode cL_lays 293 = .ok (.iload 8, 2) := by decide +kernel
theorem dL_lays_295 : decode cL_lays 295 = .ok (.goto 5, 3) := by decide +kernel
theorem dL_lays_298 : decode cL_lays 298 = .ok (.iload 9, 2) := by decide +kernel
theorem dL_lays_300 : decode cL_lays 300 = .ok (.iastore, 1) := by decide +kernel
theorem dL_lays_301 : decode cL_lays 301 = .ok (.aload_n 0, 1) := by decide +kernel
theorem dL_lays_302 : decode cL_lays 302 = .ok (.iload 7, 2) := by decide +kernel
theorem dL_lays_304 : decode cL_lays 304 = .ok (.iload 8, 2) := by decide +kernel
theorem dL_lays_306 : decode cL_lays 306 = .ok (.invokevirtual 50, 3) := by decide +kernel
theorem dL_lays_309 : decode cL_lays 309 = .ok (.iload 8, 2) := by decide +kernel
theorem dL_lays_311 : decode cL_lays 311 = .ok (.iload 7, 2) := by decide +kernel
theorem dL_lays_313 : decode cL_lays 313 = .ok (.if_icmp .ne 7, 3) := by decide +kernel
theorem dL_lays_316 : decode cL_lays 316 = .ok (.iconst (-1), 1) := by decide +kernel
theorem dL_lays_317 : decode cL_lays 317 = .ok (.goto 17, 3) := by decide +kernel
theorem dL_lays_320 : decode cL_lays 320 = .ok (.iload 10, 2) := by decide +kernel
theorem dL_lays_322 : decode cL_lays 322 = .ok (.ifCond .eq 10, 3) := by decide +kernel
theorem dL_lays_325 : decode cL_lays 325 = .ok (.iload 9, 2) := by decide +kernel
theorem dL_lays_327 : decode cL_lays 327 = .ok (.iconst 1, 1) := by decide +kernel
theorem dL_lays_328 : decode cL_lays 328 = .ok (.iadd, 1) := by decide +kernel
theorem dL_lays_329 : decode cL_lays 329 = .ok (.goto 5, 3) := by decide +kernel
theorem dL_lays_332 : decode cL_lays 332 = .ok (.bipush (-2), 2) := by decide +kernel
theorem dL_lays_334 : decode cL_lays 334 = .ok (.if_icmp .ne 7, 3) := by decide +kernel
theorem dL_lays_337 : decode cL_lays 337 = .ok (.iconst 1, 1) := by decide +kernel
theorem dL_lays_338 : decode cL_lays 338 = .ok (.goto 4, 3) := by decide +kernel
theorem dL_lays_341 : decode cL_lays 341 = .ok (.iconst 0, 1) := by decide +kernel
theorem dL_lays_342 : decode cL_lays 342 = .ok (.ireturn, 1) := by decide +kernel
theorem dL_lays_343 : decode cL_lays 343 = .ok (.iload 6, 2) := by decide +kernel
theorem dL_lays_345 : decode cL_lays 345 = .ok (.iconst 2, 1) := by decide +kernel
theorem dL_lays_346 : decode cL_lays 346 = .ok (.if_icmp .ne 190, 3) := by decide +kernel
theorem dL_lays_349 : decode cL_lays 349 = .ok (.iload 5, 2) := by decide +kernel
theorem dL_lays_351 : decode cL_lays 351 = .ok (.bipush 17, 2) := by decide +kernel
theorem dL_lays_353 : decode cL_lays 353 = .ok (.irem, 1) := by decide +kernel
theorem dL_lays_354 : decode cL_lays 354 = .ok (.ifCond .ne 15, 3) := by decide +kernel
theorem dL_lays_357 : decode cL_lays 357 = .ok (.iconst 1, 1) := by decide +kernel
theorem dL_lays_358 : decode cL_lays 358 = .ok (.aload_n 2, 1) := by decide +kernel
theorem dL_lays_359 : decode cL_lays 359 = .ok (.bipush 8, 2) := by decide +kernel
theorem dL_lays_361 : decode cL_lays 361 = .ok (.iload 7, 2) := by decide +kernel
theorem dL_lays_363 : decode cL_lays 363 = .ok (.imul, 1) := by decide +kernel
theorem dL_lays_364 : decode cL_lays 364 = .ok (.iaload, 1) := by decide +kernel
theorem dL_lays_365 : decode cL_lays 365 = .ok (.isub, 1) := by decide +kernel
theorem dL_lays_366 : decode cL_lays 366 = .ok (.goto 10, 3) := by decide +kernel
theorem dL_lays_369 : decode cL_lays 369 = .ok (.aload_n 2, 1) := by decide +kernel
theorem dL_lays_370 : decode cL_lays 370 = .ok (.bipush 8, 2) := by decide +kernel
theorem dL_lays_372 : decode cL_lays 372 = .ok (.iload 7, 2) := by decide +kernel
theorem dL_lays_374 : decode cL_lays 374 = .ok (.imul, 1) := by decide +kernel
theorem dL_lays_375 : decode cL_lays 375 = .ok (.iaload, 1) := by decide +kernel
theorem dL_lays_376 : decode cL_lays 376 = .ok (.istore 8, 2) := by decide +kernel
theorem dL_lays_378 : decode cL_lays 378 = .ok (.iconst 0, 1) := by decide +kernel
theorem dL_lays_379 : decode cL_lays 379 = .ok (.istore 9, 2) := by decide +kernel
theorem dL_lays_381 : decode cL_lays 381 = .ok (.iconst 0, 1) := by decide +kernel
theorem dL_lays_382 : decode cL_lays 382 = .ok (.istore 10, 2) := by decide +kernel
theorem dL_lays_384 : decode cL_lays 384 = .ok (.iload 10, 2) := by decide +kernel
theorem dL_lays_386 : decode cL_lays 386 = .ok (.aload_n 1, 1) := by decide +kernel
theorem dL_lays_387 : decode cL_lays 387 = .ok (.iconst 0, 1) := by decide +kernel
theorem dL_lays_388 : decode cL_lays 388 = .ok (.iaload, 1) := by decide +kernel
theorem dL_lays_389 : decode cL_lays 389 = .ok (.if_icmp .ge 34, 3) := by decide +kernel
theorem dL_lays_392 : decode cL_lays 392 = .ok (.iload 9, 2) := by decide +kernel
theorem dL_lays_394 : decode cL_lays 394 = .ok (.aload_n 2, 1) := by decide +kernel
theorem dL_lays_395 : decode cL_lays 395 = .ok (.bipush 8, 2) := by decide +kernel
theorem dL_lays_397 : decode cL_lays 397 = .ok (.iload 10, 2) := by decide +kernel
theorem dL_lays_399 : decode cL_lays 399 = .ok (.imul, 1) := by decide +kernel
theorem dL_lays_400 : decode cL_lays 400 = .ok (.bipush 7, 2) := by decide +kernel
theorem dL_lays_402 : decode cL_lays 402 = .ok (.iadd, 1) := by decide +kernel
theorem dL_lays_403 : decode cL_lays 403 = .ok (.iaload, 1) := by decide +kernel
theorem dL_lays_404 : decode cL_lays 404 = .ok (.iload 8, 2) := by decide +kernel
theorem dL_lays_406 : decode cL_lays 406 = .ok (.if_icmp .ne 7, 3) := by decide +kernel
theorem dL_lays_409 : decode cL_lays 409 = .ok (.iconst 1, 1) := by decide +kernel
theorem dL_lays_410 : decode cL_lays 410 = .ok (.goto 4, 3) := by decide +kernel
theorem dL_lays_413 : decode cL_lays 413 = .ok (.iconst 0, 1) := by decide +kernel
theorem dL_lays_414 : decode cL_lays 414 = .ok (.iadd, 1) := by decide +kernel
theorem dL_lays_415 : decode cL_lays 415 = .ok (.istore 9, 2) := by decide +kernel
theorem dL_lays_417 : decode cL_lays 417 = .ok (.iinc 10 1, 3) := by decide +kernel
theorem dL_lays_420 : decode cL_lays 420 = .ok (.goto (-36), 3) := by decide +kernel
theorem dL_lays_423 : decode cL_lays 423 = .ok (.aload_n 2, 1) := by decide +kernel
theorem dL_lays_424 : decode cL_lays 424 = .ok (.bipush 8, 2) := by decide +kernel
theorem dL_lays_426 : decode cL_lays 426 = .ok (.iload 7, 2) := by decide +kernel
theorem dL_lays_428 : decode cL_lays 428 = .ok (.imul, 1) := by decide +kernel
theorem dL_lays_429 : decode cL_lays 429 = .ok (.bipush 7, 2) := by decide +kernel
theorem dL_lays_431 : decode cL_lays 431 = .ok (.iadd, 1) := by decide +kernel
theorem dL_lays_432 : decode cL_lays 432 = .ok (.iaload, 1) := by decide +kernel
theorem dL_lays_433 : decode cL_lays 433 = .ok (.ifCond .ge 21, 3) := by decide +kernel
theorem dL_lays_436 : decode cL_lays 436 = .ok (.iload 8, 2) := by decide +kernel
theorem dL_lays_438 : decode cL_lays 438 = .ok (.aload_n 2, 1) := by decide +kernel
theorem dL_lays_439 : decode cL_lays 439 = .ok (.bipush 8, 2) := by decide +kernel
theorem dL_lays_441 : decode cL_lays 441 = .ok (.iload 7, 2) := by decide +kernel
theorem dL_lays_443 : decode cL_lays 443 = .ok (.imul, 1) := by decide +kernel
theorem dL_lays_444 : decode cL_lays 444 = .ok (.iaload, 1) := by decide +kernel
theorem dL_lays_445 : decode cL_lays 445 = .ok (.if_icmp .ne 9, 3) := by decide +kernel
theorem dL_lays_448 : decode cL_lays 448 = .ok (.iload 9, 2) := by decide +kernel
theorem dL_lays_450 : decode cL_lays 450 = .ok (.iconst 4, 1) := by decide +kernel
theorem dL_lays_451 : decode cL_lays 451 = .ok (.if_icmp .ne 52, 3) := by decide +kernel
theorem dL_lays_454 : decode cL_lays 454 = .ok (.aload_n 0, 1) := by decide +kernel
theorem dL_lays_455 : decode cL_lays 455 = .ok (.iload 7, 2) := by decide +kernel
theorem dL_lays_457 : decode cL_lays 457 = .ok (.iload 8, 2) := by decide +kernel
theorem dL_lays_459 : decode cL_lays 459 = .ok (.invokevirtual 54, 3) := by decide +kernel
theorem dL_lays_462 : decode cL_lays 462 = .ok (.aload_n 2, 1) := by decide +kernel
theorem dL_lays_463 : decode cL_lays 463 = .ok (.bipush 8, 2) := by decide +kernel
theorem dL_lays_465 : decode cL_lays 465 = .ok (.iload 7, 2) := by decide +kernel
theorem dL_lays_467 : decode cL_lays 467 = .ok (.imul, 1) := by decide +kernel
theorem dL_lays_468 : decode cL_lays 468 = .ok (.bipush 7, 2) := by decide +kernel
theorem dL_lays_470 : decode cL_lays 470 = .ok (.iadd, 1) := by decide +kernel
theorem dL_lays_471 : decode cL_lays 471 = .ok (.iaload, 1) := by decide +kernel
theorem dL_lays_472 : decode cL_lays 472 = .ok (.ifCond .ge 15, 3) := by decide +kernel
theorem dL_lays_475 : decode cL_lays 475 = .ok (.iload 8, 2) := by decide +kernel
theorem dL_lays_477 : decode cL_lays 477 = .ok (.aload_n 2, 1) := by decide +kernel
theorem dL_lays_478 : decode cL_lays 478 = .ok (.bipush 8, 2) := by decide +kernel
theorem dL_lays_480 : decode cL_lays 480 = .ok (.iload 7, 2) := by decide +kernel
theorem dL_lays_482 : decode cL_lays 482 = .ok (.imul, 1) := by decide +kernel
theorem dL_lays_483 : decode cL_lays 483 = .ok (.iaload, 1) := by decide +kernel
theorem dL_lays_484 : decode cL_lays 484 = .ok (.if_icmp .eq 8, 3) := by decide +kernel
theorem dL_lays_487 : decode cL_lays 487 = .ok (.bipush (-2), 2) := by decide +kernel
theorem dL_lays_489 : decode cL_lays 489 = .ok (.goto 5, 3) := by decide +kernel
theorem dL_lays_492 : decode cL_lays 492 = .ok (.bipush (-3), 2) := by decide +kernel
theorem dL_lays_494 : decode cL_lays 494 = .ok (.if_icmp .ne 7, 3) := by decide +kernel
theorem dL_lays_497 : decode cL_lays 497 = .ok (.iconst 1, 1) := by decide +kernel
theorem dL_lays_498 : decode cL_lays 498 = .ok (.goto 4, 3) := by decide +kernel
theorem dL_lays_501 : decode cL_lays 501 = .ok (.iconst 0, 1) := by decide +kernel
theorem dL_lays_502 : decode cL_lays 502 = .ok (.ireturn, 1) := by decide +kernel
theorem dL_lays_503 : decode cL_lays 503 = .ok (.aload_n 2, 1) := by decide +kernel
theorem dL_lays_504 : decode cL_lays 504 = .ok (.bipush 8, 2) := by decide +kernel
theorem dL_lays_506 : decode cL_lays 506 = .ok (.iload 7, 2) := by decide +kernel
theorem dL_lays_508 : decode cL_lays 508 = .ok (.imul, 1) := by decide +kernel
theorem dL_lays_509 : decode cL_lays 509 = .ok (.bipush 7, 2) := by decide +kernel
theorem dL_lays_511 : decode cL_lays 511 = .ok (.iadd, 1) := by decide +kernel
theorem dL_lays_512 : decode cL_lays 512 = .ok (.iload 8, 2) := by decide +kernel
theorem dL_lays_514 : decode cL_lays 514 = .ok (.iastore, 1) := by decide +kernel
theorem dL_lays_515 : decode cL_lays 515 = .ok (.aload_n 0, 1) := by decide +kernel
theorem dL_lays_516 : decode cL_lays 516 = .ok (.iload 7, 2) := by decide +kernel
theorem dL_lays_518 : decode cL_lays 518 = .ok (.iload 8, 2) := by decide +kernel
theorem dL_lays_520 : decode cL_lays 520 = .ok (.invokevirtual 54, 3) := by decide +kernel
theorem dL_lays_523 : decode cL_lays 523 = .ok (.iload 9, 2) := by decide +kernel
theorem dL_lays_525 : decode cL_lays 525 = .ok (.iconst 1, 1) := by decide +kernel
theorem dL_lays_526 : decode cL_lays 526 = .ok (.iadd, 1) := by decide +kernel
theorem dL_lays_527 : decode cL_lays 527 = .ok (.if_icmp .ne 7, 3) := by decide +kernel
theorem dL_lays_530 : decode cL_lays 530 = .ok (.iconst 1, 1) := by decide +kernel
theorem dL_lays_531 : decode cL_lays 531 = .ok (.goto 4, 3) := by decide +kernel
theorem dL_lays_534 : decode cL_lays 534 = .ok (.iconst 0, 1) := by decide +kernel
theorem dL_lays_535 : decode cL_lays 535 = .ok (.ireturn, 1) := by decide +kernel
theorem dL_lays_536 : decode cL_lays 536 = .ok (.iload 6, 2) := by decide +kernel
theorem dL_lays_538 : decode cL_lays 538 = .ok (.iconst 3, 1) := by decide +kernel
theorem dL_lays_539 : decode cL_lays 539 = .ok (.if_icmp .ne 127, 3) := by decide +kernel
theorem dL_lays_542 : decode cL_lays 542 = .ok (.aload_n 2, 1) := by decide +kernel
theorem dL_lays_543 : decode cL_lays 543 = .ok (.bipush 8, 2) := by decide +kernel
theorem dL_lays_545 : decode cL_lays 545 = .ok (.iload 7, 2) := by decide +kernel
theorem dL_lays_547 : decode cL_lays 547 = .ok (.imul, 1) := by decide +kernel
theorem dL_lays_548 : decode cL_lays 548 = .ok (.bipush 7, 2) := by decide +kernel
theorem dL_lays_550 : decode cL_lays 550 = .ok (.iadd, 1) := by decide +kernel
theorem dL_lays_551 : decode cL_lays 551 = .ok (.iaload, 1) := by decide +kernel
theorem dL_lays_552 : decode cL_lays 552 = .ok (.istore 8, 2) := by decide +kernel
theorem dL_lays_554 : decode cL_lays 554 = .ok (.iload 8, 2) := by decide +kernel
theorem dL_lays_556 : decode cL_lays 556 = .ok (.ifCond .lt 13, 3) := by decide +kernel
theorem dL_lays_559 : decode cL_lays 559 = .ok (.aload_n 3, 1) := by decide +kernel
theorem dL_lays_560 : decode cL_lays 560 = .ok (.bipush 8, 2) := by decide +kernel
theorem dL_lays_562 : decode cL_lays 562 = .ok (.iload 7, 2) := by decide +kernel
theorem dL_lays_564 : decode cL_lays 564 = .ok (.imul, 1) := by decide +kernel
theorem dL_lays_565 : decode cL_lays 565 = .ok (.iaload, 1) := by decide +kernel
theorem dL_lays_566 : decode cL_lays 566 = .ok (.ifCond .le 20, 3) := by decide +kernel
theorem dL_lays_569 : decode cL_lays 569 = .ok (.aload_n 0, 1) := by decide +kernel
theorem dL_lays_570 : decode cL_lays 570 = .ok (.iload 7, 2) := by decide +kernel
theorem dL_lays_572 : decode cL_lays 572 = .ok (.invokevirtual 57, 3) := by decide +kernel
theorem dL_lays_575 : decode cL_lays 575 = .ok (.bipush (-2), 2) := by decide +kernel
theorem dL_lays_577 : decode cL_lays 577 = .ok (.if_icmp .ne 7, 3) := by decide +kernel
theorem dL_lays_580 : decode cL_lays 580 = .ok (.iconst 1, 1) := by decide +kernel
theorem dL_lays_581 : decode cL_lays 581 = .ok (.goto 4, 3) := by decide +kernel
theorem dL_lays_584 : decode cL_lays 584 = .ok (.iconst 0, 1) := by decide +kernel
theorem dL_lays_585 : decode cL_lays 585 = .ok (.ireturn, 1) := by decide +kernel
theorem dL_lays_586 : decode cL_lays 586 = .ok (.iconst 0, 1) := by decide +kernel
theorem dL_lays_587 : decode cL_lays 587 = .ok (.istore 9, 2) := by decide +kernel
theorem dL_lays_589 : decode cL_lays 589 = .ok (.iconst 0, 1) := by decide +kernel
theorem dL_lays_590 : decode cL_lays 590 = .ok (.istore 10, 2) := by decide +kernel
theorem dL_lays_592 : decode cL_lays 592 = .ok (.iload 10, 2) := by decide +kernel
theorem dL_lays_594 : decode cL_lays 594 = .ok (.aload_n 1, 1) := by decide +kernel
theorem dL_lays_595 : decode cL_lays 595 = .ok (.iconst 0, 1) := by decide +kernel
theorem dL_lays_596 : decode cL_lays 596 = .ok (.iaload, 1) := by decide +kernel
theorem dL_lays_597 : decode cL_lays 597 = .ok (.if_icmp .ge 41, 3) := by decide +kernel
theorem dL_lays_600 : decode cL_lays 600 = .ok (.iload 9, 2) := by decide +kernel
theorem dL_lays_602 : decode cL_lays 602 = .ok (.aload_n 2, 1) := by decide +kernel
theorem dL_lays_603 : decode cL_lays 603 = .ok (.bipush 8, 2) := by decide +kernel
theorem dL_lays_605 : decode cL_lays 605 = .ok (.iload 10, 2) := by decide +kernel
theorem dL_lays_607 : decode cL_lays 607 = .ok (.imul, 1) := by decide +kernel
theorem dL_lays_608 : decode cL_lays 608 = .ok (.bipush 7, 2) := by decide +kernel
theorem dL_lays_610 : decode cL_lays 610 = .ok (.iadd, 1) := by decide +kernel
theorem dL_lays_611 : decode cL_lays 611 = .ok (.iaload, 1) := by decide +kernel
theorem dL_lays_612 : decode cL_lays 612 = .ok (.iload 8, 2) := by decide +kernel
theorem dL_lays_614 : decode cL_lays 614 = .ok (.if_icmp .ne 14, 3) := by decide +kernel
theorem dL_lays_617 : decode cL_lays 617 = .ok (.iload 10, 2) := by decide +kernel
theorem dL_lays_619 : decode cL_lays 619 = .ok (.iload 7, 2) := by decide +kernel
theorem dL_lays_621 : decode cL_lays 621 = .ok (.if_icmp .eq 7, 3) := by decide +kernel
theorem dL_lays_624 : decode cL_lays 624 = .ok (.iconst 1, 1) := by decide +kernel
theorem dL_lays_625 : decode cL_lays 625 = .ok (.goto 4, 3) := by decide +kernel
theorem dL_lays_628 : decode cL_lays 628 = .ok (.iconst 0, 1) := by decide +kernel
theorem dL_lays_629 : decode cL_lays 629 = .ok (.iadd, 1) := by decide +kernel
theorem dL_lays_630 : decode cL_lays 630 = .ok (.istore 9, 2) := by decide +kernel
theorem dL_lays_632 : decode cL_lays 632 = .ok (.iinc 10 1, 3) := by decide +kernel
theorem dL_lays_635 : decode cL_lays 635 = .ok (.goto (-43), 3) := by decide +kernel
theorem dL_lays_638 : decode cL_lays 638 = .ok (.aload_n 2, 1) := by decide +kernel
theorem dL_lays_639 : decode cL_lays 639 = .ok (.bipush 8, 2) := by decide +kernel
theorem dL_lays_641 : decode cL_lays 641 = .ok (.iload 7, 2) := by decide +kernel
theorem dL_lays_643 : decode cL_lays 643 = .ok (.imul, 1) := by decide +kernel
theorem dL_lays_644 : decode cL_lays 644 = .ok (.bipush 7, 2) := by decide +kernel
theorem dL_lays_646 : decode cL_lays 646 = .ok (.iadd, 1) := by decide +kernel
theorem dL_lays_647 : decode cL_lays 647 = .ok (.iconst (-1), 1) := by decide +kernel
theorem dL_lays_648 : decode cL_lays 648 = .ok (.iastore, 1) := by decide +kernel
theorem dL_lays_649 : decode cL_lays 649 = .ok (.aload_n 0, 1) := by decide +kernel
theorem dL_lays_650 : decode cL_lays 650 = .ok (.iload 7, 2) := by decide +kernel
theorem dL_lays_652 : decode cL_lays 652 = .ok (.invokevirtual 57, 3) := by decide +kernel
theorem dL_lays_655 : decode cL_lays 655 = .ok (.iload 9, 2) := by decide +kernel
theorem dL_lays_657 : decode cL_lays 657 = .ok (.if_icmp .ne 7, 3) := by decide +kernel
theorem dL_lays_660 : decode cL_lays 660 = .ok (.iconst 1, 1) := by decide +kernel
theorem dL_lays_661 : decode cL_lays 661 = .ok (.goto 4, 3) := by decide +kernel
theorem dL_lays_664 : decode cL_lays 664 = .ok (.iconst 0, 1) := by decide +kernel
theorem dL_lays_665 : decode cL_lays 665 = .ok (.ireturn, 1) := by decide +kernel
theorem dL_lays_666 : decode cL_lays 666 = .ok (.iload 6, 2) := by decide +kernel
theorem dL_lays_668 : decode cL_lays 668 = .ok (.iconst 4, 1) := by decide +kernel
theorem dL_lays_669 : decode cL_lays 669 = .ok (.if_icmp .ne 54, 3) := by decide +kernel
theorem dL_lays_672 : decode cL_lays 672 = .ok (.iload 5, 2) := by decide +kernel
theorem dL_lays_674 : decode cL_lays 674 = .ok (.iconst 2, 1) := by decide +kernel
theorem dL_lays_675 : decode cL_lays 675 = .ok (.irem, 1) := by decide +kernel
theorem dL_lays_676 : decode cL_lays 676 = .ok (.istore 8, 2) := by decide +kernel
theorem dL_lays_678 : decode cL_lays 678 = .ok (.aload_n 1, 1) := by decide +kernel
theorem dL_lays_679 : decode cL_lays 679 = .ok (.iconst 3, 1) := by decide +kernel
theorem dL_lays_680 : decode cL_lays 680 = .ok (.iload 8, 2) := by decide +kernel
theorem dL_lays_682 : decode cL_lays 682 = .ok (.iadd, 1) := by decide +kernel
theorem dL_lays_683 : decode cL_lays 683 = .ok (.iaload, 1) := by decide +kernel
theorem dL_lays_684 : decode cL_lays 684 = .ok (.istore 9, 2) := by decide +kernel
theorem dL_lays_686 : decode cL_lays 686 = .ok (.aload_n 1, 1) := by decide +kernel
theorem dL_lays_687 : decode cL_lays 687 = .ok (.iconst 3, 1) := by decide +kernel
theorem dL_lays_688 : decode cL_lays 688 = .ok (.iload 8, 2) := by decide +kernel
theorem dL_lays_690 : decode cL_lays 690 = .ok (.iadd, 1) := by decide +kernel
theorem dL_lays_691 : decode cL_lays 691 = .ok (.iconst 1, 1) := by decide +kernel
theorem dL_lays_692 : decode cL_lays 692 = .ok (.iload 5, 2) := by decide +kernel
theorem dL_lays_694 : decode cL_lays 694 = .ok (.iconst 2, 1) := by decide +kernel
theorem dL_lays_695 : decode cL_lays 695 = .ok (.idiv, 1) := by decide +kernel
theorem dL_lays_696 : decode cL_lays 696 = .ok (.iconst 4, 1) := by decide +kernel
theorem dL_lays_697 : decode cL_lays 697 = .ok (.irem, 1) := by decide +kernel
theorem dL_lays_698 : decode cL_lays 698 = .ok (.iadd, 1) := by decide +kernel
theorem dL_lays_699 : decode cL_lays 699 = .ok (.iastore, 1) := by decide +kernel
theorem dL_lays_700 : decode cL_lays 700 = .ok (.aload_n 0, 1) := by decide +kernel
theorem dL_lays_701 : decode cL_lays 701 = .ok (.iload 8, 2) := by decide +kernel
theorem dL_lays_703 : decode cL_lays 703 = .ok (.aload_n 1, 1) := by decide +kernel
theorem dL_lays_704 : decode cL_lays 704 = .ok (.iconst 3, 1) := by decide +kernel
theorem dL_lays_705 : decode cL_lays 705 = .ok (.iload 8, 2) := by decide +kernel
theorem dL_lays_707 : decode cL_lays 707 = .ok (.iadd, 1) := by decide +kernel
theorem dL_lays_708 : decode cL_lays 708 = .ok (.iaload, 1) := by decide +kernel
theorem dL_lays_709 : decode cL_lays 709 = .ok (.invokevirtual 61, 3) := by decide +kernel
theorem dL_lays_712 : decode cL_lays 712 = .ok (.iload 9, 2) := by decide +kernel
theorem dL_lays_714 : decode cL_lays 714 = .ok (.if_icmp .ne 7, 3) := by decide +kernel
theorem dL_lays_717 : decode cL_lays 717 = .ok (.iconst 1, 1) := by decide +kernel
theorem dL_lays_718 : decode cL_lays 718 = .ok (.goto 4, 3) := by decide +kernel
theorem dL_lays_721 : decode cL_lays 721 = .ok (.iconst 0, 1) := by decide +kernel
theorem dL_lays_722 : decode cL_lays 722 = .ok (.ireturn, 1) := by decide +kernel
theorem dL_lays_723 : decode cL_lays 723 = .ok (.bipush 10, 2) := by decide +kernel
theorem dL_lays_725 : decode cL_lays 725 = .ok (.aload_n 3, 1) := by decide +kernel
theorem dL_lays_726 : decode cL_lays 726 = .ok (.bipush 8, 2) := by decide +kernel
theorem dL_lays_728 : decode cL_lays 728 = .ok (.iload 7, 2) := by decide +kernel
theorem dL_lays_730 : decode cL_lays 730 = .ok (.imul, 1) := by decide +kernel
theorem dL_lays_731 : decode cL_lays 731 = .ok (.iconst 3, 1) := by decide +kernel
theorem dL_lays_732 : decode cL_lays 732 = .ok (.iadd, 1) := by decide +kernel
theorem dL_lays_733 : decode cL_lays 733 = .ok (.iaload, 1) := by decide +kernel
theorem dL_lays_734 : decode cL_lays 734 = .ok (.imul, 1) := by decide +kernel
theorem dL_lays_735 : decode cL_lays 735 = .ok (.aload_n 3, 1) := by decide +kernel
theorem dL_lays_736 : decode cL_lays 736 = .ok (.bipush 8, 2) := by decide +kernel
theorem dL_lays_738 : decode cL_lays 738 = .ok (.iload 7, 2) := by decide +kernel
theorem dL_lays_740 : decode cL_lays 740 = .ok (.imul, 1) := by decide +kernel
theorem dL_lays_741 : decode cL_lays 741 = .ok (.iconst 4, 1) := by decide +kernel
theorem dL_lays_742 : decode cL_lays 742 = .ok (.iadd, 1) := by decide +kernel
theorem dL_lays_743 : decode cL_lays 743 = .ok (.iaload, 1) := by decide +kernel
theorem dL_lays_744 : decode cL_lays 744 = .ok (.iadd, 1) := by decide +kernel
theorem dL_lays_745 : decode cL_lays 745 = .ok (.istore 8, 2) := by decide +kernel
theorem dL_lays_747 : decode cL_lays 747 = .ok (.aload_n 3, 1) := by decide +kernel
theorem dL_lays_748 : decode cL_lays 748 = .ok (.bipush 8, 2) := by decide +kernel
theorem dL_lays_750 : decode cL_lays 750 = .ok (.iload 7, 2) := by decide +kernel
theorem dL_lays_752 : decode cL_lays 752 = .ok (.imul, 1) := by decide +kernel
theorem dL_lays_753 : decode cL_lays 753 = .ok (.iconst 3, 1) := by decide +kernel
theorem dL_lays_754 : decode cL_lays 754 = .ok (.iadd, 1) := by decide +kernel
theorem dL_lays_755 : decode cL_lays 755 = .ok (.iload 5, 2) := by decide +kernel
theorem dL_lays_757 : decode cL_lays 757 = .ok (.bipush 8, 2) := by decide +kernel
theorem dL_lays_759 : decode cL_lays 759 = .ok (.idiv, 1) := by decide +kernel
theorem dL_lays_760 : decode cL_lays 760 = .ok (.bipush 12, 2) := by decide +kernel
theorem dL_lays_762 : decode cL_lays 762 = .ok (.irem, 1) := by decide +kernel
theorem dL_lays_763 : decode cL_lays 763 = .ok (.iastore, 1) := by decide +kernel
theorem dL_lays_764 : decode cL_lays 764 = .ok (.aload_n 3, 1) := by decide +kernel
theorem dL_lays_765 : decode cL_lays 765 = .ok (.bipush 8, 2) := by decide +kernel
theorem dL_lays_767 : decode cL_lays 767 = .ok (.iload 7, 2) := by decide +kernel
theorem dL_lays_769 : decode cL_lays 769 = .ok (.imul, 1) := by decide +kernel
theorem dL_lays_770 : decode cL_lays 770 = .ok (.iconst 4, 1) := by decide +kernel
theorem dL_lays_771 : decode cL_lays 771 = .ok (.iadd, 1) := by decide +kernel
theorem dL_lays_772 : decode cL_lays 772 = .ok (.iload 5, 2) := by decide +kernel
theorem dL_lays_774 : decode cL_lays 774 = .ok (.bipush 96, 2) := by decide +kernel
theorem dL_lays_776 : decode cL_lays 776 = .ok (.idiv, 1) := by decide +kernel
theorem dL_lays_777 : decode cL_lays 777 = .ok (.iconst 3, 1) := by decide +kernel
theorem dL_lays_778 : decode cL_lays 778 = .ok (.irem, 1) := by decide +kernel
theorem dL_lays_779 : decode cL_lays 779 = .ok (.iastore, 1) := by decide +kernel
theorem dL_lays_780 : decode cL_lays 780 = .ok (.aload_n 0, 1) := by decide +kernel
theorem dL_lays_781 : decode cL_lays 781 = .ok (.iload 7, 2) := by decide +kernel
theorem dL_lays_783 : decode cL_lays 783 = .ok (.aload_n 3, 1) := by decide +kernel
theorem dL_lays_784 : decode cL_lays 784 = .ok (.bipush 8, 2) := by decide +kernel
theorem dL_lays_786 : decode cL_lays 786 = .ok (.iload 7, 2) := by decide +kernel
theorem dL_lays_788 : decode cL_lays 788 = .ok (.imul, 1) := by decide +kernel
theorem dL_lays_789 : decode cL_lays 789 = .ok (.iconst 3, 1) := by decide +kernel
theorem dL_lays_790 : decode cL_lays 790 = .ok (.iadd, 1) := by decide +kernel
theorem dL_lays_791 : decode cL_lays 791 = .ok (.iaload, 1) := by decide +kernel
theorem dL_lays_792 : decode cL_lays 792 = .ok (.aload_n 3, 1) := by decide +kernel
theorem dL_lays_793 : decode cL_lays 793 = .ok (.bipush 8, 2) := by decide +kernel
theorem dL_lays_795 : decode cL_lays 795 = .ok (.iload 7, 2) := by decide +kernel
theorem dL_lays_797 : decode cL_lays 797 = .ok (.imul, 1) := by decide +kernel
theorem dL_lays_798 : decode cL_lays 798 = .ok (.iconst 4, 1) := by decide +kernel
theorem dL_lays_799 : decode cL_lays 799 = .ok (.iadd, 1) := by decide +kernel
theorem dL_lays_800 : decode cL_lays 800 = .ok (.iaload, 1) := by decide +kernel
theorem dL_lays_801 : decode cL_lays 801 = .ok (.invokevirtual 64, 3) := by decide +kernel
theorem dL_lays_804 : decode cL_lays 804 = .ok (.iload 8, 2) := by decide +kernel
theorem dL_lays_806 : decode cL_lays 806 = .ok (.if_icmp .ne 7, 3) := by decide +kernel
theorem dL_lays_809 : decode cL_lays 809 = .ok (.iconst 1, 1) := by decide +kernel
theorem dL_lays_810 : decode cL_lays 810 = .ok (.goto 4, 3) := by decide +kernel
theorem dL_lays_813 : decode cL_lays 813 = .ok (.iconst 0, 1) := by decide +kernel
theorem dL_lays_814 : decode cL_lays 814 = .ok (.ireturn, 1) := by decide +kernel
set_option maxRecDepth 20000 in
theorem ggL_acts_L_low : GoodIn wsL_acts wsL_low := goodIn_sub (List.forall_mem_cons.mpr ⟨List.mem_of_getElem? (i := 6) rfl, List.forall_mem_cons.mpr ⟨List.mem_of_getElem? (i := 7) rfl, wk_mn⟩⟩) (by decide +kernel)
set_option maxRecDepth 20000 in
theorem gL_acts_L_low : GoodIn wsL_acts (va_wsS RL 69 yL_low wsL_low) := goodIn_app (goodIn_sub (List.forall_mem_cons.mpr ⟨List.mem_of_getElem? (i := 3) rfl, List.forall_mem_cons.mpr ⟨List.mem_of_getElem? (i := 4) rfl, List.forall_mem_cons.mpr ⟨List.mem_of_getElem? (i := 5) rfl, wk_mn⟩⟩⟩) (by decide +kernel)) ggL_acts_L_low
set_option maxRecDepth 20000 in
theorem ggL_acts_L_lays : GoodIn wsL_acts wsL_lays := goodIn_sub (List.forall_mem_cons.mpr ⟨List.mem_of_getElem? (i := 10) rfl, List.forall_mem_cons.mpr ⟨List.mem_of_getElem? (i := 11) rfl, List.forall_mem_cons.mpr ⟨List.mem_of_getElem? (i := 12) rfl, List.forall_mem_cons.mpr ⟨List.mem_of_getElem? (i := 13) rfl, List.forall_mem_cons.mpr ⟨List.mem_of_getElem? (i := 14) rfl, List.forall_mem_cons.mpr ⟨List.mem_of_getElem? (i := 15) rfl, List.forall_mem_cons.mpr ⟨List.mem_of_getElem? (i := 16) rfl, List.forall_mem_cons.mpr ⟨List.mem_of_getElem? (i := 17) rfl, List.forall_mem_cons.mpr ⟨List.mem_of_getElem? (i := 18) rfl, List.forall_mem_cons.mpr ⟨List.mem_of_getElem? (i := 19) rfl, List.forall_mem_cons.mpr ⟨List.mem_of_getElem? (i := 20) rfl, List.forall_mem_cons.mpr ⟨List.mem_of_getElem? (i := 21) rfl, List.forall_mem_cons.mpr ⟨List.mem_of_getElem? (i := 22) rfl, List.forall_mem_cons.mpr ⟨List.mem_of_getElem? (i := 23) rfl, List.forall_mem_cons.mpr ⟨List.mem_of_getElem? (i := 24) rfl, List.forall_mem_cons.mpr ⟨List.mem_of_getElem? (i := 25) rfl, List.forall_mem_cons.mpr ⟨List.mem_of_getElem? (i := 26) rfl, List.forall_mem_cons.mpr ⟨List.mem_of_getElem? (i := 27) rfl, List.forall_mem_cons.mpr ⟨List.mem_of_getElem? (i := 28) rfl, List.forall_mem_cons.mpr ⟨List.mem_of_getElem? (i := 29) rfl, List.forall_mem_cons.mpr ⟨List.mem_of_getElem? (i := 30) rfl, List.forall_mem_cons.mpr ⟨List.mem_of_getElem? (i := 31) rfl, List.forall_mem_cons.mpr ⟨List.mem_of_getElem? (i := 32) rfl, List.forall_mem_cons.mpr ⟨List.mem_of_getElem? (i := 33) rfl, List.forall_mem_cons.mpr ⟨List.mem_of_getElem? (i := 34) rfl, List.forall_mem_cons.mpr ⟨List.mem_of_getElem? (i := 35) rfl, List.forall_mem_cons.mpr ⟨List.mem_of_getElem? (i := 36) rfl, List.forall_mem_cons.mpr ⟨List.mem_of_getElem? (i := 37) rfl, List.forall_mem_cons.mpr ⟨List.mem_of_getElem? (i := 38) rfl, List.forall_mem_cons.mpr ⟨List.mem_of_getElem? (i := 39) rfl, List.forall_mem_cons.mpr ⟨List.mem_of_getElem? (i := 40) rfl, List.forall_mem_cons.mpr ⟨List.mem_of_getElem? (i := 41) rfl, List.forall_mem_cons.mpr ⟨List.mem_of_getElem? (i := 42) rfl, List.forall_mem_cons.mpr ⟨List.mem_of_getElem? (i := 43) rfl, List.forall_mem_cons.mpr ⟨List.mem_of_getElem? (i := 44) rfl, List.forall_mem_cons.mpr ⟨List.mem_of_getElem? (i := 45) rfl, List.forall_mem_cons.mpr ⟨List.mem_of_getElem? (i := 46) rfl, List.forall_mem_cons.mpr ⟨List.mem_of_getElem? (i := 47) rfl, List.forall_mem_cons.mpr ⟨List.mem_of_getElem? (i := 48) rfl, List.forall_mem_cons.mpr ⟨List.mem_of_getElem? (i := 49) rfl, List.forall_mem_cons.mpr ⟨List.mem_of_getElem? (i := 50) rfl, List.forall_mem_cons.mpr ⟨List.mem_of_getElem? (i := 51) rfl, List.forall_mem_cons.mpr ⟨List.mem_of_getElem? (i := 52) rfl, List.forall_mem_cons.mpr ⟨List.mem_of_getElem? (i := 53) rfl, List.forall_mem_cons.mpr ⟨List.mem_of_getElem? (i := 54) rfl, List.forall_mem_cons.mpr ⟨List.mem_of_getElem? (i := 55) rfl, List.forall_mem_cons.mpr ⟨List.mem_of_getElem? (i := 56) rfl, List.forall_mem_cons.mpr ⟨List.mem_of_getElem? (i := 57) rfl, List.forall_mem_cons.mpr ⟨List.mem_of_getElem? (i := 58) rfl, List.forall_mem_cons.mpr ⟨List.mem_of_getElem? (i := 59) rfl, List.forall_mem_cons.mpr ⟨List.mem_of_getElem? (i := 60) rfl, List.forall_mem_cons.mpr ⟨List.mem_of_getElem? (i := 61) rfl, List.forall_mem_cons.mpr ⟨List.mem_of_getElem? (i := 62) rfl, List.forall_mem_cons.mpr ⟨List.mem_of_getElem? (i := 63) rfl, List.forall_mem_cons.mpr ⟨List.mem_of_getElem? (i := 64) rfl, List.forall_mem_cons.mpr ⟨List.mem_of_getElem? (i := 65) rfl, List.forall_mem_cons.mpr ⟨List.mem_of_getElem? (i := 66) rfl, List.forall_mem_cons.mpr ⟨List.mem_of_getElem? (i := 67) rfl, List.forall_mem_cons.mpr ⟨List.mem_of_getElem? (i := 68) rfl, List.forall_mem_cons.mpr ⟨List.mem_of_getElem? (i := 69) rfl, List.forall_mem_cons.mpr ⟨List.mem_of_getElem? (i := 70) rfl, List.forall_mem_cons.mpr ⟨List.mem_of_getElem? (i := 71) rfl, List.forall_mem_cons.mpr ⟨List.mem_of_getElem? (i := 72) rfl, List.forall_mem_cons.mpr ⟨List.mem_of_getElem? (i := 73) rfl, List.forall_mem_cons.mpr ⟨List.mem_of_getElem? (i := 74) rfl, List.forall_mem_cons.mpr ⟨List.mem_of_getElem? (i := 75) rfl, List.forall_mem_cons.mpr ⟨List.mem_of_getElem? (i := 76) rfl, List.forall_mem_cons.mpr ⟨List.mem_of_getElem? (i := 77) rfl, List.forall_mem_cons.mpr ⟨List.mem_of_getElem? (i := 78) rfl, List.forall_mem_cons.mpr ⟨List.mem_of_getElem? (i := 79) rfl, List.forall_mem_cons.mpr ⟨List.mem_of_getElem? (i := 80) rfl, List.forall_mem_cons.mpr ⟨List.mem_of_getElem? (i := 81) rfl, List.forall_mem_cons.mpr ⟨List.mem_of_getElem? (i := 82) rfl, List.forall_mem_cons.mpr ⟨List.mem_of_getElem? (i := 83) rfl, List.forall_mem_cons.mpr ⟨List.mem_of_getElem? (i := 84) rfl, List.forall_mem_cons.mpr ⟨List.mem_of_getElem? (i := 85) rfl, List.forall_mem_cons.mpr ⟨List.mem_of_getElem? (i := 86) rfl, List.forall_mem_cons.mpr ⟨List.mem_of_getElem? (i := 87) rfl, List.forall_mem_cons.mpr ⟨List.mem_of_getElem? (i := 88) rfl, List.forall_mem_cons.mpr ⟨List.mem_of_getElem? (i := 89) rfl, List.forall_mem_cons.mpr ⟨List.mem_of_getElem? (i := 90) rfl, List.forall_mem_cons.mpr ⟨List.mem_of_getElem? (i := 91) rfl, List.forall_mem_cons.mpr ⟨List.mem_of_getElem? (i := 92) rfl, List.forall_mem_cons.mpr ⟨List.mem_of_getElem? (i := 93) rfl, List.forall_mem_cons.mpr ⟨List.mem_of_getElem? (i := 94) rfl, List.forall_mem_cons.mpr ⟨List.mem_of_getElem? (i := 95) rfl, List.forall_mem_cons.mpr ⟨List.mem_of_getElem? (i := 96) rfl, List.forall_mem_cons.mpr ⟨List.mem_of_getElem? (i := 97) rfl, List.forall_mem_cons.mpr ⟨List.mem_of_getElem? (i := 98) rfl, List.forall_mem_cons.mpr ⟨List.mem_of_getElem? (i := 99) rfl, List.forall_mem_cons.mpr ⟨List.mem_of_getElem? (i := 100) rfl, List.forall_mem_cons.mpr ⟨List.mem_of_getElem? (i := 101) rfl, List.forall_mem_cons.mpr ⟨List.mem_of_getElem? (i := 102) rfl, List.forall_mem_cons.mpr ⟨List.mem_of_getElem? (i := 103) rfl, List.forall_mem_cons.mpr ⟨List.mem_of_getElem? (i := 104) rfl, List.forall_mem_cons.mpr ⟨List.mem_of_getElem? (i := 105) rfl, List.forall_mem_cons.mpr ⟨List.mem_of_getElem? (i := 106) rfl, List.forall_mem_cons.mpr ⟨List.mem_of_getElem? (i := 107) rfl, List.forall_mem_cons.mpr ⟨List.mem_of_getElem? (i := 108) rfl, List.forall_mem_cons.mpr ⟨List.mem_of_getElem? (i := 109) rfl, List.forall_mem_cons.mpr ⟨List.mem_of_getElem? (i := 110) rfl, List.forall_mem_cons.mpr ⟨List.mem_of_getElem? (i := 111) rfl, List.forall_mem_cons.mpr ⟨List.mem_of_getElem? (i := 112) rfl, List.forall_mem_cons.mpr ⟨List.mem_of_getElem? (i := 113) rfl, List.forall_mem_cons.mpr ⟨List.mem_of_getElem? (i := 114) rfl, List.forall_mem_cons.mpr ⟨List.mem_of_getElem? (i := 115) rfl, List.forall_mem_cons.mpr ⟨List.mem_of_getElem? (i := 116) rfl, List.forall_mem_cons.mpr ⟨List.mem_of_getElem? (i := 117) rfl, List.forall_mem_cons.mpr ⟨List.mem_of_getElem? (i := 118) rfl, List.forall_mem_cons.mpr ⟨List.mem_of_getElem? (i := 119) rfl, List.forall_mem_cons.mpr ⟨List.mem_of_getElem? (i := 120) rfl, List.forall_mem_cons.mpr ⟨List.mem_of_getElem? (i := 121) rfl, List.forall_mem_cons.mpr ⟨List.mem_of_getElem? (i := 122) rfl, List.forall_mem_cons.mpr ⟨List.mem_of_getElem? (i := 123) rfl, List.forall_mem_cons.mpr ⟨List.mem_of_getElem? (i := 124) rfl, List.forall_mem_cons.mpr ⟨List.mem_of_getElem? (i := 125) rfl, List.forall_mem_cons.mpr ⟨List.mem_of_getElem? (i := 126) rfl, List.forall_mem_cons.mpr ⟨List.mem_of_getElem? (i := 127) rfl, List.forall_mem_cons.mpr ⟨List.mem_of_getElem? (i := 128) rfl, List.forall_mem_cons.mpr ⟨List.mem_of_getElem? (i := 129) rfl, List.forall_mem_cons.mpr ⟨List.mem_of_getElem? (i := 130) rfl, List.forall_mem_cons.mpr ⟨List.mem_of_getElem? (i := 131) rfl, List.forall_mem_cons.mpr ⟨List.mem_of_getElem? (i := 132) rfl, List.forall_mem_cons.mpr ⟨List.mem_of_getElem? (i := 280) rfl, List.forall_mem_cons.mpr ⟨List.mem_of_getElem? (i := 281) rfl, List.forall_mem_cons.mpr ⟨List.mem_of_getElem? (i := 282) rfl, List.forall_mem_cons.mpr ⟨List.mem_of_getElem? (i := 283) rfl, List.forall_mem_cons.mpr ⟨List.mem_of_getElem? (i := 284) rfl, List.forall_mem_cons.mpr ⟨List.mem_of_getElem? (i := 285) rfl, List.forall_mem_cons.mpr ⟨List.mem_of_getElem? (i := 286) rfl, List.forall_mem_cons.mpr ⟨List.mem_of_getElem? (i := 287) rfl, List.forall_mem_cons.mpr ⟨List.mem_of_getElem? (i := 288) rfl, List.forall_mem_cons.mpr ⟨List.mem_of_getElem? (i := 289) rfl, List.forall_mem_cons.mpr ⟨List.mem_of_getElem? (i := 290) rfl, List.forall_mem_cons.mpr ⟨List.mem_of_getElem? (i := 291) rfl, List.forall_mem_cons.mpr ⟨List.mem_of_getElem? (i := 292) rfl, List.forall_mem_cons.mpr ⟨List.mem_of_getElem? (i := 293) rfl, List.forall_mem_cons.mpr ⟨List.mem_of_getElem? (i := 294) rfl, List.forall_mem_cons.mpr ⟨List.mem_of_getElem? (i := 295) rfl, List.forall_mem_cons.mpr ⟨List.mem_of_getElem? (i := 296) rfl, List.forall_mem_cons.mpr ⟨List.mem_of_getElem? (i := 297) rfl, List.forall_mem_cons.mpr ⟨List.mem_of_getElem? (i := 298) rfl, List.forall_mem_cons.mpr ⟨List.mem_of_getElem? (i := 299) rfl, List.forall_mem_cons.mpr ⟨List.mem_of_getElem? (i := 300) rfl, List.forall_mem_cons.mpr ⟨List.mem_of_getElem? (i := 301) rfl, List.forall_mem_cons.mpr ⟨List.mem_of_getElem? (i := 302) rfl, List.forall_mem_cons.mpr ⟨List.mem_of_getElem? (i := 303) rfl, List.forall_mem_cons.mpr ⟨List.mem_of_getElem? (i := 304) rfl, List.forall_mem_cons.mpr ⟨List.mem_of_getElem? (i := 305) rfl, List.forall_mem_cons.mpr ⟨List.mem_of_getElem? (i := 306) rfl, List.forall_mem_cons.mpr ⟨List.mem_of_getElem? (i := 307) rfl, wk_mn⟩⟩⟩⟩⟩⟩⟩⟩⟩⟩⟩⟩⟩⟩⟩⟩⟩⟩⟩⟩⟩⟩⟩⟩⟩⟩⟩⟩⟩⟩⟩⟩⟩⟩⟩⟩⟩⟩⟩⟩⟩⟩⟩⟩⟩⟩⟩⟩⟩⟩⟩⟩⟩⟩⟩⟩⟩⟩⟩⟩⟩⟩⟩⟩⟩⟩⟩⟩⟩⟩⟩⟩⟩⟩⟩⟩⟩⟩⟩⟩⟩⟩⟩⟩⟩⟩⟩⟩⟩⟩⟩⟩⟩⟩⟩⟩⟩⟩⟩⟩⟩⟩⟩⟩⟩⟩⟩⟩⟩⟩⟩⟩⟩⟩⟩⟩⟩⟩⟩⟩⟩⟩⟩⟩⟩⟩⟩⟩⟩⟩⟩⟩⟩⟩⟩⟩⟩⟩⟩⟩⟩⟩⟩⟩⟩⟩⟩⟩⟩⟩⟩) (by decide +kernel)
set_option maxRecDepth 20000 in
theorem gL_acts_L_lays : GoodIn wsL_acts (va_wsS RL 72 yL_lays wsL_lays) := goodIn_app (goodIn_sub (List.forall_mem_cons.mpr ⟨List.mem_of_getElem? (i := 8) rfl, List.forall_mem_cons.mpr ⟨List.mem_of_getElem? (i := 9) rfl, List.forall_mem_cons.mpr ⟨List.mem_of_getElem? (i := 5) rfl, wk_mn⟩⟩⟩) (by decide +kernel)) ggL_acts_L_lays
set_option maxRecDepth 20000 in
theorem ggL_acts_X3_use : GoodIn wsL_acts wsX3_use := goodIn_sub (List.forall_mem_cons.mpr ⟨List.mem_of_getElem? (i := 136) rfl, List.forall_mem_cons.mpr ⟨List.mem_of_getElem? (i := 16) rfl, List.forall_mem_cons.mpr ⟨List.mem_of_getElem? (i := 23) rfl, List.forall_mem_cons.mpr ⟨List.mem_of_getElem? (i := 24) rfl, List.forall_mem_cons.mpr ⟨List.mem_of_getElem? (i := 25) rfl, List.forall_mem_cons.mpr ⟨List.mem_of_getElem? (i := 14) rfl, List.forall_mem_cons.mpr ⟨List.mem_of_getElem? (i := 26) rfl, List.forall_mem_cons.mpr ⟨List.mem_of_getElem? (i := 27) rfl, List.forall_mem_cons.mpr ⟨List.mem_of_getElem? (i := 28) rfl, List.forall_mem_cons.mpr ⟨List.mem_of_getElem? (i := 29) rfl, List.forall_mem_cons.mpr ⟨List.mem_of_getElem? (i := 30) rfl, List.forall_mem_cons.mpr ⟨List.mem_of_getElem? (i := 31) rfl, List.forall_mem_cons.mpr ⟨List.mem_of_getElem? (i := 32) rfl, List.forall_mem_cons.mpr ⟨List.mem_of_getElem? (i := 33) rfl, List.forall_mem_cons.mpr ⟨List.mem_of_getElem? (i := 34) rfl, List.forall_mem_cons.mpr ⟨List.mem_of_getElem? (i := 35) rfl, List.forall_mem_cons.mpr ⟨List.mem_of_getElem? (i := 36) rfl, List.forall_mem_cons.mpr ⟨List.mem_of_getElem? (i := 37) rfl, List.forall_mem_cons.mpr ⟨List.mem_of_getElem? (i := 38) rfl, List.forall_mem_cons.mpr ⟨List.mem_of_getElem? (i := 39) rfl, List.forall_mem_cons.mpr ⟨List.mem_of_getElem? (i := 40) rfl, List.forall_mem_cons.mpr ⟨List.mem_of_getElem? (i := 41) rfl, List.forall_mem_cons.mpr ⟨List.mem_of_getElem? (i := 42) rfl, List.forall_mem_cons.mpr ⟨List.mem_of_getElem? (i := 43) rfl, List.forall_mem_cons.mpr ⟨List.mem_of_getElem? (i := 44) rfl, List.forall_mem_cons.mpr ⟨List.mem_of_getElem? (i := 45) rfl, List.forall_mem_cons.mpr ⟨List.mem_of_getElem? (i := 46) rfl, List.forall_mem_cons.mpr ⟨List.mem_of_getElem? (i := 47) rfl, List.forall_mem_cons.mpr ⟨List.mem_of_getElem? (i := 48) rfl, List.forall_mem_cons.mpr ⟨List.mem_of_getElem? (i := 49) rfl, List.forall_mem_cons.mpr ⟨List.mem_of_getElem? (i := 50) rfl, List.forall_mem_cons.mpr ⟨List.mem_of_getElem? (i := 51) rfl, List.forall_mem_cons.mpr ⟨List.mem_of_getElem? (i := 52) rfl, List.forall_mem_cons.mpr ⟨List.mem_of_getElem? (i := 53) rfl, List.forall_mem_cons.mpr ⟨List.mem_of_getElem? (i := 54) rfl, List.forall_mem_cons.mpr ⟨List.mem_of_getElem? (i := 55) rfl, List.forall_mem_cons.mpr ⟨List.mem_of_getElem? (i := 56) rfl, List.forall_mem_cons.mpr ⟨List.mem_of_getElem? (i := 57) rfl, List.forall_mem_cons.mpr ⟨List.mem_of_getElem? (i := 58) rfl, List.forall_mem_cons.mpr ⟨List.mem_of_getElem? (i := 59) rfl, List.forall_mem_cons.mpr ⟨List.mem_of_getElem? (i := 60) rfl, List.forall_mem_cons.mpr ⟨List.mem_of_getElem? (i := 61) rfl, List.forall_mem_cons.mpr ⟨List.mem_of_getElem? (i := 62) rfl, List.forall_mem_cons.mpr ⟨List.mem_of_getElem? (i := 63) rfl, List.forall_mem_cons.mpr ⟨List.mem_of_getElem? (i := 64) rfl, List.forall_mem_cons.mpr ⟨List.mem_of_getElem? (i := 65) rfl, List.forall_mem_cons.mpr ⟨List.mem_of_getElem? (i := 66) rfl, List.forall_mem_cons.mpr ⟨List.mem_of_getElem? (i := 137) rfl, List.forall_mem_cons.mpr ⟨List.mem_of_getElem? (i := 138) rfl, List.forall_mem_cons.mpr ⟨List.mem_of_getElem? (i := 139) rfl, List.forall_mem_cons.mpr ⟨List.mem_of_getElem? (i := 140) rfl, List.forall_mem_cons.mpr ⟨List.mem_of_getElem? (i := 141) rfl, List.forall_mem_cons.mpr ⟨List.mem_of_getElem? (i := 89) rfl, List.forall_mem_cons.mpr ⟨List.mem_of_getElem? (i := 90) rfl, List.forall_mem_cons.mpr ⟨List.mem_of_getElem? (i := 91) rfl, List.forall_mem_cons.mpr ⟨List.mem_of_getElem? (i := 92) rfl, List.forall_mem_cons.mpr ⟨List.mem_of_getElem? (i := 21) rfl, List.forall_mem_cons.mpr ⟨List.mem_of_getElem? (i := 22) rfl, List.forall_mem_cons.mpr ⟨List.mem_of_getElem? (i := 71) rfl, List.forall_mem_cons.mpr ⟨List.mem_of_getElem? (i := 72) rfl, List.forall_mem_cons.mpr ⟨List.mem_of_getElem? (i := 73) rfl, List.forall_mem_cons.mpr ⟨List.mem_of_getElem? (i := 74) rfl, List.forall_mem_cons.mpr ⟨List.mem_of_getElem? (i := 75) rfl, List.forall_mem_cons.mpr ⟨List.mem_of_getElem? (i := 76) rfl, List.forall_mem_cons.mpr ⟨List.mem_of_getElem? (i := 77) rfl, List.forall_mem_cons.mpr ⟨List.mem_of_getElem? (i := 78) rfl, List.forall_mem_cons.mpr ⟨List.mem_of_getElem? (i := 280) rfl, List.forall_mem_cons.mpr ⟨List.mem_of_getElem? (i := 281) rfl, List.forall_mem_cons.mpr ⟨List.mem_of_getElem? (i := 282) rfl, List.forall_mem_cons.mpr ⟨List.mem_of_getElem? (i := 283) rfl, List.forall_mem_cons.mpr ⟨List.mem_of_getElem? (i := 284) rfl, List.forall_mem_cons.mpr ⟨List.mem_of_getElem? (i := 285) rfl, List.forall_mem_cons.mpr ⟨List.mem_of_getElem? (i := 286) rfl, List.forall_mem_cons.mpr ⟨List.mem_of_getElem? (i := 287) rfl, List.forall_mem_cons.mpr ⟨List.mem_of_getElem? (i := 288) rfl, List.forall_mem_cons.mpr ⟨List.mem_of_getElem? (i := 289) rfl, List.forall_mem_cons.mpr ⟨List.mem_of_getElem? (i := 290) rfl, List.forall_mem_cons.mpr ⟨List.mem_of_getElem? (i := 291) rfl, List.forall_mem_cons.mpr ⟨List.mem_of_getElem? (i := 292) rfl, List.forall_mem_cons.mpr ⟨List.mem_of_getElem? (i := 293) rfl, List.forall_mem_cons.mpr ⟨List.mem_of_getElem? (i := 294) rfl, List.forall_mem_cons.mpr ⟨List.mem_of_getElem? (i := 295) rfl, List.forall_mem_cons.mpr ⟨List.mem_of_getElem? (i := 296) rfl, List.forall_mem_cons.mpr ⟨List.mem_of_getElem? (i := 297) rfl, List.forall_mem_cons.mpr ⟨List.mem_of_getElem? (i := 298) rfl, List.forall_mem_cons.mpr ⟨List.mem_of_getElem? (i := 299) rfl, List.forall_mem_cons.mpr ⟨List.mem_of_getElem? (i := 300) rfl, List.forall_mem_cons.mpr ⟨List.mem_of_getElem? (i := 301) rfl, List.forall_mem_cons.mpr ⟨List.mem_of_getElem? (i := 302) rfl, List.forall_mem_cons.mpr ⟨List.mem_of_getElem? (i := 303) rfl, List.forall_mem_cons.mpr ⟨List.mem_of_getElem? (i := 304) rfl, List.forall_mem_cons.mpr ⟨List.mem_of_getElem? (i := 305) rfl, List.forall_mem_cons.mpr ⟨List.mem_of_getElem? (i := 306) rfl, List.forall_mem_cons.mpr ⟨List.mem_of_getElem? (i := 307) rfl, wk_mn⟩⟩⟩⟩⟩⟩⟩⟩⟩⟩⟩⟩⟩⟩⟩⟩⟩⟩⟩⟩⟩⟩⟩⟩⟩⟩⟩⟩⟩⟩⟩⟩⟩⟩⟩⟩⟩⟩⟩⟩⟩⟩⟩⟩⟩⟩⟩⟩⟩⟩⟩⟩⟩⟩⟩⟩⟩⟩⟩⟩⟩⟩⟩⟩⟩⟩⟩⟩⟩⟩⟩⟩⟩⟩⟩⟩⟩⟩⟩⟩⟩⟩⟩⟩⟩⟩⟩⟩⟩⟩⟩⟩⟩⟩) (by decide +kernel)
set_option maxRecDepth 20000 in
theorem gL_acts_X3_use : GoodIn wsL_acts (wsV RL 76 RX3 yX3_use wsX3_use) := goodIn_app (goodIn_sub (List.forall_mem_cons.mpr ⟨List.mem_of_getElem? (i := 133) rfl, List.forall_mem_cons.mpr ⟨List.mem_of_getElem? (i := 134) rfl, List.forall_mem_cons.mpr ⟨List.mem_of_getElem? (i := 135) rfl, List.forall_mem_cons.mpr ⟨List.mem_of_getElem? (i := 14) rfl, wk_mn⟩⟩⟩⟩) (by decide +kernel)) ggL_acts_X3_use
set_option maxRecDepth 20000 in
theorem ggL_acts_X3_drop : GoodIn wsL_acts wsX3_drop := goodIn_sub (List.forall_mem_cons.mpr ⟨List.mem_of_getElem? (i := 145) rfl, List.forall_mem_cons.mpr ⟨List.mem_of_getElem? (i := 16) rfl, List.forall_mem_cons.mpr ⟨List.mem_of_getElem? (i := 23) rfl, List.forall_mem_cons.mpr ⟨List.mem_of_getElem? (i := 24) rfl, List.forall_mem_cons.mpr ⟨List.mem_of_getElem? (i := 25) rfl, List.forall_mem_cons.mpr ⟨List.mem_of_getElem? (i := 14) rfl, List.forall_mem_cons.mpr ⟨List.mem_of_getElem? (i := 26) rfl, List.forall_mem_cons.mpr ⟨List.mem_of_getElem? (i := 27) rfl, List.forall_mem_cons.mpr ⟨List.mem_of_getElem? (i := 28) rfl, List.forall_mem_cons.mpr ⟨List.mem_of_getElem? (i := 29) rfl, List.forall_mem_cons.mpr ⟨List.mem_of_getElem? (i := 30) rfl, List.forall_mem_cons.mpr ⟨List.mem_of_getElem? (i := 31) rfl, List.forall_mem_cons.mpr ⟨List.mem_of_getElem? (i := 32) rfl, List.forall_mem_cons.mpr ⟨List.mem_of_getElem? (i := 33) rfl, List.forall_mem_cons.mpr ⟨List.mem_of_getElem? (i := 34) rfl, List.forall_mem_cons.mpr ⟨List.mem_of_getElem? (i := 35) rfl, List.forall_mem_cons.mpr ⟨List.mem_of_getElem? (i := 36) rfl, List.forall_mem_cons.mpr ⟨List.mem_of_getElem? (i := 37) rfl, List.forall_mem_cons.mpr ⟨List.mem_of_getElem? (i := 38) rfl, List.forall_mem_cons.mpr ⟨List.mem_of_getElem? (i := 39) rfl, List.forall_mem_cons.mpr ⟨List.mem_of_getElem? (i := 40) rfl, List.forall_mem_cons.mpr ⟨List.mem_of_getElem? (i := 41) rfl, List.forall_mem_cons.mpr ⟨List.mem_of_getElem? (i := 42) rfl, List.forall_mem_cons.mpr ⟨List.mem_of_getElem? (i := 43) rfl, List.forall_mem_cons.mpr ⟨List.mem_of_getElem? (i := 44) rfl, List.forall_mem_cons.mpr ⟨List.mem_of_getElem? (i := 45) rfl, List.forall_mem_cons.mpr ⟨List.mem_of_getElem? (i := 46) rfl, List.forall_mem_cons.mpr ⟨List.mem_of_getElem? (i := 47) rfl, List.forall_mem_cons.mpr ⟨List.mem_of_getElem? (i := 48) rfl, List.forall_mem_cons.mpr ⟨List.mem_of_getElem? (i := 49) rfl, List.forall_mem_cons.mpr ⟨List.mem_of_getElem? (i := 50) rfl, List.forall_mem_cons.mpr ⟨List.mem_of_getElem? (i := 51) rfl, List.forall_mem_cons.mpr ⟨List.mem_of_getElem? (i := 52) rfl, List.forall_mem_cons.mpr ⟨List.mem_of_getElem? (i := 53) rfl, List.forall_mem_cons.mpr ⟨List.mem_of_getElem? (i := 54) rfl, List.forall_mem_cons.mpr ⟨List.mem_of_getElem? (i := 55) rfl, List.forall_mem_cons.mpr ⟨List.mem_of_getElem? (i := 56) rfl, List.forall_mem_cons.mpr ⟨List.mem_of_getElem? (i := 57) rfl, List.forall_mem_cons.mpr ⟨List.mem_of_getElem? (i := 58) rfl, List.forall_mem_cons.mpr ⟨List.mem_of_getElem? (i := 59) rfl, List.forall_mem_cons.mpr ⟨List.mem_of_getElem? (i := 60) rfl, List.forall_mem_cons.mpr ⟨List.mem_of_getElem? (i := 61) rfl, List.forall_mem_cons.mpr ⟨List.mem_of_getElem? (i := 62) rfl, List.forall_mem_cons.mpr ⟨List.mem_of_getElem? (i := 63) rfl, List.forall_mem_cons.mpr ⟨List.mem_of_getElem? (i := 64) rfl, List.forall_mem_cons.mpr ⟨List.mem_of_getElem? (i := 65) rfl, List.forall_mem_cons.mpr ⟨List.mem_of_getElem? (i := 66) rfl, List.forall_mem_cons.mpr ⟨List.mem_of_getElem? (i := 146) rfl, List.forall_mem_cons.mpr ⟨List.mem_of_getElem? (i := 147) rfl, List.forall_mem_cons.mpr ⟨List.mem_of_getElem? (i := 148) rfl, List.forall_mem_cons.mpr ⟨List.mem_of_getElem? (i := 149) rfl, List.forall_mem_cons.mpr ⟨List.mem_of_getElem? (i := 150) rfl, List.forall_mem_cons.mpr ⟨List.mem_of_getElem? (i := 151) rfl, List.forall_mem_cons.mpr ⟨List.mem_of_getElem? (i := 152) rfl, List.forall_mem_cons.mpr ⟨List.mem_of_getElem? (i := 153) rfl, List.forall_mem_cons.mpr ⟨List.mem_of_getElem? (i := 154) rfl, List.forall_mem_cons.mpr ⟨List.mem_of_getElem? (i := 155) rfl, List.forall_mem_cons.mpr ⟨List.mem_of_getElem? (i := 156) rfl, List.forall_mem_cons.mpr ⟨List.mem_of_getElem? (i := 157) rfl, List.forall_mem_cons.mpr ⟨List.mem_of_getElem? (i := 71) rfl, List.forall_mem_cons.mpr ⟨List.mem_of_getElem? (i := 72) rfl, List.forall_mem_cons.mpr ⟨List.mem_of_getElem? (i := 73) rfl, List.forall_mem_cons.mpr ⟨List.mem_of_getElem? (i := 74) rfl, List.forall_mem_cons.mpr ⟨List.mem_of_getElem? (i := 75) rfl, List.forall_mem_cons.mpr ⟨List.mem_of_getElem? (i := 76) rfl, List.forall_mem_cons.mpr ⟨List.mem_of_getElem? (i := 77) rfl, List.forall_mem_cons.mpr ⟨List.mem_of_getElem? (i := 78) rfl, List.forall_mem_cons.mpr ⟨List.mem_of_getElem? (i := 280) rfl, List.forall_mem_cons.mpr ⟨List.mem_of_getElem? (i := 281) rfl, List.forall_mem_cons.mpr ⟨List.mem_of_getElem? (i := 282) rfl, List.forall_mem_cons.mpr ⟨List.mem_of_getElem? (i := 283) rfl, List.forall_mem_cons.mpr ⟨List.mem_of_getElem? (i := 284) rfl, List.forall_mem_cons.mpr ⟨List.mem_of_getElem? (i := 285) rfl, List.forall_mem_cons.mpr ⟨List.mem_of_getElem? (i := 286) rfl, List.forall_mem_cons.mpr ⟨List.mem_of_getElem? (i := 287) rfl, List.forall_mem_cons.mpr ⟨List.mem_of_getElem? (i := 288) rfl, List.forall_mem_cons.mpr ⟨List.mem_of_getElem? (i := 289) rfl, List.forall_mem_cons.mpr ⟨List.mem_of_getElem? (i := 290) rfl, List.forall_mem_cons.mpr ⟨List.mem_of_getElem? (i := 291) rfl, List.forall_mem_cons.mpr ⟨List.mem_of_getElem? (i := 292) rfl, List.forall_mem_cons.mpr ⟨List.mem_of_getElem? (i := 293) rfl, List.forall_mem_cons.mpr ⟨List.mem_of_getElem? (i := 294) rfl, List.forall_mem_cons.mpr ⟨List.mem_of_getElem? (i := 295) rfl, List.forall_mem_cons.mpr ⟨List.mem_of_getElem? (i := 296) rfl, List.forall_mem_cons.mpr ⟨List.mem_of_getElem? (i := 297) rfl, List.forall_mem_cons.mpr ⟨List.mem_of_getElem? (i := 298) rfl, List.forall_mem_cons.mpr ⟨List.mem_of_getElem? (i := 299) rfl, List.forall_mem_cons.mpr ⟨List.mem_of_getElem? (i := 300) rfl, List.forall_mem_cons.mpr ⟨List.mem_of_getElem? (i := 301) rfl, List.forall_mem_cons.mpr ⟨List.mem_of_getElem? (i := 302) rfl, List.forall_mem_cons.mpr ⟨List.mem_of_getElem? (i := 303) rfl, List.forall_mem_cons.mpr ⟨List.mem_of_getElem? (i := 304) rfl, List.forall_mem_cons.mpr ⟨List.mem_of_getElem? (i := 305) rfl, List.forall_mem_cons.mpr ⟨List.mem_of_getElem? (i := 306) rfl, List.forall_mem_cons.mpr ⟨List.mem_of_getElem? (i := 307) rfl, wk_mn⟩⟩⟩⟩⟩⟩⟩⟩⟩⟩⟩⟩⟩⟩⟩⟩⟩⟩⟩⟩⟩⟩⟩⟩⟩⟩⟩⟩⟩⟩⟩⟩⟩⟩⟩⟩⟩⟩⟩⟩⟩⟩⟩⟩⟩⟩⟩⟩⟩⟩⟩⟩⟩⟩⟩⟩⟩⟩⟩⟩⟩⟩⟩⟩⟩⟩⟩⟩⟩⟩⟩⟩⟩⟩⟩⟩⟩⟩⟩⟩⟩⟩⟩⟩⟩⟩⟩⟩⟩⟩⟩⟩⟩⟩⟩) (by decide +kernel)
set_option maxRecDepth 20000 in
theorem gL_acts_X3_drop : GoodIn wsL_acts (wsV RL 79 RX3 yX3_drop wsX3_drop) := goodIn_app (goodIn_sub (List.forall_mem_cons.mpr ⟨List.mem_of_getElem? (i := 142) rfl, List.forall_mem_cons.mpr ⟨List.mem_of_getElem? (i := 143) rfl, List.forall_mem_cons.mpr ⟨List.mem_of_getElem? (i := 144) rfl, List.forall_mem_cons.mpr ⟨List.mem_of_getElem? (i := 14) rfl, wk_mn⟩⟩⟩⟩) (by decide +kernel)) ggL_acts_X3_drop
set_option maxRecDepth 20000 in
theorem ggL_acts_L_drop : GoodIn wsL_acts wsL_drop := goodIn_sub (List.forall_mem_cons.mpr ⟨List.mem_of_getElem? (i := 160) rfl, wk_mn⟩) (by decide +kernel)
set_option maxRecDepth 20000 in
theorem gL_acts_L_drop : GoodIn wsL_acts (va_wsS RL 37 yL_drop wsL_drop) := goodIn_app (goodIn_sub (List.forall_mem_cons.mpr ⟨List.mem_of_getElem? (i := 158) rfl, List.forall_mem_cons.mpr ⟨List.mem_of_getElem? (i := 159) rfl, List.forall_mem_cons.mpr ⟨List.mem_of_getElem? (i := 5) rfl, wk_mn⟩⟩⟩) (by decide +kernel)) ggL_acts_L_drop
set_option maxRecDepth 20000 in
theorem ggL_acts_L_can : GoodIn wsL_acts wsL_can := goodIn_sub (List.forall_mem_cons.mpr ⟨List.mem_of_getElem? (i := 163) rfl, List.forall_mem_cons.mpr ⟨List.mem_of_getElem? (i := 164) rfl, List.forall_mem_cons.mpr ⟨List.mem_of_getElem? (i := 165) rfl, List.forall_mem_cons.mpr ⟨List.mem_of_getElem? (i := 5) rfl, List.forall_mem_cons.mpr ⟨List.mem_of_getElem? (i := 166) rfl, wk_mn⟩⟩⟩⟩⟩) (by decide +kernel)
set_option maxRecDepth 20000 in
theorem gL_acts_L_can : GoodIn wsL_acts (va_wsS RL 27 yL_can wsL_can) := goodIn_app (goodIn_sub (List.forall_mem_cons.mpr ⟨List.mem_of_getElem? (i := 161) rfl, List.forall_mem_cons.mpr ⟨List.mem_of_getElem? (i := 162) rfl, List.forall_mem_cons.mpr ⟨List.mem_of_getElem? (i := 5) rfl, wk_mn⟩⟩⟩) (by decide +kernel)) ggL_acts_L_can
set_option maxRecDepth 20000 in
theorem ggL_acts_X3_wake : GoodIn wsL_acts wsX3_wake := goodIn_sub (List.forall_mem_cons.mpr ⟨List.mem_of_getElem? (i := 170) rfl, List.forall_mem_cons.mpr ⟨List.mem_of_getElem? (i := 16) rfl, List.forall_mem_cons.mpr ⟨List.mem_of_getElem? (i := 23) rfl, List.forall_mem_cons.mpr ⟨List.mem_of_getElem? (i := 24) rfl, List.forall_mem_cons.mpr ⟨List.mem_of_getElem? (i := 25) rfl, List.forall_mem_cons.mpr ⟨List.mem_of_getElem? (i := 14) rfl, List.forall_mem_cons.mpr ⟨List.mem_of_getElem? (i := 26) rfl, List.forall_mem_cons.mpr ⟨List.mem_of_getElem? (i := 27) rfl, List.forall_mem_cons.mpr ⟨List.mem_of_getElem? (i := 28) rfl, List.forall_mem_cons.mpr ⟨List.mem_of_getElem? (i := 29) rfl, List.forall_mem_cons.mpr ⟨List.mem_of_getElem? (i := 30) rfl, List.forall_mem_cons.mpr ⟨List.mem_of_getElem? (i := 31) rfl, List.forall_mem_cons.mpr ⟨List.mem_of_getElem? (i := 32) rfl, List.forall_mem_cons.mpr ⟨List.mem_of_getElem? (i := 33) rfl, List.forall_mem_cons.mpr ⟨List.mem_of_getElem? (i := 34) rfl, List.forall_mem_cons.mpr ⟨List.mem_of_getElem? (i := 35) rfl, List.forall_mem_cons.mpr ⟨List.mem_of_getElem? (i := 36) rfl, List.forall_mem_cons.mpr ⟨List.mem_of_getElem? (i := 37) rfl, List.forall_mem_cons.mpr ⟨List.mem_of_getElem? (i := 38) rfl, List.forall_mem_cons.mpr ⟨List.mem_of_getElem? (i := 39) rfl, List.forall_mem_cons.mpr ⟨List.mem_of_getElem? (i := 40) rfl, List.forall_mem_cons.mpr ⟨List.mem_of_getElem? (i := 41) rfl, List.forall_mem_cons.mpr ⟨List.mem_of_getElem? (i := 42) rfl, List.forall_mem_cons.mpr ⟨List.mem_of_getElem? (i := 43) rfl, List.forall_mem_cons.mpr ⟨List.mem_of_getElem? (i := 44) rfl, List.forall_mem_cons.mpr ⟨List.mem_of_getElem? (i := 45) rfl, List.forall_mem_cons.mpr ⟨List.mem_of_getElem? (i := 46) rfl, List.forall_mem_cons.mpr ⟨List.mem_of_getElem? (i := 47) rfl, List.forall_mem_cons.mpr ⟨List.mem_of_getElem? (i := 48) rfl, List.forall_mem_cons.mpr ⟨List.mem_of_getElem? (i := 49) rfl, List.forall_mem_cons.mpr ⟨List.mem_of_getElem? (i := 50) rfl, List.forall_mem_cons.mpr ⟨List.mem_of_getElem? (i := 51) rfl, List.forall_mem_cons.mpr ⟨List.mem_of_getElem? (i := 52) rfl, List.forall_mem_cons.mpr ⟨List.mem_of_getElem? (i := 53) rfl, List.forall_mem_cons.mpr ⟨List.mem_of_getElem? (i := 54) rfl, List.forall_mem_cons.mpr ⟨List.mem_of_getElem? (i := 55) rfl, List.forall_mem_cons.mpr ⟨List.mem_of_getElem? (i := 56) rfl, List.forall_mem_cons.mpr ⟨List.mem_of_getElem? (i := 57) rfl, List.forall_mem_cons.mpr ⟨List.mem_of_getElem? (i := 58) rfl, List.forall_mem_cons.mpr ⟨List.mem_of_getElem? (i := 59) rfl, List.forall_mem_cons.mpr ⟨List.mem_of_getElem? (i := 60) rfl, List.forall_mem_cons.mpr ⟨List.mem_of_getElem? (i := 61) rfl, List.forall_mem_cons.mpr ⟨List.mem_of_getElem? (i := 62) rfl, List.forall_mem_cons.mpr ⟨List.mem_of_getElem? (i := 63) rfl, List.forall_mem_cons.mpr ⟨List.mem_of_getElem? (i := 64) rfl, List.forall_mem_cons.mpr ⟨List.mem_of_getElem? (i := 65) rfl, List.forall_mem_cons.mpr ⟨List.mem_of_getElem? (i := 66) rfl, List.forall_mem_cons.mpr ⟨List.mem_of_getElem? (i := 171) rfl, List.forall_mem_cons.mpr ⟨List.mem_of_getElem? (i := 172) rfl, List.forall_mem_cons.mpr ⟨List.mem_of_getElem? (i := 173) rfl, List.forall_mem_cons.mpr ⟨List.mem_of_getElem? (i := 174) rfl, List.forall_mem_cons.mpr ⟨List.mem_of_getElem? (i := 87) rfl, List.forall_mem_cons.mpr ⟨List.mem_of_getElem? (i := 175) rfl, List.forall_mem_cons.mpr ⟨List.mem_of_getElem? (i := 89) rfl, List.forall_mem_cons.mpr ⟨List.mem_of_getElem? (i := 90) rfl, List.forall_mem_cons.mpr ⟨List.mem_of_getElem? (i := 91) rfl, List.forall_mem_cons.mpr ⟨List.mem_of_getElem? (i := 92) rfl, List.forall_mem_cons.mpr ⟨List.mem_of_getElem? (i := 176) rfl, List.forall_mem_cons.mpr ⟨List.mem_of_getElem? (i := 177) rfl, List.forall_mem_cons.mpr ⟨List.mem_of_getElem? (i := 178) rfl, List.forall_mem_cons.mpr ⟨List.mem_of_getElem? (i := 179) rfl, List.forall_mem_cons.mpr ⟨List.mem_of_getElem? (i := 88) rfl, List.forall_mem_cons.mpr ⟨List.mem_of_getElem? (i := 180) rfl, List.forall_mem_cons.mpr ⟨List.mem_of_getElem? (i := 181) rfl, List.forall_mem_cons.mpr ⟨List.mem_of_getElem? (i := 182) rfl, List.forall_mem_cons.mpr ⟨List.mem_of_getElem? (i := 183) rfl, List.forall_mem_cons.mpr ⟨List.mem_of_getElem? (i := 101) rfl, List.forall_mem_cons.mpr ⟨List.mem_of_getElem? (i := 184) rfl, List.forall_mem_cons.mpr ⟨List.mem_of_getElem? (i := 185) rfl, List.forall_mem_cons.mpr ⟨List.mem_of_getElem? (i := 186) rfl, List.forall_mem_cons.mpr ⟨List.mem_of_getElem? (i := 187) rfl, List.forall_mem_cons.mpr ⟨List.mem_of_getElem? (i := 71) rfl, List.forall_mem_cons.mpr ⟨List.mem_of_getElem? (i := 72) rfl, List.forall_mem_cons.mpr ⟨List.mem_of_getElem? (i := 73) rfl, List.forall_mem_cons.mpr ⟨List.mem_of_getElem? (i := 74) rfl, List.forall_mem_cons.mpr ⟨List.mem_of_getElem? (i := 75) rfl, List.forall_mem_cons.mpr ⟨List.mem_of_getElem? (i := 76) rfl, List.forall_mem_cons.mpr ⟨List.mem_of_getElem? (i := 77) rfl, List.forall_mem_cons.mpr ⟨List.mem_of_getElem? (i := 78) rfl, List.forall_mem_cons.mpr ⟨List.mem_of_getElem? (i := 280) rfl, List.forall_mem_cons.mpr ⟨List.mem_of_getElem? (i := 281) rfl, List.forall_mem_cons.mpr ⟨List.mem_of_getElem? (i := 282) rfl, List.forall_mem_cons.mpr ⟨List.mem_of_getElem? (i := 283) rfl, List.forall_mem_cons.mpr ⟨List.mem_of_getElem? (i := 284) rfl, List.forall_mem_cons.mpr ⟨List.mem_of_getElem? (i := 285) rfl, List.forall_mem_cons.mpr ⟨List.mem_of_getElem? (i := 286) rfl, List.forall_mem_cons.mpr ⟨List.mem_of_getElem? (i := 287) rfl, List.forall_mem_cons.mpr ⟨List.mem_of_getElem? (i := 288) rfl, List.forall_mem_cons.mpr ⟨List.mem_of_getElem? (i := 289) rfl, List.forall_mem_cons.mpr ⟨List.mem_of_getElem? (i := 290) rfl, List.forall_mem_cons.mpr ⟨List.mem_of_getElem? (i := 291) rfl, List.forall_mem_cons.mpr ⟨List.mem_of_getElem? (i := 292) rfl, List.forall_mem_cons.mpr ⟨List.mem_of_getElem? (i := 293) rfl, List.forall_mem_cons.mpr ⟨List.mem_of_getElem? (i := 294) rfl, List.forall_mem_cons.mpr ⟨List.mem_of_getElem? (i := 295) rfl, List.forall_mem_cons.mpr ⟨List.mem_of_getElem? (i := 296) rfl, List.forall_mem_cons.mpr ⟨List.mem_of_getElem? (i := 297) rfl, List.forall_mem_cons.mpr ⟨List.mem_of_getElem? (i := 298) rfl, List.forall_mem_cons.mpr ⟨List.mem_of_getElem? (i := 299) rfl, List.forall_mem_cons.mpr ⟨List.mem_of_getElem? (i := 300) rfl, List.forall_mem_cons.mpr ⟨List.mem_of_getElem? (i := 301) rfl, List.forall_mem_cons.mpr ⟨List.mem_of_getElem? (i := 302) rfl, List.forall_mem_cons.mpr ⟨List.mem_of_getElem? (i := 303) rfl, List.forall_mem_cons.mpr ⟨List.mem_of_getElem? (i := 304) rfl, List.forall_mem_cons.mpr ⟨List.mem_of_getElem? (i := 305) rfl, List.forall_mem_cons.mpr ⟨List.mem_of_getElem? (i := 306) rfl, List.forall_mem_cons.mpr ⟨List.mem_of_getElem? (i := 307) rfl, wk_mn⟩⟩⟩⟩⟩⟩⟩⟩⟩⟩⟩⟩⟩⟩⟩⟩⟩⟩⟩⟩⟩⟩⟩⟩⟩⟩⟩⟩⟩⟩⟩⟩⟩⟩⟩⟩⟩⟩⟩⟩⟩⟩⟩⟩⟩⟩⟩⟩⟩⟩⟩⟩⟩⟩⟩⟩⟩⟩⟩⟩⟩⟩⟩⟩⟩⟩⟩⟩⟩⟩⟩⟩⟩⟩⟩⟩⟩⟩⟩⟩⟩⟩⟩⟩⟩⟩⟩⟩⟩⟩⟩⟩⟩⟩⟩⟩⟩⟩⟩⟩⟩⟩⟩⟩⟩⟩⟩) (by decide +kernel)
set_option maxRecDepth 20000 in
theorem gL_acts_X3_wake : GoodIn wsL_acts (wsV RL 81 RX3 yX3_wake wsX3_wake) := goodIn_app (goodIn_sub (List.forall_mem_cons.mpr ⟨List.mem_of_getElem? (i := 167) rfl, List.forall_mem_cons.mpr ⟨List.mem_of_getElem? (i := 168) rfl, List.forall_mem_cons.mpr ⟨List.mem_of_getElem? (i := 169) rfl, List.forall_mem_cons.mpr ⟨List.mem_of_getElem? (i := 14) rfl, wk_mn⟩⟩⟩⟩) (by decide +kernel)) ggL_acts_X3_wake
set_option maxRecDepth 20000 in
theorem ggL_acts_L_wake : GoodIn wsL_acts wsL_wake := goodIn_sub (List.forall_mem_cons.mpr ⟨List.mem_of_getElem? (i := 190) rfl, wk_mn⟩) (by decide +kernel)
set_option maxRecDepth 20000 in
theorem gL_acts_L_wake : GoodIn wsL_acts (va_wsS RL 31 yL_wake wsL_wake) := goodIn_app (goodIn_sub (List.forall_mem_cons.mpr ⟨List.mem_of_getElem? (i := 188) rfl, List.forall_mem_cons.mpr ⟨List.mem_of_getElem? (i := 189) rfl, List.forall_mem_cons.mpr ⟨List.mem_of_getElem? (i := 5) rfl, wk_mn⟩⟩⟩) (by decide +kernel)) ggL_acts_L_wake
set_option maxRecDepth 20000 in
theorem ggL_acts_L_needed : GoodIn wsL_acts wsL_needed := goodIn_sub (List.forall_mem_cons.mpr ⟨List.mem_of_getElem? (i := 193) rfl, wk_mn⟩) (by decide +kernel)
set_option maxRecDepth 20000 in
theorem gL_acts_L_needed : GoodIn wsL_acts (va_wsS RL 41 yL_needed wsL_needed) := goodIn_app (goodIn_sub (List.forall_mem_cons.mpr ⟨List.mem_of_getElem? (i := 191) rfl, List.forall_mem_cons.mpr ⟨List.mem_of_getElem? (i := 192) rfl, List.forall_mem_cons.mpr ⟨List.mem_of_getElem? (i := 5) rfl, wk_mn⟩⟩⟩) (by decide +kernel)) ggL_acts_L_needed
set_option maxRecDepth 20000 in
theorem ggL_acts_X3_sleep : GoodIn wsL_acts wsX3_sleep := goodIn_sub (List.forall_mem_cons.mpr ⟨List.mem_of_getElem? (i := 197) rfl, List.forall_mem_cons.mpr ⟨List.mem_of_getElem? (i := 16) rfl, List.forall_mem_cons.mpr ⟨List.mem_of_getElem? (i := 23) rfl, List.forall_mem_cons.mpr ⟨List.mem_of_getElem? (i := 24) rfl, List.forall_mem_cons.mpr ⟨List.mem_of_getElem? (i := 25) rfl, List.forall_mem_cons.mpr ⟨List.mem_of_getElem? (i := 14) rfl, List.forall_mem_cons.mpr ⟨List.mem_of_getElem? (i := 26) rfl, List.forall_mem_cons.mpr ⟨List.mem_of_getElem? (i := 27) rfl, List.forall_mem_cons.mpr ⟨List.mem_of_getElem? (i := 28) rfl, List.forall_mem_cons.mpr ⟨List.mem_of_getElem? (i := 29) rfl, List.forall_mem_cons.mpr ⟨List.mem_of_getElem? (i := 30) rfl, List.forall_mem_cons.mpr ⟨List.mem_of_getElem? (i := 31) rfl, List.forall_mem_cons.mpr ⟨List.mem_of_getElem? (i := 32) rfl, List.forall_mem_cons.mpr ⟨List.mem_of_getElem? (i := 33) rfl, List.forall_mem_cons.mpr ⟨List.mem_of_getElem? (i := 34) rfl, List.forall_mem_cons.mpr ⟨List.mem_of_getElem? (i := 35) rfl, List.forall_mem_cons.mpr ⟨List.mem_of_getElem? (i := 36) rfl, List.forall_mem_cons.mpr ⟨List.mem_of_getElem? (i := 37) rfl, List.forall_mem_cons.mpr ⟨List.mem_of_getElem? (i := 38) rfl, List.forall_mem_cons.mpr ⟨List.mem_of_getElem? (i := 39) rfl, List.forall_mem_cons.mpr ⟨List.mem_of_getElem? (i := 40) rfl, List.forall_mem_cons.mpr ⟨List.mem_of_getElem? (i := 41) rfl, List.forall_mem_cons.mpr ⟨List.mem_of_getElem? (i := 42) rfl, List.forall_mem_cons.mpr ⟨List.mem_of_getElem? (i := 43) rfl, List.forall_mem_cons.mpr ⟨List.mem_of_getElem? (i := 44) rfl, List.forall_mem_cons.mpr ⟨List.mem_of_getElem? (i := 45) rfl, List.forall_mem_cons.mpr ⟨List.mem_of_getElem? (i := 46) rfl, List.forall_mem_cons.mpr ⟨List.mem_of_getElem? (i := 47) rfl, List.forall_mem_cons.mpr ⟨List.mem_of_getElem? (i := 48) rfl, List.forall_mem_cons.mpr ⟨List.mem_of_getElem? (i := 49) rfl, List.forall_mem_cons.mpr ⟨List.mem_of_getElem? (i := 50) rfl, List.forall_mem_cons.mpr ⟨List.mem_of_getElem? (i := 51) rfl, List.forall_mem_cons.mpr ⟨List.mem_of_getElem? (i := 52) rfl, List.forall_mem_cons.mpr ⟨List.mem_of_getElem? (i := 53) rfl, List.forall_mem_cons.mpr ⟨List.mem_of_getElem? (i := 54) rfl, List.forall_mem_cons.mpr ⟨List.mem_of_getElem? (i := 55) rfl, List.forall_mem_cons.mpr ⟨List.mem_of_getElem? (i := 56) rfl, List.forall_mem_cons.mpr ⟨List.mem_of_getElem? (i := 57) rfl, List.forall_mem_cons.mpr ⟨List.mem_of_getElem? (i := 58) rfl, List.forall_mem_cons.mpr ⟨List.mem_of_getElem? (i := 59) rfl, List.forall_mem_cons.mpr ⟨List.mem_of_getElem? (i := 60) rfl, List.forall_mem_cons.mpr ⟨List.mem_of_getElem? (i := 61) rfl, List.forall_mem_cons.mpr ⟨List.mem_of_getElem? (i := 62) rfl, List.forall_mem_cons.mpr ⟨List.mem_of_getElem? (i := 63) rfl, List.forall_mem_cons.mpr ⟨List.mem_of_getElem? (i := 64) rfl, List.forall_mem_cons.mpr ⟨List.mem_of_getElem? (i := 65) rfl, List.forall_mem_cons.mpr ⟨List.mem_of_getElem? (i := 66) rfl, List.forall_mem_cons.mpr ⟨List.mem_of_getElem? (i := 198) rfl, List.forall_mem_cons.mpr ⟨List.mem_of_getElem? (i := 199) rfl, List.forall_mem_cons.mpr ⟨List.mem_of_getElem? (i := 200) rfl, List.forall_mem_cons.mpr ⟨List.mem_of_getElem? (i := 201) rfl, List.forall_mem_cons.mpr ⟨List.mem_of_getElem? (i := 87) rfl, List.forall_mem_cons.mpr ⟨List.mem_of_getElem? (i := 202) rfl, List.forall_mem_cons.mpr ⟨List.mem_of_getElem? (i := 89) rfl, List.forall_mem_cons.mpr ⟨List.mem_of_getElem? (i := 90) rfl, List.forall_mem_cons.mpr ⟨List.mem_of_getElem? (i := 91) rfl, List.forall_mem_cons.mpr ⟨List.mem_of_getElem? (i := 92) rfl, List.forall_mem_cons.mpr ⟨List.mem_of_getElem? (i := 203) rfl, List.forall_mem_cons.mpr ⟨List.mem_of_getElem? (i := 204) rfl, List.forall_mem_cons.mpr ⟨List.mem_of_getElem? (i := 205) rfl, List.forall_mem_cons.mpr ⟨List.mem_of_getElem? (i := 206) rfl, List.forall_mem_cons.mpr ⟨List.mem_of_getElem? (i := 88) rfl, List.forall_mem_cons.mpr ⟨List.mem_of_getElem? (i := 71) rfl, List.forall_mem_cons.mpr ⟨List.mem_of_getElem? (i := 72) rfl, List.forall_mem_cons.mpr ⟨List.mem_of_getElem? (i := 73) rfl, List.forall_mem_cons.mpr ⟨List.mem_of_getElem? (i := 74) rfl, List.forall_mem_cons.mpr ⟨List.mem_of_getElem? (i := 75) rfl, List.forall_mem_cons.mpr ⟨List.mem_of_getElem? (i := 76) rfl, List.forall_mem_cons.mpr ⟨List.mem_of_getElem? (i := 77) rfl, List.forall_mem_cons.mpr ⟨List.mem_of_getElem? (i := 78) rfl, List.forall_mem_cons.mpr ⟨List.mem_of_getElem? (i := 280) rfl, List.forall_mem_cons.mpr ⟨List.mem_of_getElem? (i := 281) rfl, List.forall_mem_cons.mpr ⟨List.mem_of_getElem? (i := 282) rfl, List.forall_mem_cons.mpr ⟨List.mem_of_getElem? (i := 283) rfl, List.forall_mem_cons.mpr ⟨List.mem_of_getElem? (i := 284) rfl, List.forall_mem_cons.mpr ⟨List.mem_of_getElem? (i := 285) rfl, List.forall_mem_cons.mpr ⟨List.mem_of_getElem? (i := 286) rfl, List.forall_mem_cons.mpr ⟨List.mem_of_getElem? (i := 287) rfl, List.forall_mem_cons.mpr ⟨List.mem_of_getElem? (i := 288) rfl, List.forall_mem_cons.mpr ⟨List.mem_of_getElem? (i := 289) rfl, List.forall_mem_cons.mpr ⟨List.mem_of_getElem? (i := 290) rfl, List.forall_mem_cons.mpr ⟨List.mem_of_getElem? (i := 291) rfl, List.forall_mem_cons.mpr ⟨List.mem_of_getElem? (i := 292) rfl, List.forall_mem_cons.mpr ⟨List.mem_of_getElem? (i := 293) rfl, List.forall_mem_cons.mpr ⟨List.mem_of_getElem? (i := 294) rfl, List.forall_mem_cons.mpr ⟨List.mem_of_getElem? (i := 295) rfl, List.forall_mem_cons.mpr ⟨List.mem_of_getElem? (i := 296) rfl, List.forall_mem_cons.mpr ⟨List.mem_of_getElem? (i := 297) rfl, List.forall_mem_cons.mpr ⟨List.mem_of_getElem? (i := 298) rfl, List.forall_mem_cons.mpr ⟨List.mem_of_getElem? (i := 299) rfl, List.forall_mem_cons.mpr ⟨List.mem_of_getElem? (i := 300) rfl, List.forall_mem_cons.mpr ⟨List.mem_of_getElem? (i := 301) rfl, List.forall_mem_cons.mpr ⟨List.mem_of_getElem? (i := 302) rfl, List.forall_mem_cons.mpr ⟨List.mem_of_getElem? (i := 303) rfl, List.forall_mem_cons.mpr ⟨List.mem_of_getElem? (i := 304) rfl, List.forall_mem_cons.mpr ⟨List.mem_of_getElem? (i := 305) rfl, List.forall_mem_cons.mpr ⟨List.mem_of_getElem? (i := 306) rfl, List.forall_mem_cons.mpr ⟨List.mem_of_getElem? (i := 307) rfl, wk_mn⟩⟩⟩⟩⟩⟩⟩⟩⟩⟩⟩⟩⟩⟩⟩⟩⟩⟩⟩⟩⟩⟩⟩⟩⟩⟩⟩⟩⟩⟩⟩⟩⟩⟩⟩⟩⟩⟩⟩⟩⟩⟩⟩⟩⟩⟩⟩⟩⟩⟩⟩⟩⟩⟩⟩⟩⟩⟩⟩⟩⟩⟩⟩⟩⟩⟩⟩⟩⟩⟩⟩⟩⟩⟩⟩⟩⟩⟩⟩⟩⟩⟩⟩⟩⟩⟩⟩⟩⟩⟩⟩⟩⟩⟩⟩⟩⟩⟩) (by decide +kernel)
set_option maxRecDepth 20000 in
theorem gL_acts_X3_sleep : GoodIn wsL_acts (wsV RL 83 RX3 yX3_sleep wsX3_sleep) := goodIn_app (goodIn_sub (List.forall_mem_cons.mpr ⟨List.mem_of_getElem? (i := 194) rfl, List.forall_mem_cons.mpr ⟨List.mem_of_getElem? (i := 195) rfl, List.forall_mem_cons.mpr ⟨List.mem_of_getElem? (i := 196) rfl, List.forall_mem_cons.mpr ⟨List.mem_of_getElem? (i := 14) rfl, wk_mn⟩⟩⟩⟩) (by decide +kernel)) ggL_acts_X3_sleep
set_option maxRecDepth 20000 in
theorem ggL_acts_L_tick : GoodIn wsL_acts wsL_tick := goodIn_sub (List.forall_mem_cons.mpr ⟨List.mem_of_getElem? (i := 209) rfl, List.forall_mem_cons.mpr ⟨List.mem_of_getElem? (i := 2) rfl, List.forall_mem_cons.mpr ⟨List.mem_of_getElem? (i := 210) rfl, List.forall_mem_cons.mpr ⟨List.mem_of_getElem? (i := 211) rfl, List.forall_mem_cons.mpr ⟨List.mem_of_getElem? (i := 5) rfl, List.forall_mem_cons.mpr ⟨List.mem_of_getElem? (i := 212) rfl, List.forall_mem_cons.mpr ⟨List.mem_of_getElem? (i := 213) rfl, List.forall_mem_cons.mpr ⟨List.mem_of_getElem? (i := 214) rfl, List.forall_mem_cons.mpr ⟨List.mem_of_getElem? (i := 215) rfl, List.forall_mem_cons.mpr ⟨List.mem_of_getElem? (i := 216) rfl, List.forall_mem_cons.mpr ⟨List.mem_of_getElem? (i := 217) rfl, List.forall_mem_cons.mpr ⟨List.mem_of_getElem? (i := 218) rfl, List.forall_mem_cons.mpr ⟨List.mem_of_getElem? (i := 161) rfl, List.forall_mem_cons.mpr ⟨List.mem_of_getElem? (i := 162) rfl, List.forall_mem_cons.mpr ⟨List.mem_of_getElem? (i := 163) rfl, List.forall_mem_cons.mpr ⟨List.mem_of_getElem? (i := 164) rfl, List.forall_mem_cons.mpr ⟨List.mem_of_getElem? (i := 165) rfl, List.forall_mem_cons.mpr ⟨List.mem_of_getElem? (i := 166) rfl, List.forall_mem_cons.mpr ⟨List.mem_of_getElem? (i := 188) rfl, List.forall_mem_cons.mpr ⟨List.mem_of_getElem? (i := 189) rfl, List.forall_mem_cons.mpr ⟨List.mem_of_getElem? (i := 190) rfl, List.forall_mem_cons.mpr ⟨List.mem_of_getElem? (i := 158) rfl, List.forall_mem_cons.mpr ⟨List.mem_of_getElem? (i := 159) rfl, List.forall_mem_cons.mpr ⟨List.mem_of_getElem? (i := 160) rfl, List.forall_mem_cons.mpr ⟨List.mem_of_getElem? (i := 191) rfl, List.forall_mem_cons.mpr ⟨List.mem_of_getElem? (i := 192) rfl, List.forall_mem_cons.mpr ⟨List.mem_of_getElem? (i := 193) rfl, wk_mn⟩⟩⟩⟩⟩⟩⟩⟩⟩⟩⟩⟩⟩⟩⟩⟩⟩⟩⟩⟩⟩⟩⟩⟩⟩⟩⟩) (by decide +kernel)
set_option maxRecDepth 20000 in
theorem gL_acts_L_tick : GoodIn wsL_acts (va_wsS RL 86 yL_tick wsL_tick) := goodIn_app (goodIn_sub (List.forall_mem_cons.mpr ⟨List.mem_of_getElem? (i := 207) rfl, List.forall_mem_cons.mpr ⟨List.mem_of_getElem? (i := 208) rfl, List.forall_mem_cons.mpr ⟨List.mem_of_getElem? (i := 5) rfl, wk_mn⟩⟩⟩) (by decide +kernel)) ggL_acts_L_tick
set_option maxRecDepth 20000 in
theorem ggL_acts_X3_tick : GoodIn wsL_acts wsX3_tick := goodIn_sub (List.forall_mem_cons.mpr ⟨List.mem_of_getElem? (i := 222) rfl, List.forall_mem_cons.mpr ⟨List.mem_of_getElem? (i := 16) rfl, List.forall_mem_cons.mpr ⟨List.mem_of_getElem? (i := 23) rfl, List.forall_mem_cons.mpr ⟨List.mem_of_getElem? (i := 24) rfl, List.forall_mem_cons.mpr ⟨List.mem_of_getElem? (i := 25) rfl, List.forall_mem_cons.mpr ⟨List.mem_of_getElem? (i := 14) rfl, List.forall_mem_cons.mpr ⟨List.mem_of_getElem? (i := 26) rfl, List.forall_mem_cons.mpr ⟨List.mem_of_getElem? (i := 27) rfl, List.forall_mem_cons.mpr ⟨List.mem_of_getElem? (i := 28) rfl, List.forall_mem_cons.mpr ⟨List.mem_of_getElem? (i := 29) rfl, List.forall_mem_cons.mpr ⟨List.mem_of_getElem? (i := 30) rfl, List.forall_mem_cons.mpr ⟨List.mem_of_getElem? (i := 31) rfl, List.forall_mem_cons.mpr ⟨List.mem_of_getElem? (i := 32) rfl, List.forall_mem_cons.mpr ⟨List.mem_of_getElem? (i := 33) rfl, List.forall_mem_cons.mpr ⟨List.mem_of_getElem? (i := 34) rfl, List.forall_mem_cons.mpr ⟨List.mem_of_getElem? (i := 35) rfl, List.forall_mem_cons.mpr ⟨List.mem_of_getElem? (i := 36) rfl, List.forall_mem_cons.mpr ⟨List.mem_of_getElem? (i := 37) rfl, List.forall_mem_cons.mpr ⟨List.mem_of_getElem? (i := 38) rfl, List.forall_mem_cons.mpr ⟨List.mem_of_getElem? (i := 39) rfl, List.forall_mem_cons.mpr ⟨List.mem_of_getElem? (i := 40) rfl, List.forall_mem_cons.mpr ⟨List.mem_of_getElem? (i := 41) rfl, List.forall_mem_cons.mpr ⟨List.mem_of_getElem? (i := 42) rfl, List.forall_mem_cons.mpr ⟨List.mem_of_getElem? (i := 43) rfl, List.forall_mem_cons.mpr ⟨List.mem_of_getElem? (i := 44) rfl, List.forall_mem_cons.mpr ⟨List.mem_of_getElem? (i := 45) rfl, List.forall_mem_cons.mpr ⟨List.mem_of_getElem? (i := 46) rfl, List.forall_mem_cons.mpr ⟨List.mem_of_getElem? (i := 47) rfl, List.forall_mem_cons.mpr ⟨List.mem_of_getElem? (i := 48) rfl, List.forall_mem_cons.mpr ⟨List.mem_of_getElem? (i := 49) rfl, List.forall_mem_cons.mpr ⟨List.mem_of_getElem? (i := 50) rfl, List.forall_mem_cons.mpr ⟨List.mem_of_getElem? (i := 51) rfl, List.forall_mem_cons.mpr ⟨List.mem_of_getElem? (i := 52) rfl, List.forall_mem_cons.mpr ⟨List.mem_of_getElem? (i := 53) rfl, List.forall_mem_cons.mpr ⟨List.mem_of_getElem? (i := 54) rfl, List.forall_mem_cons.mpr ⟨List.mem_of_getElem? (i := 55) rfl, List.forall_mem_cons.mpr ⟨List.mem_of_getElem? (i := 56) rfl, List.forall_mem_cons.mpr ⟨List.mem_of_getElem? (i := 57) rfl, List.forall_mem_cons.mpr ⟨List.mem_of_getElem? (i := 58) rfl, List.forall_mem_cons.mpr ⟨List.mem_of_getElem? (i := 59) rfl, List.forall_mem_cons.mpr ⟨List.mem_of_getElem? (i := 60) rfl, List.forall_mem_cons.mpr ⟨List.mem_of_getElem? (i := 61) rfl, List.forall_mem_cons.mpr ⟨List.mem_of_getElem? (i := 62) rfl, List.forall_mem_cons.mpr ⟨List.mem_of_getElem? (i := 63) rfl, List.forall_mem_cons.mpr ⟨List.mem_of_getElem? (i := 64) rfl, List.forall_mem_cons.mpr ⟨List.mem_of_getElem? (i := 65) rfl, List.forall_mem_cons.mpr ⟨List.mem_of_getElem? (i := 66) rfl, List.forall_mem_cons.mpr ⟨List.mem_of_getElem? (i := 223) rfl, List.forall_mem_cons.mpr ⟨List.mem_of_getElem? (i := 224) rfl, List.forall_mem_cons.mpr ⟨List.mem_of_getElem? (i := 225) rfl, List.forall_mem_cons.mpr ⟨List.mem_of_getElem? (i := 226) rfl, List.forall_mem_cons.mpr ⟨List.mem_of_getElem? (i := 141) rfl, List.forall_mem_cons.mpr ⟨List.mem_of_getElem? (i := 21) rfl, List.forall_mem_cons.mpr ⟨List.mem_of_getElem? (i := 22) rfl, List.forall_mem_cons.mpr ⟨List.mem_of_getElem? (i := 227) rfl, List.forall_mem_cons.mpr ⟨List.mem_of_getElem? (i := 228) rfl, List.forall_mem_cons.mpr ⟨List.mem_of_getElem? (i := 229) rfl, List.forall_mem_cons.mpr ⟨List.mem_of_getElem? (i := 230) rfl, List.forall_mem_cons.mpr ⟨List.mem_of_getElem? (i := 231) rfl, List.forall_mem_cons.mpr ⟨List.mem_of_getElem? (i := 232) rfl, List.forall_mem_cons.mpr ⟨List.mem_of_getElem? (i := 233) rfl, List.forall_mem_cons.mpr ⟨List.mem_of_getElem? (i := 234) rfl, List.forall_mem_cons.mpr ⟨List.mem_of_getElem? (i := 235) rfl, List.forall_mem_cons.mpr ⟨List.mem_of_getElem? (i := 87) rfl, List.forall_mem_cons.mpr ⟨List.mem_of_getElem? (i := 236) rfl, List.forall_mem_cons.mpr ⟨List.mem_of_getElem? (i := 237) rfl, List.forall_mem_cons.mpr ⟨List.mem_of_getElem? (i := 238) rfl, List.forall_mem_cons.mpr ⟨List.mem_of_getElem? (i := 239) rfl, List.forall_mem_cons.mpr ⟨List.mem_of_getElem? (i := 132) rfl, List.forall_mem_cons.mpr ⟨List.mem_of_getElem? (i := 175) rfl, List.forall_mem_cons.mpr ⟨List.mem_of_getElem? (i := 240) rfl, List.forall_mem_cons.mpr ⟨List.mem_of_getElem? (i := 241) rfl, List.forall_mem_cons.mpr ⟨List.mem_of_getElem? (i := 242) rfl, List.forall_mem_cons.mpr ⟨List.mem_of_getElem? (i := 243) rfl, List.forall_mem_cons.mpr ⟨List.mem_of_getElem? (i := 150) rfl, List.forall_mem_cons.mpr ⟨List.mem_of_getElem? (i := 151) rfl, List.forall_mem_cons.mpr ⟨List.mem_of_getElem? (i := 152) rfl, List.forall_mem_cons.mpr ⟨List.mem_of_getElem? (i := 153) rfl, List.forall_mem_cons.mpr ⟨List.mem_of_getElem? (i := 244) rfl, List.forall_mem_cons.mpr ⟨List.mem_of_getElem? (i := 245) rfl, List.forall_mem_cons.mpr ⟨List.mem_of_getElem? (i := 246) rfl, List.forall_mem_cons.mpr ⟨List.mem_of_getElem? (i := 247) rfl, List.forall_mem_cons.mpr ⟨List.mem_of_getElem? (i := 248) rfl, List.forall_mem_cons.mpr ⟨List.mem_of_getElem? (i := 249) rfl, List.forall_mem_cons.mpr ⟨List.mem_of_getElem? (i := 250) rfl, List.forall_mem_cons.mpr ⟨List.mem_of_getElem? (i := 251) rfl, List.forall_mem_cons.mpr ⟨List.mem_of_getElem? (i := 88) rfl, List.forall_mem_cons.mpr ⟨List.mem_of_getElem? (i := 89) rfl, List.forall_mem_cons.mpr ⟨List.mem_of_getElem? (i := 90) rfl, List.forall_mem_cons.mpr ⟨List.mem_of_getElem? (i := 91) rfl, List.forall_mem_cons.mpr ⟨List.mem_of_getElem? (i := 92) rfl, List.forall_mem_cons.mpr ⟨List.mem_of_getElem? (i := 176) rfl, List.forall_mem_cons.mpr ⟨List.mem_of_getElem? (i := 177) rfl, List.forall_mem_cons.mpr ⟨List.mem_of_getElem? (i := 178) rfl, List.forall_mem_cons.mpr ⟨List.mem_of_getElem? (i := 179) rfl, List.forall_mem_cons.mpr ⟨List.mem_of_getElem? (i := 252) rfl, List.forall_mem_cons.mpr ⟨List.mem_of_getElem? (i := 253) rfl, List.forall_mem_cons.mpr ⟨List.mem_of_getElem? (i := 254) rfl, List.forall_mem_cons.mpr ⟨List.mem_of_getElem? (i := 255) rfl, List.forall_mem_cons.mpr ⟨List.mem_of_getElem? (i := 180) rfl, List.forall_mem_cons.mpr ⟨List.mem_of_getElem? (i := 181) rfl, List.forall_mem_cons.mpr ⟨List.mem_of_getElem? (i := 182) rfl, List.forall_mem_cons.mpr ⟨List.mem_of_getElem? (i := 183) rfl, List.forall_mem_cons.mpr ⟨List.mem_of_getElem? (i := 101) rfl, List.forall_mem_cons.mpr ⟨List.mem_of_getElem? (i := 184) rfl, List.forall_mem_cons.mpr ⟨List.mem_of_getElem? (i := 185) rfl, List.forall_mem_cons.mpr ⟨List.mem_of_getElem? (i := 186) rfl, List.forall_mem_cons.mpr ⟨List.mem_of_getElem? (i := 187) rfl, List.forall_mem_cons.mpr ⟨List.mem_of_getElem? (i := 256) rfl, List.forall_mem_cons.mpr ⟨List.mem_of_getElem? (i := 257) rfl, List.forall_mem_cons.mpr ⟨List.mem_of_getElem? (i := 258) rfl, List.forall_mem_cons.mpr ⟨List.mem_of_getElem? (i := 259) rfl, List.forall_mem_cons.mpr ⟨List.mem_of_getElem? (i := 260) rfl, List.forall_mem_cons.mpr ⟨List.mem_of_getElem? (i := 261) rfl, List.forall_mem_cons.mpr ⟨List.mem_of_getElem? (i := 262) rfl, List.forall_mem_cons.mpr ⟨List.mem_of_getElem? (i := 263) rfl, List.forall_mem_cons.mpr ⟨List.mem_of_getElem? (i := 154) rfl, List.forall_mem_cons.mpr ⟨List.mem_of_getElem? (i := 155) rfl, List.forall_mem_cons.mpr ⟨List.mem_of_getElem? (i := 156) rfl, List.forall_mem_cons.mpr ⟨List.mem_of_getElem? (i := 157) rfl, List.forall_mem_cons.mpr ⟨List.mem_of_getElem? (i := 264) rfl, List.forall_mem_cons.mpr ⟨List.mem_of_getElem? (i := 265) rfl, List.forall_mem_cons.mpr ⟨List.mem_of_getElem? (i := 266) rfl, List.forall_mem_cons.mpr ⟨List.mem_of_getElem? (i := 267) rfl, List.forall_mem_cons.mpr ⟨List.mem_of_getElem? (i := 268) rfl, List.forall_mem_cons.mpr ⟨List.mem_of_getElem? (i := 269) rfl, List.forall_mem_cons.mpr ⟨List.mem_of_getElem? (i := 270) rfl, List.forall_mem_cons.mpr ⟨List.mem_of_getElem? (i := 271) rfl, List.forall_mem_cons.mpr ⟨List.mem_of_getElem? (i := 202) rfl, List.forall_mem_cons.mpr ⟨List.mem_of_getElem? (i := 272) rfl, List.forall_mem_cons.mpr ⟨List.mem_of_getElem? (i := 273) rfl, List.forall_mem_cons.mpr ⟨List.mem_of_getElem? (i := 274) rfl, List.forall_mem_cons.mpr ⟨List.mem_of_getElem? (i := 275) rfl, List.forall_mem_cons.mpr ⟨List.mem_of_getElem? (i := 276) rfl, List.forall_mem_cons.mpr ⟨List.mem_of_getElem? (i := 277) rfl, List.forall_mem_cons.mpr ⟨List.mem_of_getElem? (i := 278) rfl, List.forall_mem_cons.mpr ⟨List.mem_of_getElem? (i := 279) rfl, List.forall_mem_cons.mpr ⟨List.mem_of_getElem? (i := 203) rfl, List.forall_mem_cons.mpr ⟨List.mem_of_getElem? (i := 204) rfl, List.forall_mem_cons.mpr ⟨List.mem_of_getElem? (i := 205) rfl, List.forall_mem_cons.mpr ⟨List.mem_of_getElem? (i := 206) rfl, List.forall_mem_cons.mpr ⟨List.mem_of_getElem? (i := 71) rfl, List.forall_mem_cons.mpr ⟨List.mem_of_getElem? (i := 72) rfl, List.forall_mem_cons.mpr ⟨List.mem_of_getElem? (i := 73) rfl, List.forall_mem_cons.mpr ⟨List.mem_of_getElem? (i := 74) rfl, List.forall_mem_cons.mpr ⟨List.mem_of_getElem? (i := 75) rfl, List.forall_mem_cons.mpr ⟨List.mem_of_getElem? (i := 76) rfl, List.forall_mem_cons.mpr ⟨List.mem_of_getElem? (i := 77) rfl, List.forall_mem_cons.mpr ⟨List.mem_of_getElem? (i := 78) rfl, List.forall_mem_cons.mpr ⟨List.mem_of_getElem? (i := 280) rfl, List.forall_mem_cons.mpr ⟨List.mem_of_getElem? (i := 281) rfl, List.forall_mem_cons.mpr ⟨List.mem_of_getElem? (i := 282) rfl, List.forall_mem_cons.mpr ⟨List.mem_of_getElem? (i := 283) rfl, List.forall_mem_cons.mpr ⟨List.mem_of_getElem? (i := 284) rfl, List.forall_mem_cons.mpr ⟨List.mem_of_getElem? (i := 285) rfl, List.forall_mem_cons.mpr ⟨List.mem_of_getElem? (i := 286) rfl, List.forall_mem_cons.mpr ⟨List.mem_of_getElem? (i := 287) rfl, List.forall_mem_cons.mpr ⟨List.mem_of_getElem? (i := 288) rfl, List.forall_mem_cons.mpr ⟨List.mem_of_getElem? (i := 289) rfl, List.forall_mem_cons.mpr ⟨List.mem_of_getElem? (i := 290) rfl, List.forall_mem_cons.mpr ⟨List.mem_of_getElem? (i := 291) rfl, List.forall_mem_cons.mpr ⟨List.mem_of_getElem? (i := 292) rfl, List.forall_mem_cons.mpr ⟨List.mem_of_getElem? (i := 293) rfl, List.forall_mem_cons.mpr ⟨List.mem_of_getElem? (i := 294) rfl, List.forall_mem_cons.mpr ⟨List.mem_of_getElem? (i := 295) rfl, List.forall_mem_cons.mpr ⟨List.mem_of_getElem? (i := 296) rfl, List.forall_mem_cons.mpr ⟨List.mem_of_getElem? (i := 297) rfl, List.forall_mem_cons.mpr ⟨List.mem_of_getElem? (i := 298) rfl, List.forall_mem_cons.mpr ⟨List.mem_of_getElem? (i := 299) rfl, List.forall_mem_cons.mpr ⟨List.mem_of_getElem? (i := 300) rfl, List.forall_mem_cons.mpr ⟨List.mem_of_getElem? (i := 301) rfl, List.forall_mem_cons.mpr ⟨List.mem_of_getElem? (i := 302) rfl, List.forall_mem_cons.mpr ⟨List.mem_of_getElem? (i := 303) rfl, List.forall_mem_cons.mpr ⟨List.mem_of_getElem? (i := 304) rfl, List.forall_mem_cons.mpr ⟨List.mem_of_getElem? (i := 305) rfl, List.forall_mem_cons.mpr ⟨List.mem_of_getElem? (i := 306) rfl, List.forall_mem_cons.mpr ⟨List.mem_of_getElem? (i := 307) rfl, wk_mn⟩⟩⟩⟩⟩⟩⟩⟩⟩⟩⟩⟩⟩⟩⟩⟩⟩⟩⟩⟩⟩⟩⟩⟩⟩⟩⟩⟩⟩⟩⟩⟩⟩⟩⟩⟩⟩⟩⟩⟩⟩⟩⟩⟩⟩⟩⟩⟩⟩⟩⟩⟩⟩⟩⟩⟩⟩⟩⟩⟩⟩⟩⟩⟩⟩⟩⟩⟩⟩⟩⟩⟩⟩⟩⟩⟩⟩⟩⟩⟩⟩⟩⟩⟩⟩⟩⟩⟩⟩⟩⟩⟩⟩⟩⟩⟩⟩⟩⟩⟩⟩⟩⟩⟩⟩⟩⟩⟩⟩⟩⟩⟩⟩⟩⟩⟩⟩⟩⟩⟩⟩⟩⟩⟩⟩⟩⟩⟩⟩⟩⟩⟩⟩⟩⟩⟩⟩⟩⟩⟩⟩⟩⟩⟩⟩⟩⟩⟩⟩⟩⟩⟩⟩⟩⟩⟩⟩⟩⟩⟩⟩⟩⟩⟩⟩⟩⟩⟩⟩⟩⟩⟩⟩⟩⟩⟩⟩) (by decide +kernel)
set_option maxRecDepth 20000 in
theorem gL_acts_X3_tick : GoodIn wsL_acts (wsV RL 90 RX3 yX3_tick wsX3_tick) := goodIn_app (goodIn_sub (List.forall_mem_cons.mpr ⟨List.mem_of_getElem? (i := 219) rfl, List.forall_mem_cons.mpr ⟨List.mem_of_getElem? (i := 220) rfl, List.forall_mem_cons.mpr ⟨List.mem_of_getElem? (i := 221) rfl, List.forall_mem_cons.mpr ⟨List.mem_of_getElem? (i := 14) rfl, wk_mn⟩⟩⟩⟩) (by decide +kernel)) ggL_acts_X3_tick
theorem dL_acts_0 : decode cL_acts 0 = .ok (.iload 6, 2) := by decide +kernel
theorem dL_acts_2 : decode cL_acts 2 = .ok (.iconst 5, 1) := by decide +kernel
theorem dL_acts_3 : decode cL_acts 3 = .ok (.ishr, 1) := by decide +kernel
theorem dL_acts_4 : decode cL_acts 4 = .ok (.ldc 68, 2) := by decide +kernel
theorem dL_acts_6 : decode cL_acts 6 = .ok (.invokestatic 69, 3) := by decide +kernel
theorem dL_acts_9 : decode cL_acts 9 = .ok (.istore 7, 2) := by decide +kernel
theorem dL_acts_11 : decode cL_acts 11 = .ok (.iload 6, 2) := by decide +kernel
theorem dL_acts_13 : decode cL_acts 13 = .ok (.bipush 28, 2) := by decide +kernel
theorem dL_acts_15 : decode cL_acts 15 = .ok (.invokestatic 69, 3) := by decide +kernel
theorem dL_acts_18 : decode cL_acts 18 = .ok (.istore 8, 2) := by decide +kernel
theorem dL_acts_20 : decode cL_acts 20 = .ok (.iload 8, 2) := by decide +kernel
theorem dL_acts_22 : decode cL_acts 22 = .ok (.iconst 2, 1) := by decide +kernel
theorem dL_acts_23 : decode cL_acts 23 = .ok (.if_icmp .lt 9, 3) := by decide +kernel
theorem dL_acts_26 : decode cL_acts 26 = .ok (.aload_n 1, 1) := by decide +kernel
theorem dL_acts_27 : decode cL_acts 27 = .ok (.iconst 0, 1) := by decide +kernel
theorem dL_acts_28 : decode cL_acts 28 = .ok (.iaload, 1) := by decide +kernel
theorem dL_acts_29 : decode cL_acts 29 = .ok (.ifCond .ne 16, 3) := by decide +kernel
theorem dL_acts_32 : decode cL_acts 32 = .ok (.aload_n 0, 1) := by decide +kernel
theorem dL_acts_33 : decode cL_acts 33 = .ok (.aload_n 1, 1) := by decide +kernel
theorem dL_acts_34 : decode cL_acts 34 = .ok (.aload_n 2, 1) := by decide +kernel
theorem dL_acts_35 : decode cL_acts 35 = .ok (.aload_n 3, 1) := by decide +kernel
theorem dL_acts_36 : decode cL_acts 36 = .ok (.aload 4, 2) := by decide +kernel
theorem dL_acts_38 : decode cL_acts 38 = .ok (.iload 7, 2) := by decide +kernel
theorem dL_acts_40 : decode cL_acts 40 = .ok (.iconst 0, 1) := by decide +kernel
theorem dL_acts_41 : decode cL_acts 41 = .ok (.invokestatic 72, 3) := by decide +kernel
theorem dL_acts_44 : decode cL_acts 44 = .ok (.ireturn, 1) := by decide +kernel
theorem dL_acts_45 : decode cL_acts 45 = .ok (.iload 8, 2) := by decide +kernel
theorem dL_acts_47 : decode cL_acts 47 = .ok (.bipush 9, 2) := by decide +kernel
theorem dL_acts_49 : decode cL_acts 49 = .ok (.if_icmp .ge 57, 3) := by decide +kernel
theorem dL_acts_52 : decode cL_acts 52 = .ok (.aload_n 0, 1) := by decide +kernel
theorem dL_acts_53 : decode cL_acts 53 = .ok (.aload_n 1, 1) := by decide +kernel
theorem dL_acts_54 : decode cL_acts 54 = .ok (.aload_n 2, 1) := by decide +kernel
theorem dL_acts_55 : decode cL_acts 55 = .ok (.aload_n 3, 1) := by decide +kernel
theorem dL_acts_56 : decode cL_acts 56 = .ok (.aload 4, 2) := by decide +kernel
theorem dL_acts_58 : decode cL_acts 58 = .ok (.iload 7, 2) := by decide +kernel
theorem dL_acts_60 : decode cL_acts 60 = .ok (.iload 8, 2) := by decide +kernel
theorem dL_acts_62 : decode cL_acts 62 = .ok (.iconst 2, 1) := by decide +kernel
theorem dL_acts_63 : decode cL_acts 63 = .ok (.if_icmp .ne 7, 3) := by decide +kernel
theorem dL_acts_66 : decode cL_acts 66 = .ok (.iconst 1, 1) := by decide +kernel
theorem dL_acts_67 : decode cL_acts 67 = .ok (.goto 35, 3) := by decide +kernel
theorem dL_acts_70 : decode cL_acts 70 = .ok (.iload 8, 2) := by decide +kernel
theorem dL_acts_72 : decode cL_acts 72 = .ok (.iconst 5, 1) := by decide +kernel
theorem dL_acts_73 : decode cL_acts 73 = .ok (.if_icmp .ge 7, 3) := by decide +kernel
theorem dL_acts_76 : decode cL_acts 76 = .ok (.iconst 2, 1) := by decide +kernel
theorem dL_acts_77 : decode cL_acts 77 = .ok (.goto 25, 3) := by decide +kernel
theorem dL_acts_80 : decode cL_acts 80 = .ok (.iload 8, 2) := by decide +kernel
theorem dL_acts_82 : decode cL_acts 82 = .ok (.iconst 5, 1) := by decide +kernel
theorem dL_acts_83 : decode cL_acts 83 = .ok (.if_icmp .ne 7, 3) := by decide +kernel
theorem dL_acts_86 : decode cL_acts 86 = .ok (.iconst 3, 1) := by decide +kernel
theorem dL_acts_87 : decode cL_acts 87 = .ok (.goto 15, 3) := by decide +kernel
theorem dL_acts_90 : decode cL_acts 90 = .ok (.iload 8, 2) := by decide +kernel
theorem dL_acts_92 : decode cL_acts 92 = .ok (.bipush 6, 2) := by decide +kernel
theorem dL_acts_94 : decode cL_acts 94 = .ok (.if_icmp .ne 7, 3) := by decide +kernel
theorem dL_acts_97 : decode cL_acts 97 = .ok (.iconst 4, 1) := by decide +kernel
end
section
theorem dL_acts_98 : decode cL_acts 98 = .ok (.goto 4, 3) := by decide +kernel
theorem dL_acts_101 : decode cL_acts 101 = .ok (.iconst 5, 1) := by decide +kernel
theorem dL_acts_102 : decode cL_acts 102 = .ok (.invokestatic 72, 3) := by decide +kernel
theorem dL_acts_105 : decode cL_acts 105 = .ok (.ireturn, 1) := by decide +kernel
theorem dL_acts_106 : decode cL_acts 106 = .ok (.iload 7, 2) := by decide +kernel
theorem dL_acts_108 : decode cL_acts 108 = .ok (.aload_n 1, 1) := by decide +kernel
theorem dL_acts_109 : decode cL_acts 109 = .ok (.iconst 0, 1) := by decide +kernel
theorem dL_acts_110 : decode cL_acts 110 = .ok (.iaload, 1) := by decide +kernel
theorem dL_acts_111 : decode cL_acts 111 = .ok (.irem, 1) := by decide +kernel
theorem dL_acts_112 : decode cL_acts 112 = .ok (.istore 9, 2) := by decide +kernel
theorem dL_acts_114 : decode cL_acts 114 = .ok (.iload 8, 2) := by decide +kernel
theorem dL_acts_116 : decode cL_acts 116 = .ok (.bipush 17, 2) := by decide +kernel
theorem dL_acts_118 : decode cL_acts 118 = .ok (.if_icmp .ge 122, 3) := by decide +kernel
theorem dL_acts_121 : decode cL_acts 121 = .ok (.aload_n 1, 1) := by decide +kernel
theorem dL_acts_122 : decode cL_acts 122 = .ok (.iconst 2, 1) := by decide +kernel
theorem dL_acts_123 : decode cL_acts 123 = .ok (.iaload, 1) := by decide +kernel
theorem dL_acts_124 : decode cL_acts 124 = .ok (.iload 7, 2) := by decide +kernel
theorem dL_acts_126 : decode cL_acts 126 = .ok (.bipush 8, 2) := by decide +kernel
theorem dL_acts_128 : decode cL_acts 128 = .ok (.idiv, 1) := by decide +kernel
theorem dL_acts_129 : decode cL_acts 129 = .ok (.bipush 25, 2) := by decide +kernel
theorem dL_acts_131 : decode cL_acts 131 = .ok (.irem, 1) := by decide +kernel
theorem dL_acts_132 : decode cL_acts 132 = .ok (.iadd, 1) := by decide +kernel
theorem dL_acts_133 : decode cL_acts 133 = .ok (.istore 10, 2) := by decide +kernel
theorem dL_acts_135 : decode cL_acts 135 = .ok (.iconst 1, 1) := by decide +kernel
theorem dL_acts_136 : decode cL_acts 136 = .ok (.iload 7, 2) := by decide +kernel
theorem dL_acts_138 : decode cL_acts 138 = .ok (.sipush 200, 3) := by decide +kernel
theorem dL_acts_141 : decode cL_acts 141 = .ok (.idiv, 1) := by decide +kernel
theorem dL_acts_142 : decode cL_acts 142 = .ok (.bipush 9, 2) := by decide +kernel
theorem dL_acts_144 : decode cL_acts 144 = .ok (.irem, 1) := by decide +kernel
theorem dL_acts_145 : decode cL_acts 145 = .ok (.iadd, 1) := by decide +kernel
theorem dL_acts_146 : decode cL_acts 146 = .ok (.istore 11, 2) := by decide +kernel
theorem dL_acts_148 : decode cL_acts 148 = .ok (.aload_n 1, 1) := by decide +kernel
theorem dL_acts_149 : decode cL_acts 149 = .ok (.iconst 1, 1) := by decide +kernel
theorem dL_acts_150 : decode cL_acts 150 = .ok (.iaload, 1) := by decide +kernel
theorem dL_acts_151 : decode cL_acts 151 = .ok (.bipush 12, 2) := by decide +kernel
theorem dL_acts_153 : decode cL_acts 153 = .ok (.if_icmp .ne 24, 3) := by decide +kernel
theorem dL_acts_156 : decode cL_acts 156 = .ok (.aload_n 0, 1) := by decide +kernel
theorem dL_acts_157 : decode cL_acts 157 = .ok (.iload 9, 2) := by decide +kernel
theorem dL_acts_159 : decode cL_acts 159 = .ok (.iload 10, 2) := by decide +kernel
theorem dL_acts_161 : decode cL_acts 161 = .ok (.iload 11, 2) := by decide +kernel
theorem dL_acts_163 : decode cL_acts 163 = .ok (.invokevirtual 76, 3) := by decide +kernel
theorem dL_acts_166 : decode cL_acts 166 = .ok (.bipush (-3), 2) := by decide +kernel
theorem dL_acts_168 : decode cL_acts 168 = .ok (.if_icmp .ne 7, 3) := by decide +kernel
theorem dL_acts_171 : decode cL_acts 171 = .ok (.iconst 1, 1) := by decide +kernel
theorem dL_acts_172 : decode cL_acts 172 = .ok (.goto 4, 3) := by decide +kernel
theorem dL_acts_175 : decode cL_acts 175 = .ok (.iconst 0, 1) := by decide +kernel
theorem dL_acts_176 : decode cL_acts 176 = .ok (.ireturn, 1) := by decide +kernel
theorem dL_acts_177 : decode cL_acts 177 = .ok (.aload 5, 2) := by decide +kernel
theorem dL_acts_179 : decode cL_acts 179 = .ok (.iconst 3, 1) := by decide +kernel
theorem dL_acts_180 : decode cL_acts 180 = .ok (.aload_n 1, 1) := by decide +kernel
theorem dL_acts_181 : decode cL_acts 181 = .ok (.iconst 1, 1) := by decide +kernel
theorem dL_acts_182 : decode cL_acts 182 = .ok (.iaload, 1) := by decide +kernel
theorem dL_acts_183 : decode cL_acts 183 = .ok (.imul, 1) := by decide +kernel
theorem dL_acts_184 : decode cL_acts 184 = .ok (.iload 9, 2) := by decide +kernel
theorem dL_acts_186 : decode cL_acts 186 = .ok (.iastore, 1) := by decide +kernel
theorem dL_acts_187 : decode cL_acts 187 = .ok (.aload 5, 2) := by decide +kernel
theorem dL_acts_189 : decode cL_acts 189 = .ok (.iconst 3, 1) := by decide +kernel
theorem dL_acts_190 : decode cL_acts 190 = .ok (.aload_n 1, 1) := by decide +kernel
theorem dL_acts_191 : decode cL_acts 191 = .ok (.iconst 1, 1) := by decide +kernel
theorem dL_acts_192 : decode cL_acts 192 = .ok (.iaload, 1) := by decide +kernel
theorem dL_acts_193 : decode cL_acts 193 = .ok (.imul, 1) := by decide +kernel
theorem dL_acts_194 : decode cL_acts 194 = .ok (.iconst 1, 1) := by decide +kernel
theorem dL_acts_195 : decode cL_acts 195 = .ok (.iadd, 1) := by decide +kernel
theorem dL_acts_196 : decode cL_acts 196 = .ok (.iload 10, 2) := by decide +kernel
theorem dL_acts_198 : decode cL_acts 198 = .ok (.iastore, 1) := by decide +kernel
theorem dL_acts_199 : decode cL_acts 199 = .ok (.aload 5, 2) := by decide +kernel
theorem dL_acts_201 : decode cL_acts 201 = .ok (.iconst 3, 1) := by decide +kernel
theorem dL_acts_202 : decode cL_acts 202 = .ok (.aload_n 1, 1) := by decide +kernel
theorem dL_acts_203 : decode cL_acts 203 = .ok (.iconst 1, 1) := by decide +kernel
theorem dL_acts_204 : decode cL_acts 204 = .ok (.iaload, 1) := by decide +kernel
theorem dL_acts_205 : decode cL_acts 205 = .ok (.imul, 1) := by decide +kernel
theorem dL_acts_206 : decode cL_acts 206 = .ok (.iconst 2, 1) := by decide +kernel
theorem dL_acts_207 : decode cL_acts 207 = .ok (.iadd, 1) := by decide +kernel
theorem dL_acts_208 : decode cL_acts 208 = .ok (.iload 11, 2) := by decide +kernel
theorem dL_acts_210 : decode cL_acts 210 = .ok (.iastore, 1) := by decide +kernel
theorem dL_acts_211 : decode cL_acts 211 = .ok (.aload_n 1, 1) := by decide +kernel
theorem dL_acts_212 : decode cL_acts 212 = .ok (.iconst 1, 1) := by decide +kernel
theorem dL_acts_213 : decode cL_acts 213 = .ok (.dup2, 1) := by decide +kernel
theorem dL_acts_214 : decode cL_acts 214 = .ok (.iaload, 1) := by decide +kernel
theorem dL_acts_215 : decode cL_acts 215 = .ok (.iconst 1, 1) := by decide +kernel
theorem dL_acts_216 : decode cL_acts 216 = .ok (.iadd, 1) := by decide +kernel
theorem dL_acts_217 : decode cL_acts 217 = .ok (.iastore, 1) := by decide +kernel
theorem dL_acts_218 : decode cL_acts 218 = .ok (.aload_n 0, 1) := by decide +kernel
theorem dL_acts_219 : decode cL_acts 219 = .ok (.iload 9, 2) := by decide +kernel
theorem dL_acts_221 : decode cL_acts 221 = .ok (.iload 10, 2) := by decide +kernel
theorem dL_acts_223 : decode cL_acts 223 = .ok (.iload 11, 2) := by decide +kernel
theorem dL_acts_225 : decode cL_acts 225 = .ok (.invokevirtual 76, 3) := by decide +kernel
theorem dL_acts_228 : decode cL_acts 228 = .ok (.aload_n 1, 1) := by decide +kernel
theorem dL_acts_229 : decode cL_acts 229 = .ok (.iconst 1, 1) := by decide +kernel
theorem dL_acts_230 : decode cL_acts 230 = .ok (.iaload, 1) := by decide +kernel
theorem dL_acts_231 : decode cL_acts 231 = .ok (.if_icmp .ne 7, 3) := by decide +kernel
theorem dL_acts_234 : decode cL_acts 234 = .ok (.iconst 1, 1) := by decide +kernel
theorem dL_acts_235 : decode cL_acts 235 = .ok (.goto 4, 3) := by decide +kernel
theorem dL_acts_238 : decode cL_acts 238 = .ok (.iconst 0, 1) := by decide +kernel
theorem dL_acts_239 : decode cL_acts 239 = .ok (.ireturn, 1) := by decide +kernel
theorem dL_acts_240 : decode cL_acts 240 = .ok (.iload 8, 2) := by decide +kernel
theorem dL_acts_242 : decode cL_acts 242 = .ok (.bipush 17, 2) := by decide +kernel
theorem dL_acts_244 : decode cL_acts 244 = .ok (.if_icmp .ne 71, 3) := by decide +kernel
theorem dL_acts_247 : decode cL_acts 247 = .ok (.iload 7, 2) := by decide +kernel
theorem dL_acts_249 : decode cL_acts 249 = .ok (.aload_n 1, 1) := by decide +kernel
theorem dL_acts_250 : decode cL_acts 250 = .ok (.iconst 1, 1) := by decide +kernel
theorem dL_acts_251 : decode cL_acts 251 = .ok (.iaload, 1) := by decide +kernel
theorem dL_acts_252 : decode cL_acts 252 = .ok (.iconst 1, 1) := by decide +kernel
theorem dL_acts_253 : decode cL_acts 253 = .ok (.iadd, 1) := by decide +kernel
theorem dL_acts_254 : decode cL_acts 254 = .ok (.irem, 1) := by decide +kernel
theorem dL_acts_255 : decode cL_acts 255 = .ok (.istore 10, 2) := by decide +kernel
theorem dL_acts_257 : decode cL_acts 257 = .ok (.iload 10, 2) := by decide +kernel
theorem dL_acts_259 : decode cL_acts 259 = .ok (.aload_n 1, 1) := by decide +kernel
theorem dL_acts_260 : decode cL_acts 260 = .ok (.iconst 1, 1) := by decide +kernel
theorem dL_acts_261 : decode cL_acts 261 = .ok (.iaload, 1) := by decide +kernel
theorem dL_acts_262 : decode cL_acts 262 = .ok (.if_icmp .ne 19, 3) := by decide +kernel
theorem dL_acts_265 : decode cL_acts 265 = .ok (.aload_n 0, 1) := by decide +kernel
theorem dL_acts_266 : decode cL_acts 266 = .ok (.iload 10, 2) := by decide +kernel
theorem dL_acts_268 : decode cL_acts 268 = .ok (.invokevirtual 79, 3) := by decide +kernel
theorem dL_acts_271 : decode cL_acts 271 = .ok (.iconst (-1), 1) := by decide +kernel
theorem dL_acts_272 : decode cL_acts 272 = .ok (.if_icmp .ne 7, 3) := by decide +kernel
theorem dL_acts_275 : decode cL_acts 275 = .ok (.iconst 1, 1) := by decide +kernel
theorem dL_acts_276 : decode cL_acts 276 = .ok (.goto 4, 3) := by decide +kernel
theorem dL_acts_279 : decode cL_acts 279 = .ok (.iconst 0, 1) := by decide +kernel
theorem dL_acts_280 : decode cL_acts 280 = .ok (.ireturn, 1) := by decide +kernel
theorem dL_acts_281 : decode cL_acts 281 = .ok (.aload 5, 2) := by decide +kernel
theorem dL_acts_283 : decode cL_acts 283 = .ok (.iconst 3, 1) := by decide +kernel
theorem dL_acts_284 : decode cL_acts 284 = .ok (.iload 10, 2) := by decide +kernel
theorem dL_acts_286 : decode cL_acts 286 = .ok (.imul, 1) := by decide +kernel
theorem dL_acts_287 : decode cL_acts 287 = .ok (.iaload, 1) := by decide +kernel
theorem dL_acts_288 : decode cL_acts 288 = .ok (.istore 11, 2) := by decide +kernel
theorem dL_acts_290 : decode cL_acts 290 = .ok (.aload_n 1, 1) := by decide +kernel
theorem dL_acts_291 : decode cL_acts 291 = .ok (.aload 5, 2) := by decide +kernel
theorem dL_acts_293 : decode cL_acts 293 = .ok (.iload 10, 2) := by decide +kernel
theorem dL_acts_295 : decode cL_acts 295 = .ok (.invokestatic 37, 3) := by decide +kernel
theorem dL_acts_298 : decode cL_acts 298 = .ok (.aload_n 0, 1) := by decide +kernel
theorem dL_acts_299 : decode cL_acts 299 = .ok (.iload 10, 2) := by decide +kernel
theorem dL_acts_301 : decode cL_acts 301 = .ok (.invokevirtual 79, 3) := by decide +kernel
theorem dL_acts_304 : decode cL_acts 304 = .ok (.iload 11, 2) := by decide +kernel
theorem dL_acts_306 : decode cL_acts 306 = .ok (.if_icmp .ne 7, 3) := by decide +kernel
theorem dL_acts_309 : decode cL_acts 309 = .ok (.iconst 1, 1) := by decide +kernel
theorem dL_acts_310 : decode cL_acts 310 = .ok (.goto 4, 3) := by decide +kernel
theorem dL_acts_313 : decode cL_acts 313 = .ok (.iconst 0, 1) := by decide +kernel
theorem dL_acts_314 : decode cL_acts 314 = .ok (.ireturn, 1) := by decide +kernel
theorem dL_acts_315 : decode cL_acts 315 = .ok (.iload 8, 2) := by decide +kernel
theorem dL_acts_317 : decode cL_acts 317 = .ok (.bipush 20, 2) := by decide +kernel
theorem dL_acts_319 : decode cL_acts 319 = .ok (.if_icmp .ge 64, 3) := by decide +kernel
theorem dL_acts_322 : decode cL_acts 322 = .ok (.aload_n 1, 1) := by decide +kernel
theorem dL_acts_323 : decode cL_acts 323 = .ok (.aload_n 2, 1) := by decide +kernel
theorem dL_acts_324 : decode cL_acts 324 = .ok (.aload_n 3, 1) := by decide +kernel
theorem dL_acts_325 : decode cL_acts 325 = .ok (.iload 9, 2) := by decide +kernel
theorem dL_acts_327 : decode cL_acts 327 = .ok (.invokestatic 27, 3) := by decide +kernel
theorem dL_acts_330 : decode cL_acts 330 = .ok (.ifCond .ne 20, 3) := by decide +kernel
theorem dL_acts_333 : decode cL_acts 333 = .ok (.aload_n 0, 1) := by decide +kernel
theorem dL_acts_334 : decode cL_acts 334 = .ok (.iload 9, 2) := by decide +kernel
theorem dL_acts_336 : decode cL_acts 336 = .ok (.invokevirtual 81, 3) := by decide +kernel
theorem dL_acts_339 : decode cL_acts 339 = .ok (.bipush (-2), 2) := by decide +kernel
theorem dL_acts_341 : decode cL_acts 341 = .ok (.if_icmp .ne 7, 3) := by decide +kernel
theorem dL_acts_344 : decode cL_acts 344 = .ok (.iconst 1, 1) := by decide +kernel
theorem dL_acts_345 : decode cL_acts 345 = .ok (.goto 4, 3) := by decide +kernel
theorem dL_acts_348 : decode cL_acts 348 = .ok (.iconst 0, 1) := by decide +kernel
theorem dL_acts_349 : decode cL_acts 349 = .ok (.ireturn, 1) := by decide +kernel
theorem dL_acts_350 : decode cL_acts 350 = .ok (.aload_n 2, 1) := by decide +kernel
theorem dL_acts_351 : decode cL_acts 351 = .ok (.aload_n 3, 1) := by decide +kernel
theorem dL_acts_352 : decode cL_acts 352 = .ok (.aload 4, 2) := by decide +kernel
theorem dL_acts_354 : decode cL_acts 354 = .ok (.iload 9, 2) := by decide +kernel
theorem dL_acts_356 : decode cL_acts 356 = .ok (.invokestatic 31, 3) := by decide +kernel
theorem dL_acts_359 : decode cL_acts 359 = .ok (.aload_n 0, 1) := by decide +kernel
theorem dL_acts_360 : decode cL_acts 360 = .ok (.iload 9, 2) := by decide +kernel
theorem dL_acts_362 : decode cL_acts 362 = .ok (.invokevirtual 81, 3) := by decide +kernel
theorem dL_acts_365 : decode cL_acts 365 = .ok (.aload_n 2, 1) := by decide +kernel
theorem dL_acts_366 : decode cL_acts 366 = .ok (.bipush 8, 2) := by decide +kernel
theorem dL_acts_368 : decode cL_acts 368 = .ok (.iload 9, 2) := by decide +kernel
theorem dL_acts_370 : decode cL_acts 370 = .ok (.imul, 1) := by decide +kernel
theorem dL_acts_371 : decode cL_acts 371 = .ok (.iconst 2, 1) := by decide +kernel
theorem dL_acts_372 : decode cL_acts 372 = .ok (.iadd, 1) := by decide +kernel
theorem dL_acts_373 : decode cL_acts 373 = .ok (.iaload, 1) := by decide +kernel
theorem dL_acts_374 : decode cL_acts 374 = .ok (.if_icmp .ne 7, 3) := by decide +kernel
theorem dL_acts_377 : decode cL_acts 377 = .ok (.iconst 1, 1) := by decide +kernel
theorem dL_acts_378 : decode cL_acts 378 = .ok (.goto 4, 3) := by decide +kernel
theorem dL_acts_381 : decode cL_acts 381 = .ok (.iconst 0, 1) := by decide +kernel
theorem dL_acts_382 : decode cL_acts 382 = .ok (.ireturn, 1) := by decide +kernel
theorem dL_acts_383 : decode cL_acts 383 = .ok (.iload 8, 2) := by decide +kernel
theorem dL_acts_385 : decode cL_acts 385 = .ok (.bipush 22, 2) := by decide +kernel
theorem dL_acts_387 : decode cL_acts 387 = .ok (.if_icmp .ge 74, 3) := by decide +kernel
theorem dL_acts_390 : decode cL_acts 390 = .ok (.aload_n 3, 1) := by decide +kernel
theorem dL_acts_391 : decode cL_acts 391 = .ok (.bipush 8, 2) := by decide +kernel
theorem dL_acts_393 : decode cL_acts 393 = .ok (.iload 9, 2) := by decide +kernel
theorem dL_acts_395 : decode cL_acts 395 = .ok (.imul, 1) := by decide +kernel
theorem dL_acts_396 : decode cL_acts 396 = .ok (.iaload, 1) := by decide +kernel
theorem dL_acts_397 : decode cL_acts 397 = .ok (.iconst 2, 1) := by decide +kernel
theorem dL_acts_398 : decode cL_acts 398 = .ok (.if_icmp .ne 14, 3) := by decide +kernel
theorem dL_acts_401 : decode cL_acts 401 = .ok (.aload_n 1, 1) := by decide +kernel
theorem dL_acts_402 : decode cL_acts 402 = .ok (.aload_n 2, 1) := by decide +kernel
theorem dL_acts_403 : decode cL_acts 403 = .ok (.aload_n 3, 1) := by decide +kernel
theorem dL_acts_404 : decode cL_acts 404 = .ok (.iload 9, 2) := by decide +kernel
theorem dL_acts_406 : decode cL_acts 406 = .ok (.invokestatic 41, 3) := by decide +kernel
theorem dL_acts_409 : decode cL_acts 409 = .ok (.ifCond .eq 20, 3) := by decide +kernel
theorem dL_acts_412 : decode cL_acts 412 = .ok (.aload_n 0, 1) := by decide +kernel
theorem dL_acts_413 : decode cL_acts 413 = .ok (.iload 9, 2) := by decide +kernel
theorem dL_acts_415 : decode cL_acts 415 = .ok (.invokevirtual 83, 3) := by decide +kernel
theorem dL_acts_418 : decode cL_acts 418 = .ok (.bipush (-2), 2) := by decide +kernel
theorem dL_acts_420 : decode cL_acts 420 = .ok (.if_icmp .ne 7, 3) := by decide +kernel
theorem dL_acts_423 : decode cL_acts 423 = .ok (.iconst 1, 1) := by decide +kernel
theorem dL_acts_424 : decode cL_acts 424 = .ok (.goto 4, 3) := by decide +kernel
theorem dL_acts_427 : decode cL_acts 427 = .ok (.iconst 0, 1) := by decide +kernel
theorem dL_acts_428 : decode cL_acts 428 = .ok (.ireturn, 1) := by decide +kernel
theorem dL_acts_429 : decode cL_acts 429 = .ok (.aload_n 3, 1) := by decide +kernel
theorem dL_acts_430 : decode cL_acts 430 = .ok (.bipush 8, 2) := by decide +kernel
theorem dL_acts_432 : decode cL_acts 432 = .ok (.iload 9, 2) := by decide +kernel
theorem dL_acts_434 : decode cL_acts 434 = .ok (.imul, 1) := by decide +kernel
theorem dL_acts_435 : decode cL_acts 435 = .ok (.iconst 0, 1) := by decide +kernel
theorem dL_acts_436 : decode cL_acts 436 = .ok (.iastore, 1) := by decide +kernel
theorem dL_acts_437 : decode cL_acts 437 = .ok (.aload_n 0, 1) := by decide +kernel
theorem dL_acts_438 : decode cL_acts 438 = .ok (.iload 9, 2) := by decide +kernel
theorem dL_acts_440 : decode cL_acts 440 = .ok (.invokevirtual 83, 3) := by decide +kernel
theorem dL_acts_443 : decode cL_acts 443 = .ok (.aload_n 3, 1) := by decide +kernel
theorem dL_acts_444 : decode cL_acts 444 = .ok (.bipush 8, 2) := by decide +kernel
theorem dL_acts_446 : decode cL_acts 446 = .ok (.iload 9, 2) := by decide +kernel
theorem dL_acts_448 : decode cL_acts 448 = .ok (.imul, 1) := by decide +kernel
theorem dL_acts_449 : decode cL_acts 449 = .ok (.iconst 2, 1) := by decide +kernel
theorem dL_acts_450 : decode cL_acts 450 = .ok (.iadd, 1) := by decide +kernel
theorem dL_acts_451 : decode cL_acts 451 = .ok (.iaload, 1) := by decide +kernel
theorem dL_acts_452 : decode cL_acts 452 = .ok (.if_icmp .ne 7, 3) := by decide +kernel
theorem dL_acts_455 : decode cL_acts 455 = .ok (.iconst 1, 1) := by decide +kernel
theorem dL_acts_456 : decode cL_acts 456 = .ok (.goto 4, 3) := by decide +kernel
theorem dL_acts_459 : decode cL_acts 459 = .ok (.iconst 0, 1) := by decide +kernel
theorem dL_acts_460 : decode cL_acts 460 = .ok (.ireturn, 1) := by decide +kernel
theorem dL_acts_461 : decode cL_acts 461 = .ok (.iconst 1, 1) := by decide +kernel
theorem dL_acts_462 : decode cL_acts 462 = .ok (.iload 7, 2) := by decide +kernel
theorem dL_acts_464 : decode cL_acts 464 = .ok (.iload 7, 2) := by decide +kernel
theorem dL_acts_466 : decode cL_acts 466 = .ok (.iconst 4, 1) := by decide +kernel
theorem dL_acts_467 : decode cL_acts 467 = .ok (.irem, 1) := by decide +kernel
theorem dL_acts_468 : decode cL_acts 468 = .ok (.ifCond .ne 8, 3) := by decide +kernel
theorem dL_acts_471 : decode cL_acts 471 = .ok (.bipush 40, 2) := by decide +kernel
theorem dL_acts_473 : decode cL_acts 473 = .ok (.goto 5, 3) := by decide +kernel
theorem dL_acts_476 : decode cL_acts 476 = .ok (.bipush 6, 2) := by decide +kernel
theorem dL_acts_478 : decode cL_acts 478 = .ok (.irem, 1) := by decide +kernel
theorem dL_acts_479 : decode cL_acts 479 = .ok (.iadd, 1) := by decide +kernel
theorem dL_acts_480 : decode cL_acts 480 = .ok (.istore 10, 2) := by decide +kernel
theorem dL_acts_482 : decode cL_acts 482 = .ok (.lconst 0, 1) := by decide +kernel
theorem dL_acts_483 : decode cL_acts 483 = .ok (.lstore 11, 2) := by decide +kernel
theorem dL_acts_485 : decode cL_acts 485 = .ok (.iconst 0, 1) := by decide +kernel
theorem dL_acts_486 : decode cL_acts 486 = .ok (.istore 13, 2) := by decide +kernel
theorem dL_acts_488 : decode cL_acts 488 = .ok (.iload 13, 2) := by decide +kernel
theorem dL_acts_490 : decode cL_acts 490 = .ok (.iload 10, 2) := by decide +kernel
theorem dL_acts_492 : decode cL_acts 492 = .ok (.if_icmp .ge 24, 3) := by decide +kernel
theorem dL_acts_495 : decode cL_acts 495 = .ok (.lload 11, 2) := by decide +kernel
theorem dL_acts_497 : decode cL_acts 497 = .ok (.aload_n 1, 1) := by decide +kernel
theorem dL_acts_498 : decode cL_acts 498 = .ok (.aload_n 2, 1) := by decide +kernel
theorem dL_acts_499 : decode cL_acts 499 = .ok (.aload_n 3, 1) := by decide +kernel
theorem dL_acts_500 : decode cL_acts 500 = .ok (.aload 4, 2) := by decide +kernel
theorem dL_acts_502 : decode cL_acts 502 = .ok (.aload 5, 2) := by decide +kernel
theorem dL_acts_504 : decode cL_acts 504 = .ok (.invokestatic 86, 3) := by decide +kernel
theorem dL_acts_507 : decode cL_acts 507 = .ok (.ladd, 1) := by decide +kernel
theorem dL_acts_508 : decode cL_acts 508 = .ok (.lstore 11, 2) := by decide +kernel
theorem dL_acts_510 : decode cL_acts 510 = .ok (.iinc 13 1, 3) := by decide +kernel
theorem dL_acts_513 : decode cL_acts 513 = .ok (.goto (-25), 3) := by decide +kernel
theorem dL_acts_516 : decode cL_acts 516 = .ok (.aload_n 0, 1) := by decide +kernel
theorem dL_acts_517 : decode cL_acts 517 = .ok (.iload 10, 2) := by decide +kernel
theorem dL_acts_519 : decode cL_acts 519 = .ok (.invokevirtual 90, 3) := by decide +kernel
theorem dL_acts_522 : decode cL_acts 522 = .ok (.i2l, 1) := by decide +kernel
theorem dL_acts_523 : decode cL_acts 523 = .ok (.lload 11, 2) := by decide +kernel
theorem dL_acts_525 : decode cL_acts 525 = .ok (.ldc2_w 35, 3) := by decide +kernel
theorem dL_acts_528 : decode cL_acts 528 = .ok (.lrem, 1) := by decide +kernel
theorem dL_acts_529 : decode cL_acts 529 = .ok (.lcmp, 1) := by decide +kernel
theorem dL_acts_530 : decode cL_acts 530 = .ok (.ifCond .ne 7, 3) := by decide +kernel
theorem dL_acts_533 : decode cL_acts 533 = .ok (.iconst 1, 1) := by decide +kernel
theorem dL_acts_534 : decode cL_acts 534 = .ok (.goto 4, 3) := by decide +kernel
theorem dL_acts_537 : decode cL_acts 537 = .ok (.iconst 0, 1) := by decide +kernel
theorem dL_acts_538 : decode cL_acts 538 = .ok (.ireturn, 1) := by decide +kernel
set_option maxRecDepth 20000 in
theorem ggL_isRoom_X3_costOf : GoodIn wsL_isRoom wsX3_costOf := goodIn_sub (List.forall_mem_cons.mpr ⟨List.mem_of_getElem? (i := 5) rfl, List.forall_mem_cons.mpr ⟨List.mem_of_getElem? (i := 6) rfl, List.forall_mem_cons.mpr ⟨List.mem_of_getElem? (i := 7) rfl, List.forall_mem_cons.mpr ⟨List.mem_of_getElem? (i := 8) rfl, List.forall_mem_cons.mpr ⟨List.mem_of_getElem? (i := 9) rfl, List.forall_mem_cons.mpr ⟨List.mem_of_getElem? (i := 10) rfl, List.forall_mem_cons.mpr ⟨List.mem_of_getElem? (i := 11) rfl, List.forall_mem_cons.mpr ⟨List.mem_of_getElem? (i := 12) rfl, List.forall_mem_cons.mpr ⟨List.mem_of_getElem? (i := 13) rfl, List.forall_mem_cons.mpr ⟨List.mem_of_getElem? (i := 14) rfl, List.forall_mem_cons.mpr ⟨List.mem_of_getElem? (i := 15) rfl, List.forall_mem_cons.mpr ⟨List.mem_of_getElem? (i := 16) rfl, List.forall_mem_cons.mpr ⟨List.mem_of_getElem? (i := 4) rfl, List.forall_mem_cons.mpr ⟨List.mem_of_getElem? (i := 17) rfl, List.forall_mem_cons.mpr ⟨List.mem_of_getElem? (i := 88) rfl, List.forall_mem_cons.mpr ⟨List.mem_of_getElem? (i := 89) rfl, List.forall_mem_cons.mpr ⟨List.mem_of_getElem? (i := 90) rfl, List.forall_mem_cons.mpr ⟨List.mem_of_getElem? (i := 91) rfl, List.forall_mem_cons.mpr ⟨List.mem_of_getElem? (i := 92) rfl, List.forall_mem_cons.mpr ⟨List.mem_of_getElem? (i := 93) rfl, List.forall_mem_cons.mpr ⟨List.mem_of_getElem? (i := 94) rfl, List.forall_mem_cons.mpr ⟨List.mem_of_getElem? (i := 95) rfl, List.forall_mem_cons.mpr ⟨List.mem_of_getElem? (i := 96) rfl, List.forall_mem_cons.mpr ⟨List.mem_of_getElem? (i := 97) rfl, List.forall_mem_cons.mpr ⟨List.mem_of_getElem? (i := 98) rfl, List.forall_mem_cons.mpr ⟨List.mem_of_getElem? (i := 99) rfl, List.forall_mem_cons.mpr ⟨List.mem_of_getElem? (i := 100) rfl, List.forall_mem_cons.mpr ⟨List.mem_of_getElem? (i := 101) rfl, List.forall_mem_cons.mpr ⟨List.mem_of_getElem? (i := 102) rfl, List.forall_mem_cons.mpr ⟨List.mem_of_getElem? (i := 103) rfl, List.forall_mem_cons.mpr ⟨List.mem_of_getElem? (i := 104) rfl, List.forall_mem_cons.mpr ⟨List.mem_of_getElem? (i := 105) rfl, List.forall_mem_cons.mpr ⟨List.mem_of_getElem? (i := 106) rfl, List.forall_mem_cons.mpr ⟨List.mem_of_getElem? (i := 107) rfl, List.forall_mem_cons.mpr ⟨List.mem_of_getElem? (i := 108) rfl, List.forall_mem_cons.mpr ⟨List.mem_of_getElem? (i := 109) rfl, List.forall_mem_cons.mpr ⟨List.mem_of_getElem? (i := 110) rfl, List.forall_mem_cons.mpr ⟨List.mem_of_getElem? (i := 111) rfl, List.forall_mem_cons.mpr ⟨List.mem_of_getElem? (i := 112) rfl, List.forall_mem_cons.mpr ⟨List.mem_of_getElem? (i := 113) rfl, List.forall_mem_cons.mpr ⟨List.mem_of_getElem? (i := 114) rfl, List.forall_mem_cons.mpr ⟨List.mem_of_getElem? (i := 115) rfl, wk_mn⟩⟩⟩⟩⟩⟩⟩⟩⟩⟩⟩⟩⟩⟩⟩⟩⟩⟩⟩⟩⟩⟩⟩⟩⟩⟩⟩⟩⟩⟩⟩⟩⟩⟩⟩⟩⟩⟩⟩⟩⟩⟩) (by decide +kernel)
set_option maxRecDepth 20000 in
theorem gL_isRoom_X3_costOf : GoodIn wsL_isRoom (wsV RL 92 RX3 yX3_costOf wsX3_costOf) := goodIn_app (goodIn_sub (List.forall_mem_cons.mpr ⟨List.mem_of_getElem? (i := 1) rfl, List.forall_mem_cons.mpr ⟨List.mem_of_getElem? (i := 2) rfl, List.forall_mem_cons.mpr ⟨List.mem_of_getElem? (i := 3) rfl, List.forall_mem_cons.mpr ⟨List.mem_of_getElem? (i := 4) rfl, wk_mn⟩⟩⟩⟩) (by decide +kernel)) ggL_isRoom_X3_costOf
set_option maxRecDepth 20000 in
theorem ggL_isRoom_X3_energy : GoodIn wsL_isRoom wsX3_energy := goodIn_sub (List.forall_mem_cons.mpr ⟨List.mem_of_getElem? (i := 21) rfl, List.forall_mem_cons.mpr ⟨List.mem_of_getElem? (i := 6) rfl, List.forall_mem_cons.mpr ⟨List.mem_of_getElem? (i := 7) rfl, List.forall_mem_cons.mpr ⟨List.mem_of_getElem? (i := 22) rfl, List.forall_mem_cons.mpr ⟨List.mem_of_getElem? (i := 9) rfl, List.forall_mem_cons.mpr ⟨List.mem_of_getElem? (i := 10) rfl, List.forall_mem_cons.mpr ⟨List.mem_of_getElem? (i := 11) rfl, List.forall_mem_cons.mpr ⟨List.mem_of_getElem? (i := 12) rfl, List.forall_mem_cons.mpr ⟨List.mem_of_getElem? (i := 13) rfl, List.forall_mem_cons.mpr ⟨List.mem_of_getElem? (i := 14) rfl, List.forall_mem_cons.mpr ⟨List.mem_of_getElem? (i := 15) rfl, List.forall_mem_cons.mpr ⟨List.mem_of_getElem? (i := 16) rfl, List.forall_mem_cons.mpr ⟨List.mem_of_getElem? (i := 4) rfl, List.forall_mem_cons.mpr ⟨List.mem_of_getElem? (i := 17) rfl, List.forall_mem_cons.mpr ⟨List.mem_of_getElem? (i := 23) rfl, List.forall_mem_cons.mpr ⟨List.mem_of_getElem? (i := 24) rfl, List.forall_mem_cons.mpr ⟨List.mem_of_getElem? (i := 25) rfl, List.forall_mem_cons.mpr ⟨List.mem_of_getElem? (i := 26) rfl, List.forall_mem_cons.mpr ⟨List.mem_of_getElem? (i := 27) rfl, List.forall_mem_cons.mpr ⟨List.mem_of_getElem? (i := 28) rfl, List.forall_mem_cons.mpr ⟨List.mem_of_getElem? (i := 88) rfl, List.forall_mem_cons.mpr ⟨List.mem_of_getElem? (i := 89) rfl, List.forall_mem_cons.mpr ⟨List.mem_of_getElem? (i := 90) rfl, List.forall_mem_cons.mpr ⟨List.mem_of_getElem? (i := 91) rfl, List.forall_mem_cons.mpr ⟨List.mem_of_getElem? (i := 92) rfl, List.forall_mem_cons.mpr ⟨List.mem_of_getElem? (i := 93) rfl, List.forall_mem_cons.mpr ⟨List.mem_of_getElem? (i := 94) rfl, List.forall_mem_cons.mpr ⟨List.mem_of_getElem? (i := 95) rfl, List.forall_mem_cons.mpr ⟨List.mem_of_getElem? (i := 96) rfl, List.forall_mem_cons.mpr ⟨List.mem_of_getElem? (i := 97) rfl, List.forall_mem_cons.mpr ⟨List.mem_of_getElem? (i := 98) rfl, List.forall_mem_cons.mpr ⟨List.mem_of_getElem? (i := 99) rfl, List.forall_mem_cons.mpr ⟨List.mem_of_getElem? (i := 100) rfl, List.forall_mem_cons.mpr ⟨List.mem_of_getElem? (i := 101) rfl, List.forall_mem_cons.mpr ⟨List.mem_of_getElem? (i := 102) rfl, List.forall_mem_cons.mpr ⟨List.mem_of_getElem? (i := 103) rfl, List.forall_mem_cons.mpr ⟨List.mem_of_getElem? (i := 104) rfl, List.forall_mem_cons.mpr ⟨List.mem_of_getElem? (i := 105) rfl, List.forall_mem_cons.mpr ⟨List.mem_of_getElem? (i := 106) rfl, List.forall_mem_cons.mpr ⟨List.mem_of_getElem? (i := 107) rfl, List.forall_mem_cons.mpr ⟨List.mem_of_getElem? (i := 108) rfl, List.forall_mem_cons.mpr ⟨List.mem_of_getElem? (i := 109) rfl, List.forall_mem_cons.mpr ⟨List.mem_of_getElem? (i := 110) rfl, List.forall_mem_cons.mpr ⟨List.mem_of_getElem? (i := 111) rfl, List.forall_mem_cons.mpr ⟨List.mem_of_getElem? (i := 112) rfl, List.forall_mem_cons.mpr ⟨List.mem_of_getElem? (i := 113) rfl, List.forall_mem_cons.mpr ⟨List.mem_of_getElem? (i := 114) rfl, List.forall_mem_cons.mpr ⟨List.mem_of_getElem? (i := 115) rfl, wk_mn⟩⟩⟩⟩⟩⟩⟩⟩⟩⟩⟩⟩⟩⟩⟩⟩⟩⟩⟩⟩⟩⟩⟩⟩⟩⟩⟩⟩⟩⟩⟩⟩⟩⟩⟩⟩⟩⟩⟩⟩⟩⟩⟩⟩⟩⟩⟩⟩) (by decide +kernel)
set_option maxRecDepth 20000 in
theorem gL_isRoom_X3_energy : GoodIn wsL_isRoom (wsV RL 95 RX3 yX3_energy wsX3_energy) := goodIn_app (goodIn_sub (List.forall_mem_cons.mpr ⟨List.mem_of_getElem? (i := 18) rfl, List.forall_mem_cons.mpr ⟨List.mem_of_getElem? (i := 19) rfl, List.forall_mem_cons.mpr ⟨List.mem_of_getElem? (i := 20) rfl, List.forall_mem_cons.mpr ⟨List.mem_of_getElem? (i := 4) rfl, wk_mn⟩⟩⟩⟩) (by decide +kernel)) ggL_isRoom_X3_energy
set_option maxRecDepth 20000 in
theorem ggL_isRoom_X3_roomOf : GoodIn wsL_isRoom wsX3_roomOf := goodIn_sub (List.forall_mem_cons.mpr ⟨List.mem_of_getElem? (i := 32) rfl, List.forall_mem_cons.mpr ⟨List.mem_of_getElem? (i := 6) rfl, List.forall_mem_cons.mpr ⟨List.mem_of_getElem? (i := 7) rfl, List.forall_mem_cons.mpr ⟨List.mem_of_getElem? (i := 9) rfl, List.forall_mem_cons.mpr ⟨List.mem_of_getElem? (i := 10) rfl, List.forall_mem_cons.mpr ⟨List.mem_of_getElem? (i := 11) rfl, List.forall_mem_cons.mpr ⟨List.mem_of_getElem? (i := 12) rfl, List.forall_mem_cons.mpr ⟨List.mem_of_getElem? (i := 13) rfl, List.forall_mem_cons.mpr ⟨List.mem_of_getElem? (i := 14) rfl, List.forall_mem_cons.mpr ⟨List.mem_of_getElem? (i := 15) rfl, List.forall_mem_cons.mpr ⟨List.mem_of_getElem? (i := 16) rfl, List.forall_mem_cons.mpr ⟨List.mem_of_getElem? (i := 4) rfl, List.forall_mem_cons.mpr ⟨List.mem_of_getElem? (i := 17) rfl, List.forall_mem_cons.mpr ⟨List.mem_of_getElem? (i := 33) rfl, List.forall_mem_cons.mpr ⟨List.mem_of_getElem? (i := 34) rfl, List.forall_mem_cons.mpr ⟨List.mem_of_getElem? (i := 35) rfl, List.forall_mem_cons.mpr ⟨List.mem_of_getElem? (i := 36) rfl, List.forall_mem_cons.mpr ⟨List.mem_of_getElem? (i := 37) rfl, List.forall_mem_cons.mpr ⟨List.mem_of_getElem? (i := 38) rfl, List.forall_mem_cons.mpr ⟨List.mem_of_getElem? (i := 39) rfl, List.forall_mem_cons.mpr ⟨List.mem_of_getElem? (i := 40) rfl, List.forall_mem_cons.mpr ⟨List.mem_of_getElem? (i := 41) rfl, List.forall_mem_cons.mpr ⟨List.mem_of_getElem? (i := 42) rfl, List.forall_mem_cons.mpr ⟨List.mem_of_getElem? (i := 43) rfl, List.forall_mem_cons.mpr ⟨List.mem_of_getElem? (i := 44) rfl, List.forall_mem_cons.mpr ⟨List.mem_of_getElem? (i := 45) rfl, List.forall_mem_cons.mpr ⟨List.mem_of_getElem? (i := 46) rfl, List.forall_mem_cons.mpr ⟨List.mem_of_getElem? (i := 47) rfl, List.forall_mem_cons.mpr ⟨List.mem_of_getElem? (i := 48) rfl, List.forall_mem_cons.mpr ⟨List.mem_of_getElem? (i := 49) rfl, List.forall_mem_cons.mpr ⟨List.mem_of_getElem? (i := 50) rfl, List.forall_mem_cons.mpr ⟨List.mem_of_getElem? (i := 51) rfl, List.forall_mem_cons.mpr ⟨List.mem_of_getElem? (i := 52) rfl, List.forall_mem_cons.mpr ⟨List.mem_of_getElem? (i := 53) rfl, List.forall_mem_cons.mpr ⟨List.mem_of_getElem? (i := 54) rfl, List.forall_mem_cons.mpr ⟨List.mem_of_getElem? (i := 55) rfl, List.forall_mem_cons.mpr ⟨List.mem_of_getElem? (i := 56) rfl, List.forall_mem_cons.mpr ⟨List.mem_of_getElem? (i := 57) rfl, List.forall_mem_cons.mpr ⟨List.mem_of_getElem? (i := 58) rfl, List.forall_mem_cons.mpr ⟨List.mem_of_getElem? (i := 26) rfl, List.forall_mem_cons.mpr ⟨List.mem_of_getElem? (i := 59) rfl, List.forall_mem_cons.mpr ⟨List.mem_of_getElem? (i := 60) rfl, List.forall_mem_cons.mpr ⟨List.mem_of_getElem? (i := 61) rfl, List.forall_mem_cons.mpr ⟨List.mem_of_getElem? (i := 62) rfl, List.forall_mem_cons.mpr ⟨List.mem_of_getElem? (i := 63) rfl, List.forall_mem_cons.mpr ⟨List.mem_of_getElem? (i := 64) rfl, List.forall_mem_cons.mpr ⟨List.mem_of_getElem? (i := 65) rfl, List.forall_mem_cons.mpr ⟨List.mem_of_getElem? (i := 66) rfl, List.forall_mem_cons.mpr ⟨List.mem_of_getElem? (i := 67) rfl, List.forall_mem_cons.mpr ⟨List.mem_of_getElem? (i := 68) rfl, List.forall_mem_cons.mpr ⟨List.mem_of_getElem? (i := 69) rfl, List.forall_mem_cons.mpr ⟨List.mem_of_getElem? (i := 70) rfl, List.forall_mem_cons.mpr ⟨List.mem_of_getElem? (i := 71) rfl, List.forall_mem_cons.mpr ⟨List.mem_of_getElem? (i := 72) rfl, List.forall_mem_cons.mpr ⟨List.mem_of_getElem? (i := 73) rfl, List.forall_mem_cons.mpr ⟨List.mem_of_getElem? (i := 74) rfl, List.forall_mem_cons.mpr ⟨List.mem_of_getElem? (i := 75) rfl, List.forall_mem_cons.mpr ⟨List.mem_of_getElem? (i := 76) rfl, List.forall_mem_cons.mpr ⟨List.mem_of_getElem? (i := 77) rfl, List.forall_mem_cons.mpr ⟨List.mem_of_getElem? (i := 88) rfl, List.forall_mem_cons.mpr ⟨List.mem_of_getElem? (i := 89) rfl, List.forall_mem_cons.mpr ⟨List.mem_of_getElem? (i := 90) rfl, List.forall_mem_cons.mpr ⟨List.mem_of_getElem? (i := 91) rfl, List.forall_mem_cons.mpr ⟨List.mem_of_getElem? (i := 92) rfl, List.forall_mem_cons.mpr ⟨List.mem_of_getElem? (i := 93) rfl, List.forall_mem_cons.mpr ⟨List.mem_of_getElem? (i := 94) rfl, List.forall_mem_cons.mpr ⟨List.mem_of_getElem? (i := 95) rfl, List.forall_mem_cons.mpr ⟨List.mem_of_getElem? (i := 96) rfl, List.forall_mem_cons.mpr ⟨List.mem_of_getElem? (i := 97) rfl, List.forall_mem_cons.mpr ⟨List.mem_of_getElem? (i := 98) rfl, List.forall_mem_cons.mpr ⟨List.mem_of_getElem? (i := 99) rfl, List.forall_mem_cons.mpr ⟨List.mem_of_getElem? (i := 100) rfl, List.forall_mem_cons.mpr ⟨List.mem_of_getElem? (i := 101) rfl, List.forall_mem_cons.mpr ⟨List.mem_of_getElem? (i := 102) rfl, List.forall_mem_cons.mpr ⟨List.mem_of_getElem? (i := 103) rfl, List.forall_mem_cons.mpr ⟨List.mem_of_getElem? (i := 104) rfl, List.forall_mem_cons.mpr ⟨List.mem_of_getElem? (i := 105) rfl, List.forall_mem_cons.mpr ⟨List.mem_of_getElem? (i := 106) rfl, List.forall_mem_cons.mpr ⟨List.mem_of_getElem? (i := 107) rfl, List.forall_mem_cons.mpr ⟨List.mem_of_getElem? (i := 108) rfl, List.forall_mem_cons.mpr ⟨List.mem_of_getElem? (i := 109) rfl, List.forall_mem_cons.mpr ⟨List.mem_of_getElem? (i := 110) rfl, List.forall_mem_cons.mpr ⟨List.mem_of_getElem? (i := 111) rfl, List.forall_mem_cons.mpr ⟨List.mem_of_getElem? (i := 112) rfl, List.forall_mem_cons.mpr ⟨List.mem_of_getElem? (i := 113) rfl, List.forall_mem_cons.mpr ⟨List.mem_of_getElem? (i := 114) rfl, List.forall_mem_cons.mpr ⟨List.mem_of_getElem? (i := 115) rfl, wk_mn⟩⟩⟩⟩⟩⟩⟩⟩⟩⟩⟩⟩⟩⟩⟩⟩⟩⟩⟩⟩⟩⟩⟩⟩⟩⟩⟩⟩⟩⟩⟩⟩⟩⟩⟩⟩⟩⟩⟩⟩⟩⟩⟩⟩⟩⟩⟩⟩⟩⟩⟩⟩⟩⟩⟩⟩⟩⟩⟩⟩⟩⟩⟩⟩⟩⟩⟩⟩⟩⟩⟩⟩⟩⟩⟩⟩⟩⟩⟩⟩⟩⟩⟩⟩⟩⟩⟩) (by decide +kernel)
set_option maxRecDepth 20000 in
theorem gL_isRoom_X3_roomOf : GoodIn wsL_isRoom (wsV RL 98 RX3 yX3_roomOf wsX3_roomOf) := goodIn_app (goodIn_sub (List.forall_mem_cons.mpr ⟨List.mem_of_getElem? (i := 29) rfl, List.forall_mem_cons.mpr ⟨List.mem_of_getElem? (i := 30) rfl, List.forall_mem_cons.mpr ⟨List.mem_of_getElem? (i := 31) rfl, List.forall_mem_cons.mpr ⟨List.mem_of_getElem? (i := 4) rfl, wk_mn⟩⟩⟩⟩) (by decide +kernel)) ggL_isRoom_X3_roomOf
set_option maxRecDepth 20000 in
theorem ggL_isRoom_L_called : GoodIn wsL_isRoom wsL_called := goodIn_sub (List.forall_mem_cons.mpr ⟨List.mem_of_getElem? (i := 81) rfl, List.forall_mem_cons.mpr ⟨List.mem_of_getElem? (i := 82) rfl, List.forall_mem_cons.mpr ⟨List.mem_of_getElem? (i := 83) rfl, List.forall_mem_cons.mpr ⟨List.mem_of_getElem? (i := 80) rfl, List.forall_mem_cons.mpr ⟨List.mem_of_getElem? (i := 84) rfl, List.forall_mem_cons.mpr ⟨List.mem_of_getElem? (i := 85) rfl, List.forall_mem_cons.mpr ⟨List.mem_of_getElem? (i := 86) rfl, List.forall_mem_cons.mpr ⟨List.mem_of_getElem? (i := 87) rfl, wk_mn⟩⟩⟩⟩⟩⟩⟩⟩) (by decide +kernel)
set_option maxRecDepth 20000 in
theorem gL_isRoom_L_called : GoodIn wsL_isRoom (va_wsS RL 23 yL_called wsL_called) := goodIn_app (goodIn_sub (List.forall_mem_cons.mpr ⟨List.mem_of_getElem? (i := 78) rfl, List.forall_mem_cons.mpr ⟨List.mem_of_getElem? (i := 79) rfl, List.forall_mem_cons.mpr ⟨List.mem_of_getElem? (i := 80) rfl, wk_mn⟩⟩⟩) (by decide +kernel)) ggL_isRoom_L_called
theorem dL_isRoom_0 : decode cL_isRoom 0 = .ok (.iconst 0, 1) := by decide +kernel
theorem dL_isRoom_1 : decode cL_isRoom 1 = .ok (.istore 7, 2) := by decide +kernel
theorem dL_isRoom_3 : decode cL_isRoom 3 = .ok (.iconst 1, 1) := by decide +kernel
theorem dL_isRoom_4 : decode cL_isRoom 4 = .ok (.istore 8, 2) := by decide +kernel
theorem dL_isRoom_6 : decode cL_isRoom 6 = .ok (.iconst 0, 1) := by decide +kernel
theorem dL_isRoom_7 : decode cL_isRoom 7 = .ok (.istore 9, 2) := by decide +kernel
theorem dL_isRoom_9 : decode cL_isRoom 9 = .ok (.iload 9, 2) := by decide +kernel
theorem dL_isRoom_11 : decode cL_isRoom 11 = .ok (.aload_n 1, 1) := by decide +kernel
theorem dL_isRoom_12 : decode cL_isRoom 12 = .ok (.iconst 1, 1) := by decide +kernel
theorem dL_isRoom_13 : decode cL_isRoom 13 = .ok (.iaload, 1) := by decide +kernel
theorem dL_isRoom_14 : decode cL_isRoom 14 = .ok (.if_icmp .ge 31, 3) := by decide +kernel
theorem dL_isRoom_17 : decode cL_isRoom 17 = .ok (.iload 7, 2) := by decide +kernel
theorem dL_isRoom_19 : decode cL_isRoom 19 = .ok (.aload 5, 2) := by decide +kernel
theorem dL_isRoom_21 : decode cL_isRoom 21 = .ok (.iconst 3, 1) := by decide +kernel
theorem dL_isRoom_22 : decode cL_isRoom 22 = .ok (.iload 9, 2) := by decide +kernel
theorem dL_isRoom_24 : decode cL_isRoom 24 = .ok (.imul, 1) := by decide +kernel
theorem dL_isRoom_25 : decode cL_isRoom 25 = .ok (.iaload, 1) := by decide +kernel
theorem dL_isRoom_26 : decode cL_isRoom 26 = .ok (.iload 6, 2) := by decide +kernel
theorem dL_isRoom_28 : decode cL_isRoom 28 = .ok (.if_icmp .ne 7, 3) := by decide +kernel
theorem dL_isRoom_31 : decode cL_isRoom 31 = .ok (.iconst 1, 1) := by decide +kernel
theorem dL_isRoom_32 : decode cL_isRoom 32 = .ok (.goto 4, 3) := by decide +kernel
theorem dL_isRoom_35 : decode cL_isRoom 35 = .ok (.iconst 0, 1) := by decide +kernel
theorem dL_isRoom_36 : decode cL_isRoom 36 = .ok (.iadd, 1) := by decide +kernel
theorem dL_isRoom_37 : decode cL_isRoom 37 = .ok (.istore 7, 2) := by decide +kernel
theorem dL_isRoom_39 : decode cL_isRoom 39 = .ok (.iinc 9 1, 3) := by decide +kernel
theorem dL_isRoom_42 : decode cL_isRoom 42 = .ok (.goto (-33), 3) := by decide +kernel
theorem dL_isRoom_45 : decode cL_isRoom 45 = .ok (.iconst 0, 1) := by decide +kernel
theorem dL_isRoom_46 : decode cL_isRoom 46 = .ok (.istore 9, 2) := by decide +kernel
theorem dL_isRoom_48 : decode cL_isRoom 48 = .ok (.iload 9, 2) := by decide +kernel
theorem dL_isRoom_50 : decode cL_isRoom 50 = .ok (.iconst 5, 1) := by decide +kernel
theorem dL_isRoom_51 : decode cL_isRoom 51 = .ok (.if_icmp .ge 71, 3) := by decide +kernel
theorem dL_isRoom_54 : decode cL_isRoom 54 = .ok (.iload 8, 2) := by decide +kernel
theorem dL_isRoom_56 : decode cL_isRoom 56 = .ok (.ifCond .eq 66, 3) := by decide +kernel
theorem dL_isRoom_59 : decode cL_isRoom 59 = .ok (.aload_n 0, 1) := by decide +kernel
theorem dL_isRoom_60 : decode cL_isRoom 60 = .ok (.iload 6, 2) := by decide +kernel
theorem dL_isRoom_62 : decode cL_isRoom 62 = .ok (.iload 9, 2) := by decide +kernel
theorem dL_isRoom_64 : decode cL_isRoom 64 = .ok (.invokevirtual 92, 3) := by decide +kernel
theorem dL_isRoom_67 : decode cL_isRoom 67 = .ok (.aload_n 2, 1) := by decide +kernel
theorem dL_isRoom_68 : decode cL_isRoom 68 = .ok (.bipush 8, 2) := by decide +kernel
theorem dL_isRoom_70 : decode cL_isRoom 70 = .ok (.iload 6, 2) := by decide +kernel
theorem dL_isRoom_72 : decode cL_isRoom 72 = .ok (.imul, 1) := by decide +kernel
theorem dL_isRoom_73 : decode cL_isRoom 73 = .ok (.iconst 1, 1) := by decide +kernel
theorem dL_isRoom_74 : decode cL_isRoom 74 = .ok (.iadd, 1) := by decide +kernel
theorem dL_isRoom_75 : decode cL_isRoom 75 = .ok (.iload 9, 2) := by decide +kernel
theorem dL_isRoom_77 : decode cL_isRoom 77 = .ok (.iadd, 1) := by decide +kernel
theorem dL_isRoom_78 : decode cL_isRoom 78 = .ok (.iaload, 1) := by decide +kernel
theorem dL_isRoom_79 : decode cL_isRoom 79 = .ok (.if_icmp .ne 34, 3) := by decide +kernel
theorem dL_isRoom_82 : decode cL_isRoom 82 = .ok (.iload 9, 2) := by decide +kernel
theorem dL_isRoom_84 : decode cL_isRoom 84 = .ok (.iconst 4, 1) := by decide +kernel
theorem dL_isRoom_85 : decode cL_isRoom 85 = .ok (.if_icmp .eq 24, 3) := by decide +kernel
theorem dL_isRoom_88 : decode cL_isRoom 88 = .ok (.aload_n 0, 1) := by decide +kernel
theorem dL_isRoom_89 : decode cL_isRoom 89 = .ok (.iload 6, 2) := by decide +kernel
theorem dL_isRoom_91 : decode cL_isRoom 91 = .ok (.iload 9, 2) := by decide +kernel
theorem dL_isRoom_93 : decode cL_isRoom 93 = .ok (.invokevirtual 95, 3) := by decide +kernel
theorem dL_isRoom_96 : decode cL_isRoom 96 = .ok (.aload 4, 2) := by decide +kernel
theorem dL_isRoom_98 : decode cL_isRoom 98 = .ok (.iconst 4, 1) := by decide +kernel
theorem dL_isRoom_99 : decode cL_isRoom 99 = .ok (.iload 6, 2) := by decide +kernel
theorem dL_isRoom_101 : decode cL_isRoom 101 = .ok (.imul, 1) := by decide +kernel
theorem dL_isRoom_102 : decode cL_isRoom 102 = .ok (.iload 9, 2) := by decide +kernel
theorem dL_isRoom_104 : decode cL_isRoom 104 = .ok (.iadd, 1) := by decide +kernel
theorem dL_isRoom_105 : decode cL_isRoom 105 = .ok (.iaload, 1) := by decide +kernel
theorem dL_isRoom_106 : decode cL_isRoom 106 = .ok (.if_icmp .ne 7, 3) := by decide +kernel
theorem dL_isRoom_109 : decode cL_isRoom 109 = .ok (.iconst 1, 1) := by decide +kernel
theorem dL_isRoom_110 : decode cL_isRoom 110 = .ok (.goto 4, 3) := by decide +kernel
theorem dL_isRoom_113 : decode cL_isRoom 113 = .ok (.iconst 0, 1) := by decide +kernel
theorem dL_isRoom_114 : decode cL_isRoom 114 = .ok (.istore 8, 2) := by decide +kernel
theorem dL_isRoom_116 : decode cL_isRoom 116 = .ok (.iinc 9 1, 3) := by decide +kernel
theorem dL_isRoom_119 : decode cL_isRoom 119 = .ok (.goto (-71), 3) := by decide +kernel
theorem dL_isRoom_122 : decode cL_isRoom 122 = .ok (.aload_n 3, 1) := by decide +kernel
theorem dL_isRoom_123 : decode cL_isRoom 123 = .ok (.bipush 8, 2) := by decide +kernel
theorem dL_isRoom_125 : decode cL_isRoom 125 = .ok (.iload 6, 2) := by decide +kernel
theorem dL_isRoom_127 : decode cL_isRoom 127 = .ok (.imul, 1) := by decide +kernel
theorem dL_isRoom_128 : decode cL_isRoom 128 = .ok (.iaload, 1) := by decide +kernel
theorem dL_isRoom_129 : decode cL_isRoom 129 = .ok (.istore 9, 2) := by decide +kernel
theorem dL_isRoom_131 : decode cL_isRoom 131 = .ok (.iload 8, 2) := by decide +kernel
theorem dL_isRoom_133 : decode cL_isRoom 133 = .ok (.ifCond .eq 212, 3) := by decide +kernel
theorem dL_isRoom_136 : decode cL_isRoom 136 = .ok (.aload_n 0, 1) := by decide +kernel
theorem dL_isRoom_137 : decode cL_isRoom 137 = .ok (.iload 6, 2) := by decide +kernel
theorem dL_isRoom_139 : decode cL_isRoom 139 = .ok (.iconst 0, 1) := by decide +kernel
theorem dL_isRoom_140 : decode cL_isRoom 140 = .ok (.invokevirtual 98, 3) := by decide +kernel
theorem dL_isRoom_143 : decode cL_isRoom 143 = .ok (.aload_n 2, 1) := by decide +kernel
theorem dL_isRoom_144 : decode cL_isRoom 144 = .ok (.bipush 8, 2) := by decide +kernel
theorem dL_isRoom_146 : decode cL_isRoom 146 = .ok (.iload 6, 2) := by decide +kernel
theorem dL_isRoom_148 : decode cL_isRoom 148 = .ok (.imul, 1) := by decide +kernel
theorem dL_isRoom_149 : decode cL_isRoom 149 = .ok (.iaload, 1) := by decide +kernel
theorem dL_isRoom_150 : decode cL_isRoom 150 = .ok (.if_icmp .ne 195, 3) := by decide +kernel
theorem dL_isRoom_153 : decode cL_isRoom 153 = .ok (.aload_n 0, 1) := by decide +kernel
theorem dL_isRoom_154 : decode cL_isRoom 154 = .ok (.iload 6, 2) := by decide +kernel
theorem dL_isRoom_156 : decode cL_isRoom 156 = .ok (.iconst 1, 1) := by decide +kernel
theorem dL_isRoom_157 : decode cL_isRoom 157 = .ok (.invokevirtual 98, 3) := by decide +kernel
theorem dL_isRoom_160 : decode cL_isRoom 160 = .ok (.iload 9, 2) := by decide +kernel
theorem dL_isRoom_162 : decode cL_isRoom 162 = .ok (.if_icmp .ne 183, 3) := by decide +kernel
theorem dL_isRoom_165 : decode cL_isRoom 165 = .ok (.aload_n 0, 1) := by decide +kernel
theorem dL_isRoom_166 : decode cL_isRoom 166 = .ok (.iload 6, 2) := by decide +kernel
theorem dL_isRoom_168 : decode cL_isRoom 168 = .ok (.iconst 2, 1) := by decide +kernel
theorem dL_isRoom_169 : decode cL_isRoom 169 = .ok (.invokevirtual 98, 3) := by decide +kernel
theorem dL_isRoom_172 : decode cL_isRoom 172 = .ok (.aload_n 2, 1) := by decide +kernel
theorem dL_isRoom_173 : decode cL_isRoom 173 = .ok (.bipush 8, 2) := by decide +kernel
theorem dL_isRoom_175 : decode cL_isRoom 175 = .ok (.iload 6, 2) := by decide +kernel
theorem dL_isRoom_177 : decode cL_isRoom 177 = .ok (.imul, 1) := by decide +kernel
theorem dL_isRoom_178 : decode cL_isRoom 178 = .ok (.bipush 6, 2) := by decide +kernel
theorem dL_isRoom_180 : decode cL_isRoom 180 = .ok (.iadd, 1) := by decide +kernel
theorem dL_isRoom_181 : decode cL_isRoom 181 = .ok (.iaload, 1) := by decide +kernel
theorem dL_isRoom_182 : decode cL_isRoom 182 = .ok (.ifCond .ge 8, 3) := by decide +kernel
theorem dL_isRoom_185 : decode cL_isRoom 185 = .ok (.bipush (-4), 2) := by decide +kernel
theorem dL_isRoom_187 : decode cL_isRoom 187 = .ok (.goto 13, 3) := by decide +kernel
theorem dL_isRoom_190 : decode cL_isRoom 190 = .ok (.aload_n 2, 1) := by decide +kernel
theorem dL_isRoom_191 : decode cL_isRoom 191 = .ok (.bipush 8, 2) := by decide +kernel
theorem dL_isRoom_193 : decode cL_isRoom 193 = .ok (.iload 6, 2) := by decide +kernel
theorem dL_isRoom_195 : decode cL_isRoom 195 = .ok (.imul, 1) := by decide +kernel
theorem dL_isRoom_196 : decode cL_isRoom 196 = .ok (.bipush 6, 2) := by decide +kernel
theorem dL_isRoom_198 : decode cL_isRoom 198 = .ok (.iadd, 1) := by decide +kernel
theorem dL_isRoom_199 : decode cL_isRoom 199 = .ok (.iaload, 1) := by decide +kernel
theorem dL_isRoom_200 : decode cL_isRoom 200 = .ok (.if_icmp .ne 145, 3) := by decide +kernel
theorem dL_isRoom_203 : decode cL_isRoom 203 = .ok (.aload_n 0, 1) := by decide +kernel
theorem dL_isRoom_204 : decode cL_isRoom 204 = .ok (.iload 6, 2) := by decide +kernel
theorem dL_isRoom_206 : decode cL_isRoom 206 = .ok (.iconst 3, 1) := by decide +kernel
theorem dL_isRoom_207 : decode cL_isRoom 207 = .ok (.invokevirtual 98, 3) := by decide +kernel
theorem dL_isRoom_210 : decode cL_isRoom 210 = .ok (.aload_n 2, 1) := by decide +kernel
theorem dL_isRoom_211 : decode cL_isRoom 211 = .ok (.bipush 8, 2) := by decide +kernel
theorem dL_isRoom_213 : decode cL_isRoom 213 = .ok (.iload 6, 2) := by decide +kernel
theorem dL_isRoom_215 : decode cL_isRoom 215 = .ok (.imul, 1) := by decide +kernel
theorem dL_isRoom_216 : decode cL_isRoom 216 = .ok (.bipush 7, 2) := by decide +kernel
theorem dL_isRoom_218 : decode cL_isRoom 218 = .ok (.iadd, 1) := by decide +kernel
theorem dL_isRoom_219 : decode cL_isRoom 219 = .ok (.iaload, 1) := by decide +kernel
theorem dL_isRoom_220 : decode cL_isRoom 220 = .ok (.ifCond .ge 8, 3) := by decide +kernel
theorem dL_isRoom_223 : decode cL_isRoom 223 = .ok (.bipush (-4), 2) := by decide +kernel
theorem dL_isRoom_225 : decode cL_isRoom 225 = .ok (.goto 13, 3) := by decide +kernel
theorem dL_isRoom_228 : decode cL_isRoom 228 = .ok (.aload_n 2, 1) := by decide +kernel
theorem dL_isRoom_229 : decode cL_isRoom 229 = .ok (.bipush 8, 2) := by decide +kernel
theorem dL_isRoom_231 : decode cL_isRoom 231 = .ok (.iload 6, 2) := by decide +kernel
theorem dL_isRoom_233 : decode cL_isRoom 233 = .ok (.imul, 1) := by decide +kernel
theorem dL_isRoom_234 : decode cL_isRoom 234 = .ok (.bipush 7, 2) := by decide +kernel
theorem dL_isRoom_236 : decode cL_isRoom 236 = .ok (.iadd, 1) := by decide +kernel
theorem dL_isRoom_237 : decode cL_isRoom 237 = .ok (.iaload, 1) := by decide +kernel
theorem dL_isRoom_238 : decode cL_isRoom 238 = .ok (.if_icmp .ne 107, 3) := by decide +kernel
theorem dL_isRoom_241 : decode cL_isRoom 241 = .ok (.aload_n 0, 1) := by decide +kernel
theorem dL_isRoom_242 : decode cL_isRoom 242 = .ok (.iload 6, 2) := by decide +kernel
theorem dL_isRoom_244 : decode cL_isRoom 244 = .ok (.iconst 4, 1) := by decide +kernel
theorem dL_isRoom_245 : decode cL_isRoom 245 = .ok (.invokevirtual 98, 3) := by decide +kernel
theorem dL_isRoom_248 : decode cL_isRoom 248 = .ok (.iload 9, 2) := by decide +kernel
theorem dL_isRoom_250 : decode cL_isRoom 250 = .ok (.iconst 2, 1) := by decide +kernel
theorem dL_isRoom_251 : decode cL_isRoom 251 = .ok (.irem, 1) := by decide +kernel
theorem dL_isRoom_252 : decode cL_isRoom 252 = .ok (.iconst 1, 1) := by decide +kernel
theorem dL_isRoom_253 : decode cL_isRoom 253 = .ok (.if_icmp .ne 15, 3) := by decide +kernel
theorem dL_isRoom_256 : decode cL_isRoom 256 = .ok (.aload_n 3, 1) := by decide +kernel
theorem dL_isRoom_257 : decode cL_isRoom 257 = .ok (.bipush 8, 2) := by decide +kernel
theorem dL_isRoom_259 : decode cL_isRoom 259 = .ok (.iload 6, 2) := by decide +kernel
theorem dL_isRoom_261 : decode cL_isRoom 261 = .ok (.imul, 1) := by decide +kernel
theorem dL_isRoom_262 : decode cL_isRoom 262 = .ok (.iconst 1, 1) := by decide +kernel
theorem dL_isRoom_263 : decode cL_isRoom 263 = .ok (.iadd, 1) := by decide +kernel
theorem dL_isRoom_264 : decode cL_isRoom 264 = .ok (.iaload, 1) := by decide +kernel
theorem dL_isRoom_265 : decode cL_isRoom 265 = .ok (.goto 4, 3) := by decide +kernel
theorem dL_isRoom_268 : decode cL_isRoom 268 = .ok (.iconst 0, 1) := by decide +kernel
theorem dL_isRoom_269 : decode cL_isRoom 269 = .ok (.if_icmp .ne 76, 3) := by decide +kernel
theorem dL_isRoom_272 : decode cL_isRoom 272 = .ok (.aload_n 0, 1) := by decide +kernel
theorem dL_isRoom_273 : decode cL_isRoom 273 = .ok (.iload 6, 2) := by decide +kernel
theorem dL_isRoom_275 : decode cL_isRoom 275 = .ok (.iconst 5, 1) := by decide +kernel
theorem dL_isRoom_276 : decode cL_isRoom 276 = .ok (.invokevirtual 98, 3) := by decide +kernel
theorem dL_isRoom_279 : decode cL_isRoom 279 = .ok (.iload 9, 2) := by decide +kernel
theorem dL_isRoom_281 : decode cL_isRoom 281 = .ok (.iconst 2, 1) := by decide +kernel
theorem dL_isRoom_282 : decode cL_isRoom 282 = .ok (.if_icmp .ne 15, 3) := by decide +kernel
theorem dL_isRoom_285 : decode cL_isRoom 285 = .ok (.aload_n 3, 1) := by decide +kernel
theorem dL_isRoom_286 : decode cL_isRoom 286 = .ok (.bipush 8, 2) := by decide +kernel
theorem dL_isRoom_288 : decode cL_isRoom 288 = .ok (.iload 6, 2) := by decide +kernel
theorem dL_isRoom_290 : decode cL_isRoom 290 = .ok (.imul, 1) := by decide +kernel
theorem dL_isRoom_291 : decode cL_isRoom 291 = .ok (.iconst 2, 1) := by decide +kernel
theorem dL_isRoom_292 : decode cL_isRoom 292 = .ok (.iadd, 1) := by decide +kernel
theorem dL_isRoom_293 : decode cL_isRoom 293 = .ok (.iaload, 1) := by decide +kernel
theorem dL_isRoom_294 : decode cL_isRoom 294 = .ok (.goto 4, 3) := by decide +kernel
theorem dL_isRoom_297 : decode cL_isRoom 297 = .ok (.iconst 0, 1) := by decide +kernel
theorem dL_isRoom_298 : decode cL_isRoom 298 = .ok (.if_icmp .ne 47, 3) := by decide +kernel
theorem dL_isRoom_301 : decode cL_isRoom 301 = .ok (.aload_n 0, 1) := by decide +kernel
theorem dL_isRoom_302 : decode cL_isRoom 302 = .ok (.iload 6, 2) := by decide +kernel
theorem dL_isRoom_304 : decode cL_isRoom 304 = .ok (.bipush 6, 2) := by decide +kernel
theorem dL_isRoom_306 : decode cL_isRoom 306 = .ok (.invokevirtual 98, 3) := by decide +kernel
theorem dL_isRoom_309 : decode cL_isRoom 309 = .ok (.aload_n 3, 1) := by decide +kernel
theorem dL_isRoom_310 : decode cL_isRoom 310 = .ok (.bipush 8, 2) := by decide +kernel
theorem dL_isRoom_312 : decode cL_isRoom 312 = .ok (.iload 6, 2) := by decide +kernel
theorem dL_isRoom_314 : decode cL_isRoom 314 = .ok (.imul, 1) := by decide +kernel
theorem dL_isRoom_315 : decode cL_isRoom 315 = .ok (.iconst 3, 1) := by decide +kernel
theorem dL_isRoom_316 : decode cL_isRoom 316 = .ok (.iadd, 1) := by decide +kernel
theorem dL_isRoom_317 : decode cL_isRoom 317 = .ok (.iaload, 1) := by decide +kernel
theorem dL_isRoom_318 : decode cL_isRoom 318 = .ok (.if_icmp .ne 27, 3) := by decide +kernel
theorem dL_isRoom_321 : decode cL_isRoom 321 = .ok (.aload_n 0, 1) := by decide +kernel
theorem dL_isRoom_322 : decode cL_isRoom 322 = .ok (.iload 6, 2) := by decide +kernel
theorem dL_isRoom_324 : decode cL_isRoom 324 = .ok (.bipush 7, 2) := by decide +kernel
theorem dL_isRoom_326 : decode cL_isRoom 326 = .ok (.invokevirtual 98, 3) := by decide +kernel
theorem dL_isRoom_329 : decode cL_isRoom 329 = .ok (.aload_n 3, 1) := by decide +kernel
theorem dL_isRoom_330 : decode cL_isRoom 330 = .ok (.bipush 8, 2) := by decide +kernel
theorem dL_isRoom_332 : decode cL_isRoom 332 = .ok (.iload 6, 2) := by decide +kernel
theorem dL_isRoom_334 : decode cL_isRoom 334 = .ok (.imul, 1) := by decide +kernel
theorem dL_isRoom_335 : decode cL_isRoom 335 = .ok (.iconst 4, 1) := by decide +kernel
theorem dL_isRoom_336 : decode cL_isRoom 336 = .ok (.iadd, 1) := by decide +kernel
theorem dL_isRoom_337 : decode cL_isRoom 337 = .ok (.iaload, 1) := by decide +kernel
theorem dL_isRoom_338 : decode cL_isRoom 338 = .ok (.if_icmp .ne 7, 3) := by decide +kernel
theorem dL_isRoom_341 : decode cL_isRoom 341 = .ok (.iconst 1, 1) := by decide +kernel
theorem dL_isRoom_342 : decode cL_isRoom 342 = .ok (.goto 4, 3) := by decide +kernel
theorem dL_isRoom_345 : decode cL_isRoom 345 = .ok (.iconst 0, 1) := by decide +kernel
theorem dL_isRoom_346 : decode cL_isRoom 346 = .ok (.istore 8, 2) := by decide +kernel
theorem dL_isRoom_348 : decode cL_isRoom 348 = .ok (.iload 8, 2) := by decide +kernel
theorem dL_isRoom_350 : decode cL_isRoom 350 = .ok (.ifCond .eq 233, 3) := by decide +kernel
theorem dL_isRoom_353 : decode cL_isRoom 353 = .ok (.aload_n 0, 1) := by decide +kernel
theorem dL_isRoom_354 : decode cL_isRoom 354 = .ok (.iload 6, 2) := by decide +kernel
theorem dL_isRoom_356 : decode cL_isRoom 356 = .ok (.bipush 8, 2) := by decide +kernel
theorem dL_isRoom_358 : decode cL_isRoom 358 = .ok (.invokevirtual 98, 3) := by decide +kernel
theorem dL_isRoom_361 : decode cL_isRoom 361 = .ok (.iload 7, 2) := by decide +kernel
theorem dL_isRoom_363 : decode cL_isRoom 363 = .ok (.if_icmp .ne 220, 3) := by decide +kernel
theorem dL_isRoom_366 : decode cL_isRoom 366 = .ok (.aload_n 0, 1) := by decide +kernel
theorem dL_isRoom_367 : decode cL_isRoom 367 = .ok (.iload 6, 2) := by decide +kernel
theorem dL_isRoom_369 : decode cL_isRoom 369 = .ok (.bipush 9, 2) := by decide +kernel
theorem dL_isRoom_371 : decode cL_isRoom 371 = .ok (.invokevirtual 98, 3) := by decide +kernel
theorem dL_isRoom_374 : decode cL_isRoom 374 = .ok (.aload_n 3, 1) := by decide +kernel
theorem dL_isRoom_375 : decode cL_isRoom 375 = .ok (.bipush 8, 2) := by decide +kernel
theorem dL_isRoom_377 : decode cL_isRoom 377 = .ok (.iload 6, 2) := by decide +kernel
theorem dL_isRoom_379 : decode cL_isRoom 379 = .ok (.imul, 1) := by decide +kernel
theorem dL_isRoom_380 : decode cL_isRoom 380 = .ok (.iconst 5, 1) := by decide +kernel
theorem dL_isRoom_381 : decode cL_isRoom 381 = .ok (.iadd, 1) := by decide +kernel
theorem dL_isRoom_382 : decode cL_isRoom 382 = .ok (.iaload, 1) := by decide +kernel
theorem dL_isRoom_383 : decode cL_isRoom 383 = .ok (.if_icmp .ne 200, 3) := by decide +kernel
theorem dL_isRoom_386 : decode cL_isRoom 386 = .ok (.aload_n 0, 1) := by decide +kernel
theorem dL_isRoom_387 : decode cL_isRoom 387 = .ok (.iload 6, 2) := by decide +kernel
theorem dL_isRoom_389 : decode cL_isRoom 389 = .ok (.bipush 10, 2) := by decide +kernel
theorem dL_isRoom_391 : decode cL_isRoom 391 = .ok (.invokevirtual 98, 3) := by decide +kernel
theorem dL_isRoom_394 : decode cL_isRoom 394 = .ok (.aload_n 3, 1) := by decide +kernel
theorem dL_isRoom_395 : decode cL_isRoom 395 = .ok (.bipush 8, 2) := by decide +kernel
theorem dL_isRoom_397 : decode cL_isRoom 397 = .ok (.iload 6, 2) := by decide +kernel
theorem dL_isRoom_399 : decode cL_isRoom 399 = .ok (.imul, 1) := by decide +kernel
theorem dL_isRoom_400 : decode cL_isRoom 400 = .ok (.bipush 6, 2) := by decide +kernel
theorem dL_isRoom_402 : decode cL_isRoom 402 = .ok (.iadd, 1) := by decide +kernel
theorem dL_isRoom_403 : decode cL_isRoom 403 = .ok (.iaload, 1) := by decide +kernel
theorem dL_isRoom_404 : decode cL_isRoom 404 = .ok (.if_icmp .ne 179, 3) := by decide +kernel
theorem dL_isRoom_407 : decode cL_isRoom 407 = .ok (.aload_n 0, 1) := by decide +kernel
theorem dL_isRoom_408 : decode cL_isRoom 408 = .ok (.iload 6, 2) := by decide +kernel
theorem dL_isRoom_410 : decode cL_isRoom 410 = .ok (.bipush 11, 2) := by decide +kernel
theorem dL_isRoom_412 : decode cL_isRoom 412 = .ok (.invokevirtual 98, 3) := by decide +kernel
theorem dL_isRoom_415 : decode cL_isRoom 415 = .ok (.aload_n 3, 1) := by decide +kernel
theorem dL_isRoom_416 : decode cL_isRoom 416 = .ok (.bipush 8, 2) := by decide +kernel
theorem dL_isRoom_418 : decode cL_isRoom 418 = .ok (.iload 6, 2) := by decide +kernel
theorem dL_isRoom_420 : decode cL_isRoom 420 = .ok (.imul, 1) := by decide +kernel
theorem dL_isRoom_421 : decode cL_isRoom 421 = .ok (.bipush 7, 2) := by decide +kernel
theorem dL_isRoom_423 : decode cL_isRoom 423 = .ok (.iadd, 1) := by decide +kernel
theorem dL_isRoom_424 : decode cL_isRoom 424 = .ok (.iaload, 1) := by decide +kernel
theorem dL_isRoom_425 : decode cL_isRoom 425 = .ok (.if_icmp .ne 158, 3) := by decide +kernel
theorem dL_isRoom_428 : decode cL_isRoom 428 = .ok (.aload_n 0, 1) := by decide +kernel
theorem dL_isRoom_429 : decode cL_isRoom 429 = .ok (.iload 6, 2) := by decide +kernel
theorem dL_isRoom_431 : decode cL_isRoom 431 = .ok (.bipush 12, 2) := by decide +kernel
theorem dL_isRoom_433 : decode cL_isRoom 433 = .ok (.invokevirtual 98, 3) := by decide +kernel
theorem dL_isRoom_436 : decode cL_isRoom 436 = .ok (.aload_n 1, 1) := by decide +kernel
theorem dL_isRoom_437 : decode cL_isRoom 437 = .ok (.aload_n 2, 1) := by decide +kernel
theorem dL_isRoom_438 : decode cL_isRoom 438 = .ok (.aload_n 3, 1) := by decide +kernel
theorem dL_isRoom_439 : decode cL_isRoom 439 = .ok (.aload 4, 2) := by decide +kernel
theorem dL_isRoom_441 : decode cL_isRoom 441 = .ok (.aload 5, 2) := by decide +kernel
theorem dL_isRoom_443 : decode cL_isRoom 443 = .ok (.iload 6, 2) := by decide +kernel
theorem dL_isRoom_445 : decode cL_isRoom 445 = .ok (.invokestatic 23, 3) := by decide +kernel
theorem dL_isRoom_448 : decode cL_isRoom 448 = .ok (.ifCond .eq 7, 3) := by decide +kernel
theorem dL_isRoom_451 : decode cL_isRoom 451 = .ok (.iconst 1, 1) := by decide +kernel
theorem dL_isRoom_452 : decode cL_isRoom 452 = .ok (.goto 4, 3) := by decide +kernel
theorem dL_isRoom_455 : decode cL_isRoom 455 = .ok (.iconst 0, 1) := by decide +kernel
theorem dL_isRoom_456 : decode cL_isRoom 456 = .ok (.if_icmp .ne 127, 3) := by decide +kernel
theorem dL_isRoom_459 : decode cL_isRoom 459 = .ok (.aload_n 0, 1) := by decide +kernel
theorem dL_isRoom_460 : decode cL_isRoom 460 = .ok (.iload 6, 2) := by decide +kernel
theorem dL_isRoom_462 : decode cL_isRoom 462 = .ok (.bipush 13, 2) := by decide +kernel
theorem dL_isRoom_464 : decode cL_isRoom 464 = .ok (.invokevirtual 98, 3) := by decide +kernel
theorem dL_isRoom_467 : decode cL_isRoom 467 = .ok (.aload_n 3, 1) := by decide +kernel
theorem dL_isRoom_468 : decode cL_isRoom 468 = .ok (.bipush 8, 2) := by decide +kernel
theorem dL_isRoom_470 : decode cL_isRoom 470 = .ok (.iload 6, 2) := by decide +kernel
theorem dL_isRoom_472 : decode cL_isRoom 472 = .ok (.imul, 1) := by decide +kernel
theorem dL_isRoom_473 : decode cL_isRoom 473 = .ok (.iconst 5, 1) := by decide +kernel
theorem dL_isRoom_474 : decode cL_isRoom 474 = .ok (.iadd, 1) := by decide +kernel
theorem dL_isRoom_475 : decode cL_isRoom 475 = .ok (.iaload, 1) := by decide +kernel
theorem dL_isRoom_476 : decode cL_isRoom 476 = .ok (.iconst 2, 1) := by decide +kernel
theorem dL_isRoom_477 : decode cL_isRoom 477 = .ok (.if_icmp .ge 8, 3) := by decide +kernel
theorem dL_isRoom_480 : decode cL_isRoom 480 = .ok (.bipush (-4), 2) := by decide +kernel
theorem dL_isRoom_482 : decode cL_isRoom 482 = .ok (.goto 13, 3) := by decide +kernel
theorem dL_isRoom_485 : decode cL_isRoom 485 = .ok (.aload 4, 2) := by decide +kernel
theorem dL_isRoom_487 : decode cL_isRoom 487 = .ok (.bipush 33, 2) := by decide +kernel
theorem dL_isRoom_489 : decode cL_isRoom 489 = .ok (.iconst 2, 1) := by decide +kernel
theorem dL_isRoom_490 : decode cL_isRoom 490 = .ok (.iload 6, 2) := by decide +kernel
theorem dL_isRoom_492 : decode cL_isRoom 492 = .ok (.imul, 1) := by decide +kernel
theorem dL_isRoom_493 : decode cL_isRoom 493 = .ok (.iadd, 1) := by decide +kernel
theorem dL_isRoom_494 : decode cL_isRoom 494 = .ok (.iaload, 1) := by decide +kernel
theorem dL_isRoom_495 : decode cL_isRoom 495 = .ok (.if_icmp .ne 88, 3) := by decide +kernel
theorem dL_isRoom_498 : decode cL_isRoom 498 = .ok (.aload_n 0, 1) := by decide +kernel
theorem dL_isRoom_499 : decode cL_isRoom 499 = .ok (.iload 6, 2) := by decide +kernel
theorem dL_isRoom_501 : decode cL_isRoom 501 = .ok (.bipush 14, 2) := by decide +kernel
theorem dL_isRoom_503 : decode cL_isRoom 503 = .ok (.invokevirtual 98, 3) := by decide +kernel
theorem dL_isRoom_506 : decode cL_isRoom 506 = .ok (.iconst (-1), 1) := by decide +kernel
theorem dL_isRoom_507 : decode cL_isRoom 507 = .ok (.if_icmp .ne 76, 3) := by decide +kernel
theorem dL_isRoom_510 : decode cL_isRoom 510 = .ok (.aload_n 0, 1) := by decide +kernel
theorem dL_isRoom_511 : decode cL_isRoom 511 = .ok (.iload 6, 2) := by decide +kernel
theorem dL_isRoom_513 : decode cL_isRoom 513 = .ok (.iconst 5, 1) := by decide +kernel
theorem dL_isRoom_514 : decode cL_isRoom 514 = .ok (.invokevirtual 92, 3) := by decide +kernel
theorem dL_isRoom_517 : decode cL_isRoom 517 = .ok (.iconst (-1), 1) := by decide +kernel
theorem dL_isRoom_518 : decode cL_isRoom 518 = .ok (.if_icmp .ne 65, 3) := by decide +kernel
theorem dL_isRoom_521 : decode cL_isRoom 521 = .ok (.aload_n 0, 1) := by decide +kernel
theorem dL_isRoom_522 : decode cL_isRoom 522 = .ok (.iload 6, 2) := by decide +kernel
theorem dL_isRoom_524 : decode cL_isRoom 524 = .ok (.iconst 4, 1) := by decide +kernel
theorem dL_isRoom_525 : decode cL_isRoom 525 = .ok (.invokevirtual 95, 3) := by decide +kernel
theorem dL_isRoom_528 : decode cL_isRoom 528 = .ok (.aload 4, 2) := by decide +kernel
theorem dL_isRoom_530 : decode cL_isRoom 530 = .ok (.iconst 4, 1) := by decide +kernel
theorem dL_isRoom_531 : decode cL_isRoom 531 = .ok (.iload 6, 2) := by decide +kernel
theorem dL_isRoom_533 : decode cL_isRoom 533 = .ok (.imul, 1) := by decide +kernel
theorem dL_isRoom_534 : decode cL_isRoom 534 = .ok (.iaload, 1) := by decide +kernel
theorem dL_isRoom_535 : decode cL_isRoom 535 = .ok (.aload 4, 2) := by decide +kernel
theorem dL_isRoom_537 : decode cL_isRoom 537 = .ok (.iconst 4, 1) := by decide +kernel
theorem dL_isRoom_538 : decode cL_isRoom 538 = .ok (.iload 6, 2) := by decide +kernel
theorem dL_isRoom_540 : decode cL_isRoom 540 = .ok (.imul, 1) := by decide +kernel
theorem dL_isRoom_541 : decode cL_isRoom 541 = .ok (.iconst 1, 1) := by decide +kernel
theorem dL_isRoom_542 : decode cL_isRoom 542 = .ok (.iadd, 1) := by decide +kernel
theorem dL_isRoom_543 : decode cL_isRoom 543 = .ok (.iaload, 1) := by decide +kernel
theorem dL_isRoom_544 : decode cL_isRoom 544 = .ok (.iadd, 1) := by decide +kernel
theorem dL_isRoom_545 : decode cL_isRoom 545 = .ok (.aload 4, 2) := by decide +kernel
theorem dL_isRoom_547 : decode cL_isRoom 547 = .ok (.iconst 4, 1) := by decide +kernel
theorem dL_isRoom_548 : decode cL_isRoom 548 = .ok (.iload 6, 2) := by decide +kernel
theorem dL_isRoom_550 : decode cL_isRoom 550 = .ok (.imul, 1) := by decide +kernel
theorem dL_isRoom_551 : decode cL_isRoom 551 = .ok (.iconst 2, 1) := by decide +kernel
theorem dL_isRoom_552 : decode cL_isRoom 552 = .ok (.iadd, 1) := by decide +kernel
theorem dL_isRoom_553 : decode cL_isRoom 553 = .ok (.iaload, 1) := by decide +kernel
theorem dL_isRoom_554 : decode cL_isRoom 554 = .ok (.iadd, 1) := by decide +kernel
theorem dL_isRoom_555 : decode cL_isRoom 555 = .ok (.aload 4, 2) := by decide +kernel
theorem dL_isRoom_557 : decode cL_isRoom 557 = .ok (.iconst 4, 1) := by decide +kernel
theorem dL_isRoom_558 : decode cL_isRoom 558 = .ok (.iload 6, 2) := by decide +kernel
theorem dL_isRoom_560 : decode cL_isRoom 560 = .ok (.imul, 1) := by decide +kernel
theorem dL_isRoom_561 : decode cL_isRoom 561 = .ok (.iconst 3, 1) := by decide +kernel
theorem dL_isRoom_562 : decode cL_isRoom 562 = .ok (.iadd, 1) := by decide +kernel
theorem dL_isRoom_563 : decode cL_isRoom 563 = .ok (.iaload, 1) := by decide +kernel
theorem dL_isRoom_564 : decode cL_isRoom 564 = .ok (.iadd, 1) := by decide +kernel
theorem dL_isRoom_565 : decode cL_isRoom 565 = .ok (.if_icmp .ne 18, 3) := by decide +kernel
theorem dL_isRoom_568 : decode cL_isRoom 568 = .ok (.aload_n 0, 1) := by decide +kernel
theorem dL_isRoom_569 : decode cL_isRoom 569 = .ok (.iload 6, 2) := by decide +kernel
theorem dL_isRoom_571 : decode cL_isRoom 571 = .ok (.iconst 5, 1) := by decide +kernel
theorem dL_isRoom_572 : decode cL_isRoom 572 = .ok (.invokevirtual 95, 3) := by decide +kernel
theorem dL_isRoom_575 : decode cL_isRoom 575 = .ok (.iconst (-1), 1) := by decide +kernel
theorem dL_isRoom_576 : decode cL_isRoom 576 = .ok (.if_icmp .ne 7, 3) := by decide +kernel
theorem dL_isRoom_579 : decode cL_isRoom 579 = .ok (.iconst 1, 1) := by decide +kernel
theorem dL_isRoom_580 : decode cL_isRoom 580 = .ok (.goto 4, 3) := by decide +kernel
theorem dL_isRoom_583 : decode cL_isRoom 583 = .ok (.iconst 0, 1) := by decide +kernel
theorem dL_isRoom_584 : decode cL_isRoom 584 = .ok (.ireturn, 1) := by decide +kernel
set_option maxRecDepth 20000 in
theorem ggL_isSo_L_isRoom : GoodIn wsL_isSo wsL_isRoom := goodIn_sub (List.forall_mem_cons.mpr ⟨List.mem_of_getElem? (i := 5) rfl, List.forall_mem_cons.mpr ⟨List.mem_of_getElem? (i := 6) rfl, List.forall_mem_cons.mpr ⟨List.mem_of_getElem? (i := 7) rfl, List.forall_mem_cons.mpr ⟨List.mem_of_getElem? (i := 8) rfl, List.forall_mem_cons.mpr ⟨List.mem_of_getElem? (i := 9) rfl, List.forall_mem_cons.mpr ⟨List.mem_of_getElem? (i := 10) rfl, List.forall_mem_cons.mpr ⟨List.mem_of_getElem? (i := 11) rfl, List.forall_mem_cons.mpr ⟨List.mem_of_getElem? (i := 12) rfl, List.forall_mem_cons.mpr ⟨List.mem_of_getElem? (i := 13) rfl, List.forall_mem_cons.mpr ⟨List.mem_of_getElem? (i := 14) rfl, List.forall_mem_cons.mpr ⟨List.mem_of_getElem? (i := 15) rfl, List.forall_mem_cons.mpr ⟨List.mem_of_getElem? (i := 16) rfl, List.forall_mem_cons.mpr ⟨List.mem_of_getElem? (i := 17) rfl, List.forall_mem_cons.mpr ⟨List.mem_of_getElem? (i := 18) rfl, List.forall_mem_cons.mpr ⟨List.mem_of_getElem? (i := 19) rfl, List.forall_mem_cons.mpr ⟨List.mem_of_getElem? (i := 20) rfl, List.forall_mem_cons.mpr ⟨List.mem_of_getElem? (i := 21) rfl, List.forall_mem_cons.mpr ⟨List.mem_of_getElem? (i := 22) rfl, List.forall_mem_cons.mpr ⟨List.mem_of_getElem? (i := 23) rfl, List.forall_mem_cons.mpr ⟨List.mem_of_getElem? (i := 24) rfl, List.forall_mem_cons.mpr ⟨List.mem_of_getElem? (i := 25) rfl, List.forall_mem_cons.mpr ⟨List.mem_of_getElem? (i := 26) rfl, List.forall_mem_cons.mpr ⟨List.mem_of_getElem? (i := 27) rfl, List.forall_mem_cons.mpr ⟨List.mem_of_getElem? (i := 28) rfl, List.forall_mem_cons.mpr ⟨List.mem_of_getElem? (i := 29) rfl, List.forall_mem_cons.mpr ⟨List.mem_of_getElem? (i := 30) rfl, List.forall_mem_cons.mpr ⟨List.mem_of_getElem? (i := 31) rfl, List.forall_mem_cons.mpr ⟨List.mem_of_getElem? (i := 32) rfl, List.forall_mem_cons.mpr ⟨List.mem_of_getElem? (i := 33) rfl, List.forall_mem_cons.mpr ⟨List.mem_of_getElem? (i := 34) rfl, List.forall_mem_cons.mpr ⟨List.mem_of_getElem? (i := 35) rfl, List.forall_mem_cons.mpr ⟨List.mem_of_getElem? (i := 36) rfl, List.forall_mem_cons.mpr ⟨List.mem_of_getElem? (i := 37) rfl, List.forall_mem_cons.mpr ⟨List.mem_of_getElem? (i := 38) rfl, List.forall_mem_cons.mpr ⟨List.mem_of_getElem? (i := 39) rfl, List.forall_mem_cons.mpr ⟨List.mem_of_getElem? (i := 40) rfl, List.forall_mem_cons.mpr ⟨List.mem_of_getElem? (i := 41) rfl, List.forall_mem_cons.mpr ⟨List.mem_of_getElem? (i := 42) rfl, List.forall_mem_cons.mpr ⟨List.mem_of_getElem? (i := 43) rfl, List.forall_mem_cons.mpr ⟨List.mem_of_getElem? (i := 44) rfl, List.forall_mem_cons.mpr ⟨List.mem_of_getElem? (i := 45) rfl, List.forall_mem_cons.mpr ⟨List.mem_of_getElem? (i := 46) rfl, List.forall_mem_cons.mpr ⟨List.mem_of_getElem? (i := 47) rfl, List.forall_mem_cons.mpr ⟨List.mem_of_getElem? (i := 48) rfl, List.forall_mem_cons.mpr ⟨List.mem_of_getElem? (i := 49) rfl, List.forall_mem_cons.mpr ⟨List.mem_of_getElem? (i := 50) rfl, List.forall_mem_cons.mpr ⟨List.mem_of_getElem? (i := 51) rfl, List.forall_mem_cons.mpr ⟨List.mem_of_getElem? (i := 52) rfl, List.forall_mem_cons.mpr ⟨List.mem_of_getElem? (i := 53) rfl, List.forall_mem_cons.mpr ⟨List.mem_of_getElem? (i := 54) rfl, List.forall_mem_cons.mpr ⟨List.mem_of_getElem? (i := 55) rfl, List.forall_mem_cons.mpr ⟨List.mem_of_getElem? (i := 56) rfl, List.forall_mem_cons.mpr ⟨List.mem_of_getElem? (i := 57) rfl, List.forall_mem_cons.mpr ⟨List.mem_of_getElem? (i := 58) rfl, List.forall_mem_cons.mpr ⟨List.mem_of_getElem? (i := 59) rfl, List.forall_mem_cons.mpr ⟨List.mem_of_getElem? (i := 60) rfl, List.forall_mem_cons.mpr ⟨List.mem_of_getElem? (i := 61) rfl, List.forall_mem_cons.mpr ⟨List.mem_of_getElem? (i := 62) rfl, List.forall_mem_cons.mpr ⟨List.mem_of_getElem? (i := 63) rfl, List.forall_mem_cons.mpr ⟨List.mem_of_getElem? (i := 64) rfl, List.forall_mem_cons.mpr ⟨List.mem_of_getElem? (i := 65) rfl, List.forall_mem_cons.mpr ⟨List.mem_of_getElem? (i := 66) rfl, List.forall_mem_cons.mpr ⟨List.mem_of_getElem? (i := 67) rfl, List.forall_mem_cons.mpr ⟨List.mem_of_getElem? (i := 68) rfl, List.forall_mem_cons.mpr ⟨List.mem_of_getElem? (i := 69) rfl, List.forall_mem_cons.mpr ⟨List.mem_of_getElem? (i := 70) rfl, List.forall_mem_cons.mpr ⟨List.mem_of_getElem? (i := 71) rfl, List.forall_mem_cons.mpr ⟨List.mem_of_getElem? (i := 72) rfl, List.forall_mem_cons.mpr ⟨List.mem_of_getElem? (i := 73) rfl, List.forall_mem_cons.mpr ⟨List.mem_of_getElem? (i := 74) rfl, List.forall_mem_cons.mpr ⟨List.mem_of_getElem? (i := 75) rfl, List.forall_mem_cons.mpr ⟨List.mem_of_getElem? (i := 76) rfl, List.forall_mem_cons.mpr ⟨List.mem_of_getElem? (i := 77) rfl, List.forall_mem_cons.mpr ⟨List.mem_of_getElem? (i := 78) rfl, List.forall_mem_cons.mpr ⟨List.mem_of_getElem? (i := 79) rfl, List.forall_mem_cons.mpr ⟨List.mem_of_getElem? (i := 80) rfl, List.forall_mem_cons.mpr ⟨List.mem_of_getElem? (i := 81) rfl, List.forall_mem_cons.mpr ⟨List.mem_of_getElem? (i := 82) rfl, List.forall_mem_cons.mpr ⟨List.mem_of_getElem? (i := 83) rfl, List.forall_mem_cons.mpr ⟨List.mem_of_getElem? (i := 84) rfl, List.forall_mem_cons.mpr ⟨List.mem_of_getElem? (i := 4) rfl, List.forall_mem_cons.mpr ⟨List.mem_of_getElem? (i := 85) rfl, List.forall_mem_cons.mpr ⟨List.mem_of_getElem? (i := 86) rfl, List.forall_mem_cons.mpr ⟨List.mem_of_getElem? (i := 87) rfl, List.forall_mem_cons.mpr ⟨List.mem_of_getElem? (i := 88) rfl, List.forall_mem_cons.mpr ⟨List.mem_of_getElem? (i := 89) rfl, List.forall_mem_cons.mpr ⟨List.mem_of_getElem? (i := 90) rfl, List.forall_mem_cons.mpr ⟨List.mem_of_getElem? (i := 91) rfl, List.forall_mem_cons.mpr ⟨List.mem_of_getElem? (i := 142) rfl, List.forall_mem_cons.mpr ⟨List.mem_of_getElem? (i := 143) rfl, List.forall_mem_cons.mpr ⟨List.mem_of_getElem? (i := 144) rfl, List.forall_mem_cons.mpr ⟨List.mem_of_getElem? (i := 145) rfl, List.forall_mem_cons.mpr ⟨List.mem_of_getElem? (i := 146) rfl, List.forall_mem_cons.mpr ⟨List.mem_of_getElem? (i := 147) rfl, List.forall_mem_cons.mpr ⟨List.mem_of_getElem? (i := 148) rfl, List.forall_mem_cons.mpr ⟨List.mem_of_getElem? (i := 149) rfl, List.forall_mem_cons.mpr ⟨List.mem_of_getElem? (i := 150) rfl, List.forall_mem_cons.mpr ⟨List.mem_of_getElem? (i := 151) rfl, List.forall_mem_cons.mpr ⟨List.mem_of_getElem? (i := 152) rfl, List.forall_mem_cons.mpr ⟨List.mem_of_getElem? (i := 153) rfl, List.forall_mem_cons.mpr ⟨List.mem_of_getElem? (i := 154) rfl, List.forall_mem_cons.mpr ⟨List.mem_of_getElem? (i := 155) rfl, List.forall_mem_cons.mpr ⟨List.mem_of_getElem? (i := 156) rfl, List.forall_mem_cons.mpr ⟨List.mem_of_getElem? (i := 157) rfl, List.forall_mem_cons.mpr ⟨List.mem_of_getElem? (i := 158) rfl, List.forall_mem_cons.mpr ⟨List.mem_of_getElem? (i := 159) rfl, List.forall_mem_cons.mpr ⟨List.mem_of_getElem? (i := 160) rfl, List.forall_mem_cons.mpr ⟨List.mem_of_getElem? (i := 161) rfl, List.forall_mem_cons.mpr ⟨List.mem_of_getElem? (i := 162) rfl, List.forall_mem_cons.mpr ⟨List.mem_of_getElem? (i := 163) rfl, List.forall_mem_cons.mpr ⟨List.mem_of_getElem? (i := 164) rfl, List.forall_mem_cons.mpr ⟨List.mem_of_getElem? (i := 165) rfl, List.forall_mem_cons.mpr ⟨List.mem_of_getElem? (i := 166) rfl, List.forall_mem_cons.mpr ⟨List.mem_of_getElem? (i := 167) rfl, List.forall_mem_cons.mpr ⟨List.mem_of_getElem? (i := 168) rfl, List.forall_mem_cons.mpr ⟨List.mem_of_getElem? (i := 169) rfl, wk_mn⟩⟩⟩⟩⟩⟩⟩⟩⟩⟩⟩⟩⟩⟩⟩⟩⟩⟩⟩⟩⟩⟩⟩⟩⟩⟩⟩⟩⟩⟩⟩⟩⟩⟩⟩⟩⟩⟩⟩⟩⟩⟩⟩⟩⟩⟩⟩⟩⟩⟩⟩⟩⟩⟩⟩⟩⟩⟩⟩⟩⟩⟩⟩⟩⟩⟩⟩⟩⟩⟩⟩⟩⟩⟩⟩⟩⟩⟩⟩⟩⟩⟩⟩⟩⟩⟩⟩⟩⟩⟩⟩⟩⟩⟩⟩⟩⟩⟩⟩⟩⟩⟩⟩⟩⟩⟩⟩⟩⟩⟩⟩⟩⟩⟩⟩⟩) (by decide +kernel)
set_option maxRecDepth 20000 in
theorem gL_isSo_L_isRoom : GoodIn wsL_isSo (va_wsS RL 101 yL_isRoom wsL_isRoom) := goodIn_app (goodIn_sub (List.forall_mem_cons.mpr ⟨List.mem_of_getElem? (i := 2) rfl, List.forall_mem_cons.mpr ⟨List.mem_of_getElem? (i := 3) rfl, List.forall_mem_cons.mpr ⟨List.mem_of_getElem? (i := 4) rfl, wk_mn⟩⟩⟩) (by decide +kernel)) ggL_isSo_L_isRoom
set_option maxRecDepth 20000 in
theorem ggL_isSo_X3_roomOf : GoodIn wsL_isSo wsX3_roomOf := goodIn_sub (List.forall_mem_cons.mpr ⟨List.mem_of_getElem? (i := 37) rfl, List.forall_mem_cons.mpr ⟨List.mem_of_getElem? (i := 11) rfl, List.forall_mem_cons.mpr ⟨List.mem_of_getElem? (i := 12) rfl, List.forall_mem_cons.mpr ⟨List.mem_of_getElem? (i := 14) rfl, List.forall_mem_cons.mpr ⟨List.mem_of_getElem? (i := 15) rfl, List.forall_mem_cons.mpr ⟨List.mem_of_getElem? (i := 16) rfl, List.forall_mem_cons.mpr ⟨List.mem_of_getElem? (i := 17) rfl, List.forall_mem_cons.mpr ⟨List.mem_of_getElem? (i := 18) rfl, List.forall_mem_cons.mpr ⟨List.mem_of_getElem? (i := 19) rfl, List.forall_mem_cons.mpr ⟨List.mem_of_getElem? (i := 20) rfl, List.forall_mem_cons.mpr ⟨List.mem_of_getElem? (i := 21) rfl, List.forall_mem_cons.mpr ⟨List.mem_of_getElem? (i := 9) rfl, List.forall_mem_cons.mpr ⟨List.mem_of_getElem? (i := 22) rfl, List.forall_mem_cons.mpr ⟨List.mem_of_getElem? (i := 38) rfl, List.forall_mem_cons.mpr ⟨List.mem_of_getElem? (i := 39) rfl, List.forall_mem_cons.mpr ⟨List.mem_of_getElem? (i := 40) rfl, List.forall_mem_cons.mpr ⟨List.mem_of_getElem? (i := 41) rfl, List.forall_mem_cons.mpr ⟨List.mem_of_getElem? (i := 42) rfl, List.forall_mem_cons.mpr ⟨List.mem_of_getElem? (i := 43) rfl, List.forall_mem_cons.mpr ⟨List.mem_of_getElem? (i := 44) rfl, List.forall_mem_cons.mpr ⟨List.mem_of_getElem? (i := 45) rfl, List.forall_mem_cons.mpr ⟨List.mem_of_getElem? (i := 46) rfl, List.forall_mem_cons.mpr ⟨List.mem_of_getElem? (i := 47) rfl, List.forall_mem_cons.mpr ⟨List.mem_of_getElem? (i := 48) rfl, List.forall_mem_cons.mpr ⟨List.mem_of_getElem? (i := 49) rfl, List.forall_mem_cons.mpr ⟨List.mem_of_getElem? (i := 50) rfl, List.forall_mem_cons.mpr ⟨List.mem_of_getElem? (i := 51) rfl, List.forall_mem_cons.mpr ⟨List.mem_of_getElem? (i := 52) rfl, List.forall_mem_cons.mpr ⟨List.mem_of_getElem? (i := 53) rfl, List.forall_mem_cons.mpr ⟨List.mem_of_getElem? (i := 54) rfl, List.forall_mem_cons.mpr ⟨List.mem_of_getElem? (i := 55) rfl, List.forall_mem_cons.mpr ⟨List.mem_of_getElem? (i := 56) rfl, List.forall_mem_cons.mpr ⟨List.mem_of_getElem? (i := 57) rfl, List.forall_mem_cons.mpr ⟨List.mem_of_getElem? (i := 58) rfl, List.forall_mem_cons.mpr ⟨List.mem_of_getElem? (i := 59) rfl, List.forall_mem_cons.mpr ⟨List.mem_of_getElem? (i := 60) rfl, List.forall_mem_cons.mpr ⟨List.mem_of_getElem? (i := 61) rfl, List.forall_mem_cons.mpr ⟨List.mem_of_getElem? (i := 62) rfl, List.forall_mem_cons.mpr ⟨List.mem_of_getElem? (i := 63) rfl, List.forall_mem_cons.mpr ⟨List.mem_of_getElem? (i := 31) rfl, List.forall_mem_cons.mpr ⟨List.mem_of_getElem? (i := 64) rfl, List.forall_mem_cons.mpr ⟨List.mem_of_getElem? (i := 65) rfl, List.forall_mem_cons.mpr ⟨List.mem_of_getElem? (i := 66) rfl, List.forall_mem_cons.mpr ⟨List.mem_of_getElem? (i := 67) rfl, List.forall_mem_cons.mpr ⟨List.mem_of_getElem? (i := 68) rfl, List.forall_mem_cons.mpr ⟨List.mem_of_getElem? (i := 69) rfl, List.forall_mem_cons.mpr ⟨List.mem_of_getElem? (i := 70) rfl, List.forall_mem_cons.mpr ⟨List.mem_of_getElem? (i := 71) rfl, List.forall_mem_cons.mpr ⟨List.mem_of_getElem? (i := 72) rfl, List.forall_mem_cons.mpr ⟨List.mem_of_getElem? (i := 73) rfl, List.forall_mem_cons.mpr ⟨List.mem_of_getElem? (i := 74) rfl, List.forall_mem_cons.mpr ⟨List.mem_of_getElem? (i := 75) rfl, List.forall_mem_cons.mpr ⟨List.mem_of_getElem? (i := 76) rfl, List.forall_mem_cons.mpr ⟨List.mem_of_getElem? (i := 77) rfl, List.forall_mem_cons.mpr ⟨List.mem_of_getElem? (i := 78) rfl, List.forall_mem_cons.mpr ⟨List.mem_of_getElem? (i := 79) rfl, List.forall_mem_cons.mpr ⟨List.mem_of_getElem? (i := 80) rfl, List.forall_mem_cons.mpr ⟨List.mem_of_getElem? (i := 81) rfl, List.forall_mem_cons.mpr ⟨List.mem_of_getElem? (i := 82) rfl, List.forall_mem_cons.mpr ⟨List.mem_of_getElem? (i := 142) rfl, List.forall_mem_cons.mpr ⟨List.mem_of_getElem? (i := 143) rfl, List.forall_mem_cons.mpr ⟨List.mem_of_getElem? (i := 144) rfl, List.forall_mem_cons.mpr ⟨List.mem_of_getElem? (i := 145) rfl, List.forall_mem_cons.mpr ⟨List.mem_of_getElem? (i := 146) rfl, List.forall_mem_cons.mpr ⟨List.mem_of_getElem? (i := 147) rfl, List.forall_mem_cons.mpr ⟨List.mem_of_getElem? (i := 148) rfl, List.forall_mem_cons.mpr ⟨List.mem_of_getElem? (i := 149) rfl, List.forall_mem_cons.mpr ⟨List.mem_of_getElem? (i := 150) rfl, List.forall_mem_cons.mpr ⟨List.mem_of_getElem? (i := 151) rfl, List.forall_mem_cons.mpr ⟨List.mem_of_getElem? (i := 152) rfl, List.forall_mem_cons.mpr ⟨List.mem_of_getElem? (i := 153) rfl, List.forall_mem_cons.mpr ⟨List.mem_of_getElem? (i := 154) rfl, List.forall_mem_cons.mpr ⟨List.mem_of_getElem? (i := 155) rfl, List.forall_mem_cons.mpr ⟨List.mem_of_getElem? (i := 156) rfl, List.forall_mem_cons.mpr ⟨List.mem_of_getElem? (i := 157) rfl, List.forall_mem_cons.mpr ⟨List.mem_of_getElem? (i := 158) rfl, List.forall_mem_cons.mpr ⟨List.mem_of_getElem? (i := 159) rfl, List.forall_mem_cons.mpr ⟨List.mem_of_getElem? (i := 160) rfl, List.forall_mem_cons.mpr ⟨List.mem_of_getElem? (i := 161) rfl, List.forall_mem_cons.mpr ⟨List.mem_of_getElem? (i := 162) rfl, List.forall_mem_cons.mpr ⟨List.mem_of_getElem? (i := 163) rfl, List.forall_mem_cons.mpr ⟨List.mem_of_getElem? (i := 164) rfl, List.forall_mem_cons.mpr ⟨List.mem_of_getElem? (i := 165) rfl, List.forall_mem_cons.mpr ⟨List.mem_of_getElem? (i := 166) rfl, List.forall_mem_cons.mpr ⟨List.mem_of_getElem? (i := 167) rfl, List.forall_mem_cons.mpr ⟨List.mem_of_getElem? (i := 168) rfl, List.forall_mem_cons.mpr ⟨List.mem_of_getElem? (i := 169) rfl, wk_mn⟩⟩⟩⟩⟩⟩⟩⟩⟩⟩⟩⟩⟩⟩⟩⟩⟩⟩⟩⟩⟩⟩⟩⟩⟩⟩⟩⟩⟩⟩⟩⟩⟩⟩⟩⟩⟩⟩⟩⟩⟩⟩⟩⟩⟩⟩⟩⟩⟩⟩⟩⟩⟩⟩⟩⟩⟩⟩⟩⟩⟩⟩⟩⟩⟩⟩⟩⟩⟩⟩⟩⟩⟩⟩⟩⟩⟩⟩⟩⟩⟩⟩⟩⟩⟩⟩⟩) (by decide +kernel)
set_option maxRecDepth 20000 in
theorem gL_isSo_X3_roomOf : GoodIn wsL_isSo (wsV RL 98 RX3 yX3_roomOf wsX3_roomOf) := goodIn_app (goodIn_sub (List.forall_mem_cons.mpr ⟨List.mem_of_getElem? (i := 34) rfl, List.forall_mem_cons.mpr ⟨List.mem_of_getElem? (i := 35) rfl, List.forall_mem_cons.mpr ⟨List.mem_of_getElem? (i := 36) rfl, List.forall_mem_cons.mpr ⟨List.mem_of_getElem? (i := 9) rfl, wk_mn⟩⟩⟩⟩) (by decide +kernel)) ggL_isSo_X3_roomOf
set_option maxRecDepth 20000 in
theorem ggL_isSo_X3_useOf : GoodIn wsL_isSo wsX3_useOf := goodIn_sub (List.forall_mem_cons.mpr ⟨List.mem_of_getElem? (i := 95) rfl, List.forall_mem_cons.mpr ⟨List.mem_of_getElem? (i := 11) rfl, List.forall_mem_cons.mpr ⟨List.mem_of_getElem? (i := 96) rfl, List.forall_mem_cons.mpr ⟨List.mem_of_getElem? (i := 97) rfl, List.forall_mem_cons.mpr ⟨List.mem_of_getElem? (i := 98) rfl, List.forall_mem_cons.mpr ⟨List.mem_of_getElem? (i := 99) rfl, List.forall_mem_cons.mpr ⟨List.mem_of_getElem? (i := 58) rfl, List.forall_mem_cons.mpr ⟨List.mem_of_getElem? (i := 59) rfl, List.forall_mem_cons.mpr ⟨List.mem_of_getElem? (i := 17) rfl, List.forall_mem_cons.mpr ⟨List.mem_of_getElem? (i := 60) rfl, List.forall_mem_cons.mpr ⟨List.mem_of_getElem? (i := 42) rfl, List.forall_mem_cons.mpr ⟨List.mem_of_getElem? (i := 20) rfl, List.forall_mem_cons.mpr ⟨List.mem_of_getElem? (i := 21) rfl, List.forall_mem_cons.mpr ⟨List.mem_of_getElem? (i := 9) rfl, List.forall_mem_cons.mpr ⟨List.mem_of_getElem? (i := 22) rfl, List.forall_mem_cons.mpr ⟨List.mem_of_getElem? (i := 100) rfl, List.forall_mem_cons.mpr ⟨List.mem_of_getElem? (i := 54) rfl, List.forall_mem_cons.mpr ⟨List.mem_of_getElem? (i := 55) rfl, List.forall_mem_cons.mpr ⟨List.mem_of_getElem? (i := 56) rfl, List.forall_mem_cons.mpr ⟨List.mem_of_getElem? (i := 43) rfl, List.forall_mem_cons.mpr ⟨List.mem_of_getElem? (i := 51) rfl, List.forall_mem_cons.mpr ⟨List.mem_of_getElem? (i := 142) rfl, List.forall_mem_cons.mpr ⟨List.mem_of_getElem? (i := 143) rfl, List.forall_mem_cons.mpr ⟨List.mem_of_getElem? (i := 144) rfl, List.forall_mem_cons.mpr ⟨List.mem_of_getElem? (i := 145) rfl, List.forall_mem_cons.mpr ⟨List.mem_of_getElem? (i := 146) rfl, List.forall_mem_cons.mpr ⟨List.mem_of_getElem? (i := 147) rfl, List.forall_mem_cons.mpr ⟨List.mem_of_getElem? (i := 148) rfl, List.forall_mem_cons.mpr ⟨List.mem_of_getElem? (i := 149) rfl, List.forall_mem_cons.mpr ⟨List.mem_of_getElem? (i := 150) rfl, List.forall_mem_cons.mpr ⟨List.mem_of_getElem? (i := 151) rfl, List.forall_mem_cons.mpr ⟨List.mem_of_getElem? (i := 152) rfl, List.forall_mem_cons.mpr ⟨List.mem_of_getElem? (i := 153) rfl, List.forall_mem_cons.mpr ⟨List.mem_of_getElem? (i := 154) rfl, wk_mn⟩⟩⟩⟩⟩⟩⟩⟩⟩⟩⟩⟩⟩⟩⟩⟩⟩⟩⟩⟩⟩⟩⟩⟩⟩⟩⟩⟩⟩⟩⟩⟩⟩⟩) (by decide +kernel)
set_option maxRecDepth 20000 in
theorem gL_isSo_X3_useOf : GoodIn wsL_isSo (wsV RL 105 RX3 yX3_useOf wsX3_useOf) := goodIn_app (goodIn_sub (List.forall_mem_cons.mpr ⟨List.mem_of_getElem? (i := 92) rfl, List.forall_mem_cons.mpr ⟨List.mem_of_getElem? (i := 93) rfl, List.forall_mem_cons.mpr ⟨List.mem_of_getElem? (i := 94) rfl, List.forall_mem_cons.mpr ⟨List.mem_of_getElem? (i := 9) rfl, wk_mn⟩⟩⟩⟩) (by decide +kernel)) ggL_isSo_X3_useOf
set_option maxRecDepth 20000 in
theorem ggL_isSo_L_first : GoodIn wsL_isSo wsL_first := goodIn_sub (List.forall_mem_cons.mpr ⟨List.mem_of_getElem? (i := 91) rfl, wk_mn⟩) (by decide +kernel)
set_option maxRecDepth 20000 in
theorem gL_isSo_L_first : GoodIn wsL_isSo (va_wsS RL 9 yL_first wsL_first) := goodIn_app (goodIn_sub (List.forall_mem_cons.mpr ⟨List.mem_of_getElem? (i := 89) rfl, List.forall_mem_cons.mpr ⟨List.mem_of_getElem? (i := 90) rfl, List.forall_mem_cons.mpr ⟨List.mem_of_getElem? (i := 4) rfl, wk_mn⟩⟩⟩) (by decide +kernel)) ggL_isSo_L_first
set_option maxRecDepth 20000 in
theorem ggL_isSo_X3_pluggedAt : GoodIn wsL_isSo wsX3_pluggedAt := goodIn_sub (List.forall_mem_cons.mpr ⟨List.mem_of_getElem? (i := 104) rfl, List.forall_mem_cons.mpr ⟨List.mem_of_getElem? (i := 11) rfl, List.forall_mem_cons.mpr ⟨List.mem_of_getElem? (i := 20) rfl, List.forall_mem_cons.mpr ⟨List.mem_of_getElem? (i := 21) rfl, List.forall_mem_cons.mpr ⟨List.mem_of_getElem? (i := 9) rfl, List.forall_mem_cons.mpr ⟨List.mem_of_getElem? (i := 22) rfl, List.forall_mem_cons.mpr ⟨List.mem_of_getElem? (i := 105) rfl, List.forall_mem_cons.mpr ⟨List.mem_of_getElem? (i := 106) rfl, List.forall_mem_cons.mpr ⟨List.mem_of_getElem? (i := 107) rfl, List.forall_mem_cons.mpr ⟨List.mem_of_getElem? (i := 17) rfl, List.forall_mem_cons.mpr ⟨List.mem_of_getElem? (i := 108) rfl, List.forall_mem_cons.mpr ⟨List.mem_of_getElem? (i := 19) rfl, List.forall_mem_cons.mpr ⟨List.mem_of_getElem? (i := 48) rfl, List.forall_mem_cons.mpr ⟨List.mem_of_getElem? (i := 109) rfl, List.forall_mem_cons.mpr ⟨List.mem_of_getElem? (i := 142) rfl, List.forall_mem_cons.mpr ⟨List.mem_of_getElem? (i := 143) rfl, List.forall_mem_cons.mpr ⟨List.mem_of_getElem? (i := 144) rfl, List.forall_mem_cons.mpr ⟨List.mem_of_getElem? (i := 145) rfl, List.forall_mem_cons.mpr ⟨List.mem_of_getElem? (i := 146) rfl, List.forall_mem_cons.mpr ⟨List.mem_of_getElem? (i := 147) rfl, List.forall_mem_cons.mpr ⟨List.mem_of_getElem? (i := 148) rfl, List.forall_mem_cons.mpr ⟨List.mem_of_getElem? (i := 149) rfl, List.forall_mem_cons.mpr ⟨List.mem_of_getElem? (i := 150) rfl, List.forall_mem_cons.mpr ⟨List.mem_of_getElem? (i := 151) rfl, List.forall_mem_cons.mpr ⟨List.mem_of_getElem? (i := 152) rfl, List.forall_mem_cons.mpr ⟨List.mem_of_getElem? (i := 153) rfl, List.forall_mem_cons.mpr ⟨List.mem_of_getElem? (i := 154) rfl, List.forall_mem_cons.mpr ⟨List.mem_of_getElem? (i := 155) rfl, List.forall_mem_cons.mpr ⟨List.mem_of_getElem? (i := 156) rfl, List.forall_mem_cons.mpr ⟨List.mem_of_getElem? (i := 157) rfl, List.forall_mem_cons.mpr ⟨List.mem_of_getElem? (i := 158) rfl, List.forall_mem_cons.mpr ⟨List.mem_of_getElem? (i := 159) rfl, List.forall_mem_cons.mpr ⟨List.mem_of_getElem? (i := 160) rfl, List.forall_mem_cons.mpr ⟨List.mem_of_getElem? (i := 161) rfl, List.forall_mem_cons.mpr ⟨List.mem_of_getElem? (i := 162) rfl, List.forall_mem_cons.mpr ⟨List.mem_of_getElem? (i := 163) rfl, List.forall_mem_cons.mpr ⟨List.mem_of_getElem? (i := 164) rfl, List.forall_mem_cons.mpr ⟨List.mem_of_getElem? (i := 165) rfl, List.forall_mem_cons.mpr ⟨List.mem_of_getElem? (i := 166) rfl, List.forall_mem_cons.mpr ⟨List.mem_of_getElem? (i := 167) rfl, List.forall_mem_cons.mpr ⟨List.mem_of_getElem? (i := 168) rfl, List.forall_mem_cons.mpr ⟨List.mem_of_getElem? (i := 169) rfl, wk_mn⟩⟩⟩⟩⟩⟩⟩⟩⟩⟩⟩⟩⟩⟩⟩⟩⟩⟩⟩⟩⟩⟩⟩⟩⟩⟩⟩⟩⟩⟩⟩⟩⟩⟩⟩⟩⟩⟩⟩⟩⟩⟩) (by decide +kernel)
set_option maxRecDepth 20000 in
theorem gL_isSo_X3_pluggedAt : GoodIn wsL_isSo (wsV RL 108 RX3 yX3_pluggedAt wsX3_pluggedAt) := goodIn_app (goodIn_sub (List.forall_mem_cons.mpr ⟨List.mem_of_getElem? (i := 101) rfl, List.forall_mem_cons.mpr ⟨List.mem_of_getElem? (i := 102) rfl, List.forall_mem_cons.mpr ⟨List.mem_of_getElem? (i := 103) rfl, List.forall_mem_cons.mpr ⟨List.mem_of_getElem? (i := 9) rfl, wk_mn⟩⟩⟩⟩) (by decide +kernel)) ggL_isSo_X3_pluggedAt
set_option maxRecDepth 20000 in
theorem ggL_isSo_X3_count : GoodIn wsL_isSo wsX3_count := goodIn_sub (List.forall_mem_cons.mpr ⟨List.mem_of_getElem? (i := 113) rfl, List.forall_mem_cons.mpr ⟨List.mem_of_getElem? (i := 114) rfl, List.forall_mem_cons.mpr ⟨List.mem_of_getElem? (i := 115) rfl, List.forall_mem_cons.mpr ⟨List.mem_of_getElem? (i := 116) rfl, List.forall_mem_cons.mpr ⟨List.mem_of_getElem? (i := 11) rfl, List.forall_mem_cons.mpr ⟨List.mem_of_getElem? (i := 117) rfl, List.forall_mem_cons.mpr ⟨List.mem_of_getElem? (i := 20) rfl, List.forall_mem_cons.mpr ⟨List.mem_of_getElem? (i := 21) rfl, List.forall_mem_cons.mpr ⟨List.mem_of_getElem? (i := 9) rfl, List.forall_mem_cons.mpr ⟨List.mem_of_getElem? (i := 22) rfl, List.forall_mem_cons.mpr ⟨List.mem_of_getElem? (i := 118) rfl, List.forall_mem_cons.mpr ⟨List.mem_of_getElem? (i := 119) rfl, List.forall_mem_cons.mpr ⟨List.mem_of_getElem? (i := 120) rfl, List.forall_mem_cons.mpr ⟨List.mem_of_getElem? (i := 17) rfl, List.forall_mem_cons.mpr ⟨List.mem_of_getElem? (i := 121) rfl, List.forall_mem_cons.mpr ⟨List.mem_of_getElem? (i := 19) rfl, List.forall_mem_cons.mpr ⟨List.mem_of_getElem? (i := 42) rfl, List.forall_mem_cons.mpr ⟨List.mem_of_getElem? (i := 52) rfl, List.forall_mem_cons.mpr ⟨List.mem_of_getElem? (i := 122) rfl, List.forall_mem_cons.mpr ⟨List.mem_of_getElem? (i := 123) rfl, List.forall_mem_cons.mpr ⟨List.mem_of_getElem? (i := 124) rfl, List.forall_mem_cons.mpr ⟨List.mem_of_getElem? (i := 125) rfl, List.forall_mem_cons.mpr ⟨List.mem_of_getElem? (i := 48) rfl, List.forall_mem_cons.mpr ⟨List.mem_of_getElem? (i := 126) rfl, List.forall_mem_cons.mpr ⟨List.mem_of_getElem? (i := 127) rfl, List.forall_mem_cons.mpr ⟨List.mem_of_getElem? (i := 128) rfl, List.forall_mem_cons.mpr ⟨List.mem_of_getElem? (i := 129) rfl, List.forall_mem_cons.mpr ⟨List.mem_of_getElem? (i := 130) rfl, List.forall_mem_cons.mpr ⟨List.mem_of_getElem? (i := 131) rfl, List.forall_mem_cons.mpr ⟨List.mem_of_getElem? (i := 29) rfl, List.forall_mem_cons.mpr ⟨List.mem_of_getElem? (i := 30) rfl, List.forall_mem_cons.mpr ⟨List.mem_of_getElem? (i := 31) rfl, List.forall_mem_cons.mpr ⟨List.mem_of_getElem? (i := 32) rfl, List.forall_mem_cons.mpr ⟨List.mem_of_getElem? (i := 33) rfl, List.forall_mem_cons.mpr ⟨List.mem_of_getElem? (i := 132) rfl, List.forall_mem_cons.mpr ⟨List.mem_of_getElem? (i := 133) rfl, List.forall_mem_cons.mpr ⟨List.mem_of_getElem? (i := 134) rfl, List.forall_mem_cons.mpr ⟨List.mem_of_getElem? (i := 135) rfl, List.forall_mem_cons.mpr ⟨List.mem_of_getElem? (i := 136) rfl, List.forall_mem_cons.mpr ⟨List.mem_of_getElem? (i := 137) rfl, List.forall_mem_cons.mpr ⟨List.mem_of_getElem? (i := 138) rfl, List.forall_mem_cons.mpr ⟨List.mem_of_getElem? (i := 139) rfl, List.forall_mem_cons.mpr ⟨List.mem_of_getElem? (i := 140) rfl, List.forall_mem_cons.mpr ⟨List.mem_of_getElem? (i := 141) rfl, List.forall_mem_cons.mpr ⟨List.mem_of_getElem? (i := 142) rfl, List.forall_mem_cons.mpr ⟨List.mem_of_getElem? (i := 143) rfl, List.forall_mem_cons.mpr ⟨List.mem_of_getElem? (i := 144) rfl, List.forall_mem_cons.mpr ⟨List.mem_of_getElem? (i := 145) rfl, List.forall_mem_cons.mpr ⟨List.mem_of_getElem? (i := 146) rfl, List.forall_mem_cons.mpr ⟨List.mem_of_getElem? (i := 170) rfl, List.forall_mem_cons.mpr ⟨List.mem_of_getElem? (i := 171) rfl, List.forall_mem_cons.mpr ⟨List.mem_of_getElem? (i := 172) rfl, List.forall_mem_cons.mpr ⟨List.mem_of_getElem? (i := 173) rfl, List.forall_mem_cons.mpr ⟨List.mem_of_getElem? (i := 174) rfl, List.forall_mem_cons.mpr ⟨List.mem_of_getElem? (i := 175) rfl, List.forall_mem_cons.mpr ⟨List.mem_of_getElem? (i := 176) rfl, List.forall_mem_cons.mpr ⟨List.mem_of_getElem? (i := 177) rfl, List.forall_mem_cons.mpr ⟨List.mem_of_getElem? (i := 178) rfl, List.forall_mem_cons.mpr ⟨List.mem_of_getElem? (i := 147) rfl, List.forall_mem_cons.mpr ⟨List.mem_of_getElem? (i := 148) rfl, List.forall_mem_cons.mpr ⟨List.mem_of_getElem? (i := 149) rfl, List.forall_mem_cons.mpr ⟨List.mem_of_getElem? (i := 150) rfl, List.forall_mem_cons.mpr ⟨List.mem_of_getElem? (i := 151) rfl, List.forall_mem_cons.mpr ⟨List.mem_of_getElem? (i := 152) rfl, List.forall_mem_cons.mpr ⟨List.mem_of_getElem? (i := 153) rfl, List.forall_mem_cons.mpr ⟨List.mem_of_getElem? (i := 154) rfl, List.forall_mem_cons.mpr ⟨List.mem_of_getElem? (i := 155) rfl, List.forall_mem_cons.mpr ⟨List.mem_of_getElem? (i := 156) rfl, List.forall_mem_cons.mpr ⟨List.mem_of_getElem? (i := 157) rfl, List.forall_mem_cons.mpr ⟨List.mem_of_getElem? (i := 158) rfl, List.forall_mem_cons.mpr ⟨List.mem_of_getElem? (i := 159) rfl, List.forall_mem_cons.mpr ⟨List.mem_of_getElem? (i := 160) rfl, List.forall_mem_cons.mpr ⟨List.mem_of_getElem? (i := 161) rfl, List.forall_mem_cons.mpr ⟨List.mem_of_getElem? (i := 162) rfl, List.forall_mem_cons.mpr ⟨List.mem_of_getElem? (i := 163) rfl, List.forall_mem_cons.mpr ⟨List.mem_of_getElem? (i := 164) rfl, List.forall_mem_cons.mpr ⟨List.mem_of_getElem? (i := 165) rfl, List.forall_mem_cons.mpr ⟨List.mem_of_getElem? (i := 166) rfl, List.forall_mem_cons.mpr ⟨List.mem_of_getElem? (i := 167) rfl, List.forall_mem_cons.mpr ⟨List.mem_of_getElem? (i := 168) rfl, List.forall_mem_cons.mpr ⟨List.mem_of_getElem? (i := 169) rfl, wk_mn⟩⟩⟩⟩⟩⟩⟩⟩⟩⟩⟩⟩⟩⟩⟩⟩⟩⟩⟩⟩⟩⟩⟩⟩⟩⟩⟩⟩⟩⟩⟩⟩⟩⟩⟩⟩⟩⟩⟩⟩⟩⟩⟩⟩⟩⟩⟩⟩⟩⟩⟩⟩⟩⟩⟩⟩⟩⟩⟩⟩⟩⟩⟩⟩⟩⟩⟩⟩⟩⟩⟩⟩⟩⟩⟩⟩⟩⟩⟩⟩⟩) (by decide +kernel)
set_option maxRecDepth 20000 in
theorem gL_isSo_X3_count : GoodIn wsL_isSo (wsV RL 111 RX3 yX3_count wsX3_count) := goodIn_app (goodIn_sub (List.forall_mem_cons.mpr ⟨List.mem_of_getElem? (i := 110) rfl, List.forall_mem_cons.mpr ⟨List.mem_of_getElem? (i := 111) rfl, List.forall_mem_cons.mpr ⟨List.mem_of_getElem? (i := 112) rfl, List.forall_mem_cons.mpr ⟨List.mem_of_getElem? (i := 9) rfl, wk_mn⟩⟩⟩⟩) (by decide +kernel)) ggL_isSo_X3_count
theorem dL_isSo_0 : decode cL_isSo 0 = .ok (.iconst 4, 1) := by decide +kernel
theorem dL_isSo_1 : decode cL_isSo 1 = .ok (.newarray .int, 2) := by decide +kernel
theorem dL_isSo_3 : decode cL_isSo 3 = .ok (.astore 6, 2) := by decide +kernel
theorem dL_isSo_5 : decode cL_isSo 5 = .ok (.iconst 0, 1) := by decide +kernel
theorem dL_isSo_6 : decode cL_isSo 6 = .ok (.istore 7, 2) := by decide +kernel
theorem dL_isSo_8 : decode cL_isSo 8 = .ok (.iconst 0, 1) := by decide +kernel
theorem dL_isSo_9 : decode cL_isSo 9 = .ok (.istore 8, 2) := by decide +kernel
theorem dL_isSo_11 : decode cL_isSo 11 = .ok (.iconst 0, 1) := by decide +kernel
theorem dL_isSo_12 : decode cL_isSo 12 = .ok (.istore 9, 2) := by decide +kernel
theorem dL_isSo_14 : decode cL_isSo 14 = .ok (.iconst 1, 1) := by decide +kernel
theorem dL_isSo_15 : decode cL_isSo 15 = .ok (.istore 10, 2) := by decide +kernel
theorem dL_isSo_17 : decode cL_isSo 17 = .ok (.iconst 0, 1) := by decide +kernel
theorem dL_isSo_18 : decode cL_isSo 18 = .ok (.istore 11, 2) := by decide +kernel
theorem dL_isSo_20 : decode cL_isSo 20 = .ok (.iload 11, 2) := by decide +kernel
theorem dL_isSo_22 : decode cL_isSo 22 = .ok (.aload_n 1, 1) := by decide +kernel
theorem dL_isSo_23 : decode cL_isSo 23 = .ok (.iconst 0, 1) := by decide +kernel
theorem dL_isSo_24 : decode cL_isSo 24 = .ok (.iaload, 1) := by decide +kernel
theorem dL_isSo_25 : decode cL_isSo 25 = .ok (.if_icmp .ge 143, 3) := by decide +kernel
theorem dL_isSo_28 : decode cL_isSo 28 = .ok (.iload 10, 2) := by decide +kernel
theorem dL_isSo_30 : decode cL_isSo 30 = .ok (.ifCond .eq 138, 3) := by decide +kernel
theorem dL_isSo_33 : decode cL_isSo 33 = .ok (.aload 6, 2) := by decide +kernel
theorem dL_isSo_35 : decode cL_isSo 35 = .ok (.aload_n 3, 1) := by decide +kernel
theorem dL_isSo_36 : decode cL_isSo 36 = .ok (.bipush 8, 2) := by decide +kernel
theorem dL_isSo_38 : decode cL_isSo 38 = .ok (.iload 11, 2) := by decide +kernel
theorem dL_isSo_40 : decode cL_isSo 40 = .ok (.imul, 1) := by decide +kernel
theorem dL_isSo_41 : decode cL_isSo 41 = .ok (.iaload, 1) := by decide +kernel
theorem dL_isSo_42 : decode cL_isSo 42 = .ok (.dup2, 1) := by decide +kernel
theorem dL_isSo_43 : decode cL_isSo 43 = .ok (.iaload, 1) := by decide +kernel
theorem dL_isSo_44 : decode cL_isSo 44 = .ok (.iconst 1, 1) := by decide +kernel
theorem dL_isSo_45 : decode cL_isSo 45 = .ok (.iadd, 1) := by decide +kernel
theorem dL_isSo_46 : decode cL_isSo 46 = .ok (.iastore, 1) := by decide +kernel
theorem dL_isSo_47 : decode cL_isSo 47 = .ok (.iload 7, 2) := by decide +kernel
theorem dL_isSo_49 : decode cL_isSo 49 = .ok (.aload 4, 2) := by decide +kernel
theorem dL_isSo_51 : decode cL_isSo 51 = .ok (.iconst 4, 1) := by decide +kernel
theorem dL_isSo_52 : decode cL_isSo 52 = .ok (.iload 11, 2) := by decide +kernel
theorem dL_isSo_54 : decode cL_isSo 54 = .ok (.imul, 1) := by decide +kernel
theorem dL_isSo_55 : decode cL_isSo 55 = .ok (.iaload, 1) := by decide +kernel
theorem dL_isSo_56 : decode cL_isSo 56 = .ok (.aload 4, 2) := by decide +kernel
theorem dL_isSo_58 : decode cL_isSo 58 = .ok (.iconst 4, 1) := by decide +kernel
theorem dL_isSo_59 : decode cL_isSo 59 = .ok (.iload 11, 2) := by decide +kernel
theorem dL_isSo_61 : decode cL_isSo 61 = .ok (.imul, 1) := by decide +kernel
theorem dL_isSo_62 : decode cL_isSo 62 = .ok (.iconst 1, 1) := by decide +kernel
theorem dL_isSo_63 : decode cL_isSo 63 = .ok (.iadd, 1) := by decide +kernel
theorem dL_isSo_64 : decode cL_isSo 64 = .ok (.iaload, 1) := by decide +kernel
theorem dL_isSo_65 : decode cL_isSo 65 = .ok (.iadd, 1) := by decide +kernel
theorem dL_isSo_66 : decode cL_isSo 66 = .ok (.aload 4, 2) := by decide +kernel
theorem dL_isSo_68 : decode cL_isSo 68 = .ok (.iconst 4, 1) := by decide +kernel
theorem dL_isSo_69 : decode cL_isSo 69 = .ok (.iload 11, 2) := by decide +kernel
theorem dL_isSo_71 : decode cL_isSo 71 = .ok (.imul, 1) := by decide +kernel
theorem dL_isSo_72 : decode cL_isSo 72 = .ok (.iconst 2, 1) := by decide +kernel
theorem dL_isSo_73 : decode cL_isSo 73 = .ok (.iadd, 1) := by decide +kernel
theorem dL_isSo_74 : decode cL_isSo 74 = .ok (.iaload, 1) := by decide +kernel
theorem dL_isSo_75 : decode cL_isSo 75 = .ok (.iadd, 1) := by decide +kernel
theorem dL_isSo_76 : decode cL_isSo 76 = .ok (.aload 4, 2) := by decide +kernel
theorem dL_isSo_78 : decode cL_isSo 78 = .ok (.iconst 4, 1) := by decide +kernel
theorem dL_isSo_79 : decode cL_isSo 79 = .ok (.iload 11, 2) := by decide +kernel
end
section
theorem dL_isSo_81 : decode cL_isSo 81 = .ok (.imul, 1) := by decide +kernel
theorem dL_isSo_82 : decode cL_isSo 82 = .ok (.iconst 3, 1) := by decide +kernel
theorem dL_isSo_83 : decode cL_isSo 83 = .ok (.iadd, 1) := by decide +kernel
theorem dL_isSo_84 : decode cL_isSo 84 = .ok (.iaload, 1) := by decide +kernel
theorem dL_isSo_85 : decode cL_isSo 85 = .ok (.iadd, 1) := by decide +kernel
theorem dL_isSo_86 : decode cL_isSo 86 = .ok (.iadd, 1) := by decide +kernel
theorem dL_isSo_87 : decode cL_isSo 87 = .ok (.istore 7, 2) := by decide +kernel
theorem dL_isSo_89 : decode cL_isSo 89 = .ok (.iload 8, 2) := by decide +kernel
theorem dL_isSo_91 : decode cL_isSo 91 = .ok (.aload_n 3, 1) := by decide +kernel
theorem dL_isSo_92 : decode cL_isSo 92 = .ok (.bipush 8, 2) := by decide +kernel
theorem dL_isSo_94 : decode cL_isSo 94 = .ok (.iload 11, 2) := by decide +kernel
theorem dL_isSo_96 : decode cL_isSo 96 = .ok (.imul, 1) := by decide +kernel
theorem dL_isSo_97 : decode cL_isSo 97 = .ok (.iconst 5, 1) := by decide +kernel
theorem dL_isSo_98 : decode cL_isSo 98 = .ok (.iadd, 1) := by decide +kernel
theorem dL_isSo_99 : decode cL_isSo 99 = .ok (.iaload, 1) := by decide +kernel
theorem dL_isSo_100 : decode cL_isSo 100 = .ok (.iadd, 1) := by decide +kernel
theorem dL_isSo_101 : decode cL_isSo 101 = .ok (.istore 8, 2) := by decide +kernel
theorem dL_isSo_103 : decode cL_isSo 103 = .ok (.iload 9, 2) := by decide +kernel
theorem dL_isSo_105 : decode cL_isSo 105 = .ok (.aload_n 3, 1) := by decide +kernel
theorem dL_isSo_106 : decode cL_isSo 106 = .ok (.bipush 8, 2) := by decide +kernel
theorem dL_isSo_108 : decode cL_isSo 108 = .ok (.iload 11, 2) := by decide +kernel
theorem dL_isSo_110 : decode cL_isSo 110 = .ok (.imul, 1) := by decide +kernel
theorem dL_isSo_111 : decode cL_isSo 111 = .ok (.bipush 6, 2) := by decide +kernel
theorem dL_isSo_113 : decode cL_isSo 113 = .ok (.iadd, 1) := by decide +kernel
theorem dL_isSo_114 : decode cL_isSo 114 = .ok (.iaload, 1) := by decide +kernel
theorem dL_isSo_115 : decode cL_isSo 115 = .ok (.iadd, 1) := by decide +kernel
theorem dL_isSo_116 : decode cL_isSo 116 = .ok (.istore 9, 2) := by decide +kernel
theorem dL_isSo_118 : decode cL_isSo 118 = .ok (.aload_n 0, 1) := by decide +kernel
theorem dL_isSo_119 : decode cL_isSo 119 = .ok (.aload_n 1, 1) := by decide +kernel
theorem dL_isSo_120 : decode cL_isSo 120 = .ok (.aload_n 2, 1) := by decide +kernel
theorem dL_isSo_121 : decode cL_isSo 121 = .ok (.aload_n 3, 1) := by decide +kernel
theorem dL_isSo_122 : decode cL_isSo 122 = .ok (.aload 4, 2) := by decide +kernel
theorem dL_isSo_124 : decode cL_isSo 124 = .ok (.aload 5, 2) := by decide +kernel
theorem dL_isSo_126 : decode cL_isSo 126 = .ok (.iload 11, 2) := by decide +kernel
theorem dL_isSo_128 : decode cL_isSo 128 = .ok (.invokestatic 101, 3) := by decide +kernel
theorem dL_isSo_131 : decode cL_isSo 131 = .ok (.ifCond .eq 28, 3) := by decide +kernel
theorem dL_isSo_134 : decode cL_isSo 134 = .ok (.aload_n 0, 1) := by decide +kernel
theorem dL_isSo_135 : decode cL_isSo 135 = .ok (.iload 11, 2) := by decide +kernel
theorem dL_isSo_137 : decode cL_isSo 137 = .ok (.iconst 1, 1) := by decide +kernel
theorem dL_isSo_138 : decode cL_isSo 138 = .ok (.invokevirtual 98, 3) := by decide +kernel
theorem dL_isSo_141 : decode cL_isSo 141 = .ok (.ifCond .eq 14, 3) := by decide +kernel
theorem dL_isSo_144 : decode cL_isSo 144 = .ok (.aload_n 0, 1) := by decide +kernel
theorem dL_isSo_145 : decode cL_isSo 145 = .ok (.iload 11, 2) := by decide +kernel
theorem dL_isSo_147 : decode cL_isSo 147 = .ok (.bipush 11, 2) := by decide +kernel
theorem dL_isSo_149 : decode cL_isSo 149 = .ok (.invokevirtual 98, 3) := by decide +kernel
theorem dL_isSo_152 : decode cL_isSo 152 = .ok (.ifCond .le 7, 3) := by decide +kernel
theorem dL_isSo_155 : decode cL_isSo 155 = .ok (.iconst 1, 1) := by decide +kernel
theorem dL_isSo_156 : decode cL_isSo 156 = .ok (.goto 4, 3) := by decide +kernel
theorem dL_isSo_159 : decode cL_isSo 159 = .ok (.iconst 0, 1) := by decide +kernel
theorem dL_isSo_160 : decode cL_isSo 160 = .ok (.istore 10, 2) := by decide +kernel
theorem dL_isSo_162 : decode cL_isSo 162 = .ok (.iinc 11 1, 3) := by decide +kernel
theorem dL_isSo_165 : decode cL_isSo 165 = .ok (.goto (-145), 3) := by decide +kernel
theorem dL_isSo_168 : decode cL_isSo 168 = .ok (.iconst 0, 1) := by decide +kernel
theorem dL_isSo_169 : decode cL_isSo 169 = .ok (.istore 11, 2) := by decide +kernel
theorem dL_isSo_171 : decode cL_isSo 171 = .ok (.iload 11, 2) := by decide +kernel
theorem dL_isSo_173 : decode cL_isSo 173 = .ok (.aload_n 1, 1) := by decide +kernel
theorem dL_isSo_174 : decode cL_isSo 174 = .ok (.iconst 1, 1) := by decide +kernel
theorem dL_isSo_175 : decode cL_isSo 175 = .ok (.iaload, 1) := by decide +kernel
theorem dL_isSo_176 : decode cL_isSo 176 = .ok (.if_icmp .ge 120, 3) := by decide +kernel
theorem dL_isSo_179 : decode cL_isSo 179 = .ok (.iload 10, 2) := by decide +kernel
theorem dL_isSo_181 : decode cL_isSo 181 = .ok (.ifCond .eq 115, 3) := by decide +kernel
theorem dL_isSo_184 : decode cL_isSo 184 = .ok (.aload_n 0, 1) := by decide +kernel
theorem dL_isSo_185 : decode cL_isSo 185 = .ok (.iload 11, 2) := by decide +kernel
theorem dL_isSo_187 : decode cL_isSo 187 = .ok (.iconst 0, 1) := by decide +kernel
theorem dL_isSo_188 : decode cL_isSo 188 = .ok (.invokevirtual 105, 3) := by decide +kernel
theorem dL_isSo_191 : decode cL_isSo 191 = .ok (.aload 5, 2) := by decide +kernel
theorem dL_isSo_193 : decode cL_isSo 193 = .ok (.iconst 3, 1) := by decide +kernel
theorem dL_isSo_194 : decode cL_isSo 194 = .ok (.iload 11, 2) := by decide +kernel
theorem dL_isSo_196 : decode cL_isSo 196 = .ok (.imul, 1) := by decide +kernel
theorem dL_isSo_197 : decode cL_isSo 197 = .ok (.iaload, 1) := by decide +kernel
theorem dL_isSo_198 : decode cL_isSo 198 = .ok (.if_icmp .ne 89, 3) := by decide +kernel
theorem dL_isSo_201 : decode cL_isSo 201 = .ok (.aload_n 0, 1) := by decide +kernel
theorem dL_isSo_202 : decode cL_isSo 202 = .ok (.iload 11, 2) := by decide +kernel
theorem dL_isSo_204 : decode cL_isSo 204 = .ok (.iconst 1, 1) := by decide +kernel
theorem dL_isSo_205 : decode cL_isSo 205 = .ok (.invokevirtual 105, 3) := by decide +kernel
theorem dL_isSo_208 : decode cL_isSo 208 = .ok (.aload 5, 2) := by decide +kernel
theorem dL_isSo_210 : decode cL_isSo 210 = .ok (.iconst 3, 1) := by decide +kernel
theorem dL_isSo_211 : decode cL_isSo 211 = .ok (.iload 11, 2) := by decide +kernel
theorem dL_isSo_213 : decode cL_isSo 213 = .ok (.imul, 1) := by decide +kernel
theorem dL_isSo_214 : decode cL_isSo 214 = .ok (.iconst 1, 1) := by decide +kernel
theorem dL_isSo_215 : decode cL_isSo 215 = .ok (.iadd, 1) := by decide +kernel
theorem dL_isSo_216 : decode cL_isSo 216 = .ok (.iaload, 1) := by decide +kernel
theorem dL_isSo_217 : decode cL_isSo 217 = .ok (.if_icmp .ne 70, 3) := by decide +kernel
theorem dL_isSo_220 : decode cL_isSo 220 = .ok (.aload_n 0, 1) := by decide +kernel
theorem dL_isSo_221 : decode cL_isSo 221 = .ok (.iload 11, 2) := by decide +kernel
theorem dL_isSo_223 : decode cL_isSo 223 = .ok (.iconst 2, 1) := by decide +kernel
theorem dL_isSo_224 : decode cL_isSo 224 = .ok (.invokevirtual 105, 3) := by decide +kernel
theorem dL_isSo_227 : decode cL_isSo 227 = .ok (.aload 5, 2) := by decide +kernel
theorem dL_isSo_229 : decode cL_isSo 229 = .ok (.iconst 3, 1) := by decide +kernel
theorem dL_isSo_230 : decode cL_isSo 230 = .ok (.iload 11, 2) := by decide +kernel
theorem dL_isSo_232 : decode cL_isSo 232 = .ok (.imul, 1) := by decide +kernel
theorem dL_isSo_233 : decode cL_isSo 233 = .ok (.iconst 2, 1) := by decide +kernel
theorem dL_isSo_234 : decode cL_isSo 234 = .ok (.iadd, 1) := by decide +kernel
theorem dL_isSo_235 : decode cL_isSo 235 = .ok (.iaload, 1) := by decide +kernel
theorem dL_isSo_236 : decode cL_isSo 236 = .ok (.if_icmp .ne 51, 3) := by decide +kernel
theorem dL_isSo_239 : decode cL_isSo 239 = .ok (.aload_n 0, 1) := by decide +kernel
theorem dL_isSo_240 : decode cL_isSo 240 = .ok (.iload 11, 2) := by decide +kernel
theorem dL_isSo_242 : decode cL_isSo 242 = .ok (.iconst 3, 1) := by decide +kernel
theorem dL_isSo_243 : decode cL_isSo 243 = .ok (.invokevirtual 105, 3) := by decide +kernel
theorem dL_isSo_246 : decode cL_isSo 246 = .ok (.aload_n 1, 1) := by decide +kernel
theorem dL_isSo_247 : decode cL_isSo 247 = .ok (.aload 5, 2) := by decide +kernel
theorem dL_isSo_249 : decode cL_isSo 249 = .ok (.aload 5, 2) := by decide +kernel
theorem dL_isSo_251 : decode cL_isSo 251 = .ok (.iconst 3, 1) := by decide +kernel
theorem dL_isSo_252 : decode cL_isSo 252 = .ok (.iload 11, 2) := by decide +kernel
theorem dL_isSo_254 : decode cL_isSo 254 = .ok (.imul, 1) := by decide +kernel
theorem dL_isSo_255 : decode cL_isSo 255 = .ok (.iaload, 1) := by decide +kernel
theorem dL_isSo_256 : decode cL_isSo 256 = .ok (.invokestatic 9, 3) := by decide +kernel
theorem dL_isSo_259 : decode cL_isSo 259 = .ok (.iload 11, 2) := by decide +kernel
theorem dL_isSo_261 : decode cL_isSo 261 = .ok (.if_icmp .ne 7, 3) := by decide +kernel
theorem dL_isSo_264 : decode cL_isSo 264 = .ok (.iconst 1, 1) := by decide +kernel
theorem dL_isSo_265 : decode cL_isSo 265 = .ok (.goto 4, 3) := by decide +kernel
theorem dL_isSo_268 : decode cL_isSo 268 = .ok (.iconst 0, 1) := by decide +kernel
theorem dL_isSo_269 : decode cL_isSo 269 = .ok (.if_icmp .ne 18, 3) := by decide +kernel
theorem dL_isSo_272 : decode cL_isSo 272 = .ok (.aload_n 0, 1) := by decide +kernel
theorem dL_isSo_273 : decode cL_isSo 273 = .ok (.iload 11, 2) := by decide +kernel
theorem dL_isSo_275 : decode cL_isSo 275 = .ok (.iconst 4, 1) := by decide +kernel
theorem dL_isSo_276 : decode cL_isSo 276 = .ok (.invokevirtual 105, 3) := by decide +kernel
theorem dL_isSo_279 : decode cL_isSo 279 = .ok (.iconst (-1), 1) := by decide +kernel
theorem dL_isSo_280 : decode cL_isSo 280 = .ok (.if_icmp .ne 7, 3) := by decide +kernel
theorem dL_isSo_283 : decode cL_isSo 283 = .ok (.iconst 1, 1) := by decide +kernel
theorem dL_isSo_284 : decode cL_isSo 284 = .ok (.goto 4, 3) := by decide +kernel
theorem dL_isSo_287 : decode cL_isSo 287 = .ok (.iconst 0, 1) := by decide +kernel
theorem dL_isSo_288 : decode cL_isSo 288 = .ok (.istore 10, 2) := by decide +kernel
theorem dL_isSo_290 : decode cL_isSo 290 = .ok (.iinc 11 1, 3) := by decide +kernel
theorem dL_isSo_293 : decode cL_isSo 293 = .ok (.goto (-122), 3) := by decide +kernel
theorem dL_isSo_296 : decode cL_isSo 296 = .ok (.iconst 0, 1) := by decide +kernel
theorem dL_isSo_297 : decode cL_isSo 297 = .ok (.istore 11, 2) := by decide +kernel
theorem dL_isSo_299 : decode cL_isSo 299 = .ok (.iload 11, 2) := by decide +kernel
theorem dL_isSo_301 : decode cL_isSo 301 = .ok (.iconst 2, 1) := by decide +kernel
theorem dL_isSo_302 : decode cL_isSo 302 = .ok (.if_icmp .ge 135, 3) := by decide +kernel
theorem dL_isSo_305 : decode cL_isSo 305 = .ok (.iload 10, 2) := by decide +kernel
theorem dL_isSo_307 : decode cL_isSo 307 = .ok (.ifCond .eq 130, 3) := by decide +kernel
theorem dL_isSo_310 : decode cL_isSo 310 = .ok (.iconst 0, 1) := by decide +kernel
theorem dL_isSo_311 : decode cL_isSo 311 = .ok (.istore 12, 2) := by decide +kernel
theorem dL_isSo_313 : decode cL_isSo 313 = .ok (.iconst 0, 1) := by decide +kernel
theorem dL_isSo_314 : decode cL_isSo 314 = .ok (.istore 13, 2) := by decide +kernel
theorem dL_isSo_316 : decode cL_isSo 316 = .ok (.iload 13, 2) := by decide +kernel
theorem dL_isSo_318 : decode cL_isSo 318 = .ok (.aload_n 1, 1) := by decide +kernel
theorem dL_isSo_319 : decode cL_isSo 319 = .ok (.iconst 0, 1) := by decide +kernel
theorem dL_isSo_320 : decode cL_isSo 320 = .ok (.iaload, 1) := by decide +kernel
theorem dL_isSo_321 : decode cL_isSo 321 = .ok (.if_icmp .ge 74, 3) := by decide +kernel
theorem dL_isSo_324 : decode cL_isSo 324 = .ok (.iload 10, 2) := by decide +kernel
theorem dL_isSo_326 : decode cL_isSo 326 = .ok (.ifCond .eq 69, 3) := by decide +kernel
theorem dL_isSo_329 : decode cL_isSo 329 = .ok (.aload_n 2, 1) := by decide +kernel
theorem dL_isSo_330 : decode cL_isSo 330 = .ok (.bipush 8, 2) := by decide +kernel
theorem dL_isSo_332 : decode cL_isSo 332 = .ok (.iload 13, 2) := by decide +kernel
theorem dL_isSo_334 : decode cL_isSo 334 = .ok (.imul, 1) := by decide +kernel
theorem dL_isSo_335 : decode cL_isSo 335 = .ok (.bipush 7, 2) := by decide +kernel
theorem dL_isSo_337 : decode cL_isSo 337 = .ok (.iadd, 1) := by decide +kernel
theorem dL_isSo_338 : decode cL_isSo 338 = .ok (.iaload, 1) := by decide +kernel
theorem dL_isSo_339 : decode cL_isSo 339 = .ok (.iload 11, 2) := by decide +kernel
theorem dL_isSo_341 : decode cL_isSo 341 = .ok (.if_icmp .ne 16, 3) := by decide +kernel
theorem dL_isSo_344 : decode cL_isSo 344 = .ok (.aload_n 0, 1) := by decide +kernel
theorem dL_isSo_345 : decode cL_isSo 345 = .ok (.iload 11, 2) := by decide +kernel
theorem dL_isSo_347 : decode cL_isSo 347 = .ok (.iload 12, 2) := by decide +kernel
theorem dL_isSo_349 : decode cL_isSo 349 = .ok (.invokevirtual 108, 3) := by decide +kernel
theorem dL_isSo_352 : decode cL_isSo 352 = .ok (.iload 13, 2) := by decide +kernel
theorem dL_isSo_354 : decode cL_isSo 354 = .ok (.if_icmp .ne 7, 3) := by decide +kernel
theorem dL_isSo_357 : decode cL_isSo 357 = .ok (.iconst 1, 1) := by decide +kernel
theorem dL_isSo_358 : decode cL_isSo 358 = .ok (.goto 4, 3) := by decide +kernel
theorem dL_isSo_361 : decode cL_isSo 361 = .ok (.iconst 0, 1) := by decide +kernel
theorem dL_isSo_362 : decode cL_isSo 362 = .ok (.istore 10, 2) := by decide +kernel
theorem dL_isSo_364 : decode cL_isSo 364 = .ok (.iload 12, 2) := by decide +kernel
theorem dL_isSo_366 : decode cL_isSo 366 = .ok (.aload_n 2, 1) := by decide +kernel
theorem dL_isSo_367 : decode cL_isSo 367 = .ok (.bipush 8, 2) := by decide +kernel
theorem dL_isSo_369 : decode cL_isSo 369 = .ok (.iload 13, 2) := by decide +kernel
theorem dL_isSo_371 : decode cL_isSo 371 = .ok (.imul, 1) := by decide +kernel
theorem dL_isSo_372 : decode cL_isSo 372 = .ok (.bipush 7, 2) := by decide +kernel
theorem dL_isSo_374 : decode cL_isSo 374 = .ok (.iadd, 1) := by decide +kernel
theorem dL_isSo_375 : decode cL_isSo 375 = .ok (.iaload, 1) := by decide +kernel
theorem dL_isSo_376 : decode cL_isSo 376 = .ok (.iload 11, 2) := by decide +kernel
theorem dL_isSo_378 : decode cL_isSo 378 = .ok (.if_icmp .ne 7, 3) := by decide +kernel
theorem dL_isSo_381 : decode cL_isSo 381 = .ok (.iconst 1, 1) := by decide +kernel
theorem dL_isSo_382 : decode cL_isSo 382 = .ok (.goto 4, 3) := by decide +kernel
theorem dL_isSo_385 : decode cL_isSo 385 = .ok (.iconst 0, 1) := by decide +kernel
theorem dL_isSo_386 : decode cL_isSo 386 = .ok (.iadd, 1) := by decide +kernel
theorem dL_isSo_387 : decode cL_isSo 387 = .ok (.istore 12, 2) := by decide +kernel
theorem dL_isSo_389 : decode cL_isSo 389 = .ok (.iinc 13 1, 3) := by decide +kernel
theorem dL_isSo_392 : decode cL_isSo 392 = .ok (.goto (-76), 3) := by decide +kernel
theorem dL_isSo_395 : decode cL_isSo 395 = .ok (.iload 10, 2) := by decide +kernel
theorem dL_isSo_397 : decode cL_isSo 397 = .ok (.ifCond .eq 31, 3) := by decide +kernel
theorem dL_isSo_400 : decode cL_isSo 400 = .ok (.aload_n 0, 1) := by decide +kernel
theorem dL_isSo_401 : decode cL_isSo 401 = .ok (.iload 11, 2) := by decide +kernel
theorem dL_isSo_403 : decode cL_isSo 403 = .ok (.iload 12, 2) := by decide +kernel
theorem dL_isSo_405 : decode cL_isSo 405 = .ok (.invokevirtual 108, 3) := by decide +kernel
theorem dL_isSo_408 : decode cL_isSo 408 = .ok (.bipush (-4), 2) := by decide +kernel
theorem dL_isSo_410 : decode cL_isSo 410 = .ok (.if_icmp .ne 18, 3) := by decide +kernel
theorem dL_isSo_413 : decode cL_isSo 413 = .ok (.aload_n 0, 1) := by decide +kernel
theorem dL_isSo_414 : decode cL_isSo 414 = .ok (.iload 11, 2) := by decide +kernel
theorem dL_isSo_416 : decode cL_isSo 416 = .ok (.iconst (-1), 1) := by decide +kernel
theorem dL_isSo_417 : decode cL_isSo 417 = .ok (.invokevirtual 108, 3) := by decide +kernel
theorem dL_isSo_420 : decode cL_isSo 420 = .ok (.iconst (-1), 1) := by decide +kernel
theorem dL_isSo_421 : decode cL_isSo 421 = .ok (.if_icmp .ne 7, 3) := by decide +kernel
theorem dL_isSo_424 : decode cL_isSo 424 = .ok (.iconst 1, 1) := by decide +kernel
theorem dL_isSo_425 : decode cL_isSo 425 = .ok (.goto 4, 3) := by decide +kernel
theorem dL_isSo_428 : decode cL_isSo 428 = .ok (.iconst 0, 1) := by decide +kernel
theorem dL_isSo_429 : decode cL_isSo 429 = .ok (.istore 10, 2) := by decide +kernel
theorem dL_isSo_431 : decode cL_isSo 431 = .ok (.iinc 11 1, 3) := by decide +kernel
theorem dL_isSo_434 : decode cL_isSo 434 = .ok (.goto (-135), 3) := by decide +kernel
theorem dL_isSo_437 : decode cL_isSo 437 = .ok (.iload 10, 2) := by decide +kernel
theorem dL_isSo_439 : decode cL_isSo 439 = .ok (.ifCond .eq 101, 3) := by decide +kernel
theorem dL_isSo_442 : decode cL_isSo 442 = .ok (.aload_n 0, 1) := by decide +kernel
theorem dL_isSo_443 : decode cL_isSo 443 = .ok (.aload_n 1, 1) := by decide +kernel
theorem dL_isSo_444 : decode cL_isSo 444 = .ok (.iconst 1, 1) := by decide +kernel
theorem dL_isSo_445 : decode cL_isSo 445 = .ok (.iaload, 1) := by decide +kernel
theorem dL_isSo_446 : decode cL_isSo 446 = .ok (.iconst 0, 1) := by decide +kernel
theorem dL_isSo_447 : decode cL_isSo 447 = .ok (.invokevirtual 105, 3) := by decide +kernel
theorem dL_isSo_450 : decode cL_isSo 450 = .ok (.iconst (-1), 1) := by decide +kernel
theorem dL_isSo_451 : decode cL_isSo 451 = .ok (.if_icmp .ne 89, 3) := by decide +kernel
theorem dL_isSo_454 : decode cL_isSo 454 = .ok (.aload_n 0, 1) := by decide +kernel
theorem dL_isSo_455 : decode cL_isSo 455 = .ok (.iconst 0, 1) := by decide +kernel
theorem dL_isSo_456 : decode cL_isSo 456 = .ok (.invokevirtual 111, 3) := by decide +kernel
theorem dL_isSo_459 : decode cL_isSo 459 = .ok (.aload_n 1, 1) := by decide +kernel
theorem dL_isSo_460 : decode cL_isSo 460 = .ok (.iconst 0, 1) := by decide +kernel
theorem dL_isSo_461 : decode cL_isSo 461 = .ok (.iaload, 1) := by decide +kernel
theorem dL_isSo_462 : decode cL_isSo 462 = .ok (.if_icmp .ne 78, 3) := by decide +kernel
theorem dL_isSo_465 : decode cL_isSo 465 = .ok (.aload_n 0, 1) := by decide +kernel
theorem dL_isSo_466 : decode cL_isSo 466 = .ok (.iconst 1, 1) := by decide +kernel
theorem dL_isSo_467 : decode cL_isSo 467 = .ok (.invokevirtual 111, 3) := by decide +kernel
theorem dL_isSo_470 : decode cL_isSo 470 = .ok (.aload_n 1, 1) := by decide +kernel
theorem dL_isSo_471 : decode cL_isSo 471 = .ok (.iconst 1, 1) := by decide +kernel
theorem dL_isSo_472 : decode cL_isSo 472 = .ok (.iaload, 1) := by decide +kernel
theorem dL_isSo_473 : decode cL_isSo 473 = .ok (.if_icmp .ne 67, 3) := by decide +kernel
theorem dL_isSo_476 : decode cL_isSo 476 = .ok (.aload_n 0, 1) := by decide +kernel
theorem dL_isSo_477 : decode cL_isSo 477 = .ok (.iconst 2, 1) := by decide +kernel
theorem dL_isSo_478 : decode cL_isSo 478 = .ok (.invokevirtual 111, 3) := by decide +kernel
theorem dL_isSo_481 : decode cL_isSo 481 = .ok (.aload_n 1, 1) := by decide +kernel
theorem dL_isSo_482 : decode cL_isSo 482 = .ok (.iconst 2, 1) := by decide +kernel
theorem dL_isSo_483 : decode cL_isSo 483 = .ok (.iaload, 1) := by decide +kernel
theorem dL_isSo_484 : decode cL_isSo 484 = .ok (.if_icmp .ne 56, 3) := by decide +kernel
theorem dL_isSo_487 : decode cL_isSo 487 = .ok (.aload_n 0, 1) := by decide +kernel
theorem dL_isSo_488 : decode cL_isSo 488 = .ok (.iconst 3, 1) := by decide +kernel
theorem dL_isSo_489 : decode cL_isSo 489 = .ok (.invokevirtual 111, 3) := by decide +kernel
theorem dL_isSo_492 : decode cL_isSo 492 = .ok (.aload 6, 2) := by decide +kernel
theorem dL_isSo_494 : decode cL_isSo 494 = .ok (.iconst 0, 1) := by decide +kernel
theorem dL_isSo_495 : decode cL_isSo 495 = .ok (.iaload, 1) := by decide +kernel
theorem dL_isSo_496 : decode cL_isSo 496 = .ok (.if_icmp .ne 44, 3) := by decide +kernel
theorem dL_isSo_499 : decode cL_isSo 499 = .ok (.aload_n 0, 1) := by decide +kernel
theorem dL_isSo_500 : decode cL_isSo 500 = .ok (.iconst 4, 1) := by decide +kernel
theorem dL_isSo_501 : decode cL_isSo 501 = .ok (.invokevirtual 111, 3) := by decide +kernel
theorem dL_isSo_504 : decode cL_isSo 504 = .ok (.aload 6, 2) := by decide +kernel
theorem dL_isSo_506 : decode cL_isSo 506 = .ok (.iconst 1, 1) := by decide +kernel
theorem dL_isSo_507 : decode cL_isSo 507 = .ok (.iaload, 1) := by decide +kernel
theorem dL_isSo_508 : decode cL_isSo 508 = .ok (.if_icmp .ne 32, 3) := by decide +kernel
theorem dL_isSo_511 : decode cL_isSo 511 = .ok (.aload_n 0, 1) := by decide +kernel
theorem dL_isSo_512 : decode cL_isSo 512 = .ok (.iconst 5, 1) := by decide +kernel
theorem dL_isSo_513 : decode cL_isSo 513 = .ok (.invokevirtual 111, 3) := by decide +kernel
theorem dL_isSo_516 : decode cL_isSo 516 = .ok (.aload 6, 2) := by decide +kernel
theorem dL_isSo_518 : decode cL_isSo 518 = .ok (.iconst 2, 1) := by decide +kernel
theorem dL_isSo_519 : decode cL_isSo 519 = .ok (.iaload, 1) := by decide +kernel
theorem dL_isSo_520 : decode cL_isSo 520 = .ok (.if_icmp .ne 20, 3) := by decide +kernel
theorem dL_isSo_523 : decode cL_isSo 523 = .ok (.aload_n 0, 1) := by decide +kernel
theorem dL_isSo_524 : decode cL_isSo 524 = .ok (.bipush 6, 2) := by decide +kernel
theorem dL_isSo_526 : decode cL_isSo 526 = .ok (.invokevirtual 111, 3) := by decide +kernel
theorem dL_isSo_529 : decode cL_isSo 529 = .ok (.aload 6, 2) := by decide +kernel
theorem dL_isSo_531 : decode cL_isSo 531 = .ok (.iconst 3, 1) := by decide +kernel
theorem dL_isSo_532 : decode cL_isSo 532 = .ok (.iaload, 1) := by decide +kernel
theorem dL_isSo_533 : decode cL_isSo 533 = .ok (.if_icmp .ne 7, 3) := by decide +kernel
theorem dL_isSo_536 : decode cL_isSo 536 = .ok (.iconst 1, 1) := by decide +kernel
theorem dL_isSo_537 : decode cL_isSo 537 = .ok (.goto 4, 3) := by decide +kernel
theorem dL_isSo_540 : decode cL_isSo 540 = .ok (.iconst 0, 1) := by decide +kernel
theorem dL_isSo_541 : decode cL_isSo 541 = .ok (.istore 10, 2) := by decide +kernel
theorem dL_isSo_543 : decode cL_isSo 543 = .ok (.iload 10, 2) := by decide +kernel
theorem dL_isSo_545 : decode cL_isSo 545 = .ok (.ifCond .eq 73, 3) := by decide +kernel
theorem dL_isSo_548 : decode cL_isSo 548 = .ok (.aload_n 0, 1) := by decide +kernel
theorem dL_isSo_549 : decode cL_isSo 549 = .ok (.bipush 7, 2) := by decide +kernel
theorem dL_isSo_551 : decode cL_isSo 551 = .ok (.invokevirtual 111, 3) := by decide +kernel
theorem dL_isSo_554 : decode cL_isSo 554 = .ok (.iload 7, 2) := by decide +kernel
theorem dL_isSo_556 : decode cL_isSo 556 = .ok (.if_icmp .ne 62, 3) := by decide +kernel
theorem dL_isSo_559 : decode cL_isSo 559 = .ok (.aload_n 0, 1) := by decide +kernel
theorem dL_isSo_560 : decode cL_isSo 560 = .ok (.bipush 8, 2) := by decide +kernel
theorem dL_isSo_562 : decode cL_isSo 562 = .ok (.invokevirtual 111, 3) := by decide +kernel
theorem dL_isSo_565 : decode cL_isSo 565 = .ok (.iload 8, 2) := by decide +kernel
theorem dL_isSo_567 : decode cL_isSo 567 = .ok (.if_icmp .ne 51, 3) := by decide +kernel
theorem dL_isSo_570 : decode cL_isSo 570 = .ok (.aload_n 0, 1) := by decide +kernel
theorem dL_isSo_571 : decode cL_isSo 571 = .ok (.bipush 9, 2) := by decide +kernel
theorem dL_isSo_573 : decode cL_isSo 573 = .ok (.invokevirtual 111, 3) := by decide +kernel
theorem dL_isSo_576 : decode cL_isSo 576 = .ok (.iload 9, 2) := by decide +kernel
theorem dL_isSo_578 : decode cL_isSo 578 = .ok (.if_icmp .ne 40, 3) := by decide +kernel
theorem dL_isSo_581 : decode cL_isSo 581 = .ok (.aload_n 0, 1) := by decide +kernel
theorem dL_isSo_582 : decode cL_isSo 582 = .ok (.bipush 11, 2) := by decide +kernel
theorem dL_isSo_584 : decode cL_isSo 584 = .ok (.invokevirtual 111, 3) := by decide +kernel
theorem dL_isSo_587 : decode cL_isSo 587 = .ok (.ifCond .ne 31, 3) := by decide +kernel
theorem dL_isSo_590 : decode cL_isSo 590 = .ok (.aload_n 0, 1) := by decide +kernel
theorem dL_isSo_591 : decode cL_isSo 591 = .ok (.bipush 20, 2) := by decide +kernel
theorem dL_isSo_593 : decode cL_isSo 593 = .ok (.invokevirtual 111, 3) := by decide +kernel
theorem dL_isSo_596 : decode cL_isSo 596 = .ok (.aload_n 1, 1) := by decide +kernel
theorem dL_isSo_597 : decode cL_isSo 597 = .ok (.iconst 3, 1) := by decide +kernel
theorem dL_isSo_598 : decode cL_isSo 598 = .ok (.iaload, 1) := by decide +kernel
theorem dL_isSo_599 : decode cL_isSo 599 = .ok (.if_icmp .ne 19, 3) := by decide +kernel
theorem dL_isSo_602 : decode cL_isSo 602 = .ok (.aload_n 0, 1) := by decide +kernel
theorem dL_isSo_603 : decode cL_isSo 603 = .ok (.bipush 21, 2) := by decide +kernel
theorem dL_isSo_605 : decode cL_isSo 605 = .ok (.invokevirtual 111, 3) := by decide +kernel
theorem dL_isSo_608 : decode cL_isSo 608 = .ok (.aload_n 1, 1) := by decide +kernel
theorem dL_isSo_609 : decode cL_isSo 609 = .ok (.iconst 4, 1) := by decide +kernel
theorem dL_isSo_610 : decode cL_isSo 610 = .ok (.iaload, 1) := by decide +kernel
theorem dL_isSo_611 : decode cL_isSo 611 = .ok (.if_icmp .ne 7, 3) := by decide +kernel
theorem dL_isSo_614 : decode cL_isSo 614 = .ok (.iconst 1, 1) := by decide +kernel
theorem dL_isSo_615 : decode cL_isSo 615 = .ok (.goto 4, 3) := by decide +kernel
theorem dL_isSo_618 : decode cL_isSo 618 = .ok (.iconst 0, 1) := by decide +kernel
theorem dL_isSo_619 : decode cL_isSo 619 = .ok (.ireturn, 1) := by decide +kernel
set_option maxRecDepth 20000 in
theorem ggL_law_X3_init : GoodIn wsL_law wsX3_init := goodIn_sub (List.forall_mem_cons.mpr ⟨List.mem_of_getElem? (i := 8) rfl, List.forall_mem_cons.mpr ⟨List.mem_of_getElem? (i := 9) rfl, List.forall_mem_cons.mpr ⟨List.mem_of_getElem? (i := 10) rfl, List.forall_mem_cons.mpr ⟨List.mem_of_getElem? (i := 11) rfl, List.forall_mem_cons.mpr ⟨List.mem_of_getElem? (i := 12) rfl, List.forall_mem_cons.mpr ⟨List.mem_of_getElem? (i := 13) rfl, List.forall_mem_cons.mpr ⟨List.mem_of_getElem? (i := 14) rfl, List.forall_mem_cons.mpr ⟨List.mem_of_getElem? (i := 15) rfl, List.forall_mem_cons.mpr ⟨List.mem_of_getElem? (i := 16) rfl, List.forall_mem_cons.mpr ⟨List.mem_of_getElem? (i := 17) rfl, List.forall_mem_cons.mpr ⟨List.mem_of_getElem? (i := 18) rfl, List.forall_mem_cons.mpr ⟨List.mem_of_getElem? (i := 19) rfl, List.forall_mem_cons.mpr ⟨List.mem_of_getElem? (i := 20) rfl, List.forall_mem_cons.mpr ⟨List.mem_of_getElem? (i := 21) rfl, List.forall_mem_cons.mpr ⟨List.mem_of_getElem? (i := 22) rfl, List.forall_mem_cons.mpr ⟨List.mem_of_getElem? (i := 23) rfl, List.forall_mem_cons.mpr ⟨List.mem_of_getElem? (i := 24) rfl, List.forall_mem_cons.mpr ⟨List.mem_of_getElem? (i := 25) rfl, List.forall_mem_cons.mpr ⟨List.mem_of_getElem? (i := 26) rfl, List.forall_mem_cons.mpr ⟨List.mem_of_getElem? (i := 27) rfl, List.forall_mem_cons.mpr ⟨List.mem_of_getElem? (i := 3) rfl, List.forall_mem_cons.mpr ⟨List.mem_of_getElem? (i := 28) rfl, List.forall_mem_cons.mpr ⟨List.mem_of_getElem? (i := 29) rfl, List.forall_mem_cons.mpr ⟨List.mem_of_getElem? (i := 30) rfl, List.forall_mem_cons.mpr ⟨List.mem_of_getElem? (i := 31) rfl, List.forall_mem_cons.mpr ⟨List.mem_of_getElem? (i := 32) rfl, List.forall_mem_cons.mpr ⟨List.mem_of_getElem? (i := 33) rfl, List.forall_mem_cons.mpr ⟨List.mem_of_getElem? (i := 34) rfl, List.forall_mem_cons.mpr ⟨List.mem_of_getElem? (i := 35) rfl, List.forall_mem_cons.mpr ⟨List.mem_of_getElem? (i := 36) rfl, List.forall_mem_cons.mpr ⟨List.mem_of_getElem? (i := 37) rfl, List.forall_mem_cons.mpr ⟨List.mem_of_getElem? (i := 38) rfl, List.forall_mem_cons.mpr ⟨List.mem_of_getElem? (i := 39) rfl, List.forall_mem_cons.mpr ⟨List.mem_of_getElem? (i := 40) rfl, List.forall_mem_cons.mpr ⟨List.mem_of_getElem? (i := 41) rfl, List.forall_mem_cons.mpr ⟨List.mem_of_getElem? (i := 42) rfl, List.forall_mem_cons.mpr ⟨List.mem_of_getElem? (i := 43) rfl, List.forall_mem_cons.mpr ⟨List.mem_of_getElem? (i := 44) rfl, List.forall_mem_cons.mpr ⟨List.mem_of_getElem? (i := 397) rfl, List.forall_mem_cons.mpr ⟨List.mem_of_getElem? (i := 398) rfl, List.forall_mem_cons.mpr ⟨List.mem_of_getElem? (i := 399) rfl, List.forall_mem_cons.mpr ⟨List.mem_of_getElem? (i := 400) rfl, List.forall_mem_cons.mpr ⟨List.mem_of_getElem? (i := 401) rfl, List.forall_mem_cons.mpr ⟨List.mem_of_getElem? (i := 402) rfl, List.forall_mem_cons.mpr ⟨List.mem_of_getElem? (i := 403) rfl, List.forall_mem_cons.mpr ⟨List.mem_of_getElem? (i := 404) rfl, List.forall_mem_cons.mpr ⟨List.mem_of_getElem? (i := 392) rfl, List.forall_mem_cons.mpr ⟨List.mem_of_getElem? (i := 393) rfl, List.forall_mem_cons.mpr ⟨List.mem_of_getElem? (i := 394) rfl, List.forall_mem_cons.mpr ⟨List.mem_of_getElem? (i := 395) rfl, List.forall_mem_cons.mpr ⟨List.mem_of_getElem? (i := 396) rfl, List.forall_mem_cons.mpr ⟨List.mem_of_getElem? (i := 405) rfl, List.forall_mem_cons.mpr ⟨List.mem_of_getElem? (i := 406) rfl, List.forall_mem_cons.mpr ⟨List.mem_of_getElem? (i := 407) rfl, List.forall_mem_cons.mpr ⟨List.mem_of_getElem? (i := 408) rfl, List.forall_mem_cons.mpr ⟨List.mem_of_getElem? (i := 409) rfl, List.forall_mem_cons.mpr ⟨List.mem_of_getElem? (i := 410) rfl, List.forall_mem_cons.mpr ⟨List.mem_of_getElem? (i := 411) rfl, List.forall_mem_cons.mpr ⟨List.mem_of_getElem? (i := 412) rfl, List.forall_mem_cons.mpr ⟨List.mem_of_getElem? (i := 413) rfl, List.forall_mem_cons.mpr ⟨List.mem_of_getElem? (i := 414) rfl, List.forall_mem_cons.mpr ⟨List.mem_of_getElem? (i := 415) rfl, List.forall_mem_cons.mpr ⟨List.mem_of_getElem? (i := 416) rfl, List.forall_mem_cons.mpr ⟨List.mem_of_getElem? (i := 417) rfl, List.forall_mem_cons.mpr ⟨List.mem_of_getElem? (i := 418) rfl, List.forall_mem_cons.mpr ⟨List.mem_of_getElem? (i := 419) rfl, List.forall_mem_cons.mpr ⟨List.mem_of_getElem? (i := 420) rfl, List.forall_mem_cons.mpr ⟨List.mem_of_getElem? (i := 421) rfl, List.forall_mem_cons.mpr ⟨List.mem_of_getElem? (i := 422) rfl, List.forall_mem_cons.mpr ⟨List.mem_of_getElem? (i := 423) rfl, List.forall_mem_cons.mpr ⟨List.mem_of_getElem? (i := 424) rfl, List.forall_mem_cons.mpr ⟨List.mem_of_getElem? (i := 425) rfl, List.forall_mem_cons.mpr ⟨List.mem_of_getElem? (i := 426) rfl, List.forall_mem_cons.mpr ⟨List.mem_of_getElem? (i := 427) rfl, List.forall_mem_cons.mpr ⟨List.mem_of_getElem? (i := 428) rfl, wk_mn⟩⟩⟩⟩⟩⟩⟩⟩⟩⟩⟩⟩⟩⟩⟩⟩⟩⟩⟩⟩⟩⟩⟩⟩⟩⟩⟩⟩⟩⟩⟩⟩⟩⟩⟩⟩⟩⟩⟩⟩⟩⟩⟩⟩⟩⟩⟩⟩⟩⟩⟩⟩⟩⟩⟩⟩⟩⟩⟩⟩⟩⟩⟩⟩⟩⟩⟩⟩⟩⟩⟩⟩⟩⟩⟩) (by decide +kernel)
set_option maxRecDepth 20000 in
theorem gL_law_X3_init : GoodIn wsL_law (wsX3_init) := ggL_law_X3_init
set_option maxRecDepth 20000 in
theorem ggL_law_L_isSo : GoodIn wsL_law wsL_isSo := goodIn_sub (List.forall_mem_cons.mpr ⟨List.mem_of_getElem? (i := 48) rfl, List.forall_mem_cons.mpr ⟨List.mem_of_getElem? (i := 3) rfl, List.forall_mem_cons.mpr ⟨List.mem_of_getElem? (i := 49) rfl, List.forall_mem_cons.mpr ⟨List.mem_of_getElem? (i := 50) rfl, List.forall_mem_cons.mpr ⟨List.mem_of_getElem? (i := 47) rfl, List.forall_mem_cons.mpr ⟨List.mem_of_getElem? (i := 51) rfl, List.forall_mem_cons.mpr ⟨List.mem_of_getElem? (i := 52) rfl, List.forall_mem_cons.mpr ⟨List.mem_of_getElem? (i := 53) rfl, List.forall_mem_cons.mpr ⟨List.mem_of_getElem? (i := 54) rfl, List.forall_mem_cons.mpr ⟨List.mem_of_getElem? (i := 2) rfl, List.forall_mem_cons.mpr ⟨List.mem_of_getElem? (i := 55) rfl, List.forall_mem_cons.mpr ⟨List.mem_of_getElem? (i := 15) rfl, List.forall_mem_cons.mpr ⟨List.mem_of_getElem? (i := 56) rfl, List.forall_mem_cons.mpr ⟨List.mem_of_getElem? (i := 57) rfl, List.forall_mem_cons.mpr ⟨List.mem_of_getElem? (i := 58) rfl, List.forall_mem_cons.mpr ⟨List.mem_of_getElem? (i := 59) rfl, List.forall_mem_cons.mpr ⟨List.mem_of_getElem? (i := 60) rfl, List.forall_mem_cons.mpr ⟨List.mem_of_getElem? (i := 14) rfl, List.forall_mem_cons.mpr ⟨List.mem_of_getElem? (i := 61) rfl, List.forall_mem_cons.mpr ⟨List.mem_of_getElem? (i := 62) rfl, List.forall_mem_cons.mpr ⟨List.mem_of_getElem? (i := 63) rfl, List.forall_mem_cons.mpr ⟨List.mem_of_getElem? (i := 64) rfl, List.forall_mem_cons.mpr ⟨List.mem_of_getElem? (i := 65) rfl, List.forall_mem_cons.mpr ⟨List.mem_of_getElem? (i := 66) rfl, List.forall_mem_cons.mpr ⟨List.mem_of_getElem? (i := 67) rfl, List.forall_mem_cons.mpr ⟨List.mem_of_getElem? (i := 68) rfl, List.forall_mem_cons.mpr ⟨List.mem_of_getElem? (i := 69) rfl, List.forall_mem_cons.mpr ⟨List.mem_of_getElem? (i := 70) rfl, List.forall_mem_cons.mpr ⟨List.mem_of_getElem? (i := 71) rfl, List.forall_mem_cons.mpr ⟨List.mem_of_getElem? (i := 72) rfl, List.forall_mem_cons.mpr ⟨List.mem_of_getElem? (i := 73) rfl, List.forall_mem_cons.mpr ⟨List.mem_of_getElem? (i := 33) rfl, List.forall_mem_cons.mpr ⟨List.mem_of_getElem? (i := 74) rfl, List.forall_mem_cons.mpr ⟨List.mem_of_getElem? (i := 38) rfl, List.forall_mem_cons.mpr ⟨List.mem_of_getElem? (i := 75) rfl, List.forall_mem_cons.mpr ⟨List.mem_of_getElem? (i := 76) rfl, List.forall_mem_cons.mpr ⟨List.mem_of_getElem? (i := 77) rfl, List.forall_mem_cons.mpr ⟨List.mem_of_getElem? (i := 78) rfl, List.forall_mem_cons.mpr ⟨List.mem_of_getElem? (i := 79) rfl, List.forall_mem_cons.mpr ⟨List.mem_of_getElem? (i := 80) rfl, List.forall_mem_cons.mpr ⟨List.mem_of_getElem? (i := 81) rfl, List.forall_mem_cons.mpr ⟨List.mem_of_getElem? (i := 82) rfl, List.forall_mem_cons.mpr ⟨List.mem_of_getElem? (i := 83) rfl, List.forall_mem_cons.mpr ⟨List.mem_of_getElem? (i := 29) rfl, List.forall_mem_cons.mpr ⟨List.mem_of_getElem? (i := 84) rfl, List.forall_mem_cons.mpr ⟨List.mem_of_getElem? (i := 85) rfl, List.forall_mem_cons.mpr ⟨List.mem_of_getElem? (i := 86) rfl, List.forall_mem_cons.mpr ⟨List.mem_of_getElem? (i := 87) rfl, List.forall_mem_cons.mpr ⟨List.mem_of_getElem? (i := 27) rfl, List.forall_mem_cons.mpr ⟨List.mem_of_getElem? (i := 88) rfl, List.forall_mem_cons.mpr ⟨List.mem_of_getElem? (i := 89) rfl, List.forall_mem_cons.mpr ⟨List.mem_of_getElem? (i := 30) rfl, List.forall_mem_cons.mpr ⟨List.mem_of_getElem? (i := 90) rfl, List.forall_mem_cons.mpr ⟨List.mem_of_getElem? (i := 91) rfl, List.forall_mem_cons.mpr ⟨List.mem_of_getElem? (i := 92) rfl, List.forall_mem_cons.mpr ⟨List.mem_of_getElem? (i := 93) rfl, List.forall_mem_cons.mpr ⟨List.mem_of_getElem? (i := 94) rfl, List.forall_mem_cons.mpr ⟨List.mem_of_getElem? (i := 95) rfl, List.forall_mem_cons.mpr ⟨List.mem_of_getElem? (i := 96) rfl, List.forall_mem_cons.mpr ⟨List.mem_of_getElem? (i := 97) rfl, List.forall_mem_cons.mpr ⟨List.mem_of_getElem? (i := 98) rfl, List.forall_mem_cons.mpr ⟨List.mem_of_getElem? (i := 99) rfl, List.forall_mem_cons.mpr ⟨List.mem_of_getElem? (i := 100) rfl, List.forall_mem_cons.mpr ⟨List.mem_of_getElem? (i := 101) rfl, List.forall_mem_cons.mpr ⟨List.mem_of_getElem? (i := 102) rfl, List.forall_mem_cons.mpr ⟨List.mem_of_getElem? (i := 103) rfl, List.forall_mem_cons.mpr ⟨List.mem_of_getElem? (i := 104) rfl, List.forall_mem_cons.mpr ⟨List.mem_of_getElem? (i := 105) rfl, List.forall_mem_cons.mpr ⟨List.mem_of_getElem? (i := 106) rfl, List.forall_mem_cons.mpr ⟨List.mem_of_getElem? (i := 107) rfl, List.forall_mem_cons.mpr ⟨List.mem_of_getElem? (i := 37) rfl, List.forall_mem_cons.mpr ⟨List.mem_of_getElem? (i := 108) rfl, List.forall_mem_cons.mpr ⟨List.mem_of_getElem? (i := 109) rfl, List.forall_mem_cons.mpr ⟨List.mem_of_getElem? (i := 110) rfl, List.forall_mem_cons.mpr ⟨List.mem_of_getElem? (i := 111) rfl, List.forall_mem_cons.mpr ⟨List.mem_of_getElem? (i := 112) rfl, List.forall_mem_cons.mpr ⟨List.mem_of_getElem? (i := 113) rfl, List.forall_mem_cons.mpr ⟨List.mem_of_getElem? (i := 114) rfl, List.forall_mem_cons.mpr ⟨List.mem_of_getElem? (i := 115) rfl, List.forall_mem_cons.mpr ⟨List.mem_of_getElem? (i := 116) rfl, List.forall_mem_cons.mpr ⟨List.mem_of_getElem? (i := 117) rfl, List.forall_mem_cons.mpr ⟨List.mem_of_getElem? (i := 118) rfl, List.forall_mem_cons.mpr ⟨List.mem_of_getElem? (i := 119) rfl, List.forall_mem_cons.mpr ⟨List.mem_of_getElem? (i := 120) rfl, List.forall_mem_cons.mpr ⟨List.mem_of_getElem? (i := 121) rfl, List.forall_mem_cons.mpr ⟨List.mem_of_getElem? (i := 122) rfl, List.forall_mem_cons.mpr ⟨List.mem_of_getElem? (i := 123) rfl, List.forall_mem_cons.mpr ⟨List.mem_of_getElem? (i := 124) rfl, List.forall_mem_cons.mpr ⟨List.mem_of_getElem? (i := 125) rfl, List.forall_mem_cons.mpr ⟨List.mem_of_getElem? (i := 126) rfl, List.forall_mem_cons.mpr ⟨List.mem_of_getElem? (i := 127) rfl, List.forall_mem_cons.mpr ⟨List.mem_of_getElem? (i := 128) rfl, List.forall_mem_cons.mpr ⟨List.mem_of_getElem? (i := 129) rfl, List.forall_mem_cons.mpr ⟨List.mem_of_getElem? (i := 130) rfl, List.forall_mem_cons.mpr ⟨List.mem_of_getElem? (i := 131) rfl, List.forall_mem_cons.mpr ⟨List.mem_of_getElem? (i := 132) rfl, List.forall_mem_cons.mpr ⟨List.mem_of_getElem? (i := 133) rfl, List.forall_mem_cons.mpr ⟨List.mem_of_getElem? (i := 134) rfl, List.forall_mem_cons.mpr ⟨List.mem_of_getElem? (i := 135) rfl, List.forall_mem_cons.mpr ⟨List.mem_of_getElem? (i := 136) rfl, List.forall_mem_cons.mpr ⟨List.mem_of_getElem? (i := 137) rfl, List.forall_mem_cons.mpr ⟨List.mem_of_getElem? (i := 138) rfl, List.forall_mem_cons.mpr ⟨List.mem_of_getElem? (i := 139) rfl, List.forall_mem_cons.mpr ⟨List.mem_of_getElem? (i := 140) rfl, List.forall_mem_cons.mpr ⟨List.mem_of_getElem? (i := 141) rfl, List.forall_mem_cons.mpr ⟨List.mem_of_getElem? (i := 142) rfl, List.forall_mem_cons.mpr ⟨List.mem_of_getElem? (i := 143) rfl, List.forall_mem_cons.mpr ⟨List.mem_of_getElem? (i := 144) rfl, List.forall_mem_cons.mpr ⟨List.mem_of_getElem? (i := 145) rfl, List.forall_mem_cons.mpr ⟨List.mem_of_getElem? (i := 146) rfl, List.forall_mem_cons.mpr ⟨List.mem_of_getElem? (i := 147) rfl, List.forall_mem_cons.mpr ⟨List.mem_of_getElem? (i := 148) rfl, List.forall_mem_cons.mpr ⟨List.mem_of_getElem? (i := 149) rfl, List.forall_mem_cons.mpr ⟨List.mem_of_getElem? (i := 150) rfl, List.forall_mem_cons.mpr ⟨List.mem_of_getElem? (i := 151) rfl, List.forall_mem_cons.mpr ⟨List.mem_of_getElem? (i := 21) rfl, List.forall_mem_cons.mpr ⟨List.mem_of_getElem? (i := 152) rfl, List.forall_mem_cons.mpr ⟨List.mem_of_getElem? (i := 153) rfl, List.forall_mem_cons.mpr ⟨List.mem_of_getElem? (i := 154) rfl, List.forall_mem_cons.mpr ⟨List.mem_of_getElem? (i := 155) rfl, List.forall_mem_cons.mpr ⟨List.mem_of_getElem? (i := 156) rfl, List.forall_mem_cons.mpr ⟨List.mem_of_getElem? (i := 157) rfl, List.forall_mem_cons.mpr ⟨List.mem_of_getElem? (i := 158) rfl, List.forall_mem_cons.mpr ⟨List.mem_of_getElem? (i := 159) rfl, List.forall_mem_cons.mpr ⟨List.mem_of_getElem? (i := 160) rfl, List.forall_mem_cons.mpr ⟨List.mem_of_getElem? (i := 161) rfl, List.forall_mem_cons.mpr ⟨List.mem_of_getElem? (i := 162) rfl, List.forall_mem_cons.mpr ⟨List.mem_of_getElem? (i := 163) rfl, List.forall_mem_cons.mpr ⟨List.mem_of_getElem? (i := 164) rfl, List.forall_mem_cons.mpr ⟨List.mem_of_getElem? (i := 165) rfl, List.forall_mem_cons.mpr ⟨List.mem_of_getElem? (i := 166) rfl, List.forall_mem_cons.mpr ⟨List.mem_of_getElem? (i := 167) rfl, List.forall_mem_cons.mpr ⟨List.mem_of_getElem? (i := 168) rfl, List.forall_mem_cons.mpr ⟨List.mem_of_getElem? (i := 169) rfl, List.forall_mem_cons.mpr ⟨List.mem_of_getElem? (i := 170) rfl, List.forall_mem_cons.mpr ⟨List.mem_of_getElem? (i := 171) rfl, List.forall_mem_cons.mpr ⟨List.mem_of_getElem? (i := 172) rfl, List.forall_mem_cons.mpr ⟨List.mem_of_getElem? (i := 173) rfl, List.forall_mem_cons.mpr ⟨List.mem_of_getElem? (i := 174) rfl, List.forall_mem_cons.mpr ⟨List.mem_of_getElem? (i := 175) rfl, List.forall_mem_cons.mpr ⟨List.mem_of_getElem? (i := 176) rfl, List.forall_mem_cons.mpr ⟨List.mem_of_getElem? (i := 177) rfl, List.forall_mem_cons.mpr ⟨List.mem_of_getElem? (i := 392) rfl, List.forall_mem_cons.mpr ⟨List.mem_of_getElem? (i := 393) rfl, List.forall_mem_cons.mpr ⟨List.mem_of_getElem? (i := 394) rfl, List.forall_mem_cons.mpr ⟨List.mem_of_getElem? (i := 395) rfl, List.forall_mem_cons.mpr ⟨List.mem_of_getElem? (i := 396) rfl, List.forall_mem_cons.mpr ⟨List.mem_of_getElem? (i := 397) rfl, List.forall_mem_cons.mpr ⟨List.mem_of_getElem? (i := 398) rfl, List.forall_mem_cons.mpr ⟨List.mem_of_getElem? (i := 399) rfl, List.forall_mem_cons.mpr ⟨List.mem_of_getElem? (i := 400) rfl, List.forall_mem_cons.mpr ⟨List.mem_of_getElem? (i := 401) rfl, List.forall_mem_cons.mpr ⟨List.mem_of_getElem? (i := 402) rfl, List.forall_mem_cons.mpr ⟨List.mem_of_getElem? (i := 403) rfl, List.forall_mem_cons.mpr ⟨List.mem_of_getElem? (i := 404) rfl, List.forall_mem_cons.mpr ⟨List.mem_of_getElem? (i := 414) rfl, List.forall_mem_cons.mpr ⟨List.mem_of_getElem? (i := 415) rfl, List.forall_mem_cons.mpr ⟨List.mem_of_getElem? (i := 416) rfl, List.forall_mem_cons.mpr ⟨List.mem_of_getElem? (i := 417) rfl, List.forall_mem_cons.mpr ⟨List.mem_of_getElem? (i := 418) rfl, List.forall_mem_cons.mpr ⟨List.mem_of_getElem? (i := 419) rfl, List.forall_mem_cons.mpr ⟨List.mem_of_getElem? (i := 420) rfl, List.forall_mem_cons.mpr ⟨List.mem_of_getElem? (i := 421) rfl, List.forall_mem_cons.mpr ⟨List.mem_of_getElem? (i := 422) rfl, List.forall_mem_cons.mpr ⟨List.mem_of_getElem? (i := 423) rfl, List.forall_mem_cons.mpr ⟨List.mem_of_getElem? (i := 424) rfl, List.forall_mem_cons.mpr ⟨List.mem_of_getElem? (i := 425) rfl, List.forall_mem_cons.mpr ⟨List.mem_of_getElem? (i := 426) rfl, List.forall_mem_cons.mpr ⟨List.mem_of_getElem? (i := 427) rfl, List.forall_mem_cons.mpr ⟨List.mem_of_getElem? (i := 428) rfl, List.forall_mem_cons.mpr ⟨List.mem_of_getElem? (i := 405) rfl, List.forall_mem_cons.mpr ⟨List.mem_of_getElem? (i := 406) rfl, List.forall_mem_cons.mpr ⟨List.mem_of_getElem? (i := 407) rfl, List.forall_mem_cons.mpr ⟨List.mem_of_getElem? (i := 408) rfl, List.forall_mem_cons.mpr ⟨List.mem_of_getElem? (i := 409) rfl, List.forall_mem_cons.mpr ⟨List.mem_of_getElem? (i := 410) rfl, List.forall_mem_cons.mpr ⟨List.mem_of_getElem? (i := 411) rfl, List.forall_mem_cons.mpr ⟨List.mem_of_getElem? (i := 412) rfl, List.forall_mem_cons.mpr ⟨List.mem_of_getElem? (i := 413) rfl, wk_mn⟩⟩⟩⟩⟩⟩⟩⟩⟩⟩⟩⟩⟩⟩⟩⟩⟩⟩⟩⟩⟩⟩⟩⟩⟩⟩⟩⟩⟩⟩⟩⟩⟩⟩⟩⟩⟩⟩⟩⟩⟩⟩⟩⟩⟩⟩⟩⟩⟩⟩⟩⟩⟩⟩⟩⟩⟩⟩⟩⟩⟩⟩⟩⟩⟩⟩⟩⟩⟩⟩⟩⟩⟩⟩⟩⟩⟩⟩⟩⟩⟩⟩⟩⟩⟩⟩⟩⟩⟩⟩⟩⟩⟩⟩⟩⟩⟩⟩⟩⟩⟩⟩⟩⟩⟩⟩⟩⟩⟩⟩⟩⟩⟩⟩⟩⟩⟩⟩⟩⟩⟩⟩⟩⟩⟩⟩⟩⟩⟩⟩⟩⟩⟩⟩⟩⟩⟩⟩⟩⟩⟩⟩⟩⟩⟩⟩⟩⟩⟩⟩⟩⟩⟩⟩⟩⟩⟩⟩⟩⟩⟩⟩⟩⟩⟩⟩⟩⟩⟩⟩⟩⟩⟩⟩⟩⟩⟩⟩⟩) (by decide +kernel)
set_option maxRecDepth 20000 in
theorem gL_law_L_isSo : GoodIn wsL_law (va_wsS RL 115 yL_isSo wsL_isSo) := goodIn_app (goodIn_sub (List.forall_mem_cons.mpr ⟨List.mem_of_getElem? (i := 45) rfl, List.forall_mem_cons.mpr ⟨List.mem_of_getElem? (i := 46) rfl, List.forall_mem_cons.mpr ⟨List.mem_of_getElem? (i := 47) rfl, wk_mn⟩⟩⟩) (by decide +kernel)) ggL_law_L_isSo
set_option maxRecDepth 20000 in
theorem ggL_law_L_cell : GoodIn wsL_law wsL_cell := goodIn_sub (List.forall_mem_cons.mpr ⟨List.mem_of_getElem? (i := 180) rfl, List.forall_mem_cons.mpr ⟨List.mem_of_getElem? (i := 181) rfl, wk_mn⟩⟩) (by decide +kernel)
set_option maxRecDepth 20000 in
theorem gL_law_L_cell : GoodIn wsL_law (va_wsS RL 119 yL_cell wsL_cell) := goodIn_app (goodIn_sub (List.forall_mem_cons.mpr ⟨List.mem_of_getElem? (i := 178) rfl, List.forall_mem_cons.mpr ⟨List.mem_of_getElem? (i := 179) rfl, List.forall_mem_cons.mpr ⟨List.mem_of_getElem? (i := 47) rfl, wk_mn⟩⟩⟩) (by decide +kernel)) ggL_law_L_cell
set_option maxRecDepth 20000 in
theorem ggL_law_L_lays : GoodIn wsL_law wsL_lays := goodIn_sub (List.forall_mem_cons.mpr ⟨List.mem_of_getElem? (i := 184) rfl, List.forall_mem_cons.mpr ⟨List.mem_of_getElem? (i := 185) rfl, List.forall_mem_cons.mpr ⟨List.mem_of_getElem? (i := 186) rfl, List.forall_mem_cons.mpr ⟨List.mem_of_getElem? (i := 187) rfl, List.forall_mem_cons.mpr ⟨List.mem_of_getElem? (i := 2) rfl, List.forall_mem_cons.mpr ⟨List.mem_of_getElem? (i := 188) rfl, List.forall_mem_cons.mpr ⟨List.mem_of_getElem? (i := 15) rfl, List.forall_mem_cons.mpr ⟨List.mem_of_getElem? (i := 189) rfl, List.forall_mem_cons.mpr ⟨List.mem_of_getElem? (i := 56) rfl, List.forall_mem_cons.mpr ⟨List.mem_of_getElem? (i := 57) rfl, List.forall_mem_cons.mpr ⟨List.mem_of_getElem? (i := 63) rfl, List.forall_mem_cons.mpr ⟨List.mem_of_getElem? (i := 64) rfl, List.forall_mem_cons.mpr ⟨List.mem_of_getElem? (i := 65) rfl, List.forall_mem_cons.mpr ⟨List.mem_of_getElem? (i := 190) rfl, List.forall_mem_cons.mpr ⟨List.mem_of_getElem? (i := 191) rfl, List.forall_mem_cons.mpr ⟨List.mem_of_getElem? (i := 192) rfl, List.forall_mem_cons.mpr ⟨List.mem_of_getElem? (i := 193) rfl, List.forall_mem_cons.mpr ⟨List.mem_of_getElem? (i := 151) rfl, List.forall_mem_cons.mpr ⟨List.mem_of_getElem? (i := 17) rfl, List.forall_mem_cons.mpr ⟨List.mem_of_getElem? (i := 194) rfl, List.forall_mem_cons.mpr ⟨List.mem_of_getElem? (i := 195) rfl, List.forall_mem_cons.mpr ⟨List.mem_of_getElem? (i := 196) rfl, List.forall_mem_cons.mpr ⟨List.mem_of_getElem? (i := 14) rfl, List.forall_mem_cons.mpr ⟨List.mem_of_getElem? (i := 197) rfl, List.forall_mem_cons.mpr ⟨List.mem_of_getElem? (i := 62) rfl, List.forall_mem_cons.mpr ⟨List.mem_of_getElem? (i := 27) rfl, List.forall_mem_cons.mpr ⟨List.mem_of_getElem? (i := 28) rfl, List.forall_mem_cons.mpr ⟨List.mem_of_getElem? (i := 198) rfl, List.forall_mem_cons.mpr ⟨List.mem_of_getElem? (i := 199) rfl, List.forall_mem_cons.mpr ⟨List.mem_of_getElem? (i := 200) rfl, List.forall_mem_cons.mpr ⟨List.mem_of_getElem? (i := 201) rfl, List.forall_mem_cons.mpr ⟨List.mem_of_getElem? (i := 29) rfl, List.forall_mem_cons.mpr ⟨List.mem_of_getElem? (i := 30) rfl, List.forall_mem_cons.mpr ⟨List.mem_of_getElem? (i := 31) rfl, List.forall_mem_cons.mpr ⟨List.mem_of_getElem? (i := 83) rfl, List.forall_mem_cons.mpr ⟨List.mem_of_getElem? (i := 90) rfl, List.forall_mem_cons.mpr ⟨List.mem_of_getElem? (i := 202) rfl, List.forall_mem_cons.mpr ⟨List.mem_of_getElem? (i := 203) rfl, List.forall_mem_cons.mpr ⟨List.mem_of_getElem? (i := 204) rfl, List.forall_mem_cons.mpr ⟨List.mem_of_getElem? (i := 33) rfl, List.forall_mem_cons.mpr ⟨List.mem_of_getElem? (i := 205) rfl, List.forall_mem_cons.mpr ⟨List.mem_of_getElem? (i := 37) rfl, List.forall_mem_cons.mpr ⟨List.mem_of_getElem? (i := 206) rfl, List.forall_mem_cons.mpr ⟨List.mem_of_getElem? (i := 38) rfl, List.forall_mem_cons.mpr ⟨List.mem_of_getElem? (i := 112) rfl, List.forall_mem_cons.mpr ⟨List.mem_of_getElem? (i := 113) rfl, List.forall_mem_cons.mpr ⟨List.mem_of_getElem? (i := 114) rfl, List.forall_mem_cons.mpr ⟨List.mem_of_getElem? (i := 117) rfl, List.forall_mem_cons.mpr ⟨List.mem_of_getElem? (i := 103) rfl, List.forall_mem_cons.mpr ⟨List.mem_of_getElem? (i := 105) rfl, List.forall_mem_cons.mpr ⟨List.mem_of_getElem? (i := 115) rfl, List.forall_mem_cons.mpr ⟨List.mem_of_getElem? (i := 116) rfl, List.forall_mem_cons.mpr ⟨List.mem_of_getElem? (i := 104) rfl, List.forall_mem_cons.mpr ⟨List.mem_of_getElem? (i := 118) rfl, List.forall_mem_cons.mpr ⟨List.mem_of_getElem? (i := 119) rfl, List.forall_mem_cons.mpr ⟨List.mem_of_getElem? (i := 106) rfl, List.forall_mem_cons.mpr ⟨List.mem_of_getElem? (i := 107) rfl, List.forall_mem_cons.mpr ⟨List.mem_of_getElem? (i := 207) rfl, List.forall_mem_cons.mpr ⟨List.mem_of_getElem? (i := 208) rfl, List.forall_mem_cons.mpr ⟨List.mem_of_getElem? (i := 209) rfl, List.forall_mem_cons.mpr ⟨List.mem_of_getElem? (i := 210) rfl, List.forall_mem_cons.mpr ⟨List.mem_of_getElem? (i := 211) rfl, List.forall_mem_cons.mpr ⟨List.mem_of_getElem? (i := 212) rfl, List.forall_mem_cons.mpr ⟨List.mem_of_getElem? (i := 213) rfl, List.forall_mem_cons.mpr ⟨List.mem_of_getElem? (i := 214) rfl, List.forall_mem_cons.mpr ⟨List.mem_of_getElem? (i := 215) rfl, List.forall_mem_cons.mpr ⟨List.mem_of_getElem? (i := 216) rfl, List.forall_mem_cons.mpr ⟨List.mem_of_getElem? (i := 217) rfl, List.forall_mem_cons.mpr ⟨List.mem_of_getElem? (i := 218) rfl, List.forall_mem_cons.mpr ⟨List.mem_of_getElem? (i := 219) rfl, List.forall_mem_cons.mpr ⟨List.mem_of_getElem? (i := 220) rfl, List.forall_mem_cons.mpr ⟨List.mem_of_getElem? (i := 221) rfl, List.forall_mem_cons.mpr ⟨List.mem_of_getElem? (i := 222) rfl, List.forall_mem_cons.mpr ⟨List.mem_of_getElem? (i := 223) rfl, List.forall_mem_cons.mpr ⟨List.mem_of_getElem? (i := 224) rfl, List.forall_mem_cons.mpr ⟨List.mem_of_getElem? (i := 225) rfl, List.forall_mem_cons.mpr ⟨List.mem_of_getElem? (i := 226) rfl, List.forall_mem_cons.mpr ⟨List.mem_of_getElem? (i := 162) rfl, List.forall_mem_cons.mpr ⟨List.mem_of_getElem? (i := 227) rfl, List.forall_mem_cons.mpr ⟨List.mem_of_getElem? (i := 228) rfl, List.forall_mem_cons.mpr ⟨List.mem_of_getElem? (i := 59) rfl, List.forall_mem_cons.mpr ⟨List.mem_of_getElem? (i := 60) rfl, List.forall_mem_cons.mpr ⟨List.mem_of_getElem? (i := 61) rfl, List.forall_mem_cons.mpr ⟨List.mem_of_getElem? (i := 229) rfl, List.forall_mem_cons.mpr ⟨List.mem_of_getElem? (i := 230) rfl, List.forall_mem_cons.mpr ⟨List.mem_of_getElem? (i := 231) rfl, List.forall_mem_cons.mpr ⟨List.mem_of_getElem? (i := 232) rfl, List.forall_mem_cons.mpr ⟨List.mem_of_getElem? (i := 233) rfl, List.forall_mem_cons.mpr ⟨List.mem_of_getElem? (i := 234) rfl, List.forall_mem_cons.mpr ⟨List.mem_of_getElem? (i := 235) rfl, List.forall_mem_cons.mpr ⟨List.mem_of_getElem? (i := 236) rfl, List.forall_mem_cons.mpr ⟨List.mem_of_getElem? (i := 146) rfl, List.forall_mem_cons.mpr ⟨List.mem_of_getElem? (i := 237) rfl, List.forall_mem_cons.mpr ⟨List.mem_of_getElem? (i := 238) rfl, List.forall_mem_cons.mpr ⟨List.mem_of_getElem? (i := 239) rfl, List.forall_mem_cons.mpr ⟨List.mem_of_getElem? (i := 240) rfl, List.forall_mem_cons.mpr ⟨List.mem_of_getElem? (i := 241) rfl, List.forall_mem_cons.mpr ⟨List.mem_of_getElem? (i := 242) rfl, List.forall_mem_cons.mpr ⟨List.mem_of_getElem? (i := 243) rfl, List.forall_mem_cons.mpr ⟨List.mem_of_getElem? (i := 244) rfl, List.forall_mem_cons.mpr ⟨List.mem_of_getElem? (i := 245) rfl, List.forall_mem_cons.mpr ⟨List.mem_of_getElem? (i := 246) rfl, List.forall_mem_cons.mpr ⟨List.mem_of_getElem? (i := 247) rfl, List.forall_mem_cons.mpr ⟨List.mem_of_getElem? (i := 248) rfl, List.forall_mem_cons.mpr ⟨List.mem_of_getElem? (i := 249) rfl, List.forall_mem_cons.mpr ⟨List.mem_of_getElem? (i := 250) rfl, List.forall_mem_cons.mpr ⟨List.mem_of_getElem? (i := 251) rfl, List.forall_mem_cons.mpr ⟨List.mem_of_getElem? (i := 252) rfl, List.forall_mem_cons.mpr ⟨List.mem_of_getElem? (i := 253) rfl, List.forall_mem_cons.mpr ⟨List.mem_of_getElem? (i := 254) rfl, List.forall_mem_cons.mpr ⟨List.mem_of_getElem? (i := 255) rfl, List.forall_mem_cons.mpr ⟨List.mem_of_getElem? (i := 256) rfl, List.forall_mem_cons.mpr ⟨List.mem_of_getElem? (i := 257) rfl, List.forall_mem_cons.mpr ⟨List.mem_of_getElem? (i := 258) rfl, List.forall_mem_cons.mpr ⟨List.mem_of_getElem? (i := 259) rfl, List.forall_mem_cons.mpr ⟨List.mem_of_getElem? (i := 260) rfl, List.forall_mem_cons.mpr ⟨List.mem_of_getElem? (i := 261) rfl, List.forall_mem_cons.mpr ⟨List.mem_of_getElem? (i := 262) rfl, List.forall_mem_cons.mpr ⟨List.mem_of_getElem? (i := 263) rfl, List.forall_mem_cons.mpr ⟨List.mem_of_getElem? (i := 264) rfl, List.forall_mem_cons.mpr ⟨List.mem_of_getElem? (i := 265) rfl, List.forall_mem_cons.mpr ⟨List.mem_of_getElem? (i := 266) rfl, List.forall_mem_cons.mpr ⟨List.mem_of_getElem? (i := 88) rfl, List.forall_mem_cons.mpr ⟨List.mem_of_getElem? (i := 392) rfl, List.forall_mem_cons.mpr ⟨List.mem_of_getElem? (i := 393) rfl, List.forall_mem_cons.mpr ⟨List.mem_of_getElem? (i := 394) rfl, List.forall_mem_cons.mpr ⟨List.mem_of_getElem? (i := 395) rfl, List.forall_mem_cons.mpr ⟨List.mem_of_getElem? (i := 396) rfl, List.forall_mem_cons.mpr ⟨List.mem_of_getElem? (i := 397) rfl, List.forall_mem_cons.mpr ⟨List.mem_of_getElem? (i := 398) rfl, List.forall_mem_cons.mpr ⟨List.mem_of_getElem? (i := 399) rfl, List.forall_mem_cons.mpr ⟨List.mem_of_getElem? (i := 400) rfl, List.forall_mem_cons.mpr ⟨List.mem_of_getElem? (i := 401) rfl, List.forall_mem_cons.mpr ⟨List.mem_of_getElem? (i := 402) rfl, List.forall_mem_cons.mpr ⟨List.mem_of_getElem? (i := 403) rfl, List.forall_mem_cons.mpr ⟨List.mem_of_getElem? (i := 404) rfl, List.forall_mem_cons.mpr ⟨List.mem_of_getElem? (i := 414) rfl, List.forall_mem_cons.mpr ⟨List.mem_of_getElem? (i := 415) rfl, List.forall_mem_cons.mpr ⟨List.mem_of_getElem? (i := 416) rfl, List.forall_mem_cons.mpr ⟨List.mem_of_getElem? (i := 417) rfl, List.forall_mem_cons.mpr ⟨List.mem_of_getElem? (i := 418) rfl, List.forall_mem_cons.mpr ⟨List.mem_of_getElem? (i := 419) rfl, List.forall_mem_cons.mpr ⟨List.mem_of_getElem? (i := 420) rfl, List.forall_mem_cons.mpr ⟨List.mem_of_getElem? (i := 421) rfl, List.forall_mem_cons.mpr ⟨List.mem_of_getElem? (i := 422) rfl, List.forall_mem_cons.mpr ⟨List.mem_of_getElem? (i := 423) rfl, List.forall_mem_cons.mpr ⟨List.mem_of_getElem? (i := 424) rfl, List.forall_mem_cons.mpr ⟨List.mem_of_getElem? (i := 425) rfl, List.forall_mem_cons.mpr ⟨List.mem_of_getElem? (i := 426) rfl, List.forall_mem_cons.mpr ⟨List.mem_of_getElem? (i := 427) rfl, List.forall_mem_cons.mpr ⟨List.mem_of_getElem? (i := 428) rfl, wk_mn⟩⟩⟩⟩⟩⟩⟩⟩⟩⟩⟩⟩⟩⟩⟩⟩⟩⟩⟩⟩⟩⟩⟩⟩⟩⟩⟩⟩⟩⟩⟩⟩⟩⟩⟩⟩⟩⟩⟩⟩⟩⟩⟩⟩⟩⟩⟩⟩⟩⟩⟩⟩⟩⟩⟩⟩⟩⟩⟩⟩⟩⟩⟩⟩⟩⟩⟩⟩⟩⟩⟩⟩⟩⟩⟩⟩⟩⟩⟩⟩⟩⟩⟩⟩⟩⟩⟩⟩⟩⟩⟩⟩⟩⟩⟩⟩⟩⟩⟩⟩⟩⟩⟩⟩⟩⟩⟩⟩⟩⟩⟩⟩⟩⟩⟩⟩⟩⟩⟩⟩⟩⟩⟩⟩⟩⟩⟩⟩⟩⟩⟩⟩⟩⟩⟩⟩⟩⟩⟩⟩⟩⟩⟩⟩⟩⟩⟩⟩⟩⟩⟩) (by decide +kernel)
set_option maxRecDepth 20000 in
theorem gL_law_L_lays : GoodIn wsL_law (va_wsS RL 72 yL_lays wsL_lays) := goodIn_app (goodIn_sub (List.forall_mem_cons.mpr ⟨List.mem_of_getElem? (i := 182) rfl, List.forall_mem_cons.mpr ⟨List.mem_of_getElem? (i := 183) rfl, List.forall_mem_cons.mpr ⟨List.mem_of_getElem? (i := 47) rfl, wk_mn⟩⟩⟩) (by decide +kernel)) ggL_law_L_lays
set_option maxRecDepth 20000 in
theorem ggL_law_L_acts : GoodIn wsL_law wsL_acts := goodIn_sub (List.forall_mem_cons.mpr ⟨List.mem_of_getElem? (i := 269) rfl, List.forall_mem_cons.mpr ⟨List.mem_of_getElem? (i := 270) rfl, List.forall_mem_cons.mpr ⟨List.mem_of_getElem? (i := 271) rfl, List.forall_mem_cons.mpr ⟨List.mem_of_getElem? (i := 272) rfl, List.forall_mem_cons.mpr ⟨List.mem_of_getElem? (i := 273) rfl, List.forall_mem_cons.mpr ⟨List.mem_of_getElem? (i := 47) rfl, List.forall_mem_cons.mpr ⟨List.mem_of_getElem? (i := 274) rfl, List.forall_mem_cons.mpr ⟨List.mem_of_getElem? (i := 4) rfl, List.forall_mem_cons.mpr ⟨List.mem_of_getElem? (i := 182) rfl, List.forall_mem_cons.mpr ⟨List.mem_of_getElem? (i := 183) rfl, List.forall_mem_cons.mpr ⟨List.mem_of_getElem? (i := 184) rfl, List.forall_mem_cons.mpr ⟨List.mem_of_getElem? (i := 185) rfl, List.forall_mem_cons.mpr ⟨List.mem_of_getElem? (i := 186) rfl, List.forall_mem_cons.mpr ⟨List.mem_of_getElem? (i := 187) rfl, List.forall_mem_cons.mpr ⟨List.mem_of_getElem? (i := 2) rfl, List.forall_mem_cons.mpr ⟨List.mem_of_getElem? (i := 188) rfl, List.forall_mem_cons.mpr ⟨List.mem_of_getElem? (i := 15) rfl, List.forall_mem_cons.mpr ⟨List.mem_of_getElem? (i := 189) rfl, List.forall_mem_cons.mpr ⟨List.mem_of_getElem? (i := 56) rfl, List.forall_mem_cons.mpr ⟨List.mem_of_getElem? (i := 57) rfl, List.forall_mem_cons.mpr ⟨List.mem_of_getElem? (i := 63) rfl, List.forall_mem_cons.mpr ⟨List.mem_of_getElem? (i := 64) rfl, List.forall_mem_cons.mpr ⟨List.mem_of_getElem? (i := 65) rfl, List.forall_mem_cons.mpr ⟨List.mem_of_getElem? (i := 190) rfl, List.forall_mem_cons.mpr ⟨List.mem_of_getElem? (i := 191) rfl, List.forall_mem_cons.mpr ⟨List.mem_of_getElem? (i := 192) rfl, List.forall_mem_cons.mpr ⟨List.mem_of_getElem? (i := 193) rfl, List.forall_mem_cons.mpr ⟨List.mem_of_getElem? (i := 151) rfl, List.forall_mem_cons.mpr ⟨List.mem_of_getElem? (i := 17) rfl, List.forall_mem_cons.mpr ⟨List.mem_of_getElem? (i := 194) rfl, List.forall_mem_cons.mpr ⟨List.mem_of_getElem? (i := 195) rfl, List.forall_mem_cons.mpr ⟨List.mem_of_getElem? (i := 196) rfl, List.forall_mem_cons.mpr ⟨List.mem_of_getElem? (i := 14) rfl, List.forall_mem_cons.mpr ⟨List.mem_of_getElem? (i := 197) rfl, List.forall_mem_cons.mpr ⟨List.mem_of_getElem? (i := 62) rfl, List.forall_mem_cons.mpr ⟨List.mem_of_getElem? (i := 27) rfl, List.forall_mem_cons.mpr ⟨List.mem_of_getElem? (i := 28) rfl, List.forall_mem_cons.mpr ⟨List.mem_of_getElem? (i := 198) rfl, List.forall_mem_cons.mpr ⟨List.mem_of_getElem? (i := 199) rfl, List.forall_mem_cons.mpr ⟨List.mem_of_getElem? (i := 200) rfl, List.forall_mem_cons.mpr ⟨List.mem_of_getElem? (i := 201) rfl, List.forall_mem_cons.mpr ⟨List.mem_of_getElem? (i := 29) rfl, List.forall_mem_cons.mpr ⟨List.mem_of_getElem? (i := 30) rfl, List.forall_mem_cons.mpr ⟨List.mem_of_getElem? (i := 31) rfl, List.forall_mem_cons.mpr ⟨List.mem_of_getElem? (i := 83) rfl, List.forall_mem_cons.mpr ⟨List.mem_of_getElem? (i := 90) rfl, List.forall_mem_cons.mpr ⟨List.mem_of_getElem? (i := 202) rfl, List.forall_mem_cons.mpr ⟨List.mem_of_getElem? (i := 203) rfl, List.forall_mem_cons.mpr ⟨List.mem_of_getElem? (i := 204) rfl, List.forall_mem_cons.mpr ⟨List.mem_of_getElem? (i := 33) rfl, List.forall_mem_cons.mpr ⟨List.mem_of_getElem? (i := 205) rfl, List.forall_mem_cons.mpr ⟨List.mem_of_getElem? (i := 37) rfl, List.forall_mem_cons.mpr ⟨List.mem_of_getElem? (i := 206) rfl, List.forall_mem_cons.mpr ⟨List.mem_of_getElem? (i := 38) rfl, List.forall_mem_cons.mpr ⟨List.mem_of_getElem? (i := 112) rfl, List.forall_mem_cons.mpr ⟨List.mem_of_getElem? (i := 113) rfl, List.forall_mem_cons.mpr ⟨List.mem_of_getElem? (i := 114) rfl, List.forall_mem_cons.mpr ⟨List.mem_of_getElem? (i := 117) rfl, List.forall_mem_cons.mpr ⟨List.mem_of_getElem? (i := 103) rfl, List.forall_mem_cons.mpr ⟨List.mem_of_getElem? (i := 105) rfl, List.forall_mem_cons.mpr ⟨List.mem_of_getElem? (i := 115) rfl, List.forall_mem_cons.mpr ⟨List.mem_of_getElem? (i := 116) rfl, List.forall_mem_cons.mpr ⟨List.mem_of_getElem? (i := 104) rfl, List.forall_mem_cons.mpr ⟨List.mem_of_getElem? (i := 118) rfl, List.forall_mem_cons.mpr ⟨List.mem_of_getElem? (i := 119) rfl, List.forall_mem_cons.mpr ⟨List.mem_of_getElem? (i := 106) rfl, List.forall_mem_cons.mpr ⟨List.mem_of_getElem? (i := 107) rfl, List.forall_mem_cons.mpr ⟨List.mem_of_getElem? (i := 207) rfl, List.forall_mem_cons.mpr ⟨List.mem_of_getElem? (i := 208) rfl, List.forall_mem_cons.mpr ⟨List.mem_of_getElem? (i := 209) rfl, List.forall_mem_cons.mpr ⟨List.mem_of_getElem? (i := 210) rfl, List.forall_mem_cons.mpr ⟨List.mem_of_getElem? (i := 211) rfl, List.forall_mem_cons.mpr ⟨List.mem_of_getElem? (i := 212) rfl, List.forall_mem_cons.mpr ⟨List.mem_of_getElem? (i := 213) rfl, List.forall_mem_cons.mpr ⟨List.mem_of_getElem? (i := 214) rfl, List.forall_mem_cons.mpr ⟨List.mem_of_getElem? (i := 215) rfl, List.forall_mem_cons.mpr ⟨List.mem_of_getElem? (i := 216) rfl, List.forall_mem_cons.mpr ⟨List.mem_of_getElem? (i := 217) rfl, List.forall_mem_cons.mpr ⟨List.mem_of_getElem? (i := 218) rfl, List.forall_mem_cons.mpr ⟨List.mem_of_getElem? (i := 219) rfl, List.forall_mem_cons.mpr ⟨List.mem_of_getElem? (i := 220) rfl, List.forall_mem_cons.mpr ⟨List.mem_of_getElem? (i := 221) rfl, List.forall_mem_cons.mpr ⟨List.mem_of_getElem? (i := 222) rfl, List.forall_mem_cons.mpr ⟨List.mem_of_getElem? (i := 223) rfl, List.forall_mem_cons.mpr ⟨List.mem_of_getElem? (i := 224) rfl, List.forall_mem_cons.mpr ⟨List.mem_of_getElem? (i := 225) rfl, List.forall_mem_cons.mpr ⟨List.mem_of_getElem? (i := 226) rfl, List.forall_mem_cons.mpr ⟨List.mem_of_getElem? (i := 162) rfl, List.forall_mem_cons.mpr ⟨List.mem_of_getElem? (i := 227) rfl, List.forall_mem_cons.mpr ⟨List.mem_of_getElem? (i := 228) rfl, List.forall_mem_cons.mpr ⟨List.mem_of_getElem? (i := 59) rfl, List.forall_mem_cons.mpr ⟨List.mem_of_getElem? (i := 60) rfl, List.forall_mem_cons.mpr ⟨List.mem_of_getElem? (i := 61) rfl, List.forall_mem_cons.mpr ⟨List.mem_of_getElem? (i := 229) rfl, List.forall_mem_cons.mpr ⟨List.mem_of_getElem? (i := 230) rfl, List.forall_mem_cons.mpr ⟨List.mem_of_getElem? (i := 231) rfl, List.forall_mem_cons.mpr ⟨List.mem_of_getElem? (i := 232) rfl, List.forall_mem_cons.mpr ⟨List.mem_of_getElem? (i := 233) rfl, List.forall_mem_cons.mpr ⟨List.mem_of_getElem? (i := 234) rfl, List.forall_mem_cons.mpr ⟨List.mem_of_getElem? (i := 235) rfl, List.forall_mem_cons.mpr ⟨List.mem_of_getElem? (i := 236) rfl, List.forall_mem_cons.mpr ⟨List.mem_of_getElem? (i := 146) rfl, List.forall_mem_cons.mpr ⟨List.mem_of_getElem? (i := 237) rfl, List.forall_mem_cons.mpr ⟨List.mem_of_getElem? (i := 238) rfl, List.forall_mem_cons.mpr ⟨List.mem_of_getElem? (i := 239) rfl, List.forall_mem_cons.mpr ⟨List.mem_of_getElem? (i := 240) rfl, List.forall_mem_cons.mpr ⟨List.mem_of_getElem? (i := 241) rfl, List.forall_mem_cons.mpr ⟨List.mem_of_getElem? (i := 242) rfl, List.forall_mem_cons.mpr ⟨List.mem_of_getElem? (i := 243) rfl, List.forall_mem_cons.mpr ⟨List.mem_of_getElem? (i := 244) rfl, List.forall_mem_cons.mpr ⟨List.mem_of_getElem? (i := 245) rfl, List.forall_mem_cons.mpr ⟨List.mem_of_getElem? (i := 246) rfl, List.forall_mem_cons.mpr ⟨List.mem_of_getElem? (i := 247) rfl, List.forall_mem_cons.mpr ⟨List.mem_of_getElem? (i := 248) rfl, List.forall_mem_cons.mpr ⟨List.mem_of_getElem? (i := 249) rfl, List.forall_mem_cons.mpr ⟨List.mem_of_getElem? (i := 250) rfl, List.forall_mem_cons.mpr ⟨List.mem_of_getElem? (i := 251) rfl, List.forall_mem_cons.mpr ⟨List.mem_of_getElem? (i := 252) rfl, List.forall_mem_cons.mpr ⟨List.mem_of_getElem? (i := 253) rfl, List.forall_mem_cons.mpr ⟨List.mem_of_getElem? (i := 254) rfl, List.forall_mem_cons.mpr ⟨List.mem_of_getElem? (i := 255) rfl, List.forall_mem_cons.mpr ⟨List.mem_of_getElem? (i := 256) rfl, List.forall_mem_cons.mpr ⟨List.mem_of_getElem? (i := 257) rfl, List.forall_mem_cons.mpr ⟨List.mem_of_getElem? (i := 258) rfl, List.forall_mem_cons.mpr ⟨List.mem_of_getElem? (i := 259) rfl, List.forall_mem_cons.mpr ⟨List.mem_of_getElem? (i := 260) rfl, List.forall_mem_cons.mpr ⟨List.mem_of_getElem? (i := 261) rfl, List.forall_mem_cons.mpr ⟨List.mem_of_getElem? (i := 262) rfl, List.forall_mem_cons.mpr ⟨List.mem_of_getElem? (i := 263) rfl, List.forall_mem_cons.mpr ⟨List.mem_of_getElem? (i := 264) rfl, List.forall_mem_cons.mpr ⟨List.mem_of_getElem? (i := 265) rfl, List.forall_mem_cons.mpr ⟨List.mem_of_getElem? (i := 266) rfl, List.forall_mem_cons.mpr ⟨List.mem_of_getElem? (i := 88) rfl, List.forall_mem_cons.mpr ⟨List.mem_of_getElem? (i := 275) rfl, List.forall_mem_cons.mpr ⟨List.mem_of_getElem? (i := 276) rfl, List.forall_mem_cons.mpr ⟨List.mem_of_getElem? (i := 277) rfl, List.forall_mem_cons.mpr ⟨List.mem_of_getElem? (i := 278) rfl, List.forall_mem_cons.mpr ⟨List.mem_of_getElem? (i := 279) rfl, List.forall_mem_cons.mpr ⟨List.mem_of_getElem? (i := 280) rfl, List.forall_mem_cons.mpr ⟨List.mem_of_getElem? (i := 281) rfl, List.forall_mem_cons.mpr ⟨List.mem_of_getElem? (i := 282) rfl, List.forall_mem_cons.mpr ⟨List.mem_of_getElem? (i := 283) rfl, List.forall_mem_cons.mpr ⟨List.mem_of_getElem? (i := 284) rfl, List.forall_mem_cons.mpr ⟨List.mem_of_getElem? (i := 285) rfl, List.forall_mem_cons.mpr ⟨List.mem_of_getElem? (i := 286) rfl, List.forall_mem_cons.mpr ⟨List.mem_of_getElem? (i := 287) rfl, List.forall_mem_cons.mpr ⟨List.mem_of_getElem? (i := 288) rfl, List.forall_mem_cons.mpr ⟨List.mem_of_getElem? (i := 289) rfl, List.forall_mem_cons.mpr ⟨List.mem_of_getElem? (i := 290) rfl, List.forall_mem_cons.mpr ⟨List.mem_of_getElem? (i := 291) rfl, List.forall_mem_cons.mpr ⟨List.mem_of_getElem? (i := 95) rfl, List.forall_mem_cons.mpr ⟨List.mem_of_getElem? (i := 96) rfl, List.forall_mem_cons.mpr ⟨List.mem_of_getElem? (i := 97) rfl, List.forall_mem_cons.mpr ⟨List.mem_of_getElem? (i := 98) rfl, List.forall_mem_cons.mpr ⟨List.mem_of_getElem? (i := 292) rfl, List.forall_mem_cons.mpr ⟨List.mem_of_getElem? (i := 293) rfl, List.forall_mem_cons.mpr ⟨List.mem_of_getElem? (i := 294) rfl, List.forall_mem_cons.mpr ⟨List.mem_of_getElem? (i := 295) rfl, List.forall_mem_cons.mpr ⟨List.mem_of_getElem? (i := 296) rfl, List.forall_mem_cons.mpr ⟨List.mem_of_getElem? (i := 297) rfl, List.forall_mem_cons.mpr ⟨List.mem_of_getElem? (i := 298) rfl, List.forall_mem_cons.mpr ⟨List.mem_of_getElem? (i := 299) rfl, List.forall_mem_cons.mpr ⟨List.mem_of_getElem? (i := 300) rfl, List.forall_mem_cons.mpr ⟨List.mem_of_getElem? (i := 301) rfl, List.forall_mem_cons.mpr ⟨List.mem_of_getElem? (i := 302) rfl, List.forall_mem_cons.mpr ⟨List.mem_of_getElem? (i := 303) rfl, List.forall_mem_cons.mpr ⟨List.mem_of_getElem? (i := 304) rfl, List.forall_mem_cons.mpr ⟨List.mem_of_getElem? (i := 305) rfl, List.forall_mem_cons.mpr ⟨List.mem_of_getElem? (i := 306) rfl, List.forall_mem_cons.mpr ⟨List.mem_of_getElem? (i := 307) rfl, List.forall_mem_cons.mpr ⟨List.mem_of_getElem? (i := 308) rfl, List.forall_mem_cons.mpr ⟨List.mem_of_getElem? (i := 309) rfl, List.forall_mem_cons.mpr ⟨List.mem_of_getElem? (i := 310) rfl, List.forall_mem_cons.mpr ⟨List.mem_of_getElem? (i := 311) rfl, List.forall_mem_cons.mpr ⟨List.mem_of_getElem? (i := 312) rfl, List.forall_mem_cons.mpr ⟨List.mem_of_getElem? (i := 89) rfl, List.forall_mem_cons.mpr ⟨List.mem_of_getElem? (i := 313) rfl, List.forall_mem_cons.mpr ⟨List.mem_of_getElem? (i := 314) rfl, List.forall_mem_cons.mpr ⟨List.mem_of_getElem? (i := 315) rfl, List.forall_mem_cons.mpr ⟨List.mem_of_getElem? (i := 316) rfl, List.forall_mem_cons.mpr ⟨List.mem_of_getElem? (i := 317) rfl, List.forall_mem_cons.mpr ⟨List.mem_of_getElem? (i := 318) rfl, List.forall_mem_cons.mpr ⟨List.mem_of_getElem? (i := 319) rfl, List.forall_mem_cons.mpr ⟨List.mem_of_getElem? (i := 320) rfl, List.forall_mem_cons.mpr ⟨List.mem_of_getElem? (i := 321) rfl, List.forall_mem_cons.mpr ⟨List.mem_of_getElem? (i := 322) rfl, List.forall_mem_cons.mpr ⟨List.mem_of_getElem? (i := 323) rfl, List.forall_mem_cons.mpr ⟨List.mem_of_getElem? (i := 324) rfl, List.forall_mem_cons.mpr ⟨List.mem_of_getElem? (i := 325) rfl, List.forall_mem_cons.mpr ⟨List.mem_of_getElem? (i := 326) rfl, List.forall_mem_cons.mpr ⟨List.mem_of_getElem? (i := 327) rfl, List.forall_mem_cons.mpr ⟨List.mem_of_getElem? (i := 328) rfl, List.forall_mem_cons.mpr ⟨List.mem_of_getElem? (i := 329) rfl, List.forall_mem_cons.mpr ⟨List.mem_of_getElem? (i := 330) rfl, List.forall_mem_cons.mpr ⟨List.mem_of_getElem? (i := 331) rfl, List.forall_mem_cons.mpr ⟨List.mem_of_getElem? (i := 332) rfl, List.forall_mem_cons.mpr ⟨List.mem_of_getElem? (i := 333) rfl, List.forall_mem_cons.mpr ⟨List.mem_of_getElem? (i := 334) rfl, List.forall_mem_cons.mpr ⟨List.mem_of_getElem? (i := 335) rfl, List.forall_mem_cons.mpr ⟨List.mem_of_getElem? (i := 336) rfl, List.forall_mem_cons.mpr ⟨List.mem_of_getElem? (i := 337) rfl, List.forall_mem_cons.mpr ⟨List.mem_of_getElem? (i := 338) rfl, List.forall_mem_cons.mpr ⟨List.mem_of_getElem? (i := 339) rfl, List.forall_mem_cons.mpr ⟨List.mem_of_getElem? (i := 340) rfl, List.forall_mem_cons.mpr ⟨List.mem_of_getElem? (i := 341) rfl, List.forall_mem_cons.mpr ⟨List.mem_of_getElem? (i := 342) rfl, List.forall_mem_cons.mpr ⟨List.mem_of_getElem? (i := 343) rfl, List.forall_mem_cons.mpr ⟨List.mem_of_getElem? (i := 344) rfl, List.forall_mem_cons.mpr ⟨List.mem_of_getElem? (i := 345) rfl, List.forall_mem_cons.mpr ⟨List.mem_of_getElem? (i := 346) rfl, List.forall_mem_cons.mpr ⟨List.mem_of_getElem? (i := 120) rfl, List.forall_mem_cons.mpr ⟨List.mem_of_getElem? (i := 121) rfl, List.forall_mem_cons.mpr ⟨List.mem_of_getElem? (i := 122) rfl, List.forall_mem_cons.mpr ⟨List.mem_of_getElem? (i := 123) rfl, List.forall_mem_cons.mpr ⟨List.mem_of_getElem? (i := 124) rfl, List.forall_mem_cons.mpr ⟨List.mem_of_getElem? (i := 125) rfl, List.forall_mem_cons.mpr ⟨List.mem_of_getElem? (i := 126) rfl, List.forall_mem_cons.mpr ⟨List.mem_of_getElem? (i := 127) rfl, List.forall_mem_cons.mpr ⟨List.mem_of_getElem? (i := 128) rfl, List.forall_mem_cons.mpr ⟨List.mem_of_getElem? (i := 347) rfl, List.forall_mem_cons.mpr ⟨List.mem_of_getElem? (i := 348) rfl, List.forall_mem_cons.mpr ⟨List.mem_of_getElem? (i := 349) rfl, List.forall_mem_cons.mpr ⟨List.mem_of_getElem? (i := 350) rfl, List.forall_mem_cons.mpr ⟨List.mem_of_getElem? (i := 351) rfl, List.forall_mem_cons.mpr ⟨List.mem_of_getElem? (i := 352) rfl, List.forall_mem_cons.mpr ⟨List.mem_of_getElem? (i := 353) rfl, List.forall_mem_cons.mpr ⟨List.mem_of_getElem? (i := 354) rfl, List.forall_mem_cons.mpr ⟨List.mem_of_getElem? (i := 168) rfl, List.forall_mem_cons.mpr ⟨List.mem_of_getElem? (i := 169) rfl, List.forall_mem_cons.mpr ⟨List.mem_of_getElem? (i := 170) rfl, List.forall_mem_cons.mpr ⟨List.mem_of_getElem? (i := 171) rfl, List.forall_mem_cons.mpr ⟨List.mem_of_getElem? (i := 172) rfl, List.forall_mem_cons.mpr ⟨List.mem_of_getElem? (i := 355) rfl, List.forall_mem_cons.mpr ⟨List.mem_of_getElem? (i := 356) rfl, List.forall_mem_cons.mpr ⟨List.mem_of_getElem? (i := 357) rfl, List.forall_mem_cons.mpr ⟨List.mem_of_getElem? (i := 358) rfl, List.forall_mem_cons.mpr ⟨List.mem_of_getElem? (i := 359) rfl, List.forall_mem_cons.mpr ⟨List.mem_of_getElem? (i := 85) rfl, List.forall_mem_cons.mpr ⟨List.mem_of_getElem? (i := 86) rfl, List.forall_mem_cons.mpr ⟨List.mem_of_getElem? (i := 87) rfl, List.forall_mem_cons.mpr ⟨List.mem_of_getElem? (i := 91) rfl, List.forall_mem_cons.mpr ⟨List.mem_of_getElem? (i := 92) rfl, List.forall_mem_cons.mpr ⟨List.mem_of_getElem? (i := 93) rfl, List.forall_mem_cons.mpr ⟨List.mem_of_getElem? (i := 94) rfl, List.forall_mem_cons.mpr ⟨List.mem_of_getElem? (i := 99) rfl, List.forall_mem_cons.mpr ⟨List.mem_of_getElem? (i := 100) rfl, List.forall_mem_cons.mpr ⟨List.mem_of_getElem? (i := 101) rfl, List.forall_mem_cons.mpr ⟨List.mem_of_getElem? (i := 102) rfl, List.forall_mem_cons.mpr ⟨List.mem_of_getElem? (i := 360) rfl, List.forall_mem_cons.mpr ⟨List.mem_of_getElem? (i := 361) rfl, List.forall_mem_cons.mpr ⟨List.mem_of_getElem? (i := 362) rfl, List.forall_mem_cons.mpr ⟨List.mem_of_getElem? (i := 363) rfl, List.forall_mem_cons.mpr ⟨List.mem_of_getElem? (i := 364) rfl, List.forall_mem_cons.mpr ⟨List.mem_of_getElem? (i := 365) rfl, List.forall_mem_cons.mpr ⟨List.mem_of_getElem? (i := 366) rfl, List.forall_mem_cons.mpr ⟨List.mem_of_getElem? (i := 367) rfl, List.forall_mem_cons.mpr ⟨List.mem_of_getElem? (i := 368) rfl, List.forall_mem_cons.mpr ⟨List.mem_of_getElem? (i := 369) rfl, List.forall_mem_cons.mpr ⟨List.mem_of_getElem? (i := 370) rfl, List.forall_mem_cons.mpr ⟨List.mem_of_getElem? (i := 371) rfl, List.forall_mem_cons.mpr ⟨List.mem_of_getElem? (i := 372) rfl, List.forall_mem_cons.mpr ⟨List.mem_of_getElem? (i := 373) rfl, List.forall_mem_cons.mpr ⟨List.mem_of_getElem? (i := 374) rfl, List.forall_mem_cons.mpr ⟨List.mem_of_getElem? (i := 375) rfl, List.forall_mem_cons.mpr ⟨List.mem_of_getElem? (i := 376) rfl, List.forall_mem_cons.mpr ⟨List.mem_of_getElem? (i := 377) rfl, List.forall_mem_cons.mpr ⟨List.mem_of_getElem? (i := 378) rfl, List.forall_mem_cons.mpr ⟨List.mem_of_getElem? (i := 379) rfl, List.forall_mem_cons.mpr ⟨List.mem_of_getElem? (i := 380) rfl, List.forall_mem_cons.mpr ⟨List.mem_of_getElem? (i := 381) rfl, List.forall_mem_cons.mpr ⟨List.mem_of_getElem? (i := 382) rfl, List.forall_mem_cons.mpr ⟨List.mem_of_getElem? (i := 383) rfl, List.forall_mem_cons.mpr ⟨List.mem_of_getElem? (i := 384) rfl, List.forall_mem_cons.mpr ⟨List.mem_of_getElem? (i := 385) rfl, List.forall_mem_cons.mpr ⟨List.mem_of_getElem? (i := 386) rfl, List.forall_mem_cons.mpr ⟨List.mem_of_getElem? (i := 387) rfl, List.forall_mem_cons.mpr ⟨List.mem_of_getElem? (i := 388) rfl, List.forall_mem_cons.mpr ⟨List.mem_of_getElem? (i := 389) rfl, List.forall_mem_cons.mpr ⟨List.mem_of_getElem? (i := 390) rfl, List.forall_mem_cons.mpr ⟨List.mem_of_getElem? (i := 391) rfl, List.forall_mem_cons.mpr ⟨List.mem_of_getElem? (i := 392) rfl, List.forall_mem_cons.mpr ⟨List.mem_of_getElem? (i := 393) rfl, List.forall_mem_cons.mpr ⟨List.mem_of_getElem? (i := 394) rfl, List.forall_mem_cons.mpr ⟨List.mem_of_getElem? (i := 395) rfl, List.forall_mem_cons.mpr ⟨List.mem_of_getElem? (i := 396) rfl, List.forall_mem_cons.mpr ⟨List.mem_of_getElem? (i := 397) rfl, List.forall_mem_cons.mpr ⟨List.mem_of_getElem? (i := 398) rfl, List.forall_mem_cons.mpr ⟨List.mem_of_getElem? (i := 399) rfl, List.forall_mem_cons.mpr ⟨List.mem_of_getElem? (i := 400) rfl, List.forall_mem_cons.mpr ⟨List.mem_of_getElem? (i := 401) rfl, List.forall_mem_cons.mpr ⟨List.mem_of_getElem? (i := 402) rfl, List.forall_mem_cons.mpr ⟨List.mem_of_getElem? (i := 403) rfl, List.forall_mem_cons.mpr ⟨List.mem_of_getElem? (i := 404) rfl, List.forall_mem_cons.mpr ⟨List.mem_of_getElem? (i := 414) rfl, List.forall_mem_cons.mpr ⟨List.mem_of_getElem? (i := 415) rfl, List.forall_mem_cons.mpr ⟨List.mem_of_getElem? (i := 416) rfl, List.forall_mem_cons.mpr ⟨List.mem_of_getElem? (i := 417) rfl, List.forall_mem_cons.mpr ⟨List.mem_of_getElem? (i := 418) rfl, List.forall_mem_cons.mpr ⟨List.mem_of_getElem? (i := 419) rfl, List.forall_mem_cons.mpr ⟨List.mem_of_getElem? (i := 420) rfl, List.forall_mem_cons.mpr ⟨List.mem_of_getElem? (i := 421) rfl, List.forall_mem_cons.mpr ⟨List.mem_of_getElem? (i := 422) rfl, List.forall_mem_cons.mpr ⟨List.mem_of_getElem? (i := 423) rfl, List.forall_mem_cons.mpr ⟨List.mem_of_getElem? (i := 424) rfl, List.forall_mem_cons.mpr ⟨List.mem_of_getElem? (i := 425) rfl, List.forall_mem_cons.mpr ⟨List.mem_of_getElem? (i := 426) rfl, List.forall_mem_cons.mpr ⟨List.mem_of_getElem? (i := 427) rfl, List.forall_mem_cons.mpr ⟨List.mem_of_getElem? (i := 428) rfl, wk_mn⟩⟩⟩⟩⟩⟩⟩⟩⟩⟩⟩⟩⟩⟩⟩⟩⟩⟩⟩⟩⟩⟩⟩⟩⟩⟩⟩⟩⟩⟩⟩⟩⟩⟩⟩⟩⟩⟩⟩⟩⟩⟩⟩⟩⟩⟩⟩⟩⟩⟩⟩⟩⟩⟩⟩⟩⟩⟩⟩⟩⟩⟩⟩⟩⟩⟩⟩⟩⟩⟩⟩⟩⟩⟩⟩⟩⟩⟩⟩⟩⟩⟩⟩⟩⟩⟩⟩⟩⟩⟩⟩⟩⟩⟩⟩⟩⟩⟩⟩⟩⟩⟩⟩⟩⟩⟩⟩⟩⟩⟩⟩⟩⟩⟩⟩⟩⟩⟩⟩⟩⟩⟩⟩⟩⟩⟩⟩⟩⟩⟩⟩⟩⟩⟩⟩⟩⟩⟩⟩⟩⟩⟩⟩⟩⟩⟩⟩⟩⟩⟩⟩⟩⟩⟩⟩⟩⟩⟩⟩⟩⟩⟩⟩⟩⟩⟩⟩⟩⟩⟩⟩⟩⟩⟩⟩⟩⟩⟩⟩⟩⟩⟩⟩⟩⟩⟩⟩⟩⟩⟩⟩⟩⟩⟩⟩⟩⟩⟩⟩⟩⟩⟩⟩⟩⟩⟩⟩⟩⟩⟩⟩⟩⟩⟩⟩⟩⟩⟩⟩⟩⟩⟩⟩⟩⟩⟩⟩⟩⟩⟩⟩⟩⟩⟩⟩⟩⟩⟩⟩⟩⟩⟩⟩⟩⟩⟩⟩⟩⟩⟩⟩⟩⟩⟩⟩⟩⟩⟩⟩⟩⟩⟩⟩⟩⟩⟩⟩⟩⟩⟩⟩⟩⟩⟩⟩⟩⟩⟩⟩⟩⟩⟩⟩⟩⟩⟩⟩⟩⟩⟩⟩⟩⟩⟩⟩⟩⟩⟩⟩⟩⟩⟩⟩⟩⟩⟩⟩⟩) (by decide +kernel)
set_option maxRecDepth 20000 in
theorem gL_law_L_acts : GoodIn wsL_law (va_wsS RL 124 yL_acts wsL_acts) := goodIn_app (goodIn_sub (List.forall_mem_cons.mpr ⟨List.mem_of_getElem? (i := 267) rfl, List.forall_mem_cons.mpr ⟨List.mem_of_getElem? (i := 268) rfl, List.forall_mem_cons.mpr ⟨List.mem_of_getElem? (i := 47) rfl, wk_mn⟩⟩⟩) (by decide +kernel)) ggL_law_L_acts
set_option maxRecDepth 20000 in
theorem ggL_law_L_low : GoodIn wsL_law wsL_low := goodIn_sub (List.forall_mem_cons.mpr ⟨List.mem_of_getElem? (i := 274) rfl, List.forall_mem_cons.mpr ⟨List.mem_of_getElem? (i := 4) rfl, wk_mn⟩⟩) (by decide +kernel)
set_option maxRecDepth 20000 in
theorem gL_law_L_low : GoodIn wsL_law (va_wsS RL 69 yL_low wsL_low) := goodIn_app (goodIn_sub (List.forall_mem_cons.mpr ⟨List.mem_of_getElem? (i := 272) rfl, List.forall_mem_cons.mpr ⟨List.mem_of_getElem? (i := 273) rfl, List.forall_mem_cons.mpr ⟨List.mem_of_getElem? (i := 47) rfl, wk_mn⟩⟩⟩) (by decide +kernel)) ggL_law_L_low
set_option maxRecDepth 20000 in
theorem ggL_law_X3_count : GoodIn wsL_law wsX3_count := goodIn_sub (List.forall_mem_cons.mpr ⟨List.mem_of_getElem? (i := 150) rfl, List.forall_mem_cons.mpr ⟨List.mem_of_getElem? (i := 151) rfl, List.forall_mem_cons.mpr ⟨List.mem_of_getElem? (i := 21) rfl, List.forall_mem_cons.mpr ⟨List.mem_of_getElem? (i := 152) rfl, List.forall_mem_cons.mpr ⟨List.mem_of_getElem? (i := 15) rfl, List.forall_mem_cons.mpr ⟨List.mem_of_getElem? (i := 153) rfl, List.forall_mem_cons.mpr ⟨List.mem_of_getElem? (i := 63) rfl, List.forall_mem_cons.mpr ⟨List.mem_of_getElem? (i := 64) rfl, List.forall_mem_cons.mpr ⟨List.mem_of_getElem? (i := 2) rfl, List.forall_mem_cons.mpr ⟨List.mem_of_getElem? (i := 65) rfl, List.forall_mem_cons.mpr ⟨List.mem_of_getElem? (i := 154) rfl, List.forall_mem_cons.mpr ⟨List.mem_of_getElem? (i := 155) rfl, List.forall_mem_cons.mpr ⟨List.mem_of_getElem? (i := 156) rfl, List.forall_mem_cons.mpr ⟨List.mem_of_getElem? (i := 14) rfl, List.forall_mem_cons.mpr ⟨List.mem_of_getElem? (i := 157) rfl, List.forall_mem_cons.mpr ⟨List.mem_of_getElem? (i := 62) rfl, List.forall_mem_cons.mpr ⟨List.mem_of_getElem? (i := 83) rfl, List.forall_mem_cons.mpr ⟨List.mem_of_getElem? (i := 90) rfl, List.forall_mem_cons.mpr ⟨List.mem_of_getElem? (i := 158) rfl, List.forall_mem_cons.mpr ⟨List.mem_of_getElem? (i := 159) rfl, List.forall_mem_cons.mpr ⟨List.mem_of_getElem? (i := 160) rfl, List.forall_mem_cons.mpr ⟨List.mem_of_getElem? (i := 161) rfl, List.forall_mem_cons.mpr ⟨List.mem_of_getElem? (i := 27) rfl, List.forall_mem_cons.mpr ⟨List.mem_of_getElem? (i := 162) rfl, List.forall_mem_cons.mpr ⟨List.mem_of_getElem? (i := 163) rfl, List.forall_mem_cons.mpr ⟨List.mem_of_getElem? (i := 164) rfl, List.forall_mem_cons.mpr ⟨List.mem_of_getElem? (i := 165) rfl, List.forall_mem_cons.mpr ⟨List.mem_of_getElem? (i := 166) rfl, List.forall_mem_cons.mpr ⟨List.mem_of_getElem? (i := 167) rfl, List.forall_mem_cons.mpr ⟨List.mem_of_getElem? (i := 72) rfl, List.forall_mem_cons.mpr ⟨List.mem_of_getElem? (i := 73) rfl, List.forall_mem_cons.mpr ⟨List.mem_of_getElem? (i := 33) rfl, List.forall_mem_cons.mpr ⟨List.mem_of_getElem? (i := 74) rfl, List.forall_mem_cons.mpr ⟨List.mem_of_getElem? (i := 38) rfl, List.forall_mem_cons.mpr ⟨List.mem_of_getElem? (i := 168) rfl, List.forall_mem_cons.mpr ⟨List.mem_of_getElem? (i := 169) rfl, List.forall_mem_cons.mpr ⟨List.mem_of_getElem? (i := 170) rfl, List.forall_mem_cons.mpr ⟨List.mem_of_getElem? (i := 171) rfl, List.forall_mem_cons.mpr ⟨List.mem_of_getElem? (i := 172) rfl, List.forall_mem_cons.mpr ⟨List.mem_of_getElem? (i := 173) rfl, List.forall_mem_cons.mpr ⟨List.mem_of_getElem? (i := 174) rfl, List.forall_mem_cons.mpr ⟨List.mem_of_getElem? (i := 175) rfl, List.forall_mem_cons.mpr ⟨List.mem_of_getElem? (i := 176) rfl, List.forall_mem_cons.mpr ⟨List.mem_of_getElem? (i := 177) rfl, List.forall_mem_cons.mpr ⟨List.mem_of_getElem? (i := 392) rfl, List.forall_mem_cons.mpr ⟨List.mem_of_getElem? (i := 393) rfl, List.forall_mem_cons.mpr ⟨List.mem_of_getElem? (i := 394) rfl, List.forall_mem_cons.mpr ⟨List.mem_of_getElem? (i := 395) rfl, List.forall_mem_cons.mpr ⟨List.mem_of_getElem? (i := 396) rfl, List.forall_mem_cons.mpr ⟨List.mem_of_getElem? (i := 405) rfl, List.forall_mem_cons.mpr ⟨List.mem_of_getElem? (i := 406) rfl, List.forall_mem_cons.mpr ⟨List.mem_of_getElem? (i := 407) rfl, List.forall_mem_cons.mpr ⟨List.mem_of_getElem? (i := 408) rfl, List.forall_mem_cons.mpr ⟨List.mem_of_getElem? (i := 409) rfl, List.forall_mem_cons.mpr ⟨List.mem_of_getElem? (i := 410) rfl, List.forall_mem_cons.mpr ⟨List.mem_of_getElem? (i := 411) rfl, List.forall_mem_cons.mpr ⟨List.mem_of_getElem? (i := 412) rfl, List.forall_mem_cons.mpr ⟨List.mem_of_getElem? (i := 413) rfl, List.forall_mem_cons.mpr ⟨List.mem_of_getElem? (i := 397) rfl, List.forall_mem_cons.mpr ⟨List.mem_of_getElem? (i := 398) rfl, List.forall_mem_cons.mpr ⟨List.mem_of_getElem? (i := 399) rfl, List.forall_mem_cons.mpr ⟨List.mem_of_getElem? (i := 400) rfl, List.forall_mem_cons.mpr ⟨List.mem_of_getElem? (i := 401) rfl, List.forall_mem_cons.mpr ⟨List.mem_of_getElem? (i := 402) rfl, List.forall_mem_cons.mpr ⟨List.mem_of_getElem? (i := 403) rfl, List.forall_mem_cons.mpr ⟨List.mem_of_getElem? (i := 404) rfl, List.forall_mem_cons.mpr ⟨List.mem_of_getElem? (i := 414) rfl, List.forall_mem_cons.mpr ⟨List.mem_of_getElem? (i := 415) rfl, List.forall_mem_cons.mpr ⟨List.mem_of_getElem? (i := 416) rfl, List.forall_mem_cons.mpr ⟨List.mem_of_getElem? (i := 417) rfl, List.forall_mem_cons.mpr ⟨List.mem_of_getElem? (i := 418) rfl, List.forall_mem_cons.mpr ⟨List.mem_of_getElem? (i := 419) rfl, List.forall_mem_cons.mpr ⟨List.mem_of_getElem? (i := 420) rfl, List.forall_mem_cons.mpr ⟨List.mem_of_getElem? (i := 421) rfl, List.forall_mem_cons.mpr ⟨List.mem_of_getElem? (i := 422) rfl, List.forall_mem_cons.mpr ⟨List.mem_of_getElem? (i := 423) rfl, List.forall_mem_cons.mpr ⟨List.mem_of_getElem? (i := 424) rfl, List.forall_mem_cons.mpr ⟨List.mem_of_getElem? (i := 425) rfl, List.forall_mem_cons.mpr ⟨List.mem_of_getElem? (i := 426) rfl, List.forall_mem_cons.mpr ⟨List.mem_of_getElem? (i := 427) rfl, List.forall_mem_cons.mpr ⟨List.mem_of_getElem? (i := 428) rfl, wk_mn⟩⟩⟩⟩⟩⟩⟩⟩⟩⟩⟩⟩⟩⟩⟩⟩⟩⟩⟩⟩⟩⟩⟩⟩⟩⟩⟩⟩⟩⟩⟩⟩⟩⟩⟩⟩⟩⟩⟩⟩⟩⟩⟩⟩⟩⟩⟩⟩⟩⟩⟩⟩⟩⟩⟩⟩⟩⟩⟩⟩⟩⟩⟩⟩⟩⟩⟩⟩⟩⟩⟩⟩⟩⟩⟩⟩⟩⟩⟩⟩⟩) (by decide +kernel)
set_option maxRecDepth 20000 in
theorem gL_law_X3_count : GoodIn wsL_law (wsV RL 111 RX3 yX3_count wsX3_count) := goodIn_app (goodIn_sub (List.forall_mem_cons.mpr ⟨List.mem_of_getElem? (i := 147) rfl, List.forall_mem_cons.mpr ⟨List.mem_of_getElem? (i := 148) rfl, List.forall_mem_cons.mpr ⟨List.mem_of_getElem? (i := 149) rfl, List.forall_mem_cons.mpr ⟨List.mem_of_getElem? (i := 2) rfl, wk_mn⟩⟩⟩⟩) (by decide +kernel)) ggL_law_X3_count
set_option maxRecDepth 20000 in
theorem ggL_law_X3_roomOf : GoodIn wsL_law wsX3_roomOf := goodIn_sub (List.forall_mem_cons.mpr ⟨List.mem_of_getElem? (i := 78) rfl, List.forall_mem_cons.mpr ⟨List.mem_of_getElem? (i := 15) rfl, List.forall_mem_cons.mpr ⟨List.mem_of_getElem? (i := 56) rfl, List.forall_mem_cons.mpr ⟨List.mem_of_getElem? (i := 58) rfl, List.forall_mem_cons.mpr ⟨List.mem_of_getElem? (i := 59) rfl, List.forall_mem_cons.mpr ⟨List.mem_of_getElem? (i := 60) rfl, List.forall_mem_cons.mpr ⟨List.mem_of_getElem? (i := 14) rfl, List.forall_mem_cons.mpr ⟨List.mem_of_getElem? (i := 61) rfl, List.forall_mem_cons.mpr ⟨List.mem_of_getElem? (i := 62) rfl, List.forall_mem_cons.mpr ⟨List.mem_of_getElem? (i := 63) rfl, List.forall_mem_cons.mpr ⟨List.mem_of_getElem? (i := 64) rfl, List.forall_mem_cons.mpr ⟨List.mem_of_getElem? (i := 2) rfl, List.forall_mem_cons.mpr ⟨List.mem_of_getElem? (i := 65) rfl, List.forall_mem_cons.mpr ⟨List.mem_of_getElem? (i := 79) rfl, List.forall_mem_cons.mpr ⟨List.mem_of_getElem? (i := 80) rfl, List.forall_mem_cons.mpr ⟨List.mem_of_getElem? (i := 81) rfl, List.forall_mem_cons.mpr ⟨List.mem_of_getElem? (i := 82) rfl, List.forall_mem_cons.mpr ⟨List.mem_of_getElem? (i := 83) rfl, List.forall_mem_cons.mpr ⟨List.mem_of_getElem? (i := 29) rfl, List.forall_mem_cons.mpr ⟨List.mem_of_getElem? (i := 84) rfl, List.forall_mem_cons.mpr ⟨List.mem_of_getElem? (i := 85) rfl, List.forall_mem_cons.mpr ⟨List.mem_of_getElem? (i := 86) rfl, List.forall_mem_cons.mpr ⟨List.mem_of_getElem? (i := 87) rfl, List.forall_mem_cons.mpr ⟨List.mem_of_getElem? (i := 27) rfl, List.forall_mem_cons.mpr ⟨List.mem_of_getElem? (i := 88) rfl, List.forall_mem_cons.mpr ⟨List.mem_of_getElem? (i := 89) rfl, List.forall_mem_cons.mpr ⟨List.mem_of_getElem? (i := 30) rfl, List.forall_mem_cons.mpr ⟨List.mem_of_getElem? (i := 90) rfl, List.forall_mem_cons.mpr ⟨List.mem_of_getElem? (i := 91) rfl, List.forall_mem_cons.mpr ⟨List.mem_of_getElem? (i := 92) rfl, List.forall_mem_cons.mpr ⟨List.mem_of_getElem? (i := 93) rfl, List.forall_mem_cons.mpr ⟨List.mem_of_getElem? (i := 94) rfl, List.forall_mem_cons.mpr ⟨List.mem_of_getElem? (i := 95) rfl, List.forall_mem_cons.mpr ⟨List.mem_of_getElem? (i := 96) rfl, List.forall_mem_cons.mpr ⟨List.mem_of_getElem? (i := 97) rfl, List.forall_mem_cons.mpr ⟨List.mem_of_getElem? (i := 98) rfl, List.forall_mem_cons.mpr ⟨List.mem_of_getElem? (i := 99) rfl, List.forall_mem_cons.mpr ⟨List.mem_of_getElem? (i := 100) rfl, List.forall_mem_cons.mpr ⟨List.mem_of_getElem? (i := 101) rfl, List.forall_mem_cons.mpr ⟨List.mem_of_getElem? (i := 33) rfl, List.forall_mem_cons.mpr ⟨List.mem_of_getElem? (i := 102) rfl, List.forall_mem_cons.mpr ⟨List.mem_of_getElem? (i := 103) rfl, List.forall_mem_cons.mpr ⟨List.mem_of_getElem? (i := 104) rfl, List.forall_mem_cons.mpr ⟨List.mem_of_getElem? (i := 105) rfl, List.forall_mem_cons.mpr ⟨List.mem_of_getElem? (i := 106) rfl, List.forall_mem_cons.mpr ⟨List.mem_of_getElem? (i := 107) rfl, List.forall_mem_cons.mpr ⟨List.mem_of_getElem? (i := 37) rfl, List.forall_mem_cons.mpr ⟨List.mem_of_getElem? (i := 108) rfl, List.forall_mem_cons.mpr ⟨List.mem_of_getElem? (i := 109) rfl, List.forall_mem_cons.mpr ⟨List.mem_of_getElem? (i := 110) rfl, List.forall_mem_cons.mpr ⟨List.mem_of_getElem? (i := 111) rfl, List.forall_mem_cons.mpr ⟨List.mem_of_getElem? (i := 112) rfl, List.forall_mem_cons.mpr ⟨List.mem_of_getElem? (i := 113) rfl, List.forall_mem_cons.mpr ⟨List.mem_of_getElem? (i := 114) rfl, List.forall_mem_cons.mpr ⟨List.mem_of_getElem? (i := 115) rfl, List.forall_mem_cons.mpr ⟨List.mem_of_getElem? (i := 116) rfl, List.forall_mem_cons.mpr ⟨List.mem_of_getElem? (i := 117) rfl, List.forall_mem_cons.mpr ⟨List.mem_of_getElem? (i := 118) rfl, List.forall_mem_cons.mpr ⟨List.mem_of_getElem? (i := 119) rfl, List.forall_mem_cons.mpr ⟨List.mem_of_getElem? (i := 392) rfl, List.forall_mem_cons.mpr ⟨List.mem_of_getElem? (i := 393) rfl, List.forall_mem_cons.mpr ⟨List.mem_of_getElem? (i := 394) rfl, List.forall_mem_cons.mpr ⟨List.mem_of_getElem? (i := 395) rfl, List.forall_mem_cons.mpr ⟨List.mem_of_getElem? (i := 396) rfl, List.forall_mem_cons.mpr ⟨List.mem_of_getElem? (i := 397) rfl, List.forall_mem_cons.mpr ⟨List.mem_of_getElem? (i := 398) rfl, List.forall_mem_cons.mpr ⟨List.mem_of_getElem? (i := 399) rfl, List.forall_mem_cons.mpr ⟨List.mem_of_getElem? (i := 400) rfl, List.forall_mem_cons.mpr ⟨List.mem_of_getElem? (i := 401) rfl, List.forall_mem_cons.mpr ⟨List.mem_of_getElem? (i := 402) rfl, List.forall_mem_cons.mpr ⟨List.mem_of_getElem? (i := 403) rfl, List.forall_mem_cons.mpr ⟨List.mem_of_getElem? (i := 404) rfl, List.forall_mem_cons.mpr ⟨List.mem_of_getElem? (i := 414) rfl, List.forall_mem_cons.mpr ⟨List.mem_of_getElem? (i := 415) rfl, List.forall_mem_cons.mpr ⟨List.mem_of_getElem? (i := 416) rfl, List.forall_mem_cons.mpr ⟨List.mem_of_getElem? (i := 417) rfl, List.forall_mem_cons.mpr ⟨List.mem_of_getElem? (i := 418) rfl, List.forall_mem_cons.mpr ⟨List.mem_of_getElem? (i := 419) rfl, List.forall_mem_cons.mpr ⟨List.mem_of_getElem? (i := 420) rfl, List.forall_mem_cons.mpr ⟨List.mem_of_getElem? (i := 421) rfl, List.forall_mem_cons.mpr ⟨List.mem_of_getElem? (i := 422) rfl, List.forall_mem_cons.mpr ⟨List.mem_of_getElem? (i := 423) rfl, List.forall_mem_cons.mpr ⟨List.mem_of_getElem? (i := 424) rfl, List.forall_mem_cons.mpr ⟨List.mem_of_getElem? (i := 425) rfl, List.forall_mem_cons.mpr ⟨List.mem_of_getElem? (i := 426) rfl, List.forall_mem_cons.mpr ⟨List.mem_of_getElem? (i := 427) rfl, List.forall_mem_cons.mpr ⟨List.mem_of_getElem? (i := 428) rfl, wk_mn⟩⟩⟩⟩⟩⟩⟩⟩⟩⟩⟩⟩⟩⟩⟩⟩⟩⟩⟩⟩⟩⟩⟩⟩⟩⟩⟩⟩⟩⟩⟩⟩⟩⟩⟩⟩⟩⟩⟩⟩⟩⟩⟩⟩⟩⟩⟩⟩⟩⟩⟩⟩⟩⟩⟩⟩⟩⟩⟩⟩⟩⟩⟩⟩⟩⟩⟩⟩⟩⟩⟩⟩⟩⟩⟩⟩⟩⟩⟩⟩⟩⟩⟩⟩⟩⟩⟩) (by decide +kernel)
set_option maxRecDepth 20000 in
theorem gL_law_X3_roomOf : GoodIn wsL_law (wsV RL 98 RX3 yX3_roomOf wsX3_roomOf) := goodIn_app (goodIn_sub (List.forall_mem_cons.mpr ⟨List.mem_of_getElem? (i := 75) rfl, List.forall_mem_cons.mpr ⟨List.mem_of_getElem? (i := 76) rfl, List.forall_mem_cons.mpr ⟨List.mem_of_getElem? (i := 77) rfl, List.forall_mem_cons.mpr ⟨List.mem_of_getElem? (i := 2) rfl, wk_mn⟩⟩⟩⟩) (by decide +kernel)) ggL_law_X3_roomOf
set_option maxRecDepth 20000 in
theorem ggL_law_X3_pluggedAt : GoodIn wsL_law wsX3_pluggedAt := goodIn_sub (List.forall_mem_cons.mpr ⟨List.mem_of_getElem? (i := 141) rfl, List.forall_mem_cons.mpr ⟨List.mem_of_getElem? (i := 15) rfl, List.forall_mem_cons.mpr ⟨List.mem_of_getElem? (i := 63) rfl, List.forall_mem_cons.mpr ⟨List.mem_of_getElem? (i := 64) rfl, List.forall_mem_cons.mpr ⟨List.mem_of_getElem? (i := 2) rfl, List.forall_mem_cons.mpr ⟨List.mem_of_getElem? (i := 65) rfl, List.forall_mem_cons.mpr ⟨List.mem_of_getElem? (i := 142) rfl, List.forall_mem_cons.mpr ⟨List.mem_of_getElem? (i := 143) rfl, List.forall_mem_cons.mpr ⟨List.mem_of_getElem? (i := 144) rfl, List.forall_mem_cons.mpr ⟨List.mem_of_getElem? (i := 14) rfl, List.forall_mem_cons.mpr ⟨List.mem_of_getElem? (i := 145) rfl, List.forall_mem_cons.mpr ⟨List.mem_of_getElem? (i := 62) rfl, List.forall_mem_cons.mpr ⟨List.mem_of_getElem? (i := 27) rfl, List.forall_mem_cons.mpr ⟨List.mem_of_getElem? (i := 146) rfl, List.forall_mem_cons.mpr ⟨List.mem_of_getElem? (i := 392) rfl, List.forall_mem_cons.mpr ⟨List.mem_of_getElem? (i := 393) rfl, List.forall_mem_cons.mpr ⟨List.mem_of_getElem? (i := 394) rfl, List.forall_mem_cons.mpr ⟨List.mem_of_getElem? (i := 395) rfl, List.forall_mem_cons.mpr ⟨List.mem_of_getElem? (i := 396) rfl, List.forall_mem_cons.mpr ⟨List.mem_of_getElem? (i := 397) rfl, List.forall_mem_cons.mpr ⟨List.mem_of_getElem? (i := 398) rfl, List.forall_mem_cons.mpr ⟨List.mem_of_getElem? (i := 399) rfl, List.forall_mem_cons.mpr ⟨List.mem_of_getElem? (i := 400) rfl, List.forall_mem_cons.mpr ⟨List.mem_of_getElem? (i := 401) rfl, List.forall_mem_cons.mpr ⟨List.mem_of_getElem? (i := 402) rfl, List.forall_mem_cons.mpr ⟨List.mem_of_getElem? (i := 403) rfl, List.forall_mem_cons.mpr ⟨List.mem_of_getElem? (i := 404) rfl, List.forall_mem_cons.mpr ⟨List.mem_of_getElem? (i := 414) rfl, List.forall_mem_cons.mpr ⟨List.mem_of_getElem? (i := 415) rfl, List.forall_mem_cons.mpr ⟨List.mem_of_getElem? (i := 416) rfl, List.forall_mem_cons.mpr ⟨List.mem_of_getElem? (i := 417) rfl, List.forall_mem_cons.mpr ⟨List.mem_of_getElem? (i := 418) rfl, List.forall_mem_cons.mpr ⟨List.mem_of_getElem? (i := 419) rfl, List.forall_mem_cons.mpr ⟨List.mem_of_getElem? (i := 420) rfl, List.forall_mem_cons.mpr ⟨List.mem_of_getElem? (i := 421) rfl, List.forall_mem_cons.mpr ⟨List.mem_of_getElem? (i := 422) rfl, List.forall_mem_cons.mpr ⟨List.mem_of_getElem? (i := 423) rfl, List.forall_mem_cons.mpr ⟨List.mem_of_getElem? (i := 424) rfl, List.forall_mem_cons.mpr ⟨List.mem_of_getElem? (i := 425) rfl, List.forall_mem_cons.mpr ⟨List.mem_of_getElem? (i := 426) rfl, List.forall_mem_cons.mpr ⟨List.mem_of_getElem? (i := 427) rfl, List.forall_mem_cons.mpr ⟨List.mem_of_getElem? (i := 428) rfl, wk_mn⟩⟩⟩⟩⟩⟩⟩⟩⟩⟩⟩⟩⟩⟩⟩⟩⟩⟩⟩⟩⟩⟩⟩⟩⟩⟩⟩⟩⟩⟩⟩⟩⟩⟩⟩⟩⟩⟩⟩⟩⟩⟩) (by decide +kernel)
set_option maxRecDepth 20000 in
theorem gL_law_X3_pluggedAt : GoodIn wsL_law (wsV RL 108 RX3 yX3_pluggedAt wsX3_pluggedAt) := goodIn_app (goodIn_sub (List.forall_mem_cons.mpr ⟨List.mem_of_getElem? (i := 138) rfl, List.forall_mem_cons.mpr ⟨List.mem_of_getElem? (i := 139) rfl, List.forall_mem_cons.mpr ⟨List.mem_of_getElem? (i := 140) rfl, List.forall_mem_cons.mpr ⟨List.mem_of_getElem? (i := 2) rfl, wk_mn⟩⟩⟩⟩) (by decide +kernel)) ggL_law_X3_pluggedAt
set_option maxRecDepth 20000 in
theorem ggL_law_X3_energy : GoodIn wsL_law wsX3_energy := goodIn_sub (List.forall_mem_cons.mpr ⟨List.mem_of_getElem? (i := 69) rfl, List.forall_mem_cons.mpr ⟨List.mem_of_getElem? (i := 15) rfl, List.forall_mem_cons.mpr ⟨List.mem_of_getElem? (i := 56) rfl, List.forall_mem_cons.mpr ⟨List.mem_of_getElem? (i := 70) rfl, List.forall_mem_cons.mpr ⟨List.mem_of_getElem? (i := 58) rfl, List.forall_mem_cons.mpr ⟨List.mem_of_getElem? (i := 59) rfl, List.forall_mem_cons.mpr ⟨List.mem_of_getElem? (i := 60) rfl, List.forall_mem_cons.mpr ⟨List.mem_of_getElem? (i := 14) rfl, List.forall_mem_cons.mpr ⟨List.mem_of_getElem? (i := 61) rfl, List.forall_mem_cons.mpr ⟨List.mem_of_getElem? (i := 62) rfl, List.forall_mem_cons.mpr ⟨List.mem_of_getElem? (i := 63) rfl, List.forall_mem_cons.mpr ⟨List.mem_of_getElem? (i := 64) rfl, List.forall_mem_cons.mpr ⟨List.mem_of_getElem? (i := 2) rfl, List.forall_mem_cons.mpr ⟨List.mem_of_getElem? (i := 65) rfl, List.forall_mem_cons.mpr ⟨List.mem_of_getElem? (i := 71) rfl, List.forall_mem_cons.mpr ⟨List.mem_of_getElem? (i := 72) rfl, List.forall_mem_cons.mpr ⟨List.mem_of_getElem? (i := 73) rfl, List.forall_mem_cons.mpr ⟨List.mem_of_getElem? (i := 33) rfl, List.forall_mem_cons.mpr ⟨List.mem_of_getElem? (i := 74) rfl, List.forall_mem_cons.mpr ⟨List.mem_of_getElem? (i := 38) rfl, List.forall_mem_cons.mpr ⟨List.mem_of_getElem? (i := 392) rfl, List.forall_mem_cons.mpr ⟨List.mem_of_getElem? (i := 393) rfl, List.forall_mem_cons.mpr ⟨List.mem_of_getElem? (i := 394) rfl, List.forall_mem_cons.mpr ⟨List.mem_of_getElem? (i := 395) rfl, List.forall_mem_cons.mpr ⟨List.mem_of_getElem? (i := 396) rfl, List.forall_mem_cons.mpr ⟨List.mem_of_getElem? (i := 397) rfl, List.forall_mem_cons.mpr ⟨List.mem_of_getElem? (i := 398) rfl, List.forall_mem_cons.mpr ⟨List.mem_of_getElem? (i := 399) rfl, List.forall_mem_cons.mpr ⟨List.mem_of_getElem? (i := 400) rfl, List.forall_mem_cons.mpr ⟨List.mem_of_getElem? (i := 401) rfl, List.forall_mem_cons.mpr ⟨List.mem_of_getElem? (i := 402) rfl, List.forall_mem_cons.mpr ⟨List.mem_of_getElem? (i := 403) rfl, List.forall_mem_cons.mpr ⟨List.mem_of_getElem? (i := 404) rfl, List.forall_mem_cons.mpr ⟨List.mem_of_getElem? (i := 414) rfl, List.forall_mem_cons.mpr ⟨List.mem_of_getElem? (i := 415) rfl, List.forall_mem_cons.mpr ⟨List.mem_of_getElem? (i := 416) rfl, List.forall_mem_cons.mpr ⟨List.mem_of_getElem? (i := 417) rfl, List.forall_mem_cons.mpr ⟨List.mem_of_getElem? (i := 418) rfl, List.forall_mem_cons.mpr ⟨List.mem_of_getElem? (i := 419) rfl, List.forall_mem_cons.mpr ⟨List.mem_of_getElem? (i := 420) rfl, List.forall_mem_cons.mpr ⟨List.mem_of_getElem? (i := 421) rfl, List.forall_mem_cons.mpr ⟨List.mem_of_getElem? (i := 422) rfl, List.forall_mem_cons.mpr ⟨List.mem_of_getElem? (i := 423) rfl, List.forall_mem_cons.mpr ⟨List.mem_of_getElem? (i := 424) rfl, List.forall_mem_cons.mpr ⟨List.mem_of_getElem? (i := 425) rfl, List.forall_mem_cons.mpr ⟨List.mem_of_getElem? (i := 426) rfl, List.forall_mem_cons.mpr ⟨List.mem_of_getElem? (i := 427) rfl, List.forall_mem_cons.mpr ⟨List.mem_of_getElem? (i := 428) rfl, wk_mn⟩⟩⟩⟩⟩⟩⟩⟩⟩⟩⟩⟩⟩⟩⟩⟩⟩⟩⟩⟩⟩⟩⟩⟩⟩⟩⟩⟩⟩⟩⟩⟩⟩⟩⟩⟩⟩⟩⟩⟩⟩⟩⟩⟩⟩⟩⟩⟩) (by decide +kernel)
set_option maxRecDepth 20000 in
theorem gL_law_X3_energy : GoodIn wsL_law (wsV RL 95 RX3 yX3_energy wsX3_energy) := goodIn_app (goodIn_sub (List.forall_mem_cons.mpr ⟨List.mem_of_getElem? (i := 66) rfl, List.forall_mem_cons.mpr ⟨List.mem_of_getElem? (i := 67) rfl, List.forall_mem_cons.mpr ⟨List.mem_of_getElem? (i := 68) rfl, List.forall_mem_cons.mpr ⟨List.mem_of_getElem? (i := 2) rfl, wk_mn⟩⟩⟩⟩) (by decide +kernel)) ggL_law_X3_energy
theorem dL_law_0 : decode cL_law 0 = .ok (.new 45, 3) := by decide +kernel
theorem dL_law_3 : decode cL_law 3 = .ok (.dup, 1) := by decide +kernel
theorem dL_law_4 : decode cL_law 4 = .ok (.invokespecial 114, 3) := by decide +kernel
theorem dL_law_7 : decode cL_law 7 = .ok (.astore_n 1, 1) := by decide +kernel
theorem dL_law_8 : decode cL_law 8 = .ok (.iconst 5, 1) := by decide +kernel
theorem dL_law_9 : decode cL_law 9 = .ok (.newarray .int, 2) := by decide +kernel
theorem dL_law_11 : decode cL_law 11 = .ok (.astore_n 2, 1) := by decide +kernel
theorem dL_law_12 : decode cL_law 12 = .ok (.bipush 64, 2) := by decide +kernel
theorem dL_law_14 : decode cL_law 14 = .ok (.newarray .int, 2) := by decide +kernel
theorem dL_law_16 : decode cL_law 16 = .ok (.astore_n 3, 1) := by decide +kernel
theorem dL_law_17 : decode cL_law 17 = .ok (.bipush 64, 2) := by decide +kernel
theorem dL_law_19 : decode cL_law 19 = .ok (.newarray .int, 2) := by decide +kernel
theorem dL_law_21 : decode cL_law 21 = .ok (.astore 4, 2) := by decide +kernel
theorem dL_law_23 : decode cL_law 23 = .ok (.bipush 48, 2) := by decide +kernel
theorem dL_law_25 : decode cL_law 25 = .ok (.newarray .int, 2) := by decide +kernel
theorem dL_law_27 : decode cL_law 27 = .ok (.astore 5, 2) := by decide +kernel
theorem dL_law_29 : decode cL_law 29 = .ok (.bipush 36, 2) := by decide +kernel
theorem dL_law_31 : decode cL_law 31 = .ok (.newarray .int, 2) := by decide +kernel
theorem dL_law_33 : decode cL_law 33 = .ok (.astore 6, 2) := by decide +kernel
theorem dL_law_35 : decode cL_law 35 = .ok (.aload_n 2, 1) := by decide +kernel
theorem dL_law_36 : decode cL_law 36 = .ok (.iconst 3, 1) := by decide +kernel
theorem dL_law_37 : decode cL_law 37 = .ok (.iconst 2, 1) := by decide +kernel
theorem dL_law_38 : decode cL_law 38 = .ok (.iastore, 1) := by decide +kernel
theorem dL_law_39 : decode cL_law 39 = .ok (.aload_n 2, 1) := by decide +kernel
theorem dL_law_40 : decode cL_law 40 = .ok (.iconst 4, 1) := by decide +kernel
theorem dL_law_41 : decode cL_law 41 = .ok (.iconst 2, 1) := by decide +kernel
theorem dL_law_42 : decode cL_law 42 = .ok (.iastore, 1) := by decide +kernel
theorem dL_law_43 : decode cL_law 43 = .ok (.aload_n 1, 1) := by decide +kernel
theorem dL_law_44 : decode cL_law 44 = .ok (.aload_n 2, 1) := by decide +kernel
theorem dL_law_45 : decode cL_law 45 = .ok (.aload_n 3, 1) := by decide +kernel
theorem dL_law_46 : decode cL_law 46 = .ok (.aload 4, 2) := by decide +kernel
theorem dL_law_48 : decode cL_law 48 = .ok (.aload 5, 2) := by decide +kernel
theorem dL_law_50 : decode cL_law 50 = .ok (.aload 6, 2) := by decide +kernel
theorem dL_law_52 : decode cL_law 52 = .ok (.invokestatic 115, 3) := by decide +kernel
theorem dL_law_55 : decode cL_law 55 = .ok (.istore 7, 2) := by decide +kernel
theorem dL_law_57 : decode cL_law 57 = .ok (.iconst 0, 1) := by decide +kernel
theorem dL_law_58 : decode cL_law 58 = .ok (.istore 8, 2) := by decide +kernel
theorem dL_law_60 : decode cL_law 60 = .ok (.iload 8, 2) := by decide +kernel
theorem dL_law_62 : decode cL_law 62 = .ok (.bipush 12, 2) := by decide +kernel
theorem dL_law_64 : decode cL_law 64 = .ok (.if_icmp .ge 144, 3) := by decide +kernel
theorem dL_law_67 : decode cL_law 67 = .ok (.iload 7, 2) := by decide +kernel
theorem dL_law_69 : decode cL_law 69 = .ok (.ifCond .eq 139, 3) := by decide +kernel
theorem dL_law_72 : decode cL_law 72 = .ok (.aload_n 0, 1) := by decide +kernel
theorem dL_law_73 : decode cL_law 73 = .ok (.iconst 1, 1) := by decide +kernel
theorem dL_law_74 : decode cL_law 74 = .ok (.iload 8, 2) := by decide +kernel
theorem dL_law_76 : decode cL_law 76 = .ok (.iadd, 1) := by decide +kernel
theorem dL_law_77 : decode cL_law 77 = .ok (.invokestatic 119, 3) := by decide +kernel
theorem dL_law_80 : decode cL_law 80 = .ok (.ldc 8, 2) := by decide +kernel
theorem dL_law_82 : decode cL_law 82 = .ok (.iand, 1) := by decide +kernel
theorem dL_law_83 : decode cL_law 83 = .ok (.bipush 7, 2) := by decide +kernel
theorem dL_law_85 : decode cL_law 85 = .ok (.idiv, 1) := by decide +kernel
theorem dL_law_86 : decode cL_law 86 = .ok (.istore 9, 2) := by decide +kernel
theorem dL_law_88 : decode cL_law 88 = .ok (.iload 8, 2) := by decide +kernel
theorem dL_law_90 : decode cL_law 90 = .ok (.iconst 4, 1) := by decide +kernel
theorem dL_law_91 : decode cL_law 91 = .ok (.if_icmp .ge 19, 3) := by decide +kernel
theorem dL_law_94 : decode cL_law 94 = .ok (.aload_n 1, 1) := by decide +kernel
theorem dL_law_95 : decode cL_law 95 = .ok (.aload_n 2, 1) := by decide +kernel
theorem dL_law_96 : decode cL_law 96 = .ok (.aload_n 3, 1) := by decide +kernel
theorem dL_law_97 : decode cL_law 97 = .ok (.aload 4, 2) := by decide +kernel
theorem dL_law_99 : decode cL_law 99 = .ok (.aload 5, 2) := by decide +kernel
theorem dL_law_101 : decode cL_law 101 = .ok (.iload 9, 2) := by decide +kernel
theorem dL_law_103 : decode cL_law 103 = .ok (.iconst 0, 1) := by decide +kernel
theorem dL_law_104 : decode cL_law 104 = .ok (.invokestatic 72, 3) := by decide +kernel
theorem dL_law_107 : decode cL_law 107 = .ok (.goto 93, 3) := by decide +kernel
theorem dL_law_110 : decode cL_law 110 = .ok (.iload 8, 2) := by decide +kernel
theorem dL_law_112 : decode cL_law 112 = .ok (.bipush 8, 2) := by decide +kernel
theorem dL_law_114 : decode cL_law 114 = .ok (.if_icmp .ge 38, 3) := by decide +kernel
theorem dL_law_117 : decode cL_law 117 = .ok (.aload_n 1, 1) := by decide +kernel
theorem dL_law_118 : decode cL_law 118 = .ok (.aload_n 2, 1) := by decide +kernel
theorem dL_law_119 : decode cL_law 119 = .ok (.aload_n 3, 1) := by decide +kernel
theorem dL_law_120 : decode cL_law 120 = .ok (.aload 4, 2) := by decide +kernel
theorem dL_law_122 : decode cL_law 122 = .ok (.aload 5, 2) := by decide +kernel
theorem dL_law_124 : decode cL_law 124 = .ok (.iload 9, 2) := by decide +kernel
theorem dL_law_126 : decode cL_law 126 = .ok (.bipush 8, 2) := by decide +kernel
theorem dL_law_128 : decode cL_law 128 = .ok (.idiv, 1) := by decide +kernel
theorem dL_law_129 : decode cL_law 129 = .ok (.ldc 123, 2) := by decide +kernel
theorem dL_law_131 : decode cL_law 131 = .ok (.irem, 1) := by decide +kernel
theorem dL_law_132 : decode cL_law 132 = .ok (.bipush 68, 2) := by decide +kernel
theorem dL_law_134 : decode cL_law 134 = .ok (.imul, 1) := by decide +kernel
theorem dL_law_135 : decode cL_law 135 = .ok (.iload 8, 2) := by decide +kernel
theorem dL_law_137 : decode cL_law 137 = .ok (.iconst 4, 1) := by decide +kernel
theorem dL_law_138 : decode cL_law 138 = .ok (.isub, 1) := by decide +kernel
theorem dL_law_139 : decode cL_law 139 = .ok (.bipush 17, 2) := by decide +kernel
theorem dL_law_141 : decode cL_law 141 = .ok (.imul, 1) := by decide +kernel
theorem dL_law_142 : decode cL_law 142 = .ok (.iadd, 1) := by decide +kernel
theorem dL_law_143 : decode cL_law 143 = .ok (.iconst 4, 1) := by decide +kernel
theorem dL_law_144 : decode cL_law 144 = .ok (.iadd, 1) := by decide +kernel
theorem dL_law_145 : decode cL_law 145 = .ok (.iconst 2, 1) := by decide +kernel
theorem dL_law_146 : decode cL_law 146 = .ok (.invokestatic 72, 3) := by decide +kernel
theorem dL_law_149 : decode cL_law 149 = .ok (.goto 51, 3) := by decide +kernel
theorem dL_law_152 : decode cL_law 152 = .ok (.iload 8, 2) := by decide +kernel
theorem dL_law_154 : decode cL_law 154 = .ok (.bipush 10, 2) := by decide +kernel
theorem dL_law_156 : decode cL_law 156 = .ok (.if_icmp .ge 19, 3) := by decide +kernel
theorem dL_law_159 : decode cL_law 159 = .ok (.aload_n 1, 1) := by decide +kernel
theorem dL_law_160 : decode cL_law 160 = .ok (.aload_n 2, 1) := by decide +kernel
theorem dL_law_161 : decode cL_law 161 = .ok (.aload_n 3, 1) := by decide +kernel
theorem dL_law_162 : decode cL_law 162 = .ok (.aload 4, 2) := by decide +kernel
theorem dL_law_164 : decode cL_law 164 = .ok (.aload 5, 2) := by decide +kernel
theorem dL_law_166 : decode cL_law 166 = .ok (.iload 9, 2) := by decide +kernel
theorem dL_law_168 : decode cL_law 168 = .ok (.iconst 5, 1) := by decide +kernel
theorem dL_law_169 : decode cL_law 169 = .ok (.invokestatic 72, 3) := by decide +kernel
theorem dL_law_172 : decode cL_law 172 = .ok (.goto 28, 3) := by decide +kernel
theorem dL_law_175 : decode cL_law 175 = .ok (.aload_n 1, 1) := by decide +kernel
theorem dL_law_176 : decode cL_law 176 = .ok (.aload_n 2, 1) := by decide +kernel
theorem dL_law_177 : decode cL_law 177 = .ok (.aload_n 3, 1) := by decide +kernel
theorem dL_law_178 : decode cL_law 178 = .ok (.aload 4, 2) := by decide +kernel
theorem dL_law_180 : decode cL_law 180 = .ok (.aload 5, 2) := by decide +kernel
theorem dL_law_182 : decode cL_law 182 = .ok (.aload 6, 2) := by decide +kernel
theorem dL_law_184 : decode cL_law 184 = .ok (.iload 9, 2) := by decide +kernel
theorem dL_law_186 : decode cL_law 186 = .ok (.sipush 896, 3) := by decide +kernel
theorem dL_law_189 : decode cL_law 189 = .ok (.idiv, 1) := by decide +kernel
theorem dL_law_190 : decode cL_law 190 = .ok (.sipush 896, 3) := by decide +kernel
theorem dL_law_193 : decode cL_law 193 = .ok (.imul, 1) := by decide +kernel
theorem dL_law_194 : decode cL_law 194 = .ok (.bipush 10, 2) := by decide +kernel
theorem dL_law_196 : decode cL_law 196 = .ok (.iadd, 1) := by decide +kernel
theorem dL_law_197 : decode cL_law 197 = .ok (.invokestatic 124, 3) := by decide +kernel
theorem dL_law_200 : decode cL_law 200 = .ok (.istore 7, 2) := by decide +kernel
theorem dL_law_202 : decode cL_law 202 = .ok (.iinc 8 1, 3) := by decide +kernel
theorem dL_law_205 : decode cL_law 205 = .ok (.goto (-145), 3) := by decide +kernel
theorem dL_law_208 : decode cL_law 208 = .ok (.bipush 8, 2) := by decide +kernel
theorem dL_law_210 : decode cL_law 210 = .ok (.aload_n 0, 1) := by decide +kernel
theorem dL_law_211 : decode cL_law 211 = .ok (.iconst 0, 1) := by decide +kernel
theorem dL_law_212 : decode cL_law 212 = .ok (.invokestatic 119, 3) := by decide +kernel
theorem dL_law_215 : decode cL_law 215 = .ok (.bipush 42, 2) := by decide +kernel
theorem dL_law_217 : decode cL_law 217 = .ok (.invokestatic 69, 3) := by decide +kernel
theorem dL_law_220 : decode cL_law 220 = .ok (.iadd, 1) := by decide +kernel
theorem dL_law_221 : decode cL_law 221 = .ok (.istore 8, 2) := by decide +kernel
theorem dL_law_223 : decode cL_law 223 = .ok (.iconst 0, 1) := by decide +kernel
theorem dL_law_224 : decode cL_law 224 = .ok (.istore 9, 2) := by decide +kernel
theorem dL_law_226 : decode cL_law 226 = .ok (.iload 9, 2) := by decide +kernel
theorem dL_law_228 : decode cL_law 228 = .ok (.iload 8, 2) := by decide +kernel
theorem dL_law_230 : decode cL_law 230 = .ok (.if_icmp .ge 67, 3) := by decide +kernel
theorem dL_law_233 : decode cL_law 233 = .ok (.iload 7, 2) := by decide +kernel
theorem dL_law_235 : decode cL_law 235 = .ok (.ifCond .eq 62, 3) := by decide +kernel
theorem dL_law_238 : decode cL_law 238 = .ok (.aload_n 1, 1) := by decide +kernel
theorem dL_law_239 : decode cL_law 239 = .ok (.aload_n 2, 1) := by decide +kernel
theorem dL_law_240 : decode cL_law 240 = .ok (.aload_n 3, 1) := by decide +kernel
theorem dL_law_241 : decode cL_law 241 = .ok (.aload 4, 2) := by decide +kernel
theorem dL_law_243 : decode cL_law 243 = .ok (.aload 5, 2) := by decide +kernel
theorem dL_law_245 : decode cL_law 245 = .ok (.aload 6, 2) := by decide +kernel
theorem dL_law_247 : decode cL_law 247 = .ok (.aload_n 0, 1) := by decide +kernel
theorem dL_law_248 : decode cL_law 248 = .ok (.bipush 13, 2) := by decide +kernel
theorem dL_law_250 : decode cL_law 250 = .ok (.iload 9, 2) := by decide +kernel
theorem dL_law_252 : decode cL_law 252 = .ok (.iadd, 1) := by decide +kernel
theorem dL_law_253 : decode cL_law 253 = .ok (.invokestatic 119, 3) := by decide +kernel
theorem dL_law_256 : decode cL_law 256 = .ok (.sipush 7919, 3) := by decide +kernel
theorem dL_law_259 : decode cL_law 259 = .ok (.iload 9, 2) := by decide +kernel
theorem dL_law_261 : decode cL_law 261 = .ok (.imul, 1) := by decide +kernel
theorem dL_law_262 : decode cL_law 262 = .ok (.ixor, 1) := by decide +kernel
theorem dL_law_263 : decode cL_law 263 = .ok (.invokestatic 124, 3) := by decide +kernel
theorem dL_law_266 : decode cL_law 266 = .ok (.ifCond .eq 22, 3) := by decide +kernel
theorem dL_law_269 : decode cL_law 269 = .ok (.aload_n 1, 1) := by decide +kernel
theorem dL_law_270 : decode cL_law 270 = .ok (.aload_n 2, 1) := by decide +kernel
theorem dL_law_271 : decode cL_law 271 = .ok (.aload_n 3, 1) := by decide +kernel
theorem dL_law_272 : decode cL_law 272 = .ok (.aload 4, 2) := by decide +kernel
theorem dL_law_274 : decode cL_law 274 = .ok (.aload 5, 2) := by decide +kernel
theorem dL_law_276 : decode cL_law 276 = .ok (.aload 6, 2) := by decide +kernel
theorem dL_law_278 : decode cL_law 278 = .ok (.invokestatic 115, 3) := by decide +kernel
theorem dL_law_281 : decode cL_law 281 = .ok (.ifCond .eq 7, 3) := by decide +kernel
theorem dL_law_284 : decode cL_law 284 = .ok (.iconst 1, 1) := by decide +kernel
theorem dL_law_285 : decode cL_law 285 = .ok (.goto 4, 3) := by decide +kernel
theorem dL_law_288 : decode cL_law 288 = .ok (.iconst 0, 1) := by decide +kernel
theorem dL_law_289 : decode cL_law 289 = .ok (.istore 7, 2) := by decide +kernel
theorem dL_law_291 : decode cL_law 291 = .ok (.iinc 9 1, 3) := by decide +kernel
theorem dL_law_294 : decode cL_law 294 = .ok (.goto (-68), 3) := by decide +kernel
theorem dL_law_297 : decode cL_law 297 = .ok (.iload 7, 2) := by decide +kernel
theorem dL_law_299 : decode cL_law 299 = .ok (.ifCond .eq 69, 3) := by decide +kernel
theorem dL_law_302 : decode cL_law 302 = .ok (.aload_n 1, 1) := by decide +kernel
theorem dL_law_303 : decode cL_law 303 = .ok (.bipush 12, 2) := by decide +kernel
theorem dL_law_305 : decode cL_law 305 = .ok (.invokevirtual 111, 3) := by decide +kernel
theorem dL_law_308 : decode cL_law 308 = .ok (.iconst (-1), 1) := by decide +kernel
theorem dL_law_309 : decode cL_law 309 = .ok (.if_icmp .ne 59, 3) := by decide +kernel
theorem dL_law_312 : decode cL_law 312 = .ok (.aload_n 1, 1) := by decide +kernel
theorem dL_law_313 : decode cL_law 313 = .ok (.bipush 19, 2) := by decide +kernel
theorem dL_law_315 : decode cL_law 315 = .ok (.invokevirtual 111, 3) := by decide +kernel
theorem dL_law_318 : decode cL_law 318 = .ok (.iconst (-1), 1) := by decide +kernel
theorem dL_law_319 : decode cL_law 319 = .ok (.if_icmp .ne 49, 3) := by decide +kernel
theorem dL_law_322 : decode cL_law 322 = .ok (.aload_n 1, 1) := by decide +kernel
theorem dL_law_323 : decode cL_law 323 = .ok (.bipush 22, 2) := by decide +kernel
theorem dL_law_325 : decode cL_law 325 = .ok (.invokevirtual 111, 3) := by decide +kernel
theorem dL_law_328 : decode cL_law 328 = .ok (.iconst (-1), 1) := by decide +kernel
theorem dL_law_329 : decode cL_law 329 = .ok (.if_icmp .ne 39, 3) := by decide +kernel
theorem dL_law_332 : decode cL_law 332 = .ok (.aload_n 1, 1) := by decide +kernel
theorem dL_law_333 : decode cL_law 333 = .ok (.aload_n 2, 1) := by decide +kernel
theorem dL_law_334 : decode cL_law 334 = .ok (.iconst 0, 1) := by decide +kernel
theorem dL_law_335 : decode cL_law 335 = .ok (.iaload, 1) := by decide +kernel
theorem dL_law_336 : decode cL_law 336 = .ok (.iconst 0, 1) := by decide +kernel
theorem dL_law_337 : decode cL_law 337 = .ok (.invokevirtual 98, 3) := by decide +kernel
theorem dL_law_340 : decode cL_law 340 = .ok (.iconst (-1), 1) := by decide +kernel
theorem dL_law_341 : decode cL_law 341 = .ok (.if_icmp .ne 27, 3) := by decide +kernel
theorem dL_law_344 : decode cL_law 344 = .ok (.aload_n 1, 1) := by decide +kernel
theorem dL_law_345 : decode cL_law 345 = .ok (.iconst 2, 1) := by decide +kernel
theorem dL_law_346 : decode cL_law 346 = .ok (.iconst 0, 1) := by decide +kernel
theorem dL_law_347 : decode cL_law 347 = .ok (.invokevirtual 108, 3) := by decide +kernel
theorem dL_law_350 : decode cL_law 350 = .ok (.iconst (-1), 1) := by decide +kernel
theorem dL_law_351 : decode cL_law 351 = .ok (.if_icmp .ne 17, 3) := by decide +kernel
theorem dL_law_354 : decode cL_law 354 = .ok (.aload_n 1, 1) := by decide +kernel
theorem dL_law_355 : decode cL_law 355 = .ok (.iconst (-1), 1) := by decide +kernel
theorem dL_law_356 : decode cL_law 356 = .ok (.iconst 0, 1) := by decide +kernel
theorem dL_law_357 : decode cL_law 357 = .ok (.invokevirtual 95, 3) := by decide +kernel
theorem dL_law_360 : decode cL_law 360 = .ok (.iconst (-1), 1) := by decide +kernel
theorem dL_law_361 : decode cL_law 361 = .ok (.if_icmp .ne 7, 3) := by decide +kernel
theorem dL_law_364 : decode cL_law 364 = .ok (.iconst 1, 1) := by decide +kernel
theorem dL_law_365 : decode cL_law 365 = .ok (.goto 4, 3) := by decide +kernel
theorem dL_law_368 : decode cL_law 368 = .ok (.iconst 0, 1) := by decide +kernel
theorem dL_law_369 : decode cL_law 369 = .ok (.ireturn, 1) := by decide +kernel
abbrev vwCl : List vw_C := [(RX0, TX0, 8), (RX1, TX1, 9), (RX2, TX2, 15), (RX3, TX3, 5)]
end
section
/-! the memory of ints: kind, chip, room, slot; each cell of the world is read off a row of it -/
abbrev wk_T : Type := Nat → Nat → Nat → Nat → Int32
def wk_ur (M : wk_T) (k c i : Nat) (f : Nat → Int32) : wk_T := fun k' c' i' => if k' = k ∧ c' = c ∧ i' = i then f else M k' c' i'
def wk_up (M : wk_T) (k c i s : Nat) (v : Int32) : wk_T := wk_ur M k c i (upd (M k c i) s v)
theorem wk_ur_s {M : wk_T} {k c i : Nat} {f : Nat → Int32} : wk_ur M k c i f k c i = f := if_pos ⟨rfl, rfl, rfl⟩
theorem wk_ur_n {M : wk_T} {k c i k' c' i' : Nat} {f : Nat → Int32} (h : ¬ (k' = k ∧ c' = c ∧ i' = i)) : wk_ur M k c i f k' c' i' = M k' c' i' := if_neg h
def wk_cel (y : Nat → ClassId) (B : Nat → Nat → Nat → Nat) (r : Nat → Int32) (k c i : Nat) : va_E := match k with
  | 0 => .inr (0, [.ref (B 1 c i), .int (r 1), .ref (B 2 c i), .ref (B 3 c i), .ref (B 4 c i), .ref (B 5 c i), .int (r 6), .int (r 7)])
  | 1 => .inl (y 1, 8, .inr (.inr (.inr (.inr (fun j => some (B 6 c j))))))
  | 2 => .inl (y 0, 2, .inl r)
  | 3 => .inl (y 0, 12, .inl r)
  | 4 => .inl (y 0, 12, .inl r)
  | 5 => .inl (y 0, 12, .inl r)
  | 6 => .inr (2, [.ref (B 7 c i), .ref (B 8 c i), .int (r 2), .int (r 3), .int (r 4), .int (r 5), .int (r 6), .int (r 7), .int (r 8), .int (r 9), .int (r 10), .int (r 11), .int (r 12), .int (r 13), .int (r 14)])
  | 7 => .inl (y 0, 5, .inl r)
  | 8 => .inl (y 0, 4, .inl r)
  | 9 => .inr (3, [.ref (B 0 0 0), .ref (B 0 1 0), .ref (B 10 0 0), .int (r 3), .ref (B 11 0 0)])
  | 10 => .inl (y 2, 5, .inr (.inr (.inr (.inr (fun j => some (B 0 (r j).toNatClampNeg 0))))))
  | 11 => .inr (1, [.ref (B 12 0 0), .int (r 1), .int (r 2), .int (r 3), .ref (B 13 0 0), .int (r 5), .int (r 6), .int (r 7), .int (r 8)])
  | 14 => .inl (y 0, 5, .inl r)
  | 15 => .inl (y 0, 64, .inl r)
  | 16 => .inl (y 0, 64, .inl r)
  | 17 => .inl (y 0, 48, .inl r)
  | 18 => .inl (y 0, 36, .inl r)
  | _ => .inl (y 0, 4, .inl r)
section WKC
variable {y : Nat → ClassId} {B : Nat → Nat → Nat → Nat} {r : Nat → Int32} {c i : Nat}
theorem wk_c0 : wk_cel y B r 0 c i = .inr (0, [.ref (B 1 c i), .int (r 1), .ref (B 2 c i), .ref (B 3 c i), .ref (B 4 c i), .ref (B 5 c i), .int (r 6), .int (r 7)]) := rfl
theorem wk_c1 : wk_cel y B r 1 c i = .inl (y 1, 8, .inr (.inr (.inr (.inr (fun j => some (B 6 c j)))))) := rfl
theorem wk_c2 : wk_cel y B r 2 c i = .inl (y 0, 2, .inl r) := rfl
theorem wk_c3 : wk_cel y B r 3 c i = .inl (y 0, 12, .inl r) := rfl
theorem wk_c4 : wk_cel y B r 4 c i = .inl (y 0, 12, .inl r) := rfl
theorem wk_c5 : wk_cel y B r 5 c i = .inl (y 0, 12, .inl r) := rfl
theorem wk_c6 : wk_cel y B r 6 c i = .inr (2, [.ref (B 7 c i), .ref (B 8 c i), .int (r 2), .int (r 3), .int (r 4), .int (r 5), .int (r 6), .int (r 7), .int (r 8), .int (r 9), .int (r 10), .int (r 11), .int (r 12), .int (r 13), .int (r 14)]) := rfl
theorem wk_c7 : wk_cel y B r 7 c i = .inl (y 0, 5, .inl r) := rfl
theorem wk_c8 : wk_cel y B r 8 c i = .inl (y 0, 4, .inl r) := rfl
theorem wk_c9 : wk_cel y B r 9 c i = .inr (3, [.ref (B 0 0 0), .ref (B 0 1 0), .ref (B 10 0 0), .int (r 3), .ref (B 11 0 0)]) := rfl
theorem wk_c10 : wk_cel y B r 10 c i = .inl (y 2, 5, .inr (.inr (.inr (.inr (fun j => some (B 0 (r j).toNatClampNeg 0)))))) := rfl
theorem wk_c11 : wk_cel y B r 11 c i = .inr (1, [.ref (B 12 0 0), .int (r 1), .int (r 2), .int (r 3), .ref (B 13 0 0), .int (r 5), .int (r 6), .int (r 7), .int (r 8)]) := rfl
theorem wk_c14 : wk_cel y B r 14 c i = .inl (y 0, 5, .inl r) := rfl
theorem wk_c15 : wk_cel y B r 15 c i = .inl (y 0, 64, .inl r) := rfl
theorem wk_c16 : wk_cel y B r 16 c i = .inl (y 0, 64, .inl r) := rfl
theorem wk_c17 : wk_cel y B r 17 c i = .inl (y 0, 48, .inl r) := rfl
theorem wk_c18 : wk_cel y B r 18 c i = .inl (y 0, 36, .inl r) := rfl
theorem wk_c19 : wk_cel y B r 19 c i = .inl (y 0, 4, .inl r) := rfl
end WKC
/-- the heap holds the memory, for the cells of Lk, at the addresses of B -/
def wk_H (D : va_G) (y : Nat → ClassId) (B : Nat → Nat → Nat → Nat) (Lk : Nat → Nat → Nat → Prop) (M : wk_T) (H : Heap) : Prop := ∀ k c i, Lk k c i → va_at D vwCl (B k c i, wk_cel y B (M k c i) k c i) H
def wk_I (B : Nat → Nat → Nat → Nat) (Lk : Nat → Nat → Nat → Prop) : Prop := ∀ k c i k' c' i', Lk k c i → Lk k' c' i' → B k c i = B k' c' i' → k = k' ∧ c = c' ∧ i = i'
def wk_A (B : Nat → Nat → Nat → Nat) (Lk : Nat → Nat → Nat → Prop) : Nat → Prop := fun q => ∃ k c i, Lk k c i ∧ q = B k c i
/-- which cells there are -/
def wk_L (Lk : Nat → Nat → Nat → Prop) : Prop := (∀ k c, k ≤ 5 → c < 7 → Lk k c 0) ∧ (∀ k c i, 6 ≤ k → k ≤ 8 → c < 7 → i < 8 → Lk k c i) ∧ (∀ k, 9 ≤ k → k ≤ 11 → Lk k 0 0) ∧ (∀ k, 14 ≤ k → k ≤ 18 → Lk k 0 0)
abbrev wk_ty (y : Nat → ClassId) : List (ClassId × FieldType) := [(y 0, .int), (y 1, .object RX2), (y 2, .object RX0)]
/-- what the tables give -/
def wk_K (D : va_G) (y : Nat → ClassId) (U : State) : Prop := va_K D vwCl (wk_ty y) U ∧ va_Nw (.methodLinkNest "WokenRooms$Chip" 82 yX3_outside "WokenRooms") U
theorem wk_K.moved {D : va_G} {y : Nat → ClassId} {u U : State} (hW : u.WarmedH U.vm) (h : wk_K D y u) : wk_K D y U := ⟨va_K.moved hW.alike h.1, va_Nw.warmM hW h.2⟩
theorem wk_K.calling {D : va_G} {y : Nat → ClassId} {U : State} {g : JFrame} {mk : MethodId} {a : Array Value} (h : wk_K D y U) : wk_K D y (U.calling g mk a) := ⟨va_K.moved (u := U) (U := U.calling g mk a) (Vm.Alike.refl U.vm) h.1, va_Nw.same rfl rfl h.2⟩
def wk_W (D : va_G) (y : Nat → ClassId) (B : Nat → Nat → Nat → Nat) (Lk : Nat → Nat → Nat → Prop) (M : wk_T) (U : State) : Prop := wk_H D y B Lk M U.heap ∧ wk_K D y U
theorem wk_blind {D : va_G} {y : Nat → ClassId} {B : Nat → Nat → Nat → Nat} {Lk : Nat → Nat → Nat → Prop} {M : wk_T} {av : List Value} : FrameBlind (va_Pc av (wk_W D y B Lk M)) := fun _ _ _ _ q => ⟨q.1, q.2.1, wk_K.calling q.2.2⟩
theorem wk_H.kept {D : va_G} {y : Nat → ClassId} {B : Nat → Nat → Nat → Nat} {Lk : Nat → Nat → Nat → Prop} {M : wk_T} {H H1 : Heap} (h : wk_H D y B Lk M H) (hq : ∀ k c i, Lk k c i → H1[B k c i]? = H[B k c i]?) : wk_H D y B Lk M H1 := fun k c i hl => (h k c i hl).kept (hq k c i hl)
theorem wk_H.row {D : va_G} {y : Nat → ClassId} {B : Nat → Nat → Nat → Nat} {Lk : Nat → Nat → Nat → Prop} {M : wk_T} {H H1 : Heap} {k c i : Nat} {f : Nat → Int32} (h : wk_H D y B Lk M H) (hI : wk_I B Lk) (hid : Lk k c i) (he : va_at D vwCl (B k c i, wk_cel y B f k c i) H1) (oq : ∀ q : Nat, q ≠ B k c i → H1[q]? = H[q]?) : wk_H D y B Lk (wk_ur M k c i f) H1 := by
  intro k' c' i' hl
  by_cases hz : k' = k ∧ c' = c ∧ i' = i
  · obtain ⟨rfl, rfl, rfl⟩ := hz
    rw [wk_ur_s]
    exact he
  · rw [wk_ur_n hz]
    exact (h k' c' i' hl).kept (oq _ (fun z => hz (hI _ _ _ _ _ _ hl hid z)))
theorem wk_H.one {D : va_G} {y : Nat → ClassId} {B : Nat → Nat → Nat → Nat} {Lk : Nat → Nat → Nat → Prop} {M : wk_T} {H : Heap} {k c i : Nat} {e : va_E} (h : wk_H D y B Lk M H) (hid : Lk k c i) (he : wk_cel y B (M k c i) k c i = e) : va_P D vwCl [(B k c i, e)] H := by
  intro j q hq
  have hj : j < 1 := (List.getElem?_eq_some_iff.mp hq).1
  rw [show j = 0 by omega] at hq
  cases hq
  rw [← he]
  exact h k c i hid
theorem wk_l0 {Lk : Nat → Nat → Nat → Prop} (h : wk_L Lk) {c : Nat} (hc : c < 7) (k : Nat) (hk : k ≤ 5) : Lk k c 0 := h.1 k c hk hc
theorem wk_l6 {Lk : Nat → Nat → Nat → Prop} (h : wk_L Lk) {c i : Nat} (hc : c < 7) (hi : i < 8) (k : Nat) (h1 : 6 ≤ k) (h2 : k ≤ 8) : Lk k c i := h.2.1 k c i h1 h2 hc hi
theorem wk_l9 {Lk : Nat → Nat → Nat → Prop} (h : wk_L Lk) (k : Nat) (h1 : 9 ≤ k) (h2 : k ≤ 11) : Lk k 0 0 := h.2.2.1 k h1 h2
theorem wk_lL {Lk : Nat → Nat → Nat → Prop} (h : wk_L Lk) (k : Nat) (h1 : 14 ≤ k) (h2 : k ≤ 18) : Lk k 0 0 := h.2.2.2 k h1 h2
theorem wk_ix {x : Int32} {n : Nat} (h : ¬ (x < 0 ∨ n ≤ x.toNatClampNeg)) : x.toNatClampNeg < n := Nat.not_le.mp fun q => h (Or.inr q)
/-! the functions that the walks compute -/
def wk_gd {α : Type} (c : Prop) [Decidable c] (a : Option α) : Option α := if c then a else none
def wk_cl {ρ α : Type} (f : Option (ρ × wk_T)) (k : ρ → wk_T → Option α) : Option α := match f with
  | some (r, M) => k r M
  | none => none
theorem wk_gd_e {α : Type} {c : Prop} [Decidable c] {a : Option α} {x : α} (h : wk_gd c a = some x) : c ∧ a = some x := by
  unfold wk_gd at h
  split at h
  · exact ⟨by assumption, h⟩
  · cases h
theorem wk_cl_e {ρ α : Type} {f : Option (ρ × wk_T)} {k : ρ → wk_T → Option α} {x : α} (h : wk_cl f k = some x) : ∃ r M, f = some (r, M) ∧ k r M = some x := by
  unfold wk_cl at h
  split at h
  · exact ⟨_, _, rfl, h⟩
  · cases h
theorem wk_p {α : Type} {c : Prop} [Decidable c] {a b x : α} (hc : c) (h : (if c then a else b) = x) : a = x := by rw [if_pos hc] at h; exact h
theorem wk_n {α : Type} {c : Prop} [Decidable c] {a b x : α} (hc : ¬ c) (h : (if c then a else b) = x) : b = x := by rw [if_neg hc] at h; exact h
def wk_lt {α : Type} (v : Int32) (k : Int32 → Option α) : Option α := k v
def wk_ll {α : Type} (v : Int64) (k : Int64 → Option α) : Option α := k v
def wk_ln {α : Type} (v : Nat) (k : Nat → Option α) : Option α := k v
def wk_mu {α : Type} (v : wk_T) (k : wk_T → Option α) : Option α := k v
theorem wk_lt_e {α : Type} {v : Int32} {k : Int32 → Option α} {x : α} (h : wk_lt v k = some x) : ∃ w, v = w ∧ k w = some x := ⟨v, rfl, h⟩
theorem wk_ll_e {α : Type} {v : Int64} {k : Int64 → Option α} {x : α} (h : wk_ll v k = some x) : ∃ w, v = w ∧ k w = some x := ⟨v, rfl, h⟩
theorem wk_ln_e {α : Type} {v : Nat} {k : Nat → Option α} {x : α} (h : wk_ln v k = some x) : ∃ w, v = w ∧ k w = some x := ⟨v, rfl, h⟩
theorem wk_mu_e {α : Type} {v : wk_T} {k : wk_T → Option α} {x : α} (h : wk_mu v k = some x) : ∃ w, v = w ∧ k w = some x := ⟨v, rfl, h⟩
def wk_rem (x y : Int32) : Int32 := x - x / y * y
def wk_lrm (x y : Int64) : Int64 := x - x / y * y
def wk_fuel : Nat := 100
section WKR
variable {p : Program} {l : Launch} {e : Env} {R : Room} {s : State} {m : MethodId} {args : Array Value} {below : List Frame} {meth : Method} {c : Code} {H : Heap} {locs : List Loc} {cells slots : Nat} {Q : State → Prop}
variable {cc : ByteArray} {pc : Nat} {ls : Array Slot} {rest : List Value} {D : va_G} {y : Nat → ClassId} {B : Nat → Nat → Nat → Nat} {Lk : Nat → Nat → Nat → Prop} {M : wk_T} {A : Nat → Prop} {H0 : Heap} {k0 c0 i0 : Nat}
theorem wk_get (hexec : p.tables.exec = Jvm.exec) (hb : c.code = cc) {own ref C : String} {T : u_T} {N ci index : Nat} {Ts : List Cond} (hts : ∀ w ∈ Ts, w.before args s = true) (hin : ∀ w ∈ u_ws C T N, w ∈ Ts) (hown : s.vm.findClass own = some m.cls) (hK : wk_K D y s) (hP : wk_H D y B Lk M H) (hid : Lk k0 c0 i0) {fs : List Value} (he : wk_cel y B (M k0 c0 i0) k0 c0 i0 = .inr (ci, fs)) (hc : vwCl[ci]? = some (C, T, N)) (k : Nat) (hk : k < N) (hlink : (Cond.fieldLink own index ref (T k).2.1 (T k).2.2.1).before args s = true) (hsame : (T k).1 = ref) {v : Value} (hv : fs[k]? = some v) (hdg : decode cc pc = .ok (.getfield index, 3))
    (kk : W p l e R s m args below meth c H locs cells slots Q (F0 m (pc + 3) ls (v :: rest))) : W p l e R s m args below meth c H locs cells slots Q (F0 m pc ls (.ref (B k0 c0 i0) :: rest)) :=
  va_get (ws := [(B k0 c0 i0, .inr (ci, fs))]) hexec hb hts hin hown hK.1 (hP.one hid he) 0 rfl hc k hk hlink (fun _ h => by rw [← hsame]; exact h) hv hdg kk
theorem wk_put (hexec : p.tables.exec = Jvm.exec) (hb : c.code = cc) {own ref C : String} {T : u_T} {N ci index : Nat} {Ts : List Cond} (hts : ∀ w ∈ Ts, w.before args s = true) (hin : ∀ w ∈ u_ws C T N, w ∈ Ts) (ty0 : Nat → FieldType) (hty : ∀ k, k < N → parseFieldDescriptor (T k).2.2.1 = some (ty0 k)) (hnm : ∀ a, a < N → ∀ b, b < N → a ≠ b → (T a).2.1 ≠ (T b).2.1) (hown : s.vm.findClass own = some m.cls) (hK : wk_K D y s) (hP : wk_H D y B Lk M H) (hI : wk_I B Lk) (hS0 : va_S A H0 H locs) (hA : ∀ q, wk_A B Lk q → A q) (hid : Lk k0 c0 i0) {fs : List Value} (he : wk_cel y B (M k0 c0 i0) k0 c0 i0 = .inr (ci, fs)) (hc : vwCl[ci]? = some (C, T, N)) (k : Nat) (hk : k < N) (hlink : (Cond.fieldLink own index ref (T k).2.1 (T k).2.2.1).before args s = true) (hsame : (T k).1 = ref) (hfin : (T k).2.2.2 = false) {v : Int32} (hd : parseFieldDescriptor (T k).2.2.1 = some .int) (hl : k < fs.length)
    (hnew : wk_cel y B (upd (M k0 c0 i0) k v) k0 c0 i0 = .inr (ci, fs.set k (.int v)))
    (hdg : decode cc pc = .ok (.putfield index, 3)) (kk : ∀ (H1 : Heap) (locs1 : List Loc), wk_H D y B Lk (wk_up M k0 c0 i0 k v) H1 → va_S A H0 H1 locs1 → W p l e R s m args below meth c H1 locs1 cells slots Q (F0 m (pc + 3) ls rest)) : W p l e R s m args below meth c H locs cells slots Q (F0 m pc ls (.int v :: .ref (B k0 c0 i0) :: rest)) := by
  have hap := va_apart (own := own) hts hin ty0 hty hnm hK.1 hc
  have h0 := hP k0 c0 i0 hid
  rw [he] at h0
  obtain ⟨r, h1, cell, q1, q2, q3, q4⟩ := h0
  have hr : r = (C, T, N) := Option.some.inj (h1.symm.trans hc)
  subst hr
  obtain ⟨hS, hfc, kC, hkC, hkind⟩ := hK.1.1 ci _ hc
  obtain ⟨cf, kf, fi, f, hi, hsl⟩ := hS k hk
  have hlay := hts _ (hin _ (u_in_lay hk))
  unfold u_lay at hlay
  rw [if_neg (by rw [hfin]; decide)] at hlay
  have hst := (u_facts hfc hkC (u_lays hts hin hk) hi).1
  have h6 := u_store (v := .int v) hfc hkC hkind hlay hi hd rfl rfl
  refine W.putK hexec hb (f := f) ⟨hown, hlink, ⟨_, _, _, by rw [← hsame]; exact hi⟩, hst⟩ (by rw [q2]; exact h6) q1 q3 (by rw [hsl]; exact k2_hasslot (q4 k hk)) rfl rfl hdg fun H' e1 e2 e3 => ?_
  rw [hsl] at e1 ⊢
  refine kk H' _ (hP.row hI hid ?_ e3) (hS0.put e2 e3 (hA _ ⟨_, _, _, hid, rfl⟩))
  rw [hnew]
  exact ⟨_, hc, t_OB.to (V := updV (vp_V fs) k (.int v)) ⟨_, e1, q2, q3, t_set q4 hap hk (.int v)⟩ (fun j _ => vp_updV_set hl (.int v) j)⟩
theorem wk_iald (hexec : p.tables.exec = Jvm.exec) (hb : c.code = cc) (hK : wk_K D y s) (hP : wk_H D y B Lk M H) (hid : Lk k0 c0 i0) {n : Nat} {f : Nat → Int32} (he : wk_cel y B (M k0 c0 i0) k0 c0 i0 = .inl (y 0, n, .inl f)) {i : Int32} {j : Nat} (hin : ¬ (i < 0 ∨ n ≤ i.toNatClampNeg)) (hj : i.toNatClampNeg = j) (hdg : decode cc pc = .ok (.iaload, 1))
    (kk : W p l e R s m args below meth c H locs cells slots Q (F0 m (pc + 1) ls (.int (f j) :: rest))) : W p l e R s m args below meth c H locs cells slots Q (F0 m pc ls (.int i :: .ref (B k0 c0 i0) :: rest)) := by
  subst hj
  exact va_iald (tys := wk_ty y) hexec hb hK.1 (hP.one hid he) 0 0 rfl rfl hin hdg kk
theorem wk_iast (hexec : p.tables.exec = Jvm.exec) (hb : c.code = cc) (hK : wk_K D y s) (hP : wk_H D y B Lk M H) (hI : wk_I B Lk) (hS : va_S A H0 H locs) (hA : ∀ q, wk_A B Lk q → A q) (hid : Lk k0 c0 i0) {n : Nat} {f : Nat → Int32} (he : wk_cel y B (M k0 c0 i0) k0 c0 i0 = .inl (y 0, n, .inl f)) {i x : Int32} {j : Nat} (hin : ¬ (i < 0 ∨ n ≤ i.toNatClampNeg)) (hj : i.toNatClampNeg = j) (hnew : wk_cel y B (upd (M k0 c0 i0) j x) k0 c0 i0 = .inl (y 0, n, .inl (upd f j x))) (hdg : decode cc pc = .ok (.iastore, 1))
    (kk : ∀ (H1 : Heap) (locs1 : List Loc), wk_H D y B Lk (wk_up M k0 c0 i0 j x) H1 → va_S A H0 H1 locs1 → W p l e R s m args below meth c H1 locs1 cells slots Q (F0 m (pc + 1) ls rest)) : W p l e R s m args below meth c H locs cells slots Q (F0 m pc ls (.int x :: .int i :: .ref (B k0 c0 i0) :: rest)) := by
  subst hj
  have h0 := hP k0 c0 i0 hid
  rw [he] at h0
  refine W.iast hexec hb h0 ((hK.1.2 0 _ rfl).1 n (fun j => .int (f j))) (fun q => by cases q) (by show ¬ (i < 0 ∨ (arrV _ _ _).slots.size ≤ _); rw [arrV_size]; exact hin) rfl rfl hdg fun H1 e z oq => ?_
  refine kk H1 _ (hP.row hI hid ?_ oq) (hS.put z oq (hA _ ⟨_, _, _, hid, rfl⟩))
  rw [hnew]
  show H1[B k0 c0 i0]? = some (vp_cell _ _)
  rw [e]
  rw [vp_cell_i, vp_cell_i, arrV_store]
  congr 2
  funext q
  by_cases hq : q = i.toNatClampNeg
  · subst hq
    simp [updV, upd]
  · simp [updV, upd, hq]
theorem wk_aaldR (hexec : p.tables.exec = Jvm.exec) (hb : c.code = cc) (hK : wk_K D y s) (hP : wk_H D y B Lk M H) (hid : Lk 1 c0 i0) {i : Int32} {j : Nat} (hin : ¬ (i < 0 ∨ 8 ≤ i.toNatClampNeg)) (hj : i.toNatClampNeg = j) (hdg : decode cc pc = .ok (.aaload, 1))
    (kk : W p l e R s m args below meth c H locs cells slots Q (F0 m (pc + 1) ls (.ref (B 6 c0 j) :: rest))) : W p l e R s m args below meth c H locs cells slots Q (F0 m pc ls (.int i :: .ref (B 1 c0 i0) :: rest)) := by
  subst hj
  exact va_aldq (tys := wk_ty y) hexec hb hK.1 (hP.one hid wk_c1) 0 1 rfl rfl hin hdg kk
theorem wk_aaldH (hexec : p.tables.exec = Jvm.exec) (hb : c.code = cc) (hK : wk_K D y s) (hP : wk_H D y B Lk M H) (hid : Lk 10 0 0) {i : Int32} {j n : Nat} (hin : ¬ (i < 0 ∨ 5 ≤ i.toNatClampNeg)) (hj : i.toNatClampNeg = j) (hn : (M 10 0 0 j).toNatClampNeg = n) (hdg : decode cc pc = .ok (.aaload, 1))
    (kk : W p l e R s m args below meth c H locs cells slots Q (F0 m (pc + 1) ls (.ref (B 0 n 0) :: rest))) : W p l e R s m args below meth c H locs cells slots Q (F0 m pc ls (.int i :: .ref (B 10 0 0) :: rest)) := by
  subst hj
  subst hn
  exact va_aldq (tys := wk_ty y) hexec hb hK.1 (hP.one hid wk_c10) 0 2 rfl rfl hin hdg kk
theorem wk_alen (hexec : p.tables.exec = Jvm.exec) (hb : c.code = cc) (hK : wk_K D y s) (hP : wk_H D y B Lk M H) (hid : Lk k0 c0 i0) {t0 : Nat} {cA : ClassId} {x : vp_A} (he : wk_cel y B (M k0 c0 i0) k0 c0 i0 = .inl (cA, x)) {ty : FieldType} (ht : (wk_ty y)[t0]? = some (cA, ty)) {v : Int32} (hv : Int32.ofNat x.1 = v) (hdg : decode cc pc = .ok (.arraylength, 1))
    (kk : W p l e R s m args below meth c H locs cells slots Q (F0 m (pc + 1) ls (.int v :: rest))) : W p l e R s m args below meth c H locs cells slots Q (F0 m pc ls (.ref (B k0 c0 i0) :: rest)) :=
  va_alen (tys := wk_ty y) hexec hb hK.1 (hP.one hid he) 0 t0 rfl ht hv hdg kk
/-- a chip into the row of chips -/
theorem wk_aast (hexec : p.tables.exec = Jvm.exec) (hb : c.code = cc) (hK : wk_K D y s) (hP : wk_H D y B Lk M H) (hI : wk_I B Lk) (hS : va_S A H0 H locs) (hA : ∀ q, wk_A B Lk q → A q) (hid : Lk 10 0 0) {cv : Nat} (hcv : cv < 7) (hv : Lk 0 cv 0) {i : Int32} {j : Nat} (hin : ¬ (i < 0 ∨ 5 ≤ i.toNatClampNeg)) (hj : i.toNatClampNeg = j) (hdg : decode cc pc = .ok (.aastore, 1))
    (kk : ∀ (H1 : Heap) (locs1 : List Loc), wk_H D y B Lk (wk_up M 10 0 0 j (nI cv)) H1 → va_S A H0 H1 locs1 → W p l e R s m args below meth c H1 locs1 cells slots Q (F0 m (pc + 1) ls rest)) : W p l e R s m args below meth c H locs cells slots Q (F0 m pc ls (.ref (B 0 cv 0) :: .int i :: .ref (B 10 0 0) :: rest)) := by
  subst hj
  have hlt : i.toNatClampNeg < 5 := wk_ix hin
  have h0' : ¬ i < 0 := fun q => hin (Or.inl q)
  have h0 := hP 10 0 0 hid
  rw [wk_c10] at h0
  have h9 := hP 0 cv 0 hv
  rw [wk_c0] at h9
  obtain ⟨r', hr', cellV, g1, g2, g3, -⟩ := h9
  have hcls := (hK.1.1 0 _ rfl).2
  obtain ⟨kA, comp, k1, k2, k3, -⟩ := (hK.1.2 2 _ rfl).2
  have hcomp : comp = D.1 0 := Option.some.inj (k3.symm.trans hcls.1)
  subst hcomp
  obtain ⟨kC, hkC, -⟩ := hcls.2
  refine W.aast hexec hb h0 (fun q h => by cases h) (fun h => by cases h) k1 k2 rfl hkC ⟨h0', by show _ < (arrV _ _ _).slots.size; rw [arrV_size]; exact hlt⟩ g1 (fun q h => by rw [g3] at h; cases h) (by rw [g2]; exact hkC) (by rw [g2]; exact va_assign hcls) rfl rfl hdg fun H1 e z oq => ?_
  refine kk H1 _ (hP.row hI hid ?_ oq) (hS.put z oq (hA _ ⟨_, _, _, hid, rfl⟩))
  rw [wk_c10]
  show H1[B 10 0 0]? = some (vp_cell _ _)
  rw [e]
  rw [vp_cell_q, vp_cell_q, arrV_store]
  congr 2
  funext q
  by_cases hq : q = i.toNatClampNeg
  · subst hq
    simp [updV, upd, va_rf, nI_clamp (show cv < 2 ^ 31 by omega)]
  · simp [updV, upd, hq]
theorem wk_copy (hexec : p.tables.exec = Jvm.exec) (hb : c.code = cc) (hml : c.maxLocals = ls.size) {own : String} {index : Nat} (hown : s.vm.findClass own = some m.cls) (hlink : (Cond.methodLink own index arraycopyName).before args s = true) (hnat : (Cond.native arraycopyName).before args s = true) (hstat : (Cond.static arraycopyName).before args s = true) (hini : (Cond.initialized "java/lang/System").before args s = true)
    (hK : wk_K D y s) (hP : wk_H D y B Lk M H) (hI : wk_I B Lk) (hS : va_S A H0 H locs) (hA : ∀ q, wk_A B Lk q → A q) {k1 c1 i1 : Nat} (hid : Lk k0 c0 i0) (hid1 : Lk k1 c1 i1) {n0 n1 : Nat} {f g : Nat → Int32} (he0 : wk_cel y B (M k0 c0 i0) k0 c0 i0 = .inl (y 0, n0, .inl f)) (he1 : wk_cel y B (M k1 c1 i1) k1 c1 i1 = .inl (y 0, n1, .inl g))
    {sp dp n : Int32} {spn dpn nn : Nat} (h1 : ¬ sp < 0) (h2 : ¬ dp < 0) (h3 : ¬ n < 0) (z1 : sp.toNatClampNeg = spn) (z2 : dp.toNatClampNeg = dpn) (z3 : n.toNatClampNeg = nn) (h4 : spn + nn ≤ n0) (h5 : dpn + nn ≤ n1)
    (hnew : wk_cel y B (va_cpy f g spn dpn nn) k1 c1 i1 = .inl (y 0, n1, .inl (va_cpy f g spn dpn nn)))
    (hframes : 1 ≤ R.frames) (hlocals : (rest.map fun v => v.category).sum + (nativeFrameWords "java/lang/System" "arraycopy" 5 + 11) ≤ R.locals) (hdg : decode cc pc = .ok (.invokestatic index, 3))
    (kk : ∀ (H1 : Heap) (locs1 : List Loc), wk_H D y B Lk (wk_ur M k1 c1 i1 (va_cpy f g spn dpn nn)) H1 → va_S A H0 H1 locs1 → W p l e R s m args below meth c H1 locs1 cells slots Q (F0 m (pc + 3) ls rest)) : W p l e R s m args below meth c H locs cells slots Q (F0 m pc ls (.int n :: .int dp :: .ref (B k1 c1 i1) :: .int sp :: .ref (B k0 c0 i0) :: rest)) := by
  subst z1
  subst z2
  subst z3
  have nn : ∀ z : Int32, ¬ z < 0 → z.toInt = (z.toNatClampNeg : Int) := by
    intro z hz
    have hz0 : (0 : Int) ≤ z.toInt := by
      have := Int32.not_lt.mp hz
      simpa using Int32.le_iff_toInt_le.mp this
    show z.toInt = ((z.toInt.toNat : Nat) : Int)
    omega
  intro T hT X
  have hc0 : H[B k0 c0 i0]? = some (vp_cell (y 0) (n0, .inl f)) := by have h := hP k0 c0 i0 hid; rw [he0] at h; exact h
  have hc1 : H[B k1 c1 i1]? = some (vp_cell (y 0) (n1, .inl g)) := by have h := hP k1 c1 i1 hid1; rw [he1] at h; exact h
  obtain ⟨-, k2, hk2, cm2, hkk2⟩ := (hK.1.2 0 _ rfl).1 n0 (fun j => .int (f j))
  obtain ⟨-, k3, hk3, cm3, hkk3⟩ := (hK.1.2 0 _ rfl).1 n1 (fun j => .int (g j))
  obtain ⟨vm', X', step⟩ := X.arraycopy hexec hown hlink hnat hstat hini (src := B k0 c0 i0) (dst := B k1 c1 i1) (cs := vp_cell (y 0) (n0, .inl f)) (cd := vp_cell (y 0) (n1, .inl g)) (srcPos := sp) (destPos := dp) (n := n) (by rw [hT]; exact hc0) (by rw [hT]; exact hc1)
    (fun _ h => by cases h) (fun _ h => by cases h) (fun h => by cases h) (fun h => by cases h) hk2 hk3 hkk2 hkk3 (by simp [refKind]) h1 h2 h3
    (by rw [nn sp h1, nn n h3]; show ¬ _ > ((arrV (y 0) n0 (fun j => .int (f j))).slots.size : Int); rw [arrV_size]; omega)
    (by rw [nn dp h2, nn n h3]; show ¬ _ > ((arrV (y 0) n1 (fun j => .int (g j))).slots.size : Int); rw [arrV_size]; omega)
    (fun vm₁ _ i hi => by
      have e : (vp_cell (y 0) (n0, .inl f)).slots.getD (sp.toNatClampNeg + i) .null = .int (f (sp.toNatClampNeg + i)) := by
        show (arrV (y 0) n0 (fun j => .int (f j))).slots.getD _ _ = _
        rw [Array.getD_eq_getD_getElem?, arrV_read _ _ (by omega)]
        rfl
      refine ⟨?_, ?_⟩
      · rw [e]
        rfl
      · rw [e]
        exact trivial)
    (g := F0 m pc ls (.int n :: .int dp :: .ref (B k1 c1 i1) :: .int sp :: .ref (B k0 c0 i0) :: rest)) rfl (by rw [hml]) (rest := rest) rfl (by rw [hb]; exact hdg) hframes (by show 2 * 0 + _ + _ ≤ _; omega)
  have e1 : copied (vp_cell (y 0) (n0, .inl f)) (vp_cell (y 0) (n1, .inl g)) sp dp n = vp_cell (y 0) (n1, .inl (va_cpy f g sp.toNatClampNeg dp.toNatClampNeg n.toNatClampNeg)) := va_copied (fun z => .int z) (y 0) (y 0) f g h4
  rw [e1] at X' step
  have hl : B k1 c1 i1 < H.size := (Array.getElem?_eq_some_iff.mp hc1).1
  have hheap : ((T.setVm vm').setCell (B k1 c1 i1) (vp_cell (y 0) (n1, .inl (va_cpy f g sp.toNatClampNeg dp.toNatClampNeg n.toNatClampNeg)))).heap = H.setIfInBounds (B k1 c1 i1) (vp_cell (y 0) (n1, .inl (va_cpy f g sp.toNatClampNeg dp.toNatClampNeg n.toNatClampNeg))) := by rw [← hT]; rfl
  have oq : ∀ q : Nat, q ≠ B k1 c1 i1 → (H.setIfInBounds (B k1 c1 i1) (vp_cell (y 0) (n1, .inl (va_cpy f g sp.toNatClampNeg dp.toNatClampNeg n.toNatClampNeg))))[q]? = H[q]? := fun q hq => by simp [Array.getElem?_setIfInBounds, Ne.symm hq]
  have hAb : A (B k1 c1 i1) := hA _ ⟨_, _, _, hid1, rfl⟩
  obtain ⟨t, a1, b1⟩ := kk _ _ (hP.row hI hid1 (by rw [hnew]; show (H.setIfInBounds (B k1 c1 i1) _)[B k1 c1 i1]? = some _; simp [Array.getElem?_setIfInBounds, hl]) oq) ⟨by simp; exact hS.1, fun q g1 g2 => by
      rw [oq q (fun e => g2 (by rw [e]; exact hAb))]
      exact hS.2.1 q g1 g2, fun q hq => by
      rcases List.mem_append.mp hq with h | h
      · exact hS.2.2 q h
      · obtain ⟨z, -, hz⟩ := List.mem_map.mp h
        rw [← hz]
        exact hAb⟩ _ hheap X'
  exact ⟨t, step t a1, b1⟩
theorem wk_topi {x w : Int32} (h : x = w) (k : W p l e R s m args below meth c H locs cells slots Q (F0 m pc ls (.int w :: rest))) : W p l e R s m args below meth c H locs cells slots Q (F0 m pc ls (.int x :: rest)) := by rw [h]; exact k
theorem wk_topl {x w : Int64} (h : x = w) (k : W p l e R s m args below meth c H locs cells slots Q (F0 m pc ls (.long w :: rest))) : W p l e R s m args below meth c H locs cells slots Q (F0 m pc ls (.long x :: rest)) := by rw [h]; exact k
theorem wk_irem (hexec : p.tables.exec = Jvm.exec) (hb : c.code = cc) {x y : Int32} (hne : ¬ y = 0) (hdg : decode cc pc = .ok (.irem, 1)) (k : W p l e R s m args below meth c H locs cells slots Q (F0 m (pc + 1) ls (.int (wk_rem x y) :: rest))) : W p l e R s m args below meth c H locs cells slots Q (F0 m pc ls (.int y :: .int x :: rest)) := lv_irem hexec hb hdg hne k
theorem wk_lrem (hexec : p.tables.exec = Jvm.exec) (hb : c.code = cc) {x y : Int64} (hne : ¬ y = 0) (hdg : decode cc pc = .ok (.lrem, 1)) (k : W p l e R s m args below meth c H locs cells slots Q (F0 m (pc + 1) ls (.long (wk_lrm x y) :: rest))) : W p l e R s m args below meth c H locs cells slots Q (F0 m pc ls (.long y :: .long x :: rest)) := lv_lrem hexec hb hdg hne k
end WKR
/-! contracts over the world -/
abbrev wk_Mi (l : Launch) (y0 : MethodName) (ws : List Cond) (fr lo : Nat) (D : va_G) (y : Nat → ClassId) (B : Nat → Nat → Nat → Nat) (Lk : Nat → Nat → Nat → Prop) (av : List Value) (M : wk_T) (r0 : Int32) (MM : wk_T) : Prop := Met l y0 ws ({ frames := fr, cells := 0, slots := 0, locals := lo }) (va_Pc av (wk_W D y B Lk M)) (va_Qi (fun (r : Int32) (u : wk_T) => r = r0 ∧ u = MM) (fun u t => wk_W D y B Lk u t) (wk_A B Lk)) 0 0 (wk_A B Lk)
abbrev wk_Ml (l : Launch) (y0 : MethodName) (ws : List Cond) (fr lo : Nat) (D : va_G) (y : Nat → ClassId) (B : Nat → Nat → Nat → Nat) (Lk : Nat → Nat → Nat → Prop) (av : List Value) (M : wk_T) (r0 : Int64) (MM : wk_T) : Prop := Met l y0 ws ({ frames := fr, cells := 0, slots := 0, locals := lo }) (va_Pc av (wk_W D y B Lk M)) (va_Ql (fun (r : Int64) (u : wk_T) => r = r0 ∧ u = MM) (fun u t => wk_W D y B Lk u t) (wk_A B Lk)) 0 0 (wk_A B Lk)
abbrev wk_Mv (l : Launch) (y0 : MethodName) (ws : List Cond) (fr lo : Nat) (D : va_G) (y : Nat → ClassId) (B : Nat → Nat → Nat → Nat) (Lk : Nat → Nat → Nat → Prop) (av : List Value) (M : wk_T) (MM : wk_T) : Prop := Met l y0 ws ({ frames := fr, cells := 0, slots := 0, locals := lo }) (va_Pc av (wk_W D y B Lk M)) (va_Qv (fun (u : wk_T) => u = MM) (fun u t => wk_W D y B Lk u t) (wk_A B Lk)) 0 0 (wk_A B Lk)
/-- what stays fixed in a walk -/
def wk_X (p : Program) (l : Launch) (e : Env) (R : Room) (s : State) (m : MethodId) (args : Array Value) (below : List Frame) (meth : Method) (c : Code) (cells slots : Nat) (Q : State → Prop) (cc : ByteArray) (nL : Nat) (own : String) (ws : List Cond) (D : va_G) (y : Nat → ClassId) (B : Nat → Nat → Nat → Nat) (Lk : Nat → Nat → Nat → Prop) (A : Nat → Prop) (fr lo : Nat) : Prop :=
  (p.tables.exec = Jvm.exec ∧ c.code = cc ∧ c.maxLocals = nL ∧ s.vm.findClass own = some m.cls ∧ ∀ w ∈ ws, w.before args s = true) ∧ wk_K D y s ∧ wk_I B Lk ∧ wk_L Lk ∧ (∀ q, wk_A B Lk q → A q) ∧ fr ≤ R.frames ∧ lo ≤ R.locals ∧ cells + 0 ≤ R.cells ∧ slots + 0 ≤ R.slots
def wk_Ri (p : Program) (l : Launch) (e : Env) (R : Room) (s : State) (m : MethodId) (args : Array Value) (below : List Frame) (meth : Method) (c : Code) (cells slots : Nat) (Q : State → Prop) (cc : ByteArray) (D : va_G) (y : Nat → ClassId) (B : Nat → Nat → Nat → Nat) (Lk : Nat → Nat → Nat → Prop) (A : Nat → Prop) (r0 : Int32) (MM : wk_T) : Prop :=
  ∀ (v : Int32) (M : wk_T) (H : Heap) (locs : List Loc) (pc : Nat) (ls : Array Slot), some (v, M) = some (r0, MM) → wk_H D y B Lk M H → va_S A s.heap H locs → decode cc pc = .ok (.ireturn, 1) → W p l e R s m args below meth c H locs cells slots Q (F0 m pc ls [.int v])
def wk_Rz (p : Program) (l : Launch) (e : Env) (R : Room) (s : State) (m : MethodId) (args : Array Value) (below : List Frame) (meth : Method) (c : Code) (cells slots : Nat) (Q : State → Prop) (cc : ByteArray) (D : va_G) (y : Nat → ClassId) (B : Nat → Nat → Nat → Nat) (Lk : Nat → Nat → Nat → Prop) (A : Nat → Prop) (r0 : Int32) (MM : wk_T) : Prop :=
  ∀ (v : Int32) (M : wk_T) (H : Heap) (locs : List Loc) (pc : Nat) (ls : Array Slot), (v = 0 ∨ v = 1) → some (v, M) = some (r0, MM) → wk_H D y B Lk M H → va_S A s.heap H locs → decode cc pc = .ok (.ireturn, 1) → W p l e R s m args below meth c H locs cells slots Q (F0 m pc ls [.int v])
def wk_Rl (p : Program) (l : Launch) (e : Env) (R : Room) (s : State) (m : MethodId) (args : Array Value) (below : List Frame) (meth : Method) (c : Code) (cells slots : Nat) (Q : State → Prop) (cc : ByteArray) (D : va_G) (y : Nat → ClassId) (B : Nat → Nat → Nat → Nat) (Lk : Nat → Nat → Nat → Prop) (A : Nat → Prop) (r0 : Int64) (MM : wk_T) : Prop :=
  ∀ (v : Int64) (M : wk_T) (H : Heap) (locs : List Loc) (pc : Nat) (ls : Array Slot), some (v, M) = some (r0, MM) → wk_H D y B Lk M H → va_S A s.heap H locs → decode cc pc = .ok (.lreturn, 1) → W p l e R s m args below meth c H locs cells slots Q (F0 m pc ls [.long v])
def wk_Rv (p : Program) (l : Launch) (e : Env) (R : Room) (s : State) (m : MethodId) (args : Array Value) (below : List Frame) (meth : Method) (c : Code) (cells slots : Nat) (Q : State → Prop) (cc : ByteArray) (D : va_G) (y : Nat → ClassId) (B : Nat → Nat → Nat → Nat) (Lk : Nat → Nat → Nat → Prop) (A : Nat → Prop) (MM : wk_T) : Prop :=
  ∀ (M : wk_T) (H : Heap) (locs : List Loc) (pc : Nat) (ls : Array Slot), some ((), M) = some ((), MM) → wk_H D y B Lk M H → va_S A s.heap H locs → decode cc pc = .ok (.return_, 1) → W p l e R s m args below meth c H locs cells slots Q (F0 m pc ls [])
section WKM
variable {p : Program} {l : Launch} {e : Env} {R : Room} {s : State} {m : MethodId} {args : Array Value} {below : List Frame} {meth : Method} {c : Code} {H : Heap} {locs : List Loc} {cells slots : Nat} {Q : State → Prop}
variable {cc : ByteArray} {pc : Nat} {ls : Array Slot} {st0 rest As : List Value} {D : va_G} {y : Nat → ClassId} {B : Nat → Nat → Nat → Nat} {Lk : Nat → Nat → Nat → Prop} {M MM : wk_T} {A : Nat → Prop} {H0 : Heap} {k0 c0 i0 : Nat}
variable {own C : String} {Ts ws : List Cond} {nL fr lo index maxL n : Nat} {y0 : MethodName} {bytes : ByteArray} {ret : Option FieldType} {host : String}
theorem wk_recv (hK : wk_K D y s) (hP : wk_H D y B Lk M H) (hid : Lk k0 c0 i0) {ci : Nat} {fs : List Value} (he : wk_cel y B (M k0 c0 i0) k0 c0 i0 = .inr (ci, fs)) {T : u_T} {N : Nat} (hc : vwCl[ci]? = some (C, T, N)) : ∃ cell : Cell, H[B k0 c0 i0]? = some cell ∧ cell.vm.isStatics = false ∧ s.vm.findClass C = some cell.cls :=
  va_recv (ws := [(B k0 c0 i0, .inr (ci, fs))]) (q0 := 0) (q := (C, T, N)) hK.1 (hP.one hid he) hc rfl
theorem wk_cVi {r0 : Int32} (S : CallFix p m c cc nL s args Ts own) (hM : wk_Mi l y0 ws fr lo D y B Lk (.ref (B k0 c0 i0) :: As) M r0 MM) (cw : CallW R s args own C index y0 bytes maxL ret ws ({ frames := fr, cells := 0, slots := 0, locals := lo }) 0 0 n) (hK : wk_K D y s) (hP : wk_H D y B Lk M H) (hS : va_S A s.heap H locs) (hA : ∀ q, wk_A B Lk q → A q) (hid : Lk k0 c0 i0) {ci : Nat} {fs : List Value} (he : wk_cel y B (M k0 c0 i0) k0 c0 i0 = .inr (ci, fs)) {T : u_T} {N : Nat} (hc : vwCl[ci]? = some (C, T, N)) (hn : As.length = n) (hsize : ls.size = nL) (hW : 2 * (F0 m pc ls rest).monitorRoom + (rest.map fun v => v.category).sum ≤ 8) (hcs : cells + 0 ≤ R.cells ∧ slots + 0 ≤ R.slots) (hdg : decode cc pc = .ok (.invokevirtual index, 3))
    (kk : ∀ (H1 : Heap) (locs1 : List Loc), wk_H D y B Lk MM H1 → va_S A s.heap H1 locs1 → W p l e R s m args below meth c H1 locs1 cells slots Q (F0 m (pc + 3) ls (.int r0 :: rest))) (hst : st0 = As.reverse ++ .ref (B k0 c0 i0) :: rest := by rfl) : W p l e R s m args below meth c H locs cells slots Q (F0 m pc ls st0) := by
  subst hst
  refine va_calli (va_runV (As := As) (rest := rest) S hM cw ⟨wk_blind, wk_recv hK hP hid he hc, fun U hU hW => ⟨rfl, by rw [hU]; exact hP, hK.moved hW⟩⟩ rfl hn hsize rfl hW hdg hcs) hS (fun q _ h => hA q h) hA (fun r u t H1 locs1 ht hvm hw hB hz hk hS => ?_)
  obtain ⟨rfl, rfl⟩ := hw
  exact kk H1 locs1 (by rw [← ht]; exact hB.1) hS
theorem wk_cVl {r0 : Int64} (S : CallFix p m c cc nL s args Ts own) (hM : wk_Ml l y0 ws fr lo D y B Lk (.ref (B k0 c0 i0) :: As) M r0 MM) (cw : CallW R s args own C index y0 bytes maxL ret ws ({ frames := fr, cells := 0, slots := 0, locals := lo }) 0 0 n) (hK : wk_K D y s) (hP : wk_H D y B Lk M H) (hS : va_S A s.heap H locs) (hA : ∀ q, wk_A B Lk q → A q) (hid : Lk k0 c0 i0) {ci : Nat} {fs : List Value} (he : wk_cel y B (M k0 c0 i0) k0 c0 i0 = .inr (ci, fs)) {T : u_T} {N : Nat} (hc : vwCl[ci]? = some (C, T, N)) (hn : As.length = n) (hsize : ls.size = nL) (hW : 2 * (F0 m pc ls rest).monitorRoom + (rest.map fun v => v.category).sum ≤ 8) (hcs : cells + 0 ≤ R.cells ∧ slots + 0 ≤ R.slots) (hdg : decode cc pc = .ok (.invokevirtual index, 3))
    (kk : ∀ (H1 : Heap) (locs1 : List Loc), wk_H D y B Lk MM H1 → va_S A s.heap H1 locs1 → W p l e R s m args below meth c H1 locs1 cells slots Q (F0 m (pc + 3) ls (.long r0 :: rest))) (hst : st0 = As.reverse ++ .ref (B k0 c0 i0) :: rest := by rfl) : W p l e R s m args below meth c H locs cells slots Q (F0 m pc ls st0) := by
  subst hst
  refine va_calll (va_runV (As := As) (rest := rest) S hM cw ⟨wk_blind, wk_recv hK hP hid he hc, fun U hU hW => ⟨rfl, by rw [hU]; exact hP, hK.moved hW⟩⟩ rfl hn hsize rfl hW hdg hcs) hS (fun q _ h => hA q h) hA (fun r u t H1 locs1 ht hvm hw hB hz hk hS => ?_)
  obtain ⟨rfl, rfl⟩ := hw
  exact kk H1 locs1 (by rw [← ht]; exact hB.1) hS
theorem wk_cVv (S : CallFix p m c cc nL s args Ts own) (hM : wk_Mv l y0 ws fr lo D y B Lk (.ref (B k0 c0 i0) :: As) M MM) (cw : CallW R s args own C index y0 bytes maxL ret ws ({ frames := fr, cells := 0, slots := 0, locals := lo }) 0 0 n) (hK : wk_K D y s) (hP : wk_H D y B Lk M H) (hS : va_S A s.heap H locs) (hA : ∀ q, wk_A B Lk q → A q) (hid : Lk k0 c0 i0) {ci : Nat} {fs : List Value} (he : wk_cel y B (M k0 c0 i0) k0 c0 i0 = .inr (ci, fs)) {T : u_T} {N : Nat} (hc : vwCl[ci]? = some (C, T, N)) (hn : As.length = n) (hsize : ls.size = nL) (hW : 2 * (F0 m pc ls rest).monitorRoom + (rest.map fun v => v.category).sum ≤ 8) (hcs : cells + 0 ≤ R.cells ∧ slots + 0 ≤ R.slots) (hdg : decode cc pc = .ok (.invokevirtual index, 3))
    (kk : ∀ (H1 : Heap) (locs1 : List Loc), wk_H D y B Lk MM H1 → va_S A s.heap H1 locs1 → W p l e R s m args below meth c H1 locs1 cells slots Q (F0 m (pc + 3) ls rest)) (hst : st0 = As.reverse ++ .ref (B k0 c0 i0) :: rest := by rfl) : W p l e R s m args below meth c H locs cells slots Q (F0 m pc ls st0) := by
  subst hst
  refine va_callv (va_runV (As := As) (rest := rest) S hM cw ⟨wk_blind, wk_recv hK hP hid he hc, fun U hU hW => ⟨rfl, by rw [hU]; exact hP, hK.moved hW⟩⟩ rfl hn hsize rfl hW hdg hcs) hS (fun q _ h => hA q h) hA (fun u t H1 locs1 ht hvm hw hB hz hk hS => ?_)
  subst hw
  exact kk H1 locs1 (by rw [← ht]; exact hB.1) hS
theorem wk_cSi {r0 : Int32} (S : CallFix p m c cc nL s args Ts own) (hM : wk_Mi l y0 ws fr lo D y B Lk As M r0 MM) (cw : CallB R s args own index y0 bytes maxL ret ws ({ frames := fr, cells := 0, slots := 0, locals := lo }) 0 0 n ∧ (Cond.static y0).before args s = true) (hK : wk_K D y s) (hP : wk_H D y B Lk M H) (hS : va_S A s.heap H locs) (hA : ∀ q, wk_A B Lk q → A q) (hn : As.length = n) (hsize : ls.size = nL) (hW : 2 * (F0 m pc ls rest).monitorRoom + (rest.map fun v => v.category).sum ≤ 8) (hcs : cells + 0 ≤ R.cells ∧ slots + 0 ≤ R.slots) (hdg : decode cc pc = .ok (.invokestatic index, 3))
    (kk : ∀ (H1 : Heap) (locs1 : List Loc), wk_H D y B Lk MM H1 → va_S A s.heap H1 locs1 → W p l e R s m args below meth c H1 locs1 cells slots Q (F0 m (pc + 3) ls (.int r0 :: rest))) (hst : st0 = As.reverse ++ rest := by rfl) : W p l e R s m args below meth c H locs cells slots Q (F0 m pc ls st0) := by
  subst hst
  refine va_calli (va_runS (As := As) (rest := rest) S hM cw ⟨wk_blind, fun U hU hW => ⟨rfl, by rw [hU]; exact hP, hK.moved hW⟩⟩ rfl hn hsize rfl hW hdg hcs) hS (fun q _ h => hA q h) hA (fun r u t H1 locs1 ht hvm hw hB hz hk hS => ?_)
  obtain ⟨rfl, rfl⟩ := hw
  exact kk H1 locs1 (by rw [← ht]; exact hB.1) hS
theorem wk_cSl {r0 : Int64} (S : CallFix p m c cc nL s args Ts own) (hM : wk_Ml l y0 ws fr lo D y B Lk As M r0 MM) (cw : CallB R s args own index y0 bytes maxL ret ws ({ frames := fr, cells := 0, slots := 0, locals := lo }) 0 0 n ∧ (Cond.static y0).before args s = true) (hK : wk_K D y s) (hP : wk_H D y B Lk M H) (hS : va_S A s.heap H locs) (hA : ∀ q, wk_A B Lk q → A q) (hn : As.length = n) (hsize : ls.size = nL) (hW : 2 * (F0 m pc ls rest).monitorRoom + (rest.map fun v => v.category).sum ≤ 8) (hcs : cells + 0 ≤ R.cells ∧ slots + 0 ≤ R.slots) (hdg : decode cc pc = .ok (.invokestatic index, 3))
    (kk : ∀ (H1 : Heap) (locs1 : List Loc), wk_H D y B Lk MM H1 → va_S A s.heap H1 locs1 → W p l e R s m args below meth c H1 locs1 cells slots Q (F0 m (pc + 3) ls (.long r0 :: rest))) (hst : st0 = As.reverse ++ rest := by rfl) : W p l e R s m args below meth c H locs cells slots Q (F0 m pc ls st0) := by
  subst hst
  refine va_calll (va_runS (As := As) (rest := rest) S hM cw ⟨wk_blind, fun U hU hW => ⟨rfl, by rw [hU]; exact hP, hK.moved hW⟩⟩ rfl hn hsize rfl hW hdg hcs) hS (fun q _ h => hA q h) hA (fun r u t H1 locs1 ht hvm hw hB hz hk hS => ?_)
  obtain ⟨rfl, rfl⟩ := hw
  exact kk H1 locs1 (by rw [← ht]; exact hB.1) hS
theorem wk_cSv (S : CallFix p m c cc nL s args Ts own) (hM : wk_Mv l y0 ws fr lo D y B Lk As M MM) (cw : CallB R s args own index y0 bytes maxL ret ws ({ frames := fr, cells := 0, slots := 0, locals := lo }) 0 0 n ∧ (Cond.static y0).before args s = true) (hK : wk_K D y s) (hP : wk_H D y B Lk M H) (hS : va_S A s.heap H locs) (hA : ∀ q, wk_A B Lk q → A q) (hn : As.length = n) (hsize : ls.size = nL) (hW : 2 * (F0 m pc ls rest).monitorRoom + (rest.map fun v => v.category).sum ≤ 8) (hcs : cells + 0 ≤ R.cells ∧ slots + 0 ≤ R.slots) (hdg : decode cc pc = .ok (.invokestatic index, 3))
    (kk : ∀ (H1 : Heap) (locs1 : List Loc), wk_H D y B Lk MM H1 → va_S A s.heap H1 locs1 → W p l e R s m args below meth c H1 locs1 cells slots Q (F0 m (pc + 3) ls rest)) (hst : st0 = As.reverse ++ rest := by rfl) : W p l e R s m args below meth c H locs cells slots Q (F0 m pc ls st0) := by
  subst hst
  refine va_callv (va_runS (As := As) (rest := rest) S hM cw ⟨wk_blind, fun U hU hW => ⟨rfl, by rw [hU]; exact hP, hK.moved hW⟩⟩ rfl hn hsize rfl hW hdg hcs) hS (fun q _ h => hA q h) hA (fun u t H1 locs1 ht hvm hw hB hz hk hS => ?_)
  subst hw
  exact kk H1 locs1 (by rw [← ht]; exact hB.1) hS
/-- the nest mate's call -/
theorem wk_cNi {r0 : Int32} (S : CallFix p m c cc nL s args Ts own) (hM : wk_Mi l y0 ws fr lo D y B Lk As M r0 MM) (cw : va_CN R s args own index y0 host bytes maxL ret ws ({ frames := fr, cells := 0, slots := 0, locals := lo }) 0 0 n) (hstt : (Cond.static y0).before args s = true) (hK : wk_K D y s) (hP : wk_H D y B Lk M H) (hS : va_S A s.heap H locs) (hA : ∀ q, wk_A B Lk q → A q) (hn : As.length = n) (hsize : ls.size = nL) (hW : 2 * (F0 m pc ls rest).monitorRoom + (rest.map fun v => v.category).sum ≤ 8) (hcs : cells + 0 ≤ R.cells ∧ slots + 0 ≤ R.slots) (hdg : decode cc pc = .ok (.invokestatic index, 3))
    (kk : ∀ (H1 : Heap) (locs1 : List Loc), wk_H D y B Lk MM H1 → va_S A s.heap H1 locs1 → W p l e R s m args below meth c H1 locs1 cells slots Q (F0 m (pc + 3) ls (.int r0 :: rest))) (hst : st0 = As.reverse ++ rest := by rfl) : W p l e R s m args below meth c H locs cells slots Q (F0 m pc ls st0) := by
  subst hst
  refine va_calli (va_runSN (As := As) (rest := rest) S hM ⟨cw, hstt, trivial⟩ ⟨wk_blind, fun U hU hW => ⟨rfl, by rw [hU]; exact hP, hK.moved hW⟩⟩ rfl hn hsize rfl hW hdg hcs) hS (fun q _ h => hA q h) hA (fun r u t H1 locs1 ht hvm hw hB hz hk hS => ?_)
  obtain ⟨rfl, rfl⟩ := hw
  exact kk H1 locs1 (by rw [← ht]; exact hB.1) hS
/-! a contract out of a walk -/
theorem wk_ofI {r0 : Int32} {ws' : List Cond} (hy : plainName y0.cls = true) (hw : ws = Cond.code y0 bytes maxL ret :: ws') (hown : y0.cls = own) (hret : ret = some .int ∨ ret = some .boolean) (hent : (lg_sl As).length ≤ maxL) (hI : wk_I B Lk) (hL : wk_L Lk)
    (body : ∀ (p : Program) (e : Env) (s : State) (m : MethodId) (args : Array Value) (below : List Frame) (meth : Method) (c : Code) (ls : Array Slot), wk_X p l e ({ frames := fr, cells := 0, slots := 0, locals := lo }) s m args below meth c 0 0 (MQ below (va_Qi (fun (r : Int32) (u : wk_T) => r = r0 ∧ u = MM) (fun u t => wk_W D y B Lk u t) (wk_A B Lk)) args s 0 0 (wk_A B Lk)) bytes maxL own ws D y B Lk (wk_A B Lk) fr lo →
      (ret = some .int → wk_Ri p l e ({ frames := fr, cells := 0, slots := 0, locals := lo }) s m args below meth c 0 0 (MQ below (va_Qi (fun (r : Int32) (u : wk_T) => r = r0 ∧ u = MM) (fun u t => wk_W D y B Lk u t) (wk_A B Lk)) args s 0 0 (wk_A B Lk)) bytes D y B Lk (wk_A B Lk) r0 MM) →
      (ret = some .boolean → wk_Rz p l e ({ frames := fr, cells := 0, slots := 0, locals := lo }) s m args below meth c 0 0 (MQ below (va_Qi (fun (r : Int32) (u : wk_T) => r = r0 ∧ u = MM) (fun u t => wk_W D y B Lk u t) (wk_A B Lk)) args s 0 0 (wk_A B Lk)) bytes D y B Lk (wk_A B Lk) r0 MM) →
      lv_has ls maxL (lv_args 0 As) → wk_H D y B Lk M s.heap → va_S (wk_A B Lk) s.heap s.heap [] → W p l e ({ frames := fr, cells := 0, slots := 0, locals := lo }) s m args below meth c s.heap [] 0 0 (MQ below (va_Qi (fun (r : Int32) (u : wk_T) => r = r0 ∧ u = MM) (fun u t => wk_W D y B Lk u t) (wk_A B Lk)) args s 0 0 (wk_A B Lk)) (F0 m 0 ls [])) :
    wk_Mi l y0 ws fr lo D y B Lk As M r0 MM := by
  refine Met.ofW (cc := bytes) (maxL := maxL) (ret := ret) hy hw ?_
  intro p e s m args below meth c s₁ Bd hml hv
  obtain ⟨rfl, hH, hK⟩ := hv
  have hts := atoms_spec (ws := ws) Bd.pre
  have hfc : s.vm.findClass own = some m.cls := by rw [← hown]; exact findClass_of_methodNamed Bd.named
  have hlocks := Bd.notSynchronized
  have hr := Bd.returns
  rw [lg_entry_eq]
  refine body p e s m As.toArray below meth c _ ⟨⟨Bd.exec, Bd.bytes, hml, hfc, hts⟩, hK, hI, hL, fun _ h => h, Nat.le_refl _, Nat.le_refl _, Nat.le_refl _, Nat.le_refl _⟩ (fun hri v M' H locs pc ls hv hP hS hd => ?_) (fun hri v M' H locs pc ls hz hv hP hS hd => ?_) (lv_entry As hent) hH va_S.rf
  · cases hv
    exact W.iret Bd.exec Bd.bytes (hr.trans hri) (fun t ht hW => ⟨⟨_, _, rfl, ⟨rfl, rfl⟩, by rw [ht]; exact hP, hK.moved hW⟩, hS.F ht⟩) hS.2.2 hd hlocks
  · cases hv
    exact W.zret Bd.exec Bd.bytes (hr.trans hri) (by rcases hz with rfl | rfl <;> rfl) (fun t ht hW => ⟨⟨_, _, rfl, ⟨rfl, rfl⟩, by rw [ht]; exact hP, hK.moved hW⟩, hS.F ht⟩) hS.2.2 hd hlocks
theorem wk_ofL {r0 : Int64} {ws' : List Cond} (hy : plainName y0.cls = true) (hw : ws = Cond.code y0 bytes maxL (some .long) :: ws') (hown : y0.cls = own) (hent : (lg_sl As).length ≤ maxL) (hI : wk_I B Lk) (hL : wk_L Lk)
    (body : ∀ (p : Program) (e : Env) (s : State) (m : MethodId) (args : Array Value) (below : List Frame) (meth : Method) (c : Code) (ls : Array Slot), wk_X p l e ({ frames := fr, cells := 0, slots := 0, locals := lo }) s m args below meth c 0 0 (MQ below (va_Ql (fun (r : Int64) (u : wk_T) => r = r0 ∧ u = MM) (fun u t => wk_W D y B Lk u t) (wk_A B Lk)) args s 0 0 (wk_A B Lk)) bytes maxL own ws D y B Lk (wk_A B Lk) fr lo →
      wk_Rl p l e ({ frames := fr, cells := 0, slots := 0, locals := lo }) s m args below meth c 0 0 (MQ below (va_Ql (fun (r : Int64) (u : wk_T) => r = r0 ∧ u = MM) (fun u t => wk_W D y B Lk u t) (wk_A B Lk)) args s 0 0 (wk_A B Lk)) bytes D y B Lk (wk_A B Lk) r0 MM →
      lv_has ls maxL (lv_args 0 As) → wk_H D y B Lk M s.heap → va_S (wk_A B Lk) s.heap s.heap [] → W p l e ({ frames := fr, cells := 0, slots := 0, locals := lo }) s m args below meth c s.heap [] 0 0 (MQ below (va_Ql (fun (r : Int64) (u : wk_T) => r = r0 ∧ u = MM) (fun u t => wk_W D y B Lk u t) (wk_A B Lk)) args s 0 0 (wk_A B Lk)) (F0 m 0 ls [])) :
    wk_Ml l y0 ws fr lo D y B Lk As M r0 MM := by
  refine Met.ofW (cc := bytes) (maxL := maxL) (ret := some .long) hy hw ?_
  intro p e s m args below meth c s₁ Bd hml hv
  obtain ⟨rfl, hH, hK⟩ := hv
  have hts := atoms_spec (ws := ws) Bd.pre
  have hfc : s.vm.findClass own = some m.cls := by rw [← hown]; exact findClass_of_methodNamed Bd.named
  have hlocks := Bd.notSynchronized
  have hr := Bd.returns
  rw [lg_entry_eq]
  refine body p e s m As.toArray below meth c _ ⟨⟨Bd.exec, Bd.bytes, hml, hfc, hts⟩, hK, hI, hL, fun _ h => h, Nat.le_refl _, Nat.le_refl _, Nat.le_refl _, Nat.le_refl _⟩ (fun v M' H locs pc ls hv hP hS hd => ?_) (lv_entry As hent) hH va_S.rf
  cases hv
  exact W.lret Bd.exec Bd.bytes hr (fun t ht hW => ⟨⟨_, _, rfl, ⟨rfl, rfl⟩, by rw [ht]; exact hP, hK.moved hW⟩, hS.F ht⟩) hS.2.2 hd hlocks
theorem wk_ofV {ws' : List Cond} (hy : plainName y0.cls = true) (hw : ws = Cond.code y0 bytes maxL none :: ws') (hown : y0.cls = own) (hent : (lg_sl As).length ≤ maxL) (hI : wk_I B Lk) (hL : wk_L Lk)
    (body : ∀ (p : Program) (e : Env) (s : State) (m : MethodId) (args : Array Value) (below : List Frame) (meth : Method) (c : Code) (ls : Array Slot), wk_X p l e ({ frames := fr, cells := 0, slots := 0, locals := lo }) s m args below meth c 0 0 (MQ below (va_Qv (fun (u : wk_T) => u = MM) (fun u t => wk_W D y B Lk u t) (wk_A B Lk)) args s 0 0 (wk_A B Lk)) bytes maxL own ws D y B Lk (wk_A B Lk) fr lo →
      wk_Rv p l e ({ frames := fr, cells := 0, slots := 0, locals := lo }) s m args below meth c 0 0 (MQ below (va_Qv (fun (u : wk_T) => u = MM) (fun u t => wk_W D y B Lk u t) (wk_A B Lk)) args s 0 0 (wk_A B Lk)) bytes D y B Lk (wk_A B Lk) MM →
      lv_has ls maxL (lv_args 0 As) → wk_H D y B Lk M s.heap → va_S (wk_A B Lk) s.heap s.heap [] → W p l e ({ frames := fr, cells := 0, slots := 0, locals := lo }) s m args below meth c s.heap [] 0 0 (MQ below (va_Qv (fun (u : wk_T) => u = MM) (fun u t => wk_W D y B Lk u t) (wk_A B Lk)) args s 0 0 (wk_A B Lk)) (F0 m 0 ls [])) :
    wk_Mv l y0 ws fr lo D y B Lk As M MM := by
  refine Met.ofW (cc := bytes) (maxL := maxL) (ret := none) hy hw ?_
  intro p e s m args below meth c s₁ Bd hml hv
  obtain ⟨rfl, hH, hK⟩ := hv
  have hts := atoms_spec (ws := ws) Bd.pre
  have hfc : s.vm.findClass own = some m.cls := by rw [← hown]; exact findClass_of_methodNamed Bd.named
  have hlocks := Bd.notSynchronized
  have hr := Bd.returns
  rw [lg_entry_eq]
  refine body p e s m As.toArray below meth c _ ⟨⟨Bd.exec, Bd.bytes, hml, hfc, hts⟩, hK, hI, hL, fun _ h => h, Nat.le_refl _, Nat.le_refl _, Nat.le_refl _, Nat.le_refl _⟩ (fun M' H locs pc ls hv hP hS hd => ?_) (lv_entry As hent) hH va_S.rf
  cases hv
  exact W.vret Bd.exec Bd.bytes hr (fun t ht hW => ⟨⟨_, rfl, rfl, by rw [ht]; exact hP, hK.moved hW⟩, hS.F ht⟩) hS.2.2 hd hlocks
end WKM
end
section
/-! walks by program: X3_outside, X2_startAnew, X2_copyFrom, X2_tell, X2_paidInAll, X2_startWaking, X2_begin, X2_isGuessedByGap, X2_payForTick, X2_workOn, X2_isTimedOut -/
section WP11
variable {p : Program} {l : Launch} {e : Env} {R : Room} {s : State} {m : MethodId} {args : Array Value} {below : List Frame} {meth : Method} {c : Code} {cells slots : Nat} {Q : State → Prop}
variable {D : va_G} {y : Nat → ClassId} {B : Nat → Nat → Nat → Nat} {Lk : Nat → Nat → Nat → Prop} {A : Nat → Prop} {MM : wk_T}
def f_X3_outside (v0 : Int32) (v1 : Int32) (v2 : Int32) (M : wk_T) : Option (Int32 × wk_T) := (if v0 < v1 then (some (1, M)) else (if v0 ≤ v2 then (some (0, M)) else (some (1, M))))
set_option maxRecDepth 100000 in
set_option maxHeartbeats 4000000 in
theorem w_X3_outside_0 {r0 : Int32} (CX : wk_X p l e R s m args below meth c cells slots Q cX3_outside 3 RX3 wsX3_outside D y B Lk A 0 0) (RT : wk_Rz p l e R s m args below meth c cells slots Q cX3_outside D y B Lk A r0 MM) {v0 : Int32} {v1 : Int32} {v2 : Int32} {M : wk_T} {H : Heap} {locs : List Loc} {ls : Array Slot} (h : f_X3_outside v0 v1 v2 M = some (r0, MM)) (hl : lv_has ls 3 [(0, .int v0), (1, .int v1), (2, .int v2)]) (hP : wk_H D y B Lk M H) (hS : va_S A s.heap H locs) : W p l e R s m args below meth c H locs cells slots Q (F0 m 0 ls []) := by
  obtain ⟨⟨hx, hb, hml, hown, hts⟩, hK, hI, hL, hA, hfr, hlo, hcs⟩ := id CX
  unfold f_X3_outside at h
  refine lv_iload_n hx hb dX3_outside_0 rfl (lv_at hl 0 rfl) ?_
  refine lv_iload_n hx hb dX3_outside_1 rfl (lv_at hl 1 rfl) ?_
  refine lv_icmp_lt (tgt := 10) hx hb dX3_outside_2 (by decide) (fun g1 => ?_) (fun g1 => ?_)
  · have h := wk_p g1 h
    refine lv_iconst (v := 1) hx hb dX3_outside_10 (by decide) ?_
    refine lv_goto (tgt := 15) hx hb dX3_outside_11 (by decide) ?_
    exact RT _ _ _ _ _ _ (Or.inr rfl) h hP hS dX3_outside_15
  · have h := wk_n g1 h
    refine lv_iload_n hx hb dX3_outside_5 rfl (lv_at hl 0 rfl) ?_
    refine lv_iload_n hx hb dX3_outside_6 rfl (lv_at hl 2 rfl) ?_
    refine lv_icmp_le (tgt := 14) hx hb dX3_outside_7 (by decide) (fun g2 => ?_) (fun g2 => ?_)
    · have h := wk_p g2 h
      refine lv_iconst (v := 0) hx hb dX3_outside_14 (by decide) ?_
      exact RT _ _ _ _ _ _ (Or.inl rfl) h hP hS dX3_outside_15
    · have h := wk_n g2 h
      refine lv_iconst (v := 1) hx hb dX3_outside_10 (by decide) ?_
      refine lv_goto (tgt := 15) hx hb dX3_outside_11 (by decide) ?_
      exact RT _ _ _ _ _ _ (Or.inr rfl) h hP hS dX3_outside_15
set_option maxRecDepth 100000 in
set_option maxHeartbeats 4000000 in
theorem m_X3_outside (l : Launch) {D : va_G} {y : Nat → ClassId} {B : Nat → Nat → Nat → Nat} {Lk : Nat → Nat → Nat → Prop} (hI : wk_I B Lk) (hL : wk_L Lk) {v0 : Int32} {v1 : Int32} {v2 : Int32} {M : wk_T} {r0 : Int32} {MM : wk_T} (hf : f_X3_outside v0 v1 v2 M = some (r0, MM)) : wk_Mi l yX3_outside wsX3_outside 0 0 D y B Lk [.int v0, .int v1, .int v2] M r0 MM :=
  wk_ofI (own := RX3) (bytes := cX3_outside) (maxL := 3) (ret := some .boolean) (by decide +kernel) rfl rfl (Or.inr rfl) (Nat.le_of_ble_eq_true rfl) hI hL (fun p e s m args below meth c ls CX RTi RTz hl hP hS => w_X3_outside_0 CX (RTz rfl) hf hl hP hS)
def f_X2_startAnew_2 (ch : Nat) (ri : Nat) : Nat → Int32 → Int32 → wk_T → Option (Unit × wk_T)
  | 0, _, _, _ => none
  | n + 1, v1, v2, M => (if 4 ≤ v2 then wk_mu (wk_up M 6 ch ri 2 v1) (fun M2 => wk_mu (wk_up M2 6 ch ri 3 (-1)) (fun M3 => wk_mu (wk_up M3 6 ch ri 4 (-1)) (fun M4 => wk_mu (wk_up M4 6 ch ri 5 0) (fun M5 => wk_mu (wk_up M5 6 ch ri 6 0) (fun M6 => wk_mu (wk_up M6 6 ch ri 7 0) (fun M7 => wk_mu (wk_up M7 6 ch ri 8 0) (fun M8 => wk_mu (wk_up M8 6 ch ri 9 0) (fun M9 => wk_mu (wk_up M9 6 ch ri 10 0) (fun M10 => wk_mu (wk_up M10 6 ch ri 11 0) (fun M11 => wk_mu (wk_up M11 6 ch ri 12 0) (fun M12 => wk_mu (wk_up M12 6 ch ri 13 0) (fun M13 => wk_mu (wk_up M13 6 ch ri 14 0) (fun M14 => (some ((), M14))))))))))))))) else wk_gd (¬ (v2 < 0 ∨ 4 ≤ v2.toNatClampNeg)) (wk_mu (wk_up M 8 ch ri (v2.toNatClampNeg) 0) (fun M16 => wk_lt (v2 + 1) (fun x17 => (f_X2_startAnew_2 ch ri n v1 x17 M16)))))
def f_X2_startAnew (ch : Nat) (ri : Nat) (v1 : Int32) (M : wk_T) : Option (Unit × wk_T) := (f_X2_startAnew_2 ch ri wk_fuel v1 0 M)
set_option maxRecDepth 20000 in
theorem q_X2_startAnew {s : State} {args : Array Value} (hts : ∀ w ∈ wsX2_startAnew, w.before args s = true) : (Cond.fieldLink RX2 15 "WokenRooms$Room" "paid" "[I").before args s = true ∧ (Cond.fieldLink RX2 18 "WokenRooms$Room" "kind" "I").before args s = true ∧ (Cond.fieldLink RX2 22 "WokenRooms$Room" "needed" "I").before args s = true ∧ (Cond.fieldLink RX2 25 "WokenRooms$Room" "rail" "I").before args s = true ∧ (Cond.fieldLink RX2 28 "WokenRooms$Room" "timeOut" "I").before args s = true ∧ (Cond.fieldLink RX2 31 "WokenRooms$Room" "guess" "I").before args s = true ∧ (Cond.fieldLink RX2 34 "WokenRooms$Room" "state" "I").before args s = true ∧ (Cond.fieldLink RX2 37 "WokenRooms$Room" "left" "I").before args s = true ∧ (Cond.fieldLink RX2 40 "WokenRooms$Room" "idled" "I").before args s = true ∧ (Cond.fieldLink RX2 43 "WokenRooms$Room" "begun" "I").before args s = true ∧ (Cond.fieldLink RX2 46 "WokenRooms$Room" "late" "I").before args s = true ∧ (Cond.fieldLink RX2 49 "WokenRooms$Room" "woken" "I").before args s = true ∧ (Cond.fieldLink RX2 52 "WokenRooms$Room" "latestEnd" "I").before args s = true ∧ (Cond.fieldLink RX2 55 "WokenRooms$Room" "gap" "I").before args s = true := ⟨hts _ (List.mem_of_getElem? (i := 1) rfl), hts _ (List.mem_of_getElem? (i := 2) rfl), hts _ (List.mem_of_getElem? (i := 3) rfl), hts _ (List.mem_of_getElem? (i := 4) rfl), hts _ (List.mem_of_getElem? (i := 5) rfl), hts _ (List.mem_of_getElem? (i := 6) rfl), hts _ (List.mem_of_getElem? (i := 7) rfl), hts _ (List.mem_of_getElem? (i := 8) rfl), hts _ (List.mem_of_getElem? (i := 9) rfl), hts _ (List.mem_of_getElem? (i := 10) rfl), hts _ (List.mem_of_getElem? (i := 11) rfl), hts _ (List.mem_of_getElem? (i := 12) rfl), hts _ (List.mem_of_getElem? (i := 13) rfl), hts _ (List.mem_of_getElem? (i := 14) rfl)⟩
set_option maxRecDepth 100000 in
set_option maxHeartbeats 4000000 in
theorem w_X2_startAnew_2 {ch : Nat} {ri : Nat} (CX : wk_X p l e R s m args below meth c cells slots Q cX2_startAnew 3 RX2 wsX2_startAnew D y B Lk A 0 0) (RT : wk_Rv p l e R s m args below meth c cells slots Q cX2_startAnew D y B Lk A MM) (hc : ch < 7) (hi : ri < 8) : ∀ (n : Nat) (v1 : Int32) (v2 : Int32) (M : wk_T) (H : Heap) (locs : List Loc) (ls : Array Slot), f_X2_startAnew_2 ch ri n v1 v2 M = some ((), MM) → lv_has ls 3 [(0, .ref (B 6 ch ri)), (1, .int v1), (2, .int v2)] → wk_H D y B Lk M H → va_S A s.heap H locs → W p l e R s m args below meth c H locs cells slots Q (F0 m 2 ls []) := by
  obtain ⟨⟨hx, hb, hml, hown, hts⟩, hK, hI, hL, hA, hfr, hlo, hcs⟩ := id CX
  obtain ⟨q1, q2, q3, q4, q5, q6, q7, q8, q9, q10, q11, q12, q13, q14⟩ := q_X2_startAnew hts
  intro n
  induction n with
  | zero =>
    intro v1 v2 M H locs ls h
    exact absurd h (by rw [f_X2_startAnew_2]; exact fun z => nomatch z)
  | succ n ih =>
    intro v1 v2 M H locs ls h hl hP hS
    rw [f_X2_startAnew_2] at h
    refine lv_iload_n hx hb dX2_startAnew_2 rfl (lv_at hl 2 rfl) ?_
    refine lv_iconst (v := 4) hx hb dX2_startAnew_3 (by decide) ?_
    refine lv_icmp_ge (tgt := 20) hx hb dX2_startAnew_4 (by decide) (fun g1 => ?_) (fun g1 => ?_)
    · have h := wk_p g1 h
      refine lv_aload_n hx hb dX2_startAnew_20 rfl (lv_at hl 0 rfl) ?_
      refine lv_iload_n hx hb dX2_startAnew_21 rfl (lv_at hl 1 rfl) ?_
      obtain ⟨M2, eM2, h⟩ := wk_mu_e h
      refine wk_put (ref := "WokenRooms$Room") (C := RX2) (T := TX2) (N := 15) (ci := 2) hx hb hts (fun _ h => List.mem_cons_of_mem _ (List.mem_append_right _ h)) tyX2 tyX2_ok nmX2 hown hK hP hI hS hA (wk_l6 hL hc hi 6 (by decide) (by decide)) wk_c6 rfl 2 (by decide) q2 rfl rfl (by decide +kernel) (Nat.le_of_ble_eq_true rfl) (by rfl) dX2_startAnew_22 (fun H locs hP hS => ?_)
      rw [eM2] at hP
      refine lv_aload_n hx hb dX2_startAnew_25 rfl (lv_at hl 0 rfl) ?_
      refine lv_iconst (v := (-1)) hx hb dX2_startAnew_26 (by decide) ?_
      obtain ⟨M3, eM3, h⟩ := wk_mu_e h
      refine wk_put (ref := "WokenRooms$Room") (C := RX2) (T := TX2) (N := 15) (ci := 2) hx hb hts (fun _ h => List.mem_cons_of_mem _ (List.mem_append_right _ h)) tyX2 tyX2_ok nmX2 hown hK hP hI hS hA (wk_l6 hL hc hi 6 (by decide) (by decide)) wk_c6 rfl 3 (by decide) q3 rfl rfl (by decide +kernel) (Nat.le_of_ble_eq_true rfl) (by rfl) dX2_startAnew_27 (fun H locs hP hS => ?_)
      rw [eM3] at hP
      refine lv_aload_n hx hb dX2_startAnew_30 rfl (lv_at hl 0 rfl) ?_
      refine lv_iconst (v := (-1)) hx hb dX2_startAnew_31 (by decide) ?_
      obtain ⟨M4, eM4, h⟩ := wk_mu_e h
      refine wk_put (ref := "WokenRooms$Room") (C := RX2) (T := TX2) (N := 15) (ci := 2) hx hb hts (fun _ h => List.mem_cons_of_mem _ (List.mem_append_right _ h)) tyX2 tyX2_ok nmX2 hown hK hP hI hS hA (wk_l6 hL hc hi 6 (by decide) (by decide)) wk_c6 rfl 4 (by decide) q4 rfl rfl (by decide +kernel) (Nat.le_of_ble_eq_true rfl) (by rfl) dX2_startAnew_32 (fun H locs hP hS => ?_)
      rw [eM4] at hP
      refine lv_aload_n hx hb dX2_startAnew_35 rfl (lv_at hl 0 rfl) ?_
      refine lv_iconst (v := 0) hx hb dX2_startAnew_36 (by decide) ?_
      obtain ⟨M5, eM5, h⟩ := wk_mu_e h
      refine wk_put (ref := "WokenRooms$Room") (C := RX2) (T := TX2) (N := 15) (ci := 2) hx hb hts (fun _ h => List.mem_cons_of_mem _ (List.mem_append_right _ h)) tyX2 tyX2_ok nmX2 hown hK hP hI hS hA (wk_l6 hL hc hi 6 (by decide) (by decide)) wk_c6 rfl 5 (by decide) q5 rfl rfl (by decide +kernel) (Nat.le_of_ble_eq_true rfl) (by rfl) dX2_startAnew_37 (fun H locs hP hS => ?_)
      rw [eM5] at hP
      refine lv_aload_n hx hb dX2_startAnew_40 rfl (lv_at hl 0 rfl) ?_
      refine lv_iconst (v := 0) hx hb dX2_startAnew_41 (by decide) ?_
      obtain ⟨M6, eM6, h⟩ := wk_mu_e h
      refine wk_put (ref := "WokenRooms$Room") (C := RX2) (T := TX2) (N := 15) (ci := 2) hx hb hts (fun _ h => List.mem_cons_of_mem _ (List.mem_append_right _ h)) tyX2 tyX2_ok nmX2 hown hK hP hI hS hA (wk_l6 hL hc hi 6 (by decide) (by decide)) wk_c6 rfl 6 (by decide) q6 rfl rfl (by decide +kernel) (Nat.le_of_ble_eq_true rfl) (by rfl) dX2_startAnew_42 (fun H locs hP hS => ?_)
      rw [eM6] at hP
      refine lv_aload_n hx hb dX2_startAnew_45 rfl (lv_at hl 0 rfl) ?_
      refine lv_iconst (v := 0) hx hb dX2_startAnew_46 (by decide) ?_
      obtain ⟨M7, eM7, h⟩ := wk_mu_e h
      refine wk_put (ref := "WokenRooms$Room") (C := RX2) (T := TX2) (N := 15) (ci := 2) hx hb hts (fun _ h => List.mem_cons_of_mem _ (List.mem_append_right _ h)) tyX2 tyX2_ok nmX2 hown hK hP hI hS hA (wk_l6 hL hc hi 6 (by decide) (by decide)) wk_c6 rfl 7 (by decide) q7 rfl rfl (by decide +kernel) (Nat.le_of_ble_eq_true rfl) (by rfl) dX2_startAnew_47 (fun H locs hP hS => ?_)
      rw [eM7] at hP
      refine lv_aload_n hx hb dX2_startAnew_50 rfl (lv_at hl 0 rfl) ?_
      refine lv_iconst (v := 0) hx hb dX2_startAnew_51 (by decide) ?_
      obtain ⟨M8, eM8, h⟩ := wk_mu_e h
      refine wk_put (ref := "WokenRooms$Room") (C := RX2) (T := TX2) (N := 15) (ci := 2) hx hb hts (fun _ h => List.mem_cons_of_mem _ (List.mem_append_right _ h)) tyX2 tyX2_ok nmX2 hown hK hP hI hS hA (wk_l6 hL hc hi 6 (by decide) (by decide)) wk_c6 rfl 8 (by decide) q8 rfl rfl (by decide +kernel) (Nat.le_of_ble_eq_true rfl) (by rfl) dX2_startAnew_52 (fun H locs hP hS => ?_)
      rw [eM8] at hP
      refine lv_aload_n hx hb dX2_startAnew_55 rfl (lv_at hl 0 rfl) ?_
      refine lv_iconst (v := 0) hx hb dX2_startAnew_56 (by decide) ?_
      obtain ⟨M9, eM9, h⟩ := wk_mu_e h
      refine wk_put (ref := "WokenRooms$Room") (C := RX2) (T := TX2) (N := 15) (ci := 2) hx hb hts (fun _ h => List.mem_cons_of_mem _ (List.mem_append_right _ h)) tyX2 tyX2_ok nmX2 hown hK hP hI hS hA (wk_l6 hL hc hi 6 (by decide) (by decide)) wk_c6 rfl 9 (by decide) q9 rfl rfl (by decide +kernel) (Nat.le_of_ble_eq_true rfl) (by rfl) dX2_startAnew_57 (fun H locs hP hS => ?_)
      rw [eM9] at hP
      refine lv_aload_n hx hb dX2_startAnew_60 rfl (lv_at hl 0 rfl) ?_
      refine lv_iconst (v := 0) hx hb dX2_startAnew_61 (by decide) ?_
      obtain ⟨M10, eM10, h⟩ := wk_mu_e h
      refine wk_put (ref := "WokenRooms$Room") (C := RX2) (T := TX2) (N := 15) (ci := 2) hx hb hts (fun _ h => List.mem_cons_of_mem _ (List.mem_append_right _ h)) tyX2 tyX2_ok nmX2 hown hK hP hI hS hA (wk_l6 hL hc hi 6 (by decide) (by decide)) wk_c6 rfl 10 (by decide) q10 rfl rfl (by decide +kernel) (Nat.le_of_ble_eq_true rfl) (by rfl) dX2_startAnew_62 (fun H locs hP hS => ?_)
      rw [eM10] at hP
      refine lv_aload_n hx hb dX2_startAnew_65 rfl (lv_at hl 0 rfl) ?_
      refine lv_iconst (v := 0) hx hb dX2_startAnew_66 (by decide) ?_
      obtain ⟨M11, eM11, h⟩ := wk_mu_e h
      refine wk_put (ref := "WokenRooms$Room") (C := RX2) (T := TX2) (N := 15) (ci := 2) hx hb hts (fun _ h => List.mem_cons_of_mem _ (List.mem_append_right _ h)) tyX2 tyX2_ok nmX2 hown hK hP hI hS hA (wk_l6 hL hc hi 6 (by decide) (by decide)) wk_c6 rfl 11 (by decide) q11 rfl rfl (by decide +kernel) (Nat.le_of_ble_eq_true rfl) (by rfl) dX2_startAnew_67 (fun H locs hP hS => ?_)
      rw [eM11] at hP
      refine lv_aload_n hx hb dX2_startAnew_70 rfl (lv_at hl 0 rfl) ?_
      refine lv_iconst (v := 0) hx hb dX2_startAnew_71 (by decide) ?_
      obtain ⟨M12, eM12, h⟩ := wk_mu_e h
      refine wk_put (ref := "WokenRooms$Room") (C := RX2) (T := TX2) (N := 15) (ci := 2) hx hb hts (fun _ h => List.mem_cons_of_mem _ (List.mem_append_right _ h)) tyX2 tyX2_ok nmX2 hown hK hP hI hS hA (wk_l6 hL hc hi 6 (by decide) (by decide)) wk_c6 rfl 12 (by decide) q12 rfl rfl (by decide +kernel) (Nat.le_of_ble_eq_true rfl) (by rfl) dX2_startAnew_72 (fun H locs hP hS => ?_)
      rw [eM12] at hP
      refine lv_aload_n hx hb dX2_startAnew_75 rfl (lv_at hl 0 rfl) ?_
      refine lv_iconst (v := 0) hx hb dX2_startAnew_76 (by decide) ?_
      obtain ⟨M13, eM13, h⟩ := wk_mu_e h
      refine wk_put (ref := "WokenRooms$Room") (C := RX2) (T := TX2) (N := 15) (ci := 2) hx hb hts (fun _ h => List.mem_cons_of_mem _ (List.mem_append_right _ h)) tyX2 tyX2_ok nmX2 hown hK hP hI hS hA (wk_l6 hL hc hi 6 (by decide) (by decide)) wk_c6 rfl 13 (by decide) q13 rfl rfl (by decide +kernel) (Nat.le_of_ble_eq_true rfl) (by rfl) dX2_startAnew_77 (fun H locs hP hS => ?_)
      rw [eM13] at hP
      refine lv_aload_n hx hb dX2_startAnew_80 rfl (lv_at hl 0 rfl) ?_
      refine lv_iconst (v := 0) hx hb dX2_startAnew_81 (by decide) ?_
      obtain ⟨M14, eM14, h⟩ := wk_mu_e h
      refine wk_put (ref := "WokenRooms$Room") (C := RX2) (T := TX2) (N := 15) (ci := 2) hx hb hts (fun _ h => List.mem_cons_of_mem _ (List.mem_append_right _ h)) tyX2 tyX2_ok nmX2 hown hK hP hI hS hA (wk_l6 hL hc hi 6 (by decide) (by decide)) wk_c6 rfl 14 (by decide) q14 rfl rfl (by decide +kernel) (Nat.le_of_ble_eq_true rfl) (by rfl) dX2_startAnew_82 (fun H locs hP hS => ?_)
      rw [eM14] at hP
      exact RT _ _ _ _ _ h hP hS dX2_startAnew_85
    · have h := wk_n g1 h
      refine lv_aload_n hx hb dX2_startAnew_7 rfl (lv_at hl 0 rfl) ?_
      refine wk_get (ref := "WokenRooms$Room") (C := RX2) (T := TX2) (N := 15) (ci := 2) (v := .ref (B 8 ch ri)) hx hb hts (fun _ h => List.mem_cons_of_mem _ (List.mem_append_right _ h)) hown hK hP (wk_l6 hL hc hi 6 (by decide) (by decide)) wk_c6 rfl 1 (by decide) q1 rfl rfl dX2_startAnew_8 ?_
      refine lv_iload_n hx hb dX2_startAnew_11 rfl (lv_at hl 2 rfl) ?_
      refine lv_iconst (v := 0) hx hb dX2_startAnew_12 (by decide) ?_
      obtain ⟨g15, h⟩ := wk_gd_e h
      obtain ⟨M16, eM16, h⟩ := wk_mu_e h
      refine wk_iast (j := v2.toNatClampNeg) hx hb hK hP hI hS hA (wk_l6 hL hc hi 8 (by decide) (by decide)) wk_c8 g15 rfl (by rfl) dX2_startAnew_13 (fun H locs hP hS => ?_)
      rw [eM16] at hP
      obtain ⟨x17, ex17, h⟩ := wk_lt_e h
      refine lv_iinc (v := x17) (lv' := [(2, .int x17), (0, .ref (B 6 ch ri)), (1, .int v1)]) hx hb dX2_startAnew_14 hl (k := 2) rfl (by rw [← ex17]; rfl) (by decide) rfl (fun ls hl => ?_)
      refine lv_goto (tgt := 2) hx hb dX2_startAnew_17 (by decide) ?_
      exact ih _ _ _ _ _ _ h (lv_sub hl [1, 2, 0] rfl) hP hS
set_option maxRecDepth 100000 in
set_option maxHeartbeats 4000000 in
theorem w_X2_startAnew_0 {ch : Nat} {ri : Nat} (CX : wk_X p l e R s m args below meth c cells slots Q cX2_startAnew 3 RX2 wsX2_startAnew D y B Lk A 0 0) (RT : wk_Rv p l e R s m args below meth c cells slots Q cX2_startAnew D y B Lk A MM) (hc : ch < 7) (hi : ri < 8) {v1 : Int32} {M : wk_T} {H : Heap} {locs : List Loc} {ls : Array Slot} (h : f_X2_startAnew ch ri v1 M = some ((), MM)) (hl : lv_has ls 3 [(0, .ref (B 6 ch ri)), (1, .int v1)]) (hP : wk_H D y B Lk M H) (hS : va_S A s.heap H locs) : W p l e R s m args below meth c H locs cells slots Q (F0 m 0 ls []) := by
  obtain ⟨⟨hx, hb, hml, hown, hts⟩, hK, hI, hL, hA, hfr, hlo, hcs⟩ := id CX
  obtain ⟨q1, q2, q3, q4, q5, q6, q7, q8, q9, q10, q11, q12, q13, q14⟩ := q_X2_startAnew hts
  unfold f_X2_startAnew at h
  refine lv_iconst (v := 0) hx hb dX2_startAnew_0 (by decide) ?_
  refine lv_istore_n (lv' := [(2, .int 0), (0, .ref (B 6 ch ri)), (1, .int v1)]) hx hb dX2_startAnew_1 rfl hl (by decide) rfl (fun ls hl => ?_)
  exact w_X2_startAnew_2 CX RT hc hi wk_fuel _ _ _ _ _ _ h (lv_sub hl [1, 2, 0] rfl) hP hS
set_option maxRecDepth 100000 in
set_option maxHeartbeats 4000000 in
theorem m_X2_startAnew (l : Launch) {D : va_G} {y : Nat → ClassId} {B : Nat → Nat → Nat → Nat} {Lk : Nat → Nat → Nat → Prop} (hI : wk_I B Lk) (hL : wk_L Lk) {ch : Nat} {ri : Nat} (hc : ch < 7) (hi : ri < 8) {v1 : Int32} {M : wk_T} {MM : wk_T} (hf : f_X2_startAnew ch ri v1 M = some ((), MM)) : wk_Mv l yX2_startAnew wsX2_startAnew 0 0 D y B Lk [.ref (B 6 ch ri), .int v1] M MM :=
  wk_ofV (own := RX2) (bytes := cX2_startAnew) (maxL := 3) (by decide +kernel) rfl rfl (Nat.le_of_ble_eq_true rfl) hI hL (fun p e s m args below meth c ls CX RT hl hP hS => w_X2_startAnew_0 CX RT hc hi hf hl hP hS)
def f_X2_copyFrom (ch : Nat) (ri : Nat) (ch2 : Nat) (ri2 : Nat) (M : wk_T) : Option (Unit × wk_T) := wk_mu (wk_ur M 7 ch ri (va_cpy (M 7 ch2 ri2) (M 7 ch ri) 0 0 5)) (fun M1 => wk_mu (wk_ur M1 8 ch ri (va_cpy (M1 8 ch2 ri2) (M1 8 ch ri) 0 0 4)) (fun M2 => wk_mu (wk_up M2 6 ch ri 2 (M2 6 ch2 ri2 2)) (fun M3 => wk_mu (wk_up M3 6 ch ri 3 (M3 6 ch2 ri2 3)) (fun M4 => wk_mu (wk_up M4 6 ch ri 4 (M4 6 ch2 ri2 4)) (fun M5 => wk_mu (wk_up M5 6 ch ri 5 (M5 6 ch2 ri2 5)) (fun M6 => wk_mu (wk_up M6 6 ch ri 6 (M6 6 ch2 ri2 6)) (fun M7 => wk_mu (wk_up M7 6 ch ri 7 (M7 6 ch2 ri2 7)) (fun M8 => wk_mu (wk_up M8 6 ch ri 8 (M8 6 ch2 ri2 8)) (fun M9 => wk_mu (wk_up M9 6 ch ri 9 (M9 6 ch2 ri2 9)) (fun M10 => wk_mu (wk_up M10 6 ch ri 10 (M10 6 ch2 ri2 10)) (fun M11 => wk_mu (wk_up M11 6 ch ri 11 (M11 6 ch2 ri2 11)) (fun M12 => wk_mu (wk_up M12 6 ch ri 12 (M12 6 ch2 ri2 12)) (fun M13 => wk_mu (wk_up M13 6 ch ri 13 (M13 6 ch2 ri2 13)) (fun M14 => wk_mu (wk_up M14 6 ch ri 14 (M14 6 ch2 ri2 14)) (fun M15 => (some ((), M15)))))))))))))))))
set_option maxRecDepth 20000 in
theorem q_X2_copyFrom {s : State} {args : Array Value} (hts : ∀ w ∈ wsX2_copyFrom, w.before args s = true) : (Cond.fieldLink RX2 9 "WokenRooms$Room" "costs" "[I").before args s = true ∧ (Cond.methodLink RX2 58 arraycopyName).before args s = true ∧ (Cond.native arraycopyName).before args s = true ∧ (Cond.static arraycopyName).before args s = true ∧ (Cond.initialized "java/lang/System").before args s = true ∧ (Cond.fieldLink RX2 15 "WokenRooms$Room" "paid" "[I").before args s = true ∧ (Cond.fieldLink RX2 18 "WokenRooms$Room" "kind" "I").before args s = true ∧ (Cond.fieldLink RX2 22 "WokenRooms$Room" "needed" "I").before args s = true ∧ (Cond.fieldLink RX2 25 "WokenRooms$Room" "rail" "I").before args s = true ∧ (Cond.fieldLink RX2 28 "WokenRooms$Room" "timeOut" "I").before args s = true ∧ (Cond.fieldLink RX2 31 "WokenRooms$Room" "guess" "I").before args s = true ∧ (Cond.fieldLink RX2 34 "WokenRooms$Room" "state" "I").before args s = true ∧ (Cond.fieldLink RX2 37 "WokenRooms$Room" "left" "I").before args s = true ∧ (Cond.fieldLink RX2 40 "WokenRooms$Room" "idled" "I").before args s = true ∧ (Cond.fieldLink RX2 43 "WokenRooms$Room" "begun" "I").before args s = true ∧ (Cond.fieldLink RX2 46 "WokenRooms$Room" "late" "I").before args s = true ∧ (Cond.fieldLink RX2 49 "WokenRooms$Room" "woken" "I").before args s = true ∧ (Cond.fieldLink RX2 52 "WokenRooms$Room" "latestEnd" "I").before args s = true ∧ (Cond.fieldLink RX2 55 "WokenRooms$Room" "gap" "I").before args s = true := ⟨hts _ (List.mem_of_getElem? (i := 1) rfl), hts _ (List.mem_of_getElem? (i := 2) rfl), hts _ (List.mem_of_getElem? (i := 3) rfl), hts _ (List.mem_of_getElem? (i := 4) rfl), hts _ (List.mem_of_getElem? (i := 5) rfl), hts _ (List.mem_of_getElem? (i := 6) rfl), hts _ (List.mem_of_getElem? (i := 7) rfl), hts _ (List.mem_of_getElem? (i := 8) rfl), hts _ (List.mem_of_getElem? (i := 9) rfl), hts _ (List.mem_of_getElem? (i := 10) rfl), hts _ (List.mem_of_getElem? (i := 11) rfl), hts _ (List.mem_of_getElem? (i := 12) rfl), hts _ (List.mem_of_getElem? (i := 13) rfl), hts _ (List.mem_of_getElem? (i := 14) rfl), hts _ (List.mem_of_getElem? (i := 15) rfl), hts _ (List.mem_of_getElem? (i := 16) rfl), hts _ (List.mem_of_getElem? (i := 17) rfl), hts _ (List.mem_of_getElem? (i := 18) rfl), hts _ (List.mem_of_getElem? (i := 19) rfl)⟩
set_option maxRecDepth 100000 in
set_option maxHeartbeats 4000000 in
theorem w_X2_copyFrom_0 {ch : Nat} {ri : Nat} {ch2 : Nat} {ri2 : Nat} (CX : wk_X p l e R s m args below meth c cells slots Q cX2_copyFrom 2 RX2 wsX2_copyFrom D y B Lk A 1 40) (RT : wk_Rv p l e R s m args below meth c cells slots Q cX2_copyFrom D y B Lk A MM) (hc : ch < 7) (hi : ri < 8) (hc2 : ch2 < 7) (hi2 : ri2 < 8) {M : wk_T} {H : Heap} {locs : List Loc} {ls : Array Slot} (h : f_X2_copyFrom ch ri ch2 ri2 M = some ((), MM)) (hl : lv_has ls 2 [(0, .ref (B 6 ch ri)), (1, .ref (B 6 ch2 ri2))]) (hP : wk_H D y B Lk M H) (hS : va_S A s.heap H locs) : W p l e R s m args below meth c H locs cells slots Q (F0 m 0 ls []) := by
  obtain ⟨⟨hx, hb, hml, hown, hts⟩, hK, hI, hL, hA, hfr, hlo, hcs⟩ := id CX
  obtain ⟨q1, q2, q3, q4, q5, q6, q7, q8, q9, q10, q11, q12, q13, q14, q15, q16, q17, q18, q19⟩ := q_X2_copyFrom hts
  unfold f_X2_copyFrom at h
  refine lv_aload_n hx hb dX2_copyFrom_0 rfl (lv_at hl 1 rfl) ?_
  refine wk_get (ref := "WokenRooms$Room") (C := RX2) (T := TX2) (N := 15) (ci := 2) (v := .ref (B 7 ch2 ri2)) hx hb hts (fun _ h => List.mem_cons_of_mem _ (List.mem_append_right _ h)) hown hK hP (wk_l6 hL hc2 hi2 6 (by decide) (by decide)) wk_c6 rfl 0 (by decide) q1 rfl rfl dX2_copyFrom_1 ?_
  refine lv_iconst (v := 0) hx hb dX2_copyFrom_4 (by decide) ?_
  refine lv_aload_n hx hb dX2_copyFrom_5 rfl (lv_at hl 0 rfl) ?_
  refine wk_get (ref := "WokenRooms$Room") (C := RX2) (T := TX2) (N := 15) (ci := 2) (v := .ref (B 7 ch ri)) hx hb hts (fun _ h => List.mem_cons_of_mem _ (List.mem_append_right _ h)) hown hK hP (wk_l6 hL hc hi 6 (by decide) (by decide)) wk_c6 rfl 0 (by decide) q1 rfl rfl dX2_copyFrom_6 ?_
  refine lv_iconst (v := 0) hx hb dX2_copyFrom_9 (by decide) ?_
  refine lv_iconst (v := 5) hx hb dX2_copyFrom_10 (by decide) ?_
  obtain ⟨M1, eM1, h⟩ := wk_mu_e h
  refine wk_copy (spn := 0) (dpn := 0) (nn := 5) hx hb (hml.trans hl.1.symm) hown q2 q3 q4 q5 hK hP hI hS hA (wk_l6 hL hc2 hi2 7 (by decide) (by decide)) (wk_l6 hL hc hi 7 (by decide) (by decide)) wk_c7 wk_c7 (by decide) (by decide) (by decide) (by decide) (by decide) (by decide) (by decide) (by decide) (by rfl) (Nat.le_trans (by decide) hfr) (Nat.le_trans (by decide) hlo) dX2_copyFrom_11 (fun H locs hP hS => ?_)
  rw [eM1] at hP
  refine lv_aload_n hx hb dX2_copyFrom_14 rfl (lv_at hl 1 rfl) ?_
  refine wk_get (ref := "WokenRooms$Room") (C := RX2) (T := TX2) (N := 15) (ci := 2) (v := .ref (B 8 ch2 ri2)) hx hb hts (fun _ h => List.mem_cons_of_mem _ (List.mem_append_right _ h)) hown hK hP (wk_l6 hL hc2 hi2 6 (by decide) (by decide)) wk_c6 rfl 1 (by decide) q6 rfl rfl dX2_copyFrom_15 ?_
  refine lv_iconst (v := 0) hx hb dX2_copyFrom_18 (by decide) ?_
  refine lv_aload_n hx hb dX2_copyFrom_19 rfl (lv_at hl 0 rfl) ?_
  refine wk_get (ref := "WokenRooms$Room") (C := RX2) (T := TX2) (N := 15) (ci := 2) (v := .ref (B 8 ch ri)) hx hb hts (fun _ h => List.mem_cons_of_mem _ (List.mem_append_right _ h)) hown hK hP (wk_l6 hL hc hi 6 (by decide) (by decide)) wk_c6 rfl 1 (by decide) q6 rfl rfl dX2_copyFrom_20 ?_
  refine lv_iconst (v := 0) hx hb dX2_copyFrom_23 (by decide) ?_
  refine lv_iconst (v := 4) hx hb dX2_copyFrom_24 (by decide) ?_
  obtain ⟨M2, eM2, h⟩ := wk_mu_e h
  refine wk_copy (spn := 0) (dpn := 0) (nn := 4) hx hb (hml.trans hl.1.symm) hown q2 q3 q4 q5 hK hP hI hS hA (wk_l6 hL hc2 hi2 8 (by decide) (by decide)) (wk_l6 hL hc hi 8 (by decide) (by decide)) wk_c8 wk_c8 (by decide) (by decide) (by decide) (by decide) (by decide) (by decide) (by decide) (by decide) (by rfl) (Nat.le_trans (by decide) hfr) (Nat.le_trans (by decide) hlo) dX2_copyFrom_25 (fun H locs hP hS => ?_)
  rw [eM2] at hP
  refine lv_aload_n hx hb dX2_copyFrom_28 rfl (lv_at hl 0 rfl) ?_
  refine lv_aload_n hx hb dX2_copyFrom_29 rfl (lv_at hl 1 rfl) ?_
  refine wk_get (ref := "WokenRooms$Room") (C := RX2) (T := TX2) (N := 15) (ci := 2) (v := .int (M2 6 ch2 ri2 2)) hx hb hts (fun _ h => List.mem_cons_of_mem _ (List.mem_append_right _ h)) hown hK hP (wk_l6 hL hc2 hi2 6 (by decide) (by decide)) wk_c6 rfl 2 (by decide) q7 rfl rfl dX2_copyFrom_30 ?_
  obtain ⟨M3, eM3, h⟩ := wk_mu_e h
  refine wk_put (ref := "WokenRooms$Room") (C := RX2) (T := TX2) (N := 15) (ci := 2) hx hb hts (fun _ h => List.mem_cons_of_mem _ (List.mem_append_right _ h)) tyX2 tyX2_ok nmX2 hown hK hP hI hS hA (wk_l6 hL hc hi 6 (by decide) (by decide)) wk_c6 rfl 2 (by decide) q7 rfl rfl (by decide +kernel) (Nat.le_of_ble_eq_true rfl) (by rfl) dX2_copyFrom_33 (fun H locs hP hS => ?_)
  rw [eM3] at hP
  refine lv_aload_n hx hb dX2_copyFrom_36 rfl (lv_at hl 0 rfl) ?_
  refine lv_aload_n hx hb dX2_copyFrom_37 rfl (lv_at hl 1 rfl) ?_
  refine wk_get (ref := "WokenRooms$Room") (C := RX2) (T := TX2) (N := 15) (ci := 2) (v := .int (M3 6 ch2 ri2 3)) hx hb hts (fun _ h => List.mem_cons_of_mem _ (List.mem_append_right _ h)) hown hK hP (wk_l6 hL hc2 hi2 6 (by decide) (by decide)) wk_c6 rfl 3 (by decide) q8 rfl rfl dX2_copyFrom_38 ?_
  obtain ⟨M4, eM4, h⟩ := wk_mu_e h
  refine wk_put (ref := "WokenRooms$Room") (C := RX2) (T := TX2) (N := 15) (ci := 2) hx hb hts (fun _ h => List.mem_cons_of_mem _ (List.mem_append_right _ h)) tyX2 tyX2_ok nmX2 hown hK hP hI hS hA (wk_l6 hL hc hi 6 (by decide) (by decide)) wk_c6 rfl 3 (by decide) q8 rfl rfl (by decide +kernel) (Nat.le_of_ble_eq_true rfl) (by rfl) dX2_copyFrom_41 (fun H locs hP hS => ?_)
  rw [eM4] at hP
  refine lv_aload_n hx hb dX2_copyFrom_44 rfl (lv_at hl 0 rfl) ?_
  refine lv_aload_n hx hb dX2_copyFrom_45 rfl (lv_at hl 1 rfl) ?_
  refine wk_get (ref := "WokenRooms$Room") (C := RX2) (T := TX2) (N := 15) (ci := 2) (v := .int (M4 6 ch2 ri2 4)) hx hb hts (fun _ h => List.mem_cons_of_mem _ (List.mem_append_right _ h)) hown hK hP (wk_l6 hL hc2 hi2 6 (by decide) (by decide)) wk_c6 rfl 4 (by decide) q9 rfl rfl dX2_copyFrom_46 ?_
  obtain ⟨M5, eM5, h⟩ := wk_mu_e h
  refine wk_put (ref := "WokenRooms$Room") (C := RX2) (T := TX2) (N := 15) (ci := 2) hx hb hts (fun _ h => List.mem_cons_of_mem _ (List.mem_append_right _ h)) tyX2 tyX2_ok nmX2 hown hK hP hI hS hA (wk_l6 hL hc hi 6 (by decide) (by decide)) wk_c6 rfl 4 (by decide) q9 rfl rfl (by decide +kernel) (Nat.le_of_ble_eq_true rfl) (by rfl) dX2_copyFrom_49 (fun H locs hP hS => ?_)
  rw [eM5] at hP
  refine lv_aload_n hx hb dX2_copyFrom_52 rfl (lv_at hl 0 rfl) ?_
  refine lv_aload_n hx hb dX2_copyFrom_53 rfl (lv_at hl 1 rfl) ?_
  refine wk_get (ref := "WokenRooms$Room") (C := RX2) (T := TX2) (N := 15) (ci := 2) (v := .int (M5 6 ch2 ri2 5)) hx hb hts (fun _ h => List.mem_cons_of_mem _ (List.mem_append_right _ h)) hown hK hP (wk_l6 hL hc2 hi2 6 (by decide) (by decide)) wk_c6 rfl 5 (by decide) q10 rfl rfl dX2_copyFrom_54 ?_
  obtain ⟨M6, eM6, h⟩ := wk_mu_e h
  refine wk_put (ref := "WokenRooms$Room") (C := RX2) (T := TX2) (N := 15) (ci := 2) hx hb hts (fun _ h => List.mem_cons_of_mem _ (List.mem_append_right _ h)) tyX2 tyX2_ok nmX2 hown hK hP hI hS hA (wk_l6 hL hc hi 6 (by decide) (by decide)) wk_c6 rfl 5 (by decide) q10 rfl rfl (by decide +kernel) (Nat.le_of_ble_eq_true rfl) (by rfl) dX2_copyFrom_57 (fun H locs hP hS => ?_)
  rw [eM6] at hP
  refine lv_aload_n hx hb dX2_copyFrom_60 rfl (lv_at hl 0 rfl) ?_
  refine lv_aload_n hx hb dX2_copyFrom_61 rfl (lv_at hl 1 rfl) ?_
  refine wk_get (ref := "WokenRooms$Room") (C := RX2) (T := TX2) (N := 15) (ci := 2) (v := .int (M6 6 ch2 ri2 6)) hx hb hts (fun _ h => List.mem_cons_of_mem _ (List.mem_append_right _ h)) hown hK hP (wk_l6 hL hc2 hi2 6 (by decide) (by decide)) wk_c6 rfl 6 (by decide) q11 rfl rfl dX2_copyFrom_62 ?_
  obtain ⟨M7, eM7, h⟩ := wk_mu_e h
  refine wk_put (ref := "WokenRooms$Room") (C := RX2) (T := TX2) (N := 15) (ci := 2) hx hb hts (fun _ h => List.mem_cons_of_mem _ (List.mem_append_right _ h)) tyX2 tyX2_ok nmX2 hown hK hP hI hS hA (wk_l6 hL hc hi 6 (by decide) (by decide)) wk_c6 rfl 6 (by decide) q11 rfl rfl (by decide +kernel) (Nat.le_of_ble_eq_true rfl) (by rfl) dX2_copyFrom_65 (fun H locs hP hS => ?_)
  rw [eM7] at hP
  refine lv_aload_n hx hb dX2_copyFrom_68 rfl (lv_at hl 0 rfl) ?_
  refine lv_aload_n hx hb dX2_copyFrom_69 rfl (lv_at hl 1 rfl) ?_
  refine wk_get (ref := "WokenRooms$Room") (C := RX2) (T := TX2) (N := 15) (ci := 2) (v := .int (M7 6 ch2 ri2 7)) hx hb hts (fun _ h => List.mem_cons_of_mem _ (List.mem_append_right _ h)) hown hK hP (wk_l6 hL hc2 hi2 6 (by decide) (by decide)) wk_c6 rfl 7 (by decide) q12 rfl rfl dX2_copyFrom_70 ?_
  obtain ⟨M8, eM8, h⟩ := wk_mu_e h
  refine wk_put (ref := "WokenRooms$Room") (C := RX2) (T := TX2) (N := 15) (ci := 2) hx hb hts (fun _ h => List.mem_cons_of_mem _ (List.mem_append_right _ h)) tyX2 tyX2_ok nmX2 hown hK hP hI hS hA (wk_l6 hL hc hi 6 (by decide) (by decide)) wk_c6 rfl 7 (by decide) q12 rfl rfl (by decide +kernel) (Nat.le_of_ble_eq_true rfl) (by rfl) dX2_copyFrom_73 (fun H locs hP hS => ?_)
  rw [eM8] at hP
  refine lv_aload_n hx hb dX2_copyFrom_76 rfl (lv_at hl 0 rfl) ?_
  refine lv_aload_n hx hb dX2_copyFrom_77 rfl (lv_at hl 1 rfl) ?_
  refine wk_get (ref := "WokenRooms$Room") (C := RX2) (T := TX2) (N := 15) (ci := 2) (v := .int (M8 6 ch2 ri2 8)) hx hb hts (fun _ h => List.mem_cons_of_mem _ (List.mem_append_right _ h)) hown hK hP (wk_l6 hL hc2 hi2 6 (by decide) (by decide)) wk_c6 rfl 8 (by decide) q13 rfl rfl dX2_copyFrom_78 ?_
  obtain ⟨M9, eM9, h⟩ := wk_mu_e h
  refine wk_put (ref := "WokenRooms$Room") (C := RX2) (T := TX2) (N := 15) (ci := 2) hx hb hts (fun _ h => List.mem_cons_of_mem _ (List.mem_append_right _ h)) tyX2 tyX2_ok nmX2 hown hK hP hI hS hA (wk_l6 hL hc hi 6 (by decide) (by decide)) wk_c6 rfl 8 (by decide) q13 rfl rfl (by decide +kernel) (Nat.le_of_ble_eq_true rfl) (by rfl) dX2_copyFrom_81 (fun H locs hP hS => ?_)
  rw [eM9] at hP
  refine lv_aload_n hx hb dX2_copyFrom_84 rfl (lv_at hl 0 rfl) ?_
  refine lv_aload_n hx hb dX2_copyFrom_85 rfl (lv_at hl 1 rfl) ?_
  refine wk_get (ref := "WokenRooms$Room") (C := RX2) (T := TX2) (N := 15) (ci := 2) (v := .int (M9 6 ch2 ri2 9)) hx hb hts (fun _ h => List.mem_cons_of_mem _ (List.mem_append_right _ h)) hown hK hP (wk_l6 hL hc2 hi2 6 (by decide) (by decide)) wk_c6 rfl 9 (by decide) q14 rfl rfl dX2_copyFrom_86 ?_
  obtain ⟨M10, eM10, h⟩ := wk_mu_e h
  refine wk_put (ref := "WokenRooms$Room") (C := RX2) (T := TX2) (N := 15) (ci := 2) hx hb hts (fun _ h => List.mem_cons_of_mem _ (List.mem_append_right _ h)) tyX2 tyX2_ok nmX2 hown hK hP hI hS hA (wk_l6 hL hc hi 6 (by decide) (by decide)) wk_c6 rfl 9 (by decide) q14 rfl rfl (by decide +kernel) (Nat.le_of_ble_eq_true rfl) (by rfl) dX2_copyFrom_89 (fun H locs hP hS => ?_)
  rw [eM10] at hP
  refine lv_aload_n hx hb dX2_copyFrom_92 rfl (lv_at hl 0 rfl) ?_
  refine lv_aload_n hx hb dX2_copyFrom_93 rfl (lv_at hl 1 rfl) ?_
  refine wk_get (ref := "WokenRooms$Room") (C := RX2) (T := TX2) (N := 15) (ci := 2) (v := .int (M10 6 ch2 ri2 10)) hx hb hts (fun _ h => List.mem_cons_of_mem _ (List.mem_append_right _ h)) hown hK hP (wk_l6 hL hc2 hi2 6 (by decide) (by decide)) wk_c6 rfl 10 (by decide) q15 rfl rfl dX2_copyFrom_94 ?_
  obtain ⟨M11, eM11, h⟩ := wk_mu_e h
  refine wk_put (ref := "WokenRooms$Room") (C := RX2) (T := TX2) (N := 15) (ci := 2) hx hb hts (fun _ h => List.mem_cons_of_mem _ (List.mem_append_right _ h)) tyX2 tyX2_ok nmX2 hown hK hP hI hS hA (wk_l6 hL hc hi 6 (by decide) (by decide)) wk_c6 rfl 10 (by decide) q15 rfl rfl (by decide +kernel) (Nat.le_of_ble_eq_true rfl) (by rfl) dX2_copyFrom_97 (fun H locs hP hS => ?_)
  rw [eM11] at hP
  refine lv_aload_n hx hb dX2_copyFrom_100 rfl (lv_at hl 0 rfl) ?_
  refine lv_aload_n hx hb dX2_copyFrom_101 rfl (lv_at hl 1 rfl) ?_
  refine wk_get (ref := "WokenRooms$Room") (C := RX2) (T := TX2) (N := 15) (ci := 2) (v := .int (M11 6 ch2 ri2 11)) hx hb hts (fun _ h => List.mem_cons_of_mem _ (List.mem_append_right _ h)) hown hK hP (wk_l6 hL hc2 hi2 6 (by decide) (by decide)) wk_c6 rfl 11 (by decide) q16 rfl rfl dX2_copyFrom_102 ?_
  obtain ⟨M12, eM12, h⟩ := wk_mu_e h
  refine wk_put (ref := "WokenRooms$Room") (C := RX2) (T := TX2) (N := 15) (ci := 2) hx hb hts (fun _ h => List.mem_cons_of_mem _ (List.mem_append_right _ h)) tyX2 tyX2_ok nmX2 hown hK hP hI hS hA (wk_l6 hL hc hi 6 (by decide) (by decide)) wk_c6 rfl 11 (by decide) q16 rfl rfl (by decide +kernel) (Nat.le_of_ble_eq_true rfl) (by rfl) dX2_copyFrom_105 (fun H locs hP hS => ?_)
  rw [eM12] at hP
  refine lv_aload_n hx hb dX2_copyFrom_108 rfl (lv_at hl 0 rfl) ?_
  refine lv_aload_n hx hb dX2_copyFrom_109 rfl (lv_at hl 1 rfl) ?_
  refine wk_get (ref := "WokenRooms$Room") (C := RX2) (T := TX2) (N := 15) (ci := 2) (v := .int (M12 6 ch2 ri2 12)) hx hb hts (fun _ h => List.mem_cons_of_mem _ (List.mem_append_right _ h)) hown hK hP (wk_l6 hL hc2 hi2 6 (by decide) (by decide)) wk_c6 rfl 12 (by decide) q17 rfl rfl dX2_copyFrom_110 ?_
  obtain ⟨M13, eM13, h⟩ := wk_mu_e h
  refine wk_put (ref := "WokenRooms$Room") (C := RX2) (T := TX2) (N := 15) (ci := 2) hx hb hts (fun _ h => List.mem_cons_of_mem _ (List.mem_append_right _ h)) tyX2 tyX2_ok nmX2 hown hK hP hI hS hA (wk_l6 hL hc hi 6 (by decide) (by decide)) wk_c6 rfl 12 (by decide) q17 rfl rfl (by decide +kernel) (Nat.le_of_ble_eq_true rfl) (by rfl) dX2_copyFrom_113 (fun H locs hP hS => ?_)
  rw [eM13] at hP
  refine lv_aload_n hx hb dX2_copyFrom_116 rfl (lv_at hl 0 rfl) ?_
  refine lv_aload_n hx hb dX2_copyFrom_117 rfl (lv_at hl 1 rfl) ?_
  refine wk_get (ref := "WokenRooms$Room") (C := RX2) (T := TX2) (N := 15) (ci := 2) (v := .int (M13 6 ch2 ri2 13)) hx hb hts (fun _ h => List.mem_cons_of_mem _ (List.mem_append_right _ h)) hown hK hP (wk_l6 hL hc2 hi2 6 (by decide) (by decide)) wk_c6 rfl 13 (by decide) q18 rfl rfl dX2_copyFrom_118 ?_
  obtain ⟨M14, eM14, h⟩ := wk_mu_e h
  refine wk_put (ref := "WokenRooms$Room") (C := RX2) (T := TX2) (N := 15) (ci := 2) hx hb hts (fun _ h => List.mem_cons_of_mem _ (List.mem_append_right _ h)) tyX2 tyX2_ok nmX2 hown hK hP hI hS hA (wk_l6 hL hc hi 6 (by decide) (by decide)) wk_c6 rfl 13 (by decide) q18 rfl rfl (by decide +kernel) (Nat.le_of_ble_eq_true rfl) (by rfl) dX2_copyFrom_121 (fun H locs hP hS => ?_)
  rw [eM14] at hP
  refine lv_aload_n hx hb dX2_copyFrom_124 rfl (lv_at hl 0 rfl) ?_
  refine lv_aload_n hx hb dX2_copyFrom_125 rfl (lv_at hl 1 rfl) ?_
  refine wk_get (ref := "WokenRooms$Room") (C := RX2) (T := TX2) (N := 15) (ci := 2) (v := .int (M14 6 ch2 ri2 14)) hx hb hts (fun _ h => List.mem_cons_of_mem _ (List.mem_append_right _ h)) hown hK hP (wk_l6 hL hc2 hi2 6 (by decide) (by decide)) wk_c6 rfl 14 (by decide) q19 rfl rfl dX2_copyFrom_126 ?_
  obtain ⟨M15, eM15, h⟩ := wk_mu_e h
  refine wk_put (ref := "WokenRooms$Room") (C := RX2) (T := TX2) (N := 15) (ci := 2) hx hb hts (fun _ h => List.mem_cons_of_mem _ (List.mem_append_right _ h)) tyX2 tyX2_ok nmX2 hown hK hP hI hS hA (wk_l6 hL hc hi 6 (by decide) (by decide)) wk_c6 rfl 14 (by decide) q19 rfl rfl (by decide +kernel) (Nat.le_of_ble_eq_true rfl) (by rfl) dX2_copyFrom_129 (fun H locs hP hS => ?_)
  rw [eM15] at hP
  exact RT _ _ _ _ _ h hP hS dX2_copyFrom_132
set_option maxRecDepth 100000 in
set_option maxHeartbeats 4000000 in
theorem m_X2_copyFrom (l : Launch) {D : va_G} {y : Nat → ClassId} {B : Nat → Nat → Nat → Nat} {Lk : Nat → Nat → Nat → Prop} (hI : wk_I B Lk) (hL : wk_L Lk) {ch : Nat} {ri : Nat} {ch2 : Nat} {ri2 : Nat} (hc : ch < 7) (hi : ri < 8) (hc2 : ch2 < 7) (hi2 : ri2 < 8) {M : wk_T} {MM : wk_T} (hf : f_X2_copyFrom ch ri ch2 ri2 M = some ((), MM)) : wk_Mv l yX2_copyFrom wsX2_copyFrom 1 40 D y B Lk [.ref (B 6 ch ri), .ref (B 6 ch2 ri2)] M MM :=
  wk_ofV (own := RX2) (bytes := cX2_copyFrom) (maxL := 2) (by decide +kernel) rfl rfl (Nat.le_of_ble_eq_true rfl) hI hL (fun p e s m args below meth c ls CX RT hl hP hS => w_X2_copyFrom_0 CX RT hc hi hc2 hi2 hf hl hP hS)
def f_X2_tell_126 (ch : Nat) (ri : Nat) (M : wk_T) : Option (Int32 × wk_T) := (some ((M 6 ch ri 8), M))
def f_X2_tell (ch : Nat) (ri : Nat) (v1 : Int32) (M : wk_T) : Option (Int32 × wk_T) := (if v1 = 0 then (some ((M 6 ch ri 2), M)) else (if v1 = 1 then (some ((M 6 ch ri 7), M)) else (if v1 = 2 then (if (M 6 ch ri 3) = (-1) then (some ((-4), M)) else (some ((M 6 ch ri 3), M))) else (if v1 = 3 then (if (M 6 ch ri 4) = (-1) then (some ((-4), M)) else (some ((M 6 ch ri 4), M))) else (if v1 = 4 then (if (M 6 ch ri 7) = 1 then (f_X2_tell_126 ch ri M) else (if (M 6 ch ri 7) = 3 then (f_X2_tell_126 ch ri M) else (some (0, M)))) else (if v1 = 5 then (if (M 6 ch ri 7) = 2 then (some ((M 6 ch ri 9), M)) else (some (0, M))) else (if v1 = 6 then (some ((M 6 ch ri 5), M)) else (if v1 = 7 then (some ((M 6 ch ri 6), M)) else (if v1 = 8 then (if 2 ≤ (M 6 ch ri 10) then (some ((M 6 ch ri 14), M)) else (some ((-4), M))) else (if v1 = 9 then (some ((M 6 ch ri 10), M)) else (if v1 = 10 then (some ((M 6 ch ri 11), M)) else (if v1 = 11 then (some ((M 6 ch ri 12), M)) else (if 2 ≤ (M 6 ch ri 10) then (some ((M 6 ch ri 14), M)) else (some ((-4), M)))))))))))))))
set_option maxRecDepth 20000 in
theorem q_X2_tell {s : State} {args : Array Value} (hts : ∀ w ∈ wsX2_tell, w.before args s = true) : (Cond.fieldLink RX2 18 "WokenRooms$Room" "kind" "I").before args s = true ∧ (Cond.fieldLink RX2 34 "WokenRooms$Room" "state" "I").before args s = true ∧ (Cond.fieldLink RX2 22 "WokenRooms$Room" "needed" "I").before args s = true ∧ (Cond.fieldLink RX2 25 "WokenRooms$Room" "rail" "I").before args s = true ∧ (Cond.fieldLink RX2 37 "WokenRooms$Room" "left" "I").before args s = true ∧ (Cond.fieldLink RX2 40 "WokenRooms$Room" "idled" "I").before args s = true ∧ (Cond.fieldLink RX2 28 "WokenRooms$Room" "timeOut" "I").before args s = true ∧ (Cond.fieldLink RX2 31 "WokenRooms$Room" "guess" "I").before args s = true ∧ (Cond.fieldLink RX2 43 "WokenRooms$Room" "begun" "I").before args s = true ∧ (Cond.fieldLink RX2 46 "WokenRooms$Room" "late" "I").before args s = true ∧ (Cond.fieldLink RX2 49 "WokenRooms$Room" "woken" "I").before args s = true ∧ (Cond.fieldLink RX2 55 "WokenRooms$Room" "gap" "I").before args s = true := ⟨hts _ (List.mem_of_getElem? (i := 1) rfl), hts _ (List.mem_of_getElem? (i := 2) rfl), hts _ (List.mem_of_getElem? (i := 3) rfl), hts _ (List.mem_of_getElem? (i := 4) rfl), hts _ (List.mem_of_getElem? (i := 5) rfl), hts _ (List.mem_of_getElem? (i := 6) rfl), hts _ (List.mem_of_getElem? (i := 7) rfl), hts _ (List.mem_of_getElem? (i := 8) rfl), hts _ (List.mem_of_getElem? (i := 9) rfl), hts _ (List.mem_of_getElem? (i := 10) rfl), hts _ (List.mem_of_getElem? (i := 11) rfl), hts _ (List.mem_of_getElem? (i := 12) rfl)⟩
set_option maxRecDepth 100000 in
set_option maxHeartbeats 4000000 in
theorem w_X2_tell_126 {ch : Nat} {ri : Nat} {r0 : Int32} (CX : wk_X p l e R s m args below meth c cells slots Q cX2_tell 2 RX2 wsX2_tell D y B Lk A 0 0) (RT : wk_Ri p l e R s m args below meth c cells slots Q cX2_tell D y B Lk A r0 MM) (hc : ch < 7) (hi : ri < 8) {M : wk_T} {H : Heap} {locs : List Loc} {ls : Array Slot} (h : f_X2_tell_126 ch ri M = some (r0, MM)) (hl : lv_has ls 2 [(0, .ref (B 6 ch ri))]) (hP : wk_H D y B Lk M H) (hS : va_S A s.heap H locs) : W p l e R s m args below meth c H locs cells slots Q (F0 m 126 ls []) := by
  obtain ⟨⟨hx, hb, hml, hown, hts⟩, hK, hI, hL, hA, hfr, hlo, hcs⟩ := id CX
  obtain ⟨q1, q2, q3, q4, q5, q6, q7, q8, q9, q10, q11, q12⟩ := q_X2_tell hts
  unfold f_X2_tell_126 at h
  refine lv_aload_n hx hb dX2_tell_126 rfl (lv_at hl 0 rfl) ?_
  refine wk_get (ref := "WokenRooms$Room") (C := RX2) (T := TX2) (N := 15) (ci := 2) (v := .int (M 6 ch ri 8)) hx hb hts (fun _ h => List.mem_cons_of_mem _ (List.mem_append_right _ h)) hown hK hP (wk_l6 hL hc hi 6 (by decide) (by decide)) wk_c6 rfl 8 (by decide) q5 rfl rfl dX2_tell_127 ?_
  refine lv_goto (tgt := 134) hx hb dX2_tell_130 (by decide) ?_
  exact RT _ _ _ _ _ _ h hP hS dX2_tell_134
set_option maxRecDepth 100000 in
set_option maxHeartbeats 4000000 in
theorem w_X2_tell_0 {ch : Nat} {ri : Nat} {r0 : Int32} (CX : wk_X p l e R s m args below meth c cells slots Q cX2_tell 2 RX2 wsX2_tell D y B Lk A 0 0) (RT : wk_Ri p l e R s m args below meth c cells slots Q cX2_tell D y B Lk A r0 MM) (hc : ch < 7) (hi : ri < 8) {v1 : Int32} {M : wk_T} {H : Heap} {locs : List Loc} {ls : Array Slot} (h : f_X2_tell ch ri v1 M = some (r0, MM)) (hl : lv_has ls 2 [(0, .ref (B 6 ch ri)), (1, .int v1)]) (hP : wk_H D y B Lk M H) (hS : va_S A s.heap H locs) : W p l e R s m args below meth c H locs cells slots Q (F0 m 0 ls []) := by
  obtain ⟨⟨hx, hb, hml, hown, hts⟩, hK, hI, hL, hA, hfr, hlo, hcs⟩ := id CX
  obtain ⟨q1, q2, q3, q4, q5, q6, q7, q8, q9, q10, q11, q12⟩ := q_X2_tell hts
  unfold f_X2_tell at h
  refine lv_iload_n hx hb dX2_tell_0 rfl (lv_at hl 1 rfl) ?_
  by_cases g1 : v1 = 0
  · have h := wk_p g1 h
    refine lv_tableIn (off := 63) (tgt := 64) hx hb dX2_tell_1 (by rw [g1]; decide) (by rw [g1]; decide) (by rw [g1]; rfl) (by decide) ?_
    refine lv_aload_n hx hb dX2_tell_64 rfl (lv_at hl 0 rfl) ?_
    refine wk_get (ref := "WokenRooms$Room") (C := RX2) (T := TX2) (N := 15) (ci := 2) (v := .int (M 6 ch ri 2)) hx hb hts (fun _ h => List.mem_cons_of_mem _ (List.mem_append_right _ h)) hown hK hP (wk_l6 hL hc hi 6 (by decide) (by decide)) wk_c6 rfl 2 (by decide) q1 rfl rfl dX2_tell_65 ?_
    exact RT _ _ _ _ _ _ h hP hS dX2_tell_68
  · have h := wk_n g1 h
    by_cases g2 : v1 = 1
    · have h := wk_p g2 h
      refine lv_tableIn (off := 68) (tgt := 69) hx hb dX2_tell_1 (by rw [g2]; decide) (by rw [g2]; decide) (by rw [g2]; rfl) (by decide) ?_
      refine lv_aload_n hx hb dX2_tell_69 rfl (lv_at hl 0 rfl) ?_
      refine wk_get (ref := "WokenRooms$Room") (C := RX2) (T := TX2) (N := 15) (ci := 2) (v := .int (M 6 ch ri 7)) hx hb hts (fun _ h => List.mem_cons_of_mem _ (List.mem_append_right _ h)) hown hK hP (wk_l6 hL hc hi 6 (by decide) (by decide)) wk_c6 rfl 7 (by decide) q2 rfl rfl dX2_tell_70 ?_
      exact RT _ _ _ _ _ _ h hP hS dX2_tell_73
    · have h := wk_n g2 h
      by_cases g3 : v1 = 2
      · have h := wk_p g3 h
        refine lv_tableIn (off := 73) (tgt := 74) hx hb dX2_tell_1 (by rw [g3]; decide) (by rw [g3]; decide) (by rw [g3]; rfl) (by decide) ?_
        refine lv_aload_n hx hb dX2_tell_74 rfl (lv_at hl 0 rfl) ?_
        refine wk_get (ref := "WokenRooms$Room") (C := RX2) (T := TX2) (N := 15) (ci := 2) (v := .int (M 6 ch ri 3)) hx hb hts (fun _ h => List.mem_cons_of_mem _ (List.mem_append_right _ h)) hown hK hP (wk_l6 hL hc hi 6 (by decide) (by decide)) wk_c6 rfl 3 (by decide) q3 rfl rfl dX2_tell_75 ?_
        refine lv_iconst (v := (-1)) hx hb dX2_tell_78 (by decide) ?_
        refine lv_icmp_ne (tgt := 87) hx hb dX2_tell_79 (by decide) (fun g4 => ?_) (fun g4 => ?_)
        · have h := wk_n g4 h
          refine lv_aload_n hx hb dX2_tell_87 rfl (lv_at hl 0 rfl) ?_
          refine wk_get (ref := "WokenRooms$Room") (C := RX2) (T := TX2) (N := 15) (ci := 2) (v := .int (M 6 ch ri 3)) hx hb hts (fun _ h => List.mem_cons_of_mem _ (List.mem_append_right _ h)) hown hK hP (wk_l6 hL hc hi 6 (by decide) (by decide)) wk_c6 rfl 3 (by decide) q3 rfl rfl dX2_tell_88 ?_
          exact RT _ _ _ _ _ _ h hP hS dX2_tell_91
        · have h := wk_p g4 h
          refine lv_bipush (v := (-4)) hx hb dX2_tell_82 (by decide) ?_
          refine lv_goto (tgt := 91) hx hb dX2_tell_84 (by decide) ?_
          exact RT _ _ _ _ _ _ h hP hS dX2_tell_91
      · have h := wk_n g3 h
        by_cases g5 : v1 = 3
        · have h := wk_p g5 h
          refine lv_tableIn (off := 91) (tgt := 92) hx hb dX2_tell_1 (by rw [g5]; decide) (by rw [g5]; decide) (by rw [g5]; rfl) (by decide) ?_
          refine lv_aload_n hx hb dX2_tell_92 rfl (lv_at hl 0 rfl) ?_
          refine wk_get (ref := "WokenRooms$Room") (C := RX2) (T := TX2) (N := 15) (ci := 2) (v := .int (M 6 ch ri 4)) hx hb hts (fun _ h => List.mem_cons_of_mem _ (List.mem_append_right _ h)) hown hK hP (wk_l6 hL hc hi 6 (by decide) (by decide)) wk_c6 rfl 4 (by decide) q4 rfl rfl dX2_tell_93 ?_
          refine lv_iconst (v := (-1)) hx hb dX2_tell_96 (by decide) ?_
          refine lv_icmp_ne (tgt := 105) hx hb dX2_tell_97 (by decide) (fun g6 => ?_) (fun g6 => ?_)
          · have h := wk_n g6 h
            refine lv_aload_n hx hb dX2_tell_105 rfl (lv_at hl 0 rfl) ?_
            refine wk_get (ref := "WokenRooms$Room") (C := RX2) (T := TX2) (N := 15) (ci := 2) (v := .int (M 6 ch ri 4)) hx hb hts (fun _ h => List.mem_cons_of_mem _ (List.mem_append_right _ h)) hown hK hP (wk_l6 hL hc hi 6 (by decide) (by decide)) wk_c6 rfl 4 (by decide) q4 rfl rfl dX2_tell_106 ?_
            exact RT _ _ _ _ _ _ h hP hS dX2_tell_109
          · have h := wk_p g6 h
            refine lv_bipush (v := (-4)) hx hb dX2_tell_100 (by decide) ?_
            refine lv_goto (tgt := 109) hx hb dX2_tell_102 (by decide) ?_
            exact RT _ _ _ _ _ _ h hP hS dX2_tell_109
        · have h := wk_n g5 h
          by_cases g7 : v1 = 4
          · have h := wk_p g7 h
            refine lv_tableIn (off := 109) (tgt := 110) hx hb dX2_tell_1 (by rw [g7]; decide) (by rw [g7]; decide) (by rw [g7]; rfl) (by decide) ?_
            refine lv_aload_n hx hb dX2_tell_110 rfl (lv_at hl 0 rfl) ?_
            refine wk_get (ref := "WokenRooms$Room") (C := RX2) (T := TX2) (N := 15) (ci := 2) (v := .int (M 6 ch ri 7)) hx hb hts (fun _ h => List.mem_cons_of_mem _ (List.mem_append_right _ h)) hown hK hP (wk_l6 hL hc hi 6 (by decide) (by decide)) wk_c6 rfl 7 (by decide) q2 rfl rfl dX2_tell_111 ?_
            refine lv_iconst (v := 1) hx hb dX2_tell_114 (by decide) ?_
            refine lv_icmp_eq (tgt := 126) hx hb dX2_tell_115 (by decide) (fun g8 => ?_) (fun g8 => ?_)
            · have h := wk_p g8 h
              exact w_X2_tell_126 CX RT hc hi h (lv_sub hl [0] rfl) hP hS
            · have h := wk_n g8 h
              refine lv_aload_n hx hb dX2_tell_118 rfl (lv_at hl 0 rfl) ?_
              refine wk_get (ref := "WokenRooms$Room") (C := RX2) (T := TX2) (N := 15) (ci := 2) (v := .int (M 6 ch ri 7)) hx hb hts (fun _ h => List.mem_cons_of_mem _ (List.mem_append_right _ h)) hown hK hP (wk_l6 hL hc hi 6 (by decide) (by decide)) wk_c6 rfl 7 (by decide) q2 rfl rfl dX2_tell_119 ?_
              refine lv_iconst (v := 3) hx hb dX2_tell_122 (by decide) ?_
              refine lv_icmp_ne (tgt := 133) hx hb dX2_tell_123 (by decide) (fun g9 => ?_) (fun g9 => ?_)
              · have h := wk_n g9 h
                refine lv_iconst (v := 0) hx hb dX2_tell_133 (by decide) ?_
                exact RT _ _ _ _ _ _ h hP hS dX2_tell_134
              · have h := wk_p g9 h
                exact w_X2_tell_126 CX RT hc hi h (lv_sub hl [0] rfl) hP hS
          · have h := wk_n g7 h
            by_cases g10 : v1 = 5
            · have h := wk_p g10 h
              refine lv_tableIn (off := 134) (tgt := 135) hx hb dX2_tell_1 (by rw [g10]; decide) (by rw [g10]; decide) (by rw [g10]; rfl) (by decide) ?_
              refine lv_aload_n hx hb dX2_tell_135 rfl (lv_at hl 0 rfl) ?_
              refine wk_get (ref := "WokenRooms$Room") (C := RX2) (T := TX2) (N := 15) (ci := 2) (v := .int (M 6 ch ri 7)) hx hb hts (fun _ h => List.mem_cons_of_mem _ (List.mem_append_right _ h)) hown hK hP (wk_l6 hL hc hi 6 (by decide) (by decide)) wk_c6 rfl 7 (by decide) q2 rfl rfl dX2_tell_136 ?_
              refine lv_iconst (v := 2) hx hb dX2_tell_139 (by decide) ?_
              refine lv_icmp_ne (tgt := 150) hx hb dX2_tell_140 (by decide) (fun g11 => ?_) (fun g11 => ?_)
              · have h := wk_n g11 h
                refine lv_iconst (v := 0) hx hb dX2_tell_150 (by decide) ?_
                exact RT _ _ _ _ _ _ h hP hS dX2_tell_151
              · have h := wk_p g11 h
                refine lv_aload_n hx hb dX2_tell_143 rfl (lv_at hl 0 rfl) ?_
                refine wk_get (ref := "WokenRooms$Room") (C := RX2) (T := TX2) (N := 15) (ci := 2) (v := .int (M 6 ch ri 9)) hx hb hts (fun _ h => List.mem_cons_of_mem _ (List.mem_append_right _ h)) hown hK hP (wk_l6 hL hc hi 6 (by decide) (by decide)) wk_c6 rfl 9 (by decide) q6 rfl rfl dX2_tell_144 ?_
                refine lv_goto (tgt := 151) hx hb dX2_tell_147 (by decide) ?_
                exact RT _ _ _ _ _ _ h hP hS dX2_tell_151
            · have h := wk_n g10 h
              by_cases g12 : v1 = 6
              · have h := wk_p g12 h
                refine lv_tableIn (off := 151) (tgt := 152) hx hb dX2_tell_1 (by rw [g12]; decide) (by rw [g12]; decide) (by rw [g12]; rfl) (by decide) ?_
                refine lv_aload_n hx hb dX2_tell_152 rfl (lv_at hl 0 rfl) ?_
                refine wk_get (ref := "WokenRooms$Room") (C := RX2) (T := TX2) (N := 15) (ci := 2) (v := .int (M 6 ch ri 5)) hx hb hts (fun _ h => List.mem_cons_of_mem _ (List.mem_append_right _ h)) hown hK hP (wk_l6 hL hc hi 6 (by decide) (by decide)) wk_c6 rfl 5 (by decide) q7 rfl rfl dX2_tell_153 ?_
                exact RT _ _ _ _ _ _ h hP hS dX2_tell_156
              · have h := wk_n g12 h
                by_cases g13 : v1 = 7
                · have h := wk_p g13 h
                  refine lv_tableIn (off := 156) (tgt := 157) hx hb dX2_tell_1 (by rw [g13]; decide) (by rw [g13]; decide) (by rw [g13]; rfl) (by decide) ?_
                  refine lv_aload_n hx hb dX2_tell_157 rfl (lv_at hl 0 rfl) ?_
                  refine wk_get (ref := "WokenRooms$Room") (C := RX2) (T := TX2) (N := 15) (ci := 2) (v := .int (M 6 ch ri 6)) hx hb hts (fun _ h => List.mem_cons_of_mem _ (List.mem_append_right _ h)) hown hK hP (wk_l6 hL hc hi 6 (by decide) (by decide)) wk_c6 rfl 6 (by decide) q8 rfl rfl dX2_tell_158 ?_
                  exact RT _ _ _ _ _ _ h hP hS dX2_tell_161
                · have h := wk_n g13 h
                  by_cases g14 : v1 = 8
                  · have h := wk_p g14 h
                    refine lv_tableIn (off := 176) (tgt := 177) hx hb dX2_tell_1 (by rw [g14]; decide) (by rw [g14]; decide) (by rw [g14]; rfl) (by decide) ?_
                    refine lv_aload_n hx hb dX2_tell_177 rfl (lv_at hl 0 rfl) ?_
                    refine wk_get (ref := "WokenRooms$Room") (C := RX2) (T := TX2) (N := 15) (ci := 2) (v := .int (M 6 ch ri 10)) hx hb hts (fun _ h => List.mem_cons_of_mem _ (List.mem_append_right _ h)) hown hK hP (wk_l6 hL hc hi 6 (by decide) (by decide)) wk_c6 rfl 10 (by decide) q9 rfl rfl dX2_tell_178 ?_
                    refine lv_iconst (v := 2) hx hb dX2_tell_181 (by decide) ?_
                    refine lv_icmp_ge (tgt := 190) hx hb dX2_tell_182 (by decide) (fun g15 => ?_) (fun g15 => ?_)
                    · have h := wk_p g15 h
                      refine lv_aload_n hx hb dX2_tell_190 rfl (lv_at hl 0 rfl) ?_
                      refine wk_get (ref := "WokenRooms$Room") (C := RX2) (T := TX2) (N := 15) (ci := 2) (v := .int (M 6 ch ri 14)) hx hb hts (fun _ h => List.mem_cons_of_mem _ (List.mem_append_right _ h)) hown hK hP (wk_l6 hL hc hi 6 (by decide) (by decide)) wk_c6 rfl 14 (by decide) q12 rfl rfl dX2_tell_191 ?_
                      exact RT _ _ _ _ _ _ h hP hS dX2_tell_194
                    · have h := wk_n g15 h
                      refine lv_bipush (v := (-4)) hx hb dX2_tell_185 (by decide) ?_
                      refine lv_goto (tgt := 194) hx hb dX2_tell_187 (by decide) ?_
                      exact RT _ _ _ _ _ _ h hP hS dX2_tell_194
                  · have h := wk_n g14 h
                    by_cases g16 : v1 = 9
                    · have h := wk_p g16 h
                      refine lv_tableIn (off := 161) (tgt := 162) hx hb dX2_tell_1 (by rw [g16]; decide) (by rw [g16]; decide) (by rw [g16]; rfl) (by decide) ?_
                      refine lv_aload_n hx hb dX2_tell_162 rfl (lv_at hl 0 rfl) ?_
                      refine wk_get (ref := "WokenRooms$Room") (C := RX2) (T := TX2) (N := 15) (ci := 2) (v := .int (M 6 ch ri 10)) hx hb hts (fun _ h => List.mem_cons_of_mem _ (List.mem_append_right _ h)) hown hK hP (wk_l6 hL hc hi 6 (by decide) (by decide)) wk_c6 rfl 10 (by decide) q9 rfl rfl dX2_tell_163 ?_
                      exact RT _ _ _ _ _ _ h hP hS dX2_tell_166
                    · have h := wk_n g16 h
                      by_cases g17 : v1 = 10
                      · have h := wk_p g17 h
                        refine lv_tableIn (off := 166) (tgt := 167) hx hb dX2_tell_1 (by rw [g17]; decide) (by rw [g17]; decide) (by rw [g17]; rfl) (by decide) ?_
                        refine lv_aload_n hx hb dX2_tell_167 rfl (lv_at hl 0 rfl) ?_
                        refine wk_get (ref := "WokenRooms$Room") (C := RX2) (T := TX2) (N := 15) (ci := 2) (v := .int (M 6 ch ri 11)) hx hb hts (fun _ h => List.mem_cons_of_mem _ (List.mem_append_right _ h)) hown hK hP (wk_l6 hL hc hi 6 (by decide) (by decide)) wk_c6 rfl 11 (by decide) q10 rfl rfl dX2_tell_168 ?_
                        exact RT _ _ _ _ _ _ h hP hS dX2_tell_171
                      · have h := wk_n g17 h
                        by_cases g18 : v1 = 11
                        · have h := wk_p g18 h
                          refine lv_tableIn (off := 171) (tgt := 172) hx hb dX2_tell_1 (by rw [g18]; decide) (by rw [g18]; decide) (by rw [g18]; rfl) (by decide) ?_
                          refine lv_aload_n hx hb dX2_tell_172 rfl (lv_at hl 0 rfl) ?_
                          refine wk_get (ref := "WokenRooms$Room") (C := RX2) (T := TX2) (N := 15) (ci := 2) (v := .int (M 6 ch ri 12)) hx hb hts (fun _ h => List.mem_cons_of_mem _ (List.mem_append_right _ h)) hown hK hP (wk_l6 hL hc hi 6 (by decide) (by decide)) wk_c6 rfl 12 (by decide) q11 rfl rfl dX2_tell_173 ?_
                          exact RT _ _ _ _ _ _ h hP hS dX2_tell_176
                        · have h := wk_n g18 h
                          refine lv_tableOut (tgt := 177) hx hb dX2_tell_1 (by have q0 := lv_neT g1 (a := 0) (by decide); have q1 := lv_neT g2 (a := 1) (by decide); have q2 := lv_neT g3 (a := 2) (by decide); have q3 := lv_neT g5 (a := 3) (by decide); have q4 := lv_neT g7 (a := 4) (by decide); have q5 := lv_neT g10 (a := 5) (by decide); have q6 := lv_neT g12 (a := 6) (by decide); have q7 := lv_neT g13 (a := 7) (by decide); have q8 := lv_neT g14 (a := 8) (by decide); have q9 := lv_neT g16 (a := 9) (by decide); have q10 := lv_neT g17 (a := 10) (by decide); have q11 := lv_neT g18 (a := 11) (by decide); omega) (by decide) ?_
                          refine lv_aload_n hx hb dX2_tell_177 rfl (lv_at hl 0 rfl) ?_
                          refine wk_get (ref := "WokenRooms$Room") (C := RX2) (T := TX2) (N := 15) (ci := 2) (v := .int (M 6 ch ri 10)) hx hb hts (fun _ h => List.mem_cons_of_mem _ (List.mem_append_right _ h)) hown hK hP (wk_l6 hL hc hi 6 (by decide) (by decide)) wk_c6 rfl 10 (by decide) q9 rfl rfl dX2_tell_178 ?_
                          refine lv_iconst (v := 2) hx hb dX2_tell_181 (by decide) ?_
                          refine lv_icmp_ge (tgt := 190) hx hb dX2_tell_182 (by decide) (fun g19 => ?_) (fun g19 => ?_)
                          · have h := wk_p g19 h
                            refine lv_aload_n hx hb dX2_tell_190 rfl (lv_at hl 0 rfl) ?_
                            refine wk_get (ref := "WokenRooms$Room") (C := RX2) (T := TX2) (N := 15) (ci := 2) (v := .int (M 6 ch ri 14)) hx hb hts (fun _ h => List.mem_cons_of_mem _ (List.mem_append_right _ h)) hown hK hP (wk_l6 hL hc hi 6 (by decide) (by decide)) wk_c6 rfl 14 (by decide) q12 rfl rfl dX2_tell_191 ?_
                            exact RT _ _ _ _ _ _ h hP hS dX2_tell_194
                          · have h := wk_n g19 h
                            refine lv_bipush (v := (-4)) hx hb dX2_tell_185 (by decide) ?_
                            refine lv_goto (tgt := 194) hx hb dX2_tell_187 (by decide) ?_
                            exact RT _ _ _ _ _ _ h hP hS dX2_tell_194
set_option maxRecDepth 100000 in
set_option maxHeartbeats 4000000 in
theorem m_X2_tell (l : Launch) {D : va_G} {y : Nat → ClassId} {B : Nat → Nat → Nat → Nat} {Lk : Nat → Nat → Nat → Prop} (hI : wk_I B Lk) (hL : wk_L Lk) {ch : Nat} {ri : Nat} (hc : ch < 7) (hi : ri < 8) {v1 : Int32} {M : wk_T} {r0 : Int32} {MM : wk_T} (hf : f_X2_tell ch ri v1 M = some (r0, MM)) : wk_Mi l yX2_tell wsX2_tell 0 0 D y B Lk [.ref (B 6 ch ri), .int v1] M r0 MM :=
  wk_ofI (own := RX2) (bytes := cX2_tell) (maxL := 2) (ret := some .int) (by decide +kernel) rfl rfl (Or.inl rfl) (Nat.le_of_ble_eq_true rfl) hI hL (fun p e s m args below meth c ls CX RTi RTz hl hP hS => w_X2_tell_0 CX (RTi rfl) hc hi hf hl hP hS)
def f_X2_paidInAll (ch : Nat) (ri : Nat) (M : wk_T) : Option (Int32 × wk_T) := (some (((((M 8 ch ri 0) + (M 8 ch ri 1)) + (M 8 ch ri 2)) + (M 8 ch ri 3)), M))
set_option maxRecDepth 20000 in
theorem q_X2_paidInAll {s : State} {args : Array Value} (hts : ∀ w ∈ wsX2_paidInAll, w.before args s = true) : (Cond.fieldLink RX2 15 "WokenRooms$Room" "paid" "[I").before args s = true := hts _ (List.mem_of_getElem? (i := 1) rfl)
set_option maxRecDepth 100000 in
set_option maxHeartbeats 4000000 in
theorem w_X2_paidInAll_0 {ch : Nat} {ri : Nat} {r0 : Int32} (CX : wk_X p l e R s m args below meth c cells slots Q cX2_paidInAll 1 RX2 wsX2_paidInAll D y B Lk A 0 0) (RT : wk_Ri p l e R s m args below meth c cells slots Q cX2_paidInAll D y B Lk A r0 MM) (hc : ch < 7) (hi : ri < 8) {M : wk_T} {H : Heap} {locs : List Loc} {ls : Array Slot} (h : f_X2_paidInAll ch ri M = some (r0, MM)) (hl : lv_has ls 1 [(0, .ref (B 6 ch ri))]) (hP : wk_H D y B Lk M H) (hS : va_S A s.heap H locs) : W p l e R s m args below meth c H locs cells slots Q (F0 m 0 ls []) := by
  obtain ⟨⟨hx, hb, hml, hown, hts⟩, hK, hI, hL, hA, hfr, hlo, hcs⟩ := id CX
  have q1 := q_X2_paidInAll hts
  unfold f_X2_paidInAll at h
  refine lv_aload_n hx hb dX2_paidInAll_0 rfl (lv_at hl 0 rfl) ?_
  refine wk_get (ref := "WokenRooms$Room") (C := RX2) (T := TX2) (N := 15) (ci := 2) (v := .ref (B 8 ch ri)) hx hb hts (fun _ h => List.mem_cons_of_mem _ (List.mem_append_right _ h)) hown hK hP (wk_l6 hL hc hi 6 (by decide) (by decide)) wk_c6 rfl 1 (by decide) q1 rfl rfl dX2_paidInAll_1 ?_
  refine lv_iconst (v := 0) hx hb dX2_paidInAll_4 (by decide) ?_
  refine wk_iald (j := 0) hx hb hK hP (wk_l6 hL hc hi 8 (by decide) (by decide)) wk_c8 (by decide) (by decide) dX2_paidInAll_5 ?_
  refine lv_aload_n hx hb dX2_paidInAll_6 rfl (lv_at hl 0 rfl) ?_
  refine wk_get (ref := "WokenRooms$Room") (C := RX2) (T := TX2) (N := 15) (ci := 2) (v := .ref (B 8 ch ri)) hx hb hts (fun _ h => List.mem_cons_of_mem _ (List.mem_append_right _ h)) hown hK hP (wk_l6 hL hc hi 6 (by decide) (by decide)) wk_c6 rfl 1 (by decide) q1 rfl rfl dX2_paidInAll_7 ?_
  refine lv_iconst (v := 1) hx hb dX2_paidInAll_10 (by decide) ?_
  refine wk_iald (j := 1) hx hb hK hP (wk_l6 hL hc hi 8 (by decide) (by decide)) wk_c8 (by decide) (by decide) dX2_paidInAll_11 ?_
  refine lv_iadd hx hb dX2_paidInAll_12 ?_
  refine lv_aload_n hx hb dX2_paidInAll_13 rfl (lv_at hl 0 rfl) ?_
  refine wk_get (ref := "WokenRooms$Room") (C := RX2) (T := TX2) (N := 15) (ci := 2) (v := .ref (B 8 ch ri)) hx hb hts (fun _ h => List.mem_cons_of_mem _ (List.mem_append_right _ h)) hown hK hP (wk_l6 hL hc hi 6 (by decide) (by decide)) wk_c6 rfl 1 (by decide) q1 rfl rfl dX2_paidInAll_14 ?_
  refine lv_iconst (v := 2) hx hb dX2_paidInAll_17 (by decide) ?_
  refine wk_iald (j := 2) hx hb hK hP (wk_l6 hL hc hi 8 (by decide) (by decide)) wk_c8 (by decide) (by decide) dX2_paidInAll_18 ?_
  refine lv_iadd hx hb dX2_paidInAll_19 ?_
  refine lv_aload_n hx hb dX2_paidInAll_20 rfl (lv_at hl 0 rfl) ?_
  refine wk_get (ref := "WokenRooms$Room") (C := RX2) (T := TX2) (N := 15) (ci := 2) (v := .ref (B 8 ch ri)) hx hb hts (fun _ h => List.mem_cons_of_mem _ (List.mem_append_right _ h)) hown hK hP (wk_l6 hL hc hi 6 (by decide) (by decide)) wk_c6 rfl 1 (by decide) q1 rfl rfl dX2_paidInAll_21 ?_
  refine lv_iconst (v := 3) hx hb dX2_paidInAll_24 (by decide) ?_
  refine wk_iald (j := 3) hx hb hK hP (wk_l6 hL hc hi 8 (by decide) (by decide)) wk_c8 (by decide) (by decide) dX2_paidInAll_25 ?_
  refine lv_iadd hx hb dX2_paidInAll_26 ?_
  exact RT _ _ _ _ _ _ h hP hS dX2_paidInAll_27
set_option maxRecDepth 100000 in
set_option maxHeartbeats 4000000 in
theorem m_X2_paidInAll (l : Launch) {D : va_G} {y : Nat → ClassId} {B : Nat → Nat → Nat → Nat} {Lk : Nat → Nat → Nat → Prop} (hI : wk_I B Lk) (hL : wk_L Lk) {ch : Nat} {ri : Nat} (hc : ch < 7) (hi : ri < 8) {M : wk_T} {r0 : Int32} {MM : wk_T} (hf : f_X2_paidInAll ch ri M = some (r0, MM)) : wk_Mi l yX2_paidInAll wsX2_paidInAll 0 0 D y B Lk [.ref (B 6 ch ri)] M r0 MM :=
  wk_ofI (own := RX2) (bytes := cX2_paidInAll) (maxL := 1) (ret := some .int) (by decide +kernel) rfl rfl (Or.inl rfl) (Nat.le_of_ble_eq_true rfl) hI hL (fun p e s m args below meth c ls CX RTi RTz hl hP hS => w_X2_paidInAll_0 CX (RTi rfl) hc hi hf hl hP hS)
def f_X2_startWaking (ch : Nat) (ri : Nat) (M : wk_T) : Option (Unit × wk_T) := wk_mu (wk_up M 8 ch ri 0 ((M 8 ch ri 0) + (M 7 ch ri 0))) (fun M1 => wk_mu (wk_up M1 6 ch ri 7 1) (fun M2 => wk_mu (wk_up M2 6 ch ri 8 (M2 7 ch ri 1)) (fun M3 => wk_mu (wk_up M3 6 ch ri 12 ((M3 6 ch ri 12) + 1)) (fun M4 => (some ((), M4))))))
set_option maxRecDepth 20000 in
theorem q_X2_startWaking {s : State} {args : Array Value} (hts : ∀ w ∈ wsX2_startWaking, w.before args s = true) : (Cond.fieldLink RX2 15 "WokenRooms$Room" "paid" "[I").before args s = true ∧ (Cond.fieldLink RX2 9 "WokenRooms$Room" "costs" "[I").before args s = true ∧ (Cond.fieldLink RX2 34 "WokenRooms$Room" "state" "I").before args s = true ∧ (Cond.fieldLink RX2 37 "WokenRooms$Room" "left" "I").before args s = true ∧ (Cond.fieldLink RX2 49 "WokenRooms$Room" "woken" "I").before args s = true := ⟨hts _ (List.mem_of_getElem? (i := 1) rfl), hts _ (List.mem_of_getElem? (i := 2) rfl), hts _ (List.mem_of_getElem? (i := 3) rfl), hts _ (List.mem_of_getElem? (i := 4) rfl), hts _ (List.mem_of_getElem? (i := 5) rfl)⟩
set_option maxRecDepth 100000 in
set_option maxHeartbeats 4000000 in
theorem w_X2_startWaking_0 {ch : Nat} {ri : Nat} (CX : wk_X p l e R s m args below meth c cells slots Q cX2_startWaking 1 RX2 wsX2_startWaking D y B Lk A 0 0) (RT : wk_Rv p l e R s m args below meth c cells slots Q cX2_startWaking D y B Lk A MM) (hc : ch < 7) (hi : ri < 8) {M : wk_T} {H : Heap} {locs : List Loc} {ls : Array Slot} (h : f_X2_startWaking ch ri M = some ((), MM)) (hl : lv_has ls 1 [(0, .ref (B 6 ch ri))]) (hP : wk_H D y B Lk M H) (hS : va_S A s.heap H locs) : W p l e R s m args below meth c H locs cells slots Q (F0 m 0 ls []) := by
  obtain ⟨⟨hx, hb, hml, hown, hts⟩, hK, hI, hL, hA, hfr, hlo, hcs⟩ := id CX
  obtain ⟨q1, q2, q3, q4, q5⟩ := q_X2_startWaking hts
  unfold f_X2_startWaking at h
  refine lv_aload_n hx hb dX2_startWaking_0 rfl (lv_at hl 0 rfl) ?_
  refine wk_get (ref := "WokenRooms$Room") (C := RX2) (T := TX2) (N := 15) (ci := 2) (v := .ref (B 8 ch ri)) hx hb hts (fun _ h => List.mem_cons_of_mem _ (List.mem_append_right _ h)) hown hK hP (wk_l6 hL hc hi 6 (by decide) (by decide)) wk_c6 rfl 1 (by decide) q1 rfl rfl dX2_startWaking_1 ?_
  refine lv_iconst (v := 0) hx hb dX2_startWaking_4 (by decide) ?_
  refine lv_dup2_11 hx hb dX2_startWaking_5 rfl rfl ?_
  refine wk_iald (j := 0) hx hb hK hP (wk_l6 hL hc hi 8 (by decide) (by decide)) wk_c8 (by decide) (by decide) dX2_startWaking_6 ?_
  refine lv_aload_n hx hb dX2_startWaking_7 rfl (lv_at hl 0 rfl) ?_
  refine wk_get (ref := "WokenRooms$Room") (C := RX2) (T := TX2) (N := 15) (ci := 2) (v := .ref (B 7 ch ri)) hx hb hts (fun _ h => List.mem_cons_of_mem _ (List.mem_append_right _ h)) hown hK hP (wk_l6 hL hc hi 6 (by decide) (by decide)) wk_c6 rfl 0 (by decide) q2 rfl rfl dX2_startWaking_8 ?_
  refine lv_iconst (v := 0) hx hb dX2_startWaking_11 (by decide) ?_
  refine wk_iald (j := 0) hx hb hK hP (wk_l6 hL hc hi 7 (by decide) (by decide)) wk_c7 (by decide) (by decide) dX2_startWaking_12 ?_
  refine lv_iadd hx hb dX2_startWaking_13 ?_
  obtain ⟨M1, eM1, h⟩ := wk_mu_e h
  refine wk_iast (j := 0) hx hb hK hP hI hS hA (wk_l6 hL hc hi 8 (by decide) (by decide)) wk_c8 (by decide) (by decide) (by rfl) dX2_startWaking_14 (fun H locs hP hS => ?_)
  rw [eM1] at hP
  refine lv_aload_n hx hb dX2_startWaking_15 rfl (lv_at hl 0 rfl) ?_
  refine lv_iconst (v := 1) hx hb dX2_startWaking_16 (by decide) ?_
  obtain ⟨M2, eM2, h⟩ := wk_mu_e h
  refine wk_put (ref := "WokenRooms$Room") (C := RX2) (T := TX2) (N := 15) (ci := 2) hx hb hts (fun _ h => List.mem_cons_of_mem _ (List.mem_append_right _ h)) tyX2 tyX2_ok nmX2 hown hK hP hI hS hA (wk_l6 hL hc hi 6 (by decide) (by decide)) wk_c6 rfl 7 (by decide) q3 rfl rfl (by decide +kernel) (Nat.le_of_ble_eq_true rfl) (by rfl) dX2_startWaking_17 (fun H locs hP hS => ?_)
  rw [eM2] at hP
  refine lv_aload_n hx hb dX2_startWaking_20 rfl (lv_at hl 0 rfl) ?_
  refine lv_aload_n hx hb dX2_startWaking_21 rfl (lv_at hl 0 rfl) ?_
  refine wk_get (ref := "WokenRooms$Room") (C := RX2) (T := TX2) (N := 15) (ci := 2) (v := .ref (B 7 ch ri)) hx hb hts (fun _ h => List.mem_cons_of_mem _ (List.mem_append_right _ h)) hown hK hP (wk_l6 hL hc hi 6 (by decide) (by decide)) wk_c6 rfl 0 (by decide) q2 rfl rfl dX2_startWaking_22 ?_
  refine lv_iconst (v := 1) hx hb dX2_startWaking_25 (by decide) ?_
  refine wk_iald (j := 1) hx hb hK hP (wk_l6 hL hc hi 7 (by decide) (by decide)) wk_c7 (by decide) (by decide) dX2_startWaking_26 ?_
  obtain ⟨M3, eM3, h⟩ := wk_mu_e h
  refine wk_put (ref := "WokenRooms$Room") (C := RX2) (T := TX2) (N := 15) (ci := 2) hx hb hts (fun _ h => List.mem_cons_of_mem _ (List.mem_append_right _ h)) tyX2 tyX2_ok nmX2 hown hK hP hI hS hA (wk_l6 hL hc hi 6 (by decide) (by decide)) wk_c6 rfl 8 (by decide) q4 rfl rfl (by decide +kernel) (Nat.le_of_ble_eq_true rfl) (by rfl) dX2_startWaking_27 (fun H locs hP hS => ?_)
  rw [eM3] at hP
  refine lv_aload_n hx hb dX2_startWaking_30 rfl (lv_at hl 0 rfl) ?_
  refine lv_dup hx hb dX2_startWaking_31 rfl ?_
  refine wk_get (ref := "WokenRooms$Room") (C := RX2) (T := TX2) (N := 15) (ci := 2) (v := .int (M3 6 ch ri 12)) hx hb hts (fun _ h => List.mem_cons_of_mem _ (List.mem_append_right _ h)) hown hK hP (wk_l6 hL hc hi 6 (by decide) (by decide)) wk_c6 rfl 12 (by decide) q5 rfl rfl dX2_startWaking_32 ?_
  refine lv_iconst (v := 1) hx hb dX2_startWaking_35 (by decide) ?_
  refine lv_iadd hx hb dX2_startWaking_36 ?_
  obtain ⟨M4, eM4, h⟩ := wk_mu_e h
  refine wk_put (ref := "WokenRooms$Room") (C := RX2) (T := TX2) (N := 15) (ci := 2) hx hb hts (fun _ h => List.mem_cons_of_mem _ (List.mem_append_right _ h)) tyX2 tyX2_ok nmX2 hown hK hP hI hS hA (wk_l6 hL hc hi 6 (by decide) (by decide)) wk_c6 rfl 12 (by decide) q5 rfl rfl (by decide +kernel) (Nat.le_of_ble_eq_true rfl) (by rfl) dX2_startWaking_37 (fun H locs hP hS => ?_)
  rw [eM4] at hP
  exact RT _ _ _ _ _ h hP hS dX2_startWaking_40
set_option maxRecDepth 100000 in
set_option maxHeartbeats 4000000 in
theorem m_X2_startWaking (l : Launch) {D : va_G} {y : Nat → ClassId} {B : Nat → Nat → Nat → Nat} {Lk : Nat → Nat → Nat → Prop} (hI : wk_I B Lk) (hL : wk_L Lk) {ch : Nat} {ri : Nat} (hc : ch < 7) (hi : ri < 8) {M : wk_T} {MM : wk_T} (hf : f_X2_startWaking ch ri M = some ((), MM)) : wk_Mv l yX2_startWaking wsX2_startWaking 0 0 D y B Lk [.ref (B 6 ch ri)] M MM :=
  wk_ofV (own := RX2) (bytes := cX2_startWaking) (maxL := 1) (by decide +kernel) rfl rfl (Nat.le_of_ble_eq_true rfl) hI hL (fun p e s m args below meth c ls CX RT hl hP hS => w_X2_startWaking_0 CX RT hc hi hf hl hP hS)
def f_X2_begin_17 (ch : Nat) (ri : Nat) (v1 : Int32) (v2 : Int32) (v3 : Int32) (M : wk_T) : Option (Unit × wk_T) := wk_mu (wk_up M 6 ch ri 13 (v1 + v3)) (fun M1 => wk_mu (wk_up M1 6 ch ri 10 ((M1 6 ch ri 10) + 1)) (fun M2 => wk_mu (wk_up M2 6 ch ri 11 ((M2 6 ch ri 11) + (v1 - v2))) (fun M3 => wk_mu (wk_up M3 6 ch ri 7 3) (fun M4 => wk_mu (wk_up M4 6 ch ri 8 v3) (fun M5 => (some ((), M5)))))))
def f_X2_begin (ch : Nat) (ri : Nat) (v1 : Int32) (v2 : Int32) (v3 : Int32) (M : wk_T) : Option (Unit × wk_T) := (if (M 6 ch ri 10) ≤ 0 then (f_X2_begin_17 ch ri v1 v2 v3 M) else wk_mu (wk_up M 6 ch ri 14 (v1 - (M 6 ch ri 13))) (fun M2 => (f_X2_begin_17 ch ri v1 v2 v3 M2)))
set_option maxRecDepth 20000 in
theorem q_X2_begin {s : State} {args : Array Value} (hts : ∀ w ∈ wsX2_begin, w.before args s = true) : (Cond.fieldLink RX2 43 "WokenRooms$Room" "begun" "I").before args s = true ∧ (Cond.fieldLink RX2 52 "WokenRooms$Room" "latestEnd" "I").before args s = true ∧ (Cond.fieldLink RX2 55 "WokenRooms$Room" "gap" "I").before args s = true ∧ (Cond.fieldLink RX2 46 "WokenRooms$Room" "late" "I").before args s = true ∧ (Cond.fieldLink RX2 34 "WokenRooms$Room" "state" "I").before args s = true ∧ (Cond.fieldLink RX2 37 "WokenRooms$Room" "left" "I").before args s = true := ⟨hts _ (List.mem_of_getElem? (i := 1) rfl), hts _ (List.mem_of_getElem? (i := 2) rfl), hts _ (List.mem_of_getElem? (i := 3) rfl), hts _ (List.mem_of_getElem? (i := 4) rfl), hts _ (List.mem_of_getElem? (i := 5) rfl), hts _ (List.mem_of_getElem? (i := 6) rfl)⟩
set_option maxRecDepth 100000 in
set_option maxHeartbeats 4000000 in
theorem w_X2_begin_17 {ch : Nat} {ri : Nat} (CX : wk_X p l e R s m args below meth c cells slots Q cX2_begin 4 RX2 wsX2_begin D y B Lk A 0 0) (RT : wk_Rv p l e R s m args below meth c cells slots Q cX2_begin D y B Lk A MM) (hc : ch < 7) (hi : ri < 8) {v1 : Int32} {v2 : Int32} {v3 : Int32} {M : wk_T} {H : Heap} {locs : List Loc} {ls : Array Slot} (h : f_X2_begin_17 ch ri v1 v2 v3 M = some ((), MM)) (hl : lv_has ls 4 [(0, .ref (B 6 ch ri)), (1, .int v1), (2, .int v2), (3, .int v3)]) (hP : wk_H D y B Lk M H) (hS : va_S A s.heap H locs) : W p l e R s m args below meth c H locs cells slots Q (F0 m 17 ls []) := by
  obtain ⟨⟨hx, hb, hml, hown, hts⟩, hK, hI, hL, hA, hfr, hlo, hcs⟩ := id CX
  obtain ⟨q1, q2, q3, q4, q5, q6⟩ := q_X2_begin hts
  unfold f_X2_begin_17 at h
  refine lv_aload_n hx hb dX2_begin_17 rfl (lv_at hl 0 rfl) ?_
  refine lv_iload_n hx hb dX2_begin_18 rfl (lv_at hl 1 rfl) ?_
  refine lv_iload_n hx hb dX2_begin_19 rfl (lv_at hl 3 rfl) ?_
  refine lv_iadd hx hb dX2_begin_20 ?_
  obtain ⟨M1, eM1, h⟩ := wk_mu_e h
  refine wk_put (ref := "WokenRooms$Room") (C := RX2) (T := TX2) (N := 15) (ci := 2) hx hb hts (fun _ h => List.mem_cons_of_mem _ (List.mem_append_right _ h)) tyX2 tyX2_ok nmX2 hown hK hP hI hS hA (wk_l6 hL hc hi 6 (by decide) (by decide)) wk_c6 rfl 13 (by decide) q2 rfl rfl (by decide +kernel) (Nat.le_of_ble_eq_true rfl) (by rfl) dX2_begin_21 (fun H locs hP hS => ?_)
  rw [eM1] at hP
  refine lv_aload_n hx hb dX2_begin_24 rfl (lv_at hl 0 rfl) ?_
  refine lv_dup hx hb dX2_begin_25 rfl ?_
  refine wk_get (ref := "WokenRooms$Room") (C := RX2) (T := TX2) (N := 15) (ci := 2) (v := .int (M1 6 ch ri 10)) hx hb hts (fun _ h => List.mem_cons_of_mem _ (List.mem_append_right _ h)) hown hK hP (wk_l6 hL hc hi 6 (by decide) (by decide)) wk_c6 rfl 10 (by decide) q1 rfl rfl dX2_begin_26 ?_
  refine lv_iconst (v := 1) hx hb dX2_begin_29 (by decide) ?_
  refine lv_iadd hx hb dX2_begin_30 ?_
  obtain ⟨M2, eM2, h⟩ := wk_mu_e h
  refine wk_put (ref := "WokenRooms$Room") (C := RX2) (T := TX2) (N := 15) (ci := 2) hx hb hts (fun _ h => List.mem_cons_of_mem _ (List.mem_append_right _ h)) tyX2 tyX2_ok nmX2 hown hK hP hI hS hA (wk_l6 hL hc hi 6 (by decide) (by decide)) wk_c6 rfl 10 (by decide) q1 rfl rfl (by decide +kernel) (Nat.le_of_ble_eq_true rfl) (by rfl) dX2_begin_31 (fun H locs hP hS => ?_)
  rw [eM2] at hP
  refine lv_aload_n hx hb dX2_begin_34 rfl (lv_at hl 0 rfl) ?_
  refine lv_dup hx hb dX2_begin_35 rfl ?_
  refine wk_get (ref := "WokenRooms$Room") (C := RX2) (T := TX2) (N := 15) (ci := 2) (v := .int (M2 6 ch ri 11)) hx hb hts (fun _ h => List.mem_cons_of_mem _ (List.mem_append_right _ h)) hown hK hP (wk_l6 hL hc hi 6 (by decide) (by decide)) wk_c6 rfl 11 (by decide) q4 rfl rfl dX2_begin_36 ?_
  refine lv_iload_n hx hb dX2_begin_39 rfl (lv_at hl 1 rfl) ?_
  refine lv_iload_n hx hb dX2_begin_40 rfl (lv_at hl 2 rfl) ?_
  refine lv_isub hx hb dX2_begin_41 ?_
  refine lv_iadd hx hb dX2_begin_42 ?_
  obtain ⟨M3, eM3, h⟩ := wk_mu_e h
  refine wk_put (ref := "WokenRooms$Room") (C := RX2) (T := TX2) (N := 15) (ci := 2) hx hb hts (fun _ h => List.mem_cons_of_mem _ (List.mem_append_right _ h)) tyX2 tyX2_ok nmX2 hown hK hP hI hS hA (wk_l6 hL hc hi 6 (by decide) (by decide)) wk_c6 rfl 11 (by decide) q4 rfl rfl (by decide +kernel) (Nat.le_of_ble_eq_true rfl) (by rfl) dX2_begin_43 (fun H locs hP hS => ?_)
  rw [eM3] at hP
  refine lv_aload_n hx hb dX2_begin_46 rfl (lv_at hl 0 rfl) ?_
  refine lv_iconst (v := 3) hx hb dX2_begin_47 (by decide) ?_
  obtain ⟨M4, eM4, h⟩ := wk_mu_e h
  refine wk_put (ref := "WokenRooms$Room") (C := RX2) (T := TX2) (N := 15) (ci := 2) hx hb hts (fun _ h => List.mem_cons_of_mem _ (List.mem_append_right _ h)) tyX2 tyX2_ok nmX2 hown hK hP hI hS hA (wk_l6 hL hc hi 6 (by decide) (by decide)) wk_c6 rfl 7 (by decide) q5 rfl rfl (by decide +kernel) (Nat.le_of_ble_eq_true rfl) (by rfl) dX2_begin_48 (fun H locs hP hS => ?_)
  rw [eM4] at hP
  refine lv_aload_n hx hb dX2_begin_51 rfl (lv_at hl 0 rfl) ?_
  refine lv_iload_n hx hb dX2_begin_52 rfl (lv_at hl 3 rfl) ?_
  obtain ⟨M5, eM5, h⟩ := wk_mu_e h
  refine wk_put (ref := "WokenRooms$Room") (C := RX2) (T := TX2) (N := 15) (ci := 2) hx hb hts (fun _ h => List.mem_cons_of_mem _ (List.mem_append_right _ h)) tyX2 tyX2_ok nmX2 hown hK hP hI hS hA (wk_l6 hL hc hi 6 (by decide) (by decide)) wk_c6 rfl 8 (by decide) q6 rfl rfl (by decide +kernel) (Nat.le_of_ble_eq_true rfl) (by rfl) dX2_begin_53 (fun H locs hP hS => ?_)
  rw [eM5] at hP
  exact RT _ _ _ _ _ h hP hS dX2_begin_56
set_option maxRecDepth 100000 in
set_option maxHeartbeats 4000000 in
theorem w_X2_begin_0 {ch : Nat} {ri : Nat} (CX : wk_X p l e R s m args below meth c cells slots Q cX2_begin 4 RX2 wsX2_begin D y B Lk A 0 0) (RT : wk_Rv p l e R s m args below meth c cells slots Q cX2_begin D y B Lk A MM) (hc : ch < 7) (hi : ri < 8) {v1 : Int32} {v2 : Int32} {v3 : Int32} {M : wk_T} {H : Heap} {locs : List Loc} {ls : Array Slot} (h : f_X2_begin ch ri v1 v2 v3 M = some ((), MM)) (hl : lv_has ls 4 [(0, .ref (B 6 ch ri)), (1, .int v1), (2, .int v2), (3, .int v3)]) (hP : wk_H D y B Lk M H) (hS : va_S A s.heap H locs) : W p l e R s m args below meth c H locs cells slots Q (F0 m 0 ls []) := by
  obtain ⟨⟨hx, hb, hml, hown, hts⟩, hK, hI, hL, hA, hfr, hlo, hcs⟩ := id CX
  obtain ⟨q1, q2, q3, q4, q5, q6⟩ := q_X2_begin hts
  unfold f_X2_begin at h
  refine lv_aload_n hx hb dX2_begin_0 rfl (lv_at hl 0 rfl) ?_
  refine wk_get (ref := "WokenRooms$Room") (C := RX2) (T := TX2) (N := 15) (ci := 2) (v := .int (M 6 ch ri 10)) hx hb hts (fun _ h => List.mem_cons_of_mem _ (List.mem_append_right _ h)) hown hK hP (wk_l6 hL hc hi 6 (by decide) (by decide)) wk_c6 rfl 10 (by decide) q1 rfl rfl dX2_begin_1 ?_
  refine lv_if_le (tgt := 17) hx hb dX2_begin_4 (by decide) (fun g1 => ?_) (fun g1 => ?_)
  · have h := wk_p g1 h
    exact w_X2_begin_17 CX RT hc hi h (lv_sub hl [0, 1, 2, 3] rfl) hP hS
  · have h := wk_n g1 h
    refine lv_aload_n hx hb dX2_begin_7 rfl (lv_at hl 0 rfl) ?_
    refine lv_iload_n hx hb dX2_begin_8 rfl (lv_at hl 1 rfl) ?_
    refine lv_aload_n hx hb dX2_begin_9 rfl (lv_at hl 0 rfl) ?_
    refine wk_get (ref := "WokenRooms$Room") (C := RX2) (T := TX2) (N := 15) (ci := 2) (v := .int (M 6 ch ri 13)) hx hb hts (fun _ h => List.mem_cons_of_mem _ (List.mem_append_right _ h)) hown hK hP (wk_l6 hL hc hi 6 (by decide) (by decide)) wk_c6 rfl 13 (by decide) q2 rfl rfl dX2_begin_10 ?_
    refine lv_isub hx hb dX2_begin_13 ?_
    obtain ⟨M2, eM2, h⟩ := wk_mu_e h
    refine wk_put (ref := "WokenRooms$Room") (C := RX2) (T := TX2) (N := 15) (ci := 2) hx hb hts (fun _ h => List.mem_cons_of_mem _ (List.mem_append_right _ h)) tyX2 tyX2_ok nmX2 hown hK hP hI hS hA (wk_l6 hL hc hi 6 (by decide) (by decide)) wk_c6 rfl 14 (by decide) q3 rfl rfl (by decide +kernel) (Nat.le_of_ble_eq_true rfl) (by rfl) dX2_begin_14 (fun H locs hP hS => ?_)
    rw [eM2] at hP
    exact w_X2_begin_17 CX RT hc hi h (lv_sub hl [0, 1, 2, 3] rfl) hP hS
set_option maxRecDepth 100000 in
set_option maxHeartbeats 4000000 in
theorem m_X2_begin (l : Launch) {D : va_G} {y : Nat → ClassId} {B : Nat → Nat → Nat → Nat} {Lk : Nat → Nat → Nat → Prop} (hI : wk_I B Lk) (hL : wk_L Lk) {ch : Nat} {ri : Nat} (hc : ch < 7) (hi : ri < 8) {v1 : Int32} {v2 : Int32} {v3 : Int32} {M : wk_T} {MM : wk_T} (hf : f_X2_begin ch ri v1 v2 v3 M = some ((), MM)) : wk_Mv l yX2_begin wsX2_begin 0 0 D y B Lk [.ref (B 6 ch ri), .int v1, .int v2, .int v3] M MM :=
  wk_ofV (own := RX2) (bytes := cX2_begin) (maxL := 4) (by decide +kernel) rfl rfl (Nat.le_of_ble_eq_true rfl) hI hL (fun p e s m args below meth c ls CX RT hl hP hS => w_X2_begin_0 CX RT hc hi hf hl hP hS)
def f_X2_isGuessedByGap (ch : Nat) (ri : Nat) (v1 : Int32) (M : wk_T) : Option (Int32 × wk_T) := (if (M 6 ch ri 6) = 2 then (if (M 6 ch ri 10) < 2 then (some (0, M)) else (if (M 6 ch ri 7) = 3 then (some (0, M)) else (if v1 = (((M 6 ch ri 13) + (M 6 ch ri 14)) - (M 7 ch ri 1)) then (some (1, M)) else (some (0, M))))) else (some (0, M)))
set_option maxRecDepth 20000 in
theorem q_X2_isGuessedByGap {s : State} {args : Array Value} (hts : ∀ w ∈ wsX2_isGuessedByGap, w.before args s = true) : (Cond.fieldLink RX2 31 "WokenRooms$Room" "guess" "I").before args s = true ∧ (Cond.fieldLink RX2 43 "WokenRooms$Room" "begun" "I").before args s = true ∧ (Cond.fieldLink RX2 34 "WokenRooms$Room" "state" "I").before args s = true ∧ (Cond.fieldLink RX2 52 "WokenRooms$Room" "latestEnd" "I").before args s = true ∧ (Cond.fieldLink RX2 55 "WokenRooms$Room" "gap" "I").before args s = true ∧ (Cond.fieldLink RX2 9 "WokenRooms$Room" "costs" "[I").before args s = true := ⟨hts _ (List.mem_of_getElem? (i := 1) rfl), hts _ (List.mem_of_getElem? (i := 2) rfl), hts _ (List.mem_of_getElem? (i := 3) rfl), hts _ (List.mem_of_getElem? (i := 4) rfl), hts _ (List.mem_of_getElem? (i := 5) rfl), hts _ (List.mem_of_getElem? (i := 6) rfl)⟩
set_option maxRecDepth 100000 in
set_option maxHeartbeats 4000000 in
theorem w_X2_isGuessedByGap_0 {ch : Nat} {ri : Nat} {r0 : Int32} (CX : wk_X p l e R s m args below meth c cells slots Q cX2_isGuessedByGap 2 RX2 wsX2_isGuessedByGap D y B Lk A 0 0) (RT : wk_Rz p l e R s m args below meth c cells slots Q cX2_isGuessedByGap D y B Lk A r0 MM) (hc : ch < 7) (hi : ri < 8) {v1 : Int32} {M : wk_T} {H : Heap} {locs : List Loc} {ls : Array Slot} (h : f_X2_isGuessedByGap ch ri v1 M = some (r0, MM)) (hl : lv_has ls 2 [(0, .ref (B 6 ch ri)), (1, .int v1)]) (hP : wk_H D y B Lk M H) (hS : va_S A s.heap H locs) : W p l e R s m args below meth c H locs cells slots Q (F0 m 0 ls []) := by
  obtain ⟨⟨hx, hb, hml, hown, hts⟩, hK, hI, hL, hA, hfr, hlo, hcs⟩ := id CX
  obtain ⟨q1, q2, q3, q4, q5, q6⟩ := q_X2_isGuessedByGap hts
  unfold f_X2_isGuessedByGap at h
  refine lv_aload_n hx hb dX2_isGuessedByGap_0 rfl (lv_at hl 0 rfl) ?_
  refine wk_get (ref := "WokenRooms$Room") (C := RX2) (T := TX2) (N := 15) (ci := 2) (v := .int (M 6 ch ri 6)) hx hb hts (fun _ h => List.mem_cons_of_mem _ (List.mem_append_right _ h)) hown hK hP (wk_l6 hL hc hi 6 (by decide) (by decide)) wk_c6 rfl 6 (by decide) q1 rfl rfl dX2_isGuessedByGap_1 ?_
  refine lv_iconst (v := 2) hx hb dX2_isGuessedByGap_4 (by decide) ?_
  refine lv_icmp_ne (tgt := 48) hx hb dX2_isGuessedByGap_5 (by decide) (fun g1 => ?_) (fun g1 => ?_)
  · have h := wk_n g1 h
    refine lv_iconst (v := 0) hx hb dX2_isGuessedByGap_48 (by decide) ?_
    exact RT _ _ _ _ _ _ (Or.inl rfl) h hP hS dX2_isGuessedByGap_49
  · have h := wk_p g1 h
    refine lv_aload_n hx hb dX2_isGuessedByGap_8 rfl (lv_at hl 0 rfl) ?_
    refine wk_get (ref := "WokenRooms$Room") (C := RX2) (T := TX2) (N := 15) (ci := 2) (v := .int (M 6 ch ri 10)) hx hb hts (fun _ h => List.mem_cons_of_mem _ (List.mem_append_right _ h)) hown hK hP (wk_l6 hL hc hi 6 (by decide) (by decide)) wk_c6 rfl 10 (by decide) q2 rfl rfl dX2_isGuessedByGap_9 ?_
    refine lv_iconst (v := 2) hx hb dX2_isGuessedByGap_12 (by decide) ?_
    refine lv_icmp_lt (tgt := 48) hx hb dX2_isGuessedByGap_13 (by decide) (fun g2 => ?_) (fun g2 => ?_)
    · have h := wk_p g2 h
      refine lv_iconst (v := 0) hx hb dX2_isGuessedByGap_48 (by decide) ?_
      exact RT _ _ _ _ _ _ (Or.inl rfl) h hP hS dX2_isGuessedByGap_49
    · have h := wk_n g2 h
      refine lv_aload_n hx hb dX2_isGuessedByGap_16 rfl (lv_at hl 0 rfl) ?_
      refine wk_get (ref := "WokenRooms$Room") (C := RX2) (T := TX2) (N := 15) (ci := 2) (v := .int (M 6 ch ri 7)) hx hb hts (fun _ h => List.mem_cons_of_mem _ (List.mem_append_right _ h)) hown hK hP (wk_l6 hL hc hi 6 (by decide) (by decide)) wk_c6 rfl 7 (by decide) q3 rfl rfl dX2_isGuessedByGap_17 ?_
      refine lv_iconst (v := 3) hx hb dX2_isGuessedByGap_20 (by decide) ?_
      refine lv_icmp_eq (tgt := 48) hx hb dX2_isGuessedByGap_21 (by decide) (fun g3 => ?_) (fun g3 => ?_)
      · have h := wk_p g3 h
        refine lv_iconst (v := 0) hx hb dX2_isGuessedByGap_48 (by decide) ?_
        exact RT _ _ _ _ _ _ (Or.inl rfl) h hP hS dX2_isGuessedByGap_49
      · have h := wk_n g3 h
        refine lv_iload_n hx hb dX2_isGuessedByGap_24 rfl (lv_at hl 1 rfl) ?_
        refine lv_aload_n hx hb dX2_isGuessedByGap_25 rfl (lv_at hl 0 rfl) ?_
        refine wk_get (ref := "WokenRooms$Room") (C := RX2) (T := TX2) (N := 15) (ci := 2) (v := .int (M 6 ch ri 13)) hx hb hts (fun _ h => List.mem_cons_of_mem _ (List.mem_append_right _ h)) hown hK hP (wk_l6 hL hc hi 6 (by decide) (by decide)) wk_c6 rfl 13 (by decide) q4 rfl rfl dX2_isGuessedByGap_26 ?_
        refine lv_aload_n hx hb dX2_isGuessedByGap_29 rfl (lv_at hl 0 rfl) ?_
        refine wk_get (ref := "WokenRooms$Room") (C := RX2) (T := TX2) (N := 15) (ci := 2) (v := .int (M 6 ch ri 14)) hx hb hts (fun _ h => List.mem_cons_of_mem _ (List.mem_append_right _ h)) hown hK hP (wk_l6 hL hc hi 6 (by decide) (by decide)) wk_c6 rfl 14 (by decide) q5 rfl rfl dX2_isGuessedByGap_30 ?_
        refine lv_iadd hx hb dX2_isGuessedByGap_33 ?_
        refine lv_aload_n hx hb dX2_isGuessedByGap_34 rfl (lv_at hl 0 rfl) ?_
        refine wk_get (ref := "WokenRooms$Room") (C := RX2) (T := TX2) (N := 15) (ci := 2) (v := .ref (B 7 ch ri)) hx hb hts (fun _ h => List.mem_cons_of_mem _ (List.mem_append_right _ h)) hown hK hP (wk_l6 hL hc hi 6 (by decide) (by decide)) wk_c6 rfl 0 (by decide) q6 rfl rfl dX2_isGuessedByGap_35 ?_
        refine lv_iconst (v := 1) hx hb dX2_isGuessedByGap_38 (by decide) ?_
        refine wk_iald (j := 1) hx hb hK hP (wk_l6 hL hc hi 7 (by decide) (by decide)) wk_c7 (by decide) (by decide) dX2_isGuessedByGap_39 ?_
        refine lv_isub hx hb dX2_isGuessedByGap_40 ?_
        refine lv_icmp_ne (tgt := 48) hx hb dX2_isGuessedByGap_41 (by decide) (fun g4 => ?_) (fun g4 => ?_)
        · have h := wk_n g4 h
          refine lv_iconst (v := 0) hx hb dX2_isGuessedByGap_48 (by decide) ?_
          exact RT _ _ _ _ _ _ (Or.inl rfl) h hP hS dX2_isGuessedByGap_49
        · have h := wk_p g4 h
          refine lv_iconst (v := 1) hx hb dX2_isGuessedByGap_44 (by decide) ?_
          refine lv_goto (tgt := 49) hx hb dX2_isGuessedByGap_45 (by decide) ?_
          exact RT _ _ _ _ _ _ (Or.inr rfl) h hP hS dX2_isGuessedByGap_49
set_option maxRecDepth 100000 in
set_option maxHeartbeats 4000000 in
theorem m_X2_isGuessedByGap (l : Launch) {D : va_G} {y : Nat → ClassId} {B : Nat → Nat → Nat → Nat} {Lk : Nat → Nat → Nat → Prop} (hI : wk_I B Lk) (hL : wk_L Lk) {ch : Nat} {ri : Nat} (hc : ch < 7) (hi : ri < 8) {v1 : Int32} {M : wk_T} {r0 : Int32} {MM : wk_T} (hf : f_X2_isGuessedByGap ch ri v1 M = some (r0, MM)) : wk_Mi l yX2_isGuessedByGap wsX2_isGuessedByGap 0 0 D y B Lk [.ref (B 6 ch ri), .int v1] M r0 MM :=
  wk_ofI (own := RX2) (bytes := cX2_isGuessedByGap) (maxL := 2) (ret := some .boolean) (by decide +kernel) rfl rfl (Or.inr rfl) (Nat.le_of_ble_eq_true rfl) hI hL (fun p e s m args below meth c ls CX RTi RTz hl hP hS => w_X2_isGuessedByGap_0 CX (RTz rfl) hc hi hf hl hP hS)
def f_X2_payForTick (ch : Nat) (ri : Nat) (M : wk_T) : Option (Unit × wk_T) := (if (M 6 ch ri 7) = 0 then wk_mu (wk_up M 8 ch ri 3 ((M 8 ch ri 3) + (M 7 ch ri 4))) (fun M2 => (some ((), M2))) else (if (M 6 ch ri 7) = 1 then (some ((), M)) else (if (M 6 ch ri 7) = 2 then wk_mu (wk_up M 8 ch ri 2 ((M 8 ch ri 2) + (M 7 ch ri 3))) (fun M5 => (some ((), M5))) else (if (M 6 ch ri 7) = 3 then wk_mu (wk_up M 8 ch ri 1 ((M 8 ch ri 1) + (M 7 ch ri 2))) (fun M7 => (some ((), M7))) else (some ((), M))))))
set_option maxRecDepth 20000 in
theorem q_X2_payForTick {s : State} {args : Array Value} (hts : ∀ w ∈ wsX2_payForTick, w.before args s = true) : (Cond.fieldLink RX2 34 "WokenRooms$Room" "state" "I").before args s = true ∧ (Cond.fieldLink RX2 15 "WokenRooms$Room" "paid" "[I").before args s = true ∧ (Cond.fieldLink RX2 9 "WokenRooms$Room" "costs" "[I").before args s = true := ⟨hts _ (List.mem_of_getElem? (i := 1) rfl), hts _ (List.mem_of_getElem? (i := 2) rfl), hts _ (List.mem_of_getElem? (i := 3) rfl)⟩
set_option maxRecDepth 100000 in
set_option maxHeartbeats 4000000 in
theorem w_X2_payForTick_0 {ch : Nat} {ri : Nat} (CX : wk_X p l e R s m args below meth c cells slots Q cX2_payForTick 1 RX2 wsX2_payForTick D y B Lk A 0 0) (RT : wk_Rv p l e R s m args below meth c cells slots Q cX2_payForTick D y B Lk A MM) (hc : ch < 7) (hi : ri < 8) {M : wk_T} {H : Heap} {locs : List Loc} {ls : Array Slot} (h : f_X2_payForTick ch ri M = some ((), MM)) (hl : lv_has ls 1 [(0, .ref (B 6 ch ri))]) (hP : wk_H D y B Lk M H) (hS : va_S A s.heap H locs) : W p l e R s m args below meth c H locs cells slots Q (F0 m 0 ls []) := by
  obtain ⟨⟨hx, hb, hml, hown, hts⟩, hK, hI, hL, hA, hfr, hlo, hcs⟩ := id CX
  obtain ⟨q1, q2, q3⟩ := q_X2_payForTick hts
  unfold f_X2_payForTick at h
  refine lv_aload_n hx hb dX2_payForTick_0 rfl (lv_at hl 0 rfl) ?_
  refine wk_get (ref := "WokenRooms$Room") (C := RX2) (T := TX2) (N := 15) (ci := 2) (v := .int (M 6 ch ri 7)) hx hb hts (fun _ h => List.mem_cons_of_mem _ (List.mem_append_right _ h)) hown hK hP (wk_l6 hL hc hi 6 (by decide) (by decide)) wk_c6 rfl 7 (by decide) q1 rfl rfl dX2_payForTick_1 ?_
  by_cases g1 : (M 6 ch ri 7) = 0
  · have h := wk_p g1 h
    refine lv_tableIn (off := 32) (tgt := 36) hx hb dX2_payForTick_4 (by rw [g1]; decide) (by rw [g1]; decide) (by rw [g1]; rfl) (by decide) ?_
    refine lv_aload_n hx hb dX2_payForTick_36 rfl (lv_at hl 0 rfl) ?_
    refine wk_get (ref := "WokenRooms$Room") (C := RX2) (T := TX2) (N := 15) (ci := 2) (v := .ref (B 8 ch ri)) hx hb hts (fun _ h => List.mem_cons_of_mem _ (List.mem_append_right _ h)) hown hK hP (wk_l6 hL hc hi 6 (by decide) (by decide)) wk_c6 rfl 1 (by decide) q2 rfl rfl dX2_payForTick_37 ?_
    refine lv_iconst (v := 3) hx hb dX2_payForTick_40 (by decide) ?_
    refine lv_dup2_11 hx hb dX2_payForTick_41 rfl rfl ?_
    refine wk_iald (j := 3) hx hb hK hP (wk_l6 hL hc hi 8 (by decide) (by decide)) wk_c8 (by decide) (by decide) dX2_payForTick_42 ?_
    refine lv_aload_n hx hb dX2_payForTick_43 rfl (lv_at hl 0 rfl) ?_
    refine wk_get (ref := "WokenRooms$Room") (C := RX2) (T := TX2) (N := 15) (ci := 2) (v := .ref (B 7 ch ri)) hx hb hts (fun _ h => List.mem_cons_of_mem _ (List.mem_append_right _ h)) hown hK hP (wk_l6 hL hc hi 6 (by decide) (by decide)) wk_c6 rfl 0 (by decide) q3 rfl rfl dX2_payForTick_44 ?_
    refine lv_iconst (v := 4) hx hb dX2_payForTick_47 (by decide) ?_
    refine wk_iald (j := 4) hx hb hK hP (wk_l6 hL hc hi 7 (by decide) (by decide)) wk_c7 (by decide) (by decide) dX2_payForTick_48 ?_
    refine lv_iadd hx hb dX2_payForTick_49 ?_
    obtain ⟨M2, eM2, h⟩ := wk_mu_e h
    refine wk_iast (j := 3) hx hb hK hP hI hS hA (wk_l6 hL hc hi 8 (by decide) (by decide)) wk_c8 (by decide) (by decide) (by rfl) dX2_payForTick_50 (fun H locs hP hS => ?_)
    rw [eM2] at hP
    refine lv_goto (tgt := 90) hx hb dX2_payForTick_51 (by decide) ?_
    exact RT _ _ _ _ _ h hP hS dX2_payForTick_90
  · have h := wk_n g1 h
    by_cases g3 : (M 6 ch ri 7) = 1
    · have h := wk_p g3 h
      refine lv_tableIn (off := 86) (tgt := 90) hx hb dX2_payForTick_4 (by rw [g3]; decide) (by rw [g3]; decide) (by rw [g3]; rfl) (by decide) ?_
      exact RT _ _ _ _ _ h hP hS dX2_payForTick_90
    · have h := wk_n g3 h
      by_cases g4 : (M 6 ch ri 7) = 2
      · have h := wk_p g4 h
        refine lv_tableIn (off := 50) (tgt := 54) hx hb dX2_payForTick_4 (by rw [g4]; decide) (by rw [g4]; decide) (by rw [g4]; rfl) (by decide) ?_
        refine lv_aload_n hx hb dX2_payForTick_54 rfl (lv_at hl 0 rfl) ?_
        refine wk_get (ref := "WokenRooms$Room") (C := RX2) (T := TX2) (N := 15) (ci := 2) (v := .ref (B 8 ch ri)) hx hb hts (fun _ h => List.mem_cons_of_mem _ (List.mem_append_right _ h)) hown hK hP (wk_l6 hL hc hi 6 (by decide) (by decide)) wk_c6 rfl 1 (by decide) q2 rfl rfl dX2_payForTick_55 ?_
        refine lv_iconst (v := 2) hx hb dX2_payForTick_58 (by decide) ?_
        refine lv_dup2_11 hx hb dX2_payForTick_59 rfl rfl ?_
        refine wk_iald (j := 2) hx hb hK hP (wk_l6 hL hc hi 8 (by decide) (by decide)) wk_c8 (by decide) (by decide) dX2_payForTick_60 ?_
        refine lv_aload_n hx hb dX2_payForTick_61 rfl (lv_at hl 0 rfl) ?_
        refine wk_get (ref := "WokenRooms$Room") (C := RX2) (T := TX2) (N := 15) (ci := 2) (v := .ref (B 7 ch ri)) hx hb hts (fun _ h => List.mem_cons_of_mem _ (List.mem_append_right _ h)) hown hK hP (wk_l6 hL hc hi 6 (by decide) (by decide)) wk_c6 rfl 0 (by decide) q3 rfl rfl dX2_payForTick_62 ?_
        refine lv_iconst (v := 3) hx hb dX2_payForTick_65 (by decide) ?_
        refine wk_iald (j := 3) hx hb hK hP (wk_l6 hL hc hi 7 (by decide) (by decide)) wk_c7 (by decide) (by decide) dX2_payForTick_66 ?_
        refine lv_iadd hx hb dX2_payForTick_67 ?_
        obtain ⟨M5, eM5, h⟩ := wk_mu_e h
        refine wk_iast (j := 2) hx hb hK hP hI hS hA (wk_l6 hL hc hi 8 (by decide) (by decide)) wk_c8 (by decide) (by decide) (by rfl) dX2_payForTick_68 (fun H locs hP hS => ?_)
        rw [eM5] at hP
        refine lv_goto (tgt := 90) hx hb dX2_payForTick_69 (by decide) ?_
        exact RT _ _ _ _ _ h hP hS dX2_payForTick_90
      · have h := wk_n g4 h
        by_cases g6 : (M 6 ch ri 7) = 3
        · have h := wk_p g6 h
          refine lv_tableIn (off := 68) (tgt := 72) hx hb dX2_payForTick_4 (by rw [g6]; decide) (by rw [g6]; decide) (by rw [g6]; rfl) (by decide) ?_
          refine lv_aload_n hx hb dX2_payForTick_72 rfl (lv_at hl 0 rfl) ?_
          refine wk_get (ref := "WokenRooms$Room") (C := RX2) (T := TX2) (N := 15) (ci := 2) (v := .ref (B 8 ch ri)) hx hb hts (fun _ h => List.mem_cons_of_mem _ (List.mem_append_right _ h)) hown hK hP (wk_l6 hL hc hi 6 (by decide) (by decide)) wk_c6 rfl 1 (by decide) q2 rfl rfl dX2_payForTick_73 ?_
          refine lv_iconst (v := 1) hx hb dX2_payForTick_76 (by decide) ?_
          refine lv_dup2_11 hx hb dX2_payForTick_77 rfl rfl ?_
          refine wk_iald (j := 1) hx hb hK hP (wk_l6 hL hc hi 8 (by decide) (by decide)) wk_c8 (by decide) (by decide) dX2_payForTick_78 ?_
          refine lv_aload_n hx hb dX2_payForTick_79 rfl (lv_at hl 0 rfl) ?_
          refine wk_get (ref := "WokenRooms$Room") (C := RX2) (T := TX2) (N := 15) (ci := 2) (v := .ref (B 7 ch ri)) hx hb hts (fun _ h => List.mem_cons_of_mem _ (List.mem_append_right _ h)) hown hK hP (wk_l6 hL hc hi 6 (by decide) (by decide)) wk_c6 rfl 0 (by decide) q3 rfl rfl dX2_payForTick_80 ?_
          refine lv_iconst (v := 2) hx hb dX2_payForTick_83 (by decide) ?_
          refine wk_iald (j := 2) hx hb hK hP (wk_l6 hL hc hi 7 (by decide) (by decide)) wk_c7 (by decide) (by decide) dX2_payForTick_84 ?_
          refine lv_iadd hx hb dX2_payForTick_85 ?_
          obtain ⟨M7, eM7, h⟩ := wk_mu_e h
          refine wk_iast (j := 1) hx hb hK hP hI hS hA (wk_l6 hL hc hi 8 (by decide) (by decide)) wk_c8 (by decide) (by decide) (by rfl) dX2_payForTick_86 (fun H locs hP hS => ?_)
          rw [eM7] at hP
          refine lv_goto (tgt := 90) hx hb dX2_payForTick_87 (by decide) ?_
          exact RT _ _ _ _ _ h hP hS dX2_payForTick_90
        · have h := wk_n g6 h
          refine lv_tableOut (tgt := 90) hx hb dX2_payForTick_4 (by have q0 := lv_neT g1 (a := 0) (by decide); have q1 := lv_neT g3 (a := 1) (by decide); have q2 := lv_neT g4 (a := 2) (by decide); have q3 := lv_neT g6 (a := 3) (by decide); omega) (by decide) ?_
          exact RT _ _ _ _ _ h hP hS dX2_payForTick_90
set_option maxRecDepth 100000 in
set_option maxHeartbeats 4000000 in
theorem m_X2_payForTick (l : Launch) {D : va_G} {y : Nat → ClassId} {B : Nat → Nat → Nat → Nat} {Lk : Nat → Nat → Nat → Prop} (hI : wk_I B Lk) (hL : wk_L Lk) {ch : Nat} {ri : Nat} (hc : ch < 7) (hi : ri < 8) {M : wk_T} {MM : wk_T} (hf : f_X2_payForTick ch ri M = some ((), MM)) : wk_Mv l yX2_payForTick wsX2_payForTick 0 0 D y B Lk [.ref (B 6 ch ri)] M MM :=
  wk_ofV (own := RX2) (bytes := cX2_payForTick) (maxL := 1) (by decide +kernel) rfl rfl (Nat.le_of_ble_eq_true rfl) hI hL (fun p e s m args below meth c ls CX RT hl hP hS => w_X2_payForTick_0 CX RT hc hi hf hl hP hS)
def f_X2_workOn (ch : Nat) (ri : Nat) (M : wk_T) : Option (Unit × wk_T) := wk_mu (wk_up M 6 ch ri 8 ((M 6 ch ri 8) - 1)) (fun M1 => (if 0 < (M1 6 ch ri 8) then (some ((), M1)) else wk_mu (wk_up M1 6 ch ri 7 2) (fun M3 => wk_mu (wk_up M3 6 ch ri 9 0) (fun M4 => (some ((), M4))))))
set_option maxRecDepth 20000 in
theorem q_X2_workOn {s : State} {args : Array Value} (hts : ∀ w ∈ wsX2_workOn, w.before args s = true) : (Cond.fieldLink RX2 37 "WokenRooms$Room" "left" "I").before args s = true ∧ (Cond.fieldLink RX2 34 "WokenRooms$Room" "state" "I").before args s = true ∧ (Cond.fieldLink RX2 40 "WokenRooms$Room" "idled" "I").before args s = true := ⟨hts _ (List.mem_of_getElem? (i := 1) rfl), hts _ (List.mem_of_getElem? (i := 2) rfl), hts _ (List.mem_of_getElem? (i := 3) rfl)⟩
set_option maxRecDepth 100000 in
set_option maxHeartbeats 4000000 in
theorem w_X2_workOn_0 {ch : Nat} {ri : Nat} (CX : wk_X p l e R s m args below meth c cells slots Q cX2_workOn 1 RX2 wsX2_workOn D y B Lk A 0 0) (RT : wk_Rv p l e R s m args below meth c cells slots Q cX2_workOn D y B Lk A MM) (hc : ch < 7) (hi : ri < 8) {M : wk_T} {H : Heap} {locs : List Loc} {ls : Array Slot} (h : f_X2_workOn ch ri M = some ((), MM)) (hl : lv_has ls 1 [(0, .ref (B 6 ch ri))]) (hP : wk_H D y B Lk M H) (hS : va_S A s.heap H locs) : W p l e R s m args below meth c H locs cells slots Q (F0 m 0 ls []) := by
  obtain ⟨⟨hx, hb, hml, hown, hts⟩, hK, hI, hL, hA, hfr, hlo, hcs⟩ := id CX
  obtain ⟨q1, q2, q3⟩ := q_X2_workOn hts
  unfold f_X2_workOn at h
  refine lv_aload_n hx hb dX2_workOn_0 rfl (lv_at hl 0 rfl) ?_
  refine lv_dup hx hb dX2_workOn_1 rfl ?_
  refine wk_get (ref := "WokenRooms$Room") (C := RX2) (T := TX2) (N := 15) (ci := 2) (v := .int (M 6 ch ri 8)) hx hb hts (fun _ h => List.mem_cons_of_mem _ (List.mem_append_right _ h)) hown hK hP (wk_l6 hL hc hi 6 (by decide) (by decide)) wk_c6 rfl 8 (by decide) q1 rfl rfl dX2_workOn_2 ?_
  refine lv_iconst (v := 1) hx hb dX2_workOn_5 (by decide) ?_
  refine lv_isub hx hb dX2_workOn_6 ?_
  obtain ⟨M1, eM1, h⟩ := wk_mu_e h
  refine wk_put (ref := "WokenRooms$Room") (C := RX2) (T := TX2) (N := 15) (ci := 2) hx hb hts (fun _ h => List.mem_cons_of_mem _ (List.mem_append_right _ h)) tyX2 tyX2_ok nmX2 hown hK hP hI hS hA (wk_l6 hL hc hi 6 (by decide) (by decide)) wk_c6 rfl 8 (by decide) q1 rfl rfl (by decide +kernel) (Nat.le_of_ble_eq_true rfl) (by rfl) dX2_workOn_7 (fun H locs hP hS => ?_)
  rw [eM1] at hP
  refine lv_aload_n hx hb dX2_workOn_10 rfl (lv_at hl 0 rfl) ?_
  refine wk_get (ref := "WokenRooms$Room") (C := RX2) (T := TX2) (N := 15) (ci := 2) (v := .int (M1 6 ch ri 8)) hx hb hts (fun _ h => List.mem_cons_of_mem _ (List.mem_append_right _ h)) hown hK hP (wk_l6 hL hc hi 6 (by decide) (by decide)) wk_c6 rfl 8 (by decide) q1 rfl rfl dX2_workOn_11 ?_
  refine lv_if_gt (tgt := 27) hx hb dX2_workOn_14 (by decide) (fun g2 => ?_) (fun g2 => ?_)
  · have h := wk_p g2 h
    exact RT _ _ _ _ _ h hP hS dX2_workOn_27
  · have h := wk_n g2 h
    refine lv_aload_n hx hb dX2_workOn_17 rfl (lv_at hl 0 rfl) ?_
    refine lv_iconst (v := 2) hx hb dX2_workOn_18 (by decide) ?_
    obtain ⟨M3, eM3, h⟩ := wk_mu_e h
    refine wk_put (ref := "WokenRooms$Room") (C := RX2) (T := TX2) (N := 15) (ci := 2) hx hb hts (fun _ h => List.mem_cons_of_mem _ (List.mem_append_right _ h)) tyX2 tyX2_ok nmX2 hown hK hP hI hS hA (wk_l6 hL hc hi 6 (by decide) (by decide)) wk_c6 rfl 7 (by decide) q2 rfl rfl (by decide +kernel) (Nat.le_of_ble_eq_true rfl) (by rfl) dX2_workOn_19 (fun H locs hP hS => ?_)
    rw [eM3] at hP
    refine lv_aload_n hx hb dX2_workOn_22 rfl (lv_at hl 0 rfl) ?_
    refine lv_iconst (v := 0) hx hb dX2_workOn_23 (by decide) ?_
    obtain ⟨M4, eM4, h⟩ := wk_mu_e h
    refine wk_put (ref := "WokenRooms$Room") (C := RX2) (T := TX2) (N := 15) (ci := 2) hx hb hts (fun _ h => List.mem_cons_of_mem _ (List.mem_append_right _ h)) tyX2 tyX2_ok nmX2 hown hK hP hI hS hA (wk_l6 hL hc hi 6 (by decide) (by decide)) wk_c6 rfl 9 (by decide) q3 rfl rfl (by decide +kernel) (Nat.le_of_ble_eq_true rfl) (by rfl) dX2_workOn_24 (fun H locs hP hS => ?_)
    rw [eM4] at hP
    exact RT _ _ _ _ _ h hP hS dX2_workOn_27
set_option maxRecDepth 100000 in
set_option maxHeartbeats 4000000 in
theorem m_X2_workOn (l : Launch) {D : va_G} {y : Nat → ClassId} {B : Nat → Nat → Nat → Nat} {Lk : Nat → Nat → Nat → Prop} (hI : wk_I B Lk) (hL : wk_L Lk) {ch : Nat} {ri : Nat} (hc : ch < 7) (hi : ri < 8) {M : wk_T} {MM : wk_T} (hf : f_X2_workOn ch ri M = some ((), MM)) : wk_Mv l yX2_workOn wsX2_workOn 0 0 D y B Lk [.ref (B 6 ch ri)] M MM :=
  wk_ofV (own := RX2) (bytes := cX2_workOn) (maxL := 1) (by decide +kernel) rfl rfl (Nat.le_of_ble_eq_true rfl) hI hL (fun p e s m args below meth c ls CX RT hl hP hS => w_X2_workOn_0 CX RT hc hi hf hl hP hS)
def f_X2_isTimedOut (ch : Nat) (ri : Nat) (M : wk_T) : Option (Int32 × wk_T) := (if (M 6 ch ri 5) ≤ 0 then (some (0, M)) else (if (M 6 ch ri 9) < (M 6 ch ri 5) then (some (0, M)) else (some (1, M))))
set_option maxRecDepth 20000 in
theorem q_X2_isTimedOut {s : State} {args : Array Value} (hts : ∀ w ∈ wsX2_isTimedOut, w.before args s = true) : (Cond.fieldLink RX2 28 "WokenRooms$Room" "timeOut" "I").before args s = true ∧ (Cond.fieldLink RX2 40 "WokenRooms$Room" "idled" "I").before args s = true := ⟨hts _ (List.mem_of_getElem? (i := 1) rfl), hts _ (List.mem_of_getElem? (i := 2) rfl)⟩
set_option maxRecDepth 100000 in
set_option maxHeartbeats 4000000 in
theorem w_X2_isTimedOut_0 {ch : Nat} {ri : Nat} {r0 : Int32} (CX : wk_X p l e R s m args below meth c cells slots Q cX2_isTimedOut 1 RX2 wsX2_isTimedOut D y B Lk A 0 0) (RT : wk_Rz p l e R s m args below meth c cells slots Q cX2_isTimedOut D y B Lk A r0 MM) (hc : ch < 7) (hi : ri < 8) {M : wk_T} {H : Heap} {locs : List Loc} {ls : Array Slot} (h : f_X2_isTimedOut ch ri M = some (r0, MM)) (hl : lv_has ls 1 [(0, .ref (B 6 ch ri))]) (hP : wk_H D y B Lk M H) (hS : va_S A s.heap H locs) : W p l e R s m args below meth c H locs cells slots Q (F0 m 0 ls []) := by
  obtain ⟨⟨hx, hb, hml, hown, hts⟩, hK, hI, hL, hA, hfr, hlo, hcs⟩ := id CX
  obtain ⟨q1, q2⟩ := q_X2_isTimedOut hts
  unfold f_X2_isTimedOut at h
  refine lv_aload_n hx hb dX2_isTimedOut_0 rfl (lv_at hl 0 rfl) ?_
  refine wk_get (ref := "WokenRooms$Room") (C := RX2) (T := TX2) (N := 15) (ci := 2) (v := .int (M 6 ch ri 5)) hx hb hts (fun _ h => List.mem_cons_of_mem _ (List.mem_append_right _ h)) hown hK hP (wk_l6 hL hc hi 6 (by decide) (by decide)) wk_c6 rfl 5 (by decide) q1 rfl rfl dX2_isTimedOut_1 ?_
  refine lv_if_le (tgt := 22) hx hb dX2_isTimedOut_4 (by decide) (fun g1 => ?_) (fun g1 => ?_)
  · have h := wk_p g1 h
    refine lv_iconst (v := 0) hx hb dX2_isTimedOut_22 (by decide) ?_
    exact RT _ _ _ _ _ _ (Or.inl rfl) h hP hS dX2_isTimedOut_23
  · have h := wk_n g1 h
    refine lv_aload_n hx hb dX2_isTimedOut_7 rfl (lv_at hl 0 rfl) ?_
    refine wk_get (ref := "WokenRooms$Room") (C := RX2) (T := TX2) (N := 15) (ci := 2) (v := .int (M 6 ch ri 9)) hx hb hts (fun _ h => List.mem_cons_of_mem _ (List.mem_append_right _ h)) hown hK hP (wk_l6 hL hc hi 6 (by decide) (by decide)) wk_c6 rfl 9 (by decide) q2 rfl rfl dX2_isTimedOut_8 ?_
    refine lv_aload_n hx hb dX2_isTimedOut_11 rfl (lv_at hl 0 rfl) ?_
    refine wk_get (ref := "WokenRooms$Room") (C := RX2) (T := TX2) (N := 15) (ci := 2) (v := .int (M 6 ch ri 5)) hx hb hts (fun _ h => List.mem_cons_of_mem _ (List.mem_append_right _ h)) hown hK hP (wk_l6 hL hc hi 6 (by decide) (by decide)) wk_c6 rfl 5 (by decide) q1 rfl rfl dX2_isTimedOut_12 ?_
    refine lv_icmp_lt (tgt := 22) hx hb dX2_isTimedOut_15 (by decide) (fun g2 => ?_) (fun g2 => ?_)
    · have h := wk_p g2 h
      refine lv_iconst (v := 0) hx hb dX2_isTimedOut_22 (by decide) ?_
      exact RT _ _ _ _ _ _ (Or.inl rfl) h hP hS dX2_isTimedOut_23
    · have h := wk_n g2 h
      refine lv_iconst (v := 1) hx hb dX2_isTimedOut_18 (by decide) ?_
      refine lv_goto (tgt := 23) hx hb dX2_isTimedOut_19 (by decide) ?_
      exact RT _ _ _ _ _ _ (Or.inr rfl) h hP hS dX2_isTimedOut_23
set_option maxRecDepth 100000 in
set_option maxHeartbeats 4000000 in
theorem m_X2_isTimedOut (l : Launch) {D : va_G} {y : Nat → ClassId} {B : Nat → Nat → Nat → Nat} {Lk : Nat → Nat → Nat → Prop} (hI : wk_I B Lk) (hL : wk_L Lk) {ch : Nat} {ri : Nat} (hc : ch < 7) (hi : ri < 8) {M : wk_T} {r0 : Int32} {MM : wk_T} (hf : f_X2_isTimedOut ch ri M = some (r0, MM)) : wk_Mi l yX2_isTimedOut wsX2_isTimedOut 0 0 D y B Lk [.ref (B 6 ch ri)] M r0 MM :=
  wk_ofI (own := RX2) (bytes := cX2_isTimedOut) (maxL := 1) (ret := some .boolean) (by decide +kernel) rfl rfl (Or.inr rfl) (Nat.le_of_ble_eq_true rfl) hI hL (fun p e s m args below meth c ls CX RTi RTz hl hP hS => w_X2_isTimedOut_0 CX (RTz rfl) hc hi hf hl hP hS)
end WP11
end
