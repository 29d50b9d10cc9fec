section
-- ===== PART A: goes FIRST, ahead of the names: the tables' words, and 'selects' of the private methods out of them =====
/-- a private method of a class that the tables say can be made, by its rows of tables_1 -/
def lw_okq (q : MethodName × Nat) : Prop := (q.1.cls ≠ "java/lang/invoke/MethodHandle" ∧ q.1.cls ≠ "java/lang/invoke/VarHandle") ∧ Cond.instantiable q.1.cls q.2 ∈ tables_1 ∧ Cond.privateMethod q.1 ∈ tables_1 ∧ Cond.instanceMethod q.1 ∈ tables_1
theorem lw_p0 : lw_okq (⟨"WinderLadders", "keptIfDone", "(I)I"⟩, 7) := ⟨⟨by decide +kernel, by decide +kernel⟩, List.mem_of_getElem? (i := 10) (by decide +kernel), List.mem_of_getElem? (i := 255) (by decide +kernel), List.mem_of_getElem? (i := 256) (by decide +kernel)⟩
theorem lw_p1 : lw_okq (⟨"WinderLadders$History", "dropOldest", "()V"⟩, 2) := ⟨⟨by decide +kernel, by decide +kernel⟩, List.mem_of_getElem? (i := 105) (by decide +kernel), List.mem_of_getElem? (i := 263) (by decide +kernel), List.mem_of_getElem? (i := 264) (by decide +kernel)⟩
theorem lw_p2 : lw_okq (⟨"WinderLadders", "chooseRow", "(I)I"⟩, 7) := ⟨⟨by decide +kernel, by decide +kernel⟩, List.mem_of_getElem? (i := 10) (by decide +kernel), List.mem_of_getElem? (i := 314) (by decide +kernel), List.mem_of_getElem? (i := 315) (by decide +kernel)⟩
def lw_privs_1 : List (MethodName × Nat) := [(⟨"WinderLadders", "keptIfDone", "(I)I"⟩, 7), (⟨"WinderLadders$History", "dropOldest", "()V"⟩, 2), (⟨"WinderLadders", "chooseRow", "(I)I"⟩, 7)]
theorem lw_r1 : ∀ q ∈ lw_privs_1, lw_okq q := List.forall_mem_cons.mpr ⟨lw_p0, List.forall_mem_cons.mpr ⟨lw_p1, List.forall_mem_cons.mpr ⟨lw_p2, fun _ h => absurd h List.not_mem_nil⟩⟩⟩
def lw_privs : List (MethodName × Nat) := lw_privs_1
def lw_tbl : List Cond := k2_sels lw_privs ++ tables_1
theorem lw_privs_ok : ∀ q ∈ lw_privs, lw_okq q := lw_r1
-- ===== end of PART A; then your names; then what follows =====
end
section
/-! ===== BEGIN words of one list among another's, by their places ===== -/
theorem goodIn_r {big : List Cond} (ws : List Cond) (ps : List Nat) (hp : ws = ps.filterMap (fun i => big[i]?)) (h : ws.all goodWord = true) : GoodIn big ws := by
  intro w hw
  have h1 := List.all_eq_true.mp h w hw
  rw [hp] at hw
  obtain ⟨i, -, hi⟩ := List.mem_filterMap.mp hw
  have hm : w ∈ big := by first | exact List.mem_of_getElem? hi | exact List.getElem?_mem hi
  exact ⟨hm, good_of_word h1⟩
theorem goodIn_app {big a b : List Cond} (ha : GoodIn big a) (hb : GoodIn big b) : GoodIn big (a ++ b) := fun w h => (List.mem_append.mp h).elim (ha w) (hb w)
theorem goodIn_ca {big a b : List Cond} {c : Cond} (ha : GoodIn big (c :: a)) (hb : GoodIn big b) : GoodIn big (c :: (a ++ b)) := fun w h => (List.mem_cons.mp h).elim (fun e => ha w (List.mem_cons.mpr (Or.inl e))) (fun h => (List.mem_append.mp h).elim (fun h => ha w (List.mem_cons.mpr (Or.inr h))) (hb w))
theorem goodIn_sub {big ws : List Cond} (hm : ∀ w ∈ ws, w ∈ big) (h : ws.all goodWord = true) : GoodIn big ws := fun w hw => ⟨hm w hw, good_of_word (List.all_eq_true.mp h w hw)⟩
/-! ===== END ===== -/

/-! ===== BEGIN printed: names, fields, word lists, decode rows ===== -/
def RX0 : String := "WinderLadders$Clock"
def TX0 : u_T := fun k => match k with
  | 0 => ("WinderLadders$Clock", "house", "I", false)
  | 1 => ("WinderLadders$Clock", "rungs", "I", false)
  | 2 => ("WinderLadders$Clock", "drift", "I", false)
  | 3 => ("WinderLadders$Clock", "screw", "I", false)
  | 4 => ("WinderLadders$Clock", "off", "I", false)
  | 5 => ("WinderLadders$Clock", "daysSinceWound", "I", false)
  | 6 => ("WinderLadders$Clock", "timesWound", "I", false)
  | _ => ("WinderLadders$Clock", "goes", "Z", false)
def tyX0 : Nat → FieldType := fun k => match k with
  | 0 => .int
  | 1 => .int
  | 2 => .int
  | 3 => .int
  | 4 => .int
  | 5 => .int
  | 6 => .int
  | _ => .boolean
abbrev wsX00 : List Cond := u_ws RX0 TX0 8
theorem nmX0 : ∀ a, a < 8 → ∀ b, b < 8 → a ≠ b → (TX0 a).2.1 ≠ (TX0 b).2.1 := by decide +kernel
theorem tyX0_ok : ∀ k, k < 8 → parseFieldDescriptor (TX0 k).2.2.1 = some (tyX0 k) := by decide +kernel
abbrev cX0_init : ByteArray := prog_2_method_1_code
def yX0_init : MethodName := ⟨RX0, "<init>", "()V"⟩
abbrev cX0_copyFrom : ByteArray := prog_2_method_2_code
def yX0_copyFrom : MethodName := ⟨RX0, "copyFrom", "(LWinderLadders$Clock;)V"⟩
abbrev cX0_begin : ByteArray := prog_2_method_3_code
def yX0_begin : MethodName := ⟨RX0, "begin", "(III)V"⟩
abbrev cX0_driftWithScrew : ByteArray := prog_2_method_4_code
def yX0_driftWithScrew : MethodName := ⟨RX0, "driftWithScrew", "()I"⟩
abbrev cX0_isOffBeyond : ByteArray := prog_2_method_5_code
def yX0_isOffBeyond : MethodName := ⟨RX0, "isOffBeyond", "(I)Z"⟩
abbrev cX0_passDay : ByteArray := prog_2_method_6_code
def yX0_passDay : MethodName := ⟨RX0, "passDay", "(I)V"⟩
abbrev cX0_windAndSet : ByteArray := prog_2_method_7_code
def yX0_windAndSet : MethodName := ⟨RX0, "windAndSet", "(I)V"⟩
abbrev cX0_turnByRule : ByteArray := prog_2_method_8_code
def yX0_turnByRule : MethodName := ⟨RX0, "turnByRule", "()V"⟩
abbrev cX0_daysUntilOff : ByteArray := prog_2_method_9_code
def yX0_daysUntilOff : MethodName := ⟨RX0, "daysUntilOff", "(II)I"⟩
def RX1 : String := "WinderLadders$History"
def TX1 : u_T := fun k => match k with
  | 0 => ("WinderLadders$History", "states", "[LWinderLadders$State;", true)
  | _ => ("WinderLadders$History", "depth", "I", false)
def tyX1 : Nat → FieldType := fun k => match k with
  | 0 => .array (.object "WinderLadders$State")
  | _ => .int
abbrev wsX10 : List Cond := u_ws RX1 TX1 2
theorem nmX1 : ∀ a, a < 2 → ∀ b, b < 2 → a ≠ b → (TX1 a).2.1 ≠ (TX1 b).2.1 := by decide +kernel
theorem tyX1_ok : ∀ k, k < 2 → parseFieldDescriptor (TX1 k).2.2.1 = some (tyX1 k) := by decide +kernel
abbrev cX1_init : ByteArray := prog_3_method_1_code
def yX1_init : MethodName := ⟨RX1, "<init>", "()V"⟩
abbrev cX1_prepare : ByteArray := prog_3_method_2_code
def yX1_prepare : MethodName := ⟨RX1, "prepare", "(LWinderLadders$State;)V"⟩
abbrev cX1_keepPrepared : ByteArray := prog_3_method_3_code
def yX1_keepPrepared : MethodName := ⟨RX1, "keepPrepared", "()V"⟩
abbrev cX1_dropOldest : ByteArray := prog_3_method_4_code
def yX1_dropOldest : MethodName := ⟨RX1, "dropOldest", "()V"⟩
abbrev cX1_takeBack : ByteArray := prog_3_method_5_code
def yX1_takeBack : MethodName := ⟨RX1, "takeBack", "(LWinderLadders$State;)Z"⟩
def RX2 : String := "WinderLadders$Pad"
def TX2 : u_T := fun k => match k with
  | 0 => ("WinderLadders$Pad", "signs", "[C", true)
  | 1 => ("WinderLadders$Pad", "numbers", "LWinderLadders$Row;", true)
  | 2 => ("WinderLadders$Pad", "length", "I", false)
  | 3 => ("WinderLadders$Pad", "place", "I", false)
  | _ => ("WinderLadders$Pad", "kind", "I", false)
def tyX2 : Nat → FieldType := fun k => match k with
  | 0 => .array .char
  | 1 => .object "WinderLadders$Row"
  | 2 => .int
  | 3 => .int
  | _ => .int
abbrev wsX20 : List Cond := u_ws RX2 TX2 5
theorem nmX2 : ∀ a, a < 5 → ∀ b, b < 5 → a ≠ b → (TX2 a).2.1 ≠ (TX2 b).2.1 := by decide +kernel
theorem tyX2_ok : ∀ k, k < 5 → parseFieldDescriptor (TX2 k).2.2.1 = some (tyX2 k) := by decide +kernel
abbrev cX2_init : ByteArray := prog_4_method_1_code
def yX2_init : MethodName := ⟨RX2, "<init>", "()V"⟩
def RX3 : String := "WinderLadders$Row"
def TX3 : u_T := fun k => match k with
  | 0 => ("WinderLadders$Row", "numbers", "[I", true)
  | _ => ("WinderLadders$Row", "length", "I", false)
def tyX3 : Nat → FieldType := fun k => match k with
  | 0 => .array .int
  | _ => .int
abbrev wsX30 : List Cond := u_ws RX3 TX3 2
theorem nmX3 : ∀ a, a < 2 → ∀ b, b < 2 → a ≠ b → (TX3 a).2.1 ≠ (TX3 b).2.1 := by decide +kernel
theorem tyX3_ok : ∀ k, k < 2 → parseFieldDescriptor (TX3 k).2.2.1 = some (tyX3 k) := by decide +kernel
abbrev cX3_init : ByteArray := prog_5_method_1_code
def yX3_init : MethodName := ⟨RX3, "<init>", "()V"⟩
abbrev cX3_clear : ByteArray := prog_5_method_2_code
def yX3_clear : MethodName := ⟨RX3, "clear", "()V"⟩
abbrev cX3_add : ByteArray := prog_5_method_3_code
def yX3_add : MethodName := ⟨RX3, "add", "(I)Z"⟩
abbrev cX3_at : ByteArray := prog_5_method_4_code
def yX3_at : MethodName := ⟨RX3, "at", "(I)I"⟩
abbrev cX3_turnRound : ByteArray := prog_5_method_5_code
def yX3_turnRound : MethodName := ⟨RX3, "turnRound", "()V"⟩
def RX4 : String := "WinderLadders$State"
def TX4 : u_T := fun k => match k with
  | 0 => ("WinderLadders$State", "settings", "[I", true)
  | 1 => ("WinderLadders$State", "clocks", "[LWinderLadders$Clock;", true)
  | 2 => ("WinderLadders$State", "ladders", "[I", true)
  | 3 => ("WinderLadders$State", "clockCount", "I", false)
  | 4 => ("WinderLadders$State", "ladderCount", "I", false)
  | 5 => ("WinderLadders$State", "days", "I", false)
  | _ => ("WinderLadders$State", "minutes", "I", false)
def tyX4 : Nat → FieldType := fun k => match k with
  | 0 => .array .int
  | 1 => .array (.object "WinderLadders$Clock")
  | 2 => .array .int
  | 3 => .int
  | 4 => .int
  | 5 => .int
  | _ => .int
abbrev wsX40 : List Cond := u_ws RX4 TX4 7
theorem nmX4 : ∀ a, a < 7 → ∀ b, b < 7 → a ≠ b → (TX4 a).2.1 ≠ (TX4 b).2.1 := by decide +kernel
theorem tyX4_ok : ∀ k, k < 7 → parseFieldDescriptor (TX4 k).2.2.1 = some (tyX4 k) := by decide +kernel
abbrev cX4_init : ByteArray := prog_6_method_1_code
def yX4_init : MethodName := ⟨RX4, "<init>", "()V"⟩
abbrev cX4_copyFrom : ByteArray := prog_6_method_2_code
def yX4_copyFrom : MethodName := ⟨RX4, "copyFrom", "(LWinderLadders$State;)V"⟩
abbrev cX4_hasClock : ByteArray := prog_6_method_3_code
def yX4_hasClock : MethodName := ⟨RX4, "hasClock", "(I)Z"⟩
abbrev cX4_hasLadder : ByteArray := prog_6_method_4_code
def yX4_hasLadder : MethodName := ⟨RX4, "hasLadder", "(I)Z"⟩
abbrev cX4_replaceSetting : ByteArray := prog_6_method_5_code
def yX4_replaceSetting : MethodName := ⟨RX4, "replaceSetting", "(II)I"⟩
abbrev cX4_addClock : ByteArray := prog_6_method_6_code
def yX4_addClock : MethodName := ⟨RX4, "addClock", "(III)I"⟩
abbrev cX4_addLadder : ByteArray := prog_6_method_7_code
def yX4_addLadder : MethodName := ⟨RX4, "addLadder", "(I)I"⟩
abbrev cX4_turnScrew : ByteArray := prog_6_method_8_code
def yX4_turnScrew : MethodName := ⟨RX4, "turnScrew", "(II)I"⟩
abbrev cX4_passDays : ByteArray := prog_6_method_9_code
def yX4_passDays : MethodName := ⟨RX4, "passDays", "(I)I"⟩
abbrev cX4_changeClocks : ByteArray := prog_6_method_10_code
def yX4_changeClocks : MethodName := ⟨RX4, "changeClocks", "(I)I"⟩
abbrev cX4_walkBeat : ByteArray := prog_6_method_11_code
def yX4_walkBeat : MethodName := ⟨RX4, "walkBeat", "(LWinderLadders$Row;)I"⟩
abbrev cX4_minutesOf : ByteArray := prog_6_method_12_code
def yX4_minutesOf : MethodName := ⟨RX4, "minutesOf", "(LWinderLadders$Row;)I"⟩
abbrev cX4_ladderNeeded : ByteArray := prog_6_method_13_code
def yX4_ladderNeeded : MethodName := ⟨RX4, "ladderNeeded", "(LWinderLadders$Clock;)I"⟩
abbrev cX4_canBeWound : ByteArray := prog_6_method_14_code
def yX4_canBeWound : MethodName := ⟨RX4, "canBeWound", "(LWinderLadders$Clock;)Z"⟩
abbrev cX4_numberThatGo : ByteArray := prog_6_method_15_code
def yX4_numberThatGo : MethodName := ⟨RX4, "numberThatGo", "()I"⟩
abbrev cX4_setOfStill : ByteArray := prog_6_method_16_code
def yX4_setOfStill : MethodName := ⟨RX4, "setOfStill", "()I"⟩
abbrev cX4_numberOffBeyondTold : ByteArray := prog_6_method_17_code
def yX4_numberOffBeyondTold : MethodName := ⟨RX4, "numberOffBeyondTold", "()I"⟩
abbrev cX4_numberThatCannotBeWound : ByteArray := prog_6_method_18_code
def yX4_numberThatCannotBeWound : MethodName := ⟨RX4, "numberThatCannotBeWound", "()I"⟩
abbrev cX4_timesWoundInAll : ByteArray := prog_6_method_19_code
def yX4_timesWoundInAll : MethodName := ⟨RX4, "timesWoundInAll", "()I"⟩
abbrev cX4_rungsOutOfReach : ByteArray := prog_6_method_20_code
def yX4_rungsOutOfReach : MethodName := ⟨RX4, "rungsOutOfReach", "()I"⟩
abbrev cX4_daysUntilOff : ByteArray := prog_6_method_21_code
def yX4_daysUntilOff : MethodName := ⟨RX4, "daysUntilOff", "(I)I"⟩
abbrev cX4_tellDaysUntilOff : ByteArray := prog_6_method_22_code
def yX4_tellDaysUntilOff : MethodName := ⟨RX4, "tellDaysUntilOff", "([I)V"⟩
abbrev cX4_rankOf : ByteArray := prog_6_method_23_code
def yX4_rankOf : MethodName := ⟨RX4, "rankOf", "(I[I)I"⟩
def RX5 : String := "WinderLadders"
def TX5 : u_T := fun k => match k with
  | 0 => ("WinderLadders", "now", "LWinderLadders$State;", true)
  | 1 => ("WinderLadders", "history", "LWinderLadders$History;", true)
  | 2 => ("WinderLadders", "slots", "[LWinderLadders$State;", true)
  | 3 => ("WinderLadders", "slotHolds", "[Z", true)
  | 4 => ("WinderLadders", "pad", "LWinderLadders$Pad;", true)
  | 5 => ("WinderLadders", "row", "LWinderLadders$Row;", true)
  | _ => ("WinderLadders", "lasting", "[I", true)
def tyX5 : Nat → FieldType := fun k => match k with
  | 0 => .object "WinderLadders$State"
  | 1 => .object "WinderLadders$History"
  | 2 => .array (.object "WinderLadders$State")
  | 3 => .array .boolean
  | 4 => .object "WinderLadders$Pad"
  | 5 => .object "WinderLadders$Row"
  | _ => .array .int
abbrev wsX50 : List Cond := u_ws RX5 TX5 7
theorem nmX5 : ∀ a, a < 7 → ∀ b, b < 7 → a ≠ b → (TX5 a).2.1 ≠ (TX5 b).2.1 := by decide +kernel
theorem tyX5_ok : ∀ k, k < 7 → parseFieldDescriptor (TX5 k).2.2.1 = some (tyX5 k) := by decide +kernel
abbrev cX5_init : ByteArray := prog_1_method_1_code
def yX5_init : MethodName := ⟨RX5, "<init>", "()V"⟩
abbrev cX5_set : ByteArray := prog_1_method_2_code
def yX5_set : MethodName := ⟨RX5, "set", "(II)I"⟩
abbrev cX5_hang : ByteArray := prog_1_method_3_code
def yX5_hang : MethodName := ⟨RX5, "hang", "(III)I"⟩
abbrev cX5_ladder : ByteArray := prog_1_method_4_code
def yX5_ladder : MethodName := ⟨RX5, "ladder", "(I)I"⟩
abbrev cX5_screw : ByteArray := prog_1_method_5_code
def yX5_screw : MethodName := ⟨RX5, "screw", "(II)I"⟩
abbrev cX5_round : ByteArray := prog_1_method_6_code
def yX5_round : MethodName := ⟨RX5, "round", "(I)I"⟩
abbrev cX5_pass : ByteArray := prog_1_method_7_code
def yX5_pass : MethodName := ⟨RX5, "pass", "(I)I"⟩
abbrev cX5_change : ByteArray := prog_1_method_8_code
def yX5_change : MethodName := ⟨RX5, "change", "(I)I"⟩
abbrev cX5_of : ByteArray := prog_1_method_9_code
def yX5_of : MethodName := ⟨RX5, "of", "(II)I"⟩
abbrev cX5_ofLadder : ByteArray := prog_1_method_10_code
def yX5_ofLadder : MethodName := ⟨RX5, "ofLadder", "(I)I"⟩
abbrev cX5_count : ByteArray := prog_1_method_11_code
def yX5_count : MethodName := ⟨RX5, "count", "(I)I"⟩
abbrev cX5_takes : ByteArray := prog_1_method_12_code
def yX5_takes : MethodName := ⟨RX5, "takes", "(I)I"⟩
abbrev cX5_lasts : ByteArray := prog_1_method_13_code
def yX5_lasts : MethodName := ⟨RX5, "lasts", "(I)I"⟩
abbrev cX5_needs : ByteArray := prog_1_method_14_code
def yX5_needs : MethodName := ⟨RX5, "needs", "(I)I"⟩
abbrev cX5_ladderFor : ByteArray := prog_1_method_15_code
def yX5_ladderFor : MethodName := ⟨RX5, "ladderFor", "()I"⟩
abbrev cX5_wayRound : ByteArray := prog_1_method_16_code
def yX5_wayRound : MethodName := ⟨RX5, "wayRound", "(I)I"⟩
abbrev cX5_undo : ByteArray := prog_1_method_21_code
def yX5_undo : MethodName := ⟨RX5, "undo", "()I"⟩
abbrev cX5_keptIfDone : ByteArray := prog_1_method_24_code
def yX5_keptIfDone : MethodName := ⟨RX5, "keptIfDone", "(I)I"⟩
abbrev cX5_chooseRow : ByteArray := prog_1_method_25_code
def yX5_chooseRow : MethodName := ⟨RX5, "chooseRow", "(I)I"⟩
abbrev cX5_isWithin : ByteArray := prog_1_method_30_code
def yX5_isWithin : MethodName := ⟨RX5, "isWithin", "(III)Z"⟩
def RX6 : String := "WinderLaddersModel"
def TX6 : u_T := fun k => match k with
  | _ => ("", "", "", false)
def tyX6 : Nat → FieldType := fun k => match k with
  | _ => .int
abbrev wsX60 : List Cond := u_ws RX6 TX6 0
theorem nmX6 : ∀ a, a < 0 → ∀ b, b < 0 → a ≠ b → (TX6 a).2.1 ≠ (TX6 b).2.1 := by decide +kernel
theorem tyX6_ok : ∀ k, k < 0 → parseFieldDescriptor (TX6 k).2.2.1 = some (tyX6 k) := by decide +kernel
def RJ9 : String := "java/lang/Math"
def TJ9 : u_T := fun k => match k with
  | _ => ("", "", "", false)
def tyJ9 : Nat → FieldType := fun k => match k with
  | _ => .int
abbrev wsJ90 : List Cond := u_ws RJ9 TJ9 0
theorem nmJ9 : ∀ a, a < 0 → ∀ b, b < 0 → a ≠ b → (TJ9 a).2.1 ≠ (TJ9 b).2.1 := by decide +kernel
theorem tyJ9_ok : ∀ k, k < 0 → parseFieldDescriptor (TJ9 k).2.2.1 = some (tyJ9 k) := by decide +kernel
abbrev cJ9_abs_0f7a4 : ByteArray := prog_9_method_59_code
def yJ9_abs_0f7a4 : MethodName := ⟨RJ9, "abs", "(I)I"⟩
abbrev cJ9_max_7cf53 : ByteArray := prog_9_method_65_code
def yJ9_max_7cf53 : MethodName := ⟨RJ9, "max", "(II)I"⟩
def RJ10 : String := "java/lang/System"
def TJ10 : u_T := fun k => match k with
  | _ => ("", "", "", false)
def tyJ10 : Nat → FieldType := fun k => match k with
  | _ => .int
abbrev wsJ100 : List Cond := u_ws RJ10 TJ10 0
theorem nmJ10 : ∀ a, a < 0 → ∀ b, b < 0 → a ≠ b → (TJ10 a).2.1 ≠ (TJ10 b).2.1 := by decide +kernel
theorem tyJ10_ok : ∀ k, k < 0 → parseFieldDescriptor (TJ10 k).2.2.1 = some (tyJ10 k) := by decide +kernel
def RL : String := "WinderLaddersLaw"
abbrev cL_cell : ByteArray := method_2_code
def yL_cell : MethodName := ⟨RL, "cell", "([II)I"⟩
abbrev cL_low : ByteArray := method_3_code
def yL_low : MethodName := ⟨RL, "low", "(II)I"⟩
abbrev cL_does : ByteArray := method_4_code
def yL_does : MethodName := ⟨RL, "does", "(LWinderLadders;I)I"⟩
abbrev cL_off : ByteArray := method_5_code
def yL_off : MethodName := ⟨RL, "off", "(LWinderLadders;I)I"⟩
abbrev cL_areClocksSo : ByteArray := method_6_code
def yL_areClocksSo : MethodName := ⟨RL, "areClocksSo", "(LWinderLadders;)Z"⟩
abbrev cL_areNeedsSo : ByteArray := method_7_code
def yL_areNeedsSo : MethodName := ⟨RL, "areNeedsSo", "(LWinderLadders;)Z"⟩
abbrev cL_isLastSo : ByteArray := method_8_code
def yL_isLastSo : MethodName := ⟨RL, "isLastSo", "(LWinderLadders;I)Z"⟩
abbrev cL_isRoundSo : ByteArray := method_9_code
def yL_isRoundSo : MethodName := ⟨RL, "isRoundSo", "(LWinderLadders;I)Z"⟩
abbrev cL_law : ByteArray := code
def yL_law : MethodName := ⟨RL, "law", "([I)Z"⟩
def wsX0_init : List Cond := .code yX0_init cX0_init 1 none :: ([.methodLink RX0 3 objectInit, .instanceMethod objectInit, .code objectInit ⟨#[0xb1]⟩ 1 none])
def wsX0_copyFrom : List Cond := .code yX0_copyFrom cX0_copyFrom 2 none :: ([.fieldLink RX0 9 "WinderLadders$Clock" "house" "I", .fieldLink RX0 15 "WinderLadders$Clock" "rungs" "I", .fieldLink RX0 18 "WinderLadders$Clock" "drift" "I", .fieldLink RX0 21 "WinderLadders$Clock" "screw" "I", .fieldLink RX0 24 "WinderLadders$Clock" "off" "I", .fieldLink RX0 27 "WinderLadders$Clock" "daysSinceWound" "I", .fieldLink RX0 30 "WinderLadders$Clock" "timesWound" "I", .fieldLink RX0 33 "WinderLadders$Clock" "goes" "Z"] ++ wsX00)
def wsX0_begin : List Cond := .code yX0_begin cX0_begin 4 none :: ([.fieldLink RX0 9 "WinderLadders$Clock" "house" "I", .fieldLink RX0 15 "WinderLadders$Clock" "rungs" "I", .fieldLink RX0 18 "WinderLadders$Clock" "drift" "I", .fieldLink RX0 21 "WinderLadders$Clock" "screw" "I", .fieldLink RX0 24 "WinderLadders$Clock" "off" "I", .fieldLink RX0 27 "WinderLadders$Clock" "daysSinceWound" "I", .fieldLink RX0 30 "WinderLadders$Clock" "timesWound" "I", .fieldLink RX0 33 "WinderLadders$Clock" "goes" "Z"] ++ wsX00)
def wsX0_driftWithScrew : List Cond := .code yX0_driftWithScrew cX0_driftWithScrew 1 (some .int) :: ([.fieldLink RX0 18 "WinderLadders$Clock" "drift" "I", .fieldLink RX0 21 "WinderLadders$Clock" "screw" "I"] ++ wsX00)
def wsX0_isOffBeyond : List Cond := .code yX0_isOffBeyond cX0_isOffBeyond 2 (some .boolean) :: ([.fieldLink RX0 24 "WinderLadders$Clock" "off" "I", .methodLink RX0 37 Lib.Math.abs.name, .static Lib.Math.abs.name, .initialized "java/lang/Math", .code Lib.Math.abs.name Lib.Math.abs.code 1 (some .int)] ++ wsX00)
def wsX0_passDay : List Cond := .code yX0_passDay cX0_passDay 2 none :: ([.fieldLink RX0 33 "WinderLadders$Clock" "goes" "Z", .fieldLink RX0 24 "WinderLadders$Clock" "off" "I", .fieldLink RX0 27 "WinderLadders$Clock" "daysSinceWound" "I", .constant RX0 47 (43200), .methodLink RX0 43 yX0_driftWithScrew, .instanceMethod yX0_driftWithScrew, .selects RX0 yX0_driftWithScrew yX0_driftWithScrew, .initialized RX0, .code yX0_driftWithScrew cX0_driftWithScrew 1 (some .int), .fieldLink RX0 18 "WinderLadders$Clock" "drift" "I", .fieldLink RX0 21 "WinderLadders$Clock" "screw" "I"] ++ wsX00)
def wsX0_turnByRule : List Cond := .code yX0_turnByRule cX0_turnByRule 2 none :: ([.fieldLink RX0 21 "WinderLadders$Clock" "screw" "I", .methodLink RX0 43 yX0_driftWithScrew, .instanceMethod yX0_driftWithScrew, .selects RX0 yX0_driftWithScrew yX0_driftWithScrew, .initialized RX0, .code yX0_driftWithScrew cX0_driftWithScrew 1 (some .int), .fieldLink RX0 18 "WinderLadders$Clock" "drift" "I"] ++ wsX00)
def wsX0_windAndSet : List Cond := .code yX0_windAndSet cX0_windAndSet 2 none :: ([.fieldLink RX0 33 "WinderLadders$Clock" "goes" "Z", .fieldLink RX0 24 "WinderLadders$Clock" "off" "I", .fieldLink RX0 27 "WinderLadders$Clock" "daysSinceWound" "I", .fieldLink RX0 30 "WinderLadders$Clock" "timesWound" "I", .methodLink RX0 48 yX0_isOffBeyond, .instanceMethod yX0_isOffBeyond, .selects RX0 yX0_isOffBeyond yX0_isOffBeyond, .initialized RX0, .code yX0_isOffBeyond cX0_isOffBeyond 2 (some .boolean), .methodLink RX0 37 Lib.Math.abs.name, .static Lib.Math.abs.name, .initialized "java/lang/Math", .code Lib.Math.abs.name Lib.Math.abs.code 1 (some .int), .methodLink RX0 52 yX0_turnByRule, .instanceMethod yX0_turnByRule, .selects RX0 yX0_turnByRule yX0_turnByRule, .code yX0_turnByRule cX0_turnByRule 2 none, .fieldLink RX0 21 "WinderLadders$Clock" "screw" "I", .methodLink RX0 43 yX0_driftWithScrew, .instanceMethod yX0_driftWithScrew, .selects RX0 yX0_driftWithScrew yX0_driftWithScrew, .code yX0_driftWithScrew cX0_driftWithScrew 1 (some .int), .fieldLink RX0 18 "WinderLadders$Clock" "drift" "I"] ++ wsX00)
def wsX0_daysUntilOff : List Cond := .code yX0_daysUntilOff cX0_daysUntilOff 5 (some .int) :: ([.fieldLink RX0 27 "WinderLadders$Clock" "daysSinceWound" "I", .methodLink RX0 55 Lib.Math.max.name, .static Lib.Math.max.name, .initialized "java/lang/Math", .code Lib.Math.max.name Lib.Math.max.code 2 (some .int), .fieldLink RX0 24 "WinderLadders$Clock" "off" "I", .methodLink RX0 37 Lib.Math.abs.name, .static Lib.Math.abs.name, .code Lib.Math.abs.name Lib.Math.abs.code 1 (some .int), .methodLink RX0 48 yX0_isOffBeyond, .instanceMethod yX0_isOffBeyond, .selects RX0 yX0_isOffBeyond yX0_isOffBeyond, .initialized RX0, .code yX0_isOffBeyond cX0_isOffBeyond 2 (some .boolean), .methodLink RX0 43 yX0_driftWithScrew, .instanceMethod yX0_driftWithScrew, .selects RX0 yX0_driftWithScrew yX0_driftWithScrew, .code yX0_driftWithScrew cX0_driftWithScrew 1 (some .int), .fieldLink RX0 18 "WinderLadders$Clock" "drift" "I", .fieldLink RX0 21 "WinderLadders$Clock" "screw" "I"] ++ wsX00)
def wsX4_init : List Cond := .code yX4_init cX4_init 2 none :: ([.methodLink RX4 3 objectInit, .instanceMethod objectInit, .code objectInit ⟨#[0xb1]⟩ 1 none, .arrayClass .int, .fieldLink RX4 9 "WinderLadders$State" "settings" "[I", .classLink RX4 15 RX0, .fieldLink RX4 17 "WinderLadders$State" "clocks" "[LWinderLadders$Clock;", .fieldLink RX4 21 "WinderLadders$State" "ladders" "[I", .methodLink RX4 27 arraycopyName, .native arraycopyName, .static arraycopyName, .initialized "java/lang/System", .instantiable RX0 8, .initialized RX0, .instanceMethod yX0_init, .code yX0_init cX0_init 1 none, .methodLink RX0 3 objectInit] ++ wsX40 ++ wsX00)
def wsX1_init_r1 : List Cond := [Cond.methodLink RX1 3 objectInit, Cond.instanceMethod objectInit, Cond.code objectInit ⟨#[0xb1]⟩ 1 none, Cond.classLink RX1 9 RX4, Cond.fieldLink RX1 11 "WinderLadders$History" "states" "[LWinderLadders$State;", Cond.instantiable RX4 7, Cond.initialized RX4, Cond.methodLink RX1 17 yX4_init, Cond.instanceMethod yX4_init, Cond.code yX4_init cX4_init 2 none, Cond.methodLink RX4 3 objectInit, Cond.arrayClass .int, Cond.fieldLink RX4 9 "WinderLadders$State" "settings" "[I", Cond.classLink RX4 15 RX0, Cond.fieldLink RX4 17 "WinderLadders$State" "clocks" "[LWinderLadders$Clock;", Cond.fieldLink RX4 21 "WinderLadders$State" "ladders" "[I", Cond.methodLink RX4 27 arraycopyName, Cond.native arraycopyName, Cond.static arraycopyName, Cond.initialized "java/lang/System", Cond.instantiable RX0 8, Cond.initialized RX0, Cond.instanceMethod yX0_init, Cond.code yX0_init cX0_init 1 none]
def wsX1_init_r2 : List Cond := [Cond.methodLink RX0 3 objectInit]
def wsX1_init : List Cond := .code yX1_init cX1_init 2 none :: ((wsX1_init_r1 ++ wsX1_init_r2) ++ wsX10 ++ wsX40 ++ wsX00)
def wsX4_copyFrom : List Cond := .code yX4_copyFrom cX4_copyFrom 3 none :: ([.fieldLink RX4 9 "WinderLadders$State" "settings" "[I", .methodLink RX4 27 arraycopyName, .native arraycopyName, .static arraycopyName, .initialized "java/lang/System", .fieldLink RX4 21 "WinderLadders$State" "ladders" "[I", .fieldLink RX4 34 "WinderLadders$State" "clockCount" "I", .fieldLink RX4 17 "WinderLadders$State" "clocks" "[LWinderLadders$Clock;", .fieldLink RX4 42 "WinderLadders$State" "ladderCount" "I", .fieldLink RX4 45 "WinderLadders$State" "days" "I", .fieldLink RX4 48 "WinderLadders$State" "minutes" "I", .methodLink RX4 38 yX0_copyFrom, .instanceMethod yX0_copyFrom, .selects RX0 yX0_copyFrom yX0_copyFrom, .initialized RX0, .code yX0_copyFrom cX0_copyFrom 2 none, .fieldLink RX0 9 "WinderLadders$Clock" "house" "I", .fieldLink RX0 15 "WinderLadders$Clock" "rungs" "I", .fieldLink RX0 18 "WinderLadders$Clock" "drift" "I", .fieldLink RX0 21 "WinderLadders$Clock" "screw" "I", .fieldLink RX0 24 "WinderLadders$Clock" "off" "I", .fieldLink RX0 27 "WinderLadders$Clock" "daysSinceWound" "I", .fieldLink RX0 30 "WinderLadders$Clock" "timesWound" "I", .fieldLink RX0 33 "WinderLadders$Clock" "goes" "Z"] ++ wsX40 ++ wsX00)
def wsX1_prepare_r1 : List Cond := [Cond.fieldLink RX1 18 "WinderLadders$History" "depth" "I", Cond.fieldLink RX1 11 "WinderLadders$History" "states" "[LWinderLadders$State;", Cond.methodLink RX1 22 yX4_copyFrom, Cond.instanceMethod yX4_copyFrom, Cond.selects RX4 yX4_copyFrom yX4_copyFrom, Cond.initialized RX4, Cond.code yX4_copyFrom cX4_copyFrom 3 none, Cond.fieldLink RX4 9 "WinderLadders$State" "settings" "[I", Cond.methodLink RX4 27 arraycopyName, Cond.native arraycopyName, Cond.static arraycopyName, Cond.initialized "java/lang/System", Cond.fieldLink RX4 21 "WinderLadders$State" "ladders" "[I", Cond.fieldLink RX4 34 "WinderLadders$State" "clockCount" "I", Cond.fieldLink RX4 17 "WinderLadders$State" "clocks" "[LWinderLadders$Clock;", Cond.fieldLink RX4 42 "WinderLadders$State" "ladderCount" "I", Cond.fieldLink RX4 45 "WinderLadders$State" "days" "I", Cond.fieldLink RX4 48 "WinderLadders$State" "minutes" "I", Cond.methodLink RX4 38 yX0_copyFrom, Cond.instanceMethod yX0_copyFrom, Cond.selects RX0 yX0_copyFrom yX0_copyFrom, Cond.initialized RX0, Cond.code yX0_copyFrom cX0_copyFrom 2 none, Cond.fieldLink RX0 9 "WinderLadders$Clock" "house" "I"]
def wsX1_prepare_r2 : List Cond := [Cond.fieldLink RX0 15 "WinderLadders$Clock" "rungs" "I", Cond.fieldLink RX0 18 "WinderLadders$Clock" "drift" "I", Cond.fieldLink RX0 21 "WinderLadders$Clock" "screw" "I", Cond.fieldLink RX0 24 "WinderLadders$Clock" "off" "I", Cond.fieldLink RX0 27 "WinderLadders$Clock" "daysSinceWound" "I", Cond.fieldLink RX0 30 "WinderLadders$Clock" "timesWound" "I", Cond.fieldLink RX0 33 "WinderLadders$Clock" "goes" "Z"]
def wsX1_prepare : List Cond := .code yX1_prepare cX1_prepare 2 none :: ((wsX1_prepare_r1 ++ wsX1_prepare_r2) ++ wsX10 ++ wsX40 ++ wsX00)
def wsX1_dropOldest : List Cond := .code yX1_dropOldest cX1_dropOldest 3 none :: ([.fieldLink RX1 11 "WinderLadders$History" "states" "[LWinderLadders$State;"] ++ wsX10)
def wsX1_keepPrepared : List Cond := .code yX1_keepPrepared cX1_keepPrepared 1 none :: ([.fieldLink RX1 18 "WinderLadders$History" "depth" "I", .methodLink RX1 26 yX1_dropOldest, .instanceMethod yX1_dropOldest, .selects RX1 yX1_dropOldest yX1_dropOldest, .initialized RX1, .code yX1_dropOldest cX1_dropOldest 3 none, .fieldLink RX1 11 "WinderLadders$History" "states" "[LWinderLadders$State;"] ++ wsX10)
def wsX1_takeBack_r1 : List Cond := [Cond.fieldLink RX1 18 "WinderLadders$History" "depth" "I", Cond.fieldLink RX1 11 "WinderLadders$History" "states" "[LWinderLadders$State;", Cond.methodLink RX1 22 yX4_copyFrom, Cond.instanceMethod yX4_copyFrom, Cond.selects RX4 yX4_copyFrom yX4_copyFrom, Cond.initialized RX4, Cond.code yX4_copyFrom cX4_copyFrom 3 none, Cond.fieldLink RX4 9 "WinderLadders$State" "settings" "[I", Cond.methodLink RX4 27 arraycopyName, Cond.native arraycopyName, Cond.static arraycopyName, Cond.initialized "java/lang/System", Cond.fieldLink RX4 21 "WinderLadders$State" "ladders" "[I", Cond.fieldLink RX4 34 "WinderLadders$State" "clockCount" "I", Cond.fieldLink RX4 17 "WinderLadders$State" "clocks" "[LWinderLadders$Clock;", Cond.fieldLink RX4 42 "WinderLadders$State" "ladderCount" "I", Cond.fieldLink RX4 45 "WinderLadders$State" "days" "I", Cond.fieldLink RX4 48 "WinderLadders$State" "minutes" "I", Cond.methodLink RX4 38 yX0_copyFrom, Cond.instanceMethod yX0_copyFrom, Cond.selects RX0 yX0_copyFrom yX0_copyFrom, Cond.initialized RX0, Cond.code yX0_copyFrom cX0_copyFrom 2 none, Cond.fieldLink RX0 9 "WinderLadders$Clock" "house" "I"]
def wsX1_takeBack_r2 : List Cond := [Cond.fieldLink RX0 15 "WinderLadders$Clock" "rungs" "I", Cond.fieldLink RX0 18 "WinderLadders$Clock" "drift" "I", Cond.fieldLink RX0 21 "WinderLadders$Clock" "screw" "I", Cond.fieldLink RX0 24 "WinderLadders$Clock" "off" "I", Cond.fieldLink RX0 27 "WinderLadders$Clock" "daysSinceWound" "I", Cond.fieldLink RX0 30 "WinderLadders$Clock" "timesWound" "I", Cond.fieldLink RX0 33 "WinderLadders$Clock" "goes" "Z"]
def wsX1_takeBack : List Cond := .code yX1_takeBack cX1_takeBack 2 (some .boolean) :: ((wsX1_takeBack_r1 ++ wsX1_takeBack_r2) ++ wsX10 ++ wsX40 ++ wsX00)
def wsX3_init : List Cond := .code yX3_init cX3_init 1 none :: ([.methodLink RX3 3 objectInit, .instanceMethod objectInit, .code objectInit ⟨#[0xb1]⟩ 1 none, .arrayClass .int, .fieldLink RX3 9 "WinderLadders$Row" "numbers" "[I"] ++ wsX30)
def wsX2_init : List Cond := .code yX2_init cX2_init 1 none :: ([.methodLink RX2 3 objectInit, .instanceMethod objectInit, .code objectInit ⟨#[0xb1]⟩ 1 none, .arrayClass .char, .fieldLink RX2 9 "WinderLadders$Pad" "signs" "[C", .classLink RX2 15 RX3, .instantiable RX3 2, .initialized RX3, .fieldLink RX2 18 "WinderLadders$Pad" "numbers" "LWinderLadders$Row;", .instanceMethod yX3_init, .code yX3_init cX3_init 1 none, .methodLink RX3 3 objectInit, .arrayClass .int, .fieldLink RX3 9 "WinderLadders$Row" "numbers" "[I"] ++ wsX20 ++ wsX30)
def wsX3_clear : List Cond := .code yX3_clear cX3_clear 1 none :: ([.fieldLink RX3 15 "WinderLadders$Row" "length" "I"] ++ wsX30)
def wsX3_add : List Cond := .code yX3_add cX3_add 2 (some .boolean) :: ([.fieldLink RX3 15 "WinderLadders$Row" "length" "I", .fieldLink RX3 9 "WinderLadders$Row" "numbers" "[I"] ++ wsX30)
def wsX3_at : List Cond := .code yX3_at cX3_at 2 (some .int) :: ([.fieldLink RX3 15 "WinderLadders$Row" "length" "I", .fieldLink RX3 9 "WinderLadders$Row" "numbers" "[I"] ++ wsX30)
def wsX3_turnRound : List Cond := .code yX3_turnRound cX3_turnRound 3 none :: ([.fieldLink RX3 15 "WinderLadders$Row" "length" "I", .fieldLink RX3 9 "WinderLadders$Row" "numbers" "[I"] ++ wsX30)
def wsX4_hasClock : List Cond := .code yX4_hasClock cX4_hasClock 2 (some .boolean) :: ([.fieldLink RX4 34 "WinderLadders$State" "clockCount" "I"] ++ wsX40)
def wsX4_hasLadder : List Cond := .code yX4_hasLadder cX4_hasLadder 2 (some .boolean) :: ([.fieldLink RX4 42 "WinderLadders$State" "ladderCount" "I"] ++ wsX40)
def wsX5_isWithin : List Cond := .code yX5_isWithin cX5_isWithin 3 (some .boolean) :: ([])
def wsX4_replaceSetting : List Cond := .code yX4_replaceSetting cX4_replaceSetting 4 (some .int) :: ([.fieldLink RX4 9 "WinderLadders$State" "settings" "[I", .static yX5_isWithin, .initialized RX5, .code yX5_isWithin cX5_isWithin 3 (some .boolean)] ++ wsX40)
def wsX4_addClock : List Cond := .code yX4_addClock cX4_addClock 4 (some .int) :: ([.fieldLink RX4 34 "WinderLadders$State" "clockCount" "I", .fieldLink RX4 17 "WinderLadders$State" "clocks" "[LWinderLadders$Clock;", .static yX5_isWithin, .initialized RX5, .code yX5_isWithin cX5_isWithin 3 (some .boolean), .methodLink RX4 58 yX0_begin, .instanceMethod yX0_begin, .selects RX0 yX0_begin yX0_begin, .initialized RX0, .code yX0_begin cX0_begin 4 none, .fieldLink RX0 9 "WinderLadders$Clock" "house" "I", .fieldLink RX0 15 "WinderLadders$Clock" "rungs" "I", .fieldLink RX0 18 "WinderLadders$Clock" "drift" "I", .fieldLink RX0 21 "WinderLadders$Clock" "screw" "I", .fieldLink RX0 24 "WinderLadders$Clock" "off" "I", .fieldLink RX0 27 "WinderLadders$Clock" "daysSinceWound" "I", .fieldLink RX0 30 "WinderLadders$Clock" "timesWound" "I", .fieldLink RX0 33 "WinderLadders$Clock" "goes" "Z"] ++ wsX40 ++ wsX00)
def wsX4_addLadder : List Cond := .code yX4_addLadder cX4_addLadder 2 (some .int) :: ([.fieldLink RX4 42 "WinderLadders$State" "ladderCount" "I", .fieldLink RX4 21 "WinderLadders$State" "ladders" "[I", .static yX5_isWithin, .initialized RX5, .code yX5_isWithin cX5_isWithin 3 (some .boolean)] ++ wsX40)
def wsX4_turnScrew : List Cond := .code yX4_turnScrew cX4_turnScrew 4 (some .int) :: ([.fieldLink RX4 17 "WinderLadders$State" "clocks" "[LWinderLadders$Clock;", .fieldLink RX4 66 "WinderLadders$Clock" "screw" "I", .methodLink RX4 62 yX4_hasClock, .instanceMethod yX4_hasClock, .selects RX4 yX4_hasClock yX4_hasClock, .initialized RX4, .code yX4_hasClock cX4_hasClock 2 (some .boolean), .fieldLink RX4 34 "WinderLadders$State" "clockCount" "I", .static yX5_isWithin, .initialized RX5, .code yX5_isWithin cX5_isWithin 3 (some .boolean)] ++ wsX40 ++ wsX00)
def wsX4_numberThatGo : List Cond := .code yX4_numberThatGo cX4_numberThatGo 3 (some .int) :: ([.fieldLink RX4 34 "WinderLadders$State" "clockCount" "I", .fieldLink RX4 17 "WinderLadders$State" "clocks" "[LWinderLadders$Clock;", .fieldLink RX4 77 "WinderLadders$Clock" "goes" "Z"] ++ wsX40 ++ wsX00)
def wsX4_passDays_r1 : List Cond := [Cond.fieldLink RX4 45 "WinderLadders$State" "days" "I", Cond.fieldLink RX4 34 "WinderLadders$State" "clockCount" "I", Cond.fieldLink RX4 17 "WinderLadders$State" "clocks" "[LWinderLadders$Clock;", Cond.fieldLink RX4 9 "WinderLadders$State" "settings" "[I", Cond.static yX5_isWithin, Cond.initialized RX5, Cond.code yX5_isWithin cX5_isWithin 3 (some .boolean), Cond.methodLink RX4 69 yX0_passDay, Cond.instanceMethod yX0_passDay, Cond.selects RX0 yX0_passDay yX0_passDay, Cond.initialized RX0, Cond.code yX0_passDay cX0_passDay 2 none, Cond.fieldLink RX0 33 "WinderLadders$Clock" "goes" "Z", Cond.fieldLink RX0 24 "WinderLadders$Clock" "off" "I", Cond.fieldLink RX0 27 "WinderLadders$Clock" "daysSinceWound" "I", Cond.constant RX0 47 (43200), Cond.methodLink RX0 43 yX0_driftWithScrew, Cond.instanceMethod yX0_driftWithScrew, Cond.selects RX0 yX0_driftWithScrew yX0_driftWithScrew, Cond.code yX0_driftWithScrew cX0_driftWithScrew 1 (some .int), Cond.fieldLink RX0 18 "WinderLadders$Clock" "drift" "I", Cond.fieldLink RX0 21 "WinderLadders$Clock" "screw" "I", Cond.methodLink RX4 73 yX4_numberThatGo, Cond.instanceMethod yX4_numberThatGo]
def wsX4_passDays_r2 : List Cond := [Cond.selects RX4 yX4_numberThatGo yX4_numberThatGo, Cond.initialized RX4, Cond.code yX4_numberThatGo cX4_numberThatGo 3 (some .int), Cond.fieldLink RX4 77 "WinderLadders$Clock" "goes" "Z"]
def wsX4_passDays : List Cond := .code yX4_passDays cX4_passDays 4 (some .int) :: ((wsX4_passDays_r1 ++ wsX4_passDays_r2) ++ wsX40 ++ wsX00)
def wsX4_changeClocks : List Cond := .code yX4_changeClocks cX4_changeClocks 4 (some .int) :: ([.fieldLink RX4 34 "WinderLadders$State" "clockCount" "I", .fieldLink RX4 17 "WinderLadders$State" "clocks" "[LWinderLadders$Clock;", .fieldLink RX4 77 "WinderLadders$Clock" "goes" "Z", .fieldLink RX4 81 "WinderLadders$Clock" "off" "I", .methodLink RX4 73 yX4_numberThatGo, .instanceMethod yX4_numberThatGo, .selects RX4 yX4_numberThatGo yX4_numberThatGo, .initialized RX4, .code yX4_numberThatGo cX4_numberThatGo 3 (some .int)] ++ wsX40 ++ wsX00)
def wsX4_ladderNeeded : List Cond := .code yX4_ladderNeeded cX4_ladderNeeded 5 (some .int) :: ([.fieldLink RX4 116 "WinderLadders$Clock" "rungs" "I", .fieldLink RX4 42 "WinderLadders$State" "ladderCount" "I", .fieldLink RX4 21 "WinderLadders$State" "ladders" "[I"] ++ wsX00 ++ wsX40)
def wsX4_canBeWound : List Cond := .code yX4_canBeWound cX4_canBeWound 2 (some .boolean) :: ([.fieldLink RX4 116 "WinderLadders$Clock" "rungs" "I", .methodLink RX4 112 yX4_ladderNeeded, .instanceMethod yX4_ladderNeeded, .selects RX4 yX4_ladderNeeded yX4_ladderNeeded, .initialized RX4, .code yX4_ladderNeeded cX4_ladderNeeded 5 (some .int), .fieldLink RX4 42 "WinderLadders$State" "ladderCount" "I", .fieldLink RX4 21 "WinderLadders$State" "ladders" "[I"] ++ wsX00 ++ wsX40)
def wsX4_minutesOf_r1 : List Cond := [Cond.fieldLink RX4 88 "WinderLadders$Row" "length" "I", Cond.fieldLink RX4 17 "WinderLadders$State" "clocks" "[LWinderLadders$Clock;", Cond.fieldLink RX4 104 "WinderLadders$Clock" "house" "I", Cond.methodLink RX4 107 Lib.Math.abs.name, Cond.static Lib.Math.abs.name, Cond.initialized "java/lang/Math", Cond.code Lib.Math.abs.name Lib.Math.abs.code 1 (some .int), Cond.fieldLink RX4 9 "WinderLadders$State" "settings" "[I", Cond.methodLink RX4 93 yX3_at, Cond.instanceMethod yX3_at, Cond.selects RX3 yX3_at yX3_at, Cond.initialized RX3, Cond.code yX3_at cX3_at 2 (some .int), Cond.fieldLink RX3 15 "WinderLadders$Row" "length" "I", Cond.fieldLink RX3 9 "WinderLadders$Row" "numbers" "[I", Cond.methodLink RX4 62 yX4_hasClock, Cond.instanceMethod yX4_hasClock, Cond.selects RX4 yX4_hasClock yX4_hasClock, Cond.initialized RX4, Cond.code yX4_hasClock cX4_hasClock 2 (some .boolean), Cond.fieldLink RX4 34 "WinderLadders$State" "clockCount" "I", Cond.methodLink RX4 112 yX4_ladderNeeded, Cond.instanceMethod yX4_ladderNeeded, Cond.selects RX4 yX4_ladderNeeded yX4_ladderNeeded]
def wsX4_minutesOf_r2 : List Cond := [Cond.code yX4_ladderNeeded cX4_ladderNeeded 5 (some .int), Cond.fieldLink RX4 116 "WinderLadders$Clock" "rungs" "I", Cond.fieldLink RX4 42 "WinderLadders$State" "ladderCount" "I", Cond.fieldLink RX4 21 "WinderLadders$State" "ladders" "[I", Cond.methodLink RX4 97 yX4_canBeWound, Cond.instanceMethod yX4_canBeWound, Cond.selects RX4 yX4_canBeWound yX4_canBeWound, Cond.code yX4_canBeWound cX4_canBeWound 2 (some .boolean)]
def wsX4_minutesOf : List Cond := .code yX4_minutesOf cX4_minutesOf 10 (some .int) :: ((wsX4_minutesOf_r1 ++ wsX4_minutesOf_r2) ++ wsX30 ++ wsX40 ++ wsX00)
def wsX4_walkBeat_r1 : List Cond := [Cond.fieldLink RX4 88 "WinderLadders$Row" "length" "I", Cond.fieldLink RX4 17 "WinderLadders$State" "clocks" "[LWinderLadders$Clock;", Cond.fieldLink RX4 9 "WinderLadders$State" "settings" "[I", Cond.fieldLink RX4 48 "WinderLadders$State" "minutes" "I", Cond.methodLink RX4 84 yX4_minutesOf, Cond.instanceMethod yX4_minutesOf, Cond.selects RX4 yX4_minutesOf yX4_minutesOf, Cond.initialized RX4, Cond.code yX4_minutesOf cX4_minutesOf 10 (some .int), Cond.fieldLink RX4 104 "WinderLadders$Clock" "house" "I", Cond.methodLink RX4 107 Lib.Math.abs.name, Cond.static Lib.Math.abs.name, Cond.initialized "java/lang/Math", Cond.code Lib.Math.abs.name Lib.Math.abs.code 1 (some .int), Cond.methodLink RX4 93 yX3_at, Cond.instanceMethod yX3_at, Cond.selects RX3 yX3_at yX3_at, Cond.initialized RX3, Cond.code yX3_at cX3_at 2 (some .int), Cond.fieldLink RX3 15 "WinderLadders$Row" "length" "I", Cond.fieldLink RX3 9 "WinderLadders$Row" "numbers" "[I", Cond.methodLink RX4 62 yX4_hasClock, Cond.instanceMethod yX4_hasClock, Cond.selects RX4 yX4_hasClock yX4_hasClock]
def wsX4_walkBeat_r2 : List Cond := [Cond.code yX4_hasClock cX4_hasClock 2 (some .boolean), Cond.fieldLink RX4 34 "WinderLadders$State" "clockCount" "I", Cond.methodLink RX4 112 yX4_ladderNeeded, Cond.instanceMethod yX4_ladderNeeded, Cond.selects RX4 yX4_ladderNeeded yX4_ladderNeeded, Cond.code yX4_ladderNeeded cX4_ladderNeeded 5 (some .int), Cond.fieldLink RX4 116 "WinderLadders$Clock" "rungs" "I", Cond.fieldLink RX4 42 "WinderLadders$State" "ladderCount" "I", Cond.fieldLink RX4 21 "WinderLadders$State" "ladders" "[I", Cond.methodLink RX4 97 yX4_canBeWound, Cond.instanceMethod yX4_canBeWound, Cond.selects RX4 yX4_canBeWound yX4_canBeWound, Cond.code yX4_canBeWound cX4_canBeWound 2 (some .boolean), Cond.methodLink RX4 101 yX0_windAndSet, Cond.instanceMethod yX0_windAndSet, Cond.selects RX0 yX0_windAndSet yX0_windAndSet, Cond.initialized RX0, Cond.code yX0_windAndSet cX0_windAndSet 2 none, Cond.fieldLink RX0 33 "WinderLadders$Clock" "goes" "Z", Cond.fieldLink RX0 24 "WinderLadders$Clock" "off" "I", Cond.fieldLink RX0 27 "WinderLadders$Clock" "daysSinceWound" "I", Cond.fieldLink RX0 30 "WinderLadders$Clock" "timesWound" "I", Cond.methodLink RX0 48 yX0_isOffBeyond, Cond.instanceMethod yX0_isOffBeyond]
def wsX4_walkBeat_r3 : List Cond := [Cond.selects RX0 yX0_isOffBeyond yX0_isOffBeyond, Cond.code yX0_isOffBeyond cX0_isOffBeyond 2 (some .boolean), Cond.methodLink RX0 37 Lib.Math.abs.name, Cond.methodLink RX0 52 yX0_turnByRule, Cond.instanceMethod yX0_turnByRule, Cond.selects RX0 yX0_turnByRule yX0_turnByRule, Cond.code yX0_turnByRule cX0_turnByRule 2 none, Cond.fieldLink RX0 21 "WinderLadders$Clock" "screw" "I", Cond.methodLink RX0 43 yX0_driftWithScrew, Cond.instanceMethod yX0_driftWithScrew, Cond.selects RX0 yX0_driftWithScrew yX0_driftWithScrew, Cond.code yX0_driftWithScrew cX0_driftWithScrew 1 (some .int), Cond.fieldLink RX0 18 "WinderLadders$Clock" "drift" "I"]
def wsX4_walkBeat : List Cond := .code yX4_walkBeat cX4_walkBeat 5 (some .int) :: ((wsX4_walkBeat_r1 ++ (wsX4_walkBeat_r2 ++ wsX4_walkBeat_r3)) ++ wsX30 ++ wsX40 ++ wsX00)
def wsX4_setOfStill : List Cond := .code yX4_setOfStill cX4_setOfStill 3 (some .int) :: ([.fieldLink RX4 34 "WinderLadders$State" "clockCount" "I", .fieldLink RX4 17 "WinderLadders$State" "clocks" "[LWinderLadders$Clock;", .fieldLink RX4 77 "WinderLadders$Clock" "goes" "Z"] ++ wsX40 ++ wsX00)
def wsX4_numberOffBeyondTold : List Cond := .code yX4_numberOffBeyondTold cX4_numberOffBeyondTold 3 (some .int) :: ([.fieldLink RX4 34 "WinderLadders$State" "clockCount" "I", .fieldLink RX4 17 "WinderLadders$State" "clocks" "[LWinderLadders$Clock;", .fieldLink RX4 9 "WinderLadders$State" "settings" "[I", .methodLink RX4 119 yX0_isOffBeyond, .instanceMethod yX0_isOffBeyond, .selects RX0 yX0_isOffBeyond yX0_isOffBeyond, .initialized RX0, .code yX0_isOffBeyond cX0_isOffBeyond 2 (some .boolean), .fieldLink RX0 24 "WinderLadders$Clock" "off" "I", .methodLink RX0 37 Lib.Math.abs.name, .static Lib.Math.abs.name, .initialized "java/lang/Math", .code Lib.Math.abs.name Lib.Math.abs.code 1 (some .int)] ++ wsX40 ++ wsX00)
def wsX4_numberThatCannotBeWound : List Cond := .code yX4_numberThatCannotBeWound cX4_numberThatCannotBeWound 3 (some .int) :: ([.fieldLink RX4 34 "WinderLadders$State" "clockCount" "I", .fieldLink RX4 17 "WinderLadders$State" "clocks" "[LWinderLadders$Clock;", .methodLink RX4 97 yX4_canBeWound, .instanceMethod yX4_canBeWound, .selects RX4 yX4_canBeWound yX4_canBeWound, .initialized RX4, .code yX4_canBeWound cX4_canBeWound 2 (some .boolean), .fieldLink RX4 116 "WinderLadders$Clock" "rungs" "I", .methodLink RX4 112 yX4_ladderNeeded, .instanceMethod yX4_ladderNeeded, .selects RX4 yX4_ladderNeeded yX4_ladderNeeded, .code yX4_ladderNeeded cX4_ladderNeeded 5 (some .int), .fieldLink RX4 42 "WinderLadders$State" "ladderCount" "I", .fieldLink RX4 21 "WinderLadders$State" "ladders" "[I"] ++ wsX40 ++ wsX00)
def wsX4_timesWoundInAll : List Cond := .code yX4_timesWoundInAll cX4_timesWoundInAll 3 (some .int) :: ([.fieldLink RX4 34 "WinderLadders$State" "clockCount" "I", .fieldLink RX4 17 "WinderLadders$State" "clocks" "[LWinderLadders$Clock;", .fieldLink RX4 122 "WinderLadders$Clock" "timesWound" "I"] ++ wsX40 ++ wsX00)
def wsX4_rungsOutOfReach : List Cond := .code yX4_rungsOutOfReach cX4_rungsOutOfReach 3 (some .int) :: ([.fieldLink RX4 34 "WinderLadders$State" "clockCount" "I", .fieldLink RX4 17 "WinderLadders$State" "clocks" "[LWinderLadders$Clock;", .fieldLink RX4 116 "WinderLadders$Clock" "rungs" "I", .methodLink RX4 125 Lib.Math.max.name, .static Lib.Math.max.name, .initialized "java/lang/Math", .code Lib.Math.max.name Lib.Math.max.code 2 (some .int), .methodLink RX4 97 yX4_canBeWound, .instanceMethod yX4_canBeWound, .selects RX4 yX4_canBeWound yX4_canBeWound, .initialized RX4, .code yX4_canBeWound cX4_canBeWound 2 (some .boolean), .methodLink RX4 112 yX4_ladderNeeded, .instanceMethod yX4_ladderNeeded, .selects RX4 yX4_ladderNeeded yX4_ladderNeeded, .code yX4_ladderNeeded cX4_ladderNeeded 5 (some .int), .fieldLink RX4 42 "WinderLadders$State" "ladderCount" "I", .fieldLink RX4 21 "WinderLadders$State" "ladders" "[I"] ++ wsX40 ++ wsX00)
def wsX4_daysUntilOff_r1 : List Cond := [Cond.fieldLink RX4 17 "WinderLadders$State" "clocks" "[LWinderLadders$Clock;", Cond.fieldLink RX4 9 "WinderLadders$State" "settings" "[I", Cond.methodLink RX4 62 yX4_hasClock, Cond.instanceMethod yX4_hasClock, Cond.selects RX4 yX4_hasClock yX4_hasClock, Cond.initialized RX4, Cond.code yX4_hasClock cX4_hasClock 2 (some .boolean), Cond.fieldLink RX4 34 "WinderLadders$State" "clockCount" "I", Cond.methodLink RX4 129 yX0_daysUntilOff, Cond.instanceMethod yX0_daysUntilOff, Cond.selects RX0 yX0_daysUntilOff yX0_daysUntilOff, Cond.initialized RX0, Cond.code yX0_daysUntilOff cX0_daysUntilOff 5 (some .int), Cond.fieldLink RX0 27 "WinderLadders$Clock" "daysSinceWound" "I", Cond.methodLink RX0 55 Lib.Math.max.name, Cond.static Lib.Math.max.name, Cond.initialized "java/lang/Math", Cond.code Lib.Math.max.name Lib.Math.max.code 2 (some .int), Cond.fieldLink RX0 24 "WinderLadders$Clock" "off" "I", Cond.methodLink RX0 37 Lib.Math.abs.name, Cond.static Lib.Math.abs.name, Cond.code Lib.Math.abs.name Lib.Math.abs.code 1 (some .int), Cond.methodLink RX0 48 yX0_isOffBeyond, Cond.instanceMethod yX0_isOffBeyond]
def wsX4_daysUntilOff_r2 : List Cond := [Cond.selects RX0 yX0_isOffBeyond yX0_isOffBeyond, Cond.code yX0_isOffBeyond cX0_isOffBeyond 2 (some .boolean), Cond.methodLink RX0 43 yX0_driftWithScrew, Cond.instanceMethod yX0_driftWithScrew, Cond.selects RX0 yX0_driftWithScrew yX0_driftWithScrew, Cond.code yX0_driftWithScrew cX0_driftWithScrew 1 (some .int), Cond.fieldLink RX0 18 "WinderLadders$Clock" "drift" "I", Cond.fieldLink RX0 21 "WinderLadders$Clock" "screw" "I"]
def wsX4_daysUntilOff : List Cond := .code yX4_daysUntilOff cX4_daysUntilOff 2 (some .int) :: ((wsX4_daysUntilOff_r1 ++ wsX4_daysUntilOff_r2) ++ wsX40 ++ wsX00)
def wsX4_tellDaysUntilOff_r1 : List Cond := [Cond.fieldLink RX4 34 "WinderLadders$State" "clockCount" "I", Cond.methodLink RX4 132 yX4_daysUntilOff, Cond.instanceMethod yX4_daysUntilOff, Cond.selects RX4 yX4_daysUntilOff yX4_daysUntilOff, Cond.initialized RX4, Cond.code yX4_daysUntilOff cX4_daysUntilOff 2 (some .int), Cond.fieldLink RX4 17 "WinderLadders$State" "clocks" "[LWinderLadders$Clock;", Cond.fieldLink RX4 9 "WinderLadders$State" "settings" "[I", Cond.methodLink RX4 62 yX4_hasClock, Cond.instanceMethod yX4_hasClock, Cond.selects RX4 yX4_hasClock yX4_hasClock, Cond.code yX4_hasClock cX4_hasClock 2 (some .boolean), Cond.methodLink RX4 129 yX0_daysUntilOff, Cond.instanceMethod yX0_daysUntilOff, Cond.selects RX0 yX0_daysUntilOff yX0_daysUntilOff, Cond.initialized RX0, Cond.code yX0_daysUntilOff cX0_daysUntilOff 5 (some .int), Cond.fieldLink RX0 27 "WinderLadders$Clock" "daysSinceWound" "I", Cond.methodLink RX0 55 Lib.Math.max.name, Cond.static Lib.Math.max.name, Cond.initialized "java/lang/Math", Cond.code Lib.Math.max.name Lib.Math.max.code 2 (some .int), Cond.fieldLink RX0 24 "WinderLadders$Clock" "off" "I", Cond.methodLink RX0 37 Lib.Math.abs.name]
def wsX4_tellDaysUntilOff_r2 : List Cond := [Cond.static Lib.Math.abs.name, Cond.code Lib.Math.abs.name Lib.Math.abs.code 1 (some .int), Cond.methodLink RX0 48 yX0_isOffBeyond, Cond.instanceMethod yX0_isOffBeyond, Cond.selects RX0 yX0_isOffBeyond yX0_isOffBeyond, Cond.code yX0_isOffBeyond cX0_isOffBeyond 2 (some .boolean), Cond.methodLink RX0 43 yX0_driftWithScrew, Cond.instanceMethod yX0_driftWithScrew, Cond.selects RX0 yX0_driftWithScrew yX0_driftWithScrew, Cond.code yX0_driftWithScrew cX0_driftWithScrew 1 (some .int), Cond.fieldLink RX0 18 "WinderLadders$Clock" "drift" "I", Cond.fieldLink RX0 21 "WinderLadders$Clock" "screw" "I"]
def wsX4_tellDaysUntilOff : List Cond := .code yX4_tellDaysUntilOff cX4_tellDaysUntilOff 3 none :: ((wsX4_tellDaysUntilOff_r1 ++ wsX4_tellDaysUntilOff_r2) ++ wsX40 ++ wsX00)
def wsX4_rankOf : List Cond := .code yX4_rankOf cX4_rankOf 5 (some .int) :: ([.fieldLink RX4 34 "WinderLadders$State" "clockCount" "I", .methodLink RX4 62 yX4_hasClock, .instanceMethod yX4_hasClock, .selects RX4 yX4_hasClock yX4_hasClock, .initialized RX4, .code yX4_hasClock cX4_hasClock 2 (some .boolean)] ++ wsX40)
def wsX5_init_r1 : List Cond := [Cond.methodLink RX5 3 objectInit, Cond.instanceMethod objectInit, Cond.code objectInit ⟨#[0xb1]⟩ 1 none, Cond.classLink RX5 9 RX4, Cond.instantiable RX4 7, Cond.initialized RX4, Cond.fieldLink RX5 12 "WinderLadders" "now" "LWinderLadders$State;", Cond.classLink RX5 16 RX1, Cond.instantiable RX1 2, Cond.initialized RX1, Cond.fieldLink RX5 19 "WinderLadders" "history" "LWinderLadders$History;", Cond.fieldLink RX5 23 "WinderLadders" "slots" "[LWinderLadders$State;", Cond.arrayClass .boolean, Cond.fieldLink RX5 27 "WinderLadders" "slotHolds" "[Z", Cond.classLink RX5 31 RX2, Cond.instantiable RX2 5, Cond.initialized RX2, Cond.fieldLink RX5 34 "WinderLadders" "pad" "LWinderLadders$Pad;", Cond.classLink RX5 38 RX3, Cond.instantiable RX3 2, Cond.initialized RX3, Cond.fieldLink RX5 41 "WinderLadders" "row" "LWinderLadders$Row;", Cond.arrayClass .int, Cond.fieldLink RX5 45 "WinderLadders" "lasting" "[I"]
def wsX5_init_r2 : List Cond := [Cond.methodLink RX5 11 yX4_init, Cond.instanceMethod yX4_init, Cond.code yX4_init cX4_init 2 none, Cond.methodLink RX4 3 objectInit, Cond.fieldLink RX4 9 "WinderLadders$State" "settings" "[I", Cond.classLink RX4 15 RX0, Cond.fieldLink RX4 17 "WinderLadders$State" "clocks" "[LWinderLadders$Clock;", Cond.fieldLink RX4 21 "WinderLadders$State" "ladders" "[I", Cond.methodLink RX4 27 arraycopyName, Cond.native arraycopyName, Cond.static arraycopyName, Cond.initialized "java/lang/System", Cond.instantiable RX0 8, Cond.initialized RX0, Cond.instanceMethod yX0_init, Cond.code yX0_init cX0_init 1 none, Cond.methodLink RX0 3 objectInit, Cond.methodLink RX5 18 yX1_init, Cond.instanceMethod yX1_init, Cond.code yX1_init cX1_init 2 none, Cond.methodLink RX1 3 objectInit, Cond.classLink RX1 9 RX4, Cond.fieldLink RX1 11 "WinderLadders$History" "states" "[LWinderLadders$State;", Cond.methodLink RX1 17 yX4_init]
def wsX5_init_r3 : List Cond := [Cond.instanceMethod yX2_init, Cond.code yX2_init cX2_init 1 none, Cond.methodLink RX2 3 objectInit, Cond.arrayClass .char, Cond.fieldLink RX2 9 "WinderLadders$Pad" "signs" "[C", Cond.classLink RX2 15 RX3, Cond.fieldLink RX2 18 "WinderLadders$Pad" "numbers" "LWinderLadders$Row;", Cond.instanceMethod yX3_init, Cond.code yX3_init cX3_init 1 none, Cond.methodLink RX3 3 objectInit, Cond.fieldLink RX3 9 "WinderLadders$Row" "numbers" "[I"]
def wsX5_init : List Cond := .code yX5_init cX5_init 2 none :: ((wsX5_init_r1 ++ (wsX5_init_r2 ++ wsX5_init_r3)) ++ wsX40 ++ wsX50 ++ wsX10 ++ wsX20 ++ wsX30 ++ wsX00)
def wsX5_keptIfDone : List Cond := .code yX5_keptIfDone cX5_keptIfDone 2 (some .int) :: ([.fieldLink RX5 19 "WinderLadders" "history" "LWinderLadders$History;", .methodLink RX5 217 yX1_keepPrepared, .instanceMethod yX1_keepPrepared, .selects RX1 yX1_keepPrepared yX1_keepPrepared, .initialized RX1, .code yX1_keepPrepared cX1_keepPrepared 1 none, .fieldLink RX1 18 "WinderLadders$History" "depth" "I", .methodLink RX1 26 yX1_dropOldest, .instanceMethod yX1_dropOldest, .selects RX1 yX1_dropOldest yX1_dropOldest, .code yX1_dropOldest cX1_dropOldest 3 none, .fieldLink RX1 11 "WinderLadders$History" "states" "[LWinderLadders$State;"] ++ wsX50 ++ wsX10)
def wsX5_set_r1 : List Cond := [Cond.fieldLink RX5 19 "WinderLadders" "history" "LWinderLadders$History;", Cond.fieldLink RX5 12 "WinderLadders" "now" "LWinderLadders$State;", Cond.methodLink RX5 49 yX1_prepare, Cond.instanceMethod yX1_prepare, Cond.selects RX1 yX1_prepare yX1_prepare, Cond.initialized RX1, Cond.code yX1_prepare cX1_prepare 2 none, Cond.fieldLink RX1 18 "WinderLadders$History" "depth" "I", Cond.fieldLink RX1 11 "WinderLadders$History" "states" "[LWinderLadders$State;", Cond.methodLink RX1 22 yX4_copyFrom, Cond.instanceMethod yX4_copyFrom, Cond.selects RX4 yX4_copyFrom yX4_copyFrom, Cond.initialized RX4, Cond.code yX4_copyFrom cX4_copyFrom 3 none, Cond.fieldLink RX4 9 "WinderLadders$State" "settings" "[I", Cond.methodLink RX4 27 arraycopyName, Cond.native arraycopyName, Cond.static arraycopyName, Cond.initialized "java/lang/System", Cond.fieldLink RX4 21 "WinderLadders$State" "ladders" "[I", Cond.fieldLink RX4 34 "WinderLadders$State" "clockCount" "I", Cond.fieldLink RX4 17 "WinderLadders$State" "clocks" "[LWinderLadders$Clock;", Cond.fieldLink RX4 42 "WinderLadders$State" "ladderCount" "I", Cond.fieldLink RX4 45 "WinderLadders$State" "days" "I"]
def wsX5_set_r2 : List Cond := [Cond.fieldLink RX4 48 "WinderLadders$State" "minutes" "I", Cond.methodLink RX4 38 yX0_copyFrom, Cond.instanceMethod yX0_copyFrom, Cond.selects RX0 yX0_copyFrom yX0_copyFrom, Cond.initialized RX0, Cond.code yX0_copyFrom cX0_copyFrom 2 none, Cond.fieldLink RX0 9 "WinderLadders$Clock" "house" "I", Cond.fieldLink RX0 15 "WinderLadders$Clock" "rungs" "I", Cond.fieldLink RX0 18 "WinderLadders$Clock" "drift" "I", Cond.fieldLink RX0 21 "WinderLadders$Clock" "screw" "I", Cond.fieldLink RX0 24 "WinderLadders$Clock" "off" "I", Cond.fieldLink RX0 27 "WinderLadders$Clock" "daysSinceWound" "I", Cond.fieldLink RX0 30 "WinderLadders$Clock" "timesWound" "I", Cond.fieldLink RX0 33 "WinderLadders$Clock" "goes" "Z", Cond.methodLink RX5 53 yX4_replaceSetting, Cond.instanceMethod yX4_replaceSetting, Cond.selects RX4 yX4_replaceSetting yX4_replaceSetting, Cond.code yX4_replaceSetting cX4_replaceSetting 4 (some .int), Cond.static yX5_isWithin, Cond.initialized RX5, Cond.code yX5_isWithin cX5_isWithin 3 (some .boolean), Cond.methodLink RX5 57 yX5_keptIfDone, Cond.instanceMethod yX5_keptIfDone, Cond.selects RX5 yX5_keptIfDone yX5_keptIfDone]
def wsX5_set_r3 : List Cond := [Cond.code yX5_keptIfDone cX5_keptIfDone 2 (some .int), Cond.methodLink RX5 217 yX1_keepPrepared, Cond.instanceMethod yX1_keepPrepared, Cond.selects RX1 yX1_keepPrepared yX1_keepPrepared, Cond.code yX1_keepPrepared cX1_keepPrepared 1 none, Cond.methodLink RX1 26 yX1_dropOldest, Cond.instanceMethod yX1_dropOldest, Cond.selects RX1 yX1_dropOldest yX1_dropOldest, Cond.code yX1_dropOldest cX1_dropOldest 3 none]
def wsX5_set : List Cond := .code yX5_set cX5_set 3 (some .int) :: ((wsX5_set_r1 ++ (wsX5_set_r2 ++ wsX5_set_r3)) ++ wsX50 ++ wsX10 ++ wsX40 ++ wsX00)
def wsX5_hang_r1 : List Cond := [Cond.fieldLink RX5 19 "WinderLadders" "history" "LWinderLadders$History;", Cond.fieldLink RX5 12 "WinderLadders" "now" "LWinderLadders$State;", Cond.methodLink RX5 49 yX1_prepare, Cond.instanceMethod yX1_prepare, Cond.selects RX1 yX1_prepare yX1_prepare, Cond.initialized RX1, Cond.code yX1_prepare cX1_prepare 2 none, Cond.fieldLink RX1 18 "WinderLadders$History" "depth" "I", Cond.fieldLink RX1 11 "WinderLadders$History" "states" "[LWinderLadders$State;", Cond.methodLink RX1 22 yX4_copyFrom, Cond.instanceMethod yX4_copyFrom, Cond.selects RX4 yX4_copyFrom yX4_copyFrom, Cond.initialized RX4, Cond.code yX4_copyFrom cX4_copyFrom 3 none, Cond.fieldLink RX4 9 "WinderLadders$State" "settings" "[I", Cond.methodLink RX4 27 arraycopyName, Cond.native arraycopyName, Cond.static arraycopyName, Cond.initialized "java/lang/System", Cond.fieldLink RX4 21 "WinderLadders$State" "ladders" "[I", Cond.fieldLink RX4 34 "WinderLadders$State" "clockCount" "I", Cond.fieldLink RX4 17 "WinderLadders$State" "clocks" "[LWinderLadders$Clock;", Cond.fieldLink RX4 42 "WinderLadders$State" "ladderCount" "I", Cond.fieldLink RX4 45 "WinderLadders$State" "days" "I"]
def wsX5_hang_r2 : List Cond := [Cond.fieldLink RX4 48 "WinderLadders$State" "minutes" "I", Cond.methodLink RX4 38 yX0_copyFrom, Cond.instanceMethod yX0_copyFrom, Cond.selects RX0 yX0_copyFrom yX0_copyFrom, Cond.initialized RX0, Cond.code yX0_copyFrom cX0_copyFrom 2 none, Cond.fieldLink RX0 9 "WinderLadders$Clock" "house" "I", Cond.fieldLink RX0 15 "WinderLadders$Clock" "rungs" "I", Cond.fieldLink RX0 18 "WinderLadders$Clock" "drift" "I", Cond.fieldLink RX0 21 "WinderLadders$Clock" "screw" "I", Cond.fieldLink RX0 24 "WinderLadders$Clock" "off" "I", Cond.fieldLink RX0 27 "WinderLadders$Clock" "daysSinceWound" "I", Cond.fieldLink RX0 30 "WinderLadders$Clock" "timesWound" "I", Cond.fieldLink RX0 33 "WinderLadders$Clock" "goes" "Z", Cond.methodLink RX5 61 yX4_addClock, Cond.instanceMethod yX4_addClock, Cond.selects RX4 yX4_addClock yX4_addClock, Cond.code yX4_addClock cX4_addClock 4 (some .int), Cond.static yX5_isWithin, Cond.initialized RX5, Cond.code yX5_isWithin cX5_isWithin 3 (some .boolean), Cond.methodLink RX4 58 yX0_begin, Cond.instanceMethod yX0_begin, Cond.selects RX0 yX0_begin yX0_begin]
def wsX5_hang_r3 : List Cond := [Cond.code yX0_begin cX0_begin 4 none, Cond.methodLink RX5 57 yX5_keptIfDone, Cond.instanceMethod yX5_keptIfDone, Cond.selects RX5 yX5_keptIfDone yX5_keptIfDone, Cond.code yX5_keptIfDone cX5_keptIfDone 2 (some .int), Cond.methodLink RX5 217 yX1_keepPrepared, Cond.instanceMethod yX1_keepPrepared, Cond.selects RX1 yX1_keepPrepared yX1_keepPrepared, Cond.code yX1_keepPrepared cX1_keepPrepared 1 none, Cond.methodLink RX1 26 yX1_dropOldest, Cond.instanceMethod yX1_dropOldest, Cond.selects RX1 yX1_dropOldest yX1_dropOldest, Cond.code yX1_dropOldest cX1_dropOldest 3 none]
def wsX5_hang : List Cond := .code yX5_hang cX5_hang 4 (some .int) :: ((wsX5_hang_r1 ++ (wsX5_hang_r2 ++ wsX5_hang_r3)) ++ wsX50 ++ wsX10 ++ wsX40 ++ wsX00)
def wsX5_ladder_r1 : List Cond := [Cond.fieldLink RX5 19 "WinderLadders" "history" "LWinderLadders$History;", Cond.fieldLink RX5 12 "WinderLadders" "now" "LWinderLadders$State;", Cond.methodLink RX5 49 yX1_prepare, Cond.instanceMethod yX1_prepare, Cond.selects RX1 yX1_prepare yX1_prepare, Cond.initialized RX1, Cond.code yX1_prepare cX1_prepare 2 none, Cond.fieldLink RX1 18 "WinderLadders$History" "depth" "I", Cond.fieldLink RX1 11 "WinderLadders$History" "states" "[LWinderLadders$State;", Cond.methodLink RX1 22 yX4_copyFrom, Cond.instanceMethod yX4_copyFrom, Cond.selects RX4 yX4_copyFrom yX4_copyFrom, Cond.initialized RX4, Cond.code yX4_copyFrom cX4_copyFrom 3 none, Cond.fieldLink RX4 9 "WinderLadders$State" "settings" "[I", Cond.methodLink RX4 27 arraycopyName, Cond.native arraycopyName, Cond.static arraycopyName, Cond.initialized "java/lang/System", Cond.fieldLink RX4 21 "WinderLadders$State" "ladders" "[I", Cond.fieldLink RX4 34 "WinderLadders$State" "clockCount" "I", Cond.fieldLink RX4 17 "WinderLadders$State" "clocks" "[LWinderLadders$Clock;", Cond.fieldLink RX4 42 "WinderLadders$State" "ladderCount" "I", Cond.fieldLink RX4 45 "WinderLadders$State" "days" "I"]
def wsX5_ladder_r2 : List Cond := [Cond.fieldLink RX4 48 "WinderLadders$State" "minutes" "I", Cond.methodLink RX4 38 yX0_copyFrom, Cond.instanceMethod yX0_copyFrom, Cond.selects RX0 yX0_copyFrom yX0_copyFrom, Cond.initialized RX0, Cond.code yX0_copyFrom cX0_copyFrom 2 none, Cond.fieldLink RX0 9 "WinderLadders$Clock" "house" "I", Cond.fieldLink RX0 15 "WinderLadders$Clock" "rungs" "I", Cond.fieldLink RX0 18 "WinderLadders$Clock" "drift" "I", Cond.fieldLink RX0 21 "WinderLadders$Clock" "screw" "I", Cond.fieldLink RX0 24 "WinderLadders$Clock" "off" "I", Cond.fieldLink RX0 27 "WinderLadders$Clock" "daysSinceWound" "I", Cond.fieldLink RX0 30 "WinderLadders$Clock" "timesWound" "I", Cond.fieldLink RX0 33 "WinderLadders$Clock" "goes" "Z", Cond.methodLink RX5 65 yX4_addLadder, Cond.instanceMethod yX4_addLadder, Cond.selects RX4 yX4_addLadder yX4_addLadder, Cond.code yX4_addLadder cX4_addLadder 2 (some .int), Cond.static yX5_isWithin, Cond.initialized RX5, Cond.code yX5_isWithin cX5_isWithin 3 (some .boolean), Cond.methodLink RX5 57 yX5_keptIfDone, Cond.instanceMethod yX5_keptIfDone, Cond.selects RX5 yX5_keptIfDone yX5_keptIfDone]
def wsX5_ladder_r3 : List Cond := [Cond.code yX5_keptIfDone cX5_keptIfDone 2 (some .int), Cond.methodLink RX5 217 yX1_keepPrepared, Cond.instanceMethod yX1_keepPrepared, Cond.selects RX1 yX1_keepPrepared yX1_keepPrepared, Cond.code yX1_keepPrepared cX1_keepPrepared 1 none, Cond.methodLink RX1 26 yX1_dropOldest, Cond.instanceMethod yX1_dropOldest, Cond.selects RX1 yX1_dropOldest yX1_dropOldest, Cond.code yX1_dropOldest cX1_dropOldest 3 none]
def wsX5_ladder : List Cond := .code yX5_ladder cX5_ladder 2 (some .int) :: ((wsX5_ladder_r1 ++ (wsX5_ladder_r2 ++ wsX5_ladder_r3)) ++ wsX50 ++ wsX10 ++ wsX40 ++ wsX00)
def wsX5_screw_r1 : List Cond := [Cond.fieldLink RX5 19 "WinderLadders" "history" "LWinderLadders$History;", Cond.fieldLink RX5 12 "WinderLadders" "now" "LWinderLadders$State;", Cond.methodLink RX5 49 yX1_prepare, Cond.instanceMethod yX1_prepare, Cond.selects RX1 yX1_prepare yX1_prepare, Cond.initialized RX1, Cond.code yX1_prepare cX1_prepare 2 none, Cond.fieldLink RX1 18 "WinderLadders$History" "depth" "I", Cond.fieldLink RX1 11 "WinderLadders$History" "states" "[LWinderLadders$State;", Cond.methodLink RX1 22 yX4_copyFrom, Cond.instanceMethod yX4_copyFrom, Cond.selects RX4 yX4_copyFrom yX4_copyFrom, Cond.initialized RX4, Cond.code yX4_copyFrom cX4_copyFrom 3 none, Cond.fieldLink RX4 9 "WinderLadders$State" "settings" "[I", Cond.methodLink RX4 27 arraycopyName, Cond.native arraycopyName, Cond.static arraycopyName, Cond.initialized "java/lang/System", Cond.fieldLink RX4 21 "WinderLadders$State" "ladders" "[I", Cond.fieldLink RX4 34 "WinderLadders$State" "clockCount" "I", Cond.fieldLink RX4 17 "WinderLadders$State" "clocks" "[LWinderLadders$Clock;", Cond.fieldLink RX4 42 "WinderLadders$State" "ladderCount" "I", Cond.fieldLink RX4 45 "WinderLadders$State" "days" "I"]
def wsX5_screw_r2 : List Cond := [Cond.fieldLink RX4 48 "WinderLadders$State" "minutes" "I", Cond.methodLink RX4 38 yX0_copyFrom, Cond.instanceMethod yX0_copyFrom, Cond.selects RX0 yX0_copyFrom yX0_copyFrom, Cond.initialized RX0, Cond.code yX0_copyFrom cX0_copyFrom 2 none, Cond.fieldLink RX0 9 "WinderLadders$Clock" "house" "I", Cond.fieldLink RX0 15 "WinderLadders$Clock" "rungs" "I", Cond.fieldLink RX0 18 "WinderLadders$Clock" "drift" "I", Cond.fieldLink RX0 21 "WinderLadders$Clock" "screw" "I", Cond.fieldLink RX0 24 "WinderLadders$Clock" "off" "I", Cond.fieldLink RX0 27 "WinderLadders$Clock" "daysSinceWound" "I", Cond.fieldLink RX0 30 "WinderLadders$Clock" "timesWound" "I", Cond.fieldLink RX0 33 "WinderLadders$Clock" "goes" "Z", Cond.methodLink RX5 68 yX4_turnScrew, Cond.instanceMethod yX4_turnScrew, Cond.selects RX4 yX4_turnScrew yX4_turnScrew, Cond.code yX4_turnScrew cX4_turnScrew 4 (some .int), Cond.fieldLink RX4 66 "WinderLadders$Clock" "screw" "I", Cond.methodLink RX4 62 yX4_hasClock, Cond.instanceMethod yX4_hasClock, Cond.selects RX4 yX4_hasClock yX4_hasClock, Cond.code yX4_hasClock cX4_hasClock 2 (some .boolean), Cond.static yX5_isWithin]
def wsX5_screw_r3 : List Cond := [Cond.initialized RX5, Cond.code yX5_isWithin cX5_isWithin 3 (some .boolean), Cond.methodLink RX5 57 yX5_keptIfDone, Cond.instanceMethod yX5_keptIfDone, Cond.selects RX5 yX5_keptIfDone yX5_keptIfDone, Cond.code yX5_keptIfDone cX5_keptIfDone 2 (some .int), Cond.methodLink RX5 217 yX1_keepPrepared, Cond.instanceMethod yX1_keepPrepared, Cond.selects RX1 yX1_keepPrepared yX1_keepPrepared, Cond.code yX1_keepPrepared cX1_keepPrepared 1 none, Cond.methodLink RX1 26 yX1_dropOldest, Cond.instanceMethod yX1_dropOldest, Cond.selects RX1 yX1_dropOldest yX1_dropOldest, Cond.code yX1_dropOldest cX1_dropOldest 3 none]
def wsX5_screw : List Cond := .code yX5_screw cX5_screw 3 (some .int) :: ((wsX5_screw_r1 ++ (wsX5_screw_r2 ++ wsX5_screw_r3)) ++ wsX50 ++ wsX10 ++ wsX40 ++ wsX00)
def wsX5_chooseRow : List Cond := .code yX5_chooseRow cX5_chooseRow 3 (some .int) :: ([.fieldLink RX5 41 "WinderLadders" "row" "LWinderLadders$Row;", .fieldLink RX5 12 "WinderLadders" "now" "LWinderLadders$State;", .fieldLink RX5 144 "WinderLadders$State" "clockCount" "I", .fieldLink RX5 226 "WinderLadders$Row" "length" "I", .methodLink RX5 220 yX3_clear, .instanceMethod yX3_clear, .selects RX3 yX3_clear yX3_clear, .initialized RX3, .code yX3_clear cX3_clear 1 none, .fieldLink RX3 15 "WinderLadders$Row" "length" "I", .methodLink RX5 223 yX3_add, .instanceMethod yX3_add, .selects RX3 yX3_add yX3_add, .code yX3_add cX3_add 2 (some .boolean), .fieldLink RX3 9 "WinderLadders$Row" "numbers" "[I"] ++ wsX50 ++ wsX40 ++ wsX30)
def wsX5_round_r1 : List Cond := [Cond.fieldLink RX5 19 "WinderLadders" "history" "LWinderLadders$History;", Cond.fieldLink RX5 12 "WinderLadders" "now" "LWinderLadders$State;", Cond.fieldLink RX5 41 "WinderLadders" "row" "LWinderLadders$Row;", Cond.methodLink RX5 71 yX5_chooseRow, Cond.instanceMethod yX5_chooseRow, Cond.selects RX5 yX5_chooseRow yX5_chooseRow, Cond.initialized RX5, Cond.code yX5_chooseRow cX5_chooseRow 3 (some .int), Cond.fieldLink RX5 144 "WinderLadders$State" "clockCount" "I", Cond.fieldLink RX5 226 "WinderLadders$Row" "length" "I", Cond.methodLink RX5 220 yX3_clear, Cond.instanceMethod yX3_clear, Cond.selects RX3 yX3_clear yX3_clear, Cond.initialized RX3, Cond.code yX3_clear cX3_clear 1 none, Cond.fieldLink RX3 15 "WinderLadders$Row" "length" "I", Cond.methodLink RX5 223 yX3_add, Cond.instanceMethod yX3_add, Cond.selects RX3 yX3_add yX3_add, Cond.code yX3_add cX3_add 2 (some .boolean), Cond.fieldLink RX3 9 "WinderLadders$Row" "numbers" "[I", Cond.methodLink RX5 49 yX1_prepare, Cond.instanceMethod yX1_prepare, Cond.selects RX1 yX1_prepare yX1_prepare]
def wsX5_round_r2 : List Cond := [Cond.initialized RX1, Cond.code yX1_prepare cX1_prepare 2 none, Cond.fieldLink RX1 18 "WinderLadders$History" "depth" "I", Cond.fieldLink RX1 11 "WinderLadders$History" "states" "[LWinderLadders$State;", Cond.methodLink RX1 22 yX4_copyFrom, Cond.instanceMethod yX4_copyFrom, Cond.selects RX4 yX4_copyFrom yX4_copyFrom, Cond.initialized RX4, Cond.code yX4_copyFrom cX4_copyFrom 3 none, Cond.fieldLink RX4 9 "WinderLadders$State" "settings" "[I", Cond.methodLink RX4 27 arraycopyName, Cond.native arraycopyName, Cond.static arraycopyName, Cond.initialized "java/lang/System", Cond.fieldLink RX4 21 "WinderLadders$State" "ladders" "[I", Cond.fieldLink RX4 34 "WinderLadders$State" "clockCount" "I", Cond.fieldLink RX4 17 "WinderLadders$State" "clocks" "[LWinderLadders$Clock;", Cond.fieldLink RX4 42 "WinderLadders$State" "ladderCount" "I", Cond.fieldLink RX4 45 "WinderLadders$State" "days" "I", Cond.fieldLink RX4 48 "WinderLadders$State" "minutes" "I", Cond.methodLink RX4 38 yX0_copyFrom, Cond.instanceMethod yX0_copyFrom, Cond.selects RX0 yX0_copyFrom yX0_copyFrom, Cond.initialized RX0]
def wsX5_round_r3 : List Cond := [Cond.code yX0_copyFrom cX0_copyFrom 2 none, Cond.fieldLink RX0 9 "WinderLadders$Clock" "house" "I", Cond.fieldLink RX0 15 "WinderLadders$Clock" "rungs" "I", Cond.fieldLink RX0 18 "WinderLadders$Clock" "drift" "I", Cond.fieldLink RX0 21 "WinderLadders$Clock" "screw" "I", Cond.fieldLink RX0 24 "WinderLadders$Clock" "off" "I", Cond.fieldLink RX0 27 "WinderLadders$Clock" "daysSinceWound" "I", Cond.fieldLink RX0 30 "WinderLadders$Clock" "timesWound" "I", Cond.fieldLink RX0 33 "WinderLadders$Clock" "goes" "Z", Cond.methodLink RX5 74 yX4_walkBeat, Cond.instanceMethod yX4_walkBeat, Cond.selects RX4 yX4_walkBeat yX4_walkBeat, Cond.code yX4_walkBeat cX4_walkBeat 5 (some .int), Cond.fieldLink RX4 88 "WinderLadders$Row" "length" "I", Cond.methodLink RX4 84 yX4_minutesOf, Cond.instanceMethod yX4_minutesOf, Cond.selects RX4 yX4_minutesOf yX4_minutesOf, Cond.code yX4_minutesOf cX4_minutesOf 10 (some .int), Cond.fieldLink RX4 104 "WinderLadders$Clock" "house" "I", Cond.methodLink RX4 107 Lib.Math.abs.name, Cond.static Lib.Math.abs.name, Cond.initialized "java/lang/Math", Cond.code Lib.Math.abs.name Lib.Math.abs.code 1 (some .int), Cond.methodLink RX4 93 yX3_at]
def wsX5_round_r4 : List Cond := [Cond.instanceMethod yX3_at, Cond.selects RX3 yX3_at yX3_at, Cond.code yX3_at cX3_at 2 (some .int), Cond.methodLink RX4 62 yX4_hasClock, Cond.instanceMethod yX4_hasClock, Cond.selects RX4 yX4_hasClock yX4_hasClock, Cond.code yX4_hasClock cX4_hasClock 2 (some .boolean), Cond.methodLink RX4 112 yX4_ladderNeeded, Cond.instanceMethod yX4_ladderNeeded, Cond.selects RX4 yX4_ladderNeeded yX4_ladderNeeded, Cond.code yX4_ladderNeeded cX4_ladderNeeded 5 (some .int), Cond.fieldLink RX4 116 "WinderLadders$Clock" "rungs" "I", Cond.methodLink RX4 97 yX4_canBeWound, Cond.instanceMethod yX4_canBeWound, Cond.selects RX4 yX4_canBeWound yX4_canBeWound, Cond.code yX4_canBeWound cX4_canBeWound 2 (some .boolean), Cond.methodLink RX4 101 yX0_windAndSet, Cond.instanceMethod yX0_windAndSet, Cond.selects RX0 yX0_windAndSet yX0_windAndSet, Cond.code yX0_windAndSet cX0_windAndSet 2 none, Cond.methodLink RX0 48 yX0_isOffBeyond, Cond.instanceMethod yX0_isOffBeyond, Cond.selects RX0 yX0_isOffBeyond yX0_isOffBeyond, Cond.code yX0_isOffBeyond cX0_isOffBeyond 2 (some .boolean)]
def wsX5_round_r5 : List Cond := [Cond.methodLink RX0 37 Lib.Math.abs.name, Cond.methodLink RX0 52 yX0_turnByRule, Cond.instanceMethod yX0_turnByRule, Cond.selects RX0 yX0_turnByRule yX0_turnByRule, Cond.code yX0_turnByRule cX0_turnByRule 2 none, Cond.methodLink RX0 43 yX0_driftWithScrew, Cond.instanceMethod yX0_driftWithScrew, Cond.selects RX0 yX0_driftWithScrew yX0_driftWithScrew, Cond.code yX0_driftWithScrew cX0_driftWithScrew 1 (some .int), Cond.methodLink RX5 57 yX5_keptIfDone, Cond.instanceMethod yX5_keptIfDone, Cond.selects RX5 yX5_keptIfDone yX5_keptIfDone, Cond.code yX5_keptIfDone cX5_keptIfDone 2 (some .int), Cond.methodLink RX5 217 yX1_keepPrepared, Cond.instanceMethod yX1_keepPrepared, Cond.selects RX1 yX1_keepPrepared yX1_keepPrepared, Cond.code yX1_keepPrepared cX1_keepPrepared 1 none, Cond.methodLink RX1 26 yX1_dropOldest, Cond.instanceMethod yX1_dropOldest, Cond.selects RX1 yX1_dropOldest yX1_dropOldest, Cond.code yX1_dropOldest cX1_dropOldest 3 none]
def wsX5_round : List Cond := .code yX5_round cX5_round 3 (some .int) :: ((wsX5_round_r1 ++ (wsX5_round_r2 ++ (wsX5_round_r3 ++ (wsX5_round_r4 ++ wsX5_round_r5)))) ++ wsX50 ++ wsX40 ++ wsX30 ++ wsX10 ++ wsX00)
def wsX5_pass_r1 : List Cond := [Cond.fieldLink RX5 19 "WinderLadders" "history" "LWinderLadders$History;", Cond.fieldLink RX5 12 "WinderLadders" "now" "LWinderLadders$State;", Cond.methodLink RX5 49 yX1_prepare, Cond.instanceMethod yX1_prepare, Cond.selects RX1 yX1_prepare yX1_prepare, Cond.initialized RX1, Cond.code yX1_prepare cX1_prepare 2 none, Cond.fieldLink RX1 18 "WinderLadders$History" "depth" "I", Cond.fieldLink RX1 11 "WinderLadders$History" "states" "[LWinderLadders$State;", Cond.methodLink RX1 22 yX4_copyFrom, Cond.instanceMethod yX4_copyFrom, Cond.selects RX4 yX4_copyFrom yX4_copyFrom, Cond.initialized RX4, Cond.code yX4_copyFrom cX4_copyFrom 3 none, Cond.fieldLink RX4 9 "WinderLadders$State" "settings" "[I", Cond.methodLink RX4 27 arraycopyName, Cond.native arraycopyName, Cond.static arraycopyName, Cond.initialized "java/lang/System", Cond.fieldLink RX4 21 "WinderLadders$State" "ladders" "[I", Cond.fieldLink RX4 34 "WinderLadders$State" "clockCount" "I", Cond.fieldLink RX4 17 "WinderLadders$State" "clocks" "[LWinderLadders$Clock;", Cond.fieldLink RX4 42 "WinderLadders$State" "ladderCount" "I", Cond.fieldLink RX4 45 "WinderLadders$State" "days" "I"]
def wsX5_pass_r2 : List Cond := [Cond.fieldLink RX4 48 "WinderLadders$State" "minutes" "I", Cond.methodLink RX4 38 yX0_copyFrom, Cond.instanceMethod yX0_copyFrom, Cond.selects RX0 yX0_copyFrom yX0_copyFrom, Cond.initialized RX0, Cond.code yX0_copyFrom cX0_copyFrom 2 none, Cond.fieldLink RX0 9 "WinderLadders$Clock" "house" "I", Cond.fieldLink RX0 15 "WinderLadders$Clock" "rungs" "I", Cond.fieldLink RX0 18 "WinderLadders$Clock" "drift" "I", Cond.fieldLink RX0 21 "WinderLadders$Clock" "screw" "I", Cond.fieldLink RX0 24 "WinderLadders$Clock" "off" "I", Cond.fieldLink RX0 27 "WinderLadders$Clock" "daysSinceWound" "I", Cond.fieldLink RX0 30 "WinderLadders$Clock" "timesWound" "I", Cond.fieldLink RX0 33 "WinderLadders$Clock" "goes" "Z", Cond.methodLink RX5 78 yX4_passDays, Cond.instanceMethod yX4_passDays, Cond.selects RX4 yX4_passDays yX4_passDays, Cond.code yX4_passDays cX4_passDays 4 (some .int), Cond.static yX5_isWithin, Cond.initialized RX5, Cond.code yX5_isWithin cX5_isWithin 3 (some .boolean), Cond.methodLink RX4 69 yX0_passDay, Cond.instanceMethod yX0_passDay, Cond.selects RX0 yX0_passDay yX0_passDay]
def wsX5_pass_r3 : List Cond := [Cond.code yX0_passDay cX0_passDay 2 none, Cond.constant RX0 47 (43200), Cond.methodLink RX0 43 yX0_driftWithScrew, Cond.instanceMethod yX0_driftWithScrew, Cond.selects RX0 yX0_driftWithScrew yX0_driftWithScrew, Cond.code yX0_driftWithScrew cX0_driftWithScrew 1 (some .int), Cond.methodLink RX4 73 yX4_numberThatGo, Cond.instanceMethod yX4_numberThatGo, Cond.selects RX4 yX4_numberThatGo yX4_numberThatGo, Cond.code yX4_numberThatGo cX4_numberThatGo 3 (some .int), Cond.fieldLink RX4 77 "WinderLadders$Clock" "goes" "Z", Cond.methodLink RX5 57 yX5_keptIfDone, Cond.instanceMethod yX5_keptIfDone, Cond.selects RX5 yX5_keptIfDone yX5_keptIfDone, Cond.code yX5_keptIfDone cX5_keptIfDone 2 (some .int), Cond.methodLink RX5 217 yX1_keepPrepared, Cond.instanceMethod yX1_keepPrepared, Cond.selects RX1 yX1_keepPrepared yX1_keepPrepared, Cond.code yX1_keepPrepared cX1_keepPrepared 1 none, Cond.methodLink RX1 26 yX1_dropOldest, Cond.instanceMethod yX1_dropOldest, Cond.selects RX1 yX1_dropOldest yX1_dropOldest, Cond.code yX1_dropOldest cX1_dropOldest 3 none]
def wsX5_pass : List Cond := .code yX5_pass cX5_pass 2 (some .int) :: ((wsX5_pass_r1 ++ (wsX5_pass_r2 ++ wsX5_pass_r3)) ++ wsX50 ++ wsX10 ++ wsX40 ++ wsX00)
def wsX5_change_r1 : List Cond := [Cond.fieldLink RX5 19 "WinderLadders" "history" "LWinderLadders$History;", Cond.fieldLink RX5 12 "WinderLadders" "now" "LWinderLadders$State;", Cond.methodLink RX5 49 yX1_prepare, Cond.instanceMethod yX1_prepare, Cond.selects RX1 yX1_prepare yX1_prepare, Cond.initialized RX1, Cond.code yX1_prepare cX1_prepare 2 none, Cond.fieldLink RX1 18 "WinderLadders$History" "depth" "I", Cond.fieldLink RX1 11 "WinderLadders$History" "states" "[LWinderLadders$State;", Cond.methodLink RX1 22 yX4_copyFrom, Cond.instanceMethod yX4_copyFrom, Cond.selects RX4 yX4_copyFrom yX4_copyFrom, Cond.initialized RX4, Cond.code yX4_copyFrom cX4_copyFrom 3 none, Cond.fieldLink RX4 9 "WinderLadders$State" "settings" "[I", Cond.methodLink RX4 27 arraycopyName, Cond.native arraycopyName, Cond.static arraycopyName, Cond.initialized "java/lang/System", Cond.fieldLink RX4 21 "WinderLadders$State" "ladders" "[I", Cond.fieldLink RX4 34 "WinderLadders$State" "clockCount" "I", Cond.fieldLink RX4 17 "WinderLadders$State" "clocks" "[LWinderLadders$Clock;", Cond.fieldLink RX4 42 "WinderLadders$State" "ladderCount" "I", Cond.fieldLink RX4 45 "WinderLadders$State" "days" "I"]
def wsX5_change_r2 : List Cond := [Cond.fieldLink RX4 48 "WinderLadders$State" "minutes" "I", Cond.methodLink RX4 38 yX0_copyFrom, Cond.instanceMethod yX0_copyFrom, Cond.selects RX0 yX0_copyFrom yX0_copyFrom, Cond.initialized RX0, Cond.code yX0_copyFrom cX0_copyFrom 2 none, Cond.fieldLink RX0 9 "WinderLadders$Clock" "house" "I", Cond.fieldLink RX0 15 "WinderLadders$Clock" "rungs" "I", Cond.fieldLink RX0 18 "WinderLadders$Clock" "drift" "I", Cond.fieldLink RX0 21 "WinderLadders$Clock" "screw" "I", Cond.fieldLink RX0 24 "WinderLadders$Clock" "off" "I", Cond.fieldLink RX0 27 "WinderLadders$Clock" "daysSinceWound" "I", Cond.fieldLink RX0 30 "WinderLadders$Clock" "timesWound" "I", Cond.fieldLink RX0 33 "WinderLadders$Clock" "goes" "Z", Cond.methodLink RX5 81 yX4_changeClocks, Cond.instanceMethod yX4_changeClocks, Cond.selects RX4 yX4_changeClocks yX4_changeClocks, Cond.code yX4_changeClocks cX4_changeClocks 4 (some .int), Cond.fieldLink RX4 77 "WinderLadders$Clock" "goes" "Z", Cond.fieldLink RX4 81 "WinderLadders$Clock" "off" "I", Cond.methodLink RX4 73 yX4_numberThatGo, Cond.instanceMethod yX4_numberThatGo, Cond.selects RX4 yX4_numberThatGo yX4_numberThatGo, Cond.code yX4_numberThatGo cX4_numberThatGo 3 (some .int)]
def wsX5_change_r3 : List Cond := [Cond.methodLink RX5 57 yX5_keptIfDone, Cond.instanceMethod yX5_keptIfDone, Cond.selects RX5 yX5_keptIfDone yX5_keptIfDone, Cond.initialized RX5, Cond.code yX5_keptIfDone cX5_keptIfDone 2 (some .int), Cond.methodLink RX5 217 yX1_keepPrepared, Cond.instanceMethod yX1_keepPrepared, Cond.selects RX1 yX1_keepPrepared yX1_keepPrepared, Cond.code yX1_keepPrepared cX1_keepPrepared 1 none, Cond.methodLink RX1 26 yX1_dropOldest, Cond.instanceMethod yX1_dropOldest, Cond.selects RX1 yX1_dropOldest yX1_dropOldest, Cond.code yX1_dropOldest cX1_dropOldest 3 none]
def wsX5_change : List Cond := .code yX5_change cX5_change 2 (some .int) :: ((wsX5_change_r1 ++ (wsX5_change_r2 ++ wsX5_change_r3)) ++ wsX50 ++ wsX10 ++ wsX40 ++ wsX00)
def wsX5_of_r1 : List Cond := [Cond.fieldLink RX5 12 "WinderLadders" "now" "LWinderLadders$State;", Cond.fieldLink RX5 88 "WinderLadders$State" "clocks" "[LWinderLadders$Clock;", Cond.fieldLink RX5 92 "WinderLadders$Clock" "house" "I", Cond.fieldLink RX5 98 "WinderLadders$Clock" "rungs" "I", Cond.fieldLink RX5 101 "WinderLadders$Clock" "drift" "I", Cond.fieldLink RX5 104 "WinderLadders$Clock" "screw" "I", Cond.fieldLink RX5 107 "WinderLadders$Clock" "off" "I", Cond.constant RX5 110 (1000000000), Cond.fieldLink RX5 111 "WinderLadders$Clock" "daysSinceWound" "I", Cond.fieldLink RX5 114 "WinderLadders$Clock" "goes" "Z", Cond.fieldLink RX5 118 "WinderLadders$State" "settings" "[I", Cond.fieldLink RX5 132 "WinderLadders$Clock" "timesWound" "I", Cond.methodLink RX5 84 yX4_hasClock, Cond.instanceMethod yX4_hasClock, Cond.selects RX4 yX4_hasClock yX4_hasClock, Cond.initialized RX4, Cond.code yX4_hasClock cX4_hasClock 2 (some .boolean), Cond.fieldLink RX4 34 "WinderLadders$State" "clockCount" "I", Cond.methodLink RX5 121 yX0_isOffBeyond, Cond.instanceMethod yX0_isOffBeyond, Cond.selects RX0 yX0_isOffBeyond yX0_isOffBeyond, Cond.initialized RX0, Cond.code yX0_isOffBeyond cX0_isOffBeyond 2 (some .boolean), Cond.fieldLink RX0 24 "WinderLadders$Clock" "off" "I"]
def wsX5_of_r2 : List Cond := [Cond.methodLink RX0 37 Lib.Math.abs.name, Cond.static Lib.Math.abs.name, Cond.initialized "java/lang/Math", Cond.code Lib.Math.abs.name Lib.Math.abs.code 1 (some .int), Cond.methodLink RX5 124 yX4_ladderNeeded, Cond.instanceMethod yX4_ladderNeeded, Cond.selects RX4 yX4_ladderNeeded yX4_ladderNeeded, Cond.code yX4_ladderNeeded cX4_ladderNeeded 5 (some .int), Cond.fieldLink RX4 116 "WinderLadders$Clock" "rungs" "I", Cond.fieldLink RX4 42 "WinderLadders$State" "ladderCount" "I", Cond.fieldLink RX4 21 "WinderLadders$State" "ladders" "[I", Cond.methodLink RX5 128 yX4_canBeWound, Cond.instanceMethod yX4_canBeWound, Cond.selects RX4 yX4_canBeWound yX4_canBeWound, Cond.code yX4_canBeWound cX4_canBeWound 2 (some .boolean), Cond.methodLink RX4 112 yX4_ladderNeeded]
def wsX5_of : List Cond := .code yX5_of cX5_of 4 (some .int) :: ((wsX5_of_r1 ++ wsX5_of_r2) ++ wsX50 ++ wsX40 ++ wsX00)
def wsX5_ofLadder : List Cond := .code yX5_ofLadder cX5_ofLadder 2 (some .int) :: ([.fieldLink RX5 12 "WinderLadders" "now" "LWinderLadders$State;", .fieldLink RX5 138 "WinderLadders$State" "ladders" "[I", .methodLink RX5 135 yX4_hasLadder, .instanceMethod yX4_hasLadder, .selects RX4 yX4_hasLadder yX4_hasLadder, .initialized RX4, .code yX4_hasLadder cX4_hasLadder 2 (some .boolean), .fieldLink RX4 42 "WinderLadders$State" "ladderCount" "I"] ++ wsX50 ++ wsX40)
def wsX5_count_r1 : List Cond := [Cond.fieldLink RX5 12 "WinderLadders" "now" "LWinderLadders$State;", Cond.fieldLink RX5 141 "WinderLadders$State" "days" "I", Cond.fieldLink RX5 144 "WinderLadders$State" "clockCount" "I", Cond.fieldLink RX5 147 "WinderLadders$State" "ladderCount" "I", Cond.fieldLink RX5 160 "WinderLadders$State" "minutes" "I", Cond.fieldLink RX5 118 "WinderLadders$State" "settings" "[I", Cond.fieldLink RX5 34 "WinderLadders" "pad" "LWinderLadders$Pad;", Cond.fieldLink RX5 166 "WinderLadders$Pad" "length" "I", Cond.fieldLink RX5 19 "WinderLadders" "history" "LWinderLadders$History;", Cond.fieldLink RX5 169 "WinderLadders$History" "depth" "I", Cond.methodLink RX5 150 yX4_setOfStill, Cond.instanceMethod yX4_setOfStill, Cond.selects RX4 yX4_setOfStill yX4_setOfStill, Cond.initialized RX4, Cond.code yX4_setOfStill cX4_setOfStill 3 (some .int), Cond.fieldLink RX4 34 "WinderLadders$State" "clockCount" "I", Cond.fieldLink RX4 17 "WinderLadders$State" "clocks" "[LWinderLadders$Clock;", Cond.fieldLink RX4 77 "WinderLadders$Clock" "goes" "Z", Cond.methodLink RX5 154 yX4_numberOffBeyondTold, Cond.instanceMethod yX4_numberOffBeyondTold, Cond.selects RX4 yX4_numberOffBeyondTold yX4_numberOffBeyondTold, Cond.code yX4_numberOffBeyondTold cX4_numberOffBeyondTold 3 (some .int), Cond.fieldLink RX4 9 "WinderLadders$State" "settings" "[I", Cond.methodLink RX4 119 yX0_isOffBeyond]
def wsX5_count_r2 : List Cond := [Cond.instanceMethod yX0_isOffBeyond, Cond.selects RX0 yX0_isOffBeyond yX0_isOffBeyond, Cond.initialized RX0, Cond.code yX0_isOffBeyond cX0_isOffBeyond 2 (some .boolean), Cond.fieldLink RX0 24 "WinderLadders$Clock" "off" "I", Cond.methodLink RX0 37 Lib.Math.abs.name, Cond.static Lib.Math.abs.name, Cond.initialized "java/lang/Math", Cond.code Lib.Math.abs.name Lib.Math.abs.code 1 (some .int), Cond.methodLink RX5 157 yX4_numberThatCannotBeWound, Cond.instanceMethod yX4_numberThatCannotBeWound, Cond.selects RX4 yX4_numberThatCannotBeWound yX4_numberThatCannotBeWound, Cond.code yX4_numberThatCannotBeWound cX4_numberThatCannotBeWound 3 (some .int), Cond.methodLink RX4 97 yX4_canBeWound, Cond.instanceMethod yX4_canBeWound, Cond.selects RX4 yX4_canBeWound yX4_canBeWound, Cond.code yX4_canBeWound cX4_canBeWound 2 (some .boolean), Cond.fieldLink RX4 116 "WinderLadders$Clock" "rungs" "I", Cond.methodLink RX4 112 yX4_ladderNeeded, Cond.instanceMethod yX4_ladderNeeded, Cond.selects RX4 yX4_ladderNeeded yX4_ladderNeeded, Cond.code yX4_ladderNeeded cX4_ladderNeeded 5 (some .int), Cond.fieldLink RX4 42 "WinderLadders$State" "ladderCount" "I", Cond.fieldLink RX4 21 "WinderLadders$State" "ladders" "[I"]
def wsX5_count_r3 : List Cond := [Cond.methodLink RX5 163 yX4_timesWoundInAll, Cond.instanceMethod yX4_timesWoundInAll, Cond.selects RX4 yX4_timesWoundInAll yX4_timesWoundInAll, Cond.code yX4_timesWoundInAll cX4_timesWoundInAll 3 (some .int), Cond.fieldLink RX4 122 "WinderLadders$Clock" "timesWound" "I"]
def wsX5_count : List Cond := .code yX5_count cX5_count 2 (some .int) :: ((wsX5_count_r1 ++ (wsX5_count_r2 ++ wsX5_count_r3)) ++ wsX50 ++ wsX40 ++ wsX20 ++ wsX10 ++ wsX00)
def wsX5_takes_r1 : List Cond := [Cond.fieldLink RX5 12 "WinderLadders" "now" "LWinderLadders$State;", Cond.fieldLink RX5 41 "WinderLadders" "row" "LWinderLadders$Row;", Cond.methodLink RX5 71 yX5_chooseRow, Cond.instanceMethod yX5_chooseRow, Cond.selects RX5 yX5_chooseRow yX5_chooseRow, Cond.initialized RX5, Cond.code yX5_chooseRow cX5_chooseRow 3 (some .int), Cond.fieldLink RX5 144 "WinderLadders$State" "clockCount" "I", Cond.fieldLink RX5 226 "WinderLadders$Row" "length" "I", Cond.methodLink RX5 220 yX3_clear, Cond.instanceMethod yX3_clear, Cond.selects RX3 yX3_clear yX3_clear, Cond.initialized RX3, Cond.code yX3_clear cX3_clear 1 none, Cond.fieldLink RX3 15 "WinderLadders$Row" "length" "I", Cond.methodLink RX5 223 yX3_add, Cond.instanceMethod yX3_add, Cond.selects RX3 yX3_add yX3_add, Cond.code yX3_add cX3_add 2 (some .boolean), Cond.fieldLink RX3 9 "WinderLadders$Row" "numbers" "[I", Cond.methodLink RX5 172 yX4_minutesOf, Cond.instanceMethod yX4_minutesOf, Cond.selects RX4 yX4_minutesOf yX4_minutesOf, Cond.initialized RX4]
def wsX5_takes_r2 : List Cond := [Cond.code yX4_minutesOf cX4_minutesOf 10 (some .int), Cond.fieldLink RX4 88 "WinderLadders$Row" "length" "I", Cond.fieldLink RX4 17 "WinderLadders$State" "clocks" "[LWinderLadders$Clock;", Cond.fieldLink RX4 104 "WinderLadders$Clock" "house" "I", Cond.methodLink RX4 107 Lib.Math.abs.name, Cond.static Lib.Math.abs.name, Cond.initialized "java/lang/Math", Cond.code Lib.Math.abs.name Lib.Math.abs.code 1 (some .int), Cond.fieldLink RX4 9 "WinderLadders$State" "settings" "[I", Cond.methodLink RX4 93 yX3_at, Cond.instanceMethod yX3_at, Cond.selects RX3 yX3_at yX3_at, Cond.code yX3_at cX3_at 2 (some .int), Cond.methodLink RX4 62 yX4_hasClock, Cond.instanceMethod yX4_hasClock, Cond.selects RX4 yX4_hasClock yX4_hasClock, Cond.code yX4_hasClock cX4_hasClock 2 (some .boolean), Cond.fieldLink RX4 34 "WinderLadders$State" "clockCount" "I", Cond.methodLink RX4 112 yX4_ladderNeeded, Cond.instanceMethod yX4_ladderNeeded, Cond.selects RX4 yX4_ladderNeeded yX4_ladderNeeded, Cond.code yX4_ladderNeeded cX4_ladderNeeded 5 (some .int), Cond.fieldLink RX4 116 "WinderLadders$Clock" "rungs" "I", Cond.fieldLink RX4 42 "WinderLadders$State" "ladderCount" "I"]
def wsX5_takes_r3 : List Cond := [Cond.fieldLink RX4 21 "WinderLadders$State" "ladders" "[I", Cond.methodLink RX4 97 yX4_canBeWound, Cond.instanceMethod yX4_canBeWound, Cond.selects RX4 yX4_canBeWound yX4_canBeWound, Cond.code yX4_canBeWound cX4_canBeWound 2 (some .boolean)]
def wsX5_takes : List Cond := .code yX5_takes cX5_takes 3 (some .int) :: ((wsX5_takes_r1 ++ (wsX5_takes_r2 ++ wsX5_takes_r3)) ++ wsX50 ++ wsX40 ++ wsX30 ++ wsX00)
def wsX5_lasts_r1 : List Cond := [Cond.fieldLink RX5 12 "WinderLadders" "now" "LWinderLadders$State;", Cond.methodLink RX5 84 yX4_hasClock, Cond.instanceMethod yX4_hasClock, Cond.selects RX4 yX4_hasClock yX4_hasClock, Cond.initialized RX4, Cond.code yX4_hasClock cX4_hasClock 2 (some .boolean), Cond.fieldLink RX4 34 "WinderLadders$State" "clockCount" "I", Cond.methodLink RX5 175 yX4_daysUntilOff, Cond.instanceMethod yX4_daysUntilOff, Cond.selects RX4 yX4_daysUntilOff yX4_daysUntilOff, Cond.code yX4_daysUntilOff cX4_daysUntilOff 2 (some .int), Cond.fieldLink RX4 17 "WinderLadders$State" "clocks" "[LWinderLadders$Clock;", Cond.fieldLink RX4 9 "WinderLadders$State" "settings" "[I", Cond.methodLink RX4 62 yX4_hasClock, Cond.methodLink RX4 129 yX0_daysUntilOff, Cond.instanceMethod yX0_daysUntilOff, Cond.selects RX0 yX0_daysUntilOff yX0_daysUntilOff, Cond.initialized RX0, Cond.code yX0_daysUntilOff cX0_daysUntilOff 5 (some .int), Cond.fieldLink RX0 27 "WinderLadders$Clock" "daysSinceWound" "I", Cond.methodLink RX0 55 Lib.Math.max.name, Cond.static Lib.Math.max.name, Cond.initialized "java/lang/Math", Cond.code Lib.Math.max.name Lib.Math.max.code 2 (some .int)]
def wsX5_lasts_r2 : List Cond := [Cond.fieldLink RX0 24 "WinderLadders$Clock" "off" "I", Cond.methodLink RX0 37 Lib.Math.abs.name, Cond.static Lib.Math.abs.name, Cond.code Lib.Math.abs.name Lib.Math.abs.code 1 (some .int), Cond.methodLink RX0 48 yX0_isOffBeyond, Cond.instanceMethod yX0_isOffBeyond, Cond.selects RX0 yX0_isOffBeyond yX0_isOffBeyond, Cond.code yX0_isOffBeyond cX0_isOffBeyond 2 (some .boolean), Cond.methodLink RX0 43 yX0_driftWithScrew, Cond.instanceMethod yX0_driftWithScrew, Cond.selects RX0 yX0_driftWithScrew yX0_driftWithScrew, Cond.code yX0_driftWithScrew cX0_driftWithScrew 1 (some .int), Cond.fieldLink RX0 18 "WinderLadders$Clock" "drift" "I", Cond.fieldLink RX0 21 "WinderLadders$Clock" "screw" "I"]
def wsX5_lasts : List Cond := .code yX5_lasts cX5_lasts 2 (some .int) :: ((wsX5_lasts_r1 ++ wsX5_lasts_r2) ++ wsX50 ++ wsX40 ++ wsX00)
def wsX5_needs_r1 : List Cond := [Cond.fieldLink RX5 12 "WinderLadders" "now" "LWinderLadders$State;", Cond.fieldLink RX5 144 "WinderLadders$State" "clockCount" "I", Cond.fieldLink RX5 45 "WinderLadders" "lasting" "[I", Cond.methodLink RX5 178 yX4_tellDaysUntilOff, Cond.instanceMethod yX4_tellDaysUntilOff, Cond.selects RX4 yX4_tellDaysUntilOff yX4_tellDaysUntilOff, Cond.initialized RX4, Cond.code yX4_tellDaysUntilOff cX4_tellDaysUntilOff 3 none, Cond.fieldLink RX4 34 "WinderLadders$State" "clockCount" "I", Cond.methodLink RX4 132 yX4_daysUntilOff, Cond.instanceMethod yX4_daysUntilOff, Cond.selects RX4 yX4_daysUntilOff yX4_daysUntilOff, Cond.code yX4_daysUntilOff cX4_daysUntilOff 2 (some .int), Cond.fieldLink RX4 17 "WinderLadders$State" "clocks" "[LWinderLadders$Clock;", Cond.fieldLink RX4 9 "WinderLadders$State" "settings" "[I", Cond.methodLink RX4 62 yX4_hasClock, Cond.instanceMethod yX4_hasClock, Cond.selects RX4 yX4_hasClock yX4_hasClock, Cond.code yX4_hasClock cX4_hasClock 2 (some .boolean), Cond.methodLink RX4 129 yX0_daysUntilOff, Cond.instanceMethod yX0_daysUntilOff, Cond.selects RX0 yX0_daysUntilOff yX0_daysUntilOff, Cond.initialized RX0, Cond.code yX0_daysUntilOff cX0_daysUntilOff 5 (some .int)]
def wsX5_needs_r2 : List Cond := [Cond.fieldLink RX0 27 "WinderLadders$Clock" "daysSinceWound" "I", Cond.methodLink RX0 55 Lib.Math.max.name, Cond.static Lib.Math.max.name, Cond.initialized "java/lang/Math", Cond.code Lib.Math.max.name Lib.Math.max.code 2 (some .int), Cond.fieldLink RX0 24 "WinderLadders$Clock" "off" "I", Cond.methodLink RX0 37 Lib.Math.abs.name, Cond.static Lib.Math.abs.name, Cond.code Lib.Math.abs.name Lib.Math.abs.code 1 (some .int), Cond.methodLink RX0 48 yX0_isOffBeyond, Cond.instanceMethod yX0_isOffBeyond, Cond.selects RX0 yX0_isOffBeyond yX0_isOffBeyond, Cond.code yX0_isOffBeyond cX0_isOffBeyond 2 (some .boolean), Cond.methodLink RX0 43 yX0_driftWithScrew, Cond.instanceMethod yX0_driftWithScrew, Cond.selects RX0 yX0_driftWithScrew yX0_driftWithScrew, Cond.code yX0_driftWithScrew cX0_driftWithScrew 1 (some .int), Cond.fieldLink RX0 18 "WinderLadders$Clock" "drift" "I", Cond.fieldLink RX0 21 "WinderLadders$Clock" "screw" "I", Cond.methodLink RX5 182 yX4_rankOf, Cond.instanceMethod yX4_rankOf, Cond.selects RX4 yX4_rankOf yX4_rankOf, Cond.code yX4_rankOf cX4_rankOf 5 (some .int)]
def wsX5_needs : List Cond := .code yX5_needs cX5_needs 3 (some .int) :: ((wsX5_needs_r1 ++ wsX5_needs_r2) ++ wsX50 ++ wsX40 ++ wsX00)
def wsX5_ladderFor : List Cond := .code yX5_ladderFor cX5_ladderFor 2 (some .int) :: ([.fieldLink RX5 12 "WinderLadders" "now" "LWinderLadders$State;", .fieldLink RX5 147 "WinderLadders$State" "ladderCount" "I", .methodLink RX5 186 yX4_rungsOutOfReach, .instanceMethod yX4_rungsOutOfReach, .selects RX4 yX4_rungsOutOfReach yX4_rungsOutOfReach, .initialized RX4, .code yX4_rungsOutOfReach cX4_rungsOutOfReach 3 (some .int), .fieldLink RX4 34 "WinderLadders$State" "clockCount" "I", .fieldLink RX4 17 "WinderLadders$State" "clocks" "[LWinderLadders$Clock;", .fieldLink RX4 116 "WinderLadders$Clock" "rungs" "I", .methodLink RX4 125 Lib.Math.max.name, .static Lib.Math.max.name, .initialized "java/lang/Math", .code Lib.Math.max.name Lib.Math.max.code 2 (some .int), .methodLink RX4 97 yX4_canBeWound, .instanceMethod yX4_canBeWound, .selects RX4 yX4_canBeWound yX4_canBeWound, .code yX4_canBeWound cX4_canBeWound 2 (some .boolean), .methodLink RX4 112 yX4_ladderNeeded, .instanceMethod yX4_ladderNeeded, .selects RX4 yX4_ladderNeeded yX4_ladderNeeded, .code yX4_ladderNeeded cX4_ladderNeeded 5 (some .int), .fieldLink RX4 42 "WinderLadders$State" "ladderCount" "I", .fieldLink RX4 21 "WinderLadders$State" "ladders" "[I"] ++ wsX50 ++ wsX40 ++ wsX00)
def wsX5_wayRound_r1 : List Cond := [Cond.fieldLink RX5 12 "WinderLadders" "now" "LWinderLadders$State;", Cond.fieldLink RX5 41 "WinderLadders" "row" "LWinderLadders$Row;", Cond.methodLink RX5 71 yX5_chooseRow, Cond.instanceMethod yX5_chooseRow, Cond.selects RX5 yX5_chooseRow yX5_chooseRow, Cond.initialized RX5, Cond.code yX5_chooseRow cX5_chooseRow 3 (some .int), Cond.fieldLink RX5 144 "WinderLadders$State" "clockCount" "I", Cond.fieldLink RX5 226 "WinderLadders$Row" "length" "I", Cond.methodLink RX5 220 yX3_clear, Cond.instanceMethod yX3_clear, Cond.selects RX3 yX3_clear yX3_clear, Cond.initialized RX3, Cond.code yX3_clear cX3_clear 1 none, Cond.fieldLink RX3 15 "WinderLadders$Row" "length" "I", Cond.methodLink RX5 223 yX3_add, Cond.instanceMethod yX3_add, Cond.selects RX3 yX3_add yX3_add, Cond.code yX3_add cX3_add 2 (some .boolean), Cond.fieldLink RX3 9 "WinderLadders$Row" "numbers" "[I", Cond.methodLink RX5 172 yX4_minutesOf, Cond.instanceMethod yX4_minutesOf, Cond.selects RX4 yX4_minutesOf yX4_minutesOf, Cond.initialized RX4]
def wsX5_wayRound_r2 : List Cond := [Cond.code yX4_minutesOf cX4_minutesOf 10 (some .int), Cond.fieldLink RX4 88 "WinderLadders$Row" "length" "I", Cond.fieldLink RX4 17 "WinderLadders$State" "clocks" "[LWinderLadders$Clock;", Cond.fieldLink RX4 104 "WinderLadders$Clock" "house" "I", Cond.methodLink RX4 107 Lib.Math.abs.name, Cond.static Lib.Math.abs.name, Cond.initialized "java/lang/Math", Cond.code Lib.Math.abs.name Lib.Math.abs.code 1 (some .int), Cond.fieldLink RX4 9 "WinderLadders$State" "settings" "[I", Cond.methodLink RX4 93 yX3_at, Cond.instanceMethod yX3_at, Cond.selects RX3 yX3_at yX3_at, Cond.code yX3_at cX3_at 2 (some .int), Cond.methodLink RX4 62 yX4_hasClock, Cond.instanceMethod yX4_hasClock, Cond.selects RX4 yX4_hasClock yX4_hasClock, Cond.code yX4_hasClock cX4_hasClock 2 (some .boolean), Cond.fieldLink RX4 34 "WinderLadders$State" "clockCount" "I", Cond.methodLink RX4 112 yX4_ladderNeeded, Cond.instanceMethod yX4_ladderNeeded, Cond.selects RX4 yX4_ladderNeeded yX4_ladderNeeded, Cond.code yX4_ladderNeeded cX4_ladderNeeded 5 (some .int), Cond.fieldLink RX4 116 "WinderLadders$Clock" "rungs" "I", Cond.fieldLink RX4 42 "WinderLadders$State" "ladderCount" "I"]
def wsX5_wayRound_r3 : List Cond := [Cond.fieldLink RX4 21 "WinderLadders$State" "ladders" "[I", Cond.methodLink RX4 97 yX4_canBeWound, Cond.instanceMethod yX4_canBeWound, Cond.selects RX4 yX4_canBeWound yX4_canBeWound, Cond.code yX4_canBeWound cX4_canBeWound 2 (some .boolean), Cond.methodLink RX5 189 yX3_turnRound, Cond.instanceMethod yX3_turnRound, Cond.selects RX3 yX3_turnRound yX3_turnRound, Cond.code yX3_turnRound cX3_turnRound 3 none]
def wsX5_wayRound : List Cond := .code yX5_wayRound cX5_wayRound 5 (some .int) :: ((wsX5_wayRound_r1 ++ (wsX5_wayRound_r2 ++ wsX5_wayRound_r3)) ++ wsX50 ++ wsX40 ++ wsX30 ++ wsX00)
def wsX5_undo_r1 : List Cond := [Cond.fieldLink RX5 19 "WinderLadders" "history" "LWinderLadders$History;", Cond.fieldLink RX5 12 "WinderLadders" "now" "LWinderLadders$State;", Cond.fieldLink RX5 169 "WinderLadders$History" "depth" "I", Cond.methodLink RX5 210 yX1_takeBack, Cond.instanceMethod yX1_takeBack, Cond.selects RX1 yX1_takeBack yX1_takeBack, Cond.initialized RX1, Cond.code yX1_takeBack cX1_takeBack 2 (some .boolean), Cond.fieldLink RX1 18 "WinderLadders$History" "depth" "I", Cond.fieldLink RX1 11 "WinderLadders$History" "states" "[LWinderLadders$State;", Cond.methodLink RX1 22 yX4_copyFrom, Cond.instanceMethod yX4_copyFrom, Cond.selects RX4 yX4_copyFrom yX4_copyFrom, Cond.initialized RX4, Cond.code yX4_copyFrom cX4_copyFrom 3 none, Cond.fieldLink RX4 9 "WinderLadders$State" "settings" "[I", Cond.methodLink RX4 27 arraycopyName, Cond.native arraycopyName, Cond.static arraycopyName, Cond.initialized "java/lang/System", Cond.fieldLink RX4 21 "WinderLadders$State" "ladders" "[I", Cond.fieldLink RX4 34 "WinderLadders$State" "clockCount" "I", Cond.fieldLink RX4 17 "WinderLadders$State" "clocks" "[LWinderLadders$Clock;", Cond.fieldLink RX4 42 "WinderLadders$State" "ladderCount" "I"]
def wsX5_undo_r2 : List Cond := [Cond.fieldLink RX4 45 "WinderLadders$State" "days" "I", Cond.fieldLink RX4 48 "WinderLadders$State" "minutes" "I", Cond.methodLink RX4 38 yX0_copyFrom, Cond.instanceMethod yX0_copyFrom, Cond.selects RX0 yX0_copyFrom yX0_copyFrom, Cond.initialized RX0, Cond.code yX0_copyFrom cX0_copyFrom 2 none, Cond.fieldLink RX0 9 "WinderLadders$Clock" "house" "I", Cond.fieldLink RX0 15 "WinderLadders$Clock" "rungs" "I", Cond.fieldLink RX0 18 "WinderLadders$Clock" "drift" "I", Cond.fieldLink RX0 21 "WinderLadders$Clock" "screw" "I", Cond.fieldLink RX0 24 "WinderLadders$Clock" "off" "I", Cond.fieldLink RX0 27 "WinderLadders$Clock" "daysSinceWound" "I", Cond.fieldLink RX0 30 "WinderLadders$Clock" "timesWound" "I", Cond.fieldLink RX0 33 "WinderLadders$Clock" "goes" "Z"]
def wsX5_undo : List Cond := .code yX5_undo cX5_undo 1 (some .int) :: ((wsX5_undo_r1 ++ wsX5_undo_r2) ++ wsX50 ++ wsX10 ++ wsX40 ++ wsX00)
def wsJ9_abs_0f7a4 : List Cond := .code yJ9_abs_0f7a4 cJ9_abs_0f7a4 1 (some .int) :: ([])
def wsJ9_max_7cf53 : List Cond := .code yJ9_max_7cf53 cJ9_max_7cf53 2 (some .int) :: ([])
def wsL_cell : List Cond := .code yL_cell cL_cell 2 (some .int) :: ([])
def wsL_low : List Cond := .code yL_low cL_low 2 (some .int) :: ([.constant RL 7 (2147483647)])
def wsL_does_r1 : List Cond := [Cond.constant RL 36 (65535), Cond.methodLink RL 8 yX5_count, Cond.instanceMethod yX5_count, Cond.selects RX5 yX5_count yX5_count, Cond.initialized RX5, Cond.code yX5_count cX5_count 2 (some .int), Cond.fieldLink RX5 12 "WinderLadders" "now" "LWinderLadders$State;", Cond.fieldLink RX5 141 "WinderLadders$State" "days" "I", Cond.fieldLink RX5 144 "WinderLadders$State" "clockCount" "I", Cond.fieldLink RX5 147 "WinderLadders$State" "ladderCount" "I", Cond.fieldLink RX5 160 "WinderLadders$State" "minutes" "I", Cond.fieldLink RX5 118 "WinderLadders$State" "settings" "[I", Cond.fieldLink RX5 34 "WinderLadders" "pad" "LWinderLadders$Pad;", Cond.fieldLink RX5 166 "WinderLadders$Pad" "length" "I", Cond.fieldLink RX5 19 "WinderLadders" "history" "LWinderLadders$History;", Cond.fieldLink RX5 169 "WinderLadders$History" "depth" "I", Cond.methodLink RX5 150 yX4_setOfStill, Cond.instanceMethod yX4_setOfStill, Cond.selects RX4 yX4_setOfStill yX4_setOfStill, Cond.initialized RX4, Cond.code yX4_setOfStill cX4_setOfStill 3 (some .int), Cond.fieldLink RX4 34 "WinderLadders$State" "clockCount" "I", Cond.fieldLink RX4 17 "WinderLadders$State" "clocks" "[LWinderLadders$Clock;", Cond.fieldLink RX4 77 "WinderLadders$Clock" "goes" "Z"]
def wsL_does_r2 : List Cond := [Cond.methodLink RX5 154 yX4_numberOffBeyondTold, Cond.instanceMethod yX4_numberOffBeyondTold, Cond.selects RX4 yX4_numberOffBeyondTold yX4_numberOffBeyondTold, Cond.code yX4_numberOffBeyondTold cX4_numberOffBeyondTold 3 (some .int), Cond.fieldLink RX4 9 "WinderLadders$State" "settings" "[I", Cond.methodLink RX4 119 yX0_isOffBeyond, Cond.instanceMethod yX0_isOffBeyond, Cond.selects RX0 yX0_isOffBeyond yX0_isOffBeyond, Cond.initialized RX0, Cond.code yX0_isOffBeyond cX0_isOffBeyond 2 (some .boolean), Cond.fieldLink RX0 24 "WinderLadders$Clock" "off" "I", Cond.methodLink RX0 37 Lib.Math.abs.name, Cond.static Lib.Math.abs.name, Cond.initialized "java/lang/Math", Cond.code Lib.Math.abs.name Lib.Math.abs.code 1 (some .int), Cond.methodLink RX5 157 yX4_numberThatCannotBeWound, Cond.instanceMethod yX4_numberThatCannotBeWound, Cond.selects RX4 yX4_numberThatCannotBeWound yX4_numberThatCannotBeWound, Cond.code yX4_numberThatCannotBeWound cX4_numberThatCannotBeWound 3 (some .int), Cond.methodLink RX4 97 yX4_canBeWound, Cond.instanceMethod yX4_canBeWound, Cond.selects RX4 yX4_canBeWound yX4_canBeWound, Cond.code yX4_canBeWound cX4_canBeWound 2 (some .boolean), Cond.fieldLink RX4 116 "WinderLadders$Clock" "rungs" "I"]
def wsL_does_r3 : List Cond := [Cond.methodLink RX4 112 yX4_ladderNeeded, Cond.instanceMethod yX4_ladderNeeded, Cond.selects RX4 yX4_ladderNeeded yX4_ladderNeeded, Cond.code yX4_ladderNeeded cX4_ladderNeeded 5 (some .int), Cond.fieldLink RX4 42 "WinderLadders$State" "ladderCount" "I", Cond.fieldLink RX4 21 "WinderLadders$State" "ladders" "[I", Cond.methodLink RX5 163 yX4_timesWoundInAll, Cond.instanceMethod yX4_timesWoundInAll, Cond.selects RX4 yX4_timesWoundInAll yX4_timesWoundInAll, Cond.code yX4_timesWoundInAll cX4_timesWoundInAll 3 (some .int), Cond.fieldLink RX4 122 "WinderLadders$Clock" "timesWound" "I", Cond.methodLink RL 14 yL_low, Cond.static yL_low, Cond.initialized RL, Cond.code yL_low cL_low 2 (some .int), Cond.constant RL 7 (2147483647), Cond.methodLink RL 20 yX5_hang, Cond.instanceMethod yX5_hang, Cond.selects RX5 yX5_hang yX5_hang, Cond.code yX5_hang cX5_hang 4 (some .int), Cond.methodLink RX5 49 yX1_prepare, Cond.instanceMethod yX1_prepare, Cond.selects RX1 yX1_prepare yX1_prepare, Cond.initialized RX1]
def wsL_does_r4 : List Cond := [Cond.code yX1_prepare cX1_prepare 2 none, Cond.fieldLink RX1 18 "WinderLadders$History" "depth" "I", Cond.fieldLink RX1 11 "WinderLadders$History" "states" "[LWinderLadders$State;", Cond.methodLink RX1 22 yX4_copyFrom, Cond.instanceMethod yX4_copyFrom, Cond.selects RX4 yX4_copyFrom yX4_copyFrom, Cond.code yX4_copyFrom cX4_copyFrom 3 none, Cond.methodLink RX4 27 arraycopyName, Cond.native arraycopyName, Cond.static arraycopyName, Cond.initialized "java/lang/System", Cond.fieldLink RX4 45 "WinderLadders$State" "days" "I", Cond.fieldLink RX4 48 "WinderLadders$State" "minutes" "I", Cond.methodLink RX4 38 yX0_copyFrom, Cond.instanceMethod yX0_copyFrom, Cond.selects RX0 yX0_copyFrom yX0_copyFrom, Cond.code yX0_copyFrom cX0_copyFrom 2 none, Cond.fieldLink RX0 9 "WinderLadders$Clock" "house" "I", Cond.fieldLink RX0 15 "WinderLadders$Clock" "rungs" "I", Cond.fieldLink RX0 18 "WinderLadders$Clock" "drift" "I", Cond.fieldLink RX0 21 "WinderLadders$Clock" "screw" "I", Cond.fieldLink RX0 27 "WinderLadders$Clock" "daysSinceWound" "I", Cond.fieldLink RX0 30 "WinderLadders$Clock" "timesWound" "I", Cond.fieldLink RX0 33 "WinderLadders$Clock" "goes" "Z"]
def wsL_does_r5 : List Cond := [Cond.methodLink RX5 61 yX4_addClock, Cond.instanceMethod yX4_addClock, Cond.selects RX4 yX4_addClock yX4_addClock, Cond.code yX4_addClock cX4_addClock 4 (some .int), Cond.static yX5_isWithin, Cond.code yX5_isWithin cX5_isWithin 3 (some .boolean), Cond.methodLink RX4 58 yX0_begin, Cond.instanceMethod yX0_begin, Cond.selects RX0 yX0_begin yX0_begin, Cond.code yX0_begin cX0_begin 4 none, Cond.methodLink RX5 57 yX5_keptIfDone, Cond.instanceMethod yX5_keptIfDone, Cond.selects RX5 yX5_keptIfDone yX5_keptIfDone, Cond.code yX5_keptIfDone cX5_keptIfDone 2 (some .int), Cond.methodLink RX5 217 yX1_keepPrepared, Cond.instanceMethod yX1_keepPrepared, Cond.selects RX1 yX1_keepPrepared yX1_keepPrepared, Cond.code yX1_keepPrepared cX1_keepPrepared 1 none, Cond.methodLink RX1 26 yX1_dropOldest, Cond.instanceMethod yX1_dropOldest, Cond.selects RX1 yX1_dropOldest yX1_dropOldest, Cond.code yX1_dropOldest cX1_dropOldest 3 none, Cond.methodLink RL 24 yX5_ladder, Cond.instanceMethod yX5_ladder]
def wsL_does_r6 : List Cond := [Cond.selects RX5 yX5_ladder yX5_ladder, Cond.code yX5_ladder cX5_ladder 2 (some .int), Cond.methodLink RX5 65 yX4_addLadder, Cond.instanceMethod yX4_addLadder, Cond.selects RX4 yX4_addLadder yX4_addLadder, Cond.code yX4_addLadder cX4_addLadder 2 (some .int), Cond.methodLink RL 27 yX5_screw, Cond.instanceMethod yX5_screw, Cond.selects RX5 yX5_screw yX5_screw, Cond.code yX5_screw cX5_screw 3 (some .int), Cond.methodLink RX5 68 yX4_turnScrew, Cond.instanceMethod yX4_turnScrew, Cond.selects RX4 yX4_turnScrew yX4_turnScrew, Cond.code yX4_turnScrew cX4_turnScrew 4 (some .int), Cond.fieldLink RX4 66 "WinderLadders$Clock" "screw" "I", Cond.methodLink RX4 62 yX4_hasClock, Cond.instanceMethod yX4_hasClock, Cond.selects RX4 yX4_hasClock yX4_hasClock, Cond.code yX4_hasClock cX4_hasClock 2 (some .boolean), Cond.methodLink RL 30 yX5_set, Cond.instanceMethod yX5_set, Cond.selects RX5 yX5_set yX5_set, Cond.code yX5_set cX5_set 3 (some .int), Cond.methodLink RX5 53 yX4_replaceSetting]
def wsL_does_r7 : List Cond := [Cond.instanceMethod yX4_replaceSetting, Cond.selects RX4 yX4_replaceSetting yX4_replaceSetting, Cond.code yX4_replaceSetting cX4_replaceSetting 4 (some .int), Cond.methodLink RL 33 yX5_change, Cond.instanceMethod yX5_change, Cond.selects RX5 yX5_change yX5_change, Cond.code yX5_change cX5_change 2 (some .int), Cond.methodLink RX5 81 yX4_changeClocks, Cond.instanceMethod yX4_changeClocks, Cond.selects RX4 yX4_changeClocks yX4_changeClocks, Cond.code yX4_changeClocks cX4_changeClocks 4 (some .int), Cond.fieldLink RX4 81 "WinderLadders$Clock" "off" "I", Cond.methodLink RX4 73 yX4_numberThatGo, Cond.instanceMethod yX4_numberThatGo, Cond.selects RX4 yX4_numberThatGo yX4_numberThatGo, Cond.code yX4_numberThatGo cX4_numberThatGo 3 (some .int), Cond.methodLink RL 37 yX5_round, Cond.instanceMethod yX5_round, Cond.selects RX5 yX5_round yX5_round, Cond.code yX5_round cX5_round 3 (some .int), Cond.fieldLink RX5 41 "WinderLadders" "row" "LWinderLadders$Row;", Cond.methodLink RX5 71 yX5_chooseRow, Cond.instanceMethod yX5_chooseRow, Cond.selects RX5 yX5_chooseRow yX5_chooseRow]
def wsL_does_r8 : List Cond := [Cond.code yX5_chooseRow cX5_chooseRow 3 (some .int), Cond.fieldLink RX5 226 "WinderLadders$Row" "length" "I", Cond.methodLink RX5 220 yX3_clear, Cond.instanceMethod yX3_clear, Cond.selects RX3 yX3_clear yX3_clear, Cond.initialized RX3, Cond.code yX3_clear cX3_clear 1 none, Cond.fieldLink RX3 15 "WinderLadders$Row" "length" "I", Cond.methodLink RX5 223 yX3_add, Cond.instanceMethod yX3_add, Cond.selects RX3 yX3_add yX3_add, Cond.code yX3_add cX3_add 2 (some .boolean), Cond.fieldLink RX3 9 "WinderLadders$Row" "numbers" "[I", Cond.methodLink RX5 74 yX4_walkBeat, Cond.instanceMethod yX4_walkBeat, Cond.selects RX4 yX4_walkBeat yX4_walkBeat, Cond.code yX4_walkBeat cX4_walkBeat 5 (some .int), Cond.fieldLink RX4 88 "WinderLadders$Row" "length" "I", Cond.methodLink RX4 84 yX4_minutesOf, Cond.instanceMethod yX4_minutesOf, Cond.selects RX4 yX4_minutesOf yX4_minutesOf, Cond.code yX4_minutesOf cX4_minutesOf 10 (some .int), Cond.fieldLink RX4 104 "WinderLadders$Clock" "house" "I", Cond.methodLink RX4 107 Lib.Math.abs.name]
def wsL_does_r9 : List Cond := [Cond.methodLink RX4 93 yX3_at, Cond.instanceMethod yX3_at, Cond.selects RX3 yX3_at yX3_at, Cond.code yX3_at cX3_at 2 (some .int), Cond.methodLink RX4 101 yX0_windAndSet, Cond.instanceMethod yX0_windAndSet, Cond.selects RX0 yX0_windAndSet yX0_windAndSet, Cond.code yX0_windAndSet cX0_windAndSet 2 none, Cond.methodLink RX0 48 yX0_isOffBeyond, Cond.methodLink RX0 52 yX0_turnByRule, Cond.instanceMethod yX0_turnByRule, Cond.selects RX0 yX0_turnByRule yX0_turnByRule, Cond.code yX0_turnByRule cX0_turnByRule 2 none, Cond.methodLink RX0 43 yX0_driftWithScrew, Cond.instanceMethod yX0_driftWithScrew, Cond.selects RX0 yX0_driftWithScrew yX0_driftWithScrew, Cond.code yX0_driftWithScrew cX0_driftWithScrew 1 (some .int), Cond.methodLink RL 40 yX5_pass, Cond.instanceMethod yX5_pass, Cond.selects RX5 yX5_pass yX5_pass, Cond.code yX5_pass cX5_pass 2 (some .int), Cond.methodLink RX5 78 yX4_passDays, Cond.instanceMethod yX4_passDays, Cond.selects RX4 yX4_passDays yX4_passDays]
def wsL_does_r10 : List Cond := [Cond.code yX4_passDays cX4_passDays 4 (some .int), Cond.methodLink RX4 69 yX0_passDay, Cond.instanceMethod yX0_passDay, Cond.selects RX0 yX0_passDay yX0_passDay, Cond.code yX0_passDay cX0_passDay 2 none, Cond.constant RX0 47 (43200)]
def wsL_does : List Cond := .code yL_does cL_does 4 (some .int) :: ((wsL_does_r1 ++ (wsL_does_r2 ++ (wsL_does_r3 ++ (wsL_does_r4 ++ (wsL_does_r5 ++ (wsL_does_r6 ++ (wsL_does_r7 ++ (wsL_does_r8 ++ (wsL_does_r9 ++ wsL_does_r10))))))))) ++ wsX50 ++ wsX40 ++ wsX20 ++ wsX10 ++ wsX00 ++ wsX30)
def wsL_off_r1 : List Cond := [Cond.constant RL 46 (1000000000), Cond.methodLink RL 43 yX5_of, Cond.instanceMethod yX5_of, Cond.selects RX5 yX5_of yX5_of, Cond.initialized RX5, Cond.code yX5_of cX5_of 4 (some .int), Cond.fieldLink RX5 12 "WinderLadders" "now" "LWinderLadders$State;", Cond.fieldLink RX5 88 "WinderLadders$State" "clocks" "[LWinderLadders$Clock;", Cond.fieldLink RX5 92 "WinderLadders$Clock" "house" "I", Cond.fieldLink RX5 98 "WinderLadders$Clock" "rungs" "I", Cond.fieldLink RX5 101 "WinderLadders$Clock" "drift" "I", Cond.fieldLink RX5 104 "WinderLadders$Clock" "screw" "I", Cond.fieldLink RX5 107 "WinderLadders$Clock" "off" "I", Cond.constant RX5 110 (1000000000), Cond.fieldLink RX5 111 "WinderLadders$Clock" "daysSinceWound" "I", Cond.fieldLink RX5 114 "WinderLadders$Clock" "goes" "Z", Cond.fieldLink RX5 118 "WinderLadders$State" "settings" "[I", Cond.fieldLink RX5 132 "WinderLadders$Clock" "timesWound" "I", Cond.methodLink RX5 84 yX4_hasClock, Cond.instanceMethod yX4_hasClock, Cond.selects RX4 yX4_hasClock yX4_hasClock, Cond.initialized RX4, Cond.code yX4_hasClock cX4_hasClock 2 (some .boolean), Cond.fieldLink RX4 34 "WinderLadders$State" "clockCount" "I"]
def wsL_off_r2 : List Cond := [Cond.methodLink RX5 121 yX0_isOffBeyond, Cond.instanceMethod yX0_isOffBeyond, Cond.selects RX0 yX0_isOffBeyond yX0_isOffBeyond, Cond.initialized RX0, Cond.code yX0_isOffBeyond cX0_isOffBeyond 2 (some .boolean), Cond.fieldLink RX0 24 "WinderLadders$Clock" "off" "I", Cond.methodLink RX0 37 Lib.Math.abs.name, Cond.static Lib.Math.abs.name, Cond.initialized "java/lang/Math", Cond.code Lib.Math.abs.name Lib.Math.abs.code 1 (some .int), Cond.methodLink RX5 124 yX4_ladderNeeded, Cond.instanceMethod yX4_ladderNeeded, Cond.selects RX4 yX4_ladderNeeded yX4_ladderNeeded, Cond.code yX4_ladderNeeded cX4_ladderNeeded 5 (some .int), Cond.fieldLink RX4 116 "WinderLadders$Clock" "rungs" "I", Cond.fieldLink RX4 42 "WinderLadders$State" "ladderCount" "I", Cond.fieldLink RX4 21 "WinderLadders$State" "ladders" "[I", Cond.methodLink RX5 128 yX4_canBeWound, Cond.instanceMethod yX4_canBeWound, Cond.selects RX4 yX4_canBeWound yX4_canBeWound, Cond.code yX4_canBeWound cX4_canBeWound 2 (some .boolean), Cond.methodLink RX4 112 yX4_ladderNeeded]
def wsL_off : List Cond := .code yL_off cL_off 2 (some .int) :: ((wsL_off_r1 ++ wsL_off_r2) ++ wsX50 ++ wsX40 ++ wsX00)
def wsL_areClocksSo_r1 : List Cond := [Cond.constant RL 54 (43200), Cond.methodLink RL 8 yX5_count, Cond.instanceMethod yX5_count, Cond.selects RX5 yX5_count yX5_count, Cond.initialized RX5, Cond.code yX5_count cX5_count 2 (some .int), Cond.fieldLink RX5 12 "WinderLadders" "now" "LWinderLadders$State;", Cond.fieldLink RX5 141 "WinderLadders$State" "days" "I", Cond.fieldLink RX5 144 "WinderLadders$State" "clockCount" "I", Cond.fieldLink RX5 147 "WinderLadders$State" "ladderCount" "I", Cond.fieldLink RX5 160 "WinderLadders$State" "minutes" "I", Cond.fieldLink RX5 118 "WinderLadders$State" "settings" "[I", Cond.fieldLink RX5 34 "WinderLadders" "pad" "LWinderLadders$Pad;", Cond.fieldLink RX5 166 "WinderLadders$Pad" "length" "I", Cond.fieldLink RX5 19 "WinderLadders" "history" "LWinderLadders$History;", Cond.fieldLink RX5 169 "WinderLadders$History" "depth" "I", Cond.methodLink RX5 150 yX4_setOfStill, Cond.instanceMethod yX4_setOfStill, Cond.selects RX4 yX4_setOfStill yX4_setOfStill, Cond.initialized RX4, Cond.code yX4_setOfStill cX4_setOfStill 3 (some .int), Cond.fieldLink RX4 34 "WinderLadders$State" "clockCount" "I", Cond.fieldLink RX4 17 "WinderLadders$State" "clocks" "[LWinderLadders$Clock;", Cond.fieldLink RX4 77 "WinderLadders$Clock" "goes" "Z"]
def wsL_areClocksSo_r2 : List Cond := [Cond.methodLink RX5 154 yX4_numberOffBeyondTold, Cond.instanceMethod yX4_numberOffBeyondTold, Cond.selects RX4 yX4_numberOffBeyondTold yX4_numberOffBeyondTold, Cond.code yX4_numberOffBeyondTold cX4_numberOffBeyondTold 3 (some .int), Cond.fieldLink RX4 9 "WinderLadders$State" "settings" "[I", Cond.methodLink RX4 119 yX0_isOffBeyond, Cond.instanceMethod yX0_isOffBeyond, Cond.selects RX0 yX0_isOffBeyond yX0_isOffBeyond, Cond.initialized RX0, Cond.code yX0_isOffBeyond cX0_isOffBeyond 2 (some .boolean), Cond.fieldLink RX0 24 "WinderLadders$Clock" "off" "I", Cond.methodLink RX0 37 Lib.Math.abs.name, Cond.static Lib.Math.abs.name, Cond.initialized "java/lang/Math", Cond.code Lib.Math.abs.name Lib.Math.abs.code 1 (some .int), Cond.methodLink RX5 157 yX4_numberThatCannotBeWound, Cond.instanceMethod yX4_numberThatCannotBeWound, Cond.selects RX4 yX4_numberThatCannotBeWound yX4_numberThatCannotBeWound, Cond.code yX4_numberThatCannotBeWound cX4_numberThatCannotBeWound 3 (some .int), Cond.methodLink RX4 97 yX4_canBeWound, Cond.instanceMethod yX4_canBeWound, Cond.selects RX4 yX4_canBeWound yX4_canBeWound, Cond.code yX4_canBeWound cX4_canBeWound 2 (some .boolean), Cond.fieldLink RX4 116 "WinderLadders$Clock" "rungs" "I"]
def wsL_areClocksSo_r3 : List Cond := [Cond.methodLink RX4 112 yX4_ladderNeeded, Cond.instanceMethod yX4_ladderNeeded, Cond.selects RX4 yX4_ladderNeeded yX4_ladderNeeded, Cond.code yX4_ladderNeeded cX4_ladderNeeded 5 (some .int), Cond.fieldLink RX4 42 "WinderLadders$State" "ladderCount" "I", Cond.fieldLink RX4 21 "WinderLadders$State" "ladders" "[I", Cond.methodLink RX5 163 yX4_timesWoundInAll, Cond.instanceMethod yX4_timesWoundInAll, Cond.selects RX4 yX4_timesWoundInAll yX4_timesWoundInAll, Cond.code yX4_timesWoundInAll cX4_timesWoundInAll 3 (some .int), Cond.fieldLink RX4 122 "WinderLadders$Clock" "timesWound" "I", Cond.methodLink RL 43 yX5_of, Cond.instanceMethod yX5_of, Cond.selects RX5 yX5_of yX5_of, Cond.code yX5_of cX5_of 4 (some .int), Cond.fieldLink RX5 88 "WinderLadders$State" "clocks" "[LWinderLadders$Clock;", Cond.fieldLink RX5 92 "WinderLadders$Clock" "house" "I", Cond.fieldLink RX5 98 "WinderLadders$Clock" "rungs" "I", Cond.fieldLink RX5 101 "WinderLadders$Clock" "drift" "I", Cond.fieldLink RX5 104 "WinderLadders$Clock" "screw" "I", Cond.fieldLink RX5 107 "WinderLadders$Clock" "off" "I", Cond.constant RX5 110 (1000000000), Cond.fieldLink RX5 111 "WinderLadders$Clock" "daysSinceWound" "I", Cond.fieldLink RX5 114 "WinderLadders$Clock" "goes" "Z"]
def wsL_areClocksSo_r4 : List Cond := [Cond.fieldLink RX5 132 "WinderLadders$Clock" "timesWound" "I", Cond.methodLink RX5 84 yX4_hasClock, Cond.instanceMethod yX4_hasClock, Cond.selects RX4 yX4_hasClock yX4_hasClock, Cond.code yX4_hasClock cX4_hasClock 2 (some .boolean), Cond.methodLink RX5 121 yX0_isOffBeyond, Cond.methodLink RX5 124 yX4_ladderNeeded, Cond.methodLink RX5 128 yX4_canBeWound, Cond.methodLink RL 47 yX5_ofLadder, Cond.instanceMethod yX5_ofLadder, Cond.selects RX5 yX5_ofLadder yX5_ofLadder, Cond.code yX5_ofLadder cX5_ofLadder 2 (some .int), Cond.fieldLink RX5 138 "WinderLadders$State" "ladders" "[I", Cond.methodLink RX5 135 yX4_hasLadder, Cond.instanceMethod yX4_hasLadder, Cond.selects RX4 yX4_hasLadder yX4_hasLadder, Cond.code yX4_hasLadder cX4_hasLadder 2 (some .boolean), Cond.methodLink RL 50 yL_off, Cond.static yL_off, Cond.initialized RL, Cond.code yL_off cL_off 2 (some .int), Cond.constant RL 46 (1000000000)]
def wsL_areClocksSo : List Cond := .code yL_areClocksSo cL_areClocksSo 11 (some .boolean) :: ((wsL_areClocksSo_r1 ++ (wsL_areClocksSo_r2 ++ (wsL_areClocksSo_r3 ++ wsL_areClocksSo_r4))) ++ wsX50 ++ wsX40 ++ wsX20 ++ wsX10 ++ wsX00)
def wsL_areNeedsSo_r1 : List Cond := [Cond.methodLink RL 8 yX5_count, Cond.instanceMethod yX5_count, Cond.selects RX5 yX5_count yX5_count, Cond.initialized RX5, Cond.code yX5_count cX5_count 2 (some .int), Cond.fieldLink RX5 12 "WinderLadders" "now" "LWinderLadders$State;", Cond.fieldLink RX5 141 "WinderLadders$State" "days" "I", Cond.fieldLink RX5 144 "WinderLadders$State" "clockCount" "I", Cond.fieldLink RX5 147 "WinderLadders$State" "ladderCount" "I", Cond.fieldLink RX5 160 "WinderLadders$State" "minutes" "I", Cond.fieldLink RX5 118 "WinderLadders$State" "settings" "[I", Cond.fieldLink RX5 34 "WinderLadders" "pad" "LWinderLadders$Pad;", Cond.fieldLink RX5 166 "WinderLadders$Pad" "length" "I", Cond.fieldLink RX5 19 "WinderLadders" "history" "LWinderLadders$History;", Cond.fieldLink RX5 169 "WinderLadders$History" "depth" "I", Cond.methodLink RX5 150 yX4_setOfStill, Cond.instanceMethod yX4_setOfStill, Cond.selects RX4 yX4_setOfStill yX4_setOfStill, Cond.initialized RX4, Cond.code yX4_setOfStill cX4_setOfStill 3 (some .int), Cond.fieldLink RX4 34 "WinderLadders$State" "clockCount" "I", Cond.fieldLink RX4 17 "WinderLadders$State" "clocks" "[LWinderLadders$Clock;", Cond.fieldLink RX4 77 "WinderLadders$Clock" "goes" "Z", Cond.methodLink RX5 154 yX4_numberOffBeyondTold]
def wsL_areNeedsSo_r2 : List Cond := [Cond.instanceMethod yX4_numberOffBeyondTold, Cond.selects RX4 yX4_numberOffBeyondTold yX4_numberOffBeyondTold, Cond.code yX4_numberOffBeyondTold cX4_numberOffBeyondTold 3 (some .int), Cond.fieldLink RX4 9 "WinderLadders$State" "settings" "[I", Cond.methodLink RX4 119 yX0_isOffBeyond, Cond.instanceMethod yX0_isOffBeyond, Cond.selects RX0 yX0_isOffBeyond yX0_isOffBeyond, Cond.initialized RX0, Cond.code yX0_isOffBeyond cX0_isOffBeyond 2 (some .boolean), Cond.fieldLink RX0 24 "WinderLadders$Clock" "off" "I", Cond.methodLink RX0 37 Lib.Math.abs.name, Cond.static Lib.Math.abs.name, Cond.initialized "java/lang/Math", Cond.code Lib.Math.abs.name Lib.Math.abs.code 1 (some .int), Cond.methodLink RX5 157 yX4_numberThatCannotBeWound, Cond.instanceMethod yX4_numberThatCannotBeWound, Cond.selects RX4 yX4_numberThatCannotBeWound yX4_numberThatCannotBeWound, Cond.code yX4_numberThatCannotBeWound cX4_numberThatCannotBeWound 3 (some .int), Cond.methodLink RX4 97 yX4_canBeWound, Cond.instanceMethod yX4_canBeWound, Cond.selects RX4 yX4_canBeWound yX4_canBeWound, Cond.code yX4_canBeWound cX4_canBeWound 2 (some .boolean), Cond.fieldLink RX4 116 "WinderLadders$Clock" "rungs" "I", Cond.methodLink RX4 112 yX4_ladderNeeded]
def wsL_areNeedsSo_r3 : List Cond := [Cond.instanceMethod yX4_ladderNeeded, Cond.selects RX4 yX4_ladderNeeded yX4_ladderNeeded, Cond.code yX4_ladderNeeded cX4_ladderNeeded 5 (some .int), Cond.fieldLink RX4 42 "WinderLadders$State" "ladderCount" "I", Cond.fieldLink RX4 21 "WinderLadders$State" "ladders" "[I", Cond.methodLink RX5 163 yX4_timesWoundInAll, Cond.instanceMethod yX4_timesWoundInAll, Cond.selects RX4 yX4_timesWoundInAll yX4_timesWoundInAll, Cond.code yX4_timesWoundInAll cX4_timesWoundInAll 3 (some .int), Cond.fieldLink RX4 122 "WinderLadders$Clock" "timesWound" "I", Cond.methodLink RL 55 yX5_needs, Cond.instanceMethod yX5_needs, Cond.selects RX5 yX5_needs yX5_needs, Cond.code yX5_needs cX5_needs 3 (some .int), Cond.fieldLink RX5 45 "WinderLadders" "lasting" "[I", Cond.methodLink RX5 178 yX4_tellDaysUntilOff, Cond.instanceMethod yX4_tellDaysUntilOff, Cond.selects RX4 yX4_tellDaysUntilOff yX4_tellDaysUntilOff, Cond.code yX4_tellDaysUntilOff cX4_tellDaysUntilOff 3 none, Cond.methodLink RX4 132 yX4_daysUntilOff, Cond.instanceMethod yX4_daysUntilOff, Cond.selects RX4 yX4_daysUntilOff yX4_daysUntilOff, Cond.code yX4_daysUntilOff cX4_daysUntilOff 2 (some .int), Cond.methodLink RX4 62 yX4_hasClock]
def wsL_areNeedsSo_r4 : List Cond := [Cond.instanceMethod yX4_hasClock, Cond.selects RX4 yX4_hasClock yX4_hasClock, Cond.code yX4_hasClock cX4_hasClock 2 (some .boolean), Cond.methodLink RX4 129 yX0_daysUntilOff, Cond.instanceMethod yX0_daysUntilOff, Cond.selects RX0 yX0_daysUntilOff yX0_daysUntilOff, Cond.code yX0_daysUntilOff cX0_daysUntilOff 5 (some .int), Cond.fieldLink RX0 27 "WinderLadders$Clock" "daysSinceWound" "I", Cond.methodLink RX0 55 Lib.Math.max.name, Cond.static Lib.Math.max.name, Cond.code Lib.Math.max.name Lib.Math.max.code 2 (some .int), Cond.methodLink RX0 48 yX0_isOffBeyond, Cond.methodLink RX0 43 yX0_driftWithScrew, Cond.instanceMethod yX0_driftWithScrew, Cond.selects RX0 yX0_driftWithScrew yX0_driftWithScrew, Cond.code yX0_driftWithScrew cX0_driftWithScrew 1 (some .int), Cond.fieldLink RX0 18 "WinderLadders$Clock" "drift" "I", Cond.fieldLink RX0 21 "WinderLadders$Clock" "screw" "I", Cond.methodLink RX5 182 yX4_rankOf, Cond.instanceMethod yX4_rankOf, Cond.selects RX4 yX4_rankOf yX4_rankOf, Cond.code yX4_rankOf cX4_rankOf 5 (some .int), Cond.methodLink RL 58 yX5_lasts, Cond.instanceMethod yX5_lasts]
def wsL_areNeedsSo_r5 : List Cond := [Cond.selects RX5 yX5_lasts yX5_lasts, Cond.code yX5_lasts cX5_lasts 2 (some .int), Cond.methodLink RX5 84 yX4_hasClock, Cond.methodLink RX5 175 yX4_daysUntilOff, Cond.methodLink RL 43 yX5_of, Cond.instanceMethod yX5_of, Cond.selects RX5 yX5_of yX5_of, Cond.code yX5_of cX5_of 4 (some .int), Cond.fieldLink RX5 88 "WinderLadders$State" "clocks" "[LWinderLadders$Clock;", Cond.fieldLink RX5 92 "WinderLadders$Clock" "house" "I", Cond.fieldLink RX5 98 "WinderLadders$Clock" "rungs" "I", Cond.fieldLink RX5 101 "WinderLadders$Clock" "drift" "I", Cond.fieldLink RX5 104 "WinderLadders$Clock" "screw" "I", Cond.fieldLink RX5 107 "WinderLadders$Clock" "off" "I", Cond.constant RX5 110 (1000000000), Cond.fieldLink RX5 111 "WinderLadders$Clock" "daysSinceWound" "I", Cond.fieldLink RX5 114 "WinderLadders$Clock" "goes" "Z", Cond.fieldLink RX5 132 "WinderLadders$Clock" "timesWound" "I", Cond.methodLink RX5 121 yX0_isOffBeyond, Cond.methodLink RX5 124 yX4_ladderNeeded, Cond.methodLink RX5 128 yX4_canBeWound, Cond.methodLink RL 61 yX5_ladderFor, Cond.instanceMethod yX5_ladderFor, Cond.selects RX5 yX5_ladderFor yX5_ladderFor]
def wsL_areNeedsSo_r6 : List Cond := [Cond.code yX5_ladderFor cX5_ladderFor 2 (some .int), Cond.methodLink RX5 186 yX4_rungsOutOfReach, Cond.instanceMethod yX4_rungsOutOfReach, Cond.selects RX4 yX4_rungsOutOfReach yX4_rungsOutOfReach, Cond.code yX4_rungsOutOfReach cX4_rungsOutOfReach 3 (some .int), Cond.methodLink RX4 125 Lib.Math.max.name, Cond.methodLink RL 24 yX5_ladder, Cond.instanceMethod yX5_ladder, Cond.selects RX5 yX5_ladder yX5_ladder, Cond.code yX5_ladder cX5_ladder 2 (some .int), Cond.methodLink RX5 49 yX1_prepare, Cond.instanceMethod yX1_prepare, Cond.selects RX1 yX1_prepare yX1_prepare, Cond.initialized RX1, Cond.code yX1_prepare cX1_prepare 2 none, Cond.fieldLink RX1 18 "WinderLadders$History" "depth" "I", Cond.fieldLink RX1 11 "WinderLadders$History" "states" "[LWinderLadders$State;", Cond.methodLink RX1 22 yX4_copyFrom, Cond.instanceMethod yX4_copyFrom, Cond.selects RX4 yX4_copyFrom yX4_copyFrom, Cond.code yX4_copyFrom cX4_copyFrom 3 none, Cond.methodLink RX4 27 arraycopyName, Cond.native arraycopyName, Cond.static arraycopyName]
def wsL_areNeedsSo_r7 : List Cond := [Cond.initialized "java/lang/System", Cond.fieldLink RX4 45 "WinderLadders$State" "days" "I", Cond.fieldLink RX4 48 "WinderLadders$State" "minutes" "I", Cond.methodLink RX4 38 yX0_copyFrom, Cond.instanceMethod yX0_copyFrom, Cond.selects RX0 yX0_copyFrom yX0_copyFrom, Cond.code yX0_copyFrom cX0_copyFrom 2 none, Cond.fieldLink RX0 9 "WinderLadders$Clock" "house" "I", Cond.fieldLink RX0 15 "WinderLadders$Clock" "rungs" "I", Cond.fieldLink RX0 30 "WinderLadders$Clock" "timesWound" "I", Cond.fieldLink RX0 33 "WinderLadders$Clock" "goes" "Z", Cond.methodLink RX5 65 yX4_addLadder, Cond.instanceMethod yX4_addLadder, Cond.selects RX4 yX4_addLadder yX4_addLadder, Cond.code yX4_addLadder cX4_addLadder 2 (some .int), Cond.static yX5_isWithin, Cond.code yX5_isWithin cX5_isWithin 3 (some .boolean), Cond.methodLink RX5 57 yX5_keptIfDone, Cond.instanceMethod yX5_keptIfDone, Cond.selects RX5 yX5_keptIfDone yX5_keptIfDone, Cond.code yX5_keptIfDone cX5_keptIfDone 2 (some .int), Cond.methodLink RX5 217 yX1_keepPrepared, Cond.instanceMethod yX1_keepPrepared, Cond.selects RX1 yX1_keepPrepared yX1_keepPrepared]
def wsL_areNeedsSo_r8 : List Cond := [Cond.code yX1_keepPrepared cX1_keepPrepared 1 none, Cond.methodLink RX1 26 yX1_dropOldest, Cond.instanceMethod yX1_dropOldest, Cond.selects RX1 yX1_dropOldest yX1_dropOldest, Cond.code yX1_dropOldest cX1_dropOldest 3 none, Cond.methodLink RL 65 yX5_undo, Cond.instanceMethod yX5_undo, Cond.selects RX5 yX5_undo yX5_undo, Cond.code yX5_undo cX5_undo 1 (some .int), Cond.methodLink RX5 210 yX1_takeBack, Cond.instanceMethod yX1_takeBack, Cond.selects RX1 yX1_takeBack yX1_takeBack, Cond.code yX1_takeBack cX1_takeBack 2 (some .boolean)]
def wsL_areNeedsSo : List Cond := .code yL_areNeedsSo cL_areNeedsSo 8 (some .boolean) :: ((wsL_areNeedsSo_r1 ++ (wsL_areNeedsSo_r2 ++ (wsL_areNeedsSo_r3 ++ (wsL_areNeedsSo_r4 ++ (wsL_areNeedsSo_r5 ++ (wsL_areNeedsSo_r6 ++ (wsL_areNeedsSo_r7 ++ wsL_areNeedsSo_r8))))))) ++ wsX50 ++ wsX40 ++ wsX20 ++ wsX10 ++ wsX00)
def wsL_isLastSo_r1 : List Cond := [Cond.methodLink RL 58 yX5_lasts, Cond.instanceMethod yX5_lasts, Cond.selects RX5 yX5_lasts yX5_lasts, Cond.initialized RX5, Cond.code yX5_lasts cX5_lasts 2 (some .int), Cond.fieldLink RX5 12 "WinderLadders" "now" "LWinderLadders$State;", Cond.methodLink RX5 84 yX4_hasClock, Cond.instanceMethod yX4_hasClock, Cond.selects RX4 yX4_hasClock yX4_hasClock, Cond.initialized RX4, Cond.code yX4_hasClock cX4_hasClock 2 (some .boolean), Cond.fieldLink RX4 34 "WinderLadders$State" "clockCount" "I", Cond.methodLink RX5 175 yX4_daysUntilOff, Cond.instanceMethod yX4_daysUntilOff, Cond.selects RX4 yX4_daysUntilOff yX4_daysUntilOff, Cond.code yX4_daysUntilOff cX4_daysUntilOff 2 (some .int), Cond.fieldLink RX4 17 "WinderLadders$State" "clocks" "[LWinderLadders$Clock;", Cond.fieldLink RX4 9 "WinderLadders$State" "settings" "[I", Cond.methodLink RX4 62 yX4_hasClock, Cond.methodLink RX4 129 yX0_daysUntilOff, Cond.instanceMethod yX0_daysUntilOff, Cond.selects RX0 yX0_daysUntilOff yX0_daysUntilOff, Cond.initialized RX0, Cond.code yX0_daysUntilOff cX0_daysUntilOff 5 (some .int)]
def wsL_isLastSo_r2 : List Cond := [Cond.fieldLink RX0 27 "WinderLadders$Clock" "daysSinceWound" "I", Cond.methodLink RX0 55 Lib.Math.max.name, Cond.static Lib.Math.max.name, Cond.initialized "java/lang/Math", Cond.code Lib.Math.max.name Lib.Math.max.code 2 (some .int), Cond.fieldLink RX0 24 "WinderLadders$Clock" "off" "I", Cond.methodLink RX0 37 Lib.Math.abs.name, Cond.static Lib.Math.abs.name, Cond.code Lib.Math.abs.name Lib.Math.abs.code 1 (some .int), Cond.methodLink RX0 48 yX0_isOffBeyond, Cond.instanceMethod yX0_isOffBeyond, Cond.selects RX0 yX0_isOffBeyond yX0_isOffBeyond, Cond.code yX0_isOffBeyond cX0_isOffBeyond 2 (some .boolean), Cond.methodLink RX0 43 yX0_driftWithScrew, Cond.instanceMethod yX0_driftWithScrew, Cond.selects RX0 yX0_driftWithScrew yX0_driftWithScrew, Cond.code yX0_driftWithScrew cX0_driftWithScrew 1 (some .int), Cond.fieldLink RX0 18 "WinderLadders$Clock" "drift" "I", Cond.fieldLink RX0 21 "WinderLadders$Clock" "screw" "I", Cond.methodLink RL 8 yX5_count, Cond.instanceMethod yX5_count, Cond.selects RX5 yX5_count yX5_count, Cond.code yX5_count cX5_count 2 (some .int), Cond.fieldLink RX5 141 "WinderLadders$State" "days" "I"]
def wsL_isLastSo_r3 : List Cond := [Cond.fieldLink RX5 144 "WinderLadders$State" "clockCount" "I", Cond.fieldLink RX5 147 "WinderLadders$State" "ladderCount" "I", Cond.fieldLink RX5 160 "WinderLadders$State" "minutes" "I", Cond.fieldLink RX5 118 "WinderLadders$State" "settings" "[I", Cond.fieldLink RX5 34 "WinderLadders" "pad" "LWinderLadders$Pad;", Cond.fieldLink RX5 166 "WinderLadders$Pad" "length" "I", Cond.fieldLink RX5 19 "WinderLadders" "history" "LWinderLadders$History;", Cond.fieldLink RX5 169 "WinderLadders$History" "depth" "I", Cond.methodLink RX5 150 yX4_setOfStill, Cond.instanceMethod yX4_setOfStill, Cond.selects RX4 yX4_setOfStill yX4_setOfStill, Cond.code yX4_setOfStill cX4_setOfStill 3 (some .int), Cond.fieldLink RX4 77 "WinderLadders$Clock" "goes" "Z", Cond.methodLink RX5 154 yX4_numberOffBeyondTold, Cond.instanceMethod yX4_numberOffBeyondTold, Cond.selects RX4 yX4_numberOffBeyondTold yX4_numberOffBeyondTold, Cond.code yX4_numberOffBeyondTold cX4_numberOffBeyondTold 3 (some .int), Cond.methodLink RX4 119 yX0_isOffBeyond, Cond.methodLink RX5 157 yX4_numberThatCannotBeWound, Cond.instanceMethod yX4_numberThatCannotBeWound, Cond.selects RX4 yX4_numberThatCannotBeWound yX4_numberThatCannotBeWound, Cond.code yX4_numberThatCannotBeWound cX4_numberThatCannotBeWound 3 (some .int), Cond.methodLink RX4 97 yX4_canBeWound, Cond.instanceMethod yX4_canBeWound]
def wsL_isLastSo_r4 : List Cond := [Cond.selects RX4 yX4_canBeWound yX4_canBeWound, Cond.code yX4_canBeWound cX4_canBeWound 2 (some .boolean), Cond.fieldLink RX4 116 "WinderLadders$Clock" "rungs" "I", Cond.methodLink RX4 112 yX4_ladderNeeded, Cond.instanceMethod yX4_ladderNeeded, Cond.selects RX4 yX4_ladderNeeded yX4_ladderNeeded, Cond.code yX4_ladderNeeded cX4_ladderNeeded 5 (some .int), Cond.fieldLink RX4 42 "WinderLadders$State" "ladderCount" "I", Cond.fieldLink RX4 21 "WinderLadders$State" "ladders" "[I", Cond.methodLink RX5 163 yX4_timesWoundInAll, Cond.instanceMethod yX4_timesWoundInAll, Cond.selects RX4 yX4_timesWoundInAll yX4_timesWoundInAll, Cond.code yX4_timesWoundInAll cX4_timesWoundInAll 3 (some .int), Cond.fieldLink RX4 122 "WinderLadders$Clock" "timesWound" "I", Cond.methodLink RL 40 yX5_pass, Cond.instanceMethod yX5_pass, Cond.selects RX5 yX5_pass yX5_pass, Cond.code yX5_pass cX5_pass 2 (some .int), Cond.methodLink RX5 49 yX1_prepare, Cond.instanceMethod yX1_prepare, Cond.selects RX1 yX1_prepare yX1_prepare, Cond.initialized RX1, Cond.code yX1_prepare cX1_prepare 2 none, Cond.fieldLink RX1 18 "WinderLadders$History" "depth" "I"]
def wsL_isLastSo_r5 : List Cond := [Cond.fieldLink RX1 11 "WinderLadders$History" "states" "[LWinderLadders$State;", Cond.methodLink RX1 22 yX4_copyFrom, Cond.instanceMethod yX4_copyFrom, Cond.selects RX4 yX4_copyFrom yX4_copyFrom, Cond.code yX4_copyFrom cX4_copyFrom 3 none, Cond.methodLink RX4 27 arraycopyName, Cond.native arraycopyName, Cond.static arraycopyName, Cond.initialized "java/lang/System", Cond.fieldLink RX4 45 "WinderLadders$State" "days" "I", Cond.fieldLink RX4 48 "WinderLadders$State" "minutes" "I", Cond.methodLink RX4 38 yX0_copyFrom, Cond.instanceMethod yX0_copyFrom, Cond.selects RX0 yX0_copyFrom yX0_copyFrom, Cond.code yX0_copyFrom cX0_copyFrom 2 none, Cond.fieldLink RX0 9 "WinderLadders$Clock" "house" "I", Cond.fieldLink RX0 15 "WinderLadders$Clock" "rungs" "I", Cond.fieldLink RX0 30 "WinderLadders$Clock" "timesWound" "I", Cond.fieldLink RX0 33 "WinderLadders$Clock" "goes" "Z", Cond.methodLink RX5 78 yX4_passDays, Cond.instanceMethod yX4_passDays, Cond.selects RX4 yX4_passDays yX4_passDays, Cond.code yX4_passDays cX4_passDays 4 (some .int), Cond.static yX5_isWithin]
def wsL_isLastSo_r6 : List Cond := [Cond.code yX5_isWithin cX5_isWithin 3 (some .boolean), Cond.methodLink RX4 69 yX0_passDay, Cond.instanceMethod yX0_passDay, Cond.selects RX0 yX0_passDay yX0_passDay, Cond.code yX0_passDay cX0_passDay 2 none, Cond.constant RX0 47 (43200), Cond.methodLink RX4 73 yX4_numberThatGo, Cond.instanceMethod yX4_numberThatGo, Cond.selects RX4 yX4_numberThatGo yX4_numberThatGo, Cond.code yX4_numberThatGo cX4_numberThatGo 3 (some .int), Cond.methodLink RX5 57 yX5_keptIfDone, Cond.instanceMethod yX5_keptIfDone, Cond.selects RX5 yX5_keptIfDone yX5_keptIfDone, Cond.code yX5_keptIfDone cX5_keptIfDone 2 (some .int), Cond.methodLink RX5 217 yX1_keepPrepared, Cond.instanceMethod yX1_keepPrepared, Cond.selects RX1 yX1_keepPrepared yX1_keepPrepared, Cond.code yX1_keepPrepared cX1_keepPrepared 1 none, Cond.methodLink RX1 26 yX1_dropOldest, Cond.instanceMethod yX1_dropOldest, Cond.selects RX1 yX1_dropOldest yX1_dropOldest, Cond.code yX1_dropOldest cX1_dropOldest 3 none, Cond.methodLink RL 43 yX5_of, Cond.instanceMethod yX5_of]
def wsL_isLastSo_r7 : List Cond := [Cond.selects RX5 yX5_of yX5_of, Cond.code yX5_of cX5_of 4 (some .int), Cond.fieldLink RX5 88 "WinderLadders$State" "clocks" "[LWinderLadders$Clock;", Cond.fieldLink RX5 92 "WinderLadders$Clock" "house" "I", Cond.fieldLink RX5 98 "WinderLadders$Clock" "rungs" "I", Cond.fieldLink RX5 101 "WinderLadders$Clock" "drift" "I", Cond.fieldLink RX5 104 "WinderLadders$Clock" "screw" "I", Cond.fieldLink RX5 107 "WinderLadders$Clock" "off" "I", Cond.constant RX5 110 (1000000000), Cond.fieldLink RX5 111 "WinderLadders$Clock" "daysSinceWound" "I", Cond.fieldLink RX5 114 "WinderLadders$Clock" "goes" "Z", Cond.fieldLink RX5 132 "WinderLadders$Clock" "timesWound" "I", Cond.methodLink RX5 121 yX0_isOffBeyond, Cond.methodLink RX5 124 yX4_ladderNeeded, Cond.methodLink RX5 128 yX4_canBeWound, Cond.methodLink RL 65 yX5_undo, Cond.instanceMethod yX5_undo, Cond.selects RX5 yX5_undo yX5_undo, Cond.code yX5_undo cX5_undo 1 (some .int), Cond.methodLink RX5 210 yX1_takeBack, Cond.instanceMethod yX1_takeBack, Cond.selects RX1 yX1_takeBack yX1_takeBack, Cond.code yX1_takeBack cX1_takeBack 2 (some .boolean)]
def wsL_isLastSo : List Cond := .code yL_isLastSo cL_isLastSo 7 (some .boolean) :: ((wsL_isLastSo_r1 ++ (wsL_isLastSo_r2 ++ (wsL_isLastSo_r3 ++ (wsL_isLastSo_r4 ++ (wsL_isLastSo_r5 ++ (wsL_isLastSo_r6 ++ wsL_isLastSo_r7)))))) ++ wsX50 ++ wsX40 ++ wsX00 ++ wsX20 ++ wsX10)
def wsL_isRoundSo_r1 : List Cond := [Cond.methodLink RL 68 yX5_takes, Cond.instanceMethod yX5_takes, Cond.selects RX5 yX5_takes yX5_takes, Cond.initialized RX5, Cond.code yX5_takes cX5_takes 3 (some .int), Cond.fieldLink RX5 12 "WinderLadders" "now" "LWinderLadders$State;", Cond.fieldLink RX5 41 "WinderLadders" "row" "LWinderLadders$Row;", Cond.methodLink RX5 71 yX5_chooseRow, Cond.instanceMethod yX5_chooseRow, Cond.selects RX5 yX5_chooseRow yX5_chooseRow, Cond.code yX5_chooseRow cX5_chooseRow 3 (some .int), Cond.fieldLink RX5 144 "WinderLadders$State" "clockCount" "I", Cond.fieldLink RX5 226 "WinderLadders$Row" "length" "I", Cond.methodLink RX5 220 yX3_clear, Cond.instanceMethod yX3_clear, Cond.selects RX3 yX3_clear yX3_clear, Cond.initialized RX3, Cond.code yX3_clear cX3_clear 1 none, Cond.fieldLink RX3 15 "WinderLadders$Row" "length" "I", Cond.methodLink RX5 223 yX3_add, Cond.instanceMethod yX3_add, Cond.selects RX3 yX3_add yX3_add, Cond.code yX3_add cX3_add 2 (some .boolean), Cond.fieldLink RX3 9 "WinderLadders$Row" "numbers" "[I"]
def wsL_isRoundSo_r2 : List Cond := [Cond.methodLink RX5 172 yX4_minutesOf, Cond.instanceMethod yX4_minutesOf, Cond.selects RX4 yX4_minutesOf yX4_minutesOf, Cond.initialized RX4, Cond.code yX4_minutesOf cX4_minutesOf 10 (some .int), Cond.fieldLink RX4 88 "WinderLadders$Row" "length" "I", Cond.fieldLink RX4 17 "WinderLadders$State" "clocks" "[LWinderLadders$Clock;", Cond.fieldLink RX4 104 "WinderLadders$Clock" "house" "I", Cond.methodLink RX4 107 Lib.Math.abs.name, Cond.static Lib.Math.abs.name, Cond.initialized "java/lang/Math", Cond.code Lib.Math.abs.name Lib.Math.abs.code 1 (some .int), Cond.fieldLink RX4 9 "WinderLadders$State" "settings" "[I", Cond.methodLink RX4 93 yX3_at, Cond.instanceMethod yX3_at, Cond.selects RX3 yX3_at yX3_at, Cond.code yX3_at cX3_at 2 (some .int), Cond.methodLink RX4 62 yX4_hasClock, Cond.instanceMethod yX4_hasClock, Cond.selects RX4 yX4_hasClock yX4_hasClock, Cond.code yX4_hasClock cX4_hasClock 2 (some .boolean), Cond.fieldLink RX4 34 "WinderLadders$State" "clockCount" "I", Cond.methodLink RX4 112 yX4_ladderNeeded, Cond.instanceMethod yX4_ladderNeeded]
def wsL_isRoundSo_r3 : List Cond := [Cond.selects RX4 yX4_ladderNeeded yX4_ladderNeeded, Cond.code yX4_ladderNeeded cX4_ladderNeeded 5 (some .int), Cond.fieldLink RX4 116 "WinderLadders$Clock" "rungs" "I", Cond.fieldLink RX4 42 "WinderLadders$State" "ladderCount" "I", Cond.fieldLink RX4 21 "WinderLadders$State" "ladders" "[I", Cond.methodLink RX4 97 yX4_canBeWound, Cond.instanceMethod yX4_canBeWound, Cond.selects RX4 yX4_canBeWound yX4_canBeWound, Cond.code yX4_canBeWound cX4_canBeWound 2 (some .boolean), Cond.methodLink RL 71 yX5_wayRound, Cond.instanceMethod yX5_wayRound, Cond.selects RX5 yX5_wayRound yX5_wayRound, Cond.code yX5_wayRound cX5_wayRound 5 (some .int), Cond.methodLink RX5 189 yX3_turnRound, Cond.instanceMethod yX3_turnRound, Cond.selects RX3 yX3_turnRound yX3_turnRound, Cond.code yX3_turnRound cX3_turnRound 3 none, Cond.methodLink RL 8 yX5_count, Cond.instanceMethod yX5_count, Cond.selects RX5 yX5_count yX5_count, Cond.code yX5_count cX5_count 2 (some .int), Cond.fieldLink RX5 141 "WinderLadders$State" "days" "I", Cond.fieldLink RX5 147 "WinderLadders$State" "ladderCount" "I", Cond.fieldLink RX5 160 "WinderLadders$State" "minutes" "I"]
def wsL_isRoundSo_r4 : List Cond := [Cond.fieldLink RX5 118 "WinderLadders$State" "settings" "[I", Cond.fieldLink RX5 34 "WinderLadders" "pad" "LWinderLadders$Pad;", Cond.fieldLink RX5 166 "WinderLadders$Pad" "length" "I", Cond.fieldLink RX5 19 "WinderLadders" "history" "LWinderLadders$History;", Cond.fieldLink RX5 169 "WinderLadders$History" "depth" "I", Cond.methodLink RX5 150 yX4_setOfStill, Cond.instanceMethod yX4_setOfStill, Cond.selects RX4 yX4_setOfStill yX4_setOfStill, Cond.code yX4_setOfStill cX4_setOfStill 3 (some .int), Cond.fieldLink RX4 77 "WinderLadders$Clock" "goes" "Z", Cond.methodLink RX5 154 yX4_numberOffBeyondTold, Cond.instanceMethod yX4_numberOffBeyondTold, Cond.selects RX4 yX4_numberOffBeyondTold yX4_numberOffBeyondTold, Cond.code yX4_numberOffBeyondTold cX4_numberOffBeyondTold 3 (some .int), Cond.methodLink RX4 119 yX0_isOffBeyond, Cond.instanceMethod yX0_isOffBeyond, Cond.selects RX0 yX0_isOffBeyond yX0_isOffBeyond, Cond.initialized RX0, Cond.code yX0_isOffBeyond cX0_isOffBeyond 2 (some .boolean), Cond.fieldLink RX0 24 "WinderLadders$Clock" "off" "I", Cond.methodLink RX0 37 Lib.Math.abs.name, Cond.methodLink RX5 157 yX4_numberThatCannotBeWound, Cond.instanceMethod yX4_numberThatCannotBeWound, Cond.selects RX4 yX4_numberThatCannotBeWound yX4_numberThatCannotBeWound]
def wsL_isRoundSo_r5 : List Cond := [Cond.code yX4_numberThatCannotBeWound cX4_numberThatCannotBeWound 3 (some .int), Cond.methodLink RX5 163 yX4_timesWoundInAll, Cond.instanceMethod yX4_timesWoundInAll, Cond.selects RX4 yX4_timesWoundInAll yX4_timesWoundInAll, Cond.code yX4_timesWoundInAll cX4_timesWoundInAll 3 (some .int), Cond.fieldLink RX4 122 "WinderLadders$Clock" "timesWound" "I", Cond.methodLink RL 43 yX5_of, Cond.instanceMethod yX5_of, Cond.selects RX5 yX5_of yX5_of, Cond.code yX5_of cX5_of 4 (some .int), Cond.fieldLink RX5 88 "WinderLadders$State" "clocks" "[LWinderLadders$Clock;", Cond.fieldLink RX5 92 "WinderLadders$Clock" "house" "I", Cond.fieldLink RX5 98 "WinderLadders$Clock" "rungs" "I", Cond.fieldLink RX5 101 "WinderLadders$Clock" "drift" "I", Cond.fieldLink RX5 104 "WinderLadders$Clock" "screw" "I", Cond.fieldLink RX5 107 "WinderLadders$Clock" "off" "I", Cond.constant RX5 110 (1000000000), Cond.fieldLink RX5 111 "WinderLadders$Clock" "daysSinceWound" "I", Cond.fieldLink RX5 114 "WinderLadders$Clock" "goes" "Z", Cond.fieldLink RX5 132 "WinderLadders$Clock" "timesWound" "I", Cond.methodLink RX5 84 yX4_hasClock, Cond.methodLink RX5 121 yX0_isOffBeyond, Cond.methodLink RX5 124 yX4_ladderNeeded, Cond.methodLink RX5 128 yX4_canBeWound]
def wsL_isRoundSo_r6 : List Cond := [Cond.methodLink RL 37 yX5_round, Cond.instanceMethod yX5_round, Cond.selects RX5 yX5_round yX5_round, Cond.code yX5_round cX5_round 3 (some .int), Cond.methodLink RX5 49 yX1_prepare, Cond.instanceMethod yX1_prepare, Cond.selects RX1 yX1_prepare yX1_prepare, Cond.initialized RX1, Cond.code yX1_prepare cX1_prepare 2 none, Cond.fieldLink RX1 18 "WinderLadders$History" "depth" "I", Cond.fieldLink RX1 11 "WinderLadders$History" "states" "[LWinderLadders$State;", Cond.methodLink RX1 22 yX4_copyFrom, Cond.instanceMethod yX4_copyFrom, Cond.selects RX4 yX4_copyFrom yX4_copyFrom, Cond.code yX4_copyFrom cX4_copyFrom 3 none, Cond.methodLink RX4 27 arraycopyName, Cond.native arraycopyName, Cond.static arraycopyName, Cond.initialized "java/lang/System", Cond.fieldLink RX4 45 "WinderLadders$State" "days" "I", Cond.fieldLink RX4 48 "WinderLadders$State" "minutes" "I", Cond.methodLink RX4 38 yX0_copyFrom, Cond.instanceMethod yX0_copyFrom, Cond.selects RX0 yX0_copyFrom yX0_copyFrom]
def wsL_isRoundSo_r7 : List Cond := [Cond.code yX0_copyFrom cX0_copyFrom 2 none, Cond.fieldLink RX0 9 "WinderLadders$Clock" "house" "I", Cond.fieldLink RX0 15 "WinderLadders$Clock" "rungs" "I", Cond.fieldLink RX0 18 "WinderLadders$Clock" "drift" "I", Cond.fieldLink RX0 21 "WinderLadders$Clock" "screw" "I", Cond.fieldLink RX0 27 "WinderLadders$Clock" "daysSinceWound" "I", Cond.fieldLink RX0 30 "WinderLadders$Clock" "timesWound" "I", Cond.fieldLink RX0 33 "WinderLadders$Clock" "goes" "Z", Cond.methodLink RX5 74 yX4_walkBeat, Cond.instanceMethod yX4_walkBeat, Cond.selects RX4 yX4_walkBeat yX4_walkBeat, Cond.code yX4_walkBeat cX4_walkBeat 5 (some .int), Cond.methodLink RX4 84 yX4_minutesOf, Cond.methodLink RX4 101 yX0_windAndSet, Cond.instanceMethod yX0_windAndSet, Cond.selects RX0 yX0_windAndSet yX0_windAndSet, Cond.code yX0_windAndSet cX0_windAndSet 2 none, Cond.methodLink RX0 48 yX0_isOffBeyond, Cond.methodLink RX0 52 yX0_turnByRule, Cond.instanceMethod yX0_turnByRule, Cond.selects RX0 yX0_turnByRule yX0_turnByRule, Cond.code yX0_turnByRule cX0_turnByRule 2 none, Cond.methodLink RX0 43 yX0_driftWithScrew, Cond.instanceMethod yX0_driftWithScrew]
def wsL_isRoundSo_r8 : List Cond := [Cond.selects RX0 yX0_driftWithScrew yX0_driftWithScrew, Cond.code yX0_driftWithScrew cX0_driftWithScrew 1 (some .int), Cond.methodLink RX5 57 yX5_keptIfDone, Cond.instanceMethod yX5_keptIfDone, Cond.selects RX5 yX5_keptIfDone yX5_keptIfDone, Cond.code yX5_keptIfDone cX5_keptIfDone 2 (some .int), Cond.methodLink RX5 217 yX1_keepPrepared, Cond.instanceMethod yX1_keepPrepared, Cond.selects RX1 yX1_keepPrepared yX1_keepPrepared, Cond.code yX1_keepPrepared cX1_keepPrepared 1 none, Cond.methodLink RX1 26 yX1_dropOldest, Cond.instanceMethod yX1_dropOldest, Cond.selects RX1 yX1_dropOldest yX1_dropOldest, Cond.code yX1_dropOldest cX1_dropOldest 3 none, Cond.methodLink RL 50 yL_off, Cond.static yL_off, Cond.initialized RL, Cond.code yL_off cL_off 2 (some .int), Cond.constant RL 46 (1000000000), Cond.methodLink RL 65 yX5_undo, Cond.instanceMethod yX5_undo, Cond.selects RX5 yX5_undo yX5_undo, Cond.code yX5_undo cX5_undo 1 (some .int), Cond.methodLink RX5 210 yX1_takeBack]
def wsL_isRoundSo_r9 : List Cond := [Cond.instanceMethod yX1_takeBack, Cond.selects RX1 yX1_takeBack yX1_takeBack, Cond.code yX1_takeBack cX1_takeBack 2 (some .boolean)]
def wsL_isRoundSo : List Cond := .code yL_isRoundSo cL_isRoundSo 14 (some .boolean) :: ((wsL_isRoundSo_r1 ++ (wsL_isRoundSo_r2 ++ (wsL_isRoundSo_r3 ++ (wsL_isRoundSo_r4 ++ (wsL_isRoundSo_r5 ++ (wsL_isRoundSo_r6 ++ (wsL_isRoundSo_r7 ++ (wsL_isRoundSo_r8 ++ wsL_isRoundSo_r9)))))))) ++ wsX50 ++ wsX40 ++ wsX30 ++ wsX00 ++ wsX20 ++ wsX10)
def wsL_law_r1 : List Cond := [Cond.classLink RL 9 RX5, Cond.instantiable RX5 7, Cond.initialized RX5, Cond.constant RL 36 (65535), Cond.methodLink RL 74 yX5_init, Cond.instanceMethod yX5_init, Cond.code yX5_init cX5_init 2 none, Cond.methodLink RX5 3 objectInit, Cond.instanceMethod objectInit, Cond.code objectInit ⟨#[0xb1]⟩ 1 none, Cond.classLink RX5 9 RX4, Cond.instantiable RX4 7, Cond.initialized RX4, Cond.fieldLink RX5 12 "WinderLadders" "now" "LWinderLadders$State;", Cond.classLink RX5 16 RX1, Cond.instantiable RX1 2, Cond.initialized RX1, Cond.fieldLink RX5 19 "WinderLadders" "history" "LWinderLadders$History;", Cond.fieldLink RX5 23 "WinderLadders" "slots" "[LWinderLadders$State;", Cond.arrayClass .boolean, Cond.fieldLink RX5 27 "WinderLadders" "slotHolds" "[Z", Cond.classLink RX5 31 RX2, Cond.instantiable RX2 5, Cond.initialized RX2]
def wsL_law_r2 : List Cond := [Cond.fieldLink RX5 34 "WinderLadders" "pad" "LWinderLadders$Pad;", Cond.classLink RX5 38 RX3, Cond.instantiable RX3 2, Cond.initialized RX3, Cond.fieldLink RX5 41 "WinderLadders" "row" "LWinderLadders$Row;", Cond.arrayClass .int, Cond.fieldLink RX5 45 "WinderLadders" "lasting" "[I", Cond.methodLink RX5 11 yX4_init, Cond.instanceMethod yX4_init, Cond.code yX4_init cX4_init 2 none, Cond.methodLink RX4 3 objectInit, Cond.fieldLink RX4 9 "WinderLadders$State" "settings" "[I", Cond.classLink RX4 15 RX0, Cond.fieldLink RX4 17 "WinderLadders$State" "clocks" "[LWinderLadders$Clock;", Cond.fieldLink RX4 21 "WinderLadders$State" "ladders" "[I", Cond.methodLink RX4 27 arraycopyName, Cond.native arraycopyName, Cond.static arraycopyName, Cond.initialized "java/lang/System", Cond.instantiable RX0 8, Cond.initialized RX0, Cond.instanceMethod yX0_init, Cond.code yX0_init cX0_init 1 none, Cond.methodLink RX0 3 objectInit]
def wsL_law_r3 : List Cond := [Cond.methodLink RX5 18 yX1_init, Cond.instanceMethod yX1_init, Cond.code yX1_init cX1_init 2 none, Cond.methodLink RX1 3 objectInit, Cond.classLink RX1 9 RX4, Cond.fieldLink RX1 11 "WinderLadders$History" "states" "[LWinderLadders$State;", Cond.methodLink RX1 17 yX4_init, Cond.instanceMethod yX2_init, Cond.code yX2_init cX2_init 1 none, Cond.methodLink RX2 3 objectInit, Cond.arrayClass .char, Cond.fieldLink RX2 9 "WinderLadders$Pad" "signs" "[C", Cond.classLink RX2 15 RX3, Cond.fieldLink RX2 18 "WinderLadders$Pad" "numbers" "LWinderLadders$Row;", Cond.instanceMethod yX3_init, Cond.code yX3_init cX3_init 1 none, Cond.methodLink RX3 3 objectInit, Cond.fieldLink RX3 9 "WinderLadders$Row" "numbers" "[I", Cond.methodLink RL 75 yL_cell, Cond.static yL_cell, Cond.initialized RL, Cond.code yL_cell cL_cell 2 (some .int), Cond.methodLink RL 79 yL_does, Cond.static yL_does]
def wsL_law_r4 : List Cond := [Cond.code yL_does cL_does 4 (some .int), Cond.methodLink RL 8 yX5_count, Cond.instanceMethod yX5_count, Cond.selects RX5 yX5_count yX5_count, Cond.code yX5_count cX5_count 2 (some .int), Cond.fieldLink RX5 141 "WinderLadders$State" "days" "I", Cond.fieldLink RX5 144 "WinderLadders$State" "clockCount" "I", Cond.fieldLink RX5 147 "WinderLadders$State" "ladderCount" "I", Cond.fieldLink RX5 160 "WinderLadders$State" "minutes" "I", Cond.fieldLink RX5 118 "WinderLadders$State" "settings" "[I", Cond.fieldLink RX5 166 "WinderLadders$Pad" "length" "I", Cond.fieldLink RX5 169 "WinderLadders$History" "depth" "I", Cond.methodLink RX5 150 yX4_setOfStill, Cond.instanceMethod yX4_setOfStill, Cond.selects RX4 yX4_setOfStill yX4_setOfStill, Cond.code yX4_setOfStill cX4_setOfStill 3 (some .int), Cond.fieldLink RX4 34 "WinderLadders$State" "clockCount" "I", Cond.fieldLink RX4 77 "WinderLadders$Clock" "goes" "Z", Cond.methodLink RX5 154 yX4_numberOffBeyondTold, Cond.instanceMethod yX4_numberOffBeyondTold, Cond.selects RX4 yX4_numberOffBeyondTold yX4_numberOffBeyondTold, Cond.code yX4_numberOffBeyondTold cX4_numberOffBeyondTold 3 (some .int), Cond.methodLink RX4 119 yX0_isOffBeyond, Cond.instanceMethod yX0_isOffBeyond]
def wsL_law_r5 : List Cond := [Cond.selects RX0 yX0_isOffBeyond yX0_isOffBeyond, Cond.code yX0_isOffBeyond cX0_isOffBeyond 2 (some .boolean), Cond.fieldLink RX0 24 "WinderLadders$Clock" "off" "I", Cond.methodLink RX0 37 Lib.Math.abs.name, Cond.static Lib.Math.abs.name, Cond.initialized "java/lang/Math", Cond.code Lib.Math.abs.name Lib.Math.abs.code 1 (some .int), Cond.methodLink RX5 157 yX4_numberThatCannotBeWound, Cond.instanceMethod yX4_numberThatCannotBeWound, Cond.selects RX4 yX4_numberThatCannotBeWound yX4_numberThatCannotBeWound, Cond.code yX4_numberThatCannotBeWound cX4_numberThatCannotBeWound 3 (some .int), Cond.methodLink RX4 97 yX4_canBeWound, Cond.instanceMethod yX4_canBeWound, Cond.selects RX4 yX4_canBeWound yX4_canBeWound, Cond.code yX4_canBeWound cX4_canBeWound 2 (some .boolean), Cond.fieldLink RX4 116 "WinderLadders$Clock" "rungs" "I", Cond.methodLink RX4 112 yX4_ladderNeeded, Cond.instanceMethod yX4_ladderNeeded, Cond.selects RX4 yX4_ladderNeeded yX4_ladderNeeded, Cond.code yX4_ladderNeeded cX4_ladderNeeded 5 (some .int), Cond.fieldLink RX4 42 "WinderLadders$State" "ladderCount" "I", Cond.methodLink RX5 163 yX4_timesWoundInAll, Cond.instanceMethod yX4_timesWoundInAll, Cond.selects RX4 yX4_timesWoundInAll yX4_timesWoundInAll]
def wsL_law_r6 : List Cond := [Cond.code yX4_timesWoundInAll cX4_timesWoundInAll 3 (some .int), Cond.fieldLink RX4 122 "WinderLadders$Clock" "timesWound" "I", Cond.methodLink RL 14 yL_low, Cond.static yL_low, Cond.code yL_low cL_low 2 (some .int), Cond.constant RL 7 (2147483647), Cond.methodLink RL 20 yX5_hang, Cond.instanceMethod yX5_hang, Cond.selects RX5 yX5_hang yX5_hang, Cond.code yX5_hang cX5_hang 4 (some .int), Cond.methodLink RX5 49 yX1_prepare, Cond.instanceMethod yX1_prepare, Cond.selects RX1 yX1_prepare yX1_prepare, Cond.code yX1_prepare cX1_prepare 2 none, Cond.fieldLink RX1 18 "WinderLadders$History" "depth" "I", Cond.methodLink RX1 22 yX4_copyFrom, Cond.instanceMethod yX4_copyFrom, Cond.selects RX4 yX4_copyFrom yX4_copyFrom, Cond.code yX4_copyFrom cX4_copyFrom 3 none, Cond.fieldLink RX4 45 "WinderLadders$State" "days" "I", Cond.fieldLink RX4 48 "WinderLadders$State" "minutes" "I", Cond.methodLink RX4 38 yX0_copyFrom, Cond.instanceMethod yX0_copyFrom, Cond.selects RX0 yX0_copyFrom yX0_copyFrom]
def wsL_law_r7 : List Cond := [Cond.code yX0_copyFrom cX0_copyFrom 2 none, Cond.fieldLink RX0 9 "WinderLadders$Clock" "house" "I", Cond.fieldLink RX0 15 "WinderLadders$Clock" "rungs" "I", Cond.fieldLink RX0 18 "WinderLadders$Clock" "drift" "I", Cond.fieldLink RX0 21 "WinderLadders$Clock" "screw" "I", Cond.fieldLink RX0 27 "WinderLadders$Clock" "daysSinceWound" "I", Cond.fieldLink RX0 30 "WinderLadders$Clock" "timesWound" "I", Cond.fieldLink RX0 33 "WinderLadders$Clock" "goes" "Z", Cond.methodLink RX5 61 yX4_addClock, Cond.instanceMethod yX4_addClock, Cond.selects RX4 yX4_addClock yX4_addClock, Cond.code yX4_addClock cX4_addClock 4 (some .int), Cond.static yX5_isWithin, Cond.code yX5_isWithin cX5_isWithin 3 (some .boolean), Cond.methodLink RX4 58 yX0_begin, Cond.instanceMethod yX0_begin, Cond.selects RX0 yX0_begin yX0_begin, Cond.code yX0_begin cX0_begin 4 none, Cond.methodLink RX5 57 yX5_keptIfDone, Cond.instanceMethod yX5_keptIfDone, Cond.selects RX5 yX5_keptIfDone yX5_keptIfDone, Cond.code yX5_keptIfDone cX5_keptIfDone 2 (some .int), Cond.methodLink RX5 217 yX1_keepPrepared, Cond.instanceMethod yX1_keepPrepared]
def wsL_law_r8 : List Cond := [Cond.selects RX1 yX1_keepPrepared yX1_keepPrepared, Cond.code yX1_keepPrepared cX1_keepPrepared 1 none, Cond.methodLink RX1 26 yX1_dropOldest, Cond.instanceMethod yX1_dropOldest, Cond.selects RX1 yX1_dropOldest yX1_dropOldest, Cond.code yX1_dropOldest cX1_dropOldest 3 none, Cond.methodLink RL 24 yX5_ladder, Cond.instanceMethod yX5_ladder, Cond.selects RX5 yX5_ladder yX5_ladder, Cond.code yX5_ladder cX5_ladder 2 (some .int), Cond.methodLink RX5 65 yX4_addLadder, Cond.instanceMethod yX4_addLadder, Cond.selects RX4 yX4_addLadder yX4_addLadder, Cond.code yX4_addLadder cX4_addLadder 2 (some .int), Cond.methodLink RL 27 yX5_screw, Cond.instanceMethod yX5_screw, Cond.selects RX5 yX5_screw yX5_screw, Cond.code yX5_screw cX5_screw 3 (some .int), Cond.methodLink RX5 68 yX4_turnScrew, Cond.instanceMethod yX4_turnScrew, Cond.selects RX4 yX4_turnScrew yX4_turnScrew, Cond.code yX4_turnScrew cX4_turnScrew 4 (some .int), Cond.fieldLink RX4 66 "WinderLadders$Clock" "screw" "I", Cond.methodLink RX4 62 yX4_hasClock]
def wsL_law_r9 : List Cond := [Cond.instanceMethod yX4_hasClock, Cond.selects RX4 yX4_hasClock yX4_hasClock, Cond.code yX4_hasClock cX4_hasClock 2 (some .boolean), Cond.methodLink RL 30 yX5_set, Cond.instanceMethod yX5_set, Cond.selects RX5 yX5_set yX5_set, Cond.code yX5_set cX5_set 3 (some .int), Cond.methodLink RX5 53 yX4_replaceSetting, Cond.instanceMethod yX4_replaceSetting, Cond.selects RX4 yX4_replaceSetting yX4_replaceSetting, Cond.code yX4_replaceSetting cX4_replaceSetting 4 (some .int), Cond.methodLink RL 33 yX5_change, Cond.instanceMethod yX5_change, Cond.selects RX5 yX5_change yX5_change, Cond.code yX5_change cX5_change 2 (some .int), Cond.methodLink RX5 81 yX4_changeClocks, Cond.instanceMethod yX4_changeClocks, Cond.selects RX4 yX4_changeClocks yX4_changeClocks, Cond.code yX4_changeClocks cX4_changeClocks 4 (some .int), Cond.fieldLink RX4 81 "WinderLadders$Clock" "off" "I", Cond.methodLink RX4 73 yX4_numberThatGo, Cond.instanceMethod yX4_numberThatGo, Cond.selects RX4 yX4_numberThatGo yX4_numberThatGo, Cond.code yX4_numberThatGo cX4_numberThatGo 3 (some .int)]
def wsL_law_r10 : List Cond := [Cond.methodLink RL 37 yX5_round, Cond.instanceMethod yX5_round, Cond.selects RX5 yX5_round yX5_round, Cond.code yX5_round cX5_round 3 (some .int), Cond.methodLink RX5 71 yX5_chooseRow, Cond.instanceMethod yX5_chooseRow, Cond.selects RX5 yX5_chooseRow yX5_chooseRow, Cond.code yX5_chooseRow cX5_chooseRow 3 (some .int), Cond.fieldLink RX5 226 "WinderLadders$Row" "length" "I", Cond.methodLink RX5 220 yX3_clear, Cond.instanceMethod yX3_clear, Cond.selects RX3 yX3_clear yX3_clear, Cond.code yX3_clear cX3_clear 1 none, Cond.fieldLink RX3 15 "WinderLadders$Row" "length" "I", Cond.methodLink RX5 223 yX3_add, Cond.instanceMethod yX3_add, Cond.selects RX3 yX3_add yX3_add, Cond.code yX3_add cX3_add 2 (some .boolean), Cond.methodLink RX5 74 yX4_walkBeat, Cond.instanceMethod yX4_walkBeat, Cond.selects RX4 yX4_walkBeat yX4_walkBeat, Cond.code yX4_walkBeat cX4_walkBeat 5 (some .int), Cond.fieldLink RX4 88 "WinderLadders$Row" "length" "I", Cond.methodLink RX4 84 yX4_minutesOf]
def wsL_law_r11 : List Cond := [Cond.instanceMethod yX4_minutesOf, Cond.selects RX4 yX4_minutesOf yX4_minutesOf, Cond.code yX4_minutesOf cX4_minutesOf 10 (some .int), Cond.fieldLink RX4 104 "WinderLadders$Clock" "house" "I", Cond.methodLink RX4 107 Lib.Math.abs.name, Cond.methodLink RX4 93 yX3_at, Cond.instanceMethod yX3_at, Cond.selects RX3 yX3_at yX3_at, Cond.code yX3_at cX3_at 2 (some .int), Cond.methodLink RX4 101 yX0_windAndSet, Cond.instanceMethod yX0_windAndSet, Cond.selects RX0 yX0_windAndSet yX0_windAndSet, Cond.code yX0_windAndSet cX0_windAndSet 2 none, Cond.methodLink RX0 48 yX0_isOffBeyond, Cond.methodLink RX0 52 yX0_turnByRule, Cond.instanceMethod yX0_turnByRule, Cond.selects RX0 yX0_turnByRule yX0_turnByRule, Cond.code yX0_turnByRule cX0_turnByRule 2 none, Cond.methodLink RX0 43 yX0_driftWithScrew, Cond.instanceMethod yX0_driftWithScrew, Cond.selects RX0 yX0_driftWithScrew yX0_driftWithScrew, Cond.code yX0_driftWithScrew cX0_driftWithScrew 1 (some .int), Cond.methodLink RL 40 yX5_pass, Cond.instanceMethod yX5_pass]
def wsL_law_r12 : List Cond := [Cond.selects RX5 yX5_pass yX5_pass, Cond.code yX5_pass cX5_pass 2 (some .int), Cond.methodLink RX5 78 yX4_passDays, Cond.instanceMethod yX4_passDays, Cond.selects RX4 yX4_passDays yX4_passDays, Cond.code yX4_passDays cX4_passDays 4 (some .int), Cond.methodLink RX4 69 yX0_passDay, Cond.instanceMethod yX0_passDay, Cond.selects RX0 yX0_passDay yX0_passDay, Cond.code yX0_passDay cX0_passDay 2 none, Cond.constant RX0 47 (43200), Cond.methodLink RL 82 yL_areClocksSo, Cond.static yL_areClocksSo, Cond.code yL_areClocksSo cL_areClocksSo 11 (some .boolean), Cond.constant RL 54 (43200), Cond.methodLink RL 43 yX5_of, Cond.instanceMethod yX5_of, Cond.selects RX5 yX5_of yX5_of, Cond.code yX5_of cX5_of 4 (some .int), Cond.fieldLink RX5 88 "WinderLadders$State" "clocks" "[LWinderLadders$Clock;", Cond.fieldLink RX5 92 "WinderLadders$Clock" "house" "I", Cond.fieldLink RX5 98 "WinderLadders$Clock" "rungs" "I", Cond.fieldLink RX5 101 "WinderLadders$Clock" "drift" "I", Cond.fieldLink RX5 104 "WinderLadders$Clock" "screw" "I"]
def wsL_law_r13 : List Cond := [Cond.fieldLink RX5 107 "WinderLadders$Clock" "off" "I", Cond.constant RX5 110 (1000000000), Cond.fieldLink RX5 111 "WinderLadders$Clock" "daysSinceWound" "I", Cond.fieldLink RX5 114 "WinderLadders$Clock" "goes" "Z", Cond.fieldLink RX5 132 "WinderLadders$Clock" "timesWound" "I", Cond.methodLink RX5 84 yX4_hasClock, Cond.methodLink RX5 121 yX0_isOffBeyond, Cond.methodLink RX5 124 yX4_ladderNeeded, Cond.methodLink RX5 128 yX4_canBeWound, Cond.methodLink RL 47 yX5_ofLadder, Cond.instanceMethod yX5_ofLadder, Cond.selects RX5 yX5_ofLadder yX5_ofLadder, Cond.code yX5_ofLadder cX5_ofLadder 2 (some .int), Cond.fieldLink RX5 138 "WinderLadders$State" "ladders" "[I", Cond.methodLink RX5 135 yX4_hasLadder, Cond.instanceMethod yX4_hasLadder, Cond.selects RX4 yX4_hasLadder yX4_hasLadder, Cond.code yX4_hasLadder cX4_hasLadder 2 (some .boolean), Cond.methodLink RL 50 yL_off, Cond.static yL_off, Cond.code yL_off cL_off 2 (some .int), Cond.constant RL 46 (1000000000), Cond.methodLink RL 86 yL_areNeedsSo, Cond.static yL_areNeedsSo]
def wsL_law_r14 : List Cond := [Cond.code yL_areNeedsSo cL_areNeedsSo 8 (some .boolean), Cond.methodLink RL 55 yX5_needs, Cond.instanceMethod yX5_needs, Cond.selects RX5 yX5_needs yX5_needs, Cond.code yX5_needs cX5_needs 3 (some .int), Cond.methodLink RX5 178 yX4_tellDaysUntilOff, Cond.instanceMethod yX4_tellDaysUntilOff, Cond.selects RX4 yX4_tellDaysUntilOff yX4_tellDaysUntilOff, Cond.code yX4_tellDaysUntilOff cX4_tellDaysUntilOff 3 none, Cond.methodLink RX4 132 yX4_daysUntilOff, Cond.instanceMethod yX4_daysUntilOff, Cond.selects RX4 yX4_daysUntilOff yX4_daysUntilOff, Cond.code yX4_daysUntilOff cX4_daysUntilOff 2 (some .int), Cond.methodLink RX4 129 yX0_daysUntilOff, Cond.instanceMethod yX0_daysUntilOff, Cond.selects RX0 yX0_daysUntilOff yX0_daysUntilOff, Cond.code yX0_daysUntilOff cX0_daysUntilOff 5 (some .int), Cond.methodLink RX0 55 Lib.Math.max.name, Cond.static Lib.Math.max.name, Cond.code Lib.Math.max.name Lib.Math.max.code 2 (some .int), Cond.methodLink RX5 182 yX4_rankOf, Cond.instanceMethod yX4_rankOf, Cond.selects RX4 yX4_rankOf yX4_rankOf, Cond.code yX4_rankOf cX4_rankOf 5 (some .int)]
def wsL_law_r15 : List Cond := [Cond.methodLink RL 58 yX5_lasts, Cond.instanceMethod yX5_lasts, Cond.selects RX5 yX5_lasts yX5_lasts, Cond.code yX5_lasts cX5_lasts 2 (some .int), Cond.methodLink RX5 175 yX4_daysUntilOff, Cond.methodLink RL 61 yX5_ladderFor, Cond.instanceMethod yX5_ladderFor, Cond.selects RX5 yX5_ladderFor yX5_ladderFor, Cond.code yX5_ladderFor cX5_ladderFor 2 (some .int), Cond.methodLink RX5 186 yX4_rungsOutOfReach, Cond.instanceMethod yX4_rungsOutOfReach, Cond.selects RX4 yX4_rungsOutOfReach yX4_rungsOutOfReach, Cond.code yX4_rungsOutOfReach cX4_rungsOutOfReach 3 (some .int), Cond.methodLink RX4 125 Lib.Math.max.name, Cond.methodLink RL 65 yX5_undo, Cond.instanceMethod yX5_undo, Cond.selects RX5 yX5_undo yX5_undo, Cond.code yX5_undo cX5_undo 1 (some .int), Cond.methodLink RX5 210 yX1_takeBack, Cond.instanceMethod yX1_takeBack, Cond.selects RX1 yX1_takeBack yX1_takeBack, Cond.code yX1_takeBack cX1_takeBack 2 (some .boolean), Cond.methodLink RL 89 yL_isLastSo, Cond.static yL_isLastSo]
def wsL_law_r16 : List Cond := [Cond.code yL_isLastSo cL_isLastSo 7 (some .boolean), Cond.methodLink RL 93 yL_isRoundSo, Cond.static yL_isRoundSo, Cond.code yL_isRoundSo cL_isRoundSo 14 (some .boolean), Cond.methodLink RL 68 yX5_takes, Cond.instanceMethod yX5_takes, Cond.selects RX5 yX5_takes yX5_takes, Cond.code yX5_takes cX5_takes 3 (some .int), Cond.methodLink RX5 172 yX4_minutesOf, Cond.methodLink RL 71 yX5_wayRound, Cond.instanceMethod yX5_wayRound, Cond.selects RX5 yX5_wayRound yX5_wayRound, Cond.code yX5_wayRound cX5_wayRound 5 (some .int), Cond.methodLink RX5 189 yX3_turnRound, Cond.instanceMethod yX3_turnRound, Cond.selects RX3 yX3_turnRound yX3_turnRound, Cond.code yX3_turnRound cX3_turnRound 3 none]
def wsL_law : List Cond := (wsL_law_r1 ++ (wsL_law_r2 ++ (wsL_law_r3 ++ (wsL_law_r4 ++ (wsL_law_r5 ++ (wsL_law_r6 ++ (wsL_law_r7 ++ (wsL_law_r8 ++ (wsL_law_r9 ++ (wsL_law_r10 ++ (wsL_law_r11 ++ (wsL_law_r12 ++ (wsL_law_r13 ++ (wsL_law_r14 ++ (wsL_law_r15 ++ wsL_law_r16))))))))))))))) ++ wsX50 ++ wsX40 ++ wsX10 ++ wsX20 ++ wsX30 ++ wsX00 ++ ([] : List Cond)
end
section
abbrev vwCl : List vw_C := [(RX0, TX0, 8), (RX1, TX1, 2), (RX2, TX2, 5), (RX3, TX3, 2), (RX4, TX4, 7), (RX5, TX5, 7)]
/-! the worlds: the model's nine cells by one table of numbers M (M k j: the k-th field, place j) -/
abbrev MS : Type := Nat → Nat → Int32
def mset (M : MS) (k j : Nat) (x : Int32) : MS := fun a b => if a = k ∧ b = j then x else M a b
theorem mset_row (M : MS) (k j : Nat) (x : Int32) : mset M k j x k = upd (M k) j x := by
  funext b; simp [mset, upd]
theorem mset_ne (M : MS) {k a : Nat} (h : a ≠ k) (j : Nat) (x : Int32) : mset M k j x a = M a := by
  funext b; simp [mset, h]
theorem mset_eq (M : MS) (k j : Nat) (x : Int32) : mset M k j x k j = x := by simp [mset]
theorem mset_nj (M : MS) {k j b : Nat} (h : b ≠ j) (x : Int32) (a : Nat) : mset M k j x a b = M a b := by simp [mset, h]
theorem mset_nk (M : MS) {k a : Nat} (h : a ≠ k) (j b : Nat) (x : Int32) : mset M k j x a b = M a b := by simp [mset, h]
abbrev tysW (g : Nat → ClassId) : List (ClassId × FieldType) := [(g 0, .int), (g 1, .char), (g 2, .boolean), (g 3, .object "WinderLadders$Clock"), (g 4, .object "WinderLadders$State")]
theorem arrV_congr (cA : ClassId) {N : Nat} {f h : Nat → Value} (e : ∀ j, j < N → f j = h j) : arrV cA N f = arrV cA N h := by
  unfold arrV
  rw [show (fun j : Fin N => f j.val) = (fun j : Fin N => h j.val) from funext fun j => e j.val j.isLt]
/-- a function of numbers: it reads and writes no cell -/
def sPre (av : List Value) : Array Value → State → Prop := va_Pc av (fun _ => True)
def sQi (post : Int32 → Prop) : Array Value → State → Outcome → State → Prop := va_Qi (fun r (_ : Unit) => post r) (fun _ _ => True) (fun _ => False)
theorem sPre_blind (av : List Value) : FrameBlind (sPre av) := fun a U gg mk h => ⟨h.1, trivial⟩
section MR
variable {p : Program} {l : Launch} {e : Env} {R : Room} {s : State} {m : MethodId} {args : Array Value} {below : List Frame} {meth : Method} {c : Code} {H : Heap} {locs : List Loc} {cells slots : Nat} {Q : State → Prop}
variable {cc : ByteArray} {pc : Nat} {ls : Array Slot} {rest : List Value} {dd : va_G} {g : Nat → ClassId} {A : Nat → Prop} {q : Nat → Nat} {M : MS} {H0 : Heap} {own : String} {Ts : List Cond}
variable {nL index n maxL : Nat} {y : MethodName} {bytes : ByteArray} {ret : Option FieldType} {ws : List Cond} {rm : Room} {As : List Value} {lv : List (Nat × Value)}
/-- a static call of a function of numbers -/
theorem s_calli (hx : p.tables.exec = Jvm.exec) (hb : c.code = cc) (hml : c.maxLocals = nL) (hown : s.vm.findClass own = some m.cls) (hts : ∀ w ∈ Ts, w.before args s = true) (hS : va_S A H0 H locs) {post : Int32 → Prop} (hM : Met l y ws rm (sPre As) (sQi post) 0 0 (fun _ => False)) (cw : CallB R s args own index y bytes maxL ret ws rm 0 0 n ∧ (Cond.static y).before args s = true) (hn : As.length = n) (hl : lv_has ls nL lv) (hr : (rest.map fun v => v.category).sum ≤ 8) (hc : cells ≤ R.cells ∧ slots ≤ R.slots) (hdg : decode cc pc = .ok (.invokestatic index, 3)) {st : List Value} (hst : st = As.reverse ++ rest)
    (kk : ∀ (r : Int32) (H1 : Heap) (locs1 : List Loc), post r → (∀ q : Nat, q < H.size → H1[q]? = H[q]?) → va_S A H0 H1 locs1 → W p l e R s m args below meth c H1 locs1 cells slots Q (F0 m (pc + 3) ls (.int r :: rest))) : W p l e R s m args below meth c H locs cells slots Q (F0 m pc ls st) := by
  refine va_calli (va_runS (As := As) (rest := rest) ⟨hx, hb, hml, hown, hts⟩ hM cw ⟨sPre_blind _, fun U hU hW => ⟨rfl, trivial⟩⟩ rfl hn hl.1 hst (lv_room hr) hdg hc) hS (fun _ _ h => h.elim) (fun _ h => h.elim) (fun r u t H1 locs1 ht _ hp hB _ hk hS => ?_)
  exact kk r H1 locs1 hp (fun q h => hk q h (fun z => z)) hS
end MR
end
section
/-! the walk's goal, returns, and the pure words of a beat's state (f: the table's row 0, a place as the model has it) -/
abbrev wk (p : Program) (l : Launch) (e : Env) (ws : List Cond) (rm : Room) (s : State) (m : MethodId) (av : List Value) (below : List Frame) (meth : Method) (c : Code) (H : Heap) (locs : List Loc) (Qc : Array Value → State → Outcome → State → Prop) (A : Nat → Prop) (fr : JFrame) : Prop :=
  W p l e (headSpec ws rm).room s m av.toArray below meth c H locs 0 0 (MQ below Qc av.toArray s 0 0 A) fr
section MB
variable {p : Program} {l : Launch} {e : Env} {R : Room} {s : State} {m : MethodId} {args : Array Value} {below : List Frame} {meth : Method} {c : Code} {H : Heap} {locs : List Loc} {cells slots : Nat} {Q : State → Prop}
variable {cc : ByteArray} {pc : Nat} {ls : Array Slot} {rest : List Value} {dd : va_G} {g : Nat → ClassId} {A : Nat → Prop} {q : Nat → Nat} {M : MS}
theorem lv_re {x y : Int32} (h : x = y) (k : W p l e R s m args below meth c H locs cells slots Q (F0 m pc ls (.int y :: rest))) : W p l e R s m args below meth c H locs cells slots Q (F0 m pc ls (.int x :: rest)) := h ▸ k
theorem s_iret {v : Int32} {post : Int32 → Prop} (hx : p.tables.exec = Jvm.exec) (hb : c.code = cc) (hr : meth.sig.returnType = some .int) (hS : va_S (fun _ => False) s.heap H locs) (hp : post v) (hdg : decode cc pc = .ok (.ireturn, 1)) (hlocks : meth.locks = false) : W p l e R s m args below meth c H locs cells slots (MQ below (sQi post) args s cells slots (fun _ => False)) (F0 m pc ls [.int v]) :=
  W.iret (v := v) hx hb hr (fun t ht hW => ⟨⟨v, (), rfl, hp, trivial⟩, hS.F ht⟩) hS.2.2 hdg hlocks
theorem s_zret {v : Int32} {ty : FieldType} {post : Int32 → Prop} (hx : p.tables.exec = Jvm.exec) (hb : c.code = cc) (hr : meth.sig.returnType = some ty) (hn : narrow ty (.int v) = .int v) (hS : va_S (fun _ => False) s.heap H locs) (hp : post v) (hdg : decode cc pc = .ok (.ireturn, 1)) (hlocks : meth.locks = false) : W p l e R s m args below meth c H locs cells slots (MQ below (sQi post) args s cells slots (fun _ => False)) (F0 m pc ls [.int v]) :=
  W.zret (v := v) hx hb hr hn (fun t ht hW => ⟨⟨v, (), rfl, hp, trivial⟩, hS.F ht⟩) hS.2.2 hdg hlocks
end MB
/-! a row of the table changed as a whole -/
def ms0 (M : MS) (f : Nat → Int32) : MS := fun a => if a = 0 then f else M a
theorem ms0_0 (M : MS) (f : Nat → Int32) : ms0 M f 0 = f := rfl
theorem ms0_ms0 (M : MS) (f h : Nat → Int32) : ms0 (ms0 M f) h = ms0 M h := by funext a; simp only [ms0]; split <;> rfl
theorem ms0_self (M : MS) : ms0 M (M 0) = M := by
  funext a; simp only [ms0]; split
  · next h => rw [h]
  · rfl
theorem ms0_k (M : MS) (f : Nat → Int32) {k : Nat} (h : k ≠ 0) : ms0 M f k = M k := by simp [ms0, h]
theorem mset_0 (M : MS) (j : Nat) (x : Int32) : mset M 0 j x = ms0 M (upd (M 0) j x) := by
  funext a b; by_cases h : a = 0
  · subst h; simp [mset, ms0, upd]
  · simp [mset, ms0, h]
theorem upd_self {f : Nat → Int32} {k : Nat} {x : Int32} : upd f k x k = x := by simp [upd]
theorem upd_ne {f : Nat → Int32} {k j : Nat} {x : Int32} (h : j ≠ k) : upd f k x j = f j := by simp [upd, h]
theorem upd_id (f : Nat → Int32) (k : Nat) : upd f k (f k) = f := by
  funext j; simp only [upd]; split
  · next h => rw [h]
  · rfl
theorem upd_upd (f : Nat → Int32) (k : Nat) (x y : Int32) : upd (upd f k x) k y = upd f k y := by
  funext j; simp only [upd]; split <;> rfl
/-! numbers -/
def jabs (x : Int32) : Int32 := if 0 ≤ x then x else -x
def inB (v lo hi : Int32) : Bool := decide (¬ v < lo) && decide (¬ hi < v)
theorem inB_t {v lo hi : Int32} : inB v lo hi = true ↔ ¬ v < lo ∧ ¬ hi < v := by simp [inB]
theorem inB_f {v lo hi : Int32} : inB v lo hi = false ↔ ¬ (¬ v < lo ∧ ¬ hi < v) := by rw [← inB_t]; simp
def manyN (x : Int32) : Nat → Int32
  | 0 => 0
  | k + 1 => manyN x k + (x >>> (nI k &&& 31) &&& 1)
/-! the state: how many clocks, ladders; what a loop over them says -/
def cn (f : Nat → Int32) : Nat := (f 5).toNatClampNeg
def ln (f : Nat → Int32) : Nat := (f 6).toNatClampNeg
def Wk (f : Nat → Int32) : Prop := f 5 = nI (cn f) ∧ cn f ≤ 16 ∧ f 6 = nI (ln f) ∧ ln f ≤ 4
def isC (f : Nat → Int32) (c : Int32) (i : Nat) : Prop := i < cn f ∧ c = nI i
theorem Wk.congr {f h : Nat → Int32} (w : Wk f) (e5 : h 5 = f 5) (e6 : h 6 = f 6) : Wk h ∧ cn h = cn f ∧ ln h = ln f := by
  have a : cn h = cn f := by simp only [cn, e5]
  have b : ln h = ln f := by simp only [ln, e6]
  refine ⟨⟨by rw [a, e5]; exact w.1, by rw [a]; exact w.2.1, by rw [b, e6]; exact w.2.2.1, by rw [b]; exact w.2.2.2⟩, a, b⟩
def rt (f : Nat → Int32) (c : Nat) : Int32 := f (12 + 8 * c + 2) + 3 * f (12 + 8 * c + 3)
def offB (f : Nat → Int32) (c : Nat) (t : Int32) : Bool := decide (¬ jabs (f (12 + 8 * c + 4)) ≤ t)
def o2i (o : Option Nat) : Int32 := match o with | none => -6 | some k => nI k
/-- the ladder for a clock of r rungs, among the first k -/
def ladP (f : Nat → Int32) (r : Int32) : Nat → Option Nat
  | 0 => none
  | k + 1 => match ladP f r k with
    | none => if ¬ r ≤ 0 ∧ ¬ f (8 + k) < r then some k else none
    | some j => if (¬ r ≤ 0 ∧ ¬ f (8 + k) < r) ∧ ¬ f (8 + j) ≤ f (8 + k) then some k else some j
theorem ladP_lt (f : Nat → Int32) (r : Int32) : ∀ (k j : Nat), ladP f r k = some j → j < k := by
  intro k
  induction k with
  | zero => intro j h; cases h
  | succ k ih =>
    intro j h
    unfold ladP at h
    split at h
    · split at h
      · cases h; omega
      · cases h
    · next i hi =>
      have := ih i hi
      split at h
      · cases h; omega
      · cases h; omega
def ladF (f : Nat → Int32) (c : Nat) : Option Nat := ladP f (f (12 + 8 * c + 1)) (ln f)
def canW (f : Nat → Int32) (c : Nat) : Bool := decide (f (12 + 8 * c + 1) = 0) || (ladF f c).isSome
theorem canW_t {f : Nat → Int32} {c : Nat} : canW f c = true ↔ f (12 + 8 * c + 1) = 0 ∨ ladF f c ≠ none := by
  unfold canW
  cases ladF f c <;> simp
theorem canW_f {f : Nat → Int32} {c : Nat} : canW f c = false ↔ ¬ (f (12 + 8 * c + 1) = 0 ∨ ladF f c ≠ none) := by rw [← canW_t]; simp
def dayM (f : Nat → Int32) (c : Nat) : Nat → Int32 :=
  if f (12 + 8 * c + 6) = 1 then
    if ¬ f (12 + 8 * c + 5) + 1 ≤ f 1 then upd (upd (upd (upd f (12 + 8 * c + 5) (f (12 + 8 * c + 5) + 1)) (12 + 8 * c + 4) (f (12 + 8 * c + 4) + rt f c)) (12 + 8 * c + 6) 0) (12 + 8 * c + 4) 43200
    else upd (upd f (12 + 8 * c + 5) (f (12 + 8 * c + 5) + 1)) (12 + 8 * c + 4) (f (12 + 8 * c + 4) + rt f c)
  else upd f (12 + 8 * c + 5) (f (12 + 8 * c + 5) + 1)
def stillN (f : Nat → Int32) : Nat → Int32
  | 0 => 0
  | k + 1 => stillN f k ||| (if f (12 + 8 * k + 6) = 1 then (0 : Int32) else (1 : Int32) <<< (nI k &&& 31))
theorem isC_iff {f : Nat → Int32} (w : Wk f) (x : Int32) : inB x 0 (f 5 - 1) = true ↔ ∃ i, isC f x i := by
  rw [inB_t]
  obtain ⟨h5, h16, -, -⟩ := w
  have e1 : (f 5 - 1).toInt = (cn f : Int) - 1 := by
    rw [h5]
    have := pk_sub_toInt (a := cn f) (b := 1) (by omega) (by omega)
    exact this
  constructor
  · rintro ⟨h1, h2⟩
    obtain ⟨j, hj, rfl⟩ := nI_of h1
    refine ⟨j, ?_, rfl⟩
    have h3 : ¬ (f 5 - 1).toInt < (nI j).toInt := fun z => h2 (Int32.lt_iff_toInt_lt.mpr z)
    rw [e1, nI_toInt hj] at h3
    omega
  · rintro ⟨i, hi, rfl⟩
    refine ⟨nI_pos (by omega), fun z => ?_⟩
    have h3 := Int32.lt_iff_toInt_lt.mp z
    rw [e1, nI_toInt (by omega)] at h3
    omega
theorem nI_nm {n : Nat} (h : n < 2 ^ 31) : nI n ≠ -6 := by
  intro z
  have e : (nI n).toInt = (-6 : Int32).toInt := by rw [z]
  rw [nI_toInt h, show (-6 : Int32).toInt = -6 from by decide] at e
  omega
theorem o2i_ne {o : Option Nat} (h : ∀ k, o = some k → k < 2 ^ 31) : o2i o ≠ -6 ↔ o ≠ none := by
  cases o with
  | none => simp [o2i]
  | some k => simp [o2i, nI_nm (h k rfl)]
theorem ladF_lt {f : Nat → Int32} (w : Wk f) (c : Nat) : ∀ k, ladF f c = some k → k < 2 ^ 31 := fun k h => by
  have := ladP_lt _ _ _ _ h
  have := w.2.2.2
  omega
end
section
/-! what the methods do to the state, as the model does it -/
def mrow (M : MS) (k : Nat) (f : Nat → Int32) : MS := fun a => if a = k then f else M a
theorem mrow_s (M : MS) (k : Nat) (f : Nat → Int32) : mrow M k f k = f := by simp [mrow]
theorem mrow_n (M : MS) {k a : Nat} (h : a ≠ k) (f : Nat → Int32) : mrow M k f a = M a := by simp [mrow, h]
theorem mset_mrow (M : MS) (k j : Nat) (x : Int32) : mset M k j x = mrow M k (upd (M k) j x) := by
  funext a b; by_cases h : a = k
  · subst h; simp [mset, mrow, upd]
  · simp [mset, mrow, h]
theorem dayM_lo (f : Nat → Int32) (c : Nat) {j : Nat} (h : j < 12) : dayM f c j = f j := by
  have a : ∀ w, j ≠ 12 + 8 * c + w := fun w => by omega
  unfold dayM; split
  · split <;> simp [upd, a]
  · simp [upd, a]
def dayAll (f : Nat → Int32) : Nat → Nat → Int32
  | 0 => f
  | c + 1 => dayM (dayAll f c) c
theorem dayAll_lo (f : Nat → Int32) (n : Nat) {j : Nat} (h : j < 12) : dayAll f n j = f j := by
  induction n with
  | zero => rfl
  | succ n ih => show dayM _ _ j = _; rw [dayM_lo _ _ h, ih]
def passD (f : Nat → Int32) : Nat → Nat → Int32
  | 0 => f
  | d + 1 => dayAll (passD f d) (cn f)
theorem passD_lo (f : Nat → Int32) (n : Nat) {j : Nat} (h : j < 12) : passD f n j = f j := by
  induction n with
  | zero => rfl
  | succ n ih => show dayAll _ _ j = _; rw [dayAll_lo _ _ h, ih]
def chg1 (f : Nat → Int32) (a : Int32) (c : Nat) : Nat → Int32 := upd f (12 + 8 * c + 4) (f (12 + 8 * c + 4) + (if f (12 + 8 * c + 6) = 0 then 0 else if a = 1 then -3600 else 3600))
def chgA (f : Nat → Int32) (a : Int32) : Nat → Nat → Int32
  | 0 => f
  | c + 1 => chg1 (chgA f a c) a c
theorem chgA_lo (f : Nat → Int32) (a : Int32) (n : Nat) {j : Nat} (h : j < 12) : chgA f a n j = f j := by
  induction n with
  | zero => rfl
  | succ n ih =>
    show chg1 _ _ _ j = _
    unfold chg1
    rw [upd_ne (by omega), ih]
def wkS (f : Nat → Int32) (c : Nat) : Int32 := f (12 + 8 * c + 3) + (if ¬ rt f c ≤ 0 then -1 else if 0 ≤ rt f c then 0 else 1)
def workM (f : Nat → Int32) (c : Nat) : Nat → Int32 :=
  let h := if f (12 + 8 * c + 6) = 1 ∧ ¬ jabs (f (12 + 8 * c + 4)) ≤ f 0 / 2 then upd f (12 + 8 * c + 3) (if inB (wkS f c) (-20) 20 = true then wkS f c else f (12 + 8 * c + 3)) else f
  upd (upd (upd (upd h (12 + 8 * c + 6) 1) (12 + 8 * c + 4) 0) (12 + 8 * c + 5) 0) (12 + 8 * c + 7) (f (12 + 8 * c + 7) + 1)
theorem workM_lo (f : Nat → Int32) (c : Nat) {j : Nat} (h : j < 12) : workM f c j = f j := by
  have a : ∀ w, j ≠ 12 + 8 * c + w := fun w => by omega
  unfold workM; split <;> simp [upd, a]
/-- the minutes: sum, house, what is carried, when k of the row are gone -/
def miS (f w : Nat → Int32) : Nat → Int32 × Int32 × Int32
  | 0 => (0, 0, -6)
  | k + 1 =>
    let p := miS f w k
    let c := (w k).toNatClampNeg
    let t := f (12 + 8 * c + 0)
    let u := p.1 + jabs (p.2.1 - t) * f 2
    if canW f c = true then
      (u + f 3 + (if o2i (ladF f c) = -6 ∨ o2i (ladF f c) = p.2.2 then 0 else 2 * (jabs (t - 0) * f 2)), t, if o2i (ladF f c) = -6 then p.2.2 else o2i (ladF f c))
    else (u, t, p.2.2)
def miV (f w : Nat → Int32) (k : Nat) : Int32 := (miS f w k).1 + jabs ((miS f w k).2.1 - 0) * f 2
def goF (f w : Nat → Int32) : Nat → Nat → Int32
  | 0 => f
  | k + 1 => if canW (goF f w k) (w k).toNatClampNeg = true then workM (goF f w k) (w k).toNatClampNeg else goF f w k
theorem goF_lo (f w : Nat → Int32) (n : Nat) {j : Nat} (h : j < 12) : goF f w n j = f j := by
  induction n with
  | zero => rfl
  | succ n ih =>
    unfold goF; split
    · rw [workM_lo _ _ h, ih]
    · exact ih
/-- a row of clocks: its length and what it holds, when k clocks are looked at -/
def loW (n : Nat) (x : Int32) (b : Bool) (w : Nat → Int32) : Nat → Nat × (Nat → Int32)
  | 0 => (0, w)
  | k + 1 =>
    let p := loW n x b w k
    let c := if b then n - 1 - k else k
    if (x >>> (nI c &&& 31)) &&& 1 = 1 then (p.1 + 1, upd p.2 p.1 (nI c)) else p
theorem loW_le (n : Nat) (x : Int32) (b : Bool) (w : Nat → Int32) (k : Nat) : (loW n x b w k).1 ≤ k := by
  induction k with
  | zero => exact Nat.le_refl _
  | succ k ih =>
    have key : ∀ (P : Prop) [Decidable P] (a : Nat × (Nat → Int32)) (h : Nat → Int32), (if P then (a.1 + 1, h) else a).1 ≤ a.1 + 1 := by
      intro P _ a h
      split
      · exact Nat.le_refl _
      · exact Nat.le_succ _
    exact Nat.le_trans (key _ _ _) (Nat.succ_le_succ ih)
end
section
/-! rows of places that are copied; the row of a beat -/
def loL (n : Nat) (x : Int32) (b : Bool) (w : Nat → Int32) (k : Nat) : Nat := (loW n x b w k).1
def loN (n : Nat) (x : Int32) (b : Bool) (w : Nat → Int32) (k : Nat) : Nat → Int32 := (loW n x b w k).2
def loC (n : Nat) (b : Bool) (k : Nat) : Nat := if b then n - 1 - k else k
theorem loL_le (n : Nat) (x : Int32) (b : Bool) (w : Nat → Int32) (k : Nat) : loL n x b w k ≤ k := loW_le n x b w k
theorem loW_t {n : Nat} {x : Int32} {b : Bool} {w : Nat → Int32} {k : Nat} (h : (x >>> (nI (loC n b k) &&& 31)) &&& 1 = 1) : loL n x b w (k + 1) = loL n x b w k + 1 ∧ loN n x b w (k + 1) = upd (loN n x b w k) (loL n x b w k) (nI (loC n b k)) := by
  unfold loL loN; unfold loC at h ⊢; simp only [loW, h, if_true]; exact ⟨trivial, trivial⟩
theorem loW_f {n : Nat} {x : Int32} {b : Bool} {w : Nat → Int32} {k : Nat} (h : ¬ (x >>> (nI (loC n b k) &&& 31)) &&& 1 = 1) : loL n x b w (k + 1) = loL n x b w k ∧ loN n x b w (k + 1) = loN n x b w k := by
  unfold loL loN; unfold loC at h; simp only [loW, h, if_false]; exact ⟨trivial, trivial⟩
def loM (M : MS) (n : Nat) (x : Int32) (b : Bool) (k : Nat) : MS := mset (mrow M 8 (loN n x b (M 8) k)) 9 0 (nI (loL n x b (M 8) k))
theorem mrow_self (M : MS) (k : Nat) : mrow M k (M k) = M := by
  funext a; simp only [mrow]; split
  · next h => rw [h]
  · rfl
theorem loM_0 (M : MS) (n : Nat) (x : Int32) (b : Bool) : mset M 9 0 0 = loM M n x b 0 := by
  show mset M 9 0 0 = mset (mrow M 8 (M 8)) 9 0 (nI 0)
  rw [mrow_self]; rfl
theorem loM_t {M : MS} {n : Nat} {x : Int32} {b : Bool} {k : Nat} (h : (x >>> (nI (loC n b k) &&& 31)) &&& 1 = 1) : mset (mset (loM M n x b k) 8 (loL n x b (M 8) k) (nI (loC n b k))) 9 0 (nI (loL n x b (M 8) k + 1)) = loM M n x b (k + 1) := by
  obtain ⟨h1, h2⟩ := loW_t (w := M 8) h
  unfold loM; rw [h1, h2]
  funext i j
  simp only [mset, mrow, upd]
  by_cases a : i = 9 ∧ j = 0
  · simp [a]
  · rw [if_neg a, if_neg a, if_neg a]
    by_cases e : i = 8
    · subst e; simp [upd]
    · simp [e]
theorem loM_f {M : MS} {n : Nat} {x : Int32} {b : Bool} {k : Nat} (h : ¬ (x >>> (nI (loC n b k) &&& 31)) &&& 1 = 1) : loM M n x b k = loM M n x b (k + 1) := by
  obtain ⟨h1, h2⟩ := loW_f (w := M 8) h
  unfold loM; rw [h1, h2]
theorem loM_k (M : MS) (n : Nat) (x : Int32) (b : Bool) (k : Nat) {a : Nat} (h8 : a ≠ 8) (h9 : a ≠ 9) : loM M n x b k a = M a := by
  unfold loM; rw [mset_ne _ h9, mrow_n _ h8]
def loR (x : Int32) (L : Nat) : Int32 := if 0 ≤ x then (if L = 0 then -5 else 0) else -2
def sh1 (b : Nat → Int32) (k : Nat) : Nat → Int32 := fun j => if j < k then b (140 + j) else b j
theorem sh1_0 (b : Nat → Int32) : sh1 b 0 = b := by funext j; simp [sh1]
theorem sh1_s (b : Nat → Int32) (k : Nat) : upd (sh1 b k) k (b (140 + k)) = sh1 b (k + 1) := by
  funext j; simp only [upd, sh1]
  by_cases h : j = k
  · subst h; simp
  · by_cases h2 : j < k
    · simp [h, h2, Nat.lt_succ_of_lt h2]
    · have : ¬ j < k + 1 := by omega
      simp [h, h2, this]
/-- the places a .. a+k-1 out of f -/
def cp1 (b f : Nat → Int32) (a k : Nat) : Nat → Int32 := fun j => if a ≤ j ∧ j < a + k then f (j - a) else b j
theorem cp1_0 (b f : Nat → Int32) (a : Nat) : cp1 b f a 0 = b := by
  funext j; simp only [cp1]; rw [if_neg (by omega)]
theorem cp1_s (b f : Nat → Int32) (a k : Nat) : upd (cp1 b f a k) (a + k) (f k) = cp1 b f a (k + 1) := by
  funext j; simp only [upd, cp1]
  by_cases h : j = a + k
  · subst h; rw [if_pos rfl, if_pos (by omega), show a + k - a = k by omega]
  · rw [if_neg h]
    by_cases h2 : a ≤ j ∧ j < a + k
    · rw [if_pos h2, if_pos (by omega)]
    · rw [if_neg h2, if_neg (by omega)]
/-- the first k places out of f's places from a on -/
def cp2 (b f : Nat → Int32) (a k : Nat) : Nat → Int32 := fun j => if j < k then f (a + j) else b j
theorem cp2_0 (b f : Nat → Int32) (a : Nat) : cp2 b f a 0 = b := by funext j; simp [cp2]
theorem cp2_s (b f : Nat → Int32) (a k : Nat) : upd (cp2 b f a k) k (f (a + k)) = cp2 b f a (k + 1) := by
  funext j; simp only [upd, cp2]
  by_cases h : j = k
  · subst h; rw [if_pos rfl, if_pos (by omega)]
  · rw [if_neg h]
    by_cases h2 : j < k
    · rw [if_pos h2, if_pos (by omega)]
    · rw [if_neg h2, if_neg (by omega)]
def knB (b f : Nat → Int32) (kn : Nat) : Nat → Int32 := if kn = 6 then cp1 (sh1 b 700) f 700 140 else cp1 b f (140 * kn) 140
def knN (kn : Nat) : Nat := if kn = 6 then 6 else kn + 1
def knM (M : MS) (kn : Nat) : MS := mset (mrow M 2 (knB (M 2) (M 0) kn)) 3 0 (nI (knN kn))
theorem knM_k (M : MS) (kn : Nat) {a : Nat} (h2 : a ≠ 2) (h3 : a ≠ 3) : knM M kn a = M a := by
  unfold knM; rw [mset_ne _ h3, mrow_n _ h2]
theorem mset_mset (M : MS) (k j : Nat) (x y : Int32) : mset (mset M k j x) k j y = mset M k j y := by
  funext a b; simp only [mset]; split <;> rfl
theorem mset_comm (M : MS) {k a : Nat} (h : a ≠ k) (j b : Nat) (x y : Int32) : mset (mset M k j x) a b y = mset (mset M a b y) k j x := by
  funext u v; simp only [mset]
  by_cases h1 : u = a ∧ v = b
  · have : ¬ (u = k ∧ v = j) := fun z => h (h1.1.symm.trans z.1)
    simp [h1, this]; intro z; exact absurd z h
  · by_cases h2 : u = k ∧ v = j
    · rw [if_neg h1, if_pos h2, if_pos h2]
    · rw [if_neg h1, if_neg h2, if_neg h2, if_neg h1]
theorem mset_mrow_s (M : MS) (k j : Nat) (f : Nat → Int32) (x : Int32) : mset (mrow M k f) k j x = mrow M k (upd f j x) := by
  funext a b; by_cases h : a = k
  · subst h; simp [mset, mrow, upd]
  · simp [mset, mrow, h]
/-- a clock is hung as number n -/
def newC (f : Nat → Int32) (n : Nat) (h r d : Int32) : Nat → Int32 := upd (upd (upd (upd (upd (fun j => if 12 + 8 * n ≤ j ∧ j < 12 + 8 * n + 8 then 0 else f j) (12 + 8 * n + 0) h) (12 + 8 * n + 1) r) (12 + 8 * n + 2) d) (12 + 8 * n + 6) 1) 5 (nI (n + 1))
def zr1 (f : Nat → Int32) (n k : Nat) : Nat → Int32 := fun j => if 12 + 8 * n ≤ j ∧ j < 12 + 8 * n + k then 0 else f j
theorem zr1_0 (f : Nat → Int32) (n : Nat) : zr1 f n 0 = f := by funext j; simp only [zr1]; rw [if_neg (by omega)]
theorem zr1_s (f : Nat → Int32) (n k : Nat) : upd (zr1 f n k) (12 + 8 * n + k) 0 = zr1 f n (k + 1) := by
  funext j; simp only [upd, zr1]
  by_cases h : j = 12 + 8 * n + k
  · subst h; rw [if_pos rfl, if_pos (by omega)]
  · rw [if_neg h]
    by_cases h2 : 12 + 8 * n ≤ j ∧ j < 12 + 8 * n + k
    · rw [if_pos h2, if_pos (by omega)]
    · rw [if_neg h2, if_neg (by omega)]
/-- clocks off by more than told (4), that can't be wound (5), how often wound (7) -/
def sumN (f : Nat → Int32) (w : Int32) : Nat → Int32
  | 0 => 0
  | k + 1 => sumN f w k + (if w = 7 then f (12 + 8 * k + 7) else (if w = 4 then (if offB f k (f 0) = true then 1 else 0) else (if canW f k = true then 0 else 1)))
def mostN (f : Nat → Int32) : Nat → Int32
  | 0 => -6
  | k + 1 => if canW f k = true then mostN f k else if f (12 + 8 * k + 1) ≤ mostN f k then mostN f k else f (12 + 8 * k + 1)
/-- days until off, by going on: at most n more -/
def lastN (f : Nat → Int32) (c : Nat) : Nat → Nat → Int32
  | 0 => f
  | d + 1 => dayM (lastN f c d) c
def aheadN (v : Nat → Int32) (c : Nat) : Nat → Int32
  | 0 => 0
  | k + 1 => aheadN v c k + (if v k < v c then 1 else if v k = v c then (if c ≤ k then 0 else 1) else 0)
def hangR (f : Nat → Int32) (h u d : Int32) : Int32 := if inB h 0 99 = true then (if inB u 0 30 = true then (if inB d (-99) 99 = true then (if cn f = 16 then -4 else 0) else -2) else -2) else -2
def lddR (f : Nat → Int32) (u : Int32) : Int32 := if inB u 1 30 = true then (if ln f = 4 then -4 else 0) else -2
def passR (f : Nat → Int32) (d : Int32) : Int32 := if inB d 1 99 = true then (if f 4 + d ≤ 9999 then 0 else -5) else -2
end
section
/-! what the public methods answer, and the table behind them -/
def isCb (f : Nat → Int32) (x : Int32) : Bool := inB x 0 (f 5 - 1)
theorem isCb_t {f : Nat → Int32} (w : Wk f) {x : Int32} {i : Nat} (h : isC f x i) : isCb f x = true := (isC_iff w x).mpr ⟨i, h⟩
theorem isCb_f {f : Nat → Int32} (w : Wk f) {x : Int32} (h : ¬ ∃ i, isC f x i) : isCb f x = false := by
  cases e : isCb f x with
  | false => rfl
  | true => exact absurd ((isC_iff w x).mp e) h
/-- a change: its fault (0: none), its answer, the state then; kn states are known before -/
def opP (flt v : Int32) (f' : Nat → Int32) (M : MS) (kn : Nat) (r : Int32) (M' : MS) : Prop := (flt = 0 ∧ r = v ∧ M' = ms0 (knM M kn) f') ∨ (flt ≠ 0 ∧ r = flt ∧ M' = M)
def setE (x v : Int32) : Int32 := if inB x 0 3 = true then (if inB v 1 (if x = 0 then 999 else 30) = true then 0 else -2) else -2
def ix (x : Int32) : Nat := x.toNatClampNeg
theorem ix_nI {i : Nat} (h : i < 2 ^ 31) : ix (nI i) = i := nI_clamp h
theorem inB_nI {x : Int32} {n : Nat} (hn : n < 2 ^ 31) (h : inB x 0 (nI n) = true) : ∃ i, i ≤ n ∧ x = nI i := by
  rw [inB_t] at h
  obtain ⟨j, hj, rfl⟩ := nI_of h.1
  exact ⟨j, Nat.le_of_not_lt fun z => h.2 ((nI_ltI hn hj).mpr z), rfl⟩
def scE (f : Nat → Int32) (x t : Int32) : Int32 := if isCb f x = true then (if inB t (-20) 20 = true then (if inB (f (12 + 8 * ix x + 3) + t) (-20) 20 = true then 0 else -5) else -2) else -1
def ofR (f : Nat → Int32) (x w : Int32) : Int32 := if isCb f x = true then
    (if w = 0 then f (12 + 8 * ix x + 0) else if w = 1 then f (12 + 8 * ix x + 1) else if w = 2 then f (12 + 8 * ix x + 2) + 100 else if w = 3 then f (12 + 8 * ix x + 3) + 20
     else if w = 4 then f (12 + 8 * ix x + 4) + 1000000000 else if w = 5 then f (12 + 8 * ix x + 5) else if w = 6 then f (12 + 8 * ix x + 6) else if w = 7 then (if offB f (ix x) (f 0) = true then 0 else 1)
     else if w = 8 then o2i (ladF f (ix x)) else if w = 9 then (if canW f (ix x) = true then 1 else 0) else if w = 10 then f (12 + 8 * ix x + 7) else -2)
  else -1
def lofR (f : Nat → Int32) (x : Int32) : Int32 := if inB x 0 (f 6 - 1) = true then f (8 + ix x) else -1
def cntR (f : Nat → Int32) (len kn : Int32) (w : Int32) : Int32 :=
  if w = 0 then f 4 else if w = 1 then f 5 else if w = 2 then f 6 else if w = 3 then stillN f (cn f) else if w = 4 then sumN f 4 (cn f) else if w = 5 then sumN f 5 (cn f) else if w = 6 then f 7 else if w = 7 then sumN f 7 (cn f)
  else if w = 8 then f 0 else if w = 9 then f 1 else if w = 10 then f 2 else if w = 11 then f 3 else if w = 12 then len else if w = 13 then kn else -2
theorem loN_ok (n : Nat) (x : Int32) (b : Bool) (w : Nat → Int32) : ∀ k, k ≤ n → ∀ j, j < loL n x b w k → ∃ i, i < n ∧ loN n x b w k j = nI i := by
  intro k
  induction k with
  | zero => intro _ j h; exact absurd h (Nat.not_lt_zero _)
  | succ k ih =>
    intro hk j hj
    by_cases h : (x >>> (nI (loC n b k) &&& 31)) &&& 1 = 1
    · obtain ⟨h1, h2⟩ := loW_t (w := w) h
      rw [h1] at hj; rw [h2]
      by_cases e : j = loL n x b w k
      · subst e; refine ⟨loC n b k, ?_, by simp [upd]⟩
        unfold loC; split <;> omega
      · rw [upd_ne e]; exact ih (by omega) j (by omega)
    · obtain ⟨h1, h2⟩ := loW_f (w := w) h
      rw [h1] at hj; rw [h2]; exact ih (by omega) j hj
theorem loM_8 (M : MS) (n : Nat) (x : Int32) (b : Bool) (k : Nat) : loM M n x b k 8 = loN n x b (M 8) k := by
  unfold loM; rw [mset_ne _ (by decide), mrow_s]
theorem loM_9 (M : MS) (n : Nat) (x : Int32) (b : Bool) (k : Nat) : loM M n x b k 9 0 = nI (loL n x b (M 8) k) := by
  unfold loM; exact mset_eq _ _ _ _
/-- a minute's way round: fewer, more, or as many -/
def wayR (a b : Int32) : Int32 := if b ≤ a then (if a ≤ b then 2 else 1) else 0
theorem lastN_lo (f : Nat → Int32) (c d : Nat) {j : Nat} (h : j < 12 + 8 * c ∨ 12 + 8 * c + 8 ≤ j) : lastN f c d j = f j := by
  induction d with
  | zero => rfl
  | succ d ih =>
    show dayM _ c j = _
    have a : ∀ w, w < 8 → j ≠ 12 + 8 * c + w := fun w hw => by omega
    unfold dayM
    split
    · split <;> simp [upd, a, ih]
    · simp [upd, a, ih]
/-- the first c of n whose count ahead is the rank -/
def needN (v : Nat → Int32) (n : Nat) (x : Int32) : Nat → Int32
  | 0 => -1
  | k + 1 => if aheadN v (n - (k + 1)) n = x then nI (n - (k + 1)) else needN v n x k
theorem hangR_0 {f : Nat → Int32} {h u d : Int32} (z : 0 ≤ hangR f h u d) : hangR f h u d = 0 ∧ inB h 0 99 = true ∧ inB u 0 30 = true ∧ inB d (-99) 99 = true ∧ cn f ≠ 16 := by
  unfold hangR at z ⊢
  split at z
  · next h1 =>
    split at z
    · next h2 =>
      split at z
      · next h3 =>
        split at z
        · exact absurd z (by decide)
        · next h4 => simp [h1, h2, h3, h4]
      · exact absurd z (by decide)
    · exact absurd z (by decide)
  · exact absurd z (by decide)
theorem lddR_0 {f : Nat → Int32} {u : Int32} (z : 0 ≤ lddR f u) : lddR f u = 0 ∧ inB u 1 30 = true ∧ ln f ≠ 4 := by
  unfold lddR at z ⊢
  split at z
  · next h1 =>
    split at z
    · exact absurd z (by decide)
    · next h4 => simp [h1, h4]
  · exact absurd z (by decide)
theorem passR_0 {f : Nat → Int32} {d : Int32} (z : 0 ≤ passR f d) : passR f d = 0 ∧ inB d 1 99 = true ∧ f 4 + d ≤ 9999 := by
  unfold passR at z ⊢
  split at z
  · next h1 =>
    split at z
    · next h4 => exact ⟨by simp only [if_pos h1, if_pos h4], h1, h4⟩
    · exact absurd z (by decide)
  · exact absurd z (by decide)
theorem inB1_nI {x : Int32} {n : Nat} (hn : n < 2 ^ 31) (h : inB x 1 (nI n) = true) : ∃ i, 1 ≤ i ∧ i ≤ n ∧ x = nI i := by
  rw [inB_t] at h
  obtain ⟨j, hj, rfl⟩ := nI_of (x := x) (fun z => h.1 (by
    rw [Int32.lt_iff_toInt_lt] at z ⊢
    rw [show (0 : Int32).toInt = 0 from by decide] at z
    rw [show (1 : Int32).toInt = 1 from by decide]
    omega))
  refine ⟨j, Nat.le_of_not_lt fun z => h.1 ((nI_ltI hj (show 1 < 2 ^ 31 by decide)).mpr z), Nat.le_of_not_lt fun z => h.2 ((nI_ltI hn hj).mpr z), rfl⟩
theorem lof_iff {f : Nat → Int32} (w : Wk f) {x : Int32} (h : inB x 0 (f 6 - 1) = true) : ∃ i, i < ln f ∧ x = nI i := by
  obtain ⟨-, -, h6, h4⟩ := w
  have e1 : (f 6 - 1).toInt = (ln f : Int) - 1 := by
    rw [h6]
    exact pk_sub_toInt (a := ln f) (b := 1) (by omega) (by omega)
  rw [inB_t] at h
  obtain ⟨j, hj, rfl⟩ := nI_of h.1
  refine ⟨j, ?_, rfl⟩
  have h3 : ¬ (f 6 - 1).toInt < (nI j).toInt := fun z => h.2 (Int32.lt_iff_toInt_lt.mpr z)
  rw [e1, nI_toInt hj] at h3
  omega
def pasF (f : Nat → Int32) (d : Nat) : Nat → Int32 := upd (passD f d) 4 (f 4 + nI d)
def stV (f : Nat → Int32) : Int32 := manyN (stillN f (cn f)) 16
def chE (a : Int32) : Int32 := if inB a 0 1 = true then 0 else -2
def goFF (f w : Nat → Int32) (L : Nat) : Nat → Int32 := upd (goF f w L) 7 (f 7 + miV f w L)
theorem loR_0 {x : Int32} {L : Nat} (z : 0 ≤ loR x L) : loR x L = 0 := by
  unfold loR at z ⊢
  split at z
  · next h1 =>
    split at z
    · exact absurd z (by decide)
    · next h2 => simp only [if_pos h1, if_neg h2]
  · exact absurd z (by decide)
theorem cp1_last (f : Nat → Int32) (c d : Nat) : cp1 (lastN f c d) (fun j => f (12 + 8 * c + j)) (12 + 8 * c) 8 = f := by
  funext j; simp only [cp1]
  by_cases h : 12 + 8 * c ≤ j ∧ j < 12 + 8 * c + 8
  · rw [if_pos h, show 12 + 8 * c + (j - (12 + 8 * c)) = j by omega]
  · rw [if_neg h]; exact lastN_lo f c d (by omega)
theorem sw_out11 {x : Int32} (h0 : ¬ x = 0) (h1 : ¬ x = 1) (h2 : ¬ x = 2) (h3 : ¬ x = 3) (h4 : ¬ x = 4) (h5 : ¬ x = 5) (h6 : ¬ x = 6) (h7 : ¬ x = 7) (h8 : ¬ x = 8) (h9 : ¬ x = 9) (h10 : ¬ x = 10) : x.toInt < 0 ∨ 10 < x.toInt := by
  by_cases z : x < 0
  · exact Or.inl (by have := Int32.lt_iff_toInt_lt.mp z; rw [show (0 : Int32).toInt = 0 from by decide] at this; exact this)
  · obtain ⟨j, hj, rfl⟩ := nI_of z
    refine Or.inr ?_
    rw [nI_toInt hj]
    have e0 : j ≠ 0 := fun z => h0 (by rw [z]; rfl)
    have e1 : j ≠ 1 := fun z => h1 (by rw [z]; rfl)
    have e2 : j ≠ 2 := fun z => h2 (by rw [z]; rfl)
    have e3 : j ≠ 3 := fun z => h3 (by rw [z]; rfl)
    have e4 : j ≠ 4 := fun z => h4 (by rw [z]; rfl)
    have e5 : j ≠ 5 := fun z => h5 (by rw [z]; rfl)
    have e6 : j ≠ 6 := fun z => h6 (by rw [z]; rfl)
    have e7 : j ≠ 7 := fun z => h7 (by rw [z]; rfl)
    have e8 : j ≠ 8 := fun z => h8 (by rw [z]; rfl)
    have e9 : j ≠ 9 := fun z => h9 (by rw [z]; rfl)
    have e10 : j ≠ 10 := fun z => h10 (by rw [z]; rfl)
    omega
theorem sw_out14 {x : Int32} (h0 : ¬ x = 0) (h1 : ¬ x = 1) (h2 : ¬ x = 2) (h3 : ¬ x = 3) (h4 : ¬ x = 4) (h5 : ¬ x = 5) (h6 : ¬ x = 6) (h7 : ¬ x = 7) (h8 : ¬ x = 8) (h9 : ¬ x = 9) (h10 : ¬ x = 10) (h11 : ¬ x = 11) (h12 : ¬ x = 12) (h13 : ¬ x = 13) : x.toInt < 0 ∨ 13 < x.toInt := by
  by_cases z : x < 0
  · exact Or.inl (by have := Int32.lt_iff_toInt_lt.mp z; rw [show (0 : Int32).toInt = 0 from by decide] at this; exact this)
  · obtain ⟨j, hj, rfl⟩ := nI_of z
    refine Or.inr ?_
    rw [nI_toInt hj]
    have e0 : j ≠ 0 := fun z => h0 (by rw [z]; rfl)
    have e1 : j ≠ 1 := fun z => h1 (by rw [z]; rfl)
    have e2 : j ≠ 2 := fun z => h2 (by rw [z]; rfl)
    have e3 : j ≠ 3 := fun z => h3 (by rw [z]; rfl)
    have e4 : j ≠ 4 := fun z => h4 (by rw [z]; rfl)
    have e5 : j ≠ 5 := fun z => h5 (by rw [z]; rfl)
    have e6 : j ≠ 6 := fun z => h6 (by rw [z]; rfl)
    have e7 : j ≠ 7 := fun z => h7 (by rw [z]; rfl)
    have e8 : j ≠ 8 := fun z => h8 (by rw [z]; rfl)
    have e9 : j ≠ 9 := fun z => h9 (by rw [z]; rfl)
    have e10 : j ≠ 10 := fun z => h10 (by rw [z]; rfl)
    have e11 : j ≠ 11 := fun z => h11 (by rw [z]; rfl)
    have e12 : j ≠ 12 := fun z => h12 (by rw [z]; rfl)
    have e13 : j ≠ 13 := fun z => h13 (by rw [z]; rfl)
    omega
end
section
/-! the pad: a text t of len signs; what is read of it -/
def chr (t : Nat → Int32) (len p : Nat) : Int32 := if p < len then t p else 0
theorem chr_pos {t : Nat → Int32} {len p : Nat} {lo hi : Int32} (h : inB (chr t len p) lo hi = true) (hlo : ¬ lo ≤ 0) : p < len := by
  rw [inB_t] at h
  rcases Nat.lt_or_ge p len with z | z
  · exact z
  · have e : chr t len p = 0 := by unfold chr; rw [if_neg (by omega)]
    rw [e] at h
    exact absurd (Int32.not_lt.mp h.1) hlo
theorem chr_out {t : Nat → Int32} {len p : Nat} (h : len ≤ p) : chr t len p = 0 := if_neg (by omega)
theorem chr_in {t : Nat → Int32} {len p : Nat} (h : p < len) : chr t len p = t p := if_pos h
def nxB (t : Nat → Int32) (len p : Nat) (lo hi : Int32) : Bool := decide (p < len) && inB (t p) lo hi
theorem nxB_t {t : Nat → Int32} {len p : Nat} {lo hi : Int32} : nxB t len p lo hi = true ↔ p < len ∧ inB (t p) lo hi = true := by simp [nxB]
theorem nxB_chr {t : Nat → Int32} {len p : Nat} {lo hi : Int32} (h : nxB t len p lo hi = true) : inB (chr t len p) lo hi = true := by
  obtain ⟨a, b⟩ := nxB_t.mp h
  rw [chr_in a]; exact b
/-- a number at p: its value, and where it ends; or none, and the place stays -/
def rN (t : Nat → Int32) (len p : Nat) : Option (Int32 × Nat) :=
  if inB (chr t len p) 48 57 = true then
    (if chr t len p - 48 ≤ 0 then some (chr t len p - 48, p + 1)
     else if nxB t len (p + 1) 48 57 = true then some (10 * (chr t len p - 48) + chr t len (p + 1) - 48, p + 1 + 1)
     else some (chr t len p - 48, p + 1))
  else none
theorem rN_place {t : Nat → Int32} {len p : Nat} {v : Int32} {p' : Nat} (h : rN t len p = some (v, p')) : p < p' ∧ p' ≤ len ∧ p' ≤ p + 2 := by
  unfold rN at h
  split at h
  · next h1 =>
    have := chr_pos h1 (by decide)
    split at h
    · cases h; omega
    · split at h
      · next h3 =>
        have := (nxB_t.mp h3).1
        cases h; omega
      · cases h; omega
  · cases h
/-- what of the table reading changes -/
def Pk (M M' : MS) : Prop := ∀ k, k ≠ 8 → k ≠ 9 → k ≠ 11 → k ≠ 12 → k ≠ 13 → k ≠ 14 → k ≠ 15 → k ≠ 16 → M' k = M k
/-- the signs of a put -/
def shK (x : Int64) (k : Nat) : Int64 := (x.toUInt64 >>> ((nI (8 * k)).toInt64.toUInt64 &&& Int64.toUInt64 63)).toInt64
def chK (x : Int64) (k : Nat) : Int32 := (shK x k &&& 255).toInt32
def enK (x : Int64) (k : Nat) : Bool := !decide (k ≤ 0) && decide (lg_cmp (shK x k) 0 = 0)
def badS (x : Int64) : Nat → Bool
  | 0 => false
  | k + 1 => badS x k || (!enK x k && !inB (chK x k) 33 126)
def manS (x : Int64) : Nat → Nat
  | 0 => 0
  | k + 1 => manS x k + (if enK x k = true then 0 else 1)
theorem manS_le (x : Int64) (k : Nat) : manS x k ≤ k := by
  induction k with
  | zero => exact Nat.le_refl _
  | succ k ih => unfold manS; split <;> omega
/-- the pad when k of the signs are put -/
def putP (b : Nat → Int32) (x : Int64) (L n : Nat) (k : Nat) : Nat → Int32 := fun j => if L + n - k ≤ j ∧ j < L + n then chK x (L + n - 1 - j) else b j
theorem putP_0 (b : Nat → Int32) (x : Int64) (L n : Nat) : putP b x L n 0 = b := by
  funext j; simp only [putP]; rw [if_neg (by omega)]
theorem putP_s (b : Nat → Int32) (x : Int64) (L n k : Nat) (h : k < n) : upd (putP b x L n k) (L + n - 1 - k) (chK x k) = putP b x L n (k + 1) := by
  funext j; simp only [upd, putP]
  by_cases z : j = L + n - 1 - k
  · subst z; rw [if_pos rfl, if_pos (by omega), show L + n - 1 - (L + n - 1 - k) = k by omega]
  · rw [if_neg z]
    by_cases h2 : L + n - k ≤ j ∧ j < L + n
    · rw [if_pos h2, if_pos (by omega)]
    · rw [if_neg h2, if_neg (by omega)]
def putE (x : Int64) (L : Nat) : Int32 := if badS x 8 = true then -2 else if L + manS x 8 ≤ 80 then 0 else -4
section MBL
variable {p : Program} {l : Launch} {e : Env} {R : Room} {s : State} {m : MethodId} {args : Array Value} {below : List Frame} {meth : Method} {c : Code} {H : Heap} {locs : List Loc} {cells slots : Nat} {Q : State → Prop}
variable {pc : Nat} {ls : Array Slot} {rest : List Value}
theorem lv_rel {x y : Int64} (h : x = y) (k : W p l e R s m args below meth c H locs cells slots Q (F0 m pc ls (.long y :: rest))) : W p l e R s m args below meth c H locs cells slots Q (F0 m pc ls (.long x :: rest)) := h ▸ k
end MBL
end
section
/-! orders of a text, as they are read from p on -/
theorem mset_id {M : MS} {k j : Nat} {x : Int32} (h : M k j = x) : mset M k j x = M := by
  funext a b; simp only [mset]; split
  · next e => rw [e.1, e.2, h]
  · rfl
/-- more numbers behind commas: whether well, the place, how many, which -/
def rB (t : Nat → Int32) (len : Nat) : Nat → Nat → Nat → (Nat → Int32) → Bool × Nat × Nat × (Nat → Int32)
  | 0, p, n, w => (true, p, n, w)
  | u + 1, p, n, w => if nxB t len p 44 44 = true then
      (match rN t len (p + 1) with
       | none => (false, p + 1, n, w)
       | some v => rB t len u v.2 (n + 1) (upd w n v.1))
    else (true, p, n, w)
def rP (t : Nat → Int32) (len p : Nat) : Bool × Nat × Int32 × Int32 × Int32 :=
  match rN t len p with
  | none => (false, p, 0, 0, 0)
  | some a => if inB (chr t len a.2) 94 94 = true then
      (match rN t len (a.2 + 1) with
       | none => (false, a.2 + 1, 0, 0, 0)
       | some b => if inB (chr t len b.2) 126 126 = true then
          (if nxB t len (b.2 + 1) 45 45 = true then
            (match rN t len (b.2 + 1 + 1) with
             | none => (false, b.2 + 1 + 1, 0, 0, 0)
             | some c => (true, c.2, a.1, b.1, -c.1))
           else
            (match rN t len (b.2 + 1) with
             | none => (false, b.2 + 1, 0, 0, 0)
             | some c => (true, c.2, a.1, b.1, c.1)))
         else (false, b.2, 0, 0, 0))
    else (false, a.2, 0, 0, 0)
def rBO (one : Int32) (r : Bool × Nat × Nat × (Nat → Int32)) : Bool × Nat × (Int32 × Int32 × Int32) × Nat × (Nat → Int32) := (r.1, r.2.1, (one, 0, 0), r.2.2.1, r.2.2.2)
/-- an order: whether well; the place; its numbers; how many of a beat; which -/
def rO (t : Nat → Int32) (len p : Nat) : Bool × Nat × (Int32 × Int32 × Int32) × Nat × (Nat → Int32) :=
  let c := chr t len p
  if c = 115 then (true, p + 1, (0, 0, 0), 1, fun _ => 0)
  else if c = 97 then (true, p + 1, (0, 0, 0), 1, fun _ => 0)
  else if c = 43 then (let r := rP t len (p + 1); (r.1, r.2.1, r.2.2, 1, fun _ => r.2.2.1))
  else if c = 108 then (match rN t len (p + 1) with
    | none => (false, p + 1, (0, 0, 0), 1, fun _ => 0)
    | some a => (true, a.2, (a.1, 0, 0), 1, fun _ => a.1))
  else if c = 98 then (match rN t len (p + 1) with
    | none => (false, p + 1, (0, 0, 0), 1, fun _ => 0)
    | some a => rBO a.1 (rB t len 40 a.2 1 (fun _ => a.1)))
  else if c = 116 then (match rN t len (p + 1) with
    | none => (false, p + 1, (0, 0, 0), 1, fun _ => 0)
    | some a => (true, a.2, (a.1, 0, 0), 1, fun _ => a.1))
  else (false, p, (0, 0, 0), 1, fun _ => 0)
/-- what the model's table says behind an order that was read -/
def ordP (M M' : MS) (len p : Nat) : Prop :=
  let R := rO (M 6) len p
  (R.1 = true ∧ M' 12 0 = 0 ∧ M' 11 0 = nI R.2.1 ∧ M' 13 0 = chr (M 6) len p ∧ M' 14 0 = R.2.2.1.1 ∧ (chr (M 6) len p = 43 → M' 15 0 = R.2.2.1.2.1 ∧ M' 16 0 = R.2.2.1.2.2) ∧ M' 9 0 = nI R.2.2.2.1 ∧ (∀ j, j < R.2.2.2.1 → M' 8 j = R.2.2.2.2 j) ∧ Pk M M') ∨
  (R.1 = false ∧ M' 12 0 = 1 ∧ M' 11 0 = nI R.2.1 ∧ Pk M M')
theorem Pk.rf (M : MS) : Pk M M := fun _ _ _ _ _ _ _ _ _ => rfl
theorem Pk.set {M N : MS} (h : Pk M N) {k : Nat} (hk : k ∈ [8, 9, 11, 12, 13, 14, 15, 16]) (j : Nat) (x : Int32) : Pk M (mset N k j x) := by
  intro a a8 a9 a11 a12 a13 a14 a15 a16
  simp only [List.mem_cons, List.not_mem_nil, or_false] at hk
  rw [mset_ne _ (by rcases hk with rfl | rfl | rfl | rfl | rfl | rfl | rfl | rfl <;> assumption)]
  exact h a a8 a9 a11 a12 a13 a14 a15 a16
/-- the orders of the pad as clocks and ladders answer them: a fault (0: none), the state then -/
def rowE (f w : Nat → Int32) : Nat → Int32
  | 0 => 0
  | k + 1 => if isCb f (w k) = true then rowE f w k else -1
def exE (f : Nat → Int32) (c one two three : Int32) (L : Nat) (w : Nat → Int32) : Int32 :=
  if c = 43 then hangR f one two three else if c = 108 then lddR f one else if c = 98 then rowE f w L else if c = 116 then passR f one else 0
def exF (f : Nat → Int32) (c one two three : Int32) (L : Nat) (w : Nat → Int32) : Nat → Int32 :=
  if c = 43 then newC f (cn f) one two three else if c = 108 then upd (upd f (8 + ln f) one) 6 (nI (ln f + 1)) else if c = 98 then goFF f w L else if c = 116 then pasF f (ix one) else chgA f (if c = 97 then 1 else 0) (cn f)
theorem ordP_ok {M M' : MS} {len p pl L : Nat} {one two three : Int32} {w : Nat → Int32} (hR : rO (M 6) len p = (true, pl, (one, two, three), L, w)) (h12 : M' 12 0 = 0) (h11 : M' 11 0 = nI pl) (h13 : M' 13 0 = chr (M 6) len p) (h14 : M' 14 0 = one) (h43 : chr (M 6) len p = 43 → M' 15 0 = two ∧ M' 16 0 = three) (h9 : M' 9 0 = nI L) (h8 : ∀ j, j < L → M' 8 j = w j) (hP : Pk M M') : ordP M M' len p := by
  unfold ordP; rw [hR]; exact Or.inl ⟨rfl, h12, h11, h13, h14, h43, h9, h8, hP⟩
theorem ordP_no {M M' : MS} {len p pl : Nat} (hR : (rO (M 6) len p).1 = false ∧ (rO (M 6) len p).2.1 = pl) (h12 : M' 12 0 = 1) (h11 : M' 11 0 = nI pl) (hP : Pk M M') : ordP M M' len p := by
  unfold ordP; exact Or.inr ⟨hR.1, h12, by rw [hR.2]; exact h11, hP⟩
theorem rB_t {t : Nat → Int32} {len n p : Nat} {w : Nat → Int32} {v : Int32} {p' : Nat} (hn : n < 41) (h : nxB t len p 44 44 = true) (hv : rN t len (p + 1) = some (v, p')) : rB t len (41 - n) p n w = rB t len (41 - (n + 1)) p' (n + 1) (upd w n v) := by
  rw [show 41 - n = (41 - (n + 1)) + 1 by omega]
  simp only [rB, h, hv, if_true]
theorem rB_f {t : Nat → Int32} {len n p : Nat} {w : Nat → Int32} (hn : n < 41) (h : nxB t len p 44 44 = true) (hv : rN t len (p + 1) = none) : rB t len (41 - n) p n w = (false, p + 1, n, w) := by
  rw [show 41 - n = (41 - (n + 1)) + 1 by omega]
  simp only [rB, h, hv, if_true]
theorem rB_e {t : Nat → Int32} {len n p : Nat} {w : Nat → Int32} (hn : n < 41) (h : nxB t len p 44 44 = false) : rB t len (41 - n) p n w = (true, p, n, w) := by
  rw [show 41 - n = (41 - (n + 1)) + 1 by omega]
  simp only [rB, h]
  rfl
theorem rowE_0 {f w : Nat → Int32} (W : Wk f) : ∀ L, rowE f w L = 0 → ∀ k, k < L → ∃ i, i < cn f ∧ w k = nI i := by
  intro L
  induction L with
  | zero => intro _ k hk; exact absurd hk (Nat.not_lt_zero _)
  | succ L ih =>
    intro h k hk
    unfold rowE at h
    split at h
    · next h1 =>
      by_cases e : k = L
      · subst e; exact (isC_iff W _).mp h1
      · exact ih h k (by omega)
    · exact absurd h (by decide)
theorem rowE_cases (f w : Nat → Int32) (L : Nat) : rowE f w L = 0 ∨ rowE f w L = -1 := by
  induction L with
  | zero => exact Or.inl rfl
  | succ L ih => unfold rowE; split
                 · exact ih
                 · exact Or.inr rfl
end
section
/-! rows that agree on their first L places; places of an order; the orders of a whole text -/
theorem rowE_congr (f : Nat → Int32) {w v : Nat → Int32} : ∀ L, (∀ j, j < L → w j = v j) → rowE f w L = rowE f v L := by
  intro L
  induction L with
  | zero => intro _; rfl
  | succ L ih => intro h; unfold rowE; rw [h L (by omega), ih (fun j hj => h j (by omega))]
theorem miS_congr (f : Nat → Int32) {w v : Nat → Int32} : ∀ L, (∀ j, j < L → w j = v j) → miS f w L = miS f v L := by
  intro L
  induction L with
  | zero => intro _; rfl
  | succ L ih => intro h; unfold miS; rw [h L (by omega), ih (fun j hj => h j (by omega))]
theorem goF_congr (f : Nat → Int32) {w v : Nat → Int32} : ∀ L, (∀ j, j < L → w j = v j) → goF f w L = goF f v L := by
  intro L
  induction L with
  | zero => intro _; rfl
  | succ L ih => intro h; unfold goF; rw [h L (by omega), ih (fun j hj => h j (by omega))]
theorem goFF_congr (f : Nat → Int32) {w v : Nat → Int32} {L : Nat} (h : ∀ j, j < L → w j = v j) : goFF f w L = goFF f v L := by
  unfold goFF miV; rw [goF_congr f L h, miS_congr f L h]
theorem exE_congr (f : Nat → Int32) {c one two three two' three' : Int32} {L : Nat} {w v : Nat → Int32} (h43 : c = 43 → two = two' ∧ three = three') (h : ∀ j, j < L → w j = v j) : exE f c one two three L w = exE f c one two' three' L v := by
  unfold exE
  by_cases z : c = 43
  · rw [if_pos z, if_pos z, (h43 z).1, (h43 z).2]
  · rw [if_neg z, if_neg z, rowE_congr f L h]
theorem exF_congr (f : Nat → Int32) {c one two three two' three' : Int32} {L : Nat} {w v : Nat → Int32} (h43 : c = 43 → two = two' ∧ three = three') (h : ∀ j, j < L → w j = v j) : exF f c one two three L w = exF f c one two' three' L v := by
  unfold exF
  by_cases z : c = 43
  · rw [if_pos z, if_pos z, (h43 z).1, (h43 z).2]
  · rw [if_neg z, if_neg z, goFF_congr f h]
theorem rN_lt {t : Nat → Int32} {len p : Nat} (h : p ≤ len) : (match rN t len p with | none => p | some a => a.2) ≤ len := by
  split
  · exact h
  · next a e => exact (rN_place (v := a.1) (p' := a.2) (by rw [e])).2.1
theorem rB_place (t : Nat → Int32) (len : Nat) : ∀ u p n w, p ≤ len → (rB t len u p n w).2.1 ≤ len ∧ p ≤ (rB t len u p n w).2.1 := by
  intro u
  induction u with
  | zero => intro p n w h; exact ⟨h, Nat.le_refl _⟩
  | succ u ih =>
    intro p n w h
    unfold rB
    split
    · next h1 =>
      have h2 := (nxB_t.mp h1).1
      split
      · exact ⟨h2, by show p ≤ p + 1; omega⟩
      · next v e =>
        have h3 := rN_place (v := v.1) (p' := v.2) (by rw [e])
        have h4 := ih v.2 (n + 1) (upd w n v.1) h3.2.1
        exact ⟨h4.1, by omega⟩
    · exact ⟨h, Nat.le_refl _⟩
theorem rP_place (t : Nat → Int32) (len p : Nat) (h : p ≤ len) : (rP t len p).2.1 ≤ len ∧ p ≤ (rP t len p).2.1 := by
  unfold rP
  split
  · exact ⟨h, Nat.le_refl _⟩
  · next a e =>
    have h1 := rN_place (v := a.1) (p' := a.2) (by rw [e])
    split
    · next h2 =>
      have h2' := chr_pos h2 (by decide)
      split
      · exact ⟨h2', by show p ≤ a.2 + 1; omega⟩
      · next b e2 =>
        have h3 := rN_place (v := b.1) (p' := b.2) (by rw [e2])
        split
        · next h4 =>
          have h4' := chr_pos h4 (by decide)
          split
          · next h5 =>
            have h5' := (nxB_t.mp h5).1
            split
            · exact ⟨h5', by show p ≤ b.2 + 1 + 1; omega⟩
            · next c e3 =>
              have h6 := rN_place (v := c.1) (p' := c.2) (by rw [e3])
              exact ⟨h6.2.1, by show p ≤ c.2; omega⟩
          · split
            · exact ⟨h4', by show p ≤ b.2 + 1; omega⟩
            · next c e3 =>
              have h6 := rN_place (v := c.1) (p' := c.2) (by rw [e3])
              exact ⟨h6.2.1, by show p ≤ c.2; omega⟩
        · exact ⟨h3.2.1, by show p ≤ b.2; omega⟩
    · exact ⟨h1.2.1, by show p ≤ a.2; omega⟩
theorem rO_place (t : Nat → Int32) (len p : Nat) (h : p ≤ len) : (rO t len p).2.1 ≤ len ∧ p ≤ (rO t len p).2.1 ∧ ((rO t len p).1 = true → p < (rO t len p).2.1) := by
  by_cases hp : p < len
  · unfold rO
    dsimp only
    split
    · exact ⟨hp, by show p ≤ p + 1; omega, fun _ => Nat.lt_succ_self p⟩
    · split
      · exact ⟨hp, by show p ≤ p + 1; omega, fun _ => Nat.lt_succ_self p⟩
      · split
        · have := rP_place t len (p + 1) hp
          exact ⟨this.1, by show p ≤ (rP t len (p + 1)).2.1; omega, fun _ => by show p < (rP t len (p + 1)).2.1; omega⟩
        · split
          · split
            · exact ⟨hp, by show p ≤ p + 1; omega, fun z => by cases z⟩
            · next a e =>
              have h1 := rN_place (v := a.1) (p' := a.2) (by rw [e])
              exact ⟨h1.2.1, by show p ≤ a.2; omega, fun _ => by show p < a.2; omega⟩
          · split
            · split
              · exact ⟨hp, by show p ≤ p + 1; omega, fun z => by cases z⟩
              · next a e =>
                have h1 := rN_place (v := a.1) (p' := a.2) (by rw [e])
                have h2 := rB_place t len 40 a.2 1 (fun _ => a.1) h1.2.1
                exact ⟨h2.1, by show p ≤ (rB t len 40 a.2 1 (fun _ => a.1)).2.1; omega, fun _ => by show p < (rB t len 40 a.2 1 (fun _ => a.1)).2.1; omega⟩
            · split
              · split
                · exact ⟨hp, by show p ≤ p + 1; omega, fun z => by cases z⟩
                · next a e =>
                  have h1 := rN_place (v := a.1) (p' := a.2) (by rw [e])
                  exact ⟨h1.2.1, by show p ≤ a.2; omega, fun _ => by show p < a.2; omega⟩
              · exact ⟨h, Nat.le_refl _, fun z => by cases z⟩
  · have ec : chr t len p = 0 := chr_out (by omega)
    have e : rO t len p = (false, p, (0, 0, 0), 1, fun _ => 0) := by simp [rO, ec]
    rw [e]
    exact ⟨h, Nat.le_refl _, fun z => by cases z⟩
/-- the fault of a text from p on -/
def gF (t : Nat → Int32) (len : Nat) : Nat → Nat → Option Nat
  | 0, _ => none
  | u + 1, p => if (rO t len p).1 = true then (if (rO t len p).2.1 < len then (if inB (chr t len (rO t len p).2.1) 59 59 = true then gF t len u ((rO t len p).2.1 + 1) else some (rO t len p).2.1) else none) else some (rO t len p).2.1
def exE' (t : Nat → Int32) (len p : Nat) (f : Nat → Int32) : Int32 := let R := (rO t len p).2.2; exE f (chr t len p) R.1.1 R.1.2.1 R.1.2.2 R.2.1 R.2.2
def exF' (t : Nat → Int32) (len p : Nat) (f : Nat → Int32) : Nat → Int32 := let R := (rO t len p).2.2; exF f (chr t len p) R.1.1 R.1.2.1 R.1.2.2 R.2.1 R.2.2
/-- the orders carried out from p on: how many, the state then -/
def cO (t : Nat → Int32) (len : Nat) : Nat → Nat → (Nat → Int32) → Nat × (Nat → Int32)
  | 0, _, f => (0, f)
  | u + 1, p, f => if exE' t len p f = 0 then
      (if (rO t len p).2.1 < len then ((cO t len u ((rO t len p).2.1 + 1) (exF' t len p f)).1 + 1, (cO t len u ((rO t len p).2.1 + 1) (exF' t len p f)).2) else (1, exF' t len p f))
    else (0, f)
/-- all but the state and what reading changes -/
def Pk0 (M M' : MS) : Prop := ∀ k, k ≠ 0 → k ≠ 8 → k ≠ 9 → k ≠ 11 → k ≠ 12 → k ≠ 13 → k ≠ 14 → k ≠ 15 → k ≠ 16 → M' k = M k
theorem Pk.pk0 {M N : MS} (h : Pk M N) : Pk0 M N := fun k _ a b c d e f g i => h k a b c d e f g i
theorem Pk0.trans {M N O : MS} (h : Pk0 M N) (h2 : Pk0 N O) : Pk0 M O := fun k z a b c d e f g i => (h2 k z a b c d e f g i).trans (h k z a b c d e f g i)
theorem Pk.trans {M N O : MS} (h : Pk M N) (h2 : Pk N O) : Pk M O := fun k a b c d e f g i => (h2 k a b c d e f g i).trans (h k a b c d e f g i)
theorem Pk0.ms {M N : MS} (h : Pk0 M N) (f : Nat → Int32) : Pk0 M (ms0 N f) := fun k z a b c d e f g i => by rw [ms0_k _ _ z]; exact h k z a b c d e f g i
theorem Pk0.set {M N : MS} (h : Pk0 M N) {k : Nat} (hk : k ∈ [8, 9, 11, 12, 13, 14, 15, 16]) (j : Nat) (x : Int32) : Pk0 M (mset N k j x) := by
  intro a a0 a8 a9 a11 a12 a13 a14 a15 a16
  simp only [List.mem_cons, List.not_mem_nil, or_false] at hk
  rw [mset_ne _ (by rcases hk with rfl | rfl | rfl | rfl | rfl | rfl | rfl | rfl <;> assumption)]
  exact h a a0 a8 a9 a11 a12 a13 a14 a15 a16
theorem rO_len (t : Nat → Int32) (len p : Nat) (h : p ≤ len) (hl : len ≤ 80) : (rO t len p).2.2.2.1 ≤ 80 := by
  have key : ∀ u q n w, n + u ≤ 41 → (rB t len u q n w).2.2.1 ≤ 41 := by
    intro u
    induction u with
    | zero => intro q n w h; exact h
    | succ u ih =>
      intro q n w h
      unfold rB
      split
      · split
        · show n ≤ 41; omega
        · exact ih _ _ _ (by omega)
      · show n ≤ 41; omega
  have one : ∀ (x y : Bool × Nat × (Int32 × Int32 × Int32) × Nat × (Nat → Int32)) (P : Prop) [Decidable P], x.2.2.2.1 ≤ 80 → y.2.2.2.1 ≤ 80 → (if P then x else y).2.2.2.1 ≤ 80 := by
    intro x y P _ h1 h2; split
    · exact h1
    · exact h2
  have o1 : 1 ≤ 80 := by decide
  unfold rO
  dsimp only
  refine one _ _ _ o1 (one _ _ _ o1 (one _ _ _ o1 (one _ _ _ ?_ (one _ _ _ ?_ (one _ _ _ ?_ o1)))))
  · split <;> exact o1
  · split
    · exact o1
    · exact Nat.le_trans (key 40 _ 1 _ (by omega)) (by decide)
  · split <;> exact o1
theorem Wk_exF {f w : Nat → Int32} {c one two three : Int32} {L : Nat} (W : Wk f) (h : exE f c one two three L w = 0) : Wk (exF f c one two three L w) := by
  unfold exE at h
  unfold exF
  by_cases h1 : c = 43
  · rw [if_pos h1] at h ⊢
    have h2 := hangR_0 (f := f) (h := one) (u := two) (d := three) (by rw [h]; decide)
    have hn : cn f < 16 := by have := W.2.1; have := h2.2.2.2.2; omega
    have e5 : newC f (cn f) one two three 5 = nI (cn f + 1) := by unfold newC; exact upd_self
    have e6 : newC f (cn f) one two three 6 = f 6 := by
      unfold newC
      rw [upd_ne (by decide), upd_ne (by omega), upd_ne (by omega), upd_ne (by omega), upd_ne (by omega)]
      exact if_neg (by omega)
    have c5 : cn (newC f (cn f) one two three) = cn f + 1 := by unfold cn at hn ⊢; rw [show newC f (f 5).toNatClampNeg one two three 5 = _ from e5]; exact nI_clamp (by unfold cn; omega)
    have l6 : ln (newC f (cn f) one two three) = ln f := by unfold ln; rw [e6]
    exact ⟨by rw [e5, c5], by rw [c5]; omega, by rw [e6, l6]; exact W.2.2.1, by rw [l6]; exact W.2.2.2⟩
  · rw [if_neg h1] at h ⊢
    by_cases h3 : c = 108
    · rw [if_pos h3] at h ⊢
      have h2 := lddR_0 (f := f) (u := one) (by rw [h]; decide)
      have hn : ln f < 4 := by have := W.2.2.2; have := h2.2.2; omega
      have e5 : upd (upd f (8 + ln f) one) 6 (nI (ln f + 1)) 5 = f 5 := by rw [upd_ne (by decide), upd_ne (by omega)]
      have e6 : upd (upd f (8 + ln f) one) 6 (nI (ln f + 1)) 6 = nI (ln f + 1) := upd_self
      have c5 : cn (upd (upd f (8 + ln f) one) 6 (nI (ln f + 1))) = cn f := by unfold cn; rw [e5]
      have l6 : ln (upd (upd f (8 + ln f) one) 6 (nI (ln f + 1))) = ln f + 1 := by unfold ln; rw [show upd (upd f (8 + (f 6).toNatClampNeg) one) 6 (nI ((f 6).toNatClampNeg + 1)) 6 = _ from e6]; exact nI_clamp (by unfold ln at *; omega)
      exact ⟨by rw [e5, c5]; exact W.1, by rw [c5]; exact W.2.1, by rw [e6, l6], by rw [l6]; omega⟩
    · rw [if_neg h3] at h ⊢
      by_cases h4 : c = 98
      · rw [if_pos h4]
        exact (W.congr (by unfold goFF; rw [upd_ne (by decide), goF_lo _ _ _ (by decide)]) (by unfold goFF; rw [upd_ne (by decide), goF_lo _ _ _ (by decide)])).1
      · rw [if_neg h4]
        by_cases h5 : c = 116
        · rw [if_pos h5]
          exact (W.congr (by unfold pasF; rw [upd_ne (by decide), passD_lo _ _ (by decide)]) (by unfold pasF; rw [upd_ne (by decide), passD_lo _ _ (by decide)])).1
        · rw [if_neg h5]
          exact (W.congr (chgA_lo _ _ _ (by decide)) (chgA_lo _ _ _ (by decide))).1
theorem gF_no {t : Nat → Int32} {len u p : Nat} (h : (rO t len p).1 = false) : gF t len (u + 1) p = some (rO t len p).2.1 := by simp [gF, h]
theorem gF_end {t : Nat → Int32} {len u p : Nat} (h : (rO t len p).1 = true) (h2 : ¬ (rO t len p).2.1 < len) : gF t len (u + 1) p = none := by simp only [gF, if_pos h, if_neg h2]
theorem gF_sep {t : Nat → Int32} {len u p : Nat} (h : (rO t len p).1 = true) (h2 : (rO t len p).2.1 < len) (h3 : inB (chr t len (rO t len p).2.1) 59 59 = false) : gF t len (u + 1) p = some (rO t len p).2.1 := by simp [gF, h, h2, h3]
theorem gF_go {t : Nat → Int32} {len u p : Nat} (h : (rO t len p).1 = true) (h2 : (rO t len p).2.1 < len) (h3 : inB (chr t len (rO t len p).2.1) 59 59 = true) : gF t len (u + 1) p = gF t len u ((rO t len p).2.1 + 1) := by simp [gF, h, h2, h3]
theorem cO_no {t : Nat → Int32} {len u p : Nat} {f : Nat → Int32} (h : exE' t len p f ≠ 0) : cO t len (u + 1) p f = (0, f) := by simp [cO, h]
theorem cO_end {t : Nat → Int32} {len u p : Nat} {f : Nat → Int32} (h : exE' t len p f = 0) (h2 : ¬ (rO t len p).2.1 < len) : cO t len (u + 1) p f = (1, exF' t len p f) := by simp only [cO, if_pos h, if_neg h2]
theorem cO_go {t : Nat → Int32} {len u p : Nat} {f : Nat → Int32} (h : exE' t len p f = 0) (h2 : (rO t len p).2.1 < len) : cO t len (u + 1) p f = ((cO t len u ((rO t len p).2.1 + 1) (exF' t len p f)).1 + 1, (cO t len u ((rO t len p).2.1 + 1) (exF' t len p f)).2) := by simp only [cO, if_pos h, if_pos h2]
end
section
/-! the class's cells: 212 of them, by number; the numbers in one table C (rows 0..9: the States, laid out as the model's; 10: lengths and counters; 11 slotHolds; 12 signs; 13, 14 the numbers of the two Rows; 15 lasting); pi: which State the history's places hold -/
def cE (ad : Nat → Nat) (g : Nat → ClassId) (pi : Nat → Nat) (C : MS) (i : Nat) : va_E :=
  if i < 11 then
    (match i with
     | 0 => .inr (5, [.ref (ad (11 + 20 * 0)), .ref (ad 1), .ref (ad 3), .ref (ad 4), .ref (ad 5), .ref (ad 9), .ref (ad 211)])
     | 1 => .inr (1, [.ref (ad 2), .int (C 10 0)])
     | 2 => .inl (g 4, 7, .inr (.inr (.inr (.inr (fun j => some (ad (11 + 20 * pi j)))))))
     | 3 => .inl (g 4, 2, .inr (.inr (.inr (.inr (fun j => some (ad (11 + 20 * (8 + j))))))))
     | 4 => .inl (g 2, 2, .inl (C 11))
     | 5 => .inr (2, [.ref (ad 6), .ref (ad 7), .int (C 10 1), .int (C 10 2), .int (C 10 3)])
     | 6 => .inl (g 1, 80, .inl (C 12))
     | 7 => .inr (3, [.ref (ad 8), .int (C 10 4)])
     | 8 => .inl (g 0, 40, .inl (C 13))
     | 9 => .inr (3, [.ref (ad 10), .int (C 10 5)])
     | _ => .inl (g 0, 40, .inl (C 14)))
  else if i = 211 then .inl (g 0, 16, .inl (C 15))
  else
    if (i - 11) % 20 = 0 then .inr (4, [.ref (ad (12 + 20 * ((i - 11) / 20))), .ref (ad (13 + 20 * ((i - 11) / 20))), .ref (ad (14 + 20 * ((i - 11) / 20))), .int (C ((i - 11) / 20) 5), .int (C ((i - 11) / 20) 6), .int (C ((i - 11) / 20) 4), .int (C ((i - 11) / 20) 7)])
    else if (i - 11) % 20 = 1 then .inl (g 0, 4, .inl (fun j => if j < 4 then C ((i - 11) / 20) j else 0))
    else if (i - 11) % 20 = 2 then .inl (g 3, 16, .inr (.inr (.inr (.inr (fun j => some (ad (15 + 20 * ((i - 11) / 20) + j)))))))
    else if (i - 11) % 20 = 3 then .inl (g 0, 4, .inl (fun j => if j < 4 then C ((i - 11) / 20) (8 + j) else 0))
    else .inr (0, [.int (C ((i - 11) / 20) (12 + 8 * ((i - 11) % 20 - 4) + 0)), .int (C ((i - 11) / 20) (12 + 8 * ((i - 11) % 20 - 4) + 1)), .int (C ((i - 11) / 20) (12 + 8 * ((i - 11) % 20 - 4) + 2)), .int (C ((i - 11) / 20) (12 + 8 * ((i - 11) % 20 - 4) + 3)), .int (C ((i - 11) / 20) (12 + 8 * ((i - 11) % 20 - 4) + 4)), .int (C ((i - 11) / 20) (12 + 8 * ((i - 11) % 20 - 4) + 5)), .int (C ((i - 11) / 20) (12 + 8 * ((i - 11) % 20 - 4) + 7)), .int (C ((i - 11) / 20) (12 + 8 * ((i - 11) % 20 - 4) + 6))])
section CE
variable {ad : Nat → Nat} {g : Nat → ClassId} {pi : Nat → Nat} {C : MS} {k c : Nat}
theorem cE_0 : cE ad g pi C 0 = .inr (5, [.ref (ad (11 + 20 * 0)), .ref (ad 1), .ref (ad 3), .ref (ad 4), .ref (ad 5), .ref (ad 9), .ref (ad 211)]) := rfl
theorem cE_1 : cE ad g pi C 1 = .inr (1, [.ref (ad 2), .int (C 10 0)]) := rfl
theorem cE_2 : cE ad g pi C 2 = .inl (g 4, 7, .inr (.inr (.inr (.inr (fun j => some (ad (11 + 20 * pi j))))))) := rfl
theorem cE_3 : cE ad g pi C 3 = .inl (g 4, 2, .inr (.inr (.inr (.inr (fun j => some (ad (11 + 20 * (8 + j)))))))) := rfl
theorem cE_4 : cE ad g pi C 4 = .inl (g 2, 2, .inl (C 11)) := rfl
theorem cE_5 : cE ad g pi C 5 = .inr (2, [.ref (ad 6), .ref (ad 7), .int (C 10 1), .int (C 10 2), .int (C 10 3)]) := rfl
theorem cE_6 : cE ad g pi C 6 = .inl (g 1, 80, .inl (C 12)) := rfl
theorem cE_7 : cE ad g pi C 7 = .inr (3, [.ref (ad 8), .int (C 10 4)]) := rfl
theorem cE_8 : cE ad g pi C 8 = .inl (g 0, 40, .inl (C 13)) := rfl
theorem cE_9 : cE ad g pi C 9 = .inr (3, [.ref (ad 10), .int (C 10 5)]) := rfl
theorem cE_10 : cE ad g pi C 10 = .inl (g 0, 40, .inl (C 14)) := rfl
theorem cE_211 : cE ad g pi C 211 = .inl (g 0, 16, .inl (C 15)) := rfl
theorem cE_st (hk : k < 10 := by omega) : cE ad g pi C (11 + 20 * k) = .inr (4, [.ref (ad (12 + 20 * k)), .ref (ad (13 + 20 * k)), .ref (ad (14 + 20 * k)), .int (C k 5), .int (C k 6), .int (C k 4), .int (C k 7)]) := by
  unfold cE
  rw [if_neg (by omega), if_neg (by omega), show (11 + 20 * k - 11) / 20 = k by omega, if_pos (by omega)]
theorem cE_se : cE ad g pi C (12 + 20 * k) = .inl (g 0, 4, .inl (fun j => if j < 4 then C k j else 0)) := by
  unfold cE
  rw [if_neg (by omega), if_neg (by omega), show (12 + 20 * k - 11) / 20 = k by omega, if_neg (by omega), if_pos (by omega)]
theorem cE_ck : cE ad g pi C (13 + 20 * k) = .inl (g 3, 16, .inr (.inr (.inr (.inr (fun j => some (ad (15 + 20 * k + j))))))) := by
  unfold cE
  rw [if_neg (by omega), if_neg (by omega), show (13 + 20 * k - 11) / 20 = k by omega, if_neg (by omega), if_neg (by omega), if_pos (by omega)]
theorem cE_la : cE ad g pi C (14 + 20 * k) = .inl (g 0, 4, .inl (fun j => if j < 4 then C k (8 + j) else 0)) := by
  unfold cE
  rw [if_neg (by omega), if_neg (by omega), show (14 + 20 * k - 11) / 20 = k by omega, if_neg (by omega), if_neg (by omega), if_neg (by omega), if_pos (by omega)]
theorem cE_cl (hc : c < 16) : cE ad g pi C (15 + 20 * k + c) = .inr (0, [.int (C k (12 + 8 * c + 0)), .int (C k (12 + 8 * c + 1)), .int (C k (12 + 8 * c + 2)), .int (C k (12 + 8 * c + 3)), .int (C k (12 + 8 * c + 4)), .int (C k (12 + 8 * c + 5)), .int (C k (12 + 8 * c + 7)), .int (C k (12 + 8 * c + 6))]) := by
  unfold cE
  rw [if_neg (by omega), if_neg (by omega), show (15 + 20 * k + c - 11) / 20 = k by omega, show (15 + 20 * k + c - 11) % 20 = 4 + c by omega, if_neg (by omega), if_neg (by omega), if_neg (by omega), if_neg (by omega), show 4 + c - 4 = c by omega]
end CE
/-- which cell holds a number -/
def own (a b : Nat) : Nat :=
  if a = 10 then (if b = 0 then 1 else if b < 4 then 5 else if b = 4 then 7 else if b = 5 then 9 else 1000)
  else if a = 11 then 4 else if a = 12 then 6 else if a = 13 then 8 else if a = 14 then 10 else if a = 15 then 211 else if 10 ≤ a then 1000
  else if b < 4 then 12 + 20 * a else if b < 8 then 11 + 20 * a else if b < 12 then 14 + 20 * a else if b < 140 then 15 + 20 * a + (b - 12) / 8 else 1000
theorem own_lo {a b : Nat} (h : a < 10) : own a b = if b < 4 then 12 + 20 * a else if b < 8 then 11 + 20 * a else if b < 12 then 14 + 20 * a else if b < 140 then 15 + 20 * a + (b - 12) / 8 else 1000 := by
  unfold own
  rw [if_neg (by omega), if_neg (by omega), if_neg (by omega), if_neg (by omega), if_neg (by omega), if_neg (by omega), if_neg (by omega)]
theorem own_cl {k c w : Nat} (hk : k < 10) (hc : c < 16) (hw : w < 8) : own k (12 + 8 * c + w) = 15 + 20 * k + c := by
  rw [own_lo hk, if_neg (by omega), if_neg (by omega), if_neg (by omega), if_pos (by omega), show (12 + 8 * c + w - 12) / 8 = c by omega]
theorem cE_own {ad : Nat → Nat} {g : Nat → ClassId} {pi : Nat → Nat} {C C' : MS} {i : Nat} (hi : i < 212) (h : ∀ a b, own a b = i → C' a b = C a b) : cE ad g pi C' i = cE ad g pi C i := by
  by_cases h11 : i < 11
  · rcases (show i = 0 ∨ i = 1 ∨ i = 2 ∨ i = 3 ∨ i = 4 ∨ i = 5 ∨ i = 6 ∨ i = 7 ∨ i = 8 ∨ i = 9 ∨ i = 10 by omega) with rfl | rfl | rfl | rfl | rfl | rfl | rfl | rfl | rfl | rfl | rfl
    · rfl
    · rw [cE_1, cE_1, h 10 0 (by decide)]
    · rfl
    · rfl
    · rw [cE_4, cE_4, show C' 11 = C 11 from funext fun b => h 11 b (by simp [own])]
    · rw [cE_5, cE_5, h 10 1 (by decide), h 10 2 (by decide), h 10 3 (by decide)]
    · rw [cE_6, cE_6, show C' 12 = C 12 from funext fun b => h 12 b (by simp [own])]
    · rw [cE_7, cE_7, h 10 4 (by decide)]
    · rw [cE_8, cE_8, show C' 13 = C 13 from funext fun b => h 13 b (by simp [own])]
    · rw [cE_9, cE_9, h 10 5 (by decide)]
    · rw [cE_10, cE_10, show C' 14 = C 14 from funext fun b => h 14 b (by simp [own])]
  by_cases h211 : i = 211
  · subst h211
    rw [cE_211, cE_211, show C' 15 = C 15 from funext fun b => h 15 b (by simp [own])]
  · obtain ⟨k, r, hr, rfl⟩ : ∃ k r, r < 20 ∧ i = 11 + 20 * k + r := ⟨(i - 11) / 20, (i - 11) % 20, Nat.mod_lt _ (by decide), by omega⟩
    have hk : k < 10 := by omega
    by_cases r0 : r = 0
    · subst r0
      rw [show 11 + 20 * k + 0 = 11 + 20 * k by omega, cE_st, cE_st, h k 5 (by rw [own_lo hk]; simp), h k 6 (by rw [own_lo hk]; simp), h k 4 (by rw [own_lo hk]; simp), h k 7 (by rw [own_lo hk]; simp)]
    by_cases r1 : r = 1
    · subst r1
      rw [show 11 + 20 * k + 1 = 12 + 20 * k by omega, cE_se, cE_se]
      have e : (fun j => if j < 4 then C' k j else 0) = (fun j => if j < 4 then C k j else 0) := by
        funext j; by_cases z : j < 4
        · rw [if_pos z, if_pos z]; exact h k j (by rw [own_lo hk, if_pos z]; omega)
        · rw [if_neg z, if_neg z]
      rw [e]
    by_cases r2 : r = 2
    · subst r2
      rw [show 11 + 20 * k + 2 = 13 + 20 * k by omega, cE_ck, cE_ck]
    by_cases r3 : r = 3
    · subst r3
      rw [show 11 + 20 * k + 3 = 14 + 20 * k by omega, cE_la, cE_la]
      have e : (fun j => if j < 4 then C' k (8 + j) else 0) = (fun j => if j < 4 then C k (8 + j) else 0) := by
        funext j; by_cases z : j < 4
        · rw [if_pos z, if_pos z]; exact h k (8 + j) (by rw [own_lo hk, if_neg (by omega), if_neg (by omega), if_pos (by omega)]; omega)
        · rw [if_neg z, if_neg z]
      rw [e]
    obtain ⟨c, rfl⟩ : ∃ c, r = 4 + c := ⟨r - 4, by omega⟩
    have hc : c < 16 := by omega
    have e : ∀ w, w < 8 → C' k (12 + 8 * c + w) = C k (12 + 8 * c + w) := fun w hw => h k _ (by rw [own_cl hk hc hw]; omega)
    rw [show 11 + 20 * k + (4 + c) = 15 + 20 * k + c by omega, cE_cl hc, cE_cl hc, e 0 (by decide), e 1 (by decide), e 2 (by decide), e 3 (by decide), e 4 (by decide), e 5 (by decide), e 6 (by decide), e 7 (by decide)]
def cW (g : Nat → ClassId) (ad pi : Nat → Nat) (C : MS) : va_W := (List.range 212).map (fun i => (ad i, cE ad g pi C i))
def cP (dd : va_G) (g : Nat → ClassId) (ad pi : Nat → Nat) (H : Heap) (C : MS) : Prop := va_P dd vwCl (cW g ad pi C) H
def cA (A : Nat → Prop) (ad : Nat → Nat) : Prop := (∀ i j : Nat, i < 212 → j < 212 → ad i = ad j → i = j) ∧ ∀ i : Nat, i < 212 → A (ad i)
theorem cW_get {g : Nat → ClassId} {ad pi : Nat → Nat} {C : MS} {i : Nat} (h : i < 212) : (cW g ad pi C)[i]? = some (ad i, cE ad g pi C i) := by
  unfold cW; rw [List.getElem?_map, List.getElem?_range h]; rfl
theorem cW_at {g : Nat → ClassId} {ad pi : Nat → Nat} {C : MS} {i : Nat} {x : Nat × va_E} (h : (cW g ad pi C)[i]? = some x) : i < 212 ∧ x = (ad i, cE ad g pi C i) := by
  have hi : i < 212 := by
    have := (List.getElem?_eq_some_iff.mp h).1
    simpa [cW] using this
  rw [cW_get hi] at h
  exact ⟨hi, (Option.some.inj h).symm⟩
theorem cA.D {A : Nat → Prop} {ad : Nat → Nat} (h : cA A ad) (g : Nat → ClassId) (pi : Nat → Nat) (C : MS) : va_D A (cW g ad pi C) := by
  refine ⟨fun i j x y hx hy e => ?_, fun k x hx => ?_⟩
  · obtain ⟨hi, ei⟩ := cW_at hx
    obtain ⟨hj, ej⟩ := cW_at hy
    subst ei; subst ej
    exact h.1 i j hi hj e
  · obtain ⟨hi, ei⟩ := cW_at hx
    subst ei
    exact h.2 k hi
/-- one cell is written -/
theorem cP_set {dd : va_G} {g : Nat → ClassId} {ad pi pi' : Nat → Nat} {H : Heap} {C C' : MS} {i : Nat} {e : va_E} (h : va_P dd vwCl ((cW g ad pi C).set i (ad i, e)) H) (hi : cE ad g pi' C' i = e) (ho : ∀ j, j < 212 → j ≠ i → cE ad g pi' C' j = cE ad g pi C j) : cP dd g ad pi' H C' := by
  intro j x hx
  obtain ⟨hj, ex⟩ := cW_at hx
  subst ex
  by_cases hji : j = i
  · subst hji
    have hl : j < (cW g ad pi C).length := by simp [cW, hj]
    have := h j (ad j, e) (by rw [List.getElem?_set_self hl])
    rw [hi]; exact this
  · have := h j (ad j, cE ad g pi C j) (by rw [List.getElem?_set_ne (Ne.symm hji)]; exact cW_get hj)
    rw [ho j hj hji]; exact this
theorem cP_mset {dd : va_G} {g : Nat → ClassId} {ad pi : Nat → Nat} {H : Heap} {C : MS} {i k j : Nat} {x : Int32} {e : va_E} (h : va_P dd vwCl ((cW g ad pi C).set i (ad i, e)) H) (hi : cE ad g pi (mset C k j x) i = e) (ho : own k j = i) : cP dd g ad pi H (mset C k j x) := by
  refine cP_set h hi (fun a ha hne => cE_own ha (fun u v huv => ?_))
  simp only [mset]
  rw [if_neg]
  rintro ⟨rfl, rfl⟩
  exact hne (huv.symm.trans ho)
/-- the class's environment: what its methods' words don't say (links to nest mates; the table of the greatest settings) -/
def cX (A : Nat → Prop) (U : State) : Prop := va_Nw (.methodLinkNest RX4 54 yX5_isWithin "WinderLadders") U ∧ va_Nw (.fieldLinkNest RX4 51 "WinderLadders" "MOST_SETTINGS" "[I" "WinderLadders") U ∧ ∃ t : Nat, va_Z "WinderLadders" "MOST_SETTINGS" "[I" (.ref t) A U U.heap ∧ va_T .int t 4 (fun j => .int (if j = 0 then 999 else 30)) A U U.heap
theorem cX.moved {A : Nat → Prop} {s U : State} {H : Heap} {locs : List Loc} (h : cX A s) (hS : va_S A s.heap H locs) (hU : U.heap = H) (hW : s.WarmedH U.vm) : cX A U := by
  obtain ⟨h1, h0, t, h2, h3⟩ := h
  refine ⟨h1.warmM hW, h0.warmF hW, t, ?_, ?_⟩
  · rw [hU]; exact (h2.kept hS.2.1).moved hW.alike
  · rw [hU]; exact (h3.kept hS.2.1).moved hW.alike
def cI (dd : va_G) (g : Nat → ClassId) (ad pi : Nat → Nat) (A : Nat → Prop) (H0 H : Heap) (locs : List Loc) (C : MS) : Prop := cP dd g ad pi H C ∧ va_S A H0 H locs
def cPre (dd : va_G) (g : Nat → ClassId) (ad pi : Nat → Nat) (A : Nat → Prop) (C : MS) (av : List Value) : Array Value → State → Prop := va_Pc av (fun U => cP dd g ad pi U.heap C ∧ va_K dd vwCl (tysW g) U ∧ cX A U)
def cQi (dd : va_G) (g : Nat → ClassId) (ad : Nat → Nat) (A : Nat → Prop) (post : Int32 → MS → (Nat → Nat) → Prop) : Array Value → State → Outcome → State → Prop := va_Qi (fun r (u : MS × (Nat → Nat)) => post r u.1 u.2) (fun u t => cP dd g ad u.2 t.heap u.1) A
def cQv (dd : va_G) (g : Nat → ClassId) (ad : Nat → Nat) (A : Nat → Prop) (post : MS → (Nat → Nat) → Prop) : Array Value → State → Outcome → State → Prop := va_Qv (fun (u : MS × (Nat → Nat)) => post u.1 u.2) (fun u t => cP dd g ad u.2 t.heap u.1) A
theorem cX.same {A : Nat → Prop} {s U : State} (h : cX A s) (hh : U.heap = s.heap) (hv : s.vm = U.vm) : cX A U := by
  obtain ⟨h1, h0, t, h2, h3⟩ := h
  refine ⟨h1.same rfl hv, h0.same rfl hv, t, ?_, ?_⟩
  · rw [hh]; exact h2.moved (hv ▸ Vm.Alike.refl s.vm)
  · rw [hh]; exact h3.moved (hv ▸ Vm.Alike.refl s.vm)
theorem cPre_blind (dd : va_G) (g : Nat → ClassId) (ad pi : Nat → Nat) (A : Nat → Prop) (C : MS) (av : List Value) : FrameBlind (cPre dd g ad pi A C av) := fun a U gg mk h => by
  obtain ⟨h0, hP, hK, hX⟩ := h
  exact ⟨h0, hP, va_K.moved (u := U) (U := U.calling gg mk a) (Vm.Alike.refl U.vm) hK, hX.same rfl rfl⟩
end
section
/-! what the class's clocks do -/
theorem jabs_eq (x : Int32) : (if 0 ≤ x then x else 0 - x) = jabs x := by
  unfold jabs; rw [Int32.zero_sub]
def jmax (x y : Int32) : Int32 := if x < y then y else x
theorem mrow_mrow (M : MS) (k : Nat) (f h : Nat → Int32) : mrow (mrow M k f) k h = mrow M k h := by
  funext a; simp only [mrow]; split <;> rfl
def dayC (f : Nat → Int32) (c : Nat) (wd : Int32) : Nat → Int32 :=
  if f (12 + 8 * c + 6) = 0 then
    (if f (12 + 8 * c + 5) + 1 ≤ wd then upd f (12 + 8 * c + 5) (f (12 + 8 * c + 5) + 1)
     else upd (upd (upd f (12 + 8 * c + 5) (f (12 + 8 * c + 5) + 1)) (12 + 8 * c + 6) 0) (12 + 8 * c + 4) 43200)
  else
    (if f (12 + 8 * c + 5) + 1 ≤ wd then upd (upd f (12 + 8 * c + 4) (f (12 + 8 * c + 4) + rt f c)) (12 + 8 * c + 5) (f (12 + 8 * c + 5) + 1)
     else upd (upd (upd (upd f (12 + 8 * c + 4) (f (12 + 8 * c + 4) + rt f c)) (12 + 8 * c + 5) (f (12 + 8 * c + 5) + 1)) (12 + 8 * c + 6) 0) (12 + 8 * c + 4) 43200)
def begC (f : Nat → Int32) (c : Nat) (h u d : Int32) : Nat → Int32 := upd (upd (upd (upd (upd (upd (upd (upd f (12 + 8 * c + 0) h) (12 + 8 * c + 1) u) (12 + 8 * c + 2) d) (12 + 8 * c + 3) 0) (12 + 8 * c + 4) 0) (12 + 8 * c + 5) 0) (12 + 8 * c + 7) 0) (12 + 8 * c + 6) 1
def turC (f : Nat → Int32) (c : Nat) : Nat → Int32 :=
  if rt f c ≤ 0 then (if 0 ≤ rt f c then f else (if 20 ≤ f (12 + 8 * c + 3) then f else upd f (12 + 8 * c + 3) (f (12 + 8 * c + 3) + 1)))
  else (if f (12 + 8 * c + 3) ≤ -20 then (if 0 ≤ rt f c then f else (if 20 ≤ f (12 + 8 * c + 3) then f else upd f (12 + 8 * c + 3) (f (12 + 8 * c + 3) + 1))) else upd f (12 + 8 * c + 3) (f (12 + 8 * c + 3) - 1))
def setC (h : Nat → Int32) (c : Nat) : Nat → Int32 := upd (upd (upd (upd h (12 + 8 * c + 6) 1) (12 + 8 * c + 4) 0) (12 + 8 * c + 5) 0) (12 + 8 * c + 7) (h (12 + 8 * c + 7) + 1)
def winC (f : Nat → Int32) (c : Nat) (t : Int32) : Nat → Int32 :=
  if f (12 + 8 * c + 6) = 0 then setC f c else (if offB f c (t / 2) = true then setC (turC f c) c else setC f c)
def cpyC (f h : Nat → Int32) (c d : Nat) : Nat → Int32 := upd (upd (upd (upd (upd (upd (upd (upd f (12 + 8 * c + 0) (h (12 + 8 * d + 0))) (12 + 8 * c + 1) (h (12 + 8 * d + 1))) (12 + 8 * c + 2) (h (12 + 8 * d + 2))) (12 + 8 * c + 3) (h (12 + 8 * d + 3))) (12 + 8 * c + 4) (h (12 + 8 * d + 4))) (12 + 8 * c + 5) (h (12 + 8 * d + 5))) (12 + 8 * c + 7) (h (12 + 8 * d + 7))) (12 + 8 * c + 6) (h (12 + 8 * d + 6))
theorem isC_iff2 {f : Nat → Int32} (w : Wk f) (x : Int32) : (¬ x < 0 ∧ ¬ nI (cn f) ≤ x) ↔ ∃ i, isC f x i := by
  constructor
  · rintro ⟨h1, h2⟩
    obtain ⟨j, hj, rfl⟩ := nI_of h1
    exact ⟨j, Nat.lt_of_not_le fun z => h2 ((nI_leI (by have := w.2.1; omega) hj).mpr z), rfl⟩
  · rintro ⟨i, hi, rfl⟩
    have := w.2.1
    exact ⟨nI_pos (by omega), fun z => by have := (nI_leI (by omega) (by omega)).mp z; omega⟩
theorem lof_iff2 {f : Nat → Int32} (w : Wk f) (x : Int32) : (¬ x < 0 ∧ ¬ nI (ln f) ≤ x) ↔ ∃ i, i < ln f ∧ x = nI i := by
  constructor
  · rintro ⟨h1, h2⟩
    obtain ⟨j, hj, rfl⟩ := nI_of h1
    exact ⟨j, Nat.lt_of_not_le fun z => h2 ((nI_leI (by have := w.2.2.2; omega) hj).mpr z), rfl⟩
  · rintro ⟨i, hi, rfl⟩
    have := w.2.2.2
    exact ⟨nI_pos (by omega), fun z => by have := (nI_leI (by omega) (by omega)).mp z; omega⟩
/-- what the class's searches rest on -/
def Lad (f : Nat → Int32) : Prop := (∀ j, j < ln f → ¬ 31 ≤ f (8 + j)) ∧ ∀ c, c < cn f → 0 ≤ f (12 + 8 * c + 1)
def Tm (f : Nat → Int32) : Prop := (f 1 = nI (ix (f 1)) ∧ ix (f 1) ≤ 30) ∧ ∀ c, c < cn f → f (12 + 8 * c + 5) = nI (ix (f (12 + 8 * c + 5))) ∧ ix (f (12 + 8 * c + 5)) ≤ 20000
def duL (f : Nat → Int32) (c : Nat) (t : Int32) : Nat → Nat → Nat
  | 0, d => d
  | u + 1, d => if jabs (f (12 + 8 * c + 4) + nI d * rt f c) ≤ t then duL f c t u (d + 1) else d
def stD (f : Nat → Int32) (c : Nat) : Nat := max 1 (ix (f 1) + 1 - ix (f (12 + 8 * c + 5)))
def duC (f : Nat → Int32) (c : Nat) (t : Int32) (D : Nat) : Nat := if offB f c t = true then 0 else duL f c t (D - 1) 1
theorem jmax_nI {a b : Nat} (ha : a < 2 ^ 30) (hb : b < 2 ^ 30) : jmax 1 (nI a - nI b) = nI (max 1 (a - b)) := by
  unfold jmax
  by_cases h : b ≤ a
  · rw [pk_sub h]
    by_cases h1 : 1 < a - b
    · have h9 : (1 : Int32) < nI (a - b) := (nI_ltI (a := 1) (b := a - b) (by omega) (by omega)).mpr h1
      rw [if_pos h9, Nat.max_eq_right (by omega)]
    · have h9 : ¬ (1 : Int32) < nI (a - b) := fun z => h1 ((nI_ltI (a := 1) (b := a - b) (by omega) (by omega)).mp z)
      rw [if_neg h9, Nat.max_eq_left (by omega)]; rfl
  · have hs := pk_sneg (a := a) (b := b) hb (by omega)
    rw [if_neg (fun z => by
      rw [Int32.lt_iff_toInt_lt] at z hs
      rw [show (0 : Int32).toInt = 0 from by decide] at hs
      rw [show (1 : Int32).toInt = 1 from by decide] at z
      omega), Nat.max_eq_left (by omega)]; rfl
def goN (f : Nat → Int32) : Nat → Nat
  | 0 => 0
  | k + 1 => if f (12 + 8 * k + 6) = 0 then goN f k else goN f k + 1
theorem goN_le (f : Nat → Int32) (k : Nat) : goN f k ≤ k := by
  induction k with
  | zero => exact Nat.le_refl _
  | succ k ih => unfold goN; split <;> omega
def stC (f : Nat → Int32) : Nat → Int32
  | 0 => 0
  | k + 1 => if f (12 + 8 * k + 6) = 0 then stC f k ||| (1 : Int32) <<< (nI k &&& 31) else stC f k
def ofN (f : Nat → Int32) : Nat → Nat
  | 0 => 0
  | k + 1 => if offB f k (f 0) = true then ofN f k + 1 else ofN f k
theorem ofN_le (f : Nat → Int32) (k : Nat) : ofN f k ≤ k := by
  induction k with
  | zero => exact Nat.le_refl _
  | succ k ih => unfold ofN; split <;> omega
def cwN (f : Nat → Int32) : Nat → Nat
  | 0 => 0
  | k + 1 => if canW f k = true then cwN f k else cwN f k + 1
theorem cwN_le (f : Nat → Int32) (k : Nat) : cwN f k ≤ k := by
  induction k with
  | zero => exact Nat.le_refl _
  | succ k ih => unfold cwN; split <;> omega
def twN (f : Nat → Int32) : Nat → Int32
  | 0 => 0
  | k + 1 => twN f k + f (12 + 8 * k + 7)
def ruN (f : Nat → Int32) : Nat → Int32
  | 0 => 0
  | k + 1 => if canW f k = true then ruN f k else jmax (ruN f k) (f (12 + 8 * k + 1))
def duS (f : Nat → Int32) (c : Nat) : Nat := duC f c (f 0) (stD f c)
def raN (f : Nat → Int32) (c : Nat) : Nat → Nat
  | 0 => 0
  | k + 1 => if duS f k < duS f c then raN f c k + 1 else if duS f k = duS f c then (if c ≤ k then raN f c k else raN f c k + 1) else raN f c k
theorem raN_le (f : Nat → Int32) (c k : Nat) : raN f c k ≤ k := by
  induction k with
  | zero => exact Nat.le_refl _
  | succ k ih =>
    unfold raN
    split
    · omega
    · split
      · split <;> omega
      · omega
theorem duL_le (f : Nat → Int32) (c : Nat) (t : Int32) : ∀ u d, duL f c t u d ≤ d + u := by
  intro u
  induction u with
  | zero => intro d; exact Nat.le_refl _
  | succ u ih =>
    intro d; unfold duL; split
    · have := ih (d + 1); omega
    · omega
theorem duS_lt {f : Nat → Int32} (h : Tm f) (c : Nat) : duS f c < 2 ^ 31 := by
  have h1 := h.1.2
  unfold duS duC stD
  split
  · decide
  · have := duL_le f c (f 0) (max 1 (ix (f 1) + 1 - ix (f (12 + 8 * c + 5))) - 1) 1
    have : max 1 (ix (f 1) + 1 - ix (f (12 + 8 * c + 5))) ≤ 31 := by omega
    omega
def brC (f : Nat → Int32) (o : Option Nat) : Int32 := match o with | none => 31 | some p => f (8 + p)
theorem ladP_0 (f : Nat → Int32) (n : Nat) : ladP f 0 n = none := by
  induction n with
  | zero => rfl
  | succ n ih => unfold ladP; rw [ih]; simp
/-! what lasts() tells of the first n clocks, kept in a row -/
def lasW (f : Nat → Int32) (w : Nat → Int32) : Nat → Nat → Int32
  | 0 => w
  | n + 1 => upd (lasW f w n) n (nI (duS f n))
theorem lasW_get (f : Nat → Int32) (w : Nat → Int32) {n i : Nat} (h : i < n) : lasW f w n i = nI (duS f i) := by
  induction n with
  | zero => exact absurd h (Nat.not_lt_zero _)
  | succ n ih =>
    unfold lasW
    by_cases e : i = n
    · subst e; exact upd_self
    · rw [upd_ne e]; exact ih (by omega)
theorem lasW_0 (C : MS) (f : Nat → Int32) : mrow C 15 (lasW f (C 15) 0) = C := mrow_self C 15
theorem lasW_set (C : MS) (f w : Nat → Int32) (n : Nat) : mset (mrow C 15 (lasW f w n)) 15 n (nI (duS f n)) = mrow C 15 (lasW f w (n + 1)) := mset_mrow_s C 15 n _ _
theorem raN_lt (f : Nat → Int32) (c : Nat) : ∀ k, c < k → raN f c k < k := by
  intro k
  induction k with
  | zero => intro h; exact absurd h (Nat.not_lt_zero _)
  | succ k ih =>
    intro h
    have hle := raN_le f c k
    unfold raN
    by_cases e : c = k
    · subst e
      rw [if_neg (Nat.lt_irrefl _), if_pos rfl, if_pos (Nat.le_refl _)]; omega
    · have := ih (by omega)
      split
      · omega
      · split
        · split <;> omega
        · omega
end
section
/-! what the class's States do -/
section CR2
variable {p : Program} {l : Launch} {e : Env} {R : Room} {s : State} {m : MethodId} {args : Array Value} {below : List Frame} {meth : Method} {c : Code} {H : Heap} {locs : List Loc} {cells slots : Nat} {Q : State → Prop}
variable {cc : ByteArray} {pc : Nat} {ls : Array Slot} {rest : List Value} {dd : va_G} {g : Nat → ClassId} {A : Nat → Prop} {ad pi : Nat → Nat} {C : MS} {H0 : Heap} {own0 : String}
def stS (f h : Nat → Int32) : Nat → Int32 := fun j => if j < 4 then h j else f j
def laS (f h : Nat → Int32) : Nat → Int32 := fun j => if 8 ≤ j ∧ j < 12 then h j else f j
theorem cP_row {i k : Nat} {F : Nat → Int32} {e : va_E} (h : va_P dd vwCl ((cW g ad pi C).set i (ad i, e)) H) (hi : cE ad g pi (mrow C k F) i = e) (ho : ∀ j, own k j ≠ i → F j = C k j) : cP dd g ad pi H (mrow C k F) := by
  refine cP_set h hi (fun a ha hne => cE_own ha (fun u v huv => ?_))
  by_cases hu : u = k
  · subst hu; rw [mrow_s]; exact ho v (fun z => hne (huv.symm.trans z))
  · rw [mrow_n _ hu]
theorem c_cpyS {index : Nat} (hexec : p.tables.exec = Jvm.exec) (hb : c.code = cc) (hml : c.maxLocals = ls.size) (hown : s.vm.findClass own0 = some m.cls) (hlink : (Cond.methodLink own0 index arraycopyName).before args s = true) (hnat : (Cond.native arraycopyName).before args s = true) (hstat : (Cond.static arraycopyName).before args s = true) (hini : (Cond.initialized "java/lang/System").before args s = true)
    (hK : va_K dd vwCl (tysW g) s) (hA : cA A ad) (hI : cI dd g ad pi A H0 H locs C) (k k2 : Nat) (hk : k < 10) (hk2 : k2 < 10) (hne : k ≠ k2) (hframes : 1 ≤ R.frames) (hlocals : (rest.map fun v => v.category).sum + (nativeFrameWords "java/lang/System" "arraycopy" 5 + 11) ≤ R.locals) (hdg : decode cc pc = .ok (.invokestatic index, 3))
    (kk : ∀ (H1 : Heap) (locs1 : List Loc), cI dd g ad pi A H0 H1 locs1 (mrow C k (stS (C k) (C k2))) → W p l e R s m args below meth c H1 locs1 cells slots Q (F0 m (pc + 3) ls rest)) : W p l e R s m args below meth c H locs cells slots Q (F0 m pc ls (.int 4 :: .int 0 :: .ref (ad (12 + 20 * k)) :: .int 0 :: .ref (ad (12 + 20 * k2)) :: rest)) := by
  refine va_copyi hexec hb hml hown hlink hnat hstat hini hK hI.1 (hA.D g pi C) hI.2 (12 + 20 * k2) (12 + 20 * k) 0 0 (by rw [cW_get (by omega), cE_se]) (by rw [cW_get (by omega), cE_se]) rfl rfl rfl (by decide) (by decide) (by decide) (by decide) (by decide) (fun i _ => rfl) hframes hlocals hdg (fun H1 locs1 h1 _ h3 => kk H1 locs1 ⟨?_, h3⟩)
  refine cP_row h1 ?_ (fun j hj => ?_)
  · rw [cE_se]
    have e : (fun j => if j < 4 then mrow C k (stS (C k) (C k2)) k j else 0) = va_cpy (fun j => if j < 4 then C k2 j else 0) (fun j => if j < 4 then C k j else 0) (Int32.toNatClampNeg 0) (Int32.toNatClampNeg 0) (Int32.toNatClampNeg 4) := by
      funext j
      rw [show (Int32.toNatClampNeg 0) = 0 from by decide, show (Int32.toNatClampNeg 4) = 4 from by decide, mrow_s]
      unfold stS va_cpy
      by_cases z : j < 4
      · rw [if_pos z, if_pos z, if_pos (by omega), show 0 + (j - 0) = j by omega]; exact (if_pos z).symm
      · rw [if_neg z, if_neg (by omega)]; exact (if_neg z).symm
    rw [e]
  · unfold stS; rw [if_neg]; intro z; exact hj (by rw [own_lo hk, if_pos z])
theorem c_cpyL {index : Nat} (hexec : p.tables.exec = Jvm.exec) (hb : c.code = cc) (hml : c.maxLocals = ls.size) (hown : s.vm.findClass own0 = some m.cls) (hlink : (Cond.methodLink own0 index arraycopyName).before args s = true) (hnat : (Cond.native arraycopyName).before args s = true) (hstat : (Cond.static arraycopyName).before args s = true) (hini : (Cond.initialized "java/lang/System").before args s = true)
    (hK : va_K dd vwCl (tysW g) s) (hA : cA A ad) (hI : cI dd g ad pi A H0 H locs C) (k k2 : Nat) (hk : k < 10) (hk2 : k2 < 10) (hne : k ≠ k2) (hframes : 1 ≤ R.frames) (hlocals : (rest.map fun v => v.category).sum + (nativeFrameWords "java/lang/System" "arraycopy" 5 + 11) ≤ R.locals) (hdg : decode cc pc = .ok (.invokestatic index, 3))
    (kk : ∀ (H1 : Heap) (locs1 : List Loc), cI dd g ad pi A H0 H1 locs1 (mrow C k (laS (C k) (C k2))) → W p l e R s m args below meth c H1 locs1 cells slots Q (F0 m (pc + 3) ls rest)) : W p l e R s m args below meth c H locs cells slots Q (F0 m pc ls (.int 4 :: .int 0 :: .ref (ad (14 + 20 * k)) :: .int 0 :: .ref (ad (14 + 20 * k2)) :: rest)) := by
  refine va_copyi hexec hb hml hown hlink hnat hstat hini hK hI.1 (hA.D g pi C) hI.2 (14 + 20 * k2) (14 + 20 * k) 0 0 (by rw [cW_get (by omega), cE_la]) (by rw [cW_get (by omega), cE_la]) rfl rfl rfl (by decide) (by decide) (by decide) (by decide) (by decide) (fun i _ => rfl) hframes hlocals hdg (fun H1 locs1 h1 _ h3 => kk H1 locs1 ⟨?_, h3⟩)
  refine cP_row h1 ?_ (fun j hj => ?_)
  · rw [cE_la]
    have e : (fun j => if j < 4 then mrow C k (laS (C k) (C k2)) k (8 + j) else 0) = va_cpy (fun j => if j < 4 then C k2 (8 + j) else 0) (fun j => if j < 4 then C k (8 + j) else 0) (Int32.toNatClampNeg 0) (Int32.toNatClampNeg 0) (Int32.toNatClampNeg 4) := by
      funext j
      rw [show (Int32.toNatClampNeg 0) = 0 from by decide, show (Int32.toNatClampNeg 4) = 4 from by decide, mrow_s]
      unfold laS va_cpy
      by_cases z : j < 4
      · rw [if_pos z, if_pos (by omega), if_pos (by omega), show 0 + (j - 0) = j by omega]; exact (if_pos z).symm
      · rw [if_neg z, if_neg (by omega)]; exact (if_neg z).symm
    rw [e]
  · unfold laS; rw [if_neg]; intro z; exact hj (by rw [own_lo hk, if_neg (by omega), if_neg (by omega), if_pos z.2])
end CR2
def rsR (f : Nat → Int32) (x v : Int32) : Int32 := if x < 0 then -2 else if 4 ≤ x then -2 else if inB v 1 (if ix x = 0 then 999 else 30) = true then f (ix x) else -2
def rsF (f : Nat → Int32) (x v : Int32) : Nat → Int32 := if x < 0 then f else if 4 ≤ x then f else if inB v 1 (if ix x = 0 then 999 else 30) = true then upd f (ix x) v else f
def acR (f : Nat → Int32) (h u d : Int32) : Int32 := if inB h 0 99 = true then if inB u 0 30 = true then if inB d (-99) 99 = true then if cn f < 16 then nI (cn f) else -4 else -2 else -2 else -2
def acF (f : Nat → Int32) (h u d : Int32) : Nat → Int32 := if inB h 0 99 = true then if inB u 0 30 = true then if inB d (-99) 99 = true then if cn f < 16 then upd (begC f (cn f) h u d) 5 (nI (cn f + 1)) else f else f else f else f
theorem begC_low (f : Nat → Int32) (c : Nat) (h u d : Int32) {j : Nat} (hj : j < 12) : begC f c h u d j = f j := by
  unfold begC
  iterate 8 rw [upd_ne (by omega)]
def alR (f : Nat → Int32) (u : Int32) : Int32 := if inB u 1 30 = true then if ln f < 4 then nI (ln f) else -4 else -2
def alF (f : Nat → Int32) (u : Int32) : Nat → Int32 := if inB u 1 30 = true then if ln f < 4 then upd (upd f (8 + ln f) u) 6 (nI (ln f + 1)) else f else f
def tsR (f : Nat → Int32) (x t : Int32) : Int32 := if isCb f x = true then if inB t (-20) 20 = true then if inB (f (12 + 8 * ix x + 3) + t) (-20) 20 = true then f (12 + 8 * ix x + 3) + t + 20 else -5 else -2 else -1
def tsF (f : Nat → Int32) (x t : Int32) : Nat → Int32 := if isCb f x = true then if inB t (-20) 20 = true then if inB (f (12 + 8 * ix x + 3) + t) (-20) 20 = true then upd f (12 + 8 * ix x + 3) (f (12 + 8 * ix x + 3) + t) else f else f else f
def dcA (f : Nat → Int32) (wd : Int32) : Nat → Nat → Int32
  | 0 => f
  | c + 1 => dayC (dcA f wd c) c wd
def dcD (f : Nat → Int32) (wd : Int32) (n : Nat) : Nat → Nat → Int32
  | 0 => f
  | d + 1 => dcA (dcD f wd n d) wd n
theorem dayC_low (f : Nat → Int32) (c : Nat) (wd : Int32) {j : Nat} (hj : j < 12) : dayC f c wd j = f j := by
  unfold dayC
  split
  · split
    · rw [upd_ne (by omega)]
    · iterate 3 rw [upd_ne (by omega)]
  · split
    · iterate 2 rw [upd_ne (by omega)]
    · iterate 4 rw [upd_ne (by omega)]
theorem dcA_low (f : Nat → Int32) (wd : Int32) (c : Nat) {j : Nat} (hj : j < 12) : dcA f wd c j = f j := by
  induction c with
  | zero => rfl
  | succ c ih => unfold dcA; rw [dayC_low _ _ _ hj, ih]
theorem dcD_low (f : Nat → Int32) (wd : Int32) (n d : Nat) {j : Nat} (hj : j < 12) : dcD f wd n d j = f j := by
  induction d with
  | zero => rfl
  | succ d ih => unfold dcD; rw [dcA_low _ _ _ hj, ih]
theorem Wk.low {f h : Nat → Int32} (w : Wk f) (h5 : h 5 = f 5) (h6 : h 6 = f 6) : Wk h := by
  unfold Wk cn ln; rw [h5, h6]; exact w
theorem cn_low {f h : Nat → Int32} (h5 : h 5 = f 5) : cn h = cn f := by unfold cn; rw [h5]
theorem ln_low {f h : Nat → Int32} (h6 : h 6 = f 6) : ln h = ln f := by unfold ln; rw [h6]
def psW (f : Nat → Int32) (m : Int32) : Nat → Int32 := upd (dcD f (f 1) (cn f) (ix m)) 4 (f 4 + m)
def psR (f : Nat → Int32) (m : Int32) : Int32 := if inB m 1 99 = true then if f 4 + m ≤ 9999 then nI (cn f - goN (psW f m) (cn f)) else -5 else -2
def psF (f : Nat → Int32) (m : Int32) : Nat → Int32 := if inB m 1 99 = true then if f 4 + m ≤ 9999 then psW f m else f else f
def chC (f : Nat → Int32) (sec : Int32) : Nat → Nat → Int32
  | 0 => f
  | c + 1 => if chC f sec c (12 + 8 * c + 6) = 0 then chC f sec c else upd (chC f sec c) (12 + 8 * c + 4) (chC f sec c (12 + 8 * c + 4) + sec)
theorem chC_low (f : Nat → Int32) (sec : Int32) (c : Nat) {j : Nat} (hj : j < 12) : chC f sec c j = f j := by
  induction c with
  | zero => rfl
  | succ c ih => unfold chC; split; exact ih; rw [upd_ne (by omega)]; exact ih
def ccS (x : Int32) : Int32 := if x = 0 then 3600 else -3600
def ccF (f : Nat → Int32) (x : Int32) : Nat → Int32 := if x = 0 then chC f 3600 (cn f) else if x = 1 then chC f (-3600) (cn f) else f
def ccR (f : Nat → Int32) (x : Int32) : Int32 := if x = 0 then nI (goN (chC f 3600 (cn f)) (cn f)) else if x = 1 then nI (goN (chC f (-3600) (cn f)) (cn f)) else -2
def cpK (f h : Nat → Int32) : Nat → Nat → Int32
  | 0 => f
  | c + 1 => cpyC (cpK f h c) h c c
def cpS (f h : Nat → Int32) : Nat → Int32 := upd (upd (upd (upd (cpK (laS (stS f h) h) h (cn h)) 5 (nI (cn h))) 6 (h 6)) 4 (h 4)) 7 (h 7)
/-! what the class's Rows do; the minutes -/
def atR (w : Nat → Int32) (L : Nat) (x : Int32) : Int32 := if x < 0 then -6 else if nI L ≤ x then -6 else w (ix x)
def trN (w : Nat → Int32) (L : Nat) : Nat → Nat → Int32
  | 0 => w
  | i + 1 => upd (upd (trN w L i) i (trN w L i (L - 1 - i))) (L - 1 - i) (trN w L i i)
def hrN (f w : Nat → Int32) : Nat → Int32
  | 0 => 0
  | n + 1 => f (12 + 8 * ix (w n) + 0)
def ndN (f w : Nat → Int32) (n : Nat) : Int32 := o2i (ladF f (ix (w n)))
def caN (f w : Nat → Int32) : Nat → Int32
  | 0 => -6
  | n + 1 => if ndN f w n = -6 then caN f w n else if ndN f w n = caN f w n then caN f w n else ndN f w n
def spN (f w : Nat → Int32) : Nat → Int32
  | 0 => 0
  | n + 1 => if ndN f w n = -6 then spN f w n + jabs (f (12 + 8 * ix (w n) + 0) - hrN f w n) else if ndN f w n = caN f w n then spN f w n + jabs (f (12 + 8 * ix (w n) + 0) - hrN f w n) else spN f w n + jabs (f (12 + 8 * ix (w n) + 0) - hrN f w n) + 2 * f (12 + 8 * ix (w n) + 0)
def wkN (f w : Nat → Int32) : Nat → Nat
  | 0 => 0
  | n + 1 => if canW f (ix (w n)) = true then wkN f w n + 1 else wkN f w n
theorem wkN_le (f w : Nat → Int32) (n : Nat) : wkN f w n ≤ n := by
  induction n with
  | zero => exact Nat.le_refl _
  | succ n ih => unfold wkN; split <;> omega
def moN (f w : Nat → Int32) (n : Nat) : Int32 := (spN f w n + hrN f w n) * f 2 + nI (wkN f w n) * f 3
def gdN (f w : Nat → Int32) (n : Nat) : Prop := ∀ i, i < n → isCb f (w i) = true
def wbN (f w : Nat → Int32) : Nat → Nat → Int32
  | 0 => f
  | n + 1 => if canW (wbN f w n) (ix (w n)) = true then winC (wbN f w n) (ix (w n)) (f 0) else wbN f w n
theorem turC_low (f : Nat → Int32) (c : Nat) {j : Nat} (hj : j < 12) : turC f c j = f j := by
  unfold turC
  split
  · split
    · rfl
    · split
      · rfl
      · rw [upd_ne (by omega)]
  · split
    · split
      · rfl
      · split
        · rfl
        · rw [upd_ne (by omega)]
    · rw [upd_ne (by omega)]
theorem setC_low (f : Nat → Int32) (c : Nat) {j : Nat} (hj : j < 12) : setC f c j = f j := by
  unfold setC; iterate 4 rw [upd_ne (by omega)]
theorem winC_low (f : Nat → Int32) (c : Nat) (t : Int32) {j : Nat} (hj : j < 12) : winC f c t j = f j := by
  unfold winC
  split
  · exact setC_low _ _ hj
  · split
    · rw [setC_low _ _ hj, turC_low _ _ hj]
    · exact setC_low _ _ hj
theorem wbN_low (f w : Nat → Int32) (n : Nat) {j : Nat} (hj : j < 12) : wbN f w n j = f j := by
  induction n with
  | zero => rfl
  | succ n ih => unfold wbN; split; rw [winC_low _ _ _ hj]; exact ih; exact ih
theorem turC_rungs (f : Nat → Int32) (c i : Nat) : turC f c (12 + 8 * i + 1) = f (12 + 8 * i + 1) := by
  unfold turC
  split
  · split
    · rfl
    · split
      · rfl
      · rw [upd_ne (by omega)]
  · split
    · split
      · rfl
      · split
        · rfl
        · rw [upd_ne (by omega)]
    · rw [upd_ne (by omega)]
theorem setC_rungs (f : Nat → Int32) (c i : Nat) : setC f c (12 + 8 * i + 1) = f (12 + 8 * i + 1) := by
  unfold setC; iterate 4 rw [upd_ne (by omega)]
theorem winC_rungs (f : Nat → Int32) (c i : Nat) (t : Int32) : winC f c t (12 + 8 * i + 1) = f (12 + 8 * i + 1) := by
  unfold winC
  split
  · exact setC_rungs _ _ _
  · split
    · rw [setC_rungs, turC_rungs]
    · exact setC_rungs _ _ _
theorem wbN_rungs (f w : Nat → Int32) (n i : Nat) : wbN f w n (12 + 8 * i + 1) = f (12 + 8 * i + 1) := by
  induction n with
  | zero => rfl
  | succ n ih => unfold wbN; split; rw [winC_rungs]; exact ih; exact ih
theorem Lad.low {f h : Nat → Int32} (H : Lad f) (hl : ∀ j, j < 12 → h j = f j) (hr : ∀ i, h (12 + 8 * i + 1) = f (12 + 8 * i + 1)) (w : Wk f) : Lad h := by
  refine ⟨fun j hj => ?_, fun c hc => ?_⟩
  · rw [ln_low (hl 6 (by decide))] at hj
    have := w.2.2.2
    rw [hl (8 + j) (by omega)]; exact H.1 j hj
  · rw [cn_low (hl 5 (by decide))] at hc
    rw [hr c]; exact H.2 c hc
theorem atR_in {w : Nat → Int32} {L j : Nat} (hL : L ≤ 40) (h : j < L) : atR w L (nI j) = w j := by
  unfold atR
  rw [if_neg (nI_pos (by omega)), if_neg (fun z => by have := (nI_leI (a := L) (b := j) (by omega) (by omega)).mp z; omega), ix_nI (by omega)]
theorem gdN_s {f w : Nat → Int32} {n : Nat} (h : gdN f w n) (hb : isCb f (w n) = true) : gdN f w (n + 1) := fun i hi => by
  rcases Nat.lt_or_ge i n with z | z
  · exact h i z
  · rw [show i = n by omega]; exact hb
theorem isCb_low {f h : Nat → Int32} {x : Int32} (h5 : h 5 = f 5) : isCb h x = isCb f x := by unfold isCb; rw [h5]
end
section
/-! the class's Pad: the place, how many numbers, the numbers -/
def pdM (C : MS) (q L : Nat) (w : Nat → Int32) : MS := mset (mset (mrow C 13 w) 10 4 (nI L)) 10 2 (nI q)
section PD
variable {C : MS} {q q' L L' : Nat} {w w' : Nat → Int32}
theorem pdM_13 : pdM C q L w 13 = w := by
  unfold pdM; rw [mset_ne _ (by decide), mset_ne _ (by decide), mrow_s]
theorem pdM_ne {a : Nat} (h : a ≠ 10) (h2 : a ≠ 13) : pdM C q L w a = C a := by
  unfold pdM; rw [mset_ne _ h, mset_ne _ h, mrow_n _ h2]
theorem pdM_q : pdM C q L w 10 2 = nI q := by unfold pdM; exact mset_eq _ _ _ _
theorem pdM_L : pdM C q L w 10 4 = nI L := by unfold pdM; rw [mset_nj _ (by decide)]; exact mset_eq _ _ _ _
theorem pdM_o {j : Nat} (h : j ≠ 2) (h4 : j ≠ 4) : pdM C q L w 10 j = C 10 j := by
  unfold pdM; rw [mset_nj _ h, mset_nj _ h4, mrow_n _ (by decide)]
theorem pdM_pdM : pdM (pdM C q L w) q' L' w' = pdM C q' L' w' := by
  funext a b
  by_cases h : a = 10
  · subst h
    by_cases h2 : b = 2
    · subst h2; rw [pdM_q, pdM_q]
    · by_cases h4 : b = 4
      · subst h4; rw [pdM_L, pdM_L]
      · rw [pdM_o h2 h4, pdM_o h2 h4, pdM_o h2 h4]
  · by_cases h2 : a = 13
    · subst h2; rw [pdM_13, pdM_13]
    · rw [pdM_ne h h2, pdM_ne h h2, pdM_ne h h2]
theorem pdM_tk : mset (pdM C q L w) 10 2 (nI q') = pdM C q' L w := by unfold pdM; rw [mset_mset]
theorem pdM_id (h2 : C 10 2 = nI q) (h4 : C 10 4 = nI L) : pdM C q L (C 13) = C := by
  unfold pdM; rw [mrow_self, mset_id h4, mset_id h2]
theorem pdM_add {x : Int32} : mset (mset (mset C 10 2 (nI q)) 13 L x) 10 4 (nI L') = pdM C q L' (upd (C 13) L x) := by
  funext a b
  by_cases h : a = 10
  · subst h
    by_cases h2 : b = 2
    · subst h2; rw [pdM_q, mset_nj _ (by decide), mset_nk _ (by decide), mset_eq]
    · by_cases h4 : b = 4
      · subst h4; rw [pdM_L, mset_eq]
      · rw [pdM_o h2 h4, mset_nj _ h4, mset_nk _ (by decide), mset_nj _ h2]
  · by_cases h2 : a = 13
    · subst h2; rw [pdM_13, mset_ne _ (by decide), mset_row, mset_ne _ (by decide)]
    · rw [pdM_ne h h2, mset_ne _ h, mset_ne _ h2, mset_ne _ h]
end PD
def rC (t : Nat → Int32) (len u q n : Nat) (w : Nat → Int32) : Bool × Nat × Nat × (Nat → Int32) :=
  match rN t len q with
  | none => (false, q, n, w)
  | some v => rB t len u v.2 (n + 1) (upd w n v.1)
def chOk (t : Nat → Int32) (len : Nat) : Prop := ∀ j, j < len → ∃ n, n < 128 ∧ t j = nI n
theorem nar_ch {t : Nat → Int32} {len p : Nat} (h : chOk t len) (hp : p < len) : narrow .char (.int (t p)) = .int (t p) := by
  obtain ⟨n, hn, e⟩ := h p hp
  rw [e]
  exact (show ∀ n, n < 128 → narrow .char (.int (nI n)) = .int (nI n) from by decide +kernel) n hn
theorem nxB_eq {t : Nat → Int32} {len p : Nat} {lo hi : Int32} (hlo : ¬ lo ≤ 0) : nxB t len p lo hi = inB (chr t len p) lo hi := by
  by_cases h : p < len
  · unfold nxB; rw [chr_in h]; simp [h]
  · rw [chr_out (by omega)]
    unfold nxB inB
    have : (0 : Int32) < lo := Int32.not_le.mp hlo
    simp [h, this]
end
section
/-! orders as the class's Pad reads them -/
theorem chr_lt {t : Nat → Int32} {len p : Nat} {x : Int32} (h : chr t len p = x) (hx : x ≠ 0) : p < len := by
  rcases Nat.lt_or_ge p len with z | z
  · exact z
  · exact absurd ((chr_out z).symm.trans h).symm hx
theorem inB_self (x : Int32) : inB x x x = true := by rw [inB_t]; exact ⟨fun z => Int32.lt_irrefl z, fun z => Int32.lt_irrefl z⟩
theorem inB_eq {x y : Int32} (h : inB x y y = true) : x = y := by
  rw [inB_t, Int32.not_lt, Int32.not_lt] at h
  exact Int32.le_antisymm h.2 h.1
theorem inB_yes {x y : Int32} (h : x = y) : inB x y y = true := by rw [h]; exact inB_self y
theorem inB_no {x y : Int32} (h : ¬ x = y) : inB x y y = false := by
  cases e : inB x y y
  · rfl
  · exact absurd (inB_eq e) h
theorem nxB_yes {t : Nat → Int32} {len p : Nat} {x : Int32} (h : chr t len p = x) (hx : ¬ x ≤ 0) : nxB t len p x x = true := by rw [nxB_eq hx]; exact inB_yes h
theorem nxB_no {t : Nat → Int32} {len p : Nat} {x : Int32} (h : ¬ chr t len p = x) (hx : ¬ x ≤ 0) : nxB t len p x x = false := by rw [nxB_eq hx]; exact inB_no h
theorem rC_no {t : Nat → Int32} {len u q n : Nat} {w : Nat → Int32} (h : rN t len q = none) : rC t len u q n w = (false, q, n, w) := by unfold rC; rw [h]
theorem rC_end {t : Nat → Int32} {len i q n p' : Nat} {w : Nat → Int32} {v : Int32} (h : rN t len q = some (v, p')) (h2 : ¬ chr t len p' = 44) : rC t len (40 - i) q n w = (true, p', n + 1, upd w n v) := by
  unfold rC; rw [h]
  show rB t len (40 - i) p' (n + 1) (upd w n v) = _
  have h3 := nxB_no h2 (by decide)
  cases e : 40 - i with
  | zero => rfl
  | succ u => unfold rB; rw [h3]; rfl
theorem rC_go {t : Nat → Int32} {len i q n p' : Nat} {w : Nat → Int32} {v : Int32} (hi : i < 40) (h : rN t len q = some (v, p')) (h2 : chr t len p' = 44) : rC t len (40 - i) q n w = rC t len (40 - (i + 1)) (p' + 1) (n + 1) (upd w n v) := by
  have h3 := nxB_yes h2 (by decide)
  rw [show 40 - i = (40 - (i + 1)) + 1 by omega]
  generalize 40 - (i + 1) = u
  conv => lhs; unfold rC; rw [h]
  show rB t len (u + 1) p' (n + 1) (upd w n v) = _
  unfold rB; rw [h3]; rfl
theorem rB_cong (t : Nat → Int32) (len : Nat) : ∀ (u p n : Nat) (w w2 : Nat → Int32), (∀ j, j < n → w j = w2 j) → (rB t len u p n w).1 = (rB t len u p n w2).1 ∧ (rB t len u p n w).2.1 = (rB t len u p n w2).2.1 ∧ (rB t len u p n w).2.2.1 = (rB t len u p n w2).2.2.1 ∧ ∀ j, j < (rB t len u p n w).2.2.1 → (rB t len u p n w).2.2.2 j = (rB t len u p n w2).2.2.2 j := by
  intro u
  induction u with
  | zero => intro p n w w2 h; exact ⟨rfl, rfl, rfl, h⟩
  | succ u ih =>
    intro p n w w2 h
    unfold rB
    split
    · cases e : rN t len (p + 1) with
      | none => exact ⟨rfl, rfl, rfl, h⟩
      | some v =>
        refine ih v.2 (n + 1) (upd w n v.1) (upd w2 n v.1) (fun j hj => ?_)
        by_cases z : j = n
        · subst z; rw [upd_self, upd_self]
        · rw [upd_ne z, upd_ne z]; exact h j (by omega)
    · exact ⟨rfl, rfl, rfl, h⟩
/-- what the row holds behind an order that was read well -/
def nmS (c : Int32) (R : (Int32 × Int32 × Int32) × Nat × (Nat → Int32)) (L : Nat) (w : Nat → Int32) : Prop :=
  (c = 43 → L = 3 ∧ w 0 = R.1.1 ∧ w 1 = R.1.2.1 ∧ w 2 = R.1.2.2) ∧ (c = 108 → L = 1 ∧ w 0 = R.1.1) ∧ (c = 116 → L = 1 ∧ w 0 = R.1.1) ∧ (c = 98 → L = R.2.1 ∧ ∀ j, j < L → w j = R.2.2 j)
def rdP (C C1 : MS) (len p0 : Nat) (r : Int32) : Prop := ∃ (L : Nat) (w : Nat → Int32), C1 = pdM (mset C 10 3 (chr (C 12) len p0)) (rO (C 12) len p0).2.1 L w ∧ L ≤ 40 ∧ (((rO (C 12) len p0).1 = true ∧ r = 1 ∧ nmS (chr (C 12) len p0) (rO (C 12) len p0).2.2 L w) ∨ ((rO (C 12) len p0).1 = false ∧ r = 0))
theorem rdP_no {C : MS} {len p0 q L : Nat} {w : Nat → Int32} {c : Int32} (hc : c = chr (C 12) len p0) (h : (rO (C 12) len p0).1 = false ∧ (rO (C 12) len p0).2.1 = q) (hL : L ≤ 40) : rdP C (pdM (mset C 10 3 c) q L w) len p0 0 := ⟨L, w, by rw [h.2, hc], hL, Or.inr ⟨h.1, rfl⟩⟩
theorem rdP_ok {C : MS} {len p0 q L : Nat} {w : Nat → Int32} {c : Int32} (hc : c = chr (C 12) len p0) (h : (rO (C 12) len p0).1 = true ∧ (rO (C 12) len p0).2.1 = q) (hL : L ≤ 40) (hn : nmS c (rO (C 12) len p0).2.2 L w) : rdP C (pdM (mset C 10 3 c) q L w) len p0 1 := ⟨L, w, by rw [h.2, hc], hL, Or.inl ⟨h.1, rfl, by rw [← hc]; exact hn⟩⟩
theorem rO_98 {t : Nat → Int32} {len p : Nat} (h : chr t len p = 98) (w0 : Nat → Int32) : (rO t len p).1 = (rC t len 40 (p + 1) 0 w0).1 ∧ (rO t len p).2.1 = (rC t len 40 (p + 1) 0 w0).2.1 ∧ ((rO t len p).1 = true → (rC t len 40 (p + 1) 0 w0).2.2.1 = (rO t len p).2.2.2.1 ∧ ∀ j, j < (rC t len 40 (p + 1) 0 w0).2.2.1 → (rC t len 40 (p + 1) 0 w0).2.2.2 j = (rO t len p).2.2.2.2 j) := by
  unfold rO rC
  simp only [h]
  cases e : rN t len (p + 1) with
  | none => exact ⟨rfl, rfl, fun z => by simp at z⟩
  | some v =>
    obtain ⟨a, b, c, d⟩ := rB_cong t len 40 v.2 1 (upd w0 0 v.1) (fun _ => v.1) (fun j hj => by rw [show j = 0 by omega, upd_self])
    exact ⟨a.symm, b.symm, fun _ => ⟨c, d⟩⟩
theorem pdM_k1 {C : MS} {q : Nat} {x : Int32} : mset (mset (mset C 10 2 (nI q)) 10 4 0) 10 3 x = pdM (mset C 10 3 x) q 0 (C 13) := by
  funext a b
  by_cases h : a = 10
  · subst h
    by_cases h2 : b = 2
    · subst h2; rw [pdM_q, mset_nj _ (by decide), mset_nj _ (by decide), mset_eq]
    · by_cases h4 : b = 4
      · subst h4; rw [pdM_L, mset_nj _ (by decide), mset_eq]; rfl
      · rw [pdM_o h2 h4]
        by_cases h3 : b = 3
        · subst h3; rw [mset_eq, mset_eq]
        · rw [mset_nj _ h3, mset_nj _ h4, mset_nj _ h2, mset_nj _ h3]
  · by_cases h2 : a = 13
    · subst h2; rw [pdM_13, mset_ne _ (by decide), mset_ne _ (by decide), mset_ne _ (by decide)]
    · rw [pdM_ne h h2, mset_ne _ h, mset_ne _ h, mset_ne _ h, mset_ne _ h]
theorem pdM_k2 {C : MS} {q : Nat} {x : Int32} (h : C 10 2 = nI q) : mset (mset C 10 4 0) 10 3 x = pdM (mset C 10 3 x) q 0 (C 13) := by
  conv => lhs; rw [show C = mset C 10 2 (nI q) from (mset_id h).symm]
  exact pdM_k1
/-- all but what reading writes -/
def Pf (C C1 : MS) : Prop := (∀ a, a ≠ 10 → a ≠ 13 → C1 a = C a) ∧ ∀ j, j ≠ 2 → j ≠ 3 → j ≠ 4 → C1 10 j = C 10 j
theorem Pf.rf (C : MS) : Pf C C := ⟨fun _ _ _ => rfl, fun _ _ _ _ => rfl⟩
theorem Pf.trans {A B D : MS} (h : Pf A B) (h2 : Pf B D) : Pf A D := ⟨fun a z y => (h2.1 a z y).trans (h.1 a z y), fun j a b c => (h2.2 j a b c).trans (h.2 j a b c)⟩
theorem Pf.pd {C : MS} {x : Int32} {q L : Nat} {w : Nat → Int32} : Pf C (pdM (mset C 10 3 x) q L w) := ⟨fun a h h2 => by rw [pdM_ne h h2, mset_ne _ h], fun j h h3 h4 => by rw [pdM_o h h4, mset_nj _ h3]⟩
theorem Pf.q {C : MS} {x : Int32} : Pf C (mset C 10 2 x) := ⟨fun a h _ => mset_ne _ h _ _, fun j h _ _ => mset_nj _ h _ _⟩
/-- what the reading finds that stands at p, "behind an order" if p is not 0 -/
def gS (t : Nat → Int32) (len u p : Nat) : Option Nat := if p = 0 then gF t len u 0 else if chr t len p = 59 then gF t len u (p + 1) else some p
theorem gS_no {t : Nat → Int32} {len u p : Nat} (h0 : 0 < p) (h : ¬ chr t len p = 59) : gS t len u p = some p := by unfold gS; rw [if_neg (by omega), if_neg h]
def p0of (t : Nat → Int32) (len p : Nat) : Nat := if p = 0 then 0 else p + 1
theorem gS_p0 {t : Nat → Int32} {len u p : Nat} (h : p = 0 ∨ (0 < p ∧ chr t len p = 59)) : gS t len u p = gF t len u (p0of t len p) := by
  unfold gS p0of
  rcases h with rfl | ⟨h, h2⟩
  · rw [if_pos rfl, if_pos rfl]
  · rw [if_neg (by omega), if_pos h2, if_neg (by omega)]
theorem gF_s {t : Nat → Int32} {len u p : Nat} (h : (rO t len p).1 = true) (h2 : (rO t len p).2.1 < len) (h3 : 0 < (rO t len p).2.1) : gF t len (u + 1) p = gS t len u (rO t len p).2.1 := by
  unfold gS
  rw [if_neg (by omega)]
  by_cases z : chr t len (rO t len p).2.1 = 59
  · rw [if_pos z, gF_go h h2 (inB_yes z)]
  · rw [if_neg z, gF_sep h h2 (inB_no z)]
theorem mulm1 (x : Int32) : x * (-1) = -x := by
  rw [Int32.mul_neg, Int32.mul_one]
end
section
/-! the class's reading, its history -/
def rdT (T : Nat → Int32) (C C1 : MS) (len p0 : Nat) (r : Int32) : Prop := ∃ (L : Nat) (w : Nat → Int32), C1 = pdM (mset C 10 3 (chr T len p0)) (rO T len p0).2.1 L w ∧ L ≤ 40 ∧ (((rO T len p0).1 = true ∧ r = 1 ∧ nmS (chr T len p0) (rO T len p0).2.2 L w) ∨ ((rO T len p0).1 = false ∧ r = 0))
theorem rdJ {C C1 : MS} {len pp : Nat} {r : Int32} {T : Nat → Int32} (hT : C 12 = T) (h : (0 < pp ∧ ¬ chr (C 12) len pp = 59 ∧ r = 0 ∧ C1 = C) ∨ (pp = 0 ∧ rdP C C1 len pp r) ∨ (0 < pp ∧ chr (C 12) len pp = 59 ∧ rdP C C1 len (pp + 1) r)) :
    (0 < pp ∧ ¬ chr T len pp = 59 ∧ r = 0 ∧ C1 = C) ∨ ((pp = 0 ∨ (0 < pp ∧ chr T len pp = 59)) ∧ rdT T C C1 len (p0of T len pp) r) := by
  subst hT
  rcases h with h | ⟨h, h2⟩ | ⟨h, h1, h2⟩
  · exact Or.inl h
  · refine Or.inr ⟨Or.inl h, ?_⟩
    subst h; exact h2
  · refine Or.inr ⟨Or.inr ⟨h, h1⟩, ?_⟩
    unfold p0of; rw [if_neg (by omega)]; exact h2
theorem p0of_le {t : Nat → Int32} {len p : Nat} (hp : p ≤ len) (h : p = 0 ∨ (0 < p ∧ chr t len p = 59)) : p0of t len p ≤ len ∧ p ≤ p0of t len p ∧ (0 < p → p0of t len p = p + 1) := by
  unfold p0of
  rcases h with rfl | ⟨h, h2⟩
  · rw [if_pos rfl]; omega
  · rw [if_neg (by omega)]
    have := chr_lt h2 (by decide)
    omega
def rtP (pi : Nat → Nat) (i : Nat) : Nat → Nat := fun j => if j < i then pi (j + 1) else pi j
theorem rtP_0 (pi : Nat → Nat) : rtP pi 0 = pi := by funext j; exact if_neg (by omega)
theorem rtP_s (pi : Nat → Nat) (i : Nat) : va_up (rtP pi i) i (rtP pi i (i + 1)) = rtP pi (i + 1) := by
  funext j
  unfold va_up rtP
  by_cases h : j = i
  · subst h; rw [if_pos rfl, if_neg (by omega), if_pos (by omega)]
  · rw [if_neg h]
    by_cases h2 : j < i
    · rw [if_pos h2, if_pos (by omega)]
    · rw [if_neg h2, if_neg (by omega)]
def rot (pi : Nat → Nat) : Nat → Nat := va_up (rtP pi 6) 6 (pi 0)
/-- the history's places hold the States 1 to 7 -/
def piOk (pi : Nat → Nat) : Prop := (∀ j, j < 7 → 1 ≤ pi j ∧ pi j ≤ 7) ∧ ∀ i j, i < 7 → j < 7 → pi i = pi j → i = j
theorem rtP_lt {pi : Nat → Nat} (h : piOk pi) (i j : Nat) (hi : i < 6) (hj : j < 7) : rtP pi i j < 10 := by
  unfold rtP
  split
  · have := h.1 (j + 1) (by omega); omega
  · have := h.1 j hj; omega
theorem rot_e {pi : Nat → Nat} {j : Nat} (hj : j < 7) : rot pi j = if j = 6 then pi 0 else pi (j + 1) := by
  unfold rot va_up rtP
  by_cases h : j = 6
  · rw [if_pos h, if_pos h]
  · rw [if_neg h, if_neg h, if_pos (by omega)]
theorem rot_ok {pi : Nat → Nat} (h : piOk pi) : piOk (rot pi) := by
  refine ⟨fun j hj => ?_, fun i j hi hj e => ?_⟩
  · rw [rot_e hj]; split
    · exact h.1 0 (by decide)
    · exact h.1 (j + 1) (by omega)
  · rw [rot_e hi, rot_e hj] at e
    split at e
    · split at e
      · omega
      · have := h.2 0 (j + 1) (by decide) (by omega) e; omega
    · split at e
      · have := h.2 (i + 1) 0 (by omega) (by decide) e; omega
      · have := h.2 (i + 1) (j + 1) (by omega) (by omega) e; omega
def goOk (f : Nat → Int32) : Prop := ∀ c, c < 16 → f (12 + 8 * c + 6) = 0 ∨ f (12 + 8 * c + 6) = 1
/-- the table behind history.prepare(now) -/
def prM (C : MS) (pi : Nat → Nat) (d : Nat) : MS := mrow C (pi d) (cpS (C (pi d)) (C 0))
/-- a call that changes the state to F and answers r, as prepare, keptIfDone leave it -/
def opC (C : MS) (pi : Nat → Nat) (d : Nat) (F : Nat → Int32) (r : Int32) (C1 : MS) (pi1 : Nat → Nat) : Prop :=
  (0 ≤ r ∧ d < 6 ∧ C1 = mset (mrow (prM C pi d) 0 F) 10 0 (nI (d + 1)) ∧ pi1 = pi) ∨ (0 ≤ r ∧ ¬ d < 6 ∧ C1 = mrow (prM C pi d) 0 F ∧ pi1 = rot pi) ∨ (¬ 0 ≤ r ∧ C1 = mrow (prM C pi d) 0 F ∧ pi1 = pi)
end
section
/-! the class's public methods -/
def gdB (f w : Nat → Int32) : Nat → Bool
  | 0 => true
  | n + 1 => gdB f w n && isCb f (w n)
theorem gdB_t (f w : Nat → Int32) (n : Nat) : gdB f w n = true ↔ gdN f w n := by
  induction n with
  | zero => exact ⟨fun _ i h => absurd h (Nat.not_lt_zero _), fun _ => rfl⟩
  | succ n ih =>
    unfold gdB
    rw [Bool.and_eq_true, ih]
    exact ⟨fun h => gdN_s h.1 h.2, fun h => ⟨fun i hi => h i (by omega), h n (by omega)⟩⟩
def bwR (f w : Nat → Int32) (L : Nat) : Int32 := if gdB f w L = true then moN f w L else -1
def bwF (f w : Nat → Int32) (L : Nat) : Nat → Int32 := if gdB f w L = true then (if 0 ≤ moN f w L then upd (wbN f w L) 7 (f 7 + moN f w L) else f) else f
theorem prM_ne {C : MS} {pi : Nat → Nat} {d a : Nat} (h : a ≠ pi d) : prM C pi d a = C a := mrow_n _ h _
theorem Int32.nlt_le {x : Int32} (h : ¬ x < 0) : 0 ≤ x := Int32.not_lt.mp h
theorem Int32.lt_nle {x : Int32} (h : x < 0) : ¬ 0 ≤ x := Int32.not_le.mpr h
theorem lofR_in {f : Nat → Int32} (w : Wk f) {i : Nat} (h : i < ln f) : lofR f (nI i) = f (8 + i) := by
  have := w.2.2.2
  have e : inB (nI i) 0 (f 6 - 1) = true := by
    rw [w.2.2.1, show (1 : Int32) = nI 1 from rfl, pk_sub (by omega), inB_t]
    exact ⟨nI_pos (by omega), fun z => by have := (nI_ltI (by omega) (by omega)).mp z; omega⟩
  unfold lofR
  rw [if_pos e, ix_nI (by omega)]
theorem lofR_no {f : Nat → Int32} (w : Wk f) {x : Int32} (h : ¬ ∃ i, i < ln f ∧ x = nI i) : lofR f x = -1 := by
  unfold lofR
  rw [if_neg (fun z => h (lof_iff w z))]
def rwM (C : MS) (L : Nat) (w : Nat → Int32) : MS := mset (mrow C 14 w) 10 5 (nI L)
section RW0
variable {C : MS} {L L' : Nat} {w w' : Nat → Int32}
theorem rwM_5 : rwM C L w 10 5 = nI L := mset_eq _ _ _ _
theorem rwM_14 : rwM C L w 14 = w := by unfold rwM; rw [mset_ne _ (by decide), mrow_s]
theorem rwM_ne {a : Nat} (h : a ≠ 10) (h2 : a ≠ 14) : rwM C L w a = C a := by unfold rwM; rw [mset_ne _ h, mrow_n _ h2]
theorem rwM_o {j : Nat} (h : j ≠ 5) : rwM C L w 10 j = C 10 j := by unfold rwM; rw [mset_nj _ h, mrow_n _ (by decide)]
theorem rwM_add {x : Int32} : mset (mset (rwM C L w) 14 L x) 10 5 (nI L') = rwM C L' (upd w L x) := by
  funext a b
  by_cases h : a = 10
  · subst h
    by_cases h2 : b = 5
    · subst h2; rw [rwM_5, mset_eq]
    · rw [rwM_o h2, mset_nj _ h2, mset_nk _ (by decide), rwM_o h2]
  · by_cases h2 : a = 14
    · subst h2; rw [rwM_14, mset_ne _ (by decide), mset_row, rwM_14]
    · rw [rwM_ne h h2, mset_ne _ h, mset_ne _ h2, rwM_ne h h2]
theorem rwM_0 : mset C 10 5 0 = rwM C 0 (C 14) := by unfold rwM; rw [mrow_self]; rfl
end RW0
def chL (x : Int32) : Nat → Nat
  | 0 => 0
  | c + 1 => if (x >>> (nI c &&& 31)) &&& 1 = 1 then chL x c + 1 else chL x c
def chW (w : Nat → Int32) (x : Int32) : Nat → Nat → Int32
  | 0 => w
  | c + 1 => if (x >>> (nI c &&& 31)) &&& 1 = 1 then upd (chW w x c) (chL x c) (nI c) else chW w x c
theorem chL_le (x : Int32) (c : Nat) : chL x c ≤ c := by
  induction c with
  | zero => exact Nat.le_refl _
  | succ c ih => unfold chL; split <;> omega
theorem chW_ok (w : Nat → Int32) (x : Int32) (c : Nat) : ∀ j, j < chL x c → ∃ i, i < c ∧ chW w x c j = nI i := by
  induction c with
  | zero => intro j h; exact absurd h (Nat.not_lt_zero _)
  | succ c ih =>
    intro j hj
    unfold chW
    unfold chL at hj
    split at hj
    · next h =>
      rw [if_pos h]
      by_cases e : j = chL x c
      · subst e; exact ⟨c, by omega, upd_self⟩
      · rw [upd_ne e]; obtain ⟨i, a, b⟩ := ih j (by omega); exact ⟨i, by omega, b⟩
    · next h =>
      rw [if_neg h]
      obtain ⟨i, a, b⟩ := ih j hj; exact ⟨i, by omega, b⟩
theorem chW_gd {f : Nat → Int32} (hW : Wk f) (w : Nat → Int32) (x : Int32) : gdN f (chW w x (cn f)) (chL x (cn f)) := fun j hj => by
  obtain ⟨i, hi, e⟩ := chW_ok w x (cn f) j hj
  rw [e]; exact isCb_t hW ⟨hi, rfl⟩
def neC (f : Nat → Int32) (n : Nat) (x : Int32) : Nat → Int32
  | 0 => -1
  | k + 1 => if nI (raN f (n - (k + 1)) n) = x then nI (n - (k + 1)) else neC f n x k
theorem neC_out {f : Nat → Int32} {x : Int32} (hW : Wk f) (h : x < 0 ∨ ¬ x < nI (cn f)) : neC f (cn f) x (cn f) = -1 := by
  have h16 := hW.2.1
  have key : ∀ k, k ≤ cn f → neC f (cn f) x k = -1 := by
    intro k
    induction k with
    | zero => intro _; rfl
    | succ k ih =>
      intro hk
      unfold neC
      have hr := raN_lt f (cn f - (k + 1)) (cn f) (by omega)
      rw [if_neg, ih (by omega)]
      intro e
      rw [← e] at h
      rcases h with h | h
      · exact absurd ((nI_ltI (a := raN f (cn f - (k + 1)) (cn f)) (b := 0) (by omega) (by decide)).mp h) (Nat.not_lt_zero _)
      · exact h ((nI_ltI (by omega) (by omega)).mpr hr)
  exact key _ (Nat.le_refl _)
def lfC (f : Nat → Int32) : Int32 := if ln f < 4 then (if ruN f (cn f) = 0 then -6 else ruN f (cn f)) else -4
def cntC (f : Nat → Int32) (len kn : Int32) (w : Int32) : Int32 :=
  if w = 0 then f 4 else if w = 1 then f 5 else if w = 2 then f 6 else if w = 3 then stC f (cn f) else if w = 4 then nI (ofN f (cn f)) else if w = 5 then nI (cwN f (cn f)) else if w = 6 then f 7 else if w = 7 then twN f (cn f)
  else if w = 8 then f 0 else if w = 9 then f 1 else if w = 10 then f 2 else if w = 11 then f 3 else if w = 12 then len else if w = 13 then kn else -2
end
section
/-! turning round; slots -/
theorem trN_e (w : Nat → Int32) (L : Nat) : ∀ i, i ≤ L / 2 → ∀ j, j < L → trN w L i j = if j < i ∨ L - 1 - j < i then w (L - 1 - j) else w j := by
  intro i
  induction i with
  | zero => intro _ j hj; rw [if_neg (by omega)]; rfl
  | succ i ih =>
    intro hi j hj
    unfold trN
    rw [ih (by omega) (L - 1 - i) (by omega), ih (by omega) i (by omega), if_neg (by omega), if_neg (by omega)]
    by_cases h1 : j = L - 1 - i
    · subst h1
      rw [upd_self, if_pos (by omega), show L - 1 - (L - 1 - i) = i by omega]
    · rw [upd_ne h1]
      by_cases h2 : j = i
      · subst h2; rw [upd_self, if_pos (by omega)]
      · rw [upd_ne h2, ih (by omega) j hj]
        by_cases h3 : j < i ∨ L - 1 - j < i
        · rw [if_pos h3, if_pos (by omega)]
        · rw [if_neg h3, if_neg (by omega)]
theorem trN_rev (w : Nat → Int32) (L : Nat) {j : Nat} (hj : j < L) : trN w L (L / 2) j = w (L - 1 - j) := by
  rw [trN_e w L _ (Nat.le_refl _) j hj]
  split
  · rfl
  · rw [show L - 1 - j = j by omega]
theorem trN_gd {f w : Nat → Int32} {L : Nat} (h : gdN f w L) : gdN f (trN w L (L / 2)) L := fun j hj => by
  rw [trN_rev w L hj]; exact h _ (by omega)
theorem rwM_mrow {C : MS} {L : Nat} {w w' : Nat → Int32} : mrow (rwM C L w) 14 w' = rwM C L w' := by
  funext a b
  by_cases h2 : a = 14
  · subst h2; rw [mrow_s, rwM_14]
  · rw [mrow_n _ h2]
    by_cases h : a = 10
    · subst h
      by_cases h5 : b = 5
      · subst h5; rw [rwM_5, rwM_5]
      · rw [rwM_o h5, rwM_o h5]
    · rw [rwM_ne h h2, rwM_ne h h2]
def wayC (a b : Int32) : Int32 := if a = b then 2 else if b ≤ a then 1 else 0
theorem inB01_t {x : Int32} (h : ¬ x < 0) (h2 : ¬ 2 ≤ x) : inB x 0 1 = true := by
  rw [inB_t]; refine ⟨h, fun z => h2 ?_⟩
  have : (1 : Int32).toInt < x.toInt := Int32.lt_iff_toInt_lt.mp z
  rw [Int32.le_iff_toInt_le]
  rw [show (1 : Int32).toInt = 1 from by decide] at this
  rw [show (2 : Int32).toInt = 2 from by decide]; omega
theorem inB01_f1 {x : Int32} (h : x < 0) : inB x 0 1 = false := by rw [inB_f]; exact fun z => z.1 h
theorem inB01_f2 {x : Int32} (h : 2 ≤ x) : inB x 0 1 = false := by
  rw [inB_f]; intro z; apply z.2
  have := Int32.le_iff_toInt_le.mp h
  rw [show (2 : Int32).toInt = 2 from by decide] at this
  rw [Int32.lt_iff_toInt_lt, show (1 : Int32).toInt = 1 from by decide]; omega
theorem cpS_5 (f h : Nat → Int32) : cpS f h 5 = nI (cn h) := by
  unfold cpS; rw [upd_ne (by decide), upd_ne (by decide), upd_ne (by decide), upd_self]
theorem chK_eq (x : Int64) (k : Nat) : (shK x k).toInt32 &&& 255 = chK x k := by
  unfold chK; rw [Int64.toInt32_and]; rfl
/-- how many signs the class finds in the number: from place i on, u places more -/
def siN (x : Int64) : Nat → Nat → Nat
  | 0, i => i
  | u + 1, i => if chK x i = 0 then (if lg_cmp (shK x i) 0 = 0 then i else 0) else if chK x i < 33 then 0 else if chK x i ≤ 126 then siN x u (i + 1) else 0
theorem siN_le (x : Int64) : ∀ u i, siN x u i ≤ i + u := by
  intro u
  induction u with
  | zero => intro i; exact Nat.le_refl _
  | succ u ih =>
    intro i; unfold siN
    split
    · split <;> omega
    · split
      · omega
      · split
        · have := ih (i + 1); omega
        · omega
theorem siN_ok (x : Int64) : ∀ u i, ∀ k, i ≤ k → k < siN x u i → inB (chK x k) 33 126 = true := by
  intro u
  induction u with
  | zero => intro i k h1 h2; exact absurd h2 (by show ¬ k < i; omega)
  | succ u ih =>
    intro i k h1 h2
    unfold siN at h2
    split at h2
    · split at h2 <;> omega
    · split at h2
      · omega
      · next h4 =>
        split at h2
        · next h5 =>
          by_cases e : k = i
          · subst e; rw [inB_t]; exact ⟨h4, Int32.not_lt.mpr h5⟩
          · exact ih (i + 1) k (by omega) h2
        · omega
theorem inB_sm {x : Int32} (h : inB x 33 126 = true) : ∃ n, n < 128 ∧ x = nI n := by
  obtain ⟨h1, h2⟩ := inB_t.mp h
  have h0 : ¬ x < 0 := fun z => h1 (by
    rw [Int32.lt_iff_toInt_lt] at z ⊢
    rw [show (0 : Int32).toInt = 0 from by decide] at z
    rw [show (33 : Int32).toInt = 33 from by decide]; omega)
  obtain ⟨n, hn, e⟩ := nI_of h0
  refine ⟨n, ?_, e⟩
  rw [e] at h2
  exact Nat.lt_of_not_le fun z => h2 ((nI_ltI (a := 126) (b := n) (by decide) hn).mpr (by omega))
theorem vpn_ch {x : Int32} (h : inB x 33 126 = true) : vp_nar .char x = x := by
  obtain ⟨n, hn, e⟩ := inB_sm h
  rw [e]; exact (show ∀ n, n < 128 → vp_nar .char (nI n) = nI n from by decide +kernel) n hn
theorem i2c_ch {x : Int32} (h : inB x 33 126 = true) : (x.toUInt32 % 65536).toInt32 = x := by
  obtain ⟨n, hn, e⟩ := inB_sm h
  rw [e]; exact (show ∀ n, n < 128 → ((nI n).toUInt32 % 65536).toInt32 = nI n from by decide +kernel) n hn
def sgM (C : MS) (L : Nat) (w : Nat → Int32) : MS := mset (mrow C 12 w) 10 1 (nI L)
section SG0
variable {C : MS} {L L' : Nat} {w w' : Nat → Int32}
theorem sgM_1 : sgM C L w 10 1 = nI L := mset_eq _ _ _ _
theorem sgM_12 : sgM C L w 12 = w := by unfold sgM; rw [mset_ne _ (by decide), mrow_s]
theorem sgM_ne {a : Nat} (h : a ≠ 10) (h2 : a ≠ 12) : sgM C L w a = C a := by unfold sgM; rw [mset_ne _ h, mrow_n _ h2]
theorem sgM_o {j : Nat} (h : j ≠ 1) : sgM C L w 10 j = C 10 j := by unfold sgM; rw [mset_nj _ h, mrow_n _ (by decide)]
theorem sgM_add {x : Int32} : mset (mset (sgM C L w) 12 L x) 10 1 (nI L') = sgM C L' (upd w L x) := by
  funext a b
  by_cases h : a = 10
  · subst h
    by_cases h2 : b = 1
    · subst h2; rw [sgM_1, mset_eq]
    · rw [sgM_o h2, mset_nj _ h2, mset_nk _ (by decide), sgM_o h2]
  · by_cases h2 : a = 12
    · subst h2; rw [sgM_12, mset_ne _ (by decide), mset_row, sgM_12]
    · rw [sgM_ne h h2, mset_ne _ h, mset_ne _ h2, sgM_ne h h2]
theorem sgM_id (h : C 10 1 = nI L) : sgM C L (C 12) = C := by unfold sgM; rw [mrow_self, mset_id h]
end SG0
/-- the signs when m of the n are put -/
def ptP (b : Nat → Int32) (x : Int64) (L n : Nat) : Nat → Nat → Int32
  | 0 => b
  | m + 1 => upd (ptP b x L n m) (L + m) (chK x (n - m - 1))
theorem jm1_lt {j : Nat} (h : j < 2 ^ 30) : nI j - 1 < 0 ↔ j = 0 := by
  constructor
  · intro z
    cases j with
    | zero => rfl
    | succ j => rw [show (1 : Int32) = nI 1 from rfl, pk_sub (by omega)] at z; exact absurd z (nI_pos (by omega))
  · rintro rfl; decide
def c1R (f : Nat → Int32) (c : Int32) (w : Nat → Int32) (L : Nat) : Int32 := if c = 43 then acR f (atR w L 0) (atR w L 1) (atR w L 2) else if c = 97 then ccR f 1 else if c = 98 then bwR f w L else if c = 108 then alR f (atR w L 0) else if c = 115 then ccR f 0 else if c = 116 then psR f (atR w L 0) else -3
def c1F (f : Nat → Int32) (c : Int32) (w : Nat → Int32) (L : Nat) : Nat → Int32 := if c = 43 then acF f (atR w L 0) (atR w L 1) (atR w L 2) else if c = 97 then ccF f 1 else if c = 98 then bwF f w L else if c = 108 then alF f (atR w L 0) else if c = 115 then ccF f 0 else if c = 116 then psF f (atR w L 0) else f
/-! orders carried out -/
def oneR (f : Nat → Int32) (c : Int32) (R : (Int32 × Int32 × Int32) × Nat × (Nat → Int32)) : Int32 := if c = 43 then acR f R.1.1 R.1.2.1 R.1.2.2 else if c = 97 then ccR f 1 else if c = 98 then bwR f R.2.2 R.2.1 else if c = 108 then alR f R.1.1 else if c = 115 then ccR f 0 else if c = 116 then psR f R.1.1 else -3
def oneF (f : Nat → Int32) (c : Int32) (R : (Int32 × Int32 × Int32) × Nat × (Nat → Int32)) : Nat → Int32 := if c = 43 then acF f R.1.1 R.1.2.1 R.1.2.2 else if c = 97 then ccF f 1 else if c = 98 then bwF f R.2.2 R.2.1 else if c = 108 then alF f R.1.1 else if c = 115 then ccF f 0 else if c = 116 then psF f R.1.1 else f
theorem hrN_cong {f w w2 : Nat → Int32} : ∀ n, (∀ j, j < n → w j = w2 j) → hrN f w n = hrN f w2 n := by
  intro n
  cases n with
  | zero => intro _; rfl
  | succ n => intro h; show f (12 + 8 * ix (w n) + 0) = f (12 + 8 * ix (w2 n) + 0); rw [h n (by omega)]
theorem caN_cong {f w w2 : Nat → Int32} : ∀ n, (∀ j, j < n → w j = w2 j) → caN f w n = caN f w2 n := by
  intro n
  induction n with
  | zero => intro _; rfl
  | succ n ih => intro h; unfold caN ndN; rw [h n (by omega), ih (fun j hj => h j (by omega))]
theorem spN_cong {f w w2 : Nat → Int32} : ∀ n, (∀ j, j < n → w j = w2 j) → spN f w n = spN f w2 n := by
  intro n
  induction n with
  | zero => intro _; rfl
  | succ n ih => intro h; unfold spN ndN; rw [h n (by omega), ih (fun j hj => h j (by omega)), caN_cong n (fun j hj => h j (by omega)), hrN_cong n (fun j hj => h j (by omega))]
theorem wkN_cong {f w w2 : Nat → Int32} : ∀ n, (∀ j, j < n → w j = w2 j) → wkN f w n = wkN f w2 n := by
  intro n
  induction n with
  | zero => intro _; rfl
  | succ n ih => intro h; unfold wkN; rw [h n (by omega), ih (fun j hj => h j (by omega))]
theorem moN_cong {f w w2 : Nat → Int32} (n : Nat) (h : ∀ j, j < n → w j = w2 j) : moN f w n = moN f w2 n := by
  unfold moN; rw [spN_cong n h, hrN_cong n h, wkN_cong n h]
theorem gdB_cong {f w w2 : Nat → Int32} : ∀ n, (∀ j, j < n → w j = w2 j) → gdB f w n = gdB f w2 n := by
  intro n
  induction n with
  | zero => intro _; rfl
  | succ n ih => intro h; unfold gdB; rw [h n (by omega), ih (fun j hj => h j (by omega))]
theorem wbN_cong {f w w2 : Nat → Int32} : ∀ n, (∀ j, j < n → w j = w2 j) → wbN f w n = wbN f w2 n := by
  intro n
  induction n with
  | zero => intro _; rfl
  | succ n ih => intro h; unfold wbN; rw [h n (by omega), ih (fun j hj => h j (by omega))]
theorem bw_cong {f w w2 : Nat → Int32} {n : Nat} (h : ∀ j, j < n → w j = w2 j) : bwR f w n = bwR f w2 n ∧ bwF f w n = bwF f w2 n := by
  unfold bwR bwF; rw [moN_cong n h, gdB_cong n h, wbN_cong n h]; exact ⟨rfl, rfl⟩
theorem c1_one {f : Nat → Int32} {c : Int32} {w : Nat → Int32} {L : Nat} {R : (Int32 × Int32 × Int32) × Nat × (Nat → Int32)} (h : nmS c R L w) : c1R f c w L = oneR f c R ∧ c1F f c w L = oneF f c R := by
  obtain ⟨h1, h2, h3, h4⟩ := h
  unfold c1R c1F oneR oneF
  by_cases e : c = 43
  · obtain ⟨a, b, d, g⟩ := h1 e
    subst a
    rw [if_pos e, if_pos e, if_pos e, if_pos e, show (0 : Int32) = nI 0 from rfl, show (1 : Int32) = nI 1 from rfl, show (2 : Int32) = nI 2 from rfl, atR_in (by decide) (by decide), atR_in (by decide) (by decide), atR_in (by decide) (by decide), b, d, g]
    exact ⟨rfl, rfl⟩
  rw [if_neg e, if_neg e, if_neg e, if_neg e]
  by_cases e : c = 97
  · rw [if_pos e, if_pos e, if_pos e, if_pos e]; exact ⟨rfl, rfl⟩
  rw [if_neg e, if_neg e, if_neg e, if_neg e]
  by_cases e : c = 98
  · obtain ⟨a, b⟩ := h4 e
    rw [if_pos e, if_pos e, if_pos e, if_pos e, ← a]
    exact bw_cong b
  rw [if_neg e, if_neg e, if_neg e, if_neg e]
  by_cases e : c = 108
  · obtain ⟨a, b⟩ := h2 e
    subst a
    rw [if_pos e, if_pos e, if_pos e, if_pos e, show (0 : Int32) = nI 0 from rfl, atR_in (by decide) (by decide), b]; exact ⟨rfl, rfl⟩
  rw [if_neg e, if_neg e, if_neg e, if_neg e]
  by_cases e : c = 115
  · rw [if_pos e, if_pos e, if_pos e, if_pos e]; exact ⟨rfl, rfl⟩
  rw [if_neg e, if_neg e, if_neg e, if_neg e]
  by_cases e : c = 116
  · obtain ⟨a, b⟩ := h3 e
    subst a
    rw [if_pos e, if_pos e, if_pos e, if_pos e, show (0 : Int32) = nI 0 from rfl, atR_in (by decide) (by decide), b]; exact ⟨rfl, rfl⟩
  rw [if_neg e, if_neg e, if_neg e, if_neg e]; exact ⟨rfl, rfl⟩
/-- the orders from p on, as the class carries them out: how many; the state then -/
def ccO (T : Nat → Int32) (len : Nat) : Nat → Nat → (Nat → Int32) → Nat × (Nat → Int32)
  | 0, _, f => (0, f)
  | u + 1, p, f =>
    if 0 < p ∧ ¬ chr T len p = 59 then (0, f)
    else if (rO T len (p0of T len p)).1 = true then
      (if oneR f (chr T len (p0of T len p)) (rO T len (p0of T len p)).2.2 < 0 then (0, oneF f (chr T len (p0of T len p)) (rO T len (p0of T len p)).2.2)
       else ((ccO T len u (rO T len (p0of T len p)).2.1 (oneF f (chr T len (p0of T len p)) (rO T len (p0of T len p)).2.2)).1 + 1, (ccO T len u (rO T len (p0of T len p)).2.1 (oneF f (chr T len (p0of T len p)) (rO T len (p0of T len p)).2.2)).2))
    else (0, f)
/-- all but the state and what reading writes -/
def Pg (C C1 : MS) : Prop := (∀ a, a ≠ 0 → a ≠ 10 → a ≠ 13 → C1 a = C a) ∧ ∀ j, j ≠ 2 → j ≠ 3 → j ≠ 4 → C1 10 j = C 10 j
theorem Pf.pg {C C1 : MS} (h : Pf C C1) : Pg C C1 := ⟨fun a _ x y => h.1 a x y, h.2⟩
theorem Pg.trans {A B D : MS} (h : Pg A B) (h2 : Pg B D) : Pg A D := ⟨fun a x z y => (h2.1 a x z y).trans (h.1 a x z y), fun j a b c => (h2.2 j a b c).trans (h.2 j a b c)⟩
theorem Pg.row {C : MS} {f : Nat → Int32} : Pg C (mrow C 0 f) := ⟨fun a h _ _ => mrow_n _ h _, fun j _ _ _ => by rw [mrow_n _ (by decide)]⟩
theorem ptP_ok {b : Nat → Int32} {x : Int64} {L n : Nat} : ∀ m, m ≤ n → ∀ j, ptP b x L n m j = if L ≤ j ∧ j < L + m then chK x (n - (j - L) - 1) else b j := by
  intro m
  induction m with
  | zero => intro _ j; rw [if_neg (by omega)]; rfl
  | succ m ih =>
    intro hm j
    unfold ptP
    by_cases h : j = L + m
    · subst h; rw [upd_self, if_pos (by omega), show L + m - L = m by omega]
    · rw [upd_ne h, ih (by omega) j]
      by_cases h2 : L ≤ j ∧ j < L + m
      · rw [if_pos h2, if_pos (by omega)]
      · rw [if_neg h2, if_neg (by omega)]
end
section
/-! carrying out -/
section CO
variable {T : Nat → Int32} {len u p : Nat} {f : Nat → Int32}
theorem ccO_no1 (h0 : 0 < p) (h : ¬ chr T len p = 59) : ccO T len u p f = (0, f) := by
  cases u with
  | zero => rfl
  | succ u => unfold ccO; rw [if_pos ⟨h0, h⟩]
theorem ccO_no2 (hz : p = 0 ∨ (0 < p ∧ chr T len p = 59)) (hR : (rO T len (p0of T len p)).1 = false) : ccO T len u p f = (0, f) := by
  cases u with
  | zero => rfl
  | succ u =>
    unfold ccO
    rw [if_neg (fun z => by rcases hz with h | h; omega; exact z.2 h.2), if_neg (by rw [hR]; decide)]
theorem ccO_no3 (hz : p = 0 ∨ (0 < p ∧ chr T len p = 59)) (hR : (rO T len (p0of T len p)).1 = true) (hr : ¬ 0 ≤ oneR f (chr T len (p0of T len p)) (rO T len (p0of T len p)).2.2) : ccO T len (u + 1) p f = (0, oneF f (chr T len (p0of T len p)) (rO T len (p0of T len p)).2.2) := by
  unfold ccO
  rw [if_neg (fun z => by rcases hz with h | h; omega; exact z.2 h.2), if_pos hR, if_pos (Int32.not_le.mp hr)]
theorem ccO_go (hz : p = 0 ∨ (0 < p ∧ chr T len p = 59)) (hR : (rO T len (p0of T len p)).1 = true) (hr : 0 ≤ oneR f (chr T len (p0of T len p)) (rO T len (p0of T len p)).2.2) : ccO T len (u + 1) p f = ((ccO T len u (rO T len (p0of T len p)).2.1 (oneF f (chr T len (p0of T len p)) (rO T len (p0of T len p)).2.2)).1 + 1, (ccO T len u (rO T len (p0of T len p)).2.1 (oneF f (chr T len (p0of T len p)) (rO T len (p0of T len p)).2.2)).2) := by
  conv => lhs; unfold ccO
  rw [if_neg (fun z => by rcases hz with h | h; omega; exact z.2 h.2), if_pos hR, if_neg (Int32.not_lt.mpr hr)]
end CO
theorem ccO_le (T : Nat → Int32) (len : Nat) : ∀ u p f, (ccO T len u p f).1 ≤ u := by
  intro u
  induction u with
  | zero => intro p f; exact Nat.le_refl _
  | succ u ih =>
    intro p f
    unfold ccO
    split
    · exact Nat.zero_le _
    · split
      · split
        · exact Nat.zero_le _
        · have := ih (rO T len (p0of T len p)).2.1 (oneF f (chr T len (p0of T len p)) (rO T len (p0of T len p)).2.2)
          show _ + 1 ≤ u + 1; omega
      · exact Nat.zero_le _
/-- what the orders carried out leave -/
def coC (C : MS) (pi : Nat → Nat) (d : Nat) (F : Nat → Int32) (C1 : MS) (pi1 : Nat → Nat) : Prop :=
  C1 0 = F ∧ C1 (pi d) = cpS (C (pi d)) (C 0) ∧ (∀ a, a ≠ 0 → a ≠ 10 → a ≠ 13 → a ≠ pi d → C1 a = C a) ∧ C1 10 1 = 0 ∧ C1 10 0 = nI (if d < 6 then d + 1 else d) ∧ pi1 = (if d < 6 then pi else rot pi)
end
section
/-! the relation, first: a row of the class is the reference's row on the clocks that there are, and anything behind them -/
def Mx (n : Nat) (h f : Nat → Int32) : Nat → Int32 := fun j => if j < 12 + 8 * n then h j else f j
section MX
variable {n : Nat} {h f : Nat → Int32}
theorem Mx_in {j : Nat} (hj : j < 12 + 8 * n) : Mx n h f j = h j := if_pos hj
theorem Mx_out {j : Nat} (hj : ¬ j < 12 + 8 * n) : Mx n h f j = f j := if_neg hj
theorem Mx_upd {j : Nat} {x : Int32} (hj : j < 12 + 8 * n) : upd (Mx n h f) j x = Mx n (upd h j x) f := by
  funext k
  by_cases e : k = j
  · subst e; rw [upd_self, Mx_in hj, upd_self]
  · rw [upd_ne e]
    by_cases hk : k < 12 + 8 * n
    · rw [Mx_in hk, Mx_in hk, upd_ne e]
    · rw [Mx_out hk, Mx_out hk]
theorem Mx_Mx {h' : Nat → Int32} : Mx n h (Mx n h' f) = Mx n h f := by
  funext k
  by_cases hk : k < 12 + 8 * n
  · rw [Mx_in hk, Mx_in hk]
  · rw [Mx_out hk, Mx_out hk, Mx_out hk]
theorem Mx_self : Mx n h h = h := by
  funext k
  by_cases hk : k < 12 + 8 * n
  · rw [Mx_in hk]
  · rw [Mx_out hk]
theorem Mx_of (e : ∀ j, j < 12 + 8 * n → f j = h j) : f = Mx n h f := by
  funext k
  by_cases hk : k < 12 + 8 * n
  · rw [Mx_in hk, e k hk]
  · rw [Mx_out hk]
theorem rt_Mx {c : Nat} (hc : c < n) : rt (Mx n h f) c = rt h c := by
  unfold rt; rw [Mx_in (by omega), Mx_in (by omega)]
theorem offB_Mx {c : Nat} (hc : c < n) (t : Int32) : offB (Mx n h f) c t = offB h c t := by
  unfold offB; rw [Mx_in (by omega)]
theorem ladP_Mx (r : Int32) : ∀ k, k ≤ 4 → ladP (Mx n h f) r k = ladP h r k := by
  intro k
  induction k with
  | zero => intro _; rfl
  | succ k ih =>
    intro hk
    unfold ladP
    rw [ih (by omega)]
    cases e : ladP h r k with
    | none => simp only [Mx_in (n := n) (h := h) (f := f) (show 8 + k < 12 + 8 * n by omega)]
    | some j =>
      have hj := ladP_lt h r k j e
      simp only [Mx_in (n := n) (h := h) (f := f) (show 8 + k < 12 + 8 * n by omega), Mx_in (n := n) (h := h) (f := f) (show 8 + j < 12 + 8 * n by omega)]
theorem ln_Mx : ln (Mx n h f) = ln h := by unfold ln; rw [Mx_in (by omega)]
theorem cn_Mx : cn (Mx n h f) = cn h := by unfold cn; rw [Mx_in (by omega)]
theorem Wk_Mx (w : Wk h) : Wk (Mx n h f) := w.low (Mx_in (by omega)) (Mx_in (by omega))
theorem ladF_Mx {c : Nat} (hc : c < n) (hl : ln h ≤ 4) : ladF (Mx n h f) c = ladF h c := by
  unfold ladF; rw [ln_Mx, ladP_Mx _ _ hl, Mx_in (by omega)]
theorem canW_Mx {c : Nat} (hc : c < n) (hl : ln h ≤ 4) : canW (Mx n h f) c = canW h c := by
  unfold canW; rw [ladF_Mx hc hl, Mx_in (by omega)]
theorem isCb_Mx (x : Int32) : isCb (Mx n h f) x = isCb h x := by unfold isCb; rw [Mx_in (by omega)]
end MX
theorem upd_comm {f : Nat → Int32} {a b : Nat} {x y : Int32} (h : a ≠ b) : upd (upd f a x) b y = upd (upd f b y) a x := by
  funext k
  by_cases e : k = b
  · subst e; rw [upd_self, upd_ne (Ne.symm h), upd_self]
  · rw [upd_ne e]
    by_cases e2 : k = a
    · subst e2; rw [upd_self, upd_self]
    · rw [upd_ne e2, upd_ne e2, upd_ne e]
theorem upd_same {f : Nat → Int32} {k : Nat} {x : Int32} (h : f k = x) : upd f k x = f := by subst h; exact upd_id f k
/-! what the relation needs of the reference's row -/
def IvC (h : Nat → Int32) (D c : Nat) : Prop := (∃ a, a ≤ 99 ∧ h (12 + 8 * c + 0) = nI a) ∧ (∃ a, a ≤ 30 ∧ h (12 + 8 * c + 1) = nI a) ∧ inB (h (12 + 8 * c + 3)) (-20) 20 = true ∧ (∃ a, a ≤ D ∧ h (12 + 8 * c + 5) = nI a) ∧ (h (12 + 8 * c + 6) = 1 ∨ (h (12 + 8 * c + 6) = 0 ∧ h (12 + 8 * c + 4) = 43200))
def IvS (h : Nat → Int32) : Prop := (∃ a, 1 ≤ a ∧ a ≤ 999 ∧ h 0 = nI a) ∧ (∃ a, 1 ≤ a ∧ a ≤ 30 ∧ h 1 = nI a) ∧ (∃ a, 1 ≤ a ∧ a ≤ 30 ∧ h 2 = nI a) ∧ (∃ a, 1 ≤ a ∧ a ≤ 30 ∧ h 3 = nI a) ∧ ∀ j, j < ln h → ∃ a, 1 ≤ a ∧ a ≤ 30 ∧ h (8 + j) = nI a
def IvD (h : Nat → Int32) (D : Nat) : Prop := Wk h ∧ IvS h ∧ ∀ c, c < cn h → IvC h D c
def Iv (h : Nat → Int32) : Prop := ∃ D, D ≤ 9999 ∧ h 4 = nI D ∧ IvD h D
theorem Iv.W {h : Nat → Int32} (v : Iv h) : Wk h := by obtain ⟨D, _, _, w, _⟩ := v; exact w
theorem Iv.S {h : Nat → Int32} (v : Iv h) : IvS h := by obtain ⟨D, _, _, _, w, _⟩ := v; exact w
theorem IvC.congr {h h' : Nat → Int32} {D c : Nat} (v : IvC h D c) (e : ∀ w, w < 8 → h' (12 + 8 * c + w) = h (12 + 8 * c + w)) : IvC h' D c := by
  unfold IvC
  rw [e 0 (by decide), e 1 (by decide), e 3 (by decide), e 4 (by decide), e 5 (by decide), e 6 (by decide)]
  exact v
theorem IvS.congr {h h' : Nat → Int32} (v : IvS h) (w : ln h ≤ 4) (e : ∀ j, j < 12 → h' j = h j) : IvS h' := by
  unfold IvS
  rw [e 0 (by decide), e 1 (by decide), e 2 (by decide), e 3 (by decide), ln_low (e 6 (by decide))]
  refine ⟨v.1, v.2.1, v.2.2.1, v.2.2.2.1, fun j hj => ?_⟩
  rw [e (8 + j) (by omega)]; exact v.2.2.2.2 j hj
theorem Iv.congr {h h' : Nat → Int32} (v : Iv h) (e : ∀ j, j < 12 + 8 * cn h → h' j = h j) : Iv h' := by
  obtain ⟨D, hD, h4, W, S, c⟩ := v
  refine ⟨D, hD, by rw [e 4 (by omega)]; exact h4, W.low (e 5 (by omega)) (e 6 (by omega)), S.congr W.2.2.2 (fun j hj => e j (by omega)), fun k hk => ?_⟩
  rw [cn_low (e 5 (by omega))] at hk
  exact (c k hk).congr (fun w hw => e _ (by omega))
/-- a row of the class beside a row of the reference -/
def Ro (f h : Nat → Int32) : Prop := Iv h ∧ ∀ j, j < 12 + 8 * cn h → f j = h j
theorem Ro.mx {f h : Nat → Int32} (r : Ro f h) : f = Mx (cn h) h f := Mx_of r.2
theorem Ro.of {f h : Nat → Int32} (v : Iv h) (f0 : Nat → Int32) (e : f = Mx (cn h) h f0) : Ro f h := ⟨v, fun j hj => by rw [e, Mx_in hj]⟩
theorem Ro.congr {f f' h h' : Nat → Int32} (r : Ro f h) (e : ∀ j, j < 140 → h' j = h j) (e2 : ∀ j, j < 140 → f' j = f j) : Ro f' h' := by
  have hc := r.1.W.2.1
  refine ⟨r.1.congr (fun j hj => e j (by omega)), fun j hj => ?_⟩
  rw [cn_low (e 5 (by decide))] at hj
  rw [e j (by omega), e2 j (by omega)]; exact r.2 j hj
theorem Ro.W {f h : Nat → Int32} (r : Ro f h) : Wk f := by rw [r.mx]; exact Wk_Mx r.1.W
theorem Ro.ec {f h : Nat → Int32} (r : Ro f h) : cn f = cn h := cn_low (r.2 5 (by omega))
theorem Ro.L {f h : Nat → Int32} (r : Ro f h) : Lad f := by
  obtain ⟨⟨D, hD, h4, W, S, c⟩, e⟩ := r
  have l4 := W.2.2.2
  refine ⟨fun j hj => ?_, fun k hk => ?_⟩
  · rw [ln_low (e 6 (by omega))] at hj
    obtain ⟨a, h1, h2, h3⟩ := S.2.2.2.2 j hj
    rw [e (8 + j) (by omega), h3, show (31 : Int32) = nI 31 from rfl, nI_leI (by decide) (by omega)]; omega
  · rw [cn_low (e 5 (by omega))] at hk
    obtain ⟨a, h2, h3⟩ := (c k hk).2.1
    rw [e _ (by omega), h3, show (0 : Int32) = nI 0 from rfl, nI_leI (by decide) (by omega)]; omega
theorem Ro.T {f h : Nat → Int32} (r : Ro f h) : Tm f := by
  obtain ⟨⟨D, hD, h4, W, S, c⟩, e⟩ := r
  refine ⟨?_, fun k hk => ?_⟩
  · obtain ⟨a, h1, h2, h3⟩ := S.2.1
    rw [e 1 (by omega), h3, ix_nI (by omega)]; exact ⟨rfl, h2⟩
  · rw [cn_low (e 5 (by omega))] at hk
    obtain ⟨a, h2, h3⟩ := (c k hk).2.2.2.1
    rw [e _ (by omega), h3, ix_nI (by omega)]; exact ⟨rfl, by omega⟩
theorem goOk_Mx {f h : Nat → Int32} (v : Iv h) (g : goOk f) : goOk (Mx (cn h) h f) := by
  obtain ⟨D, hD, h4, W, S, c⟩ := v
  intro k hk
  by_cases z : k < cn h
  · rw [Mx_in (by omega)]
    rcases (c k z).2.2.2.2 with h1 | h1
    · exact Or.inr h1
    · exact Or.inl h1.1
  · rw [Mx_out (by omega)]; exact g k hk
/-! copying a State -/
theorem cpK_e (f h : Nat → Int32) : ∀ n j, cpK f h n j = if 12 ≤ j ∧ j < 12 + 8 * n then h j else f j := by
  intro n
  induction n with
  | zero => intro j; rw [if_neg (by omega)]; rfl
  | succ n ih =>
    intro j
    unfold cpK cpyC
    by_cases h1 : 12 + 8 * n ≤ j ∧ j < 12 + 8 * n + 8
    · rw [if_pos (by omega)]
      obtain ⟨w, hw, rfl⟩ : ∃ w, w < 8 ∧ j = 12 + 8 * n + w := ⟨j - (12 + 8 * n), by omega, by omega⟩
      rcases (show w = 0 ∨ w = 1 ∨ w = 2 ∨ w = 3 ∨ w = 4 ∨ w = 5 ∨ w = 6 ∨ w = 7 by omega) with rfl | rfl | rfl | rfl | rfl | rfl | rfl | rfl <;> simp [upd]
    · have e : ∀ w, w < 8 → j ≠ 12 + 8 * n + w := fun w hw => by omega
      rw [upd_ne (e 6 (by decide)), upd_ne (e 7 (by decide)), upd_ne (e 5 (by decide)), upd_ne (e 4 (by decide)), upd_ne (e 3 (by decide)), upd_ne (e 2 (by decide)), upd_ne (e 1 (by decide)), upd_ne (e 0 (by decide)), ih]
      by_cases h2 : 12 ≤ j ∧ j < 12 + 8 * n
      · rw [if_pos h2, if_pos (by omega)]
      · rw [if_neg h2, if_neg (by omega)]
theorem cpS_Mx {f g : Nat → Int32} (w : Wk g) : cpS f g = Mx (cn g) g f := by
  funext j
  unfold cpS
  by_cases h7 : j = 7
  · subst h7; rw [upd_self, Mx_in (by omega)]
  rw [upd_ne h7]
  by_cases h4 : j = 4
  · subst h4; rw [upd_self, Mx_in (by omega)]
  rw [upd_ne h4]
  by_cases h6 : j = 6
  · subst h6; rw [upd_self, Mx_in (by omega)]
  rw [upd_ne h6]
  by_cases h5 : j = 5
  · subst h5; rw [upd_self, Mx_in (by omega)]; exact w.1.symm
  rw [upd_ne h5, cpK_e]
  by_cases h1 : 12 ≤ j ∧ j < 12 + 8 * cn g
  · rw [if_pos h1, Mx_in h1.2]
  rw [if_neg h1]
  by_cases h2 : j < 12 + 8 * cn g
  · rw [Mx_in h2]
    unfold laS stS
    by_cases h3 : 8 ≤ j ∧ j < 12
    · rw [if_pos h3]
    · rw [if_neg h3, if_pos (by omega)]
  · rw [Mx_out h2]
    unfold laS stS
    rw [if_neg (by omega), if_neg (by omega)]
theorem Ro.cpd {g h : Nat → Int32} (r : Ro g h) (f : Nat → Int32) : Ro (cpS f g) h := by
  rw [cpS_Mx r.W, r.ec]
  refine ⟨r.1, fun j hj => ?_⟩
  rw [Mx_in hj]; exact r.2 j hj
theorem goOk_cpS {g h f : Nat → Int32} (r : Ro g h) (k : goOk f) : goOk (cpS f g) := by
  rw [cpS_Mx r.W, r.ec]
  have e : Mx (cn h) g f = Mx (cn h) h f := by
    funext j
    by_cases z : j < 12 + 8 * cn h
    · rw [Mx_in z, Mx_in z]; exact r.2 j z
    · rw [Mx_out z, Mx_out z]
  rw [e]; exact goOk_Mx r.1 k
end
section
/-! the relation, second: what the changes do, on either side -/
def GoO (h : Nat → Int32) (c : Nat) : Prop := h (12 + 8 * c + 6) = 1 ∨ (h (12 + 8 * c + 6) = 0 ∧ h (12 + 8 * c + 4) = 43200)
theorem IvC.go {h : Nat → Int32} {D c : Nat} (v : IvC h D c) : GoO h c := v.2.2.2.2
section R2
variable {n c : Nat} {h f : Nat → Int32}
theorem dayC_Mx (hc : c < n) (wd : Int32) : dayC (Mx n h f) c wd = Mx n (dayC h c wd) f := by
  unfold dayC
  rw [rt_Mx hc, Mx_in (show 12 + 8 * c + 6 < 12 + 8 * n by omega), Mx_in (show 12 + 8 * c + 5 < 12 + 8 * n by omega), Mx_in (show 12 + 8 * c + 4 < 12 + 8 * n by omega)]
  by_cases h1 : h (12 + 8 * c + 6) = 0
  · rw [if_pos h1, if_pos h1]
    by_cases h2 : h (12 + 8 * c + 5) + 1 ≤ wd
    · rw [if_pos h2, if_pos h2, Mx_upd (by omega)]
    · rw [if_neg h2, if_neg h2, Mx_upd (by omega), Mx_upd (by omega), Mx_upd (by omega)]
  · rw [if_neg h1, if_neg h1]
    by_cases h2 : h (12 + 8 * c + 5) + 1 ≤ wd
    · rw [if_pos h2, if_pos h2, Mx_upd (by omega), Mx_upd (by omega)]
    · rw [if_neg h2, if_neg h2, Mx_upd (by omega), Mx_upd (by omega), Mx_upd (by omega), Mx_upd (by omega)]
theorem dayC_M (g : GoO h c) : dayC h c (h 1) = dayM h c := by
  unfold dayC dayM
  rcases g with g | ⟨g, g4⟩
  · rw [if_neg (by rw [g]; decide), if_pos g]
    by_cases h2 : h (12 + 8 * c + 5) + 1 ≤ h 1
    · rw [if_pos h2, if_neg (fun z => z h2), upd_comm (by omega)]
    · rw [if_neg h2, if_pos h2]
      rw [upd_comm (f := h) (a := 12 + 8 * c + 4) (b := 12 + 8 * c + 5) (by omega)]
  · rw [if_pos g, if_neg (show ¬ h (12 + 8 * c + 6) = 1 by rw [g]; decide)]
    by_cases h2 : h (12 + 8 * c + 5) + 1 ≤ h 1
    · rw [if_pos h2]
    · rw [if_neg h2, upd_same (f := upd h (12 + 8 * c + 5) _) (k := 12 + 8 * c + 6) (by rw [upd_ne (by omega)]; exact g), upd_same (by rw [upd_ne (by omega)]; exact g4)]
/-- another clock's places, and a clock's places that a day leaves -/
theorem dayM_ot {c' w : Nat} (hw : w < 8) (hne : c' ≠ c) : dayM h c (12 + 8 * c' + w) = h (12 + 8 * c' + w) := by
  have a : ∀ v, v < 8 → 12 + 8 * c' + w ≠ 12 + 8 * c + v := fun v hv => by omega
  unfold dayM
  split
  · split
    · rw [upd_ne (a 4 (by decide)), upd_ne (a 6 (by decide)), upd_ne (a 4 (by decide)), upd_ne (a 5 (by decide))]
    · rw [upd_ne (a 4 (by decide)), upd_ne (a 5 (by decide))]
  · rw [upd_ne (a 5 (by decide))]
theorem dayM_st {w : Nat} (hw : w < 4 ∨ w = 7) : dayM h c (12 + 8 * c + w) = h (12 + 8 * c + w) := by
  unfold dayM
  split
  · split
    · rw [upd_ne (by omega), upd_ne (by omega), upd_ne (by omega), upd_ne (by omega)]
    · rw [upd_ne (by omega), upd_ne (by omega)]
  · rw [upd_ne (by omega)]
theorem dayM_5 : dayM h c (12 + 8 * c + 5) = h (12 + 8 * c + 5) + 1 := by
  unfold dayM
  split
  · split
    · rw [upd_ne (by omega), upd_ne (by omega), upd_ne (by omega), upd_self]
    · rw [upd_ne (by omega), upd_self]
  · rw [upd_self]
theorem dayM_go (g : GoO h c) : GoO (dayM h c) c := by
  unfold GoO dayM
  rcases g with g | ⟨g, g4⟩
  · rw [if_pos g]
    split
    · exact Or.inr ⟨by rw [upd_ne (by omega), upd_self], by rw [upd_self]⟩
    · exact Or.inl (by rw [upd_ne (by omega), upd_ne (by omega)]; exact g)
  · rw [if_neg (by rw [g]; decide)]
    exact Or.inr ⟨by rw [upd_ne (by omega)]; exact g, by rw [upd_ne (by omega)]; exact g4⟩
theorem dayM_IvC {D : Nat} (v : IvC h D c) : IvC (dayM h c) (D + 1) c := by
  obtain ⟨v0, v1, v3, ⟨a, ha, v5⟩, v6⟩ := v
  refine ⟨by rw [dayM_st (by omega)]; exact v0, by rw [dayM_st (by omega)]; exact v1, by rw [dayM_st (by omega)]; exact v3, ⟨a + 1, by omega, by rw [dayM_5, v5]; exact nI_1 a⟩, dayM_go v6⟩
theorem dayAll_ot (k : Nat) {c' w : Nat} (hw : w < 8) (hk : k ≤ c') : dayAll h k (12 + 8 * c' + w) = h (12 + 8 * c' + w) := by
  induction k with
  | zero => rfl
  | succ k ih => unfold dayAll; rw [dayM_ot hw (by omega)]; exact ih (by omega)
theorem dayAll_IvC {D : Nat} (k : Nat) (v : ∀ c, c < n → IvC h D c) (hk : k ≤ n) : ∀ c, c < n → IvC (dayAll h k) (if c < k then D + 1 else D) c := by
  induction k with
  | zero => intro c hc; rw [if_neg (by omega)]; exact v c hc
  | succ k ih =>
    intro c hc
    have i1 := ih (by omega) c hc
    unfold dayAll
    by_cases e : c = k
    · subst e
      rw [if_neg (by omega)] at i1
      rw [if_pos (by omega)]
      exact dayM_IvC i1
    · have i2 : IvC (dayM (dayAll h k) k) (if c < k then D + 1 else D) c := i1.congr (fun w hw => dayM_ot hw e)
      by_cases z : c < k
      · rw [if_pos z] at i2; rw [if_pos (by omega)]; exact i2
      · rw [if_neg z] at i2; rw [if_neg (by omega)]; exact i2
theorem dcA_Mx {D : Nat} (v : ∀ c, c < n → IvC h D c) : ∀ k, k ≤ n → dcA (Mx n h f) (h 1) k = Mx n (dayAll h k) f := by
  intro k
  induction k with
  | zero => intro _; rfl
  | succ k ih =>
    intro hk
    have g := (dayAll_IvC k v (by omega) k (by omega)).go
    unfold dcA dayAll
    rw [ih (by omega), dayC_Mx (by omega), ← dayAll_lo h k (show 1 < 12 by decide), dayC_M g]
theorem dcD_Mx {D : Nat} (W : Wk h) (v : ∀ c, c < cn h → IvC h D c) : ∀ d, (dcD (Mx (cn h) h f) (h 1) (cn h) d = Mx (cn h) (passD h d) f) ∧ ∀ c, c < cn h → IvC (passD h d) (D + d) c := by
  intro d
  induction d with
  | zero => exact ⟨rfl, v⟩
  | succ d ih =>
    obtain ⟨i1, i2⟩ := ih
    refine ⟨?_, fun c hc => ?_⟩
    · unfold dcD passD
      rw [i1, ← passD_lo h d (show 1 < 12 by decide)]
      exact dcA_Mx i2 _ (Nat.le_refl _)
    · unfold passD
      have := dayAll_IvC (cn h) i2 (Nat.le_refl _) c hc
      rw [if_pos hc] at this
      exact this
/-! winding -/
theorem turC_Mx (hc : c < n) : turC (Mx n h f) c = Mx n (turC h c) f := by
  unfold turC
  rw [rt_Mx hc, Mx_in (show 12 + 8 * c + 3 < 12 + 8 * n by omega)]
  by_cases h1 : rt h c ≤ 0
  · rw [if_pos h1, if_pos h1]
    by_cases h2 : 0 ≤ rt h c
    · rw [if_pos h2, if_pos h2]
    · rw [if_neg h2, if_neg h2]
      by_cases h3 : 20 ≤ h (12 + 8 * c + 3)
      · rw [if_pos h3, if_pos h3]
      · rw [if_neg h3, if_neg h3, Mx_upd (by omega)]
  · rw [if_neg h1, if_neg h1]
    by_cases h4 : h (12 + 8 * c + 3) ≤ -20
    · rw [if_pos h4, if_pos h4]
      by_cases h2 : 0 ≤ rt h c
      · rw [if_pos h2, if_pos h2]
      · rw [if_neg h2, if_neg h2]
        by_cases h3 : 20 ≤ h (12 + 8 * c + 3)
        · rw [if_pos h3, if_pos h3]
        · rw [if_neg h3, if_neg h3, Mx_upd (by omega)]
    · rw [if_neg h4, if_neg h4, Mx_upd (by omega)]
theorem setC_Mx (hc : c < n) : setC (Mx n h f) c = Mx n (setC h c) f := by
  unfold setC
  rw [Mx_in (show 12 + 8 * c + 7 < 12 + 8 * n by omega), Mx_upd (by omega), Mx_upd (by omega), Mx_upd (by omega), Mx_upd (by omega)]
theorem winC_Mx (hc : c < n) (t : Int32) : winC (Mx n h f) c t = Mx n (winC h c t) f := by
  unfold winC
  rw [offB_Mx hc, turC_Mx hc, setC_Mx hc, setC_Mx hc, Mx_in (show 12 + 8 * c + 6 < 12 + 8 * n by omega)]
  by_cases h1 : h (12 + 8 * c + 6) = 0
  · rw [if_pos h1, if_pos h1]
  · rw [if_neg h1, if_neg h1]
    by_cases h2 : offB h c (t / 2) = true
    · rw [if_pos h2, if_pos h2]
    · rw [if_neg h2, if_neg h2]
theorem scr_ex {s : Int32} (hs : inB s (-20) 20 = true) : ∃ k, k < 41 ∧ s = nI k - 20 := by
  obtain ⟨h1, h2⟩ := inB_t.mp hs
  have e1 : ¬ s.toInt < -20 := fun z => h1 (Int32.lt_iff_toInt_lt.mpr (by rw [show (-20 : Int32).toInt = -20 from by decide]; exact z))
  have e2 : ¬ 20 < s.toInt := fun z => h2 (Int32.lt_iff_toInt_lt.mpr (by rw [show (20 : Int32).toInt = 20 from by decide]; exact z))
  refine ⟨(s.toInt + 20).toNat, by omega, Int32.toInt_inj.mp ?_⟩
  have := pk_sub_toInt (a := (s.toInt + 20).toNat) (b := 20) (by omega) (by omega)
  rw [show (20 : Int32) = nI 20 from rfl, this]
  omega
theorem scr_tab : ∀ k, k < 41 → (inB (nI k - 20 + 0) (-20) 20 = true) ∧ (inB (nI k - 20 + 1) (-20) 20 = !decide (20 ≤ nI k - 20)) ∧ (inB (nI k - 20 + -1) (-20) 20 = !decide (nI k - 20 ≤ -20)) ∧ nI k - 20 + 0 = nI k - 20 ∧ nI k - 20 - 1 = nI k - 20 + -1 := by decide +kernel
theorem turC_M (hs : inB (h (12 + 8 * c + 3)) (-20) 20 = true) : turC h c = upd h (12 + 8 * c + 3) (if inB (wkS h c) (-20) 20 = true then wkS h c else h (12 + 8 * c + 3)) := by
  obtain ⟨k, hk, e⟩ := scr_ex hs
  obtain ⟨t0, t1, t2, t3, t4⟩ := scr_tab k hk
  unfold turC wkS
  by_cases h1 : rt h c ≤ 0
  · rw [if_pos h1, if_neg (show ¬ ¬ rt h c ≤ 0 from fun z => z h1)]
    by_cases h2 : 0 ≤ rt h c
    · rw [if_pos h2, if_pos h2, e, if_pos t0, t3, ← e, upd_id]
    · rw [if_neg h2, if_neg h2, e, t1]
      by_cases h3 : 20 ≤ nI k - 20
      · rw [if_pos h3, if_neg (by simp [h3]), ← e, upd_id]
      · rw [if_neg h3, if_pos (by simp [h3])]
  · rw [if_neg h1, if_pos (show ¬ rt h c ≤ 0 from h1), e, t2]
    by_cases h4 : nI k - 20 ≤ -20
    · have h2 : 0 ≤ rt h c := by
        rw [Int32.le_iff_toInt_le] at h1 ⊢
        rw [show (0 : Int32).toInt = 0 from by decide] at h1 ⊢
        omega
      rw [if_pos h4, if_pos h2, if_neg (show ¬ (!decide (nI k - 20 ≤ -20)) = true by simp [h4]), ← e, upd_id]
    · rw [if_neg h4, if_pos (by simp [h4]), t4]
theorem workM_eq : workM h c = (let k := if h (12 + 8 * c + 6) = 1 ∧ ¬ jabs (h (12 + 8 * c + 4)) ≤ h 0 / 2 then upd h (12 + 8 * c + 3) (if inB (wkS h c) (-20) 20 = true then wkS h c else h (12 + 8 * c + 3)) else h
    upd (upd (upd (upd k (12 + 8 * c + 6) 1) (12 + 8 * c + 4) 0) (12 + 8 * c + 5) 0) (12 + 8 * c + 7) (h (12 + 8 * c + 7) + 1)) := rfl
theorem winC_M (g : GoO h c) (hs : inB (h (12 + 8 * c + 3)) (-20) 20 = true) : winC h c (h 0) = workM h c := by
  rw [workM_eq]
  have h7 : turC h c (12 + 8 * c + 7) = h (12 + 8 * c + 7) := by rw [turC_M hs, upd_ne (by omega)]
  unfold winC
  rcases g with g | ⟨g, g4⟩
  · rw [if_neg (by rw [g]; decide)]
    by_cases h2 : jabs (h (12 + 8 * c + 4)) ≤ h 0 / 2
    · rw [if_neg (by unfold offB; simp [h2])]
      simp only [g, h2, not_true_eq_false, and_false, if_false]
      rfl
    · rw [if_pos (by unfold offB; simp [h2])]
      simp only [g, h2, not_false_eq_true, and_true, if_true]
      unfold setC
      rw [h7, turC_M hs]
  · rw [if_pos g, if_neg (by rw [g]; simp)]
    rfl
theorem workM_ot {c' w : Nat} (hw : w < 8) (hne : c' ≠ c) : workM h c (12 + 8 * c' + w) = h (12 + 8 * c' + w) := by
  have a : ∀ v, v < 8 → 12 + 8 * c' + w ≠ 12 + 8 * c + v := fun v hv => by omega
  rw [workM_eq]
  dsimp only
  rw [upd_ne (a 7 (by decide)), upd_ne (a 5 (by decide)), upd_ne (a 4 (by decide)), upd_ne (a 6 (by decide))]
  split
  · rw [upd_ne (a 3 (by decide))]
  · rfl
theorem workM_IvC {D : Nat} (v : IvC h D c) : IvC (workM h c) D c := by
  obtain ⟨v0, v1, v3, v5, v6⟩ := v
  rw [workM_eq]
  dsimp only
  refine ⟨?_, ?_, ?_, ⟨0, Nat.zero_le _, ?_⟩, Or.inl ?_⟩
  · rw [upd_ne (by omega), upd_ne (by omega), upd_ne (by omega), upd_ne (by omega)]
    split
    · rw [upd_ne (by omega)]; exact v0
    · exact v0
  · rw [upd_ne (by omega), upd_ne (by omega), upd_ne (by omega), upd_ne (by omega)]
    split
    · rw [upd_ne (by omega)]; exact v1
    · exact v1
  · rw [upd_ne (by omega), upd_ne (by omega), upd_ne (by omega), upd_ne (by omega)]
    split
    · rw [upd_self]
      split
      · next z => exact z
      · exact v3
    · exact v3
  · rw [upd_ne (by omega), upd_self]; rfl
  · rw [upd_ne (by omega), upd_ne (by omega), upd_ne (by omega), upd_self]
end R2
end
section
/-! the relation, third: counts; what a change answers, and that it keeps the relation -/
section R3
variable {n c : Nat} {h f : Nat → Int32}
theorem stillN_e : ∀ k, (∀ c, c < k → GoO h c) → stillN h k = stC h k := by
  intro k
  induction k with
  | zero => intro _; rfl
  | succ k ih =>
    intro g
    unfold stillN stC
    rw [ih (fun c hc => g c (by omega))]
    rcases g k (by omega) with e | ⟨e, _⟩
    · rw [if_pos e, if_neg (by rw [e]; decide), Int32.or_zero]
    · rw [if_neg (show ¬ h (12 + 8 * k + 6) = 1 by rw [e]; decide), if_pos e]
/-- the set of clocks that stand still, as bits of a number -/
def stB (h : Nat → Int32) : Nat → Nat
  | 0 => 0
  | k + 1 => if h (12 + 8 * k + 6) = 0 then stB h k + 2 ^ k else stB h k
theorem stB_lt (h : Nat → Int32) : ∀ k, stB h k < 2 ^ k := by
  intro k
  induction k with
  | zero => exact Nat.one_pos
  | succ k ih => unfold stB; rw [Nat.pow_succ]; split <;> omega
theorem or_pow {a k : Nat} (ha : a < 2 ^ k) : a ||| 2 ^ k = a + 2 ^ k := by
  have := Nat.two_pow_add_eq_or_of_lt ha 1
  rw [Nat.mul_one] at this
  rw [Nat.or_comm, Nat.add_comm, this]
theorem sh_tab : ∀ k, k < 16 → (1 : Int32) <<< (nI k &&& 31) = nI (2 ^ k) := by decide +kernel
theorem nI_or {a b : Nat} (ha : a < 2 ^ 31) (hb : b < 2 ^ 31) : nI a ||| nI b = nI (a ||| b) := by
  unfold nI
  apply Int32.toBitVec_inj.mp
  rw [Int32.toBitVec_or]
  apply BitVec.eq_of_toNat_eq
  have hab : a ||| b < 2 ^ 31 := Nat.or_lt_two_pow ha hb
  rw [BitVec.toNat_or]
  have e : ∀ x : Nat, x < 2 ^ 31 → (Int32.ofNat x).toBitVec.toNat = x := fun x hx => by
    have := pk_tn (n := x) (by omega)
    exact this
  rw [e a ha, e b hb, e _ hab]
theorem stC_B : ∀ k, k ≤ 16 → stC h k = nI (stB h k) := by
  intro k
  induction k with
  | zero => intro _; rfl
  | succ k ih =>
    intro hk
    have hl := stB_lt h k
    have h16 : 2 ^ k ≤ 2 ^ 15 := Nat.pow_le_pow_right (by decide) (by omega)
    unfold stC stB
    rw [ih (by omega)]
    split
    · rw [sh_tab k (by omega), nI_or (by omega) (by omega), or_pow hl]
    · rfl
/-- how many bits there are -/
def popN (a : Nat) : Nat → Nat
  | 0 => 0
  | k + 1 => popN a k + a / 2 ^ k % 2
theorem popN_hi : ∀ k a m, k ≤ m → popN (a + 2 ^ m) k = popN a k := by
  intro k
  induction k with
  | zero => intro a m _; rfl
  | succ k ih =>
    intro a m hk
    unfold popN
    rw [ih a m (by omega)]
    obtain ⟨e, rfl⟩ : ∃ e, m = k + 1 + e := ⟨m - (k + 1), by omega⟩
    have h1 : (a + 2 ^ (k + 1 + e)) / 2 ^ k = a / 2 ^ k + 2 * 2 ^ e := by
      rw [show 2 ^ (k + 1 + e) = 2 ^ k * (2 * 2 ^ e) by rw [Nat.pow_add, Nat.pow_succ, Nat.mul_assoc]]
      exact Nat.add_mul_div_left _ _ (Nat.two_pow_pos k)
    rw [h1, Nat.add_mul_mod_self_left]
theorem popN_0 : ∀ k a, a < 2 ^ k → ∀ m, k ≤ m → popN a m = popN a k := by
  intro k a ha m hk
  induction m with
  | zero => rw [show k = 0 by omega]
  | succ m ih =>
    by_cases e : k = m + 1
    · rw [e]
    · show popN a m + a / 2 ^ m % 2 = _
      rw [ih (by omega), Nat.div_eq_of_lt (Nat.lt_of_lt_of_le ha (Nat.pow_le_pow_right (by decide) (by omega)))]; rfl
theorem popN_st : ∀ k, popN (stB h k) k = k - goN h k := by
  intro k
  induction k with
  | zero => rfl
  | succ k ih =>
    have hl := stB_lt h k
    have hg := goN_le h k
    unfold stB goN popN
    by_cases e : h (12 + 8 * k + 6) = 0
    · rw [if_pos e, if_pos e, popN_hi k _ k (Nat.le_refl _), ih, Nat.add_div_right _ (Nat.two_pow_pos k), Nat.div_eq_of_lt hl]
      omega
    · rw [if_neg e, if_neg e, ih, Nat.div_eq_of_lt hl]
      omega
theorem bit_tab {a k : Nat} (ha : a < 2 ^ 16) (hk : k < 16) : nI a >>> (nI k &&& 31) &&& 1 = nI (a / 2 ^ k % 2) := by
  rw [pk_shrN (n := a) (by omega) (nI k &&& 31) k ((show ∀ k, k < 16 → ((nI k &&& 31).toBitVec.smod 32).toNat = k from by decide +kernel) k hk)]
  have := pk_andN (n := a / 2 ^ k) (Nat.lt_of_le_of_lt (Nat.div_le_self _ _) (by omega)) (m := 1) 1 (by decide)
  exact this
theorem manyN_pop {a : Nat} (ha : a < 2 ^ 16) : ∀ k, k ≤ 16 → manyN (nI a) k = nI (popN a k) := by
  intro k
  induction k with
  | zero => intro _; rfl
  | succ k ih =>
    intro hk
    unfold manyN popN
    rw [ih (by omega), bit_tab ha (by omega), nI_add]
theorem stV_go (W : Wk h) (g : ∀ c, c < cn h → GoO h c) : stV h = nI (cn h - goN h (cn h)) := by
  have h16 := W.2.1
  have hl := stB_lt h (cn h)
  have hl16 : stB h (cn h) < 2 ^ 16 := Nat.lt_of_lt_of_le hl (Nat.pow_le_pow_right (by decide) h16)
  unfold stV
  rw [stillN_e _ g, stC_B _ h16, manyN_pop hl16 16 (Nat.le_refl _), popN_0 (cn h) _ hl 16 h16, popN_st]
theorem goN_Mx : ∀ k, k ≤ n → goN (Mx n h f) k = goN h k := by
  intro k
  induction k with
  | zero => intro _; rfl
  | succ k ih =>
    intro hk
    unfold goN
    rw [ih (by omega), Mx_in (by omega)]
theorem goN_congr {h' : Nat → Int32} : ∀ k, (∀ c, c < k → h' (12 + 8 * c + 6) = h (12 + 8 * c + 6)) → goN h' k = goN h k := by
  intro k
  induction k with
  | zero => intro _; rfl
  | succ k ih =>
    intro e
    unfold goN
    rw [ih (fun c hc => e c (by omega)), e k (by omega)]
/-! the night of the change -/
theorem chgA_ot (a : Int32) : ∀ k {c w : Nat}, w < 8 → w ≠ 4 → chgA h a k (12 + 8 * c + w) = h (12 + 8 * c + w) := by
  intro k
  induction k with
  | zero => intro c w _ _; rfl
  | succ k ih =>
    intro c w hw h4
    unfold chgA chg1
    rw [upd_ne (by omega)]; exact ih hw h4
theorem chgA_o4 (a : Int32) : ∀ k {c : Nat}, k ≤ c → chgA h a k (12 + 8 * c + 4) = h (12 + 8 * c + 4) := by
  intro k
  induction k with
  | zero => intro c _; rfl
  | succ k ih =>
    intro c hc
    unfold chgA chg1
    rw [upd_ne (by omega)]; exact ih (by omega)
theorem chC_Mx (a : Int32) : ∀ k, k ≤ n → chC (Mx n h f) (if a = 1 then -3600 else 3600) k = Mx n (chgA h a k) f := by
  intro k
  induction k with
  | zero => intro _; rfl
  | succ k ih =>
    intro hk
    unfold chC chgA chg1
    rw [ih (by omega), Mx_in (by omega), Mx_in (by omega)]
    by_cases e : chgA h a k (12 + 8 * k + 6) = 0
    · rw [if_pos e, if_pos e, Int32.add_zero, upd_id]
    · rw [if_neg e, if_neg e, Mx_upd (by omega)]
theorem chgA_st (a : Int32) : ∀ k, (∀ c, c < k → GoO h c) → ∀ c, c < k → GoO (chgA h a k) c := by
  intro k g c hc
  unfold GoO
  rw [chgA_ot a k (by decide) (by decide)]
  rcases g c hc with e | ⟨e, e4⟩
  · exact Or.inl e
  · refine Or.inr ⟨e, ?_⟩
    clear g hc
    induction k with
    | zero => exact e4
    | succ k ih =>
      unfold chgA chg1
      by_cases z : c = k
      · subst z
        rw [upd_self, show chgA h a c (12 + 8 * c + 6) = h (12 + 8 * c + 6) from chgA_ot a c (by decide) (by decide), if_pos e, Int32.add_zero]; exact ih
      · rw [upd_ne (by omega)]; exact ih
theorem chgA_Iv (a : Int32) (v : Iv h) : Iv (chgA h a (cn h)) := by
  obtain ⟨D, hD, h4, W, S, vc⟩ := v
  have lo := fun j (hj : j < 12) => chgA_lo h a (cn h) hj
  refine ⟨D, hD, by rw [lo 4 (by decide)]; exact h4, W.low (lo 5 (by decide)) (lo 6 (by decide)), S.congr W.2.2.2 lo, fun c hc => ?_⟩
  rw [cn_low (lo 5 (by decide))] at hc
  obtain ⟨v0, v1, v3, v5, v6⟩ := vc c hc
  have o := fun (w : Nat) (hw : w < 8) (h4 : w ≠ 4) => chgA_ot (h := h) a (cn h) (c := c) hw h4
  refine ⟨by rw [o 0 (by decide) (by decide)]; exact v0, by rw [o 1 (by decide) (by decide)]; exact v1, by rw [o 3 (by decide) (by decide)]; exact v3, by rw [o 5 (by decide) (by decide)]; exact v5, ?_⟩
  exact chgA_st a (cn h) (fun c hc => (vc c hc).go) c hc
end R3
end
section
/-! the relation, fourth: a change on either side -/
def Cg (f0 : Nat → Int32) (Rc : Int32) (F : Nat → Int32) (flt v : Int32) (f' : Nat → Int32) : Prop := (flt = 0 ∧ Rc = v ∧ 0 ≤ v ∧ Iv f' ∧ F = Mx (cn f') f' f0) ∨ (flt < 0 ∧ Rc = flt ∧ F = f0)
section R4
variable {f h : Nat → Int32}
theorem upd_Ro (r : Ro f h) {j : Nat} {x : Int32} (hj : j < 12 + 8 * cn h) : upd f j x = Mx (cn h) (upd h j x) f := by
  conv => lhs; rw [r.mx]
  exact Mx_upd hj
theorem Ro_lad (r : Ro f h) {c : Nat} (hc : c < cn h) : ladF f c = ladF h c := by rw [r.mx]; exact ladF_Mx hc r.1.W.2.2.2
theorem Ro_can (r : Ro f h) {c : Nat} (hc : c < cn h) : canW f c = canW h c := by rw [r.mx]; exact canW_Mx hc r.1.W.2.2.2
theorem Ro_isC (r : Ro f h) (x : Int32) : isCb f x = isCb h x := by rw [r.mx]; exact isCb_Mx x
theorem Ro_ln (r : Ro f h) : ln f = ln h := ln_low (r.2 6 (by omega))
theorem Iv_set {i : Nat} {x : Int32} (v : Iv h) (hi : i < 4) (hx : ∃ a, 1 ≤ a ∧ a ≤ (if i = 0 then 999 else 30) ∧ x = nI a) : Iv (upd h i x) := by
  obtain ⟨D, hD, h4, W, ⟨s0, s1, s2, s3, s4⟩, vc⟩ := v
  have e5 : upd h i x 5 = h 5 := upd_ne (by omega)
  have e6 : upd h i x 6 = h 6 := upd_ne (by omega)
  have l4 := W.2.2.2
  obtain ⟨a, a1, a2, rfl⟩ := hx
  refine ⟨D, hD, by rw [upd_ne (by omega)]; exact h4, W.low e5 e6, ⟨?_, ?_, ?_, ?_, fun j hj => ?_⟩, fun c hc => ?_⟩
  · by_cases z : i = 0
    · subst z; exact ⟨a, a1, a2, upd_self⟩
    · rw [upd_ne (by omega)]; exact s0
  · by_cases z : i = 1
    · subst z; exact ⟨a, a1, a2, upd_self⟩
    · rw [upd_ne (by omega)]; exact s1
  · by_cases z : i = 2
    · subst z; exact ⟨a, a1, a2, upd_self⟩
    · rw [upd_ne (by omega)]; exact s2
  · by_cases z : i = 3
    · subst z; exact ⟨a, a1, a2, upd_self⟩
    · rw [upd_ne (by omega)]; exact s3
  · rw [ln_low e6] at hj
    rw [upd_ne (by omega)]; exact s4 j hj
  · rw [cn_low e5] at hc
    exact (vc c hc).congr (fun w hw => upd_ne (by omega))
theorem Iv_get {i : Nat} (v : Iv h) (hi : i < 4) : ∃ a, a ≤ 999 ∧ h i = nI a := by
  obtain ⟨⟨a0, _, b0, c0⟩, ⟨a1, _, b1, c1⟩, ⟨a2, _, b2, c2⟩, ⟨a3, _, b3, c3⟩, _⟩ := v.S
  rcases (show i = 0 ∨ i = 1 ∨ i = 2 ∨ i = 3 by omega) with rfl | rfl | rfl | rfl
  · exact ⟨a0, b0, c0⟩
  · exact ⟨a1, by omega, c1⟩
  · exact ⟨a2, by omega, c2⟩
  · exact ⟨a3, by omega, c3⟩
theorem Cg_set (r : Ro f h) (x v : Int32) : Cg f (rsR f x v) (rsF f x v) (setE x v) (h (ix x)) (upd h (ix x) v) := by
  unfold rsR rsF setE
  by_cases hx : inB x 0 3 = true
  · rw [if_pos hx]
    obtain ⟨i, hi, rfl⟩ := inB_nI (n := 3) (by decide) hx
    have e : ix (nI i) = i := ix_nI (by omega)
    have h4 : ¬ (4 : Int32) ≤ nI i := fun z => by have := (nI_leI (a := 4) (b := i) (by decide) (by omega)).mp z; omega
    have hz : (nI i = 0) = (i = 0) := propext ⟨fun z => (nI_eq (a := i) (b := 0) (by omega) (by decide)).mp z, fun z => by rw [z]; rfl⟩
    rw [if_neg (nI_pos (by omega)), if_neg (nI_pos (by omega)), if_neg h4, if_neg h4, e]
    simp only [hz]
    by_cases hv : inB v 1 (if i = 0 then 999 else 30) = true
    · rw [if_pos hv, if_pos hv, if_pos hv]
      have hv2 : ∃ a, 1 ≤ a ∧ a ≤ (if i = 0 then 999 else 30) ∧ v = nI a := by
        by_cases z : i = 0
        · rw [if_pos z] at hv ⊢; exact inB1_nI (n := 999) (by decide) hv
        · rw [if_neg z] at hv ⊢; exact inB1_nI (n := 30) (by decide) hv
      obtain ⟨a, ha, ea⟩ := Iv_get r.1 (show i < 4 by omega)
      refine Or.inl ⟨rfl, r.2 i (by omega), by rw [ea]; exact nI_pos' (by omega), Iv_set r.1 (by omega) hv2, ?_⟩
      rw [cn_low (f := h) (h := upd h i v) (upd_ne (by omega))]
      exact upd_Ro r (by omega)
    · rw [if_neg hv, if_neg hv, if_neg hv]
      exact Or.inr ⟨by decide, rfl, rfl⟩
  · rw [if_neg hx]
    have : x < 0 ∨ 4 ≤ x := by
      by_cases z : x < 0
      · exact Or.inl z
      · refine Or.inr (Int32.not_lt.mp fun z4 => hx (inB_t.mpr ⟨z, fun z3 => ?_⟩))
        rw [Int32.lt_iff_toInt_lt] at z3 z4
        rw [show (4 : Int32).toInt = 4 from by decide] at z4
        rw [show (3 : Int32).toInt = 3 from by decide] at z3
        omega
    rcases this with z | z
    · rw [if_pos z, if_pos z]; exact Or.inr ⟨by decide, rfl, rfl⟩
    · by_cases z0 : x < 0
      · rw [if_pos z0, if_pos z0]; exact Or.inr ⟨by decide, rfl, rfl⟩
      · rw [if_neg z0, if_neg z0, if_pos z, if_pos z]; exact Or.inr ⟨by decide, rfl, rfl⟩
/-! a clock is hung -/
theorem newC_lo {n : Nat} {H U D : Int32} {j : Nat} (hj : j < 12 + 8 * n) (h5 : j ≠ 5) : newC h n H U D j = h j := by
  unfold newC
  rw [upd_ne h5, upd_ne (by omega), upd_ne (by omega), upd_ne (by omega), upd_ne (by omega)]
  exact if_neg (by omega)
theorem newC_5 {n : Nat} {H U D : Int32} : newC h n H U D 5 = nI (n + 1) := by unfold newC; exact upd_self
theorem newC_w {n : Nat} {H U D : Int32} {w : Nat} (hw : w < 8) : newC h n H U D (12 + 8 * n + w) = begC f n H U D (12 + 8 * n + w) := by
  have h5 : 12 + 8 * n + w ≠ 5 := by omega
  unfold newC begC
  rw [upd_ne h5]
  rcases (show w = 0 ∨ w = 1 ∨ w = 2 ∨ w = 3 ∨ w = 4 ∨ w = 5 ∨ w = 6 ∨ w = 7 by omega) with rfl | rfl | rfl | rfl | rfl | rfl | rfl | rfl <;> simp [upd]
theorem begC_out {n : Nat} {H U D : Int32} {j : Nat} (hj : ¬ (12 + 8 * n ≤ j ∧ j < 12 + 8 * n + 8)) : begC f n H U D j = f j := by
  unfold begC
  iterate 8 rw [upd_ne (by omega)]
theorem hang_Mx {n : Nat} {H U D : Int32} (e : ∀ j, j < 12 + 8 * n → f j = h j) : upd (begC f n H U D) 5 (nI (n + 1)) = Mx (n + 1) (newC h n H U D) f := by
  funext j
  by_cases h5 : j = 5
  · subst h5; rw [upd_self, Mx_in (by omega), newC_5]
  rw [upd_ne h5]
  by_cases h1 : j < 12 + 8 * n
  · rw [Mx_in (by omega), newC_lo h1 h5, begC_out (by omega), e j h1]
  by_cases h2 : j < 12 + 8 * n + 8
  · obtain ⟨w, hw, rfl⟩ : ∃ w, w < 8 ∧ j = 12 + 8 * n + w := ⟨j - (12 + 8 * n), by omega, by omega⟩
    rw [Mx_in (by omega), newC_w hw]
  · rw [Mx_out (by omega), begC_out (by omega)]
theorem newC_Iv {H U D : Int32} (v : Iv h) (hn : cn h < 16) (hH : inB H 0 99 = true) (hU : inB U 0 30 = true) : Iv (newC h (cn h) H U D) ∧ cn (newC h (cn h) H U D) = cn h + 1 := by
  obtain ⟨T, hD, h4, W, S, vc⟩ := v
  have c5 : cn (newC h (cn h) H U D) = cn h + 1 := by
    show (newC h (cn h) H U D 5).toNatClampNeg = _
    rw [newC_5]; exact nI_clamp (by omega)
  have e6 : newC h (cn h) H U D 6 = h 6 := newC_lo (by omega) (by decide)
  have l6 := ln_low e6
  refine ⟨⟨T, hD, by rw [newC_lo (by omega) (by decide)]; exact h4, ⟨by rw [newC_5, c5], by rw [c5]; omega, by rw [e6, l6]; exact W.2.2.1, by rw [l6]; exact W.2.2.2⟩, ?_, fun c hc => ?_⟩, c5⟩
  · unfold IvS
    rw [l6, newC_lo (by omega) (by decide), newC_lo (by omega) (by decide), newC_lo (by omega) (by decide), newC_lo (by omega) (by decide)]
    refine ⟨S.1, S.2.1, S.2.2.1, S.2.2.2.1, fun j hj => ?_⟩
    have := W.2.2.2
    rw [newC_lo (by omega) (by omega)]; exact S.2.2.2.2 j hj
  · rw [c5] at hc
    by_cases z : c < cn h
    · exact (vc c z).congr (fun w hw => newC_lo (by omega) (by omega))
    · rw [show c = cn h by omega]
      have g := fun (w : Nat) (hw : w < 8) => newC_w (f := h) (h := h) (n := cn h) (H := H) (U := U) (D := D) hw
      unfold IvC
      rw [g 0 (by decide), g 1 (by decide), g 3 (by decide), g 5 (by decide), g 6 (by decide)]
      obtain ⟨a, ha, ea⟩ := inB_nI (n := 99) (by decide) hH
      obtain ⟨b, hb, eb⟩ := inB_nI (n := 30) (by decide) hU
      refine ⟨⟨a, ha, ?_⟩, ⟨b, hb, ?_⟩, ?_, ⟨0, Nat.zero_le _, ?_⟩, Or.inl ?_⟩
      · rw [← ea]; simp [begC, upd]
      · rw [← eb]; simp [begC, upd]
      · simp [begC, upd, inB]
      · simp [begC, upd]; rfl
      · simp [begC, upd]
theorem Cg_hang (r : Ro f h) (H U D : Int32) : Cg f (acR f H U D) (acF f H U D) (hangR h H U D) (nI (cn h)) (newC h (cn h) H U D) := by
  have h16 := r.1.W.2.1
  unfold acR acF hangR
  rw [r.ec]
  by_cases h1 : inB H 0 99 = true
  · rw [if_pos h1, if_pos h1, if_pos h1]
    by_cases h2 : inB U 0 30 = true
    · rw [if_pos h2, if_pos h2, if_pos h2]
      by_cases h3 : inB D (-99) 99 = true
      · rw [if_pos h3, if_pos h3, if_pos h3]
        by_cases h4 : cn h < 16
        · rw [if_pos h4, if_pos h4, if_neg (by omega)]
          obtain ⟨v, c5⟩ := newC_Iv (D := D) r.1 h4 h1 h2
          refine Or.inl ⟨rfl, rfl, nI_pos' (by omega), v, ?_⟩
          rw [c5]; exact hang_Mx r.2
        · rw [if_neg h4, if_neg h4, if_pos (by omega)]; exact Or.inr ⟨by decide, rfl, rfl⟩
      · rw [if_neg h3, if_neg h3, if_neg h3]; exact Or.inr ⟨by decide, rfl, rfl⟩
    · rw [if_neg h2, if_neg h2, if_neg h2]; exact Or.inr ⟨by decide, rfl, rfl⟩
  · rw [if_neg h1, if_neg h1, if_neg h1]; exact Or.inr ⟨by decide, rfl, rfl⟩
/-! a ladder -/
theorem lad_Iv {u : Int32} (v : Iv h) (hl : ln h < 4) (hu : inB u 1 30 = true) : Iv (upd (upd h (8 + ln h) u) 6 (nI (ln h + 1))) ∧ cn (upd (upd h (8 + ln h) u) 6 (nI (ln h + 1))) = cn h := by
  obtain ⟨T, hD, h4, W, S, vc⟩ := v
  have o : ∀ j, j ≠ 6 → j ≠ 8 + ln h → upd (upd h (8 + ln h) u) 6 (nI (ln h + 1)) j = h j := fun j a b => by rw [upd_ne a, upd_ne b]
  have c5 := cn_low (o 5 (by decide) (by omega))
  have e6 : upd (upd h (8 + ln h) u) 6 (nI (ln h + 1)) 6 = nI (ln h + 1) := upd_self
  have l6 : ln (upd (upd h (8 + ln h) u) 6 (nI (ln h + 1))) = ln h + 1 := by
    show (upd (upd h (8 + ln h) u) 6 (nI (ln h + 1)) 6).toNatClampNeg = _
    rw [e6]; exact nI_clamp (by omega)
  refine ⟨⟨T, hD, by rw [o 4 (by decide) (by omega)]; exact h4, ⟨by rw [o 5 (by decide) (by omega), c5]; exact W.1, by rw [c5]; exact W.2.1, by rw [e6, l6], by rw [l6]; omega⟩, ?_, fun c hc => ?_⟩, c5⟩
  · unfold IvS
    rw [l6, o 0 (by decide) (by omega), o 1 (by decide) (by omega), o 2 (by decide) (by omega), o 3 (by decide) (by omega)]
    refine ⟨S.1, S.2.1, S.2.2.1, S.2.2.2.1, fun j hj => ?_⟩
    by_cases z : j = ln h
    · subst z
      rw [upd_ne (by omega), upd_self]
      exact inB1_nI (n := 30) (by decide) hu
    · rw [o (8 + j) (by omega) (by omega)]; exact S.2.2.2.2 j (by omega)
  · rw [c5] at hc
    exact (vc c hc).congr (fun w hw => o _ (by omega) (by omega))
theorem Cg_lad (r : Ro f h) (u : Int32) : Cg f (alR f u) (alF f u) (lddR h u) (nI (ln h)) (upd (upd h (8 + ln h) u) 6 (nI (ln h + 1))) := by
  have h4 := r.1.W.2.2.2
  unfold alR alF lddR
  rw [Ro_ln r]
  by_cases h1 : inB u 1 30 = true
  · rw [if_pos h1, if_pos h1, if_pos h1]
    by_cases h2 : ln h < 4
    · rw [if_pos h2, if_pos h2, if_neg (by omega)]
      obtain ⟨v, c5⟩ := lad_Iv r.1 h2 h1
      refine Or.inl ⟨rfl, rfl, nI_pos' (by omega), v, ?_⟩
      rw [c5, upd_Ro r (by omega), Mx_upd (by omega)]
    · rw [if_neg h2, if_neg h2, if_pos (by omega)]; exact Or.inr ⟨by decide, rfl, rfl⟩
  · rw [if_neg h1, if_neg h1, if_neg h1]; exact Or.inr ⟨by decide, rfl, rfl⟩
/-! a screw -/
theorem scr_Iv {i : Nat} {x : Int32} (v : Iv h) (hi : i < cn h) (hx : inB x (-20) 20 = true) : Iv (upd h (12 + 8 * i + 3) x) := by
  obtain ⟨T, hD, h4, W, S, vc⟩ := v
  have lo : ∀ j, j < 12 → upd h (12 + 8 * i + 3) x j = h j := fun j hj => upd_ne (by omega)
  refine ⟨T, hD, by rw [lo 4 (by decide)]; exact h4, W.low (lo 5 (by decide)) (lo 6 (by decide)), S.congr W.2.2.2 lo, fun c hc => ?_⟩
  rw [cn_low (lo 5 (by decide))] at hc
  by_cases z : c = i
  · subst z
    obtain ⟨v0, v1, v3, v5, v6⟩ := vc c hc
    unfold IvC
    rw [upd_ne (by omega), upd_ne (by omega), upd_self, upd_ne (by omega), upd_ne (by omega), upd_ne (by omega)]
    exact ⟨v0, v1, hx, v5, v6⟩
  · exact (vc c hc).congr (fun w hw => upd_ne (by omega))
theorem Cg_scr (r : Ro f h) (x t : Int32) : Cg f (tsR f x t) (tsF f x t) (scE h x t) (h (12 + 8 * ix x + 3) + t + 20) (upd h (12 + 8 * ix x + 3) (h (12 + 8 * ix x + 3) + t)) := by
  unfold tsR tsF scE
  rw [Ro_isC r]
  by_cases h1 : isCb h x = true
  · obtain ⟨i, hi, rfl⟩ := (isC_iff r.1.W x).mp h1
    have h16 := r.1.W.2.1
    rw [if_pos h1, if_pos h1, if_pos h1, ix_nI (by omega), r.2 (12 + 8 * i + 3) (by omega)]
    by_cases h2 : inB t (-20) 20 = true
    · rw [if_pos h2, if_pos h2, if_pos h2]
      by_cases h3 : inB (h (12 + 8 * i + 3) + t) (-20) 20 = true
      · rw [if_pos h3, if_pos h3, if_pos h3]
        refine Or.inl ⟨rfl, rfl, ?_, scr_Iv r.1 hi h3, ?_⟩
        · obtain ⟨k, hk, e⟩ := scr_ex h3
          rw [e, Int32.sub_add_cancel]; exact nI_pos' (by omega)
        · rw [cn_low (upd_ne (by omega))]; exact upd_Ro r (by omega)
      · rw [if_neg h3, if_neg h3, if_neg h3]; exact Or.inr ⟨by decide, rfl, rfl⟩
    · rw [if_neg h2, if_neg h2, if_neg h2]; exact Or.inr ⟨by decide, rfl, rfl⟩
  · rw [if_neg h1, if_neg h1, if_neg h1]; exact Or.inr ⟨by decide, rfl, rfl⟩
/-! days -/
theorem Cg_pass (r : Ro f h) (m : Int32) : Cg f (psR f m) (psF f m) (passR h m) (stV (pasF h (ix m))) (pasF h (ix m)) := by
  obtain ⟨T, hD, h4, W, S, vc⟩ := r.1
  have h16 := W.2.1
  unfold psR psF passR
  rw [r.ec, r.2 4 (by omega)]
  by_cases h1 : inB m 1 99 = true
  · rw [if_pos h1, if_pos h1, if_pos h1]
    obtain ⟨i, hi1, hi2, rfl⟩ := inB1_nI (n := 99) (by decide) h1
    by_cases h2 : h 4 + nI i ≤ 9999
    · rw [if_pos h2, if_pos h2, if_pos h2, ix_nI (by omega)]
      have h2' : T + i ≤ 9999 := by
        rw [h4, nI_add] at h2
        exact (nI_leI (a := T + i) (b := 9999) (by omega) (by decide)).mp h2
      obtain ⟨d1, d2⟩ := dcD_Mx (f := f) W vc i
      have lo := fun j (hj : j < 12) => passD_lo h i hj
      have lo2 : ∀ j, j < 12 → j ≠ 4 → pasF h i j = h j := fun j hj hne => by unfold pasF; rw [upd_ne hne]; exact lo j hj
      have c5 := cn_low (lo2 5 (by decide) (by decide))
      have ic : ∀ c, c < cn h → IvC (pasF h i) (T + i) c := fun c hc => (d2 c hc).congr (fun w hw => by unfold pasF; exact upd_ne (by omega))
      have v : Iv (pasF h i) := by
        refine ⟨T + i, h2', ?_, W.low (lo2 5 (by decide) (by decide)) (lo2 6 (by decide) (by decide)), ?_, fun c hc => ic c (by rw [c5] at hc; exact hc)⟩
        · unfold pasF; rw [upd_self, h4, nI_add]
        · unfold IvS
          rw [ln_low (lo2 6 (by decide) (by decide)), lo2 0 (by decide) (by decide), lo2 1 (by decide) (by decide), lo2 2 (by decide) (by decide), lo2 3 (by decide) (by decide)]
          refine ⟨S.1, S.2.1, S.2.2.1, S.2.2.2.1, fun j hj => ?_⟩
          have := W.2.2.2
          rw [lo2 (8 + j) (by omega) (by omega)]; exact S.2.2.2.2 j hj
      have e1 : psW f (nI i) = Mx (cn h) (pasF h i) f := by
        unfold psW pasF
        rw [r.ec, r.2 4 (by omega), r.2 1 (by omega), ix_nI (by omega)]
        conv => lhs; rw [r.mx]
        rw [d1, Mx_upd (by omega)]
      have g : ∀ c, c < cn (pasF h i) → GoO (pasF h i) c := fun c hc => (ic c (by rw [c5] at hc; exact hc)).go
      have hs := stV_go v.W g
      refine Or.inl ⟨rfl, ?_, ?_, v, by rw [c5]; exact e1⟩
      · rw [e1, goN_Mx _ (Nat.le_refl _), hs, c5]
      · rw [hs, c5]; exact nI_pos' (by omega)
    · rw [if_neg h2, if_neg h2, if_neg h2]; exact Or.inr ⟨by decide, rfl, rfl⟩
  · rw [if_neg h1, if_neg h1, if_neg h1]; exact Or.inr ⟨by decide, rfl, rfl⟩
/-! the change -/
theorem Cg_chg (r : Ro f h) (x : Int32) : Cg f (ccR f x) (ccF f x) (chE x) (nI (cn h) - stV (chgA h x (cn h))) (chgA h x (cn h)) := by
  obtain ⟨T, hD, h4, W, S, vc⟩ := r.1
  have h16 := W.2.1
  have v := chgA_Iv x r.1
  have c5 : cn (chgA h x (cn h)) = cn h := cn_low (chgA_lo h x (cn h) (by decide))
  have hs := stV_go v.W (by rw [c5]; exact chgA_st x (cn h) (fun c hc => (vc c hc).go))
  rw [c5] at hs
  have hg := goN_le (chgA h x (cn h)) (cn h)
  have e : nI (cn h) - stV (chgA h x (cn h)) = nI (goN (chgA h x (cn h)) (cn h)) := by
    rw [hs, pk_sub (by omega), show cn h - (cn h - goN (chgA h x (cn h)) (cn h)) = goN (chgA h x (cn h)) (cn h) by omega]
  have key := chC_Mx (n := cn h) (h := h) (f := f) x (cn h) (Nat.le_refl _)
  rw [← r.mx] at key
  rw [e]
  unfold ccR ccF chE
  rw [r.ec]
  by_cases h0 : x = 0
  · subst h0
    rw [if_neg (by decide)] at key
    rw [if_pos rfl, if_pos rfl, if_pos (by decide), key]
    exact Or.inl ⟨rfl, by rw [goN_Mx _ (Nat.le_refl _)], nI_pos' (by omega), v, by rw [c5]⟩
  · rw [if_neg h0, if_neg h0]
    by_cases h1 : x = 1
    · subst h1
      rw [if_pos rfl] at key
      rw [if_pos rfl, if_pos rfl, if_pos (by decide), key]
      exact Or.inl ⟨rfl, by rw [goN_Mx _ (Nat.le_refl _)], nI_pos' (by omega), v, by rw [c5]⟩
    · rw [if_neg h1, if_neg h1, if_neg (fun z => by
        obtain ⟨i, hi, ei⟩ := inB_nI (n := 1) (by decide) z
        rcases (show i = 0 ∨ i = 1 by omega) with rfl | rfl
        · exact h0 ei
        · exact h1 ei)]
      exact Or.inr ⟨by decide, rfl, rfl⟩
end R4
end
section
/-! the relation, fifth: beats -/
section R5
variable {f h : Nat → Int32}
theorem gdN_at {w : Nat → Int32} {L k : Nat} (W : Wk h) (g : gdN h w L) (hk : k < L) : ∃ i, i < cn h ∧ w k = nI i ∧ ix (w k) = i := by
  obtain ⟨i, hi, e⟩ := (isC_iff W _).mp (g k hk)
  have := W.2.1
  exact ⟨i, hi, e, by rw [e]; exact ix_nI (by omega)⟩
theorem gdN_lt {w : Nat → Int32} {L k : Nat} (g : gdN h w L) (hk : k ≤ L) : gdN h w k := fun i hi => g i (by omega)
theorem goF_s (w : Nat → Int32) (k : Nat) : goF h w (k + 1) = if canW (goF h w k) (ix (w k)) = true then workM (goF h w k) (ix (w k)) else goF h w k := rfl
theorem wbN_Mx {D : Nat} {w : Nat → Int32} (W : Wk h) (v : ∀ c, c < cn h → IvC h D c) (h0 : f 0 = h 0) : ∀ k, gdN h w k → (wbN (Mx (cn h) h f) w k = Mx (cn h) (goF h w k) f) ∧ ∀ c, c < cn h → IvC (goF h w k) D c := by
  intro k
  induction k with
  | zero => intro _; exact ⟨rfl, v⟩
  | succ k ih =>
    intro g
    obtain ⟨i1, i2⟩ := ih (gdN_lt g (by omega))
    obtain ⟨i, hi, e, ei⟩ := gdN_at W g (show k < k + 1 by omega)
    have lo : ∀ j, j < 12 → goF h w k j = h j := fun j hj => goF_lo h w k hj
    have l4 : ln (goF h w k) ≤ 4 := by rw [ln_low (lo 6 (by decide))]; exact W.2.2.2
    unfold wbN
    rw [goF_s, i1, ei, canW_Mx hi l4, Mx_in (show 0 < 12 + 8 * cn h by omega)]
    by_cases z : canW (goF h w k) i = true
    · rw [if_pos z, if_pos z]
      refine ⟨?_, fun c hc => ?_⟩
      · rw [winC_Mx hi, ← lo 0 (by decide), winC_M (i2 i hi).go (i2 i hi).2.2.1]
      · by_cases zc : c = i
        · subst zc; exact workM_IvC (i2 c hc)
        · exact (i2 c hc).congr (fun w hw => workM_ot hw zc)
    · rw [if_neg z, if_neg z]; exact ⟨rfl, i2⟩
theorem miS_s (w : Nat → Int32) (k : Nat) : miS h w (k + 1) = (if canW h (ix (w k)) = true then ((miS h w k).1 + jabs ((miS h w k).2.1 - h (12 + 8 * ix (w k) + 0)) * h 2 + h 3 + (if o2i (ladF h (ix (w k))) = -6 ∨ o2i (ladF h (ix (w k))) = (miS h w k).2.2 then 0 else 2 * (jabs (h (12 + 8 * ix (w k) + 0) - 0) * h 2)), h (12 + 8 * ix (w k) + 0), if o2i (ladF h (ix (w k))) = -6 then (miS h w k).2.2 else o2i (ladF h (ix (w k)))) else ((miS h w k).1 + jabs ((miS h w k).2.1 - h (12 + 8 * ix (w k) + 0)) * h 2, h (12 + 8 * ix (w k) + 0), (miS h w k).2.2)) := rfl
theorem jabs_d {a b : Nat} (ha : a < 2 ^ 30) (hb : b < 2 ^ 30) : jabs (nI a - nI b) = nI (if b ≤ a then a - b else b - a) := by
  unfold jabs
  by_cases z : b ≤ a
  · rw [if_pos z, pk_sub z, if_pos (nI_pos' (by omega))]
  · rw [if_neg z, if_neg (fun q => absurd (pk_sneg (a := a) (b := b) hb (by omega)) (Int32.not_lt.mpr q)), Int32.neg_sub, pk_sub (by omega)]
theorem canW_no {c : Nat} (z : ¬ canW h c = true) : o2i (ladF h c) = -6 := by
  unfold canW at z
  cases e : ladF h c with
  | none => rfl
  | some k => rw [e] at z; exact absurd (by simp) z
theorem spN_s (w : Nat → Int32) (n : Nat) : spN f w (n + 1) = if ndN f w n = -6 then spN f w n + jabs (f (12 + 8 * ix (w n) + 0) - hrN f w n) else if ndN f w n = caN f w n then spN f w n + jabs (f (12 + 8 * ix (w n) + 0) - hrN f w n) else spN f w n + jabs (f (12 + 8 * ix (w n) + 0) - hrN f w n) + 2 * f (12 + 8 * ix (w n) + 0) := rfl
theorem caN_s (w : Nat → Int32) (n : Nat) : caN f w (n + 1) = if ndN f w n = -6 then caN f w n else if ndN f w n = caN f w n then caN f w n else ndN f w n := rfl
theorem wkN_s (w : Nat → Int32) (n : Nat) : wkN f w (n + 1) = if canW f (ix (w n)) = true then wkN f w n + 1 else wkN f w n := rfl
theorem mo_mi (r : Ro f h) {w : Nat → Int32} {st wo : Nat} (e2 : h 2 = nI st) (e3 : h 3 = nI wo) : ∀ k, gdN h w k → ∃ A b, A ≤ 300 * k ∧ b ≤ 99 ∧ spN f w k = nI A ∧ hrN f w k = nI b ∧ (miS h w k).2.1 = nI b ∧ (miS h w k).2.2 = caN f w k ∧ (miS h w k).1 = nI (A * st + wkN f w k * wo) := by
  intro k
  induction k with
  | zero => intro _; exact ⟨0, 0, by omega, by omega, rfl, rfl, rfl, rfl, by rw [Nat.zero_mul, show wkN f w 0 = 0 from rfl, Nat.zero_mul]; rfl⟩
  | succ k ih =>
    intro g
    obtain ⟨A, b, hA, hb, i1, i2, i3, i4, i5⟩ := ih (gdN_lt g (by omega))
    obtain ⟨i, hi, e, ei⟩ := gdN_at r.1.W g (show k < k + 1 by omega)
    obtain ⟨D, hD, h4, W, S, vc⟩ := id r.1
    obtain ⟨a, ha, ea⟩ := (vc i hi).1
    have efa : f (12 + 8 * i + 0) = nI a := by rw [r.2 _ (by omega)]; exact ea
    obtain ⟨B, hB, d1, d2⟩ : ∃ B, B ≤ 99 ∧ jabs (nI a - nI b) = nI B ∧ jabs (nI b - nI a) = nI B := by
      by_cases z : b ≤ a
      · refine ⟨a - b, by omega, ?_, ?_⟩
        · rw [jabs_d (by omega) (by omega), if_pos z]
        · rw [jabs_d (by omega) (by omega)]
          by_cases z2 : a ≤ b
          · rw [if_pos z2, show b - a = a - b by omega]
          · rw [if_neg z2]
      · refine ⟨b - a, by omega, ?_, ?_⟩
        · rw [jabs_d (by omega) (by omega), if_neg z]
        · rw [jabs_d (by omega) (by omega), if_pos (by omega)]
    have d3 : jabs (nI a - 0) = nI a := by
      rw [show (0 : Int32) = nI 0 from rfl, jabs_d (by omega) (by omega), if_pos (by omega)]; rfl
    have hn : hrN f w (k + 1) = nI a := by
      show f (12 + 8 * ix (w k) + 0) = _
      rw [ei]; exact efa
    have nd : ndN f w k = o2i (ladF h i) := by unfold ndN; rw [ei, Ro_lad r hi]
    have cw : canW f i = canW h i := Ro_can r hi
    rw [miS_s, hn]
    rw [spN_s, caN_s, wkN_s]
    rw [nd, ei, efa, ea, cw, i1, i2, i3, i4, i5, d1, d2, d3, e2, e3]
    by_cases z : canW h i = true
    · rw [if_pos z, if_pos z]
      by_cases y : o2i (ladF h i) = -6
      · rw [if_pos y, if_pos y, if_pos y, if_pos (Or.inl y)]
        refine ⟨A + B, a, by omega, by omega, nI_add _ _, rfl, rfl, rfl, ?_⟩
        show nI (A * st + wkN f w k * wo) + nI B * nI st + nI wo + 0 = _
        rw [Int32.add_zero, pk_mul, nI_add, nI_add]
        refine congrArg nI ?_
        simp only [Nat.add_mul, Nat.one_mul]; omega
      · rw [if_neg y, if_neg y, if_neg y]
        by_cases x : o2i (ladF h i) = caN f w k
        · rw [if_pos x, if_pos x, if_pos (Or.inr x)]
          refine ⟨A + B, a, by omega, by omega, nI_add _ _, rfl, rfl, x, ?_⟩
          show nI (A * st + wkN f w k * wo) + nI B * nI st + nI wo + 0 = _
          rw [Int32.add_zero, pk_mul, nI_add, nI_add]
          refine congrArg nI ?_
          simp only [Nat.add_mul, Nat.one_mul]; omega
        · rw [if_neg x, if_neg x, if_neg (fun q => q.elim y x)]
          refine ⟨A + B + 2 * a, a, by omega, by omega, ?_, rfl, rfl, rfl, ?_⟩
          · rw [show (2 : Int32) = nI 2 from rfl, pk_mul, nI_add, nI_add]
          · show nI (A * st + wkN f w k * wo) + nI B * nI st + nI wo + 2 * (nI a * nI st) = _
            rw [show (2 : Int32) = nI 2 from rfl, pk_mul, pk_mul, pk_mul, nI_add, nI_add, nI_add]
            refine congrArg nI ?_
            simp only [Nat.add_mul, Nat.one_mul, Nat.mul_assoc]; omega
    · rw [if_neg z, if_neg z]
      have y := canW_no z
      rw [if_pos y, if_pos y]
      refine ⟨A + B, a, by omega, by omega, nI_add _ _, rfl, rfl, rfl, ?_⟩
      show nI (A * st + wkN f w k * wo) + nI B * nI st = _
      rw [pk_mul, nI_add]
      refine congrArg nI ?_
      simp only [Nat.add_mul]; omega
theorem mo_eq (r : Ro f h) {w : Nat → Int32} {L : Nat} (g : gdN h w L) (hL : L ≤ 80) : moN f w L = miV h w L ∧ ∃ t, t < 2 ^ 30 ∧ miV h w L = nI t := by
  obtain ⟨D, hD, h4, W, S, vc⟩ := id r.1
  obtain ⟨st, _, s2, e2⟩ := S.2.2.1
  obtain ⟨wo, _, o2, e3⟩ := S.2.2.2.1
  obtain ⟨A, b, hA, hb, i1, i2, i3, i4, i5⟩ := mo_mi r e2 e3 L g
  have d3 : jabs (nI b - 0) = nI b := by
    rw [show (0 : Int32) = nI 0 from rfl, jabs_d (by omega) (by omega), if_pos (by omega)]; rfl
  have hv : miV h w L = nI (A * st + wkN f w L * wo + b * st) := by
    unfold miV; rw [i3, d3, i5, e2, pk_mul, nI_add]
  have hk := wkN_le f w L
  have q1 : A * st ≤ (300 * 80) * 30 := Nat.mul_le_mul (by omega) s2
  have q2 : wkN f w L * wo ≤ 80 * 30 := Nat.mul_le_mul (by omega) o2
  have q3 : b * st ≤ 99 * 30 := Nat.mul_le_mul hb s2
  refine ⟨?_, _, ?_, hv⟩
  · rw [hv]; unfold moN
    rw [i1, i2, r.2 2 (by omega), r.2 3 (by omega), e2, e3, nI_add, pk_mul, pk_mul, nI_add]
    congr 1
    simp only [Nat.add_mul]; omega
  · omega
theorem bw_Iv {w : Nat → Int32} {L : Nat} {x : Int32} (v : Iv h) (g : gdN h w L) : Iv (upd (goF h w L) 7 x) ∧ cn (upd (goF h w L) 7 x) = cn h := by
  obtain ⟨D, hD, h4, W, S, vc⟩ := v
  obtain ⟨_, b2⟩ := wbN_Mx (f := h) W vc rfl L g
  have lo : ∀ j, j < 12 → j ≠ 7 → upd (goF h w L) 7 x j = h j := fun j hj hne => by rw [upd_ne hne]; exact goF_lo h w L hj
  have c5 := cn_low (lo 5 (by decide) (by decide))
  refine ⟨⟨D, hD, by rw [lo 4 (by decide) (by decide)]; exact h4, W.low (lo 5 (by decide) (by decide)) (lo 6 (by decide) (by decide)), ?_, fun c hc => ?_⟩, c5⟩
  · unfold IvS
    rw [ln_low (lo 6 (by decide) (by decide)), lo 0 (by decide) (by decide), lo 1 (by decide) (by decide), lo 2 (by decide) (by decide), lo 3 (by decide) (by decide)]
    refine ⟨S.1, S.2.1, S.2.2.1, S.2.2.2.1, fun j hj => ?_⟩
    have := W.2.2.2
    rw [lo (8 + j) (by omega) (by omega)]; exact S.2.2.2.2 j hj
  · rw [c5] at hc
    exact (b2 c hc).congr (fun w hw => upd_ne (by omega))
theorem gdN_Ro (r : Ro f h) {w : Nat → Int32} {L : Nat} : gdN f w L ↔ gdN h w L := by
  unfold gdN
  constructor
  · intro g i hi; rw [← Ro_isC r]; exact g i hi
  · intro g i hi; rw [Ro_isC r]; exact g i hi
theorem bwF_Mx (r : Ro f h) {w : Nat → Int32} {L : Nat} (g : gdN h w L) (x : Int32) : upd (wbN f w L) 7 x = Mx (cn h) (upd (goF h w L) 7 x) f := by
  obtain ⟨D, hD, h4, W, S, vc⟩ := id r.1
  obtain ⟨b1, b2⟩ := wbN_Mx (f := f) W vc (r.2 0 (by omega)) L g
  rw [← r.mx] at b1
  rw [b1, Mx_upd (by omega)]
/-- a beat to clocks that there are -/
theorem Cg_bw (r : Ro f h) {w : Nat → Int32} {L : Nat} (g : gdN h w L) (hL : L ≤ 80) : Cg f (bwR f w L) (bwF f w L) 0 (miV h w L) (goFF h w L) := by
  obtain ⟨e1, t, ht, e2⟩ := mo_eq r g hL
  have gb := (gdB_t f w L).mpr ((gdN_Ro r).mpr g)
  have h0 : 0 ≤ miV h w L := by rw [e2]; exact nI_pos' (by omega)
  unfold bwR bwF goFF
  rw [if_pos gb, if_pos gb, e1, if_pos h0, r.2 7 (by omega), bwF_Mx r g]
  obtain ⟨v, c5⟩ := bw_Iv (x := h 7 + miV h w L) r.1 g
  exact Or.inl ⟨rfl, rfl, h0, v, by rw [c5]⟩
theorem rowE_gd {w : Nat → Int32} : ∀ L, (rowE h w L = 0 ∧ gdN h w L) ∨ (rowE h w L = -1 ∧ ¬ gdN h w L) := by
  intro L
  induction L with
  | zero => exact Or.inl ⟨rfl, fun i hi => absurd hi (Nat.not_lt_zero _)⟩
  | succ L ih =>
    unfold rowE
    by_cases z : isCb h (w L) = true
    · rw [if_pos z]
      rcases ih with ⟨a, b⟩ | ⟨a, b⟩
      · exact Or.inl ⟨a, gdN_s b z⟩
      · exact Or.inr ⟨a, fun q => b (gdN_lt q (by omega))⟩
    · rw [if_neg z]; exact Or.inr ⟨rfl, fun q => z (q L (by omega))⟩
/-- an order -/
theorem Cg_one (r : Ro f h) {c : Int32} {one two three : Int32} {L : Nat} {w : Nat → Int32} (hL : L ≤ 80) (hc : c = 43 ∨ c = 97 ∨ c = 98 ∨ c = 108 ∨ c = 115 ∨ c = 116) :
    (exE h c one two three L w = 0 ∧ 0 ≤ oneR f c ((one, two, three), L, w) ∧ Iv (exF h c one two three L w) ∧ oneF f c ((one, two, three), L, w) = Mx (cn (exF h c one two three L w)) (exF h c one two three L w) f) ∨ (exE h c one two three L w ≠ 0 ∧ ¬ 0 ≤ oneR f c ((one, two, three), L, w) ∧ oneF f c ((one, two, three), L, w) = f) := by
  have fin : ∀ {Rc : Int32} {F f' : Nat → Int32} {flt v : Int32}, Cg f Rc F flt v f' → (flt = 0 ∧ 0 ≤ Rc ∧ Iv f' ∧ F = Mx (cn f') f' f) ∨ (flt ≠ 0 ∧ ¬ 0 ≤ Rc ∧ F = f) := by
    intro Rc F f' flt v k
    rcases k with ⟨a, b, c, d, e⟩ | ⟨a, b, c⟩
    · exact Or.inl ⟨a, by rw [b]; exact c, d, e⟩
    · exact Or.inr ⟨fun z => by rw [z] at a; exact absurd a (by decide), by rw [b]; exact Int32.lt_nle a, c⟩
  unfold exE exF oneR oneF
  have n1 : chE 1 = 0 := by decide
  have n0 : chE 0 = 0 := by decide
  rcases hc with e | e | e | e | e | e
  · rw [if_pos e, if_pos e, if_pos e, if_pos e]
    exact fin (Cg_hang r one two three)
  · have a43 : ¬ c = 43 := by rw [e]; decide
    have a98 : ¬ c = 98 := by rw [e]; decide
    have a108 : ¬ c = 108 := by rw [e]; decide
    have a116 : ¬ c = 116 := by rw [e]; decide
    simp only [if_neg a43, if_neg a98, if_neg a108, if_neg a116, if_pos e]
    have := fin (Cg_chg r 1)
    rw [n1] at this
    rcases this with ⟨_, a⟩ | a
    · exact Or.inl ⟨trivial, a⟩
    · exact Or.inr a
  · have a43 : ¬ c = 43 := by rw [e]; decide
    have a97 : ¬ c = 97 := by rw [e]; decide
    have a108 : ¬ c = 108 := by rw [e]; decide
    simp only [if_neg a43, if_neg a97, if_neg a108, if_pos e]
    rcases rowE_gd (h := h) (w := w) L with ⟨a, b⟩ | ⟨a, b⟩
    · rw [a]
      exact fin (Cg_bw r b hL)
    · have gn : ¬ gdB f w L = true := fun z => b ((gdN_Ro r).mp ((gdB_t f w L).mp z))
      refine Or.inr ⟨by rw [a]; decide, ?_, ?_⟩
      · show ¬ 0 ≤ bwR f w L
        unfold bwR
        rw [if_neg gn]; decide
      · show bwF f w L = f
        unfold bwF
        rw [if_neg gn]
  · have a43 : ¬ c = 43 := by rw [e]; decide
    have a97 : ¬ c = 97 := by rw [e]; decide
    have a98 : ¬ c = 98 := by rw [e]; decide
    simp only [if_neg a43, if_neg a97, if_neg a98, if_pos e]
    exact fin (Cg_lad r one)
  · have a43 : ¬ c = 43 := by rw [e]; decide
    have a97 : ¬ c = 97 := by rw [e]; decide
    have a98 : ¬ c = 98 := by rw [e]; decide
    have a108 : ¬ c = 108 := by rw [e]; decide
    have a116 : ¬ c = 116 := by rw [e]; decide
    simp only [if_neg a43, if_neg a97, if_neg a98, if_neg a108, if_neg a116, if_pos e]
    have := fin (Cg_chg r 0)
    rw [n0] at this
    rcases this with ⟨_, a⟩ | a
    · exact Or.inl ⟨trivial, a⟩
    · exact Or.inr a
  · have a43 : ¬ c = 43 := by rw [e]; decide
    have a97 : ¬ c = 97 := by rw [e]; decide
    have a98 : ¬ c = 98 := by rw [e]; decide
    have a108 : ¬ c = 108 := by rw [e]; decide
    have a115 : ¬ c = 115 := by rw [e]; decide
    simp only [if_neg a43, if_neg a97, if_neg a98, if_neg a108, if_neg a115, if_pos e]
    exact fin (Cg_pass r one)
end R5
end
section
/-! the relation, sixth: the answers -/
section R6
variable {f h : Nat → Int32}
theorem Ro_off (r : Ro f h) {c : Nat} (hc : c < cn h) (t : Int32) : offB f c t = offB h c t := by rw [r.mx]; exact offB_Mx hc t
theorem of_eq (r : Ro f h) (x w : Int32) : ofR f x w = ofR h x w := by
  unfold ofR
  rw [Ro_isC r]
  by_cases hb : isCb h x = true
  · obtain ⟨i, hi, rfl⟩ := (isC_iff r.1.W x).mp hb
    have e : ix (nI i) = i := ix_nI (by have := r.1.W.2.1; omega)
    rw [if_pos hb, if_pos hb, e, r.2 (12 + 8 * i + 0) (by omega), r.2 (12 + 8 * i + 1) (by omega), r.2 (12 + 8 * i + 2) (by omega), r.2 (12 + 8 * i + 3) (by omega), r.2 (12 + 8 * i + 4) (by omega), r.2 (12 + 8 * i + 5) (by omega), r.2 (12 + 8 * i + 6) (by omega), r.2 (12 + 8 * i + 7) (by omega), r.2 0 (by omega), Ro_off r hi, Ro_lad r hi, Ro_can r hi]
  · rw [if_neg hb, if_neg hb]
theorem lof_eq (r : Ro f h) (x : Int32) : lofR f x = lofR h x := by
  unfold lofR
  rw [r.2 6 (by omega)]
  by_cases hb : inB x 0 (h 6 - 1) = true
  · obtain ⟨i, hi, rfl⟩ := lof_iff r.1.W hb
    have := r.1.W.2.2.2
    rw [if_pos hb, if_pos hb, ix_nI (by omega), r.2 (8 + i) (by omega)]
  · rw [if_neg hb, if_neg hb]
theorem stC_Ro (r : Ro f h) : ∀ k, k ≤ cn h → stC f k = stC h k := by
  intro k
  induction k with
  | zero => intro _; rfl
  | succ k ih => intro hk; unfold stC; rw [ih (by omega), r.2 _ (by omega)]
theorem of4 (r : Ro f h) : ∀ k, k ≤ cn h → nI (ofN f k) = sumN h 4 k := by
  intro k
  induction k with
  | zero => intro _; rfl
  | succ k ih =>
    intro hk
    unfold ofN sumN
    rw [← ih (by omega), if_neg (show ¬ (4 : Int32) = 7 by decide), if_pos (rfl : (4 : Int32) = 4), Ro_off r (by omega), r.2 0 (by omega)]
    by_cases z : offB h k (h 0) = true
    · rw [if_pos z, if_pos z, nI_1]
    · rw [if_neg z, if_neg z, Int32.add_zero]
theorem cw5 (r : Ro f h) : ∀ k, k ≤ cn h → nI (cwN f k) = sumN h 5 k := by
  intro k
  induction k with
  | zero => intro _; rfl
  | succ k ih =>
    intro hk
    unfold cwN sumN
    rw [← ih (by omega), if_neg (show ¬ (5 : Int32) = 7 by decide), if_neg (show ¬ (5 : Int32) = 4 by decide), Ro_can r (by omega)]
    by_cases z : canW h k = true
    · rw [if_pos z, if_pos z, Int32.add_zero]
    · rw [if_neg z, if_neg z, nI_1]
theorem tw7 (r : Ro f h) : ∀ k, k ≤ cn h → twN f k = sumN h 7 k := by
  intro k
  induction k with
  | zero => intro _; rfl
  | succ k ih =>
    intro hk
    unfold twN sumN
    rw [← ih (by omega), if_pos (rfl : (7 : Int32) = 7), r.2 _ (by omega)]
theorem cnt_eq (r : Ro f h) (len kn w : Int32) : cntC f len kn w = cntR h len kn w := by
  obtain ⟨D, hD, h4, W, S, vc⟩ := id r.1
  unfold cntC cntR
  rw [r.ec, stC_Ro r _ (Nat.le_refl _), stillN_e _ (fun c hc => (vc c hc).go), of4 r _ (Nat.le_refl _), cw5 r _ (Nat.le_refl _), tw7 r _ (Nat.le_refl _), r.2 0 (by omega), r.2 1 (by omega), r.2 2 (by omega), r.2 3 (by omega), r.2 4 (by omega), r.2 5 (by omega), r.2 6 (by omega), r.2 7 (by omega)]
/-! which ladder to buy -/
theorem ru_mo (r : Ro f h) : ∀ k, k ≤ cn h → (ruN f k = 0 ∧ mostN h k = -6) ∨ (∃ a, 1 ≤ a ∧ a ≤ 30 ∧ ruN f k = nI a ∧ mostN h k = nI a) := by
  obtain ⟨D, hD, h4, W, S, vc⟩ := id r.1
  intro k
  induction k with
  | zero => intro _; exact Or.inl ⟨rfl, rfl⟩
  | succ k ih =>
    intro hk
    unfold ruN mostN
    rw [Ro_can r (by omega)]
    by_cases z : canW h k = true
    · rw [if_pos z, if_pos z]; exact ih (by omega)
    · rw [if_neg z, if_neg z]
      obtain ⟨a, ha, ea⟩ := (vc k (by omega)).2.1
      have a0 : a ≠ 0 := fun y => z (canW_t.mpr (Or.inl (by rw [ea, y]; rfl)))
      rw [r.2 _ (by omega), ea]
      rcases ih (by omega) with ⟨e1, e2⟩ | ⟨b, hb1, hb, e1, e2⟩
      · rw [e1, e2]
        have j1 : jmax 0 (nI a) = nI a := by
          unfold jmax; rw [if_pos (show (0 : Int32) < nI a from (nI_ltI (a := 0) (b := a) (by decide) (by omega)).mpr (by omega))]
        have j2 : ¬ nI a ≤ -6 := fun q => by
          rw [Int32.le_iff_toInt_le, nI_toInt (by omega), show (-6 : Int32).toInt = -6 from by decide] at q; omega
        rw [j1, if_neg j2]
        exact Or.inr ⟨a, by omega, ha, rfl, rfl⟩
      · rw [e1, e2]
        by_cases y : a ≤ b
        · have j1 : jmax (nI b) (nI a) = nI b := by
            unfold jmax; rw [if_neg (fun q => by have := (nI_ltI (a := b) (b := a) (by omega) (by omega)).mp q; omega)]
          rw [j1, if_pos ((nI_leI (by omega) (by omega)).mpr y)]
          exact Or.inr ⟨b, hb1, hb, rfl, rfl⟩
        · have j1 : jmax (nI b) (nI a) = nI a := by
            unfold jmax; rw [if_pos ((nI_ltI (by omega) (by omega)).mpr (by omega))]
          rw [j1, if_neg (fun q => y ((nI_leI (by omega) (by omega)).mp q))]
          exact Or.inr ⟨a, by omega, ha, rfl, rfl⟩
theorem lf_eq (r : Ro f h) : lfC f = if ln h = 4 then -4 else mostN h (cn h) := by
  have l4 := r.1.W.2.2.2
  unfold lfC
  rw [Ro_ln r, r.ec]
  by_cases z : ln h < 4
  · rw [if_pos z, if_neg (show ¬ ln h = 4 by omega)]
    rcases ru_mo r _ (Nat.le_refl _) with ⟨e1, e2⟩ | ⟨b, hb1, hb, e1, e2⟩
    · rw [e1, e2, if_pos rfl]
    · rw [e1, e2, if_neg (nI_ne0 (by omega) (by omega))]
  · rw [if_neg z, if_pos (show ln h = 4 by omega)]
/-! the row of a set of clocks -/
theorem ch_lo (x : Int32) (n : Nat) (w w' : Nat → Int32) : ∀ k, chL x k = loL n x false w' k ∧ ∀ j, j < chL x k → chW w x k j = loN n x false w' k j := by
  intro k
  induction k with
  | zero => exact ⟨rfl, fun j hj => absurd hj (Nat.not_lt_zero _)⟩
  | succ k ih =>
    obtain ⟨i1, i2⟩ := ih
    unfold chL chW
    by_cases z : (x >>> (nI k &&& 31)) &&& 1 = 1
    · obtain ⟨a, b⟩ := loW_t (n := n) (b := false) (w := w') (k := k) z
      rw [if_pos z, if_pos z, a, b, i1]
      refine ⟨rfl, fun j hj => ?_⟩
      by_cases e : j = loL n x false w' k
      · subst e; rw [upd_self, upd_self]; rfl
      · rw [upd_ne e, upd_ne e]; exact i2 j (by rw [i1]; omega)
    · obtain ⟨a, b⟩ := loW_f (n := n) (b := false) (w := w') (k := k) z
      rw [if_neg z, if_neg z, a, b]
      exact ⟨i1, i2⟩
theorem miV_cong {w w2 : Nat → Int32} (L : Nat) (e : ∀ j, j < L → w j = w2 j) : miV h w L = miV h w2 L := by
  unfold miV; rw [miS_congr h L e]
/-- the same row from the last clock to the first -/
theorem lo_rev (x : Int32) (n : Nat) (w w' : Nat → Int32) : ∀ k, k ≤ n → loL n x true w' k + loL n x false w (n - k) = loL n x false w n ∧ ∀ j, j < loL n x true w' k → loN n x true w' k j = loN n x false w n (loL n x false w n - 1 - j) := by
  have mono : ∀ a b, a ≤ b → loL n x false w a ≤ loL n x false w b ∧ ∀ j, j < loL n x false w a → loN n x false w b j = loN n x false w a j := by
    intro a b hab
    obtain ⟨d, rfl⟩ : ∃ d, b = a + d := ⟨b - a, by omega⟩
    clear hab
    induction d with
    | zero => exact ⟨Nat.le_refl _, fun _ _ => rfl⟩
    | succ d ih =>
      by_cases z : (x >>> (nI (loC n false (a + d)) &&& 31)) &&& 1 = 1
      · obtain ⟨u, v⟩ := loW_t (w := w) z
        rw [show a + (d + 1) = a + d + 1 by omega, u, v]
        refine ⟨by omega, fun j hj => ?_⟩
        rw [upd_ne (by omega)]; exact ih.2 j hj
      · obtain ⟨u, v⟩ := loW_f (w := w) z
        rw [show a + (d + 1) = a + d + 1 by omega, u, v]
        exact ih
  intro k
  induction k with
  | zero => intro _; exact ⟨by show 0 + _ = _; rw [Nat.zero_add, Nat.sub_zero], fun j hj => absurd hj (Nat.not_lt_zero _)⟩
  | succ k ih =>
    intro hk
    obtain ⟨i1, i2⟩ := ih (by omega)
    have ec : loC n true k = n - (k + 1) := by show n - 1 - k = _; omega
    have ec2 : loC n false (n - (k + 1)) = n - (k + 1) := rfl
    have es : n - k = n - (k + 1) + 1 := by omega
    by_cases z : (x >>> (nI (n - (k + 1)) &&& 31)) &&& 1 = 1
    · obtain ⟨u, v⟩ := loW_t (n := n) (b := true) (w := w') (k := k) (by rw [ec]; exact z)
      obtain ⟨u2, v2⟩ := loW_t (n := n) (b := false) (w := w) (k := n - (k + 1)) (by rw [ec2]; exact z)
      rw [es, u2] at i1
      rw [u, v, ec]
      refine ⟨by omega, fun j hj => ?_⟩
      by_cases e : j = loL n x true w' k
      · have m := mono (n - (k + 1) + 1) n (by omega)
        rw [u2, v2, ec2] at m
        have m2 := m.2 (loL n x false w (n - (k + 1))) (by omega)
        rw [upd_self] at m2
        rw [e, upd_self, show loL n x false w n - 1 - loL n x true w' k = loL n x false w (n - (k + 1)) by omega, m2]
      · rw [upd_ne e]; exact i2 j (by omega)
    · obtain ⟨u, v⟩ := loW_f (n := n) (b := true) (w := w') (k := k) (by rw [ec]; exact z)
      obtain ⟨u2, v2⟩ := loW_f (n := n) (b := false) (w := w) (k := n - (k + 1)) (by rw [ec2]; exact z)
      rw [es, u2] at i1
      rw [u, v]
      exact ⟨i1, i2⟩
theorem way_eq (a b : Nat) (ha : a < 2 ^ 30) (hb : b < 2 ^ 30) : wayC (nI a) (nI b) = wayR (nI a) (nI b) := by
  unfold wayC wayR
  by_cases e : a = b
  · subst e; rw [if_pos rfl, if_pos (nI_le (Nat.le_refl _) (by omega)), if_pos (nI_le (Nat.le_refl _) (by omega))]
  · rw [if_neg (fun z => e ((nI_eq (by omega) (by omega)).mp z))]
    by_cases y : b ≤ a
    · rw [if_pos (nI_le y (by omega)), if_pos (nI_le y (by omega)), if_neg (fun z => by have := (nI_leI (by omega) (by omega)).mp z; omega)]
    · rw [if_neg (fun z => y ((nI_leI (by omega) (by omega)).mp z)), if_neg (fun z => y ((nI_leI (by omega) (by omega)).mp z))]
/-! days until a clock is off -/
theorem duL_spec (c : Nat) (t : Int32) : ∀ u d, d ≤ duL h c t u d ∧ duL h c t u d ≤ d + u ∧ (∀ e, d ≤ e → e < duL h c t u d → jabs (h (12 + 8 * c + 4) + nI e * rt h c) ≤ t) ∧ (duL h c t u d < d + u → ¬ jabs (h (12 + 8 * c + 4) + nI (duL h c t u d) * rt h c) ≤ t) := by
  intro u
  induction u with
  | zero => intro d; exact ⟨Nat.le_refl _, Nat.le_refl _, fun e h1 h2 => absurd h2 (by show ¬ e < d; omega), fun z => absurd z (by show ¬ d < d + 0; omega)⟩
  | succ u ih =>
    intro d
    unfold duL
    by_cases z : jabs (h (12 + 8 * c + 4) + nI d * rt h c) ≤ t
    · rw [if_pos z]
      obtain ⟨i1, i2, i3, i4⟩ := ih (d + 1)
      refine ⟨by omega, by omega, fun e h1 h2 => ?_, fun q => i4 (by omega)⟩
      by_cases y : e = d
      · rw [y]; exact z
      · exact i3 e (by omega) h2
    · rw [if_neg z]
      exact ⟨Nat.le_refl _, by omega, fun e h1 h2 => by omega, fun _ => z⟩
theorem last_spec {c s0 wd : Nat} (g : h (12 + 8 * c + 6) = 1) (e5 : h (12 + 8 * c + 5) = nI s0) (hs : s0 ≤ 20000) (e1 : h 1 = nI wd) (hw : wd ≤ 30) : ∀ d, (d = 0 ∨ s0 + d ≤ wd) → lastN h c d (12 + 8 * c + 6) = 1 ∧ lastN h c d (12 + 8 * c + 5) = nI (s0 + d) ∧ lastN h c d (12 + 8 * c + 4) = h (12 + 8 * c + 4) + nI d * rt h c ∧ rt (lastN h c d) c = rt h c := by
  intro d
  induction d with
  | zero => intro _; exact ⟨g, e5, by rw [show nI 0 = 0 from rfl, Int32.zero_mul, Int32.add_zero]; rfl, rfl⟩
  | succ d ih =>
    intro hd
    obtain ⟨i1, i2, i3, i4⟩ := ih (by omega)
    have l1 : lastN h c d 1 = nI wd := by rw [lastN_lo h c d (by omega)]; exact e1
    have le : lastN h c d (12 + 8 * c + 5) + 1 ≤ lastN h c d 1 := by rw [i2, nI_1, l1, nI_leI (by omega) (by omega)]; omega
    have e : lastN h c (d + 1) = upd (upd (lastN h c d) (12 + 8 * c + 5) (lastN h c d (12 + 8 * c + 5) + 1)) (12 + 8 * c + 4) (lastN h c d (12 + 8 * c + 4) + rt (lastN h c d) c) := by
      show dayM (lastN h c d) c = _
      unfold dayM
      rw [if_pos i1, if_neg (fun z => z le)]
    refine ⟨?_, ?_, ?_, ?_⟩
    · rw [e, upd_ne (by omega), upd_ne (by omega)]; exact i1
    · rw [e, upd_ne (by omega), upd_self, i2, nI_1]; rfl
    · rw [e, upd_self, i3, i4, nI_succ, Int32.add_mul, Int32.one_mul, Int32.add_assoc]
    · rw [← i4]
      unfold rt
      rw [e, upd_ne (by omega), upd_ne (by omega), upd_ne (by omega), upd_ne (by omega)]
theorem lasts_spec (v : Iv h) {c : Nat} (hc : c < cn h) : offB (lastN h c (duS h c)) c (lastN h c (duS h c) 0) = true ∧ ∀ d, d < duS h c → offB (lastN h c d) c (lastN h c d 0) = false := by
  obtain ⟨D, hD, h4, W, S, vc⟩ := v
  obtain ⟨told, t1, t2, e0⟩ := S.1
  obtain ⟨wd, w1, w2, e1⟩ := S.2.1
  obtain ⟨v0, v1, v3, ⟨s0, hs, e5⟩, vg⟩ := vc c hc
  have l0 : ∀ d, lastN h c d 0 = h 0 := fun d => lastN_lo h c d (by omega)
  have l1 : ∀ d, lastN h c d 1 = h 1 := fun d => lastN_lo h c d (by omega)
  have still : ∀ k : Nat → Int32, k (12 + 8 * c + 4) = 43200 → offB k c (h 0) = true := by
    intro k ek
    unfold offB
    rw [ek, e0, decide_eq_true_iff]
    intro z
    rw [show jabs 43200 = nI 43200 from by decide] at z
    have := (nI_leI (by omega) (by omega)).mp z
    omega
  unfold duS duC
  by_cases z : offB h c (h 0) = true
  · rw [if_pos z]
    exact ⟨z, fun d hd => absurd hd (Nat.not_lt_zero _)⟩
  · rw [if_neg z]
    have g : h (12 + 8 * c + 6) = 1 := by
      rcases vg with a | ⟨_, a⟩
      · exact a
      · exact absurd (still h a) z
    have es : stD h c = max 1 (wd + 1 - s0) := by
      unfold stD; rw [e1, e5, ix_nI (by omega), ix_nI (by omega)]
    obtain ⟨p1, p2, p3, p4⟩ := duL_spec (h := h) c (h 0) (stD h c - 1) 1
    have ls := last_spec g e5 (by omega) e1 w2
    have in1 : ∀ d, d < stD h c → d = 0 ∨ s0 + d ≤ wd := fun d hd => by rw [es] at hd; omega
    refine ⟨?_, fun d hd => ?_⟩
    · rw [l0]
      by_cases y : duL h c (h 0) (stD h c - 1) 1 < 1 + (stD h c - 1)
      · unfold offB
        rw [(ls _ (in1 _ (by omega))).2.2.1]
        exact decide_eq_true (p4 y)
      · have ed : duL h c (h 0) (stD h c - 1) 1 = (stD h c - 1) + 1 := by omega
        rw [ed]
        obtain ⟨q1, q2, q3, q4⟩ := ls (stD h c - 1) (in1 _ (by omega))
        apply still
        show dayM (lastN h c (stD h c - 1)) c _ = _
        unfold dayM
        rw [if_pos q1, q2, nI_1, l1, e1, if_pos (fun z => by
          have := (nI_leI (by omega) (by omega)).mp z
          omega), upd_self]
    · rw [l0]
      by_cases y : d = 0
      · subst y
        have : offB h c (h 0) = false := by
          cases q : offB h c (h 0) with
          | false => rfl
          | true => exact absurd q z
        exact this
      · unfold offB
        rw [(ls _ (in1 _ (by omega))).2.2.1]
        have := p3 d (by omega) hd
        simp [this]
theorem Ro_duS (r : Ro f h) {c : Nat} (hc : c < cn h) : duS f c = duS h c := by
  have a : ∀ u d, duL f c (h 0) u d = duL h c (h 0) u d := by
    intro u
    induction u with
    | zero => intro d; rfl
    | succ u ih =>
      intro d
      unfold duL
      rw [ih, r.2 _ (by omega), show rt f c = rt h c by rw [r.mx]; exact rt_Mx hc]
  unfold duS duC stD
  rw [r.2 0 (by omega), r.2 1 (by omega), r.2 (12 + 8 * c + 5) (by omega), a, Ro_off r hc]
theorem ahead_eq (T : Tm h) (c : Nat) : ∀ k, aheadN (fun i => nI (duS h i)) c k = nI (raN h c k) := by
  intro k
  induction k with
  | zero => rfl
  | succ k ih =>
    have l1 := duS_lt T k
    have l2 := duS_lt T c
    unfold aheadN raN
    rw [ih]
    by_cases z : duS h k < duS h c
    · rw [if_pos z, if_pos ((nI_ltI l1 l2).mpr z), nI_1]
    · rw [if_neg z, if_neg (fun q => z ((nI_ltI l1 l2).mp q))]
      by_cases y : duS h k = duS h c
      · rw [if_pos y, if_pos (by rw [y])]
        by_cases x : c ≤ k
        · rw [if_pos x, if_pos x, Int32.add_zero]
        · rw [if_neg x, if_neg x, nI_1]
      · rw [if_neg y, if_neg (fun q => y ((nI_eq l1 l2).mp q)), Int32.add_zero]
theorem Ro_raN (r : Ro f h) {c : Nat} (hc : c < cn h) : ∀ k, k ≤ cn h → raN f c k = raN h c k := by
  intro k
  induction k with
  | zero => intro _; rfl
  | succ k ih =>
    intro hk
    unfold raN
    rw [ih (by omega), Ro_duS r hc, Ro_duS r (show k < cn h by omega)]
theorem ne_eq (r : Ro f h) (x : Int32) : neC f (cn h) x (cn h) = needN (fun i => nI (duS h i)) (cn h) x (cn h) := by
  have T : Tm h := Ro.T ⟨r.1, fun _ _ => rfl⟩
  have key : ∀ k, k ≤ cn h → neC f (cn h) x k = needN (fun i => nI (duS h i)) (cn h) x k := by
    intro k
    induction k with
    | zero => intro _; rfl
    | succ k ih =>
      intro hk
      unfold neC needN
      rw [ih (by omega), ahead_eq T, Ro_raN r (by omega) _ (Nat.le_refl _)]
  exact key _ (Nat.le_refl _)
end R6
end
section
/-! what the law's walk needs of a State: bounds of the drift and of what a clock is off; what each change keeps -/
theorem tI_add {x y : Int32} {a b : Int} (ha : x.toInt = a) (hb : y.toInt = b) (h1 : -2147483648 ≤ a + b) (h2 : a + b < 2147483648) : (x + y).toInt = a + b := by
  rw [Int32.toInt_add, ha, hb]; exact Int.bmod_eq_of_le (by omega) (by omega)
theorem tI_mul {x y : Int32} {a b : Int} (ha : x.toInt = a) (hb : y.toInt = b) (h1 : -2147483648 ≤ a * b) (h2 : a * b < 2147483648) : (x * y).toInt = a * b := by
  rw [Int32.toInt_mul, ha, hb]; exact Int.bmod_eq_of_le (by omega) (by omega)
theorem tI_neg {x : Int32} {a : Int} (ha : x.toInt = a) (h1 : -2147483648 < a) : (-x).toInt = -a := by
  have := Int32.le_toInt x
  have h3 := Int32.toInt_lt x
  rw [Int32.toInt_neg, ha]; exact Int.bmod_eq_of_le (by omega) (by omega)
theorem inB_tI {v lo hi : Int32} (h : inB v lo hi = true) : lo.toInt ≤ v.toInt ∧ v.toInt ≤ hi.toInt := by
  rw [inB_t, Int32.lt_iff_toInt_lt, Int32.lt_iff_toInt_lt] at h; omega
def Bd (f : Nat → Int32) (B c : Nat) : Prop := inB (f (12 + 8 * c + 2)) (-99) 99 = true ∧ -(B : Int) ≤ (f (12 + 8 * c + 4)).toInt ∧ (f (12 + 8 * c + 4)).toInt ≤ (B : Int)
def Iz (f : Nat → Int32) (B : Nat) : Prop := Iv f ∧ ∀ c, c < cn f → Bd f B c
theorem Bd.congr {f h : Nat → Int32} {B c : Nat} (b : Bd f B c) (e2 : h (12 + 8 * c + 2) = f (12 + 8 * c + 2)) (e4 : h (12 + 8 * c + 4) = f (12 + 8 * c + 4)) : Bd h B c := by
  unfold Bd; rw [e2, e4]; exact b
theorem Bd.mono {f : Nat → Int32} {B B' c : Nat} (b : Bd f B c) (h : B ≤ B') : Bd f B' c := ⟨b.1, by have := b.2.1; omega, by have := b.2.2; omega⟩
theorem Iz.mono {f : Nat → Int32} {B B' : Nat} (b : Iz f B) (h : B ≤ B') : Iz f B' := ⟨b.1, fun c hc => (b.2 c hc).mono h⟩
theorem Iz.ro {f h : Nat → Int32} {B : Nat} (z : Iz h B) (r : ∀ j, j < 12 + 8 * cn h → f j = h j) : Iz f B := by
  refine ⟨z.1.congr r, fun c hc => ?_⟩
  rw [cn_low (r 5 (by omega))] at hc
  exact (z.2 c hc).congr (r _ (by omega)) (r _ (by omega))
theorem Iv.ro {f : Nat → Int32} (v : Iv f) : Ro f f := ⟨v, fun _ _ => rfl⟩
/-- how the law finds a clock off -/
theorem off_iff {x t : Int32} {B : Nat} (h1 : -(B : Int) ≤ x.toInt) (h2 : x.toInt ≤ (B : Int)) (hB : B < 2 ^ 30) {a : Nat} (ha : a ≤ 999) (ht : t = nI a) : (¬ jabs x ≤ t) ↔ (t < x ∨ x < -t) := by
  subst ht
  have e1 : (nI a).toInt = (a : Int) := nI_toInt (by omega)
  have e2 : (-nI a).toInt = -(a : Int) := tI_neg e1 (by omega)
  rw [Int32.le_iff_toInt_le, Int32.lt_iff_toInt_lt, Int32.lt_iff_toInt_lt, e1, e2]
  unfold jabs
  by_cases z : 0 ≤ x
  · rw [if_pos z]
    rw [Int32.le_iff_toInt_le, show (0 : Int32).toInt = 0 from by decide] at z
    omega
  · rw [if_neg z, tI_neg rfl (by omega)]
    rw [Int32.le_iff_toInt_le, show (0 : Int32).toInt = 0 from by decide] at z
    omega
theorem Iz.off {f : Nat → Int32} {B : Nat} (z : Iz f B) (hB : B < 2 ^ 30) {c : Nat} (hc : c < cn f) : offB f c (f 0) = true ↔ (f 0 < f (12 + 8 * c + 4) ∨ f (12 + 8 * c + 4) < -f 0) := by
  obtain ⟨a, _, ha, e⟩ := z.1.S.1
  unfold offB
  rw [decide_eq_true_iff]
  exact off_iff (z.2 c hc).2.1 (z.2 c hc).2.2 hB ha e
theorem rt_B {f : Nat → Int32} {B c : Nat} (b : Bd f B c) (hs : inB (f (12 + 8 * c + 3)) (-20) 20 = true) : -159 ≤ (rt f c).toInt ∧ (rt f c).toInt ≤ 159 := by
  have h1 := inB_tI b.1
  have h2 := inB_tI hs
  rw [show (-99 : Int32).toInt = -99 from by decide, show (99 : Int32).toInt = 99 from by decide] at h1
  rw [show (-20 : Int32).toInt = -20 from by decide, show (20 : Int32).toInt = 20 from by decide] at h2
  unfold rt
  have e : (3 * f (12 + 8 * c + 3)).toInt = 3 * (f (12 + 8 * c + 3)).toInt := tI_mul (by decide) rfl (by omega) (by omega)
  rw [tI_add rfl e (by omega) (by omega)]
  omega
/-! a day -/
theorem dayM_cg {h h' : Nat → Int32} {c : Nat} (e : ∀ w, w < 8 → h' (12 + 8 * c + w) = h (12 + 8 * c + w)) (e1 : h' 1 = h 1) : ∀ w, w < 8 → dayM h' c (12 + 8 * c + w) = dayM h c (12 + 8 * c + w) := by
  intro w hw
  have r : rt h' c = rt h c := by unfold rt; rw [e 2 (by decide), e 3 (by decide)]
  have e0 : h' (12 + 8 * c) = h (12 + 8 * c) := e 0 (by decide)
  unfold dayM
  rw [e 6 (by decide), e 5 (by decide), e 4 (by decide), r, e1]
  rcases (show w = 0 ∨ w = 1 ∨ w = 2 ∨ w = 3 ∨ w = 4 ∨ w = 5 ∨ w = 6 ∨ w = 7 by omega) with rfl | rfl | rfl | rfl | rfl | rfl | rfl | rfl <;> (split <;> (try split) <;> simp [upd, e0, e 1, e 2, e 3, e 4, e 5, e 6, e 7])
theorem dayAll_at {h : Nat → Int32} {c : Nat} : ∀ n, c < n → ∀ w, w < 8 → dayAll h n (12 + 8 * c + w) = dayM h c (12 + 8 * c + w) := by
  intro n
  induction n with
  | zero => intro hc; exact absurd hc (Nat.not_lt_zero _)
  | succ n ih =>
    intro hc w hw
    show dayM (dayAll h n) n (12 + 8 * c + w) = _
    by_cases z : c = n
    · subst z
      exact dayM_cg (fun w hw => dayAll_ot c hw (Nat.le_refl _)) (dayAll_lo h c (by decide)) w hw
    · rw [dayM_ot hw z]; exact ih (by omega) w hw
theorem passD_last {h : Nat → Int32} {c : Nat} (hc : c < cn h) : ∀ d, ∀ w, w < 8 → passD h d (12 + 8 * c + w) = lastN h c d (12 + 8 * c + w) := by
  intro d
  induction d with
  | zero => intro w _; rfl
  | succ d ih =>
    intro w hw
    show dayAll (passD h d) (cn h) (12 + 8 * c + w) = dayM (lastN h c d) c (12 + 8 * c + w)
    rw [dayAll_at _ hc w hw]
    exact dayM_cg ih (by rw [passD_lo h d (by decide), lastN_lo h c d (by omega)]) w hw
theorem dayM_B {h : Nat → Int32} {B c : Nat} (b : Bd h B c) (hs : inB (h (12 + 8 * c + 3)) (-20) 20 = true) (h1 : 43200 ≤ B) (h2 : B + 159 < 2 ^ 30) : Bd (dayM h c) (B + 159) c := by
  obtain ⟨r1, r2⟩ := rt_B b hs
  obtain ⟨b1, b2, b3⟩ := b
  have e : (h (12 + 8 * c + 4) + rt h c).toInt = (h (12 + 8 * c + 4)).toInt + (rt h c).toInt := tI_add rfl rfl (by omega) (by omega)
  refine ⟨by rw [dayM_st (Or.inl (by decide))]; exact b1, ?_⟩
  unfold dayM
  split
  · split
    · rw [upd_self, show (43200 : Int32).toInt = 43200 from by decide]; omega
    · rw [upd_self, e]; omega
  · rw [upd_ne (by omega)]; omega
theorem passD_B {h : Nat → Int32} {D B : Nat} (W : Wk h) (v : ∀ c, c < cn h → IvC h D c) (b : ∀ c, c < cn h → Bd h B c) (h1 : 43200 ≤ B) : ∀ d, B + 159 * d < 2 ^ 30 → ∀ c, c < cn h → Bd (passD h d) (B + 159 * d) c := by
  intro d
  induction d with
  | zero => intro _ c hc; exact b c hc
  | succ d ih =>
    intro h2 c hc
    have i := ((dcD_Mx (f := h) W v d).2 c hc).2.2.1
    have := dayM_B (ih (by omega) c hc) i (by omega) (by omega)
    refine (this.congr ?_ ?_).mono (by omega)
    · exact dayAll_at _ hc 2 (by decide)
    · exact dayAll_at _ hc 4 (by decide)
/-! what each change keeps: (0 ≤ r, and the new State is well) or (r < 0, and nothing is changed) -/
def Ck (f F : Nat → Int32) (r : Int32) (B : Nat) : Prop := (0 ≤ r ∧ Iz F B ∧ goOk F) ∨ (r < 0 ∧ ¬ r < -6 ∧ F = f)
theorem Cg_z {f F f' : Nat → Int32} {r flt v : Int32} {B : Nat} (h : Cg f r F flt v f') (hf : ¬ flt < -6) (g : goOk f) (b : 0 ≤ r → ∀ c, c < cn F → Bd F B c) : Ck f F r B := by
  rcases h with ⟨_, e, h0, v1, eF⟩ | ⟨h1, e, eF⟩
  · have r0 := Ro.of v1 f eF
    refine Or.inl ⟨by rw [e]; exact h0, ⟨v1.congr r0.2, b (by rw [e]; exact h0)⟩, ?_⟩
    rw [eF]; exact goOk_Mx v1 g
  · exact Or.inr ⟨by rw [e]; exact h1, by rw [e]; exact hf, eF⟩
theorem rsF_hi {f : Nat → Int32} {x v : Int32} {j : Nat} (hj : 4 ≤ j) : rsF f x v j = f j := by
  unfold rsF
  by_cases h1 : x < 0
  · rw [if_pos h1]
  · rw [if_neg h1]
    by_cases h2 : 4 ≤ x
    · rw [if_pos h2]
    · rw [if_neg h2]
      by_cases h3 : inB v 1 (if ix x = 0 then 999 else 30) = true
      · rw [if_pos h3]
        obtain ⟨k, hk, rfl⟩ := nI_of h1
        have h4 : ¬ 4 ≤ k := fun z => h2 ((nI_leI (a := 4) (b := k) (by decide) hk).mpr z)
        rw [ix_nI hk, upd_ne (by omega)]
      · rw [if_neg h3]
section QC
variable {f : Nat → Int32} {B : Nat}
theorem ck_set (z : Iz f B) (g : goOk f) (x v : Int32) : Ck f (rsF f x v) (rsR f x v) B := Cg_z (Cg_set z.1.ro x v) (by unfold setE; first | (split <;> first | decide | (split <;> first | decide | (split <;> first | decide | (split <;> decide)))) | decide) g (fun _ c hc => by
  rw [cn_low (rsF_hi (by decide))] at hc
  exact (z.2 c hc).congr (rsF_hi (by omega)) (rsF_hi (by omega)))
theorem ck_hang (z : Iz f B) (g : goOk f) (h u d : Int32) : Ck f (acF f h u d) (acR f h u d) B := Cg_z (Cg_hang z.1.ro h u d) (by unfold hangR; first | (split <;> first | decide | (split <;> first | decide | (split <;> first | decide | (split <;> decide)))) | decide) g (fun _ => by
  unfold acF
  split
  · split
    · split
      · next hd =>
        split
        · next hn =>
          intro c hc
          rw [show cn (upd (begC f (cn f) h u d) 5 (nI (cn f + 1))) = cn f + 1 by show (upd _ 5 _ 5).toNatClampNeg = _; rw [upd_self]; exact nI_clamp (by omega)] at hc
          by_cases y : c < cn f
          · exact (z.2 c y).congr (by rw [upd_ne (by omega), begC_out (by omega)]) (by rw [upd_ne (by omega), begC_out (by omega)])
          · have ec : c = cn f := by omega
            subst ec
            unfold Bd
            rw [upd_ne (by omega), upd_ne (by omega)]
            have e2 : begC f (cn f) h u d (12 + 8 * cn f + 2) = d := by simp [begC, upd]
            have e4 : begC f (cn f) h u d (12 + 8 * cn f + 4) = 0 := by simp [begC, upd]
            rw [e2, e4, show (0 : Int32).toInt = 0 from by decide]
            exact ⟨hd, by omega, by omega⟩
        · exact z.2
      · exact z.2
    · exact z.2
  · exact z.2)
theorem ck_lad (z : Iz f B) (g : goOk f) (u : Int32) : Ck f (alF f u) (alR f u) B := Cg_z (Cg_lad z.1.ro u) (by unfold lddR; first | (split <;> first | decide | (split <;> first | decide | (split <;> first | decide | (split <;> decide)))) | decide) g (fun _ => by
  unfold alF
  split
  · split
    · next hl =>
      intro c hc
      rw [cn_low (by rw [upd_ne (by decide), upd_ne (by omega)])] at hc
      exact (z.2 c hc).congr (by rw [upd_ne (by omega), upd_ne (by omega)]) (by rw [upd_ne (by omega), upd_ne (by omega)])
    · exact z.2
  · exact z.2)
theorem ck_scr (z : Iz f B) (g : goOk f) (x t : Int32) : Ck f (tsF f x t) (tsR f x t) B := Cg_z (Cg_scr z.1.ro x t) (by unfold scE; first | (split <;> first | decide | (split <;> first | decide | (split <;> first | decide | (split <;> decide)))) | decide) g (fun _ => by
  unfold tsF
  split
  · split
    · split
      · intro c hc
        rw [cn_low (by rw [upd_ne (by omega)])] at hc
        exact (z.2 c hc).congr (by rw [upd_ne (by omega)]) (by rw [upd_ne (by omega)])
      · exact z.2
    · exact z.2
  · exact z.2)
theorem chC_B {s : Int32} {S : Int} (hs : s.toInt = S) (h1 : -3600 ≤ S) (h2 : S ≤ 3600) (hB : B < 2 ^ 30) (b : ∀ c, c < cn f → Bd f B c) : ∀ k, k ≤ cn f → ∀ c, c < cn f → (k ≤ c → Bd (chC f s k) B c) ∧ (c < k → Bd (chC f s k) (B + 3600) c) := by
  intro k
  induction k with
  | zero => intro _ c hc; exact ⟨fun _ => b c hc, fun y => absurd y (Nat.not_lt_zero _)⟩
  | succ k ih =>
    intro hk c hc
    obtain ⟨i1, i2⟩ := ih (by omega) c hc
    unfold chC
    split
    · exact ⟨fun y => i1 (by omega), fun y => if q : c < k then i2 q else (i1 (by omega)).mono (by omega)⟩
    · refine ⟨fun y => (i1 (by omega)).congr (by rw [upd_ne (by omega)]) (by rw [upd_ne (by omega)]), fun y => ?_⟩
      by_cases q : c = k
      · subst q
        obtain ⟨b1, b2, b3⟩ := i1 (Nat.le_refl _)
        refine ⟨by rw [upd_ne (by omega)]; exact b1, ?_⟩
        rw [upd_self, tI_add rfl hs (by omega) (by omega)]; omega
      · exact (i2 (by omega)).congr (by rw [upd_ne (by omega)]) (by rw [upd_ne (by omega)])
theorem ck_chg (z : Iz f B) (g : goOk f) (hB : B < 2 ^ 30) (x : Int32) : Ck f (ccF f x) (ccR f x) (B + 3600) := Cg_z (Cg_chg z.1.ro x) (by unfold chE; first | (split <;> first | decide | (split <;> first | decide | (split <;> first | decide | (split <;> decide)))) | decide) g (fun _ => by
  unfold ccF
  split
  · intro c hc
    rw [cn_low (chC_low f 3600 _ (by decide))] at hc
    exact (chC_B (s := 3600) (S := 3600) (by decide) (by decide) (by decide) hB z.2 (cn f) (Nat.le_refl _) c hc).2 hc
  · split
    · intro c hc
      rw [cn_low (chC_low f (-3600) _ (by decide))] at hc
      exact (chC_B (s := -3600) (S := -3600) (by decide) (by decide) (by decide) hB z.2 (cn f) (Nat.le_refl _) c hc).2 hc
    · exact fun c hc => (z.2 c hc).mono (by omega))
theorem ps_B (z : Iz f B) (hB1 : 43200 ≤ B) {i : Nat} (hi : i ≤ 99) (hB : B + 159 * i < 2 ^ 30) : ∀ c, c < cn f → Bd (psW f (nI i)) (B + 159 * i) c := by
  intro c hc
  obtain ⟨D, hD, h4, W, S, vc⟩ := id z.1
  have d1 := (dcD_Mx (f := f) W vc i).1
  rw [Mx_self] at d1
  have e1 : psW f (nI i) = Mx (cn f) (pasF f i) f := by
    unfold psW pasF
    rw [ix_nI (by omega), d1, Mx_upd (by omega)]
  have b := passD_B W vc z.2 hB1 i hB c hc
  refine b.congr ?_ ?_
  · rw [e1, Mx_in (by omega)]; unfold pasF; rw [upd_ne (by omega)]
  · rw [e1, Mx_in (by omega)]; unfold pasF; rw [upd_ne (by omega)]
theorem ck_pass (z : Iz f B) (g : goOk f) (hB1 : 43200 ≤ B) {i : Nat} (hi : i ≤ 99) (hB : B + 159 * i < 2 ^ 30) : Ck f (psF f (nI i)) (psR f (nI i)) (B + 159 * i) := Cg_z (Cg_pass z.1.ro (nI i)) (by unfold passR; first | (split <;> first | decide | (split <;> first | decide | (split <;> first | decide | (split <;> decide)))) | decide) g (fun _ => by
  unfold psF
  split
  · split
    · intro c hc
      have e5 : psW f (nI i) 5 = f 5 := by unfold psW; rw [upd_ne (by decide)]; exact dcD_low _ _ _ _ (by decide)
      rw [cn_low e5] at hc
      exact ps_B z hB1 hi hB c hc
    · exact fun c hc => (z.2 c hc).mono (by omega)
  · exact fun c hc => (z.2 c hc).mono (by omega))
theorem winC_24 {f : Nat → Int32} {B c k : Nat} {t : Int32} (b : Bd f B c) : Bd (winC f k t) B c := by
  have s4 : ∀ h : Nat → Int32, Bd h B c → Bd (setC h k) B c := by
    intro h b
    unfold setC
    refine ⟨by rw [upd_ne (by omega), upd_ne (by omega), upd_ne (by omega), upd_ne (by omega)]; exact b.1, ?_⟩
    rw [upd_ne (by omega), upd_ne (by omega)]
    by_cases q : c = k
    · subst q; rw [upd_self, show (0 : Int32).toInt = 0 from by decide]; omega
    · rw [upd_ne (by omega), upd_ne (by omega)]; exact b.2
  have t4 : Bd (turC f k) B c := by
    unfold turC
    split
    · split
      · exact b
      · split
        · exact b
        · exact b.congr (by rw [upd_ne (by omega)]) (by rw [upd_ne (by omega)])
    · split
      · split
        · exact b
        · split
          · exact b
          · exact b.congr (by rw [upd_ne (by omega)]) (by rw [upd_ne (by omega)])
      · exact b.congr (by rw [upd_ne (by omega)]) (by rw [upd_ne (by omega)])
  unfold winC
  split
  · exact s4 _ b
  · split
    · exact s4 _ t4
    · exact s4 _ b
theorem wbN_B {f w : Nat → Int32} {B c : Nat} (b : Bd f B c) : ∀ k, Bd (wbN f w k) B c := by
  intro k
  induction k with
  | zero => exact b
  | succ k ih => unfold wbN; split; exact winC_24 ih; exact ih
theorem ck_bw (z : Iz f B) (g : goOk f) {w : Nat → Int32} {L : Nat} (gd : gdN f w L) (hL : L ≤ 80) : Ck f (bwF f w L) (bwR f w L) B := Cg_z (Cg_bw z.1.ro gd hL) (by decide) g (fun _ => by
  unfold bwF
  split
  · split
    · intro c hc
      have e5 : upd (wbN f w L) 7 (f 7 + moN f w L) 5 = f 5 := by rw [upd_ne (by decide)]; exact wbN_low f w L (by decide)
      rw [cn_low e5] at hc
      exact (wbN_B (z.2 c hc) L).congr (by rw [upd_ne (by omega)]) (by rw [upd_ne (by omega)])
    · exact z.2
  · exact z.2)
end QC
end
section
/-! the order in which clocks need a winder: each rank has its clock, and the keys rise with the ranks -/
theorem pigeon : ∀ (n : Nat) (r : Nat → Nat), (∀ c, c < n → r c < n) → (∀ a b, a < n → b < n → r a = r b → a = b) → ∀ k, k < n → ∃ c, c < n ∧ r c = k := by
  intro n
  induction n with
  | zero => intro r _ _ k hk; exact absurd hk (Nat.not_lt_zero _)
  | succ n ih =>
    intro r hr hi k hk
    have hr' : ∀ c, c < n → (fun c => if r c = n then r n else r c) c < n := by
      intro c hc
      show (if r c = n then r n else r c) < n
      split
      · next e =>
        have h1 := hr n (by omega)
        have : r n ≠ n := fun z => by have := hi c n (by omega) (by omega) (by rw [e, z]); omega
        omega
      · next e => have := hr c (by omega); omega
    have hi' : ∀ a b, a < n → b < n → (fun c => if r c = n then r n else r c) a = (fun c => if r c = n then r n else r c) b → a = b := by
      intro a b ha hb e
      have e : (if r a = n then r n else r a) = (if r b = n then r n else r b) := e
      by_cases ea : r a = n
      · by_cases eb : r b = n
        · exact hi a b (by omega) (by omega) (by rw [ea, eb])
        · rw [if_pos ea, if_neg eb] at e
          have := hi n b (by omega) (by omega) e; omega
      · by_cases eb : r b = n
        · rw [if_neg ea, if_pos eb] at e
          have := hi a n (by omega) (by omega) e; omega
        · rw [if_neg ea, if_neg eb] at e
          exact hi a b (by omega) (by omega) e
    by_cases kv : r n = k
    · exact ⟨n, by omega, kv⟩
    · by_cases kn : k = n
      · have hv : r n < n := by have := hr n (by omega); omega
        obtain ⟨c, hc, e⟩ := ih _ hr' hi' (r n) hv
        have e : (if r c = n then r n else r c) = r n := e
        by_cases q : r c = n
        · exact ⟨c, by omega, by omega⟩
        · rw [if_neg q] at e
          have := hi c n (by omega) (by omega) e; omega
      · obtain ⟨c, hc, e⟩ := ih _ hr' hi' k (by omega)
        have e : (if r c = n then r n else r c) = k := e
        by_cases q : r c = n
        · rw [if_pos q] at e; exact absurd e kv
        · rw [if_neg q] at e; exact ⟨c, by omega, e⟩
def ke (f : Nat → Int32) (c : Nat) : Nat := 16 * duS f c + c
theorem raN_s {f : Nat → Int32} {c k : Nat} (hk : k < 16) (hc : c < 16) : raN f c (k + 1) = raN f c k + if ke f k < ke f c then 1 else 0 := by
  show (if duS f k < duS f c then raN f c k + 1 else if duS f k = duS f c then (if c ≤ k then raN f c k else raN f c k + 1) else raN f c k) = _
  unfold ke
  split
  · rw [if_pos (by omega)]
  · split
    · split
      · rw [if_neg (by omega), Nat.add_zero]
      · rw [if_pos (by omega)]
    · rw [if_neg (by omega), Nat.add_zero]
theorem raN_mono {f : Nat → Int32} {a b : Nat} (ha : a < 16) (hb : b < 16) (h : ke f a < ke f b) : ∀ k, k ≤ 16 → raN f a k + (if a < k then 1 else 0) ≤ raN f b k := by
  intro k
  induction k with
  | zero => intro _; rw [if_neg (Nat.not_lt_zero _)]; exact Nat.le_refl _
  | succ k ih =>
    intro hk
    have i := ih (by omega)
    rw [raN_s (by omega) ha, raN_s (by omega) hb]
    by_cases e : a = k
    · subst e
      rw [if_neg (Nat.lt_irrefl _)] at i
      rw [if_neg (Nat.lt_irrefl _), if_pos (by omega), if_pos h]; omega
    · by_cases y : ke f k < ke f a
      · rw [if_pos y, if_pos (show ke f k < ke f b by omega)]
        by_cases q : a < k
        · rw [if_pos q] at i; rw [if_pos (by omega)]; omega
        · rw [if_neg q] at i; rw [if_neg (by omega)]; omega
      · rw [if_neg y]
        by_cases q : a < k
        · rw [if_pos q] at i; rw [if_pos (by omega)]; omega
        · rw [if_neg q] at i; rw [if_neg (by omega)]; omega
theorem raN_lt2 {f : Nat → Int32} {n a b : Nat} (hn : n ≤ 16) (ha : a < n) (hb : b < n) (h : ke f a < ke f b) : raN f a n < raN f b n := by
  have := raN_mono (show a < 16 by omega) (show b < 16 by omega) h n hn
  rw [if_pos ha] at this; omega
theorem raN_inj {f : Nat → Int32} {n : Nat} (hn : n ≤ 16) (a b : Nat) (ha : a < n) (hb : b < n) (h : raN f a n = raN f b n) : a = b := by
  rcases Nat.lt_trichotomy (ke f a) (ke f b) with y | y | y
  · have := raN_lt2 hn ha hb y; omega
  · unfold ke at y; omega
  · have := raN_lt2 hn hb ha y; omega
theorem ke_lt {f : Nat → Int32} {n a b : Nat} (hn : n ≤ 16) (ha : a < n) (hb : b < n) (h : raN f a n < raN f b n) : ke f a < ke f b := by
  rcases Nat.lt_trichotomy (ke f a) (ke f b) with y | y | y
  · exact y
  · have : a = b := by unfold ke at y; omega
    subst this; omega
  · have := raN_lt2 hn hb ha y; omega
/-- the clock of a rank -/
def RK (f : Nat → Int32) (k c : Nat) : Prop := c < cn f ∧ raN f c (cn f) = k
theorem RK_ex {f : Nat → Int32} (hn : cn f ≤ 16) {k : Nat} (hk : k < cn f) : ∃ c, RK f k c :=
  pigeon (cn f) (fun c => raN f c (cn f)) (fun c hc => raN_lt f c (cn f) hc) (fun a b ha hb e => raN_inj hn a b ha hb e) k hk
theorem neC_rank {f : Nat → Int32} (hn : cn f ≤ 16) {k c : Nat} (h : RK f k c) : neC f (cn f) (nI k) (cn f) = nI c := by
  obtain ⟨hc, e⟩ := h
  have hk := raN_lt f c (cn f) hc
  have key : ∀ m, m ≤ cn f → cn f - m ≤ c → neC f (cn f) (nI k) m = nI c := by
    intro m
    induction m with
    | zero => intro _ z; omega
    | succ m ih =>
      intro hm z
      unfold neC
      by_cases y : cn f - (m + 1) = c
      · rw [y, e, if_pos rfl]
      · rw [if_neg (fun q => y ?_)]
        · exact ih (by omega) (by omega)
        · have hl := raN_lt f (cn f - (m + 1)) (cn f) (by omega)
          have := (nI_eq (by omega) (by omega)).mp q
          exact raN_inj (f := f) hn _ _ (by omega) hc (by omega)
  exact key _ (Nat.le_refl _) (by omega)
theorem neC_none {f : Nat → Int32} (W : Wk f) : neC f (cn f) (nI (cn f)) (cn f) = -1 := neC_out W (Or.inr (Int32.lt_irrefl))
/-- the set of the clocks of the ranks below k -/
def SB (f : Nat → Int32) (k s : Nat) : Prop := s < 2 ^ 16 ∧ ∀ i, s.testBit i = true ↔ (i < cn f ∧ raN f i (cn f) < k)
theorem SB_0 (f : Nat → Int32) : SB f 0 0 := ⟨by decide, fun i => ⟨fun z => (by rw [Nat.zero_testBit] at z; cases z), fun z => absurd z.2 (Nat.not_lt_zero _)⟩⟩
theorem SB_s {f : Nat → Int32} {k s c : Nat} (h : SB f k s) (hn : cn f ≤ 16) (r : RK f k c) : SB f (k + 1) (s ||| 2 ^ c) := by
  have hc := r.1
  refine ⟨Nat.or_lt_two_pow h.1 (Nat.pow_lt_pow_right (by decide) (by omega)), fun i => ?_⟩
  rw [Nat.testBit_or, Nat.testBit_two_pow, Bool.or_eq_true, h.2 i, decide_eq_true_iff]
  constructor
  · rintro (z | z)
    · exact ⟨z.1, by omega⟩
    · subst z; exact ⟨hc, by have := r.2; omega⟩
  · rintro ⟨z1, z2⟩
    by_cases q : raN f i (cn f) < k
    · exact Or.inl ⟨z1, q⟩
    · exact Or.inr (raN_inj (f := f) hn c i hc z1 (by have := r.2; omega))
theorem ones_tab : ∀ n, n < 17 → (1 : Int32) <<< (nI n &&& 31) - 1 = nI (2 ^ n - 1) := by decide +kernel
theorem SB_n {f : Nat → Int32} {s : Nat} (h : SB f (cn f) s) (hn : cn f ≤ 16) : nI s = (1 : Int32) <<< (nI (cn f) &&& 31) - 1 := by
  rw [ones_tab (cn f) (by omega)]
  refine congrArg nI (Nat.eq_of_testBit_eq fun i => ?_)
  rw [Nat.testBit_two_pow_sub_one]
  by_cases z : i < cn f
  · rw [decide_eq_true z]; exact (h.2 i).mpr ⟨z, raN_lt f i (cn f) z⟩
  · rw [decide_eq_false z]
    cases e : s.testBit i with
    | false => rfl
    | true => exact absurd ((h.2 i).mp e).1 z
theorem SB_or {f : Nat → Int32} {k s c : Nat} (h : SB f k s) (hc : c < 16) : nI s ||| (1 : Int32) <<< (nI c &&& 31) = nI (s ||| 2 ^ c) := by
  have h1 := h.1
  have h2 : 2 ^ c < 2 ^ 16 := Nat.pow_lt_pow_right (by decide) hc
  rw [sh_tab c hc, nI_or (by omega) (by omega)]
/-- the key of the rank before -/
def LB (f : Nat → Int32) (k : Nat) (x : Int32) : Prop := (k = 0 ∧ x = -1) ∨ ∃ c, 0 < k ∧ RK f (k - 1) c ∧ x = nI (ke f c)
theorem duS_31 {f : Nat → Int32} (h : Tm f) (c : Nat) : duS f c ≤ 31 := by
  have h1 := h.1.2
  unfold duS duC stD
  split
  · omega
  · have := duL_le f c (f 0) (max 1 (ix (f 1) + 1 - ix (f (12 + 8 * c + 5))) - 1) 1
    have : max 1 (ix (f 1) + 1 - ix (f (12 + 8 * c + 5))) ≤ 31 := by omega
    omega
theorem LB_gt {f : Nat → Int32} {k c : Nat} {x : Int32} (T : Tm f) (hn : cn f ≤ 16) (h : LB f k x) (r : RK f k c) : ¬ nI (16 * duS f c + c) ≤ x := by
  have hc := r.1
  have d1 := duS_31 T c
  rcases h with ⟨_, rfl⟩ | ⟨c', hk, r', rfl⟩
  · intro z
    rw [Int32.le_iff_toInt_le, nI_toInt (by omega), show (-1 : Int32).toInt = -1 from by decide] at z; omega
  · have d2 := duS_31 T c'
    have hc' := r'.1
    have := ke_lt (f := f) hn r'.1 r.1 (by have := r'.2; have := r.2; omega)
    intro z
    unfold ke at z this
    have := (nI_leI (by omega) (by omega)).mp z
    omega
theorem LB_s {f : Nat → Int32} {k c : Nat} (r : RK f k c) : LB f (k + 1) (nI (16 * duS f c + c)) := Or.inr ⟨c, by omega, r, rfl⟩
theorem duS_0 {f : Nat → Int32} {c : Nat} (h : offB f c (f 0) = true) : duS f c = 0 := by unfold duS duC; rw [if_pos h]
theorem duS_p {f : Nat → Int32} {c : Nat} (h : offB f c (f 0) = false) : 0 < duS f c := by
  unfold duS duC; rw [h, if_neg (by decide)]
  exact (duL_spec (h := f) c (f 0) (stD f c - 1) 1).1
end
section
/-! days until off; which ladder to buy -/
def LSt (f : Nat → Int32) (c m D : Nat) (g : Nat → Int32) : Prop := (∀ w, w < 8 → g (12 + 8 * c + w) = lastN f c m (12 + 8 * c + w)) ∧ g 0 = f 0 ∧ g 1 = f 1 ∧ cn g = cn f ∧ g 4 = nI (D + m)
theorem LSt_0 {f : Nat → Int32} {c D : Nat} (h : f 4 = nI D) : LSt f c 0 D f := ⟨fun _ _ => rfl, rfl, rfl, rfl, h⟩
theorem ps_at {f : Nat → Int32} {c i D : Nat} (v : Iv f) (hc : c < cn f) (h1 : 1 ≤ i) (h2 : i ≤ 99) (h4 : f 4 = nI D) (h : D + i ≤ 9999) : 0 ≤ psR f (nI i) ∧ LSt f c i D (psF f (nI i)) := by
  obtain ⟨D', hD, h4', W, S, vc⟩ := id v
  have l16 := W.2.1
  have d1 := (dcD_Mx (f := f) W vc i).1
  rw [Mx_self] at d1
  have e1 : psW f (nI i) = Mx (cn f) (pasF f i) f := by
    unfold psW pasF
    rw [ix_nI (by omega), d1, Mx_upd (by omega)]
  have b1 : inB (nI i) 1 99 = true := by
    rw [inB_t]
    exact ⟨fun z => by have := (nI_ltI (a := i) (b := 1) (by omega) (by decide)).mp z; omega, fun z => by have := (nI_ltI (a := 99) (b := i) (by decide) (by omega)).mp z; omega⟩
  have b2 : f 4 + nI i ≤ 9999 := by
    rw [h4, nI_add]; exact (nI_leI (a := D + i) (b := 9999) (by omega) (by decide)).mpr h
  have eF : psF f (nI i) = psW f (nI i) := by unfold psF; rw [if_pos b1, if_pos b2]
  have lo : ∀ j, j < 12 → j ≠ 4 → psW f (nI i) j = f j := fun j hj hne => by
    unfold psW; rw [upd_ne hne]; exact dcD_low _ _ _ _ hj
  refine ⟨?_, fun w hw => ?_, ?_, ?_, ?_, ?_⟩
  · unfold psR; rw [if_pos b1, if_pos b2]; exact nI_pos' (by omega)
  · rw [eF, e1, Mx_in (by omega)]
    unfold pasF
    rw [upd_ne (by omega)]
    exact passD_last hc i w hw
  · rw [eF]; exact lo 0 (by decide) (by decide)
  · rw [eF]; exact lo 1 (by decide) (by decide)
  · rw [eF]; exact cn_low (lo 5 (by decide) (by decide))
  · rw [eF]; unfold psW; rw [upd_self, h4, nI_add]
theorem offB_eq {g h : Nat → Int32} {c : Nat} {t t' : Int32} (e : g (12 + 8 * c + 4) = h (12 + 8 * c + 4)) (et : t = t') : offB g c t = offB h c t' := by unfold offB; rw [e, et]
theorem LSt_no {f g : Nat → Int32} {c m D : Nat} (v : Iv f) (hc : c < cn f) (hd : duS f c = m + 1) (L : LSt f c m D g) : offB g c (g 0) = false := by
  rw [offB_eq (h := lastN f c m) (t' := lastN f c m 0) (L.1 4 (by decide)) (by rw [L.2.1, lastN_lo f c m (by omega)])]
  exact (lasts_spec v hc).2 m (by omega)
theorem LSt_yes {f g : Nat → Int32} {c m D : Nat} (v : Iv f) (vg : Iv g) (hc : c < cn f) (hd : duS f c = m + 1) (L : LSt f c m D g) (h : D + m + 1 ≤ 9999) : 0 ≤ psR g 1 ∧ offB (psF g 1) c (psF g 1 0) = true ∧ cn (psF g 1) = cn f := by
  obtain ⟨l1, l2, l3, l4, l5⟩ := L
  obtain ⟨p1, p2, p3, p4, p5, p6⟩ := ps_at (f := g) (c := c) (i := 1) (D := D + m) vg (by rw [l4]; exact hc) (by decide) (by decide) l5 h
  refine ⟨p1, ?_, by rw [← l4]; exact p5⟩
  have e : ∀ w, w < 8 → psF g 1 (12 + 8 * c + w) = lastN f c (m + 1) (12 + 8 * c + w) := fun w hw => (p2 w hw).trans (dayM_cg l1 (by rw [l3, lastN_lo f c m (by omega)]) w hw)
  rw [offB_eq (h := lastN f c (m + 1)) (t' := lastN f c (m + 1) 0) (e 4 (by decide)) (by rw [show psF g 1 0 = g 0 from p3, l2, lastN_lo f c (m + 1) (by omega)]), ← hd]
  exact (lasts_spec v hc).1
theorem ladP_none {f : Nat → Int32} {r : Int32} : ∀ k, ladP f r k = none ↔ ∀ j, j < k → ¬ (¬ r ≤ 0 ∧ ¬ f (8 + j) < r) := by
  intro k
  induction k with
  | zero => exact ⟨fun _ j hj => absurd hj (Nat.not_lt_zero _), fun _ => rfl⟩
  | succ k ih =>
    unfold ladP
    cases e : ladP f r k with
    | none =>
      have i := ih.mp e
      show (if ¬ r ≤ 0 ∧ ¬ f (8 + k) < r then some k else none) = none ↔ _
      split
      · next h => exact ⟨fun z => (by cases z), fun z => absurd h (z k (by omega))⟩
      · next h =>
        refine ⟨fun _ j hj => ?_, fun _ => rfl⟩
        by_cases q : j = k
        · subst q; exact h
        · exact i j (by omega)
    | some p =>
      have h2 : ¬ ladP f r k = none := by rw [e]; intro z; cases z
      constructor
      · intro z
        exfalso
        have z : (if (¬ r ≤ 0 ∧ ¬ f (8 + k) < r) ∧ ¬ f (8 + p) ≤ f (8 + k) then some k else some p) = none := z
        split at z <;> cases z
      · intro z
        exact absurd (ih.mpr (fun j hj => z j (by omega))) h2
theorem canW_iff {f : Nat → Int32} {c : Nat} : canW f c = true ↔ f (12 + 8 * c + 1) = 0 ∨ ∃ j, j < ln f ∧ ¬ f (12 + 8 * c + 1) ≤ 0 ∧ ¬ f (8 + j) < f (12 + 8 * c + 1) := by
  rw [canW_t]
  unfold ladF
  constructor
  · rintro (h | h)
    · exact Or.inl h
    · refine Or.inr ?_
      apply Classical.byContradiction
      intro z
      exact h ((ladP_none _).mpr (fun j hj q => z ⟨j, hj, q⟩))
  · rintro (h | ⟨j, hj, q⟩)
    · exact Or.inl h
    · exact Or.inr (fun z => (ladP_none _).mp z j hj q)
theorem cwN_0 {f : Nat → Int32} : ∀ k, cwN f k = 0 ↔ ∀ c, c < k → canW f c = true := by
  intro k
  induction k with
  | zero => exact ⟨fun _ c hc => absurd hc (Nat.not_lt_zero _), fun _ => rfl⟩
  | succ k ih =>
    unfold cwN
    split
    · next h =>
      rw [ih]
      refine ⟨fun z c hc => ?_, fun z c hc => z c (by omega)⟩
      by_cases q : c = k
      · subst q; exact h
      · exact z c (by omega)
    · next h => exact ⟨fun z => by omega, fun z => absurd (z k (by omega)) h⟩
/-- the highest clock out of reach is R rungs high -/
def NF (f : Nat → Int32) (R : Nat) : Prop := ln f < 4 ∧ 1 ≤ R ∧ R ≤ 30 ∧ (∃ c, c < cn f ∧ canW f c = false ∧ f (12 + 8 * c + 1) = nI R) ∧ ∀ c, c < cn f → canW f c = false → ∃ a, a ≤ R ∧ f (12 + 8 * c + 1) = nI a
theorem ru_spec {f : Nat → Int32} (v : Iv f) : ∀ k, k ≤ cn f → (ruN f k = 0 ∧ ∀ c, c < k → canW f c = true) ∨ ∃ R, 1 ≤ R ∧ R ≤ 30 ∧ ruN f k = nI R ∧ (∃ c, c < k ∧ canW f c = false ∧ f (12 + 8 * c + 1) = nI R) ∧ ∀ c, c < k → canW f c = false → ∃ a, a ≤ R ∧ f (12 + 8 * c + 1) = nI a := by
  obtain ⟨D, hD, h4, W, S, vc⟩ := id v
  intro k
  induction k with
  | zero => intro _; exact Or.inl ⟨rfl, fun c hc => absurd hc (Nat.not_lt_zero _)⟩
  | succ k ih =>
    intro hk
    unfold ruN
    by_cases z : canW f k = true
    · rw [if_pos z]
      rcases ih (by omega) with ⟨e1, e2⟩ | ⟨R, r1, r2, e1, ⟨c, hc, c1, c2⟩, e3⟩
      · exact Or.inl ⟨e1, fun c hc => if q : c = k then q ▸ z else e2 c (by omega)⟩
      · refine Or.inr ⟨R, r1, r2, e1, ⟨c, by omega, c1, c2⟩, fun c hc q => ?_⟩
        by_cases y : c = k
        · subst y; rw [z] at q; cases q
        · exact e3 c (by omega) q
    · rw [if_neg z]
      obtain ⟨a, ha, ea⟩ := (vc k (by omega)).2.1
      have zf : canW f k = false := by
        cases q : canW f k with
        | false => rfl
        | true => exact absurd q z
      have a0 : a ≠ 0 := fun y => z (canW_t.mpr (Or.inl (by rw [ea, y]; rfl)))
      rw [ea]
      rcases ih (by omega) with ⟨e1, e2⟩ | ⟨R, r1, r2, e1, ⟨c, hc, c1, c2⟩, e3⟩
      · have j1 : jmax 0 (nI a) = nI a := by
          unfold jmax; rw [if_pos (show (0 : Int32) < nI a from (nI_ltI (a := 0) (b := a) (by decide) (by omega)).mpr (by omega))]
        rw [e1, j1]
        refine Or.inr ⟨a, by omega, ha, rfl, ⟨k, by omega, zf, ea⟩, fun c hc q => ?_⟩
        by_cases y : c = k
        · subst y; exact ⟨a, Nat.le_refl _, ea⟩
        · rw [e2 c (by omega)] at q; cases q
      · rw [e1]
        by_cases y : a ≤ R
        · have j1 : jmax (nI R) (nI a) = nI R := by
            unfold jmax; rw [if_neg (fun q => by have := (nI_ltI (a := R) (b := a) (by omega) (by omega)).mp q; omega)]
          rw [j1]
          refine Or.inr ⟨R, r1, r2, rfl, ⟨c, by omega, c1, c2⟩, fun c hc q => ?_⟩
          by_cases y2 : c = k
          · subst y2; exact ⟨a, y, ea⟩
          · exact e3 c (by omega) q
        · have j1 : jmax (nI R) (nI a) = nI a := by
            unfold jmax; rw [if_pos ((nI_ltI (by omega) (by omega)).mpr (by omega))]
          rw [j1]
          refine Or.inr ⟨a, by omega, ha, rfl, ⟨k, by omega, zf, ea⟩, fun c hc q => ?_⟩
          by_cases y2 : c = k
          · subst y2; exact ⟨a, Nat.le_refl _, ea⟩
          · obtain ⟨b, b1, b2⟩ := e3 c (by omega) q
            exact ⟨b, by omega, b2⟩
theorem lf_cases {f : Nat → Int32} (v : Iv f) : (ln f = 4 ∧ lfC f = -4) ∨ (ln f < 4 ∧ lfC f = -6 ∧ cwN f (cn f) = 0) ∨ ∃ R, NF f R ∧ lfC f = nI R ∧ 0 < cwN f (cn f) := by
  have l4 := v.W.2.2.2
  unfold lfC
  by_cases z : ln f < 4
  · rw [if_pos z]
    rcases ru_spec v _ (Nat.le_refl _) with ⟨e1, e2⟩ | ⟨R, r1, r2, e1, e2, e3⟩
    · rw [e1, if_pos rfl]
      exact Or.inr (Or.inl ⟨z, rfl, (cwN_0 _).mpr e2⟩)
    · rw [e1, if_neg (nI_ne0 (by omega) (by omega))]
      refine Or.inr (Or.inr ⟨R, ⟨z, r1, r2, e2, e3⟩, rfl, ?_⟩)
      apply Nat.pos_of_ne_zero
      intro q
      obtain ⟨c, hc, c1, _⟩ := e2
      rw [(cwN_0 _).mp q c hc] at c1; cases c1
  · rw [if_neg z]; exact Or.inl ⟨by omega, rfl⟩
theorem NF.ro {f f1 : Nat → Int32} {R : Nat} (n : NF f R) (r : Ro f1 f) : NF f1 R := by
  obtain ⟨n1, n2, n3, ⟨c, hc, c1, c2⟩, n5⟩ := n
  refine ⟨by rw [Ro_ln r]; exact n1, n2, n3, ⟨c, by rw [r.ec]; exact hc, by rw [Ro_can r hc]; exact c1, by rw [r.2 _ (by omega)]; exact c2⟩, fun c hc q => ?_⟩
  rw [r.ec] at hc
  rw [Ro_can r hc] at q
  rw [r.2 _ (by omega)]; exact n5 c hc q
theorem al_at {f : Nat → Int32} {u : Nat} (v : Iv f) (hl : ln f < 4) (h1 : 1 ≤ u) (h2 : u ≤ 30) : 0 ≤ alR f (nI u) ∧ cn (alF f (nI u)) = cn f ∧ ln (alF f (nI u)) = ln f + 1 ∧ (∀ c, alF f (nI u) (12 + 8 * c + 1) = f (12 + 8 * c + 1)) ∧ (∀ j, j < ln f → alF f (nI u) (8 + j) = f (8 + j)) ∧ alF f (nI u) (8 + ln f) = nI u := by
  have b1 : inB (nI u) 1 30 = true := by
    rw [inB_t]
    exact ⟨fun z => by have := (nI_ltI (a := u) (b := 1) (by omega) (by decide)).mp z; omega, fun z => by have := (nI_ltI (a := 30) (b := u) (by decide) (by omega)).mp z; omega⟩
  unfold alR alF
  rw [if_pos b1, if_pos hl, if_pos b1, if_pos hl]
  refine ⟨nI_pos' (by omega), cn_low (by rw [upd_ne (by decide), upd_ne (by omega)]), ?_, fun c => by rw [upd_ne (by omega), upd_ne (by omega)], fun j hj => by rw [upd_ne (by omega), upd_ne (by omega)], by rw [upd_ne (by omega), upd_self]⟩
  show (upd _ 6 _ 6).toNatClampNeg = _
  rw [upd_self]; exact nI_clamp (by omega)
theorem NF_less {f : Nat → Int32} {R : Nat} (v : Iv f) (n : NF f R) (h : 1 < R) : 0 ≤ alR f (nI (R - 1)) ∧ 0 < cwN (alF f (nI (R - 1))) (cn (alF f (nI (R - 1)))) := by
  obtain ⟨n1, n2, n3, ⟨c, hc, c1, c2⟩, n5⟩ := n
  obtain ⟨a1, a2, a3, a4, a5, a6⟩ := al_at v n1 (show 1 ≤ R - 1 by omega) (by omega)
  refine ⟨a1, Nat.pos_of_ne_zero fun q => ?_⟩
  have := (cwN_0 _).mp q c (by rw [a2]; exact hc)
  rw [canW_iff, a4, a3] at this
  rw [canW_f, ← canW_t, canW_iff] at c1
  rcases this with y | ⟨j, hj, y1, y2⟩
  · exact c1 (Or.inl y)
  · by_cases e : j = ln f
    · subst e
      rw [a6, c2] at y2
      exact y2 ((nI_ltI (by omega) (by omega)).mpr (by omega))
    · rw [a5 j (by omega)] at y2
      exact c1 (Or.inr ⟨j, by omega, y1, y2⟩)
theorem NF_full {f : Nat → Int32} {R : Nat} (v : Iv f) (n : NF f R) : 0 ≤ alR f (nI R) ∧ cwN (alF f (nI R)) (cn (alF f (nI R))) = 0 := by
  obtain ⟨n1, n2, n3, -, n5⟩ := n
  obtain ⟨a1, a2, a3, a4, a5, a6⟩ := al_at v n1 n2 n3
  refine ⟨a1, (cwN_0 _).mpr fun c hc => ?_⟩
  rw [a2] at hc
  rw [canW_iff, a4, a3]
  by_cases q : canW f c = true
  · rcases canW_iff.mp q with y | ⟨j, hj, y1, y2⟩
    · exact Or.inl y
    · exact Or.inr ⟨j, by omega, y1, by rw [a5 j hj]; exact y2⟩
  · have qf : canW f c = false := by
      cases e : canW f c with
      | false => rfl
      | true => exact absurd e q
    obtain ⟨a, ha, ea⟩ := n5 c hc qf
    by_cases y : a = 0
    · subst y; exact Or.inl ea
    · refine Or.inr ⟨ln f, by omega, ?_, ?_⟩
      · rw [ea]; exact nI_nle (by omega) (by omega)
      · rw [a6, ea]; exact fun z => by have := (nI_ltI (by omega) (by omega)).mp z; omega
end
section
/-! a beat of a set: how far, how many are wound, what it leaves -/
abbrev bt (x : Int32) (c : Nat) : Prop := (x >>> (nI c &&& 31)) &&& 1 = 1
def fmN (f : Nat → Int32) (x : Int32) : Nat → Nat
  | 0 => 0
  | c + 1 => if bt x c then max (fmN f x c) (ix (f (12 + 8 * c + 0))) else fmN f x c
def wrN (f : Nat → Int32) (x : Int32) : Nat → Nat
  | 0 => 0
  | c + 1 => if bt x c then (if canW f c = true then wrN f x c + 1 else wrN f x c) else wrN f x c
def wbC (f : Nat → Int32) (x : Int32) : Nat → Nat → Int32
  | 0 => f
  | c + 1 => if bt x c then (if canW f c = true then winC (wbC f x c) c (f 0) else wbC f x c) else wbC f x c
theorem wrN_le (f : Nat → Int32) (x : Int32) (c : Nat) : wrN f x c ≤ c := by
  induction c with
  | zero => exact Nat.le_refl _
  | succ c ih =>
    unfold wrN
    split
    · split <;> omega
    · omega
theorem ch_any (x : Int32) (w w' : Nat → Int32) (k : Nat) : ∀ j, j < chL x k → chW w x k j = chW w' x k j := fun j hj =>
  ((ch_lo x 0 w (fun _ => 0) k).2 j hj).trans ((ch_lo x 0 w' (fun _ => 0) k).2 j hj).symm
theorem chW_s {w : Nat → Int32} {x : Int32} {c : Nat} (h : bt x c) : chW w x (c + 1) = upd (chW w x c) (chL x c) (nI c) ∧ chL x (c + 1) = chL x c + 1 := by
  constructor
  · show (if (x >>> (nI c &&& 31)) &&& 1 = 1 then _ else _) = _; rw [if_pos h]
  · show (if (x >>> (nI c &&& 31)) &&& 1 = 1 then _ else _) = _; rw [if_pos h]
theorem chW_n {w : Nat → Int32} {x : Int32} {c : Nat} (h : ¬ bt x c) : chW w x (c + 1) = chW w x c ∧ chL x (c + 1) = chL x c := by
  constructor
  · show (if (x >>> (nI c &&& 31)) &&& 1 = 1 then _ else _) = _; rw [if_neg h]
  · show (if (x >>> (nI c &&& 31)) &&& 1 = 1 then _ else _) = _; rw [if_neg h]
theorem upd_lt {w : Nat → Int32} {L : Nat} {y : Int32} : ∀ j, j < L → upd w L y j = w j := fun j hj => upd_ne (by omega)
theorem wy_spec {f : Nat → Int32} (v : Iv f) (x : Int32) (w : Nat → Int32) : ∀ c, c ≤ cn f → wkN f (chW w x c) (chL x c) = wrN f x c ∧ ∃ A b, spN f (chW w x c) (chL x c) = nI A ∧ hrN f (chW w x c) (chL x c) = nI b ∧ b ≤ 99 ∧ A ≤ 300 * c ∧ b ≤ fmN f x c ∧ 2 * fmN f x c ≤ A + b := by
  obtain ⟨D, hD, h4, W, S, vc⟩ := id v
  intro c
  induction c with
  | zero => intro _; exact ⟨rfl, 0, 0, rfl, rfl, by omega, by omega, Nat.le_refl _, Nat.le_refl _⟩
  | succ c ih =>
    intro hc
    obtain ⟨i0, A, b, i1, i2, i3, i4, i5, i6⟩ := ih (by omega)
    by_cases h : bt x c
    · obtain ⟨e1, e2⟩ := chW_s (w := w) h
      obtain ⟨a, ha, ea⟩ := (vc c (by omega)).1
      have l16 := W.2.1
      have eL : ix (upd (chW w x c) (chL x c) (nI c) (chL x c)) = c := by rw [upd_self]; exact ix_nI (by omega)
      have s1 := (spN_cong (f := f) (w := upd (chW w x c) (chL x c) (nI c)) (w2 := chW w x c) (chL x c) upd_lt).trans i1
      have s2 := (hrN_cong (f := f) (w := upd (chW w x c) (chL x c) (nI c)) (w2 := chW w x c) (chL x c) upd_lt).trans i2
      have s3 := (wkN_cong (f := f) (w := upd (chW w x c) (chL x c) (nI c)) (w2 := chW w x c) (chL x c) upd_lt).trans i0
      obtain ⟨B, hB, d1, d2, d3⟩ : ∃ B, B ≤ 99 ∧ jabs (nI a - nI b) = nI B ∧ b ≤ a + B ∧ a ≤ b + B := by
        by_cases z : b ≤ a
        · exact ⟨a - b, by omega, by rw [jabs_d (by omega) (by omega), if_pos z], by omega, by omega⟩
        · exact ⟨b - a, by omega, by rw [jabs_d (by omega) (by omega), if_neg z], by omega, by omega⟩
      have em : fmN f x (c + 1) = max (fmN f x c) a := by
        show (if bt x c then _ else _) = _
        rw [if_pos h, ea, ix_nI (by omega)]
      have hm : max (fmN f x c) a ≤ fmN f x c ∨ max (fmN f x c) a ≤ a := by omega
      have hm2 : fmN f x c ≤ max (fmN f x c) a ∧ a ≤ max (fmN f x c) a := by omega
      rw [e1, e2, em]
      refine ⟨?_, ?_⟩
      · rw [wkN_s, eL, s3]
        show _ = (if bt x c then _ else _)
        rw [if_pos h]
      · rw [spN_s, eL, s1, s2, ea, d1]
        have eh : hrN f (upd (chW w x c) (chL x c) (nI c)) (chL x c + 1) = nI a := by
          show f (12 + 8 * ix (upd (chW w x c) (chL x c) (nI c) (chL x c)) + 0) = _
          rw [eL]; exact ea
        rw [eh]
        split
        · exact ⟨A + B, a, nI_add _ _, rfl, by omega, by omega, by omega, by omega⟩
        · split
          · exact ⟨A + B, a, nI_add _ _, rfl, by omega, by omega, by omega, by omega⟩
          · exact ⟨A + B + 2 * a, a, by rw [show (2 : Int32) = nI 2 from rfl, pk_mul, nI_add, nI_add], rfl, by omega, by omega, by omega, by omega⟩
    · obtain ⟨e1, e2⟩ := chW_n (w := w) h
      rw [e1, e2]
      have em : fmN f x (c + 1) = fmN f x c := by show (if bt x c then _ else _) = _; rw [if_neg h]
      have ew : wrN f x (c + 1) = wrN f x c := by show (if bt x c then _ else _) = _; rw [if_neg h]
      rw [em, ew]
      exact ⟨i0, A, b, i1, i2, i3, by omega, i5, i6⟩
theorem mo_ge {f : Nat → Int32} (v : Iv f) (x : Int32) (w : Nat → Int32) {st wo : Nat} (e2 : f 2 = nI st) (e3 : f 3 = nI wo) (s30 : st ≤ 30) (w30 : wo ≤ 30) : ∃ t, t < 2 ^ 30 ∧ moN f (chW w x (cn f)) (chL x (cn f)) = nI t ∧ 2 * fmN f x (cn f) * st + wrN f x (cn f) * wo ≤ t ∧ 2 * fmN f x (cn f) * st + wrN f x (cn f) * wo < 2 ^ 30 := by
  obtain ⟨i0, A, b, i1, i2, i3, i4, i5, i6⟩ := wy_spec v x w (cn f) (Nat.le_refl _)
  have l16 := v.W.2.1
  have wl := wrN_le f x (cn f)
  have q1 : (A + b) * st ≤ 4899 * 30 := Nat.mul_le_mul (by omega) s30
  have q2 : wrN f x (cn f) * wo ≤ 16 * 30 := Nat.mul_le_mul (by omega) w30
  have q3 : 2 * fmN f x (cn f) * st ≤ (A + b) * st := Nat.mul_le_mul_right st (by omega)
  refine ⟨(A + b) * st + wrN f x (cn f) * wo, by omega, ?_, by omega, by omega⟩
  unfold moN
  rw [i0, i1, i2, e2, e3, nI_add, pk_mul, pk_mul, nI_add]
theorem canW_cg {f g : Nat → Int32} {c : Nat} (W : Wk f) (hl : ∀ j, j < 12 → j ≠ 7 → g j = f j) (hr : g (12 + 8 * c + 1) = f (12 + 8 * c + 1)) : canW g c = canW f c := by
  have l4 := W.2.2.2
  have el : ln g = ln f := ln_low (hl 6 (by decide) (by decide))
  have key : canW g c = true ↔ canW f c = true := by
    rw [canW_iff, canW_iff, hr, el]
    constructor
    · rintro (y | ⟨j, hj, y1, y2⟩)
      · exact Or.inl y
      · exact Or.inr ⟨j, hj, y1, by rw [← hl (8 + j) (by omega) (by omega)]; exact y2⟩
    · rintro (y | ⟨j, hj, y1, y2⟩)
      · exact Or.inl y
      · exact Or.inr ⟨j, hj, y1, by rw [hl (8 + j) (by omega) (by omega)]; exact y2⟩
  cases e : canW f c with
  | true => exact key.mpr e
  | false =>
    cases e2 : canW g c with
    | false => rfl
    | true => rw [key.mp e2] at e; cases e
theorem wb_eq {f : Nat → Int32} (W : Wk f) (x : Int32) (w : Nat → Int32) : ∀ c, c ≤ cn f → wbN f (chW w x c) (chL x c) = wbC f x c := by
  have l16 := W.2.1
  intro c
  induction c with
  | zero => intro _; rfl
  | succ c ih =>
    intro hc
    have i := ih (by omega)
    by_cases h : bt x c
    · obtain ⟨e1, e2⟩ := chW_s (w := w) h
      have eL : ix (upd (chW w x c) (chL x c) (nI c) (chL x c)) = c := by rw [upd_self]; exact ix_nI (by omega)
      have s1 := (wbN_cong (f := f) (w := upd (chW w x c) (chL x c) (nI c)) (w2 := chW w x c) (chL x c) upd_lt).trans i
      have ec : canW (wbC f x c) c = canW f c := by
        rw [← i]
        exact canW_cg W (fun j hj _ => wbN_low _ _ _ hj) (wbN_rungs _ _ _ _)
      rw [e1, e2]
      show (if canW (wbN f _ (chL x c)) (ix (upd (chW w x c) (chL x c) (nI c) (chL x c))) = true then winC (wbN f _ (chL x c)) (ix (upd (chW w x c) (chL x c) (nI c) (chL x c))) (f 0) else wbN f _ (chL x c)) = (if bt x c then _ else _)
      rw [eL, s1, ec, if_pos h]
    · obtain ⟨e1, e2⟩ := chW_n (w := w) h
      rw [e1, e2, i]
      show _ = (if bt x c then _ else _)
      rw [if_neg h]
theorem turC_ot {h : Nat → Int32} {k i w : Nat} (hw : w < 8) (hn : i ≠ k ∨ w ≠ 3) : turC h k (12 + 8 * i + w) = h (12 + 8 * i + w) := by
  unfold turC
  split
  · split
    · rfl
    · split
      · rfl
      · rw [upd_ne (by omega)]
  · split
    · split
      · rfl
      · split
        · rfl
        · rw [upd_ne (by omega)]
    · rw [upd_ne (by omega)]
theorem setC_ot {h : Nat → Int32} {k i w : Nat} (hw : w < 8) (hn : i ≠ k) : setC h k (12 + 8 * i + w) = h (12 + 8 * i + w) := by
  unfold setC
  rw [upd_ne (by omega), upd_ne (by omega), upd_ne (by omega), upd_ne (by omega)]
theorem winC_ot {h : Nat → Int32} {k i w : Nat} {t : Int32} (hw : w < 8) (hn : i ≠ k) : winC h k t (12 + 8 * i + w) = h (12 + 8 * i + w) := by
  unfold winC
  split
  · exact setC_ot hw hn
  · split
    · rw [setC_ot hw hn, turC_ot hw (Or.inl hn)]
    · exact setC_ot hw hn
theorem setC_do {h : Nat → Int32} {k : Nat} : setC h k (12 + 8 * k + 6) = 1 ∧ setC h k (12 + 8 * k + 4) = 0 ∧ setC h k (12 + 8 * k + 5) = 0 ∧ setC h k (12 + 8 * k + 7) = h (12 + 8 * k + 7) + 1 := by
  unfold setC
  refine ⟨?_, ?_, ?_, upd_self⟩
  · rw [upd_ne (by omega), upd_ne (by omega), upd_ne (by omega), upd_self]
  · rw [upd_ne (by omega), upd_ne (by omega), upd_self]
  · rw [upd_ne (by omega), upd_self]
theorem winC_do {h : Nat → Int32} {k : Nat} {t : Int32} : winC h k t (12 + 8 * k + 6) = 1 ∧ winC h k t (12 + 8 * k + 4) = 0 ∧ winC h k t (12 + 8 * k + 5) = 0 ∧ winC h k t (12 + 8 * k + 7) = h (12 + 8 * k + 7) + 1 := by
  unfold winC
  split
  · exact setC_do
  · split
    · have := setC_do (h := turC h k) (k := k)
      rw [turC_ot (i := k) (w := 7) (by decide) (Or.inr (by decide))] at this; exact this
    · exact setC_do
theorem wb7 {f : Nat → Int32} {x : Int32} : ∀ c i, wbC f x c (12 + 8 * i + 7) = f (12 + 8 * i + 7) + (if i < c ∧ bt x i ∧ canW f i = true then 1 else 0) := by
  intro c
  induction c with
  | zero => intro i; rw [if_neg (fun z => absurd z.1 (Nat.not_lt_zero _)), Int32.add_zero]; rfl
  | succ c ih =>
    intro i
    show (if bt x c then (if canW f c = true then winC (wbC f x c) c (f 0) else wbC f x c) else wbC f x c) (12 + 8 * i + 7) = _
    by_cases q : i = c
    · subst q
      by_cases h : bt x i
      · by_cases k : canW f i = true
        · rw [if_pos h, if_pos k, winC_do.2.2.2, ih, if_neg (fun z => absurd z.1 (Nat.lt_irrefl _)), Int32.add_zero, if_pos ⟨by omega, h, k⟩]
        · rw [if_pos h, if_neg k, ih, if_neg (fun z => k z.2.2), if_neg (fun z => k z.2.2)]
      · rw [if_neg h, ih, if_neg (fun z => h z.2.1), if_neg (fun z => h z.2.1)]
    · have e : (if i < c + 1 ∧ bt x i ∧ canW f i = true then (1 : Int32) else 0) = (if i < c ∧ bt x i ∧ canW f i = true then 1 else 0) := by
        by_cases y : i < c ∧ bt x i ∧ canW f i = true
        · rw [if_pos y, if_pos ⟨by omega, y.2⟩]
        · rw [if_neg y, if_neg (fun z => y ⟨by omega, z.2⟩)]
      rw [e, ← ih i]
      by_cases h : bt x c
      · by_cases k : canW f c = true
        · rw [if_pos h, if_pos k, winC_ot (by decide) q]
        · rw [if_pos h, if_neg k]
      · rw [if_neg h]
theorem wb_do {f : Nat → Int32} {x : Int32} {i : Nat} (h : bt x i) (k : canW f i = true) : ∀ c, i < c → wbC f x c (12 + 8 * i + 6) = 1 ∧ wbC f x c (12 + 8 * i + 4) = 0 ∧ wbC f x c (12 + 8 * i + 5) = 0 := by
  intro c
  induction c with
  | zero => intro z; exact absurd z (Nat.not_lt_zero _)
  | succ c ih =>
    intro hc
    have e : wbC f x (c + 1) = (if bt x c then (if canW f c = true then winC (wbC f x c) c (f 0) else wbC f x c) else wbC f x c) := rfl
    rw [e]
    by_cases q : i = c
    · subst q
      rw [if_pos h, if_pos k]
      obtain ⟨a, b, d, _⟩ := winC_do (h := wbC f x i) (k := i) (t := f 0)
      exact ⟨a, b, d⟩
    · have i3 := ih (by omega)
      by_cases h2 : bt x c
      · by_cases k2 : canW f c = true
        · rw [if_pos h2, if_pos k2, winC_ot (by decide) q, winC_ot (by decide) q, winC_ot (by decide) q]; exact i3
        · rw [if_pos h2, if_neg k2]; exact i3
      · rw [if_neg h2]; exact i3
theorem tw_wb {f g : Nat → Int32} {x : Int32} {n : Nat} (e : ∀ i, i < n → g (12 + 8 * i + 7) = wbC f x n (12 + 8 * i + 7)) : ∀ k, k ≤ n → twN g k = twN f k + nI (wrN f x k) := by
  intro k
  induction k with
  | zero => intro _; rfl
  | succ k ih =>
    intro hk
    show twN g k + g (12 + 8 * k + 7) = twN f k + f (12 + 8 * k + 7) + nI (if bt x k then (if canW f k = true then wrN f x k + 1 else wrN f x k) else wrN f x k)
    rw [ih (by omega), e k (by omega), wb7]
    by_cases h : bt x k
    · by_cases y : canW f k = true
      · rw [if_pos ⟨by omega, h, y⟩, if_pos h, if_pos y, nI_succ]
        ac_rfl
      · rw [if_neg (fun z => y z.2.2), if_pos h, if_neg y, Int32.add_zero]
        ac_rfl
    · rw [if_neg (fun z => h z.2.1), if_neg h, Int32.add_zero]
      ac_rfl
/-- all that a beat of a set leaves -/
def BW (f : Nat → Int32) (x : Int32) (F : Nat → Int32) (t : Nat) : Prop := cn F = cn f ∧ F 7 = f 7 + nI t ∧ F 2 = f 2 ∧ F 3 = f 3 ∧ (∀ c, c < cn f → canW F c = canW f c) ∧ (∀ c, c < cn f → bt x c → canW f c = true → F (12 + 8 * c + 6) = 1 ∧ F (12 + 8 * c + 4) = 0 ∧ F (12 + 8 * c + 5) = 0) ∧ twN F (cn f) = twN f (cn f) + nI (wrN f x (cn f))
theorem bw_all {f : Nat → Int32} (v : Iv f) (x : Int32) (w : Nat → Int32) {t : Nat} (ht : t < 2 ^ 30) (e : moN f (chW w x (cn f)) (chL x (cn f)) = nI t) : bwR f (chW w x (cn f)) (chL x (cn f)) = nI t ∧ BW f x (bwF f (chW w x (cn f)) (chL x (cn f))) t := by
  have gb := (gdB_t f _ _).mpr (chW_gd v.W w x)
  unfold bwR bwF
  rw [if_pos gb, if_pos gb, e, if_pos (nI_pos' (by omega)), wb_eq v.W x w _ (Nat.le_refl _)]
  have lo : ∀ j, j < 12 → wbC f x (cn f) j = f j := fun j hj => by rw [← wb_eq v.W x w _ (Nat.le_refl _)]; exact wbN_low _ _ _ hj
  have ru : ∀ c, wbC f x (cn f) (12 + 8 * c + 1) = f (12 + 8 * c + 1) := fun c => by rw [← wb_eq v.W x w _ (Nat.le_refl _)]; exact wbN_rungs _ _ _ _
  refine ⟨rfl, cn_low (by rw [upd_ne (by decide)]; exact lo 5 (by decide)), upd_self, by rw [upd_ne (by decide)]; exact lo 2 (by decide), by rw [upd_ne (by decide)]; exact lo 3 (by decide), fun c hc => ?_, fun c hc h k => ?_, ?_⟩
  · exact canW_cg v.W (fun j hj h7 => by rw [upd_ne h7]; exact lo j hj) (by rw [upd_ne (by omega)]; exact ru c)
  · rw [upd_ne (by omega), upd_ne (by omega), upd_ne (by omega)]
    exact wb_do h k _ hc
  · exact tw_wb (fun i hi => by rw [upd_ne (by omega)]) _ (Nat.le_refl _)
theorem way_1 {f w : Nat → Int32} : wayC (moN f w 1) (moN f (trN w 1 (1 / 2)) 1) = 2 := by
  show wayC (moN f w 1) (moN f w 1) = 2
  unfold wayC; rw [if_pos rfl]
theorem way_3 (a b : Int32) : ∃ t, t < 3 ∧ wayC a b = nI t := by
  unfold wayC
  split
  · exact ⟨2, by decide, rfl⟩
  · split
    · exact ⟨1, by decide, rfl⟩
    · exact ⟨0, by decide, rfl⟩
end
section
/-! the object, as the law knows it -/
def IN (C : MS) (pi : Nat → Nat) (d B : Nat) : Prop := d ≤ 6 ∧ C 10 0 = nI d ∧ piOk pi ∧ Iz (C 0) B ∧ (∀ k, k < 10 → goOk (C k)) ∧ ∀ j, j < d → Wk (C (pi j))
section INs
variable {C C1 : MS} {pi pi1 : Nat → Nat} {d B B' : Nat}
theorem IN.V (h : IN C pi d B) : Iv (C 0) := h.2.2.2.1.1
theorem IN.W (h : IN C pi d B) : Wk (C 0) := h.V.W
theorem IN.n16 (h : IN C pi d B) : cn (C 0) ≤ 16 := h.W.2.1
theorem IN.l4 (h : IN C pi d B) : ln (C 0) ≤ 4 := h.W.2.2.2
theorem IN.g (h : IN C pi d B) : goOk (C 0) := h.2.2.2.2.1 0 (by decide)
theorem IN.Ld (h : IN C pi d B) : Lad (C 0) := h.V.ro.L
theorem IN.Tt (h : IN C pi d B) : Tm (C 0) := h.V.ro.T
theorem IN.hist (h : IN C pi d B) : ∀ j, j < d → Wk (C (pi j)) ∧ goOk (C (pi j)) := fun j hj => ⟨h.2.2.2.2.2 j hj, h.2.2.2.2.1 _ (by have := h.2.2.1.1 j (by have := h.1; omega); omega)⟩
theorem IN.mono (h : IN C pi d B) (hB : B ≤ B') : IN C pi d B' := ⟨h.1, h.2.1, h.2.2.1, h.2.2.2.1.mono hB, h.2.2.2.2⟩
/-- what only rows behind the States change -/
theorem IN.row (h : IN C pi d B) (e : ∀ a, a < 10 → C1 a = C a) (e2 : C1 10 0 = C 10 0) : IN C1 pi d B := by
  refine ⟨h.1, by rw [e2]; exact h.2.1, h.2.2.1, by rw [e 0 (by decide)]; exact h.2.2.2.1, fun k hk => by rw [e k hk]; exact h.2.2.2.2.1 k hk, fun j hj => ?_⟩
  have := h.2.2.1.1 j (by have := h.1; omega)
  rw [e _ (by omega)]; exact h.2.2.2.2.2 j hj
theorem IN.rw (h : IN C pi d B) {L : Nat} {w : Nat → Int32} : IN (rwM C L w) pi d B := h.row (fun a ha => rwM_ne (by omega) (by omega)) (rwM_o (by decide))
theorem IN.m15 (h : IN C pi d B) {w : Nat → Int32} : IN (mrow C 15 w) pi d B := h.row (fun a ha => mrow_n _ (by omega) _) (by rw [mrow_n _ (by decide)])
/-- behind a change: the State before it is the one that is undone -/
def TP (C1 : MS) (pi1 : Nat → Nat) (d1 : Nat) (C : MS) (pi : Nat → Nat) (d : Nat) : Prop := 0 < d1 ∧ Ro (C1 (pi1 (d1 - 1))) (C 0) ∧ (0 < d → 1 < d1 ∧ C1 (pi1 (d1 - 2)) = C (pi (d - 1)))
theorem IN.op {F : Nat → Int32} {r : Int32} (h : IN C pi d B) (o : opC C pi d F r C1 pi1) (z : Ck (C 0) F r B') (hB : B ≤ B') : ∃ d1, IN C1 pi1 d1 B' ∧ C1 0 = F ∧ (0 ≤ r → TP C1 pi1 d1 C pi d) := by
  obtain ⟨h6, hd, hp, hz, hg, hw⟩ := id h
  have r0 : Ro (C 0) (C 0) := hz.1.ro
  have gF : Iz F B' ∧ goOk F := by
    rcases z with ⟨_, a, b⟩ | ⟨_, _, e⟩
    · exact ⟨a, b⟩
    · rw [e]; exact ⟨hz.mono hB, hg 0 (by decide)⟩
  have pj : ∀ j, j < 7 → 1 ≤ pi j ∧ pi j ≤ 7 := hp.1
  have hpd := pj d (by omega)
  have q1 : ∀ a, a ≠ pi d → prM C pi d a = C a := fun a ha => prM_ne ha
  have q2 : prM C pi d (pi d) = cpS (C (pi d)) (C 0) := mrow_s _ _ _
  have gs : goOk (cpS (C (pi d)) (C 0)) := goOk_cpS r0 (hg _ (by omega))
  have ws : Ro (cpS (C (pi d)) (C 0)) (C 0) := Ro.cpd r0 _
  have gp : ∀ k, k < 10 → goOk (prM C pi d k) := fun k hk => by
    by_cases e : k = pi d
    · rw [e, q2]; exact gs
    · rw [q1 k e]; exact hg k hk
  rcases o with ⟨h0, d6, rfl, ep⟩ | ⟨h0, d6, rfl, rfl⟩ | ⟨h0, rfl, ep⟩
  · have ep := ep.symm
    subst ep
    have t0 : ∀ a, a ≠ 0 → a ≠ 10 → mset (mrow (prM C pi d) 0 F) 10 0 (nI (d + 1)) a = prM C pi d a := fun a a0 a1 => by rw [mset_ne _ a1, mrow_n _ a0]
    have tF : mset (mrow (prM C pi d) 0 F) 10 0 (nI (d + 1)) 0 = F := by rw [mset_ne _ (by decide), mrow_s]
    have tp : ∀ j, j < 7 → mset (mrow (prM C pi d) 0 F) 10 0 (nI (d + 1)) (pi j) = if j = d then cpS (C (pi d)) (C 0) else C (pi j) := fun j hj => by
      have := pj j hj
      rw [t0 _ (by omega) (by omega)]
      by_cases e : j = d
      · rw [if_pos e, e, q2]
      · rw [if_neg e, q1 _ (fun y => e (hp.2 j d hj (by omega) y))]
    refine ⟨d + 1, ⟨by omega, mset_eq _ _ _ _, hp, by rw [tF]; exact gF.1, fun k hk => ?_, fun j hj => ?_⟩, tF, fun _ => ⟨by omega, ?_, fun dp => ⟨by omega, ?_⟩⟩⟩
    · by_cases k0 : k = 0
      · rw [k0, tF]; exact gF.2
      · rw [t0 k k0 (by omega)]; exact gp k hk
    · rw [tp j (by omega)]
      by_cases e : j = d
      · rw [if_pos e]; exact ws.W
      · rw [if_neg e]; exact hw j (by omega)
    · rw [show d + 1 - 1 = d by omega, tp d (by omega), if_pos rfl]; exact ws
    · rw [show d + 1 - 2 = d - 1 by omega, tp (d - 1) (by omega), if_neg (by omega)]
  · have ed : d = 6 := by omega
    subst ed
    have t0 : ∀ a, a ≠ 0 → mrow (prM C pi 6) 0 F a = prM C pi 6 a := fun a a0 => mrow_n _ a0 _
    have tp : ∀ j, j < 7 → mrow (prM C pi 6) 0 F (pi j) = if j = 6 then cpS (C (pi 6)) (C 0) else C (pi j) := fun j hj => by
      have := pj j hj
      rw [t0 _ (by omega)]
      by_cases e : j = 6
      · rw [if_pos e, e, q2]
      · rw [if_neg e, q1 _ (fun y => e (hp.2 j 6 hj (by omega) y))]
    have rp : ∀ j, j < 6 → mrow (prM C pi 6) 0 F (rot pi j) = if j = 5 then cpS (C (pi 6)) (C 0) else C (pi (j + 1)) := fun j hj => by
      rw [rot_e (by omega), if_neg (by omega), tp (j + 1) (by omega)]
      by_cases e : j = 5
      · rw [if_pos e, if_pos (by omega)]
      · rw [if_neg e, if_neg (by omega)]
    refine ⟨6, ⟨by omega, by rw [t0 _ (by decide), q1 _ (by omega)]; exact hd, rot_ok hp, by rw [mrow_s]; exact gF.1, fun k hk => ?_, fun j hj => ?_⟩, mrow_s _ _ _, fun _ => ⟨by omega, ?_, fun dp => ⟨by omega, ?_⟩⟩⟩
    · by_cases k0 : k = 0
      · rw [k0, mrow_s]; exact gF.2
      · rw [t0 k k0]; exact gp k hk
    · rw [rp j hj]
      by_cases e : j = 5
      · rw [if_pos e]; exact ws.W
      · rw [if_neg e]; exact hw (j + 1) (by omega)
    · rw [show 6 - 1 = 5 by omega, rp 5 (by decide), if_pos rfl]; exact ws
    · rw [show 6 - 2 = 4 by omega, rp 4 (by decide), if_neg (by decide)]
  · have ep := ep.symm
    subst ep
    have eF : F = C 0 := by
      rcases z with ⟨a, _⟩ | ⟨_, _, e⟩
      · exact absurd a h0
      · exact e
    subst eF
    refine ⟨d, ⟨h6, by rw [mrow_n _ (by decide), q1 _ (by omega)]; exact hd, hp, by rw [mrow_s]; exact gF.1, fun k hk => ?_, fun j hj => ?_⟩, mrow_s _ _ _, fun y => absurd y h0⟩
    · by_cases k0 : k = 0
      · rw [k0, mrow_s]; exact gF.2
      · rw [mrow_n _ k0]; exact gp k hk
    · have := pj j (by omega)
      rw [mrow_n _ (by omega), q1 _ (fun y => by have := hp.2 j d (by omega) (by omega) y; omega)]
      exact hw j hj
theorem IN.un (h : IN C pi d B) (hd : 0 < d) {f0 : Nat → Int32} (r : Ro (C (pi (d - 1))) f0) (z : Iz f0 B') (e : C1 = mrow (mset C 10 0 (nI (d - 1))) 0 (cpS (C 0) (C (pi (d - 1))))) : IN C1 pi (d - 1) B' ∧ Ro (C1 0) f0 ∧ (1 < d → C1 (pi (d - 2)) = C (pi (d - 2))) := by
  subst e
  obtain ⟨h6, hd0, hp, hz, hg, hw⟩ := id h
  have pj : ∀ j, j < 7 → 1 ≤ pi j ∧ pi j ≤ 7 := hp.1
  have t0 : ∀ a, a ≠ 0 → a ≠ 10 → mrow (mset C 10 0 (nI (d - 1))) 0 (cpS (C 0) (C (pi (d - 1)))) a = C a := fun a a0 a1 => by rw [mrow_n _ a0, mset_ne _ a1]
  have r1 : Ro (cpS (C 0) (C (pi (d - 1)))) f0 := Ro.cpd r _
  refine ⟨⟨by omega, by rw [mrow_n _ (by decide)]; exact mset_eq _ _ _ _, hp, by rw [mrow_s]; exact z.ro r1.2, fun k hk => ?_, fun j hj => ?_⟩, by rw [mrow_s]; exact r1, fun dp => ?_⟩
  · by_cases k0 : k = 0
    · rw [k0, mrow_s]; exact goOk_cpS r (hg 0 (by decide))
    · rw [t0 k k0 (by omega)]; exact hg k hk
  · have := pj j (by omega)
    rw [t0 _ (by omega) (by omega)]; exact hw j (by omega)
  · have := pj (d - 2) (by omega)
    exact t0 _ (by omega) (by omega)
theorem Ck.ng {f F : Nat → Int32} {r : Int32} {B : Nat} (z : Ck f F r B) : ¬ r < -6 := by
  rcases z with ⟨a, _⟩ | ⟨_, b, _⟩
  · intro y
    rw [Int32.le_iff_toInt_le, show (0 : Int32).toInt = 0 from by decide] at a
    rw [Int32.lt_iff_toInt_lt, show (-6 : Int32).toInt = -6 from by decide] at y
    omega
  · exact b
theorem IN.dn {F : Nat → Int32} {r r0 : Int32} (h : IN C pi d B) (p : r0 = r ∧ opC C pi d F r C1 pi1) (z : Ck (C 0) F r B') (hB : B ≤ B') (hB2 : B' ≤ B + 5000) : ¬ r0 < -6 ∧ ∃ d1, IN C1 pi1 d1 (B + 5000) := by
  obtain ⟨d1, i, _⟩ := h.op p.2 z hB
  exact ⟨by rw [p.1]; exact z.ng, d1, i.mono hB2⟩
theorem IN.dr {x r : Int32} (h : IN C pi d B) (p : (x < 0 ∧ r = -2 ∧ C1 = C ∧ pi1 = pi) ∨ (¬ x < 0 ∧ (chL x (cn (C 0))) = 0 ∧ r = -5 ∧ C1 = (rwM C (chL x (cn (C 0))) (chW (C 14) x (cn (C 0)))) ∧ pi1 = pi) ∨ (¬ x < 0 ∧ ¬ (chL x (cn (C 0))) = 0 ∧ r = bwR (C 0) (chW (C 14) x (cn (C 0))) (chL x (cn (C 0))) ∧ opC (rwM C (chL x (cn (C 0))) (chW (C 14) x (cn (C 0)))) pi d (bwF (C 0) (chW (C 14) x (cn (C 0))) (chL x (cn (C 0)))) (bwR (C 0) (chW (C 14) x (cn (C 0))) (chL x (cn (C 0)))) C1 pi1)) : ¬ r < -6 ∧ ∃ d1, IN C1 pi1 d1 (B + 5000) := by
  have hL := chL_le x (cn (C 0))
  have h16 := h.n16
  rcases p with ⟨_, rfl, rfl, rfl⟩ | ⟨_, _, rfl, rfl, rfl⟩ | ⟨_, _, e, o⟩
  · exact ⟨by decide, d, h.mono (by omega)⟩
  · exact ⟨by decide, d, h.rw.mono (by omega)⟩
  · have z : Ck (rwM C (chL x (cn (C 0))) (chW (C 14) x (cn (C 0))) 0) (bwF (C 0) (chW (C 14) x (cn (C 0))) (chL x (cn (C 0)))) (bwR (C 0) (chW (C 14) x (cn (C 0))) (chL x (cn (C 0)))) B := by
      rw [rwM_ne (by decide) (by decide)]
      exact ck_bw h.2.2.2.1 h.g (chW_gd h.W _ _) (by omega)
    exact h.rw.dn ⟨e, o⟩ z (Nat.le_refl _) (by omega)
/-! what the questions answer -/
theorem q_c0 (f : Nat → Int32) (a b : Int32) : cntC f a b 0 = f 4 := by simp [cntC]
theorem q_c1 {f : Nat → Int32} (W : Wk f) (a b : Int32) : cntC f a b 1 = nI (cn f) := by rw [← W.1]; simp [cntC]
theorem q_c2 {f : Nat → Int32} (W : Wk f) (a b : Int32) : cntC f a b 2 = nI (ln f) := by rw [← W.2.2.1]; simp [cntC]
theorem q_c3 (f : Nat → Int32) (a b : Int32) : cntC f a b 3 = stC f (cn f) := by simp [cntC]
theorem q_c4 (f : Nat → Int32) (a b : Int32) : cntC f a b 4 = nI (ofN f (cn f)) := by simp [cntC]
theorem q_c5 (f : Nat → Int32) (a b : Int32) : cntC f a b 5 = nI (cwN f (cn f)) := by simp [cntC]
theorem q_c6 (f : Nat → Int32) (a b : Int32) : cntC f a b 6 = f 7 := by simp [cntC]
theorem q_c7 (f : Nat → Int32) (a b : Int32) : cntC f a b 7 = twN f (cn f) := by simp [cntC]
theorem q_c8 (f : Nat → Int32) (a b : Int32) : cntC f a b 8 = f 0 := by simp [cntC]
theorem q_c10 (f : Nat → Int32) (a b : Int32) : cntC f a b 10 = f 2 := by simp [cntC]
theorem q_c11 (f : Nat → Int32) (a b : Int32) : cntC f a b 11 = f 3 := by simp [cntC]
section OF
variable {f : Nat → Int32} {c : Nat}
theorem q_ix (W : Wk f) (hc : c < cn f) : isCb f (nI c) = true ∧ ix (nI c) = c := ⟨isCb_t W ⟨hc, rfl⟩, ix_nI (by have := W.2.1; omega)⟩
theorem q_on (W : Wk f) (w : Int32) : ofR f (nI (cn f)) w = -1 := by
  unfold ofR
  rw [isCb_f W]
  · rfl
  · rintro ⟨i, hi, e⟩
    have := W.2.1
    have := (nI_eq (by omega) (by omega)).mp e; omega
theorem q_of {w v : Int32} (W : Wk f) (hc : c < cn f) (h : (if w = 0 then f (12 + 8 * c + 0) else if w = 1 then f (12 + 8 * c + 1) else if w = 2 then f (12 + 8 * c + 2) + 100 else if w = 3 then f (12 + 8 * c + 3) + 20
     else if w = 4 then f (12 + 8 * c + 4) + 1000000000 else if w = 5 then f (12 + 8 * c + 5) else if w = 6 then f (12 + 8 * c + 6) else if w = 7 then (if offB f c (f 0) = true then 0 else 1)
     else if w = 8 then o2i (ladF f c) else if w = 9 then (if canW f c = true then 1 else 0) else if w = 10 then f (12 + 8 * c + 7) else -2) = v) : ofR f (nI c) w = v := by
  unfold ofR
  obtain ⟨a, b⟩ := q_ix W hc
  rw [if_pos a, b]; exact h
theorem q_o0 (W : Wk f) (hc : c < cn f) : ofR f (nI c) 0 = f (12 + 8 * c + 0) := q_of W hc (by simp)
theorem q_o1 (W : Wk f) (hc : c < cn f) : ofR f (nI c) 1 = f (12 + 8 * c + 1) := q_of W hc (by simp)
theorem q_o3 (W : Wk f) (hc : c < cn f) : ofR f (nI c) 3 = f (12 + 8 * c + 3) + 20 := q_of W hc (by simp)
theorem q_o4 (W : Wk f) (hc : c < cn f) : ofR f (nI c) 4 = f (12 + 8 * c + 4) + 1000000000 := q_of W hc (by simp)
theorem q_o5 (W : Wk f) (hc : c < cn f) : ofR f (nI c) 5 = f (12 + 8 * c + 5) := q_of W hc (by simp)
theorem q_o6 (W : Wk f) (hc : c < cn f) : ofR f (nI c) 6 = f (12 + 8 * c + 6) := q_of W hc (by simp)
theorem q_o7t (W : Wk f) (hc : c < cn f) (h : offB f c (f 0) = true) : ofR f (nI c) 7 = 0 := q_of W hc (by simp [h])
theorem q_o7f (W : Wk f) (hc : c < cn f) (h : offB f c (f 0) = false) : ofR f (nI c) 7 = 1 := q_of W hc (by simp [h])
theorem q_o8 (W : Wk f) (hc : c < cn f) : ofR f (nI c) 8 = o2i (ladF f c) := q_of W hc (by simp)
theorem q_o9t (W : Wk f) (hc : c < cn f) (h : canW f c = true) : ofR f (nI c) 9 = 1 := q_of W hc (by simp [h])
theorem q_o9f (W : Wk f) (hc : c < cn f) (h : canW f c = false) : ofR f (nI c) 9 = 0 := q_of W hc (by simp [h])
theorem q_o10 (W : Wk f) (hc : c < cn f) : ofR f (nI c) 10 = f (12 + 8 * c + 7) := q_of W hc (by simp)
theorem q_la (W : Wk f) : (if isCb f (nI c) = true then nI (duS f (ix (nI c))) else -1) = nI (duS f c) ∨ ¬ c < cn f := by
  by_cases hc : c < cn f
  · obtain ⟨a, b⟩ := q_ix W hc
    rw [if_pos a, b]; exact Or.inl rfl
  · exact Or.inr hc
theorem q_las (W : Wk f) (hc : c < cn f) : (if isCb f (nI c) = true then nI (duS f (ix (nI c))) else -1) = nI (duS f c) := by
  obtain ⟨a, b⟩ := q_ix W hc
  rw [if_pos a, b]
theorem q_ln (W : Wk f) : lofR f (nI (ln f)) = -1 := lofR_no W (fun ⟨i, hi, e⟩ => by
  have := W.2.2.2
  have := (nI_eq (by omega) (by omega)).mp e; omega)
end OF
section BT
variable {f : Nat → Int32} {x r : Int32} {t : Nat}
theorem IN.tk0 (h : IN C pi d B) (e : C 0 = f) (x0 : ¬ x < 0) (hL : chL x (cn f) = 0) {v : Int32} {T2 : MS} (p : ((x < 0 ∧ r = -2 ∧ C1 = C) ∨ (¬ x < 0 ∧ (chL x (cn (C 0))) = 0 ∧ r = -5 ∧ C1 = (rwM C (chL x (cn (C 0))) (chW (C 14) x (cn (C 0))))) ∨ (¬ x < 0 ∧ ¬ (chL x (cn (C 0))) = 0 ∧ r = v ∧ C1 = T2)) ∧ pi1 = pi) : r = -5 ∧ IN C1 pi d B ∧ C1 0 = f ∧ pi1 = pi := by
  subst e
  obtain ⟨p, rfl⟩ := p
  rcases p with ⟨a, _⟩ | ⟨_, _, rfl, rfl⟩ | ⟨_, a, _⟩
  · exact absurd a x0
  · exact ⟨rfl, h.rw, rwM_ne (by decide) (by decide), rfl⟩
  · exact absurd hL a
theorem IN.tk (h : IN C pi d B) (e : C 0 = f) (x0 : ¬ x < 0) (hL : ¬ chL x (cn f) = 0) (w : Nat → Int32) (ht : moN f (chW w x (cn f)) (chL x (cn f)) = nI t) (p : ((x < 0 ∧ r = -2 ∧ C1 = C) ∨ (¬ x < 0 ∧ (chL x (cn (C 0))) = 0 ∧ r = -5 ∧ C1 = (rwM C (chL x (cn (C 0))) (chW (C 14) x (cn (C 0))))) ∨ (¬ x < 0 ∧ ¬ (chL x (cn (C 0))) = 0 ∧ r = moN (C 0) (chW (C 14) x (cn (C 0))) (chL x (cn (C 0))) ∧ C1 = (rwM C (chL x (cn (C 0))) (chW (C 14) x (cn (C 0)))))) ∧ pi1 = pi) : r = nI t ∧ IN C1 pi d B ∧ C1 0 = f ∧ pi1 = pi := by
  subst e
  obtain ⟨p, rfl⟩ := p
  rcases p with ⟨a, _⟩ | ⟨_, a, _⟩ | ⟨_, _, rfl, rfl⟩
  · exact absurd a x0
  · exact absurd a hL
  · exact ⟨(moN_cong _ (ch_any x _ _ _)).trans ht, h.rw, rwM_ne (by decide) (by decide), rfl⟩
theorem IN.wy (h : IN C pi d B) (e : C 0 = f) (x0 : ¬ x < 0) (hL : ¬ chL x (cn f) = 0) (p : ((x < 0 ∧ r = -2 ∧ C1 = C) ∨ (¬ x < 0 ∧ (chL x (cn (C 0))) = 0 ∧ r = -5 ∧ C1 = (rwM C (chL x (cn (C 0))) (chW (C 14) x (cn (C 0))))) ∨ (¬ x < 0 ∧ ¬ (chL x (cn (C 0))) = 0 ∧ r = wayC (moN (C 0) (chW (C 14) x (cn (C 0))) (chL x (cn (C 0)))) (moN (C 0) (trN (chW (C 14) x (cn (C 0))) (chL x (cn (C 0))) ((chL x (cn (C 0))) / 2)) (chL x (cn (C 0)))) ∧ C1 = (rwM C (chL x (cn (C 0))) (trN (chW (C 14) x (cn (C 0))) (chL x (cn (C 0))) ((chL x (cn (C 0))) / 2))))) ∧ pi1 = pi) : ∃ wy, wy < 3 ∧ r = nI wy ∧ (chL x (cn f) = 1 → wy = 2) ∧ IN C1 pi d B ∧ C1 0 = f ∧ pi1 = pi := by
  subst e
  obtain ⟨p, rfl⟩ := p
  rcases p with ⟨a, _⟩ | ⟨_, a, _⟩ | ⟨_, _, er, rfl⟩
  · exact absurd a x0
  · exact absurd a hL
  · by_cases z : chL x (cn (C 0)) = 1
    · refine ⟨2, by decide, ?_, fun _ => rfl, h.rw, rwM_ne (by decide) (by decide), rfl⟩
      rw [er, z, way_1]; rfl
    · obtain ⟨wy, h3, ew⟩ := way_3 (moN (C 0) (chW (C 14) x (cn (C 0))) (chL x (cn (C 0)))) (moN (C 0) (trN (chW (C 14) x (cn (C 0))) (chL x (cn (C 0))) ((chL x (cn (C 0))) / 2)) (chL x (cn (C 0))))
      exact ⟨wy, h3, er.trans ew, fun y => absurd y z, h.rw, rwM_ne (by decide) (by decide), rfl⟩
def RP (C : MS) (pi : Nat → Nat) (d : Nat) (x r : Int32) (C1 : MS) (pi1 : Nat → Nat) : Prop := (x < 0 ∧ r = -2 ∧ C1 = C ∧ pi1 = pi) ∨ (¬ x < 0 ∧ (chL x (cn (C 0))) = 0 ∧ r = -5 ∧ C1 = (rwM C (chL x (cn (C 0))) (chW (C 14) x (cn (C 0)))) ∧ pi1 = pi) ∨ (¬ x < 0 ∧ ¬ (chL x (cn (C 0))) = 0 ∧ r = bwR (C 0) (chW (C 14) x (cn (C 0))) (chL x (cn (C 0))) ∧ opC (rwM C (chL x (cn (C 0))) (chW (C 14) x (cn (C 0)))) pi d (bwF (C 0) (chW (C 14) x (cn (C 0))) (chL x (cn (C 0)))) (bwR (C 0) (chW (C 14) x (cn (C 0))) (chL x (cn (C 0)))) C1 pi1)
theorem IN.rd0 (h : IN C pi d B) (e : C 0 = f) (x0 : ¬ x < 0) (hL : chL x (cn f) = 0) (p : RP C pi d x r C1 pi1) : r = -5 ∧ IN C1 pi1 d B := by
  subst e
  rcases p with ⟨a, _⟩ | ⟨_, _, rfl, rfl, rfl⟩ | ⟨_, a, _⟩
  · exact absurd a x0
  · exact ⟨rfl, h.rw⟩
  · exact absurd hL a
theorem IN.rd (h : IN C pi d B) (e : C 0 = f) (x0 : ¬ x < 0) (hL : ¬ chL x (cn f) = 0) (w : Nat → Int32) (h30 : t < 2 ^ 30) (ht : moN f (chW w x (cn f)) (chL x (cn f)) = nI t) (p : RP C pi d x r C1 pi1) : r = nI t ∧ ∃ d1, IN C1 pi1 d1 B ∧ BW f x (C1 0) t ∧ 0 < d1 ∧ Ro (C1 (pi1 (d1 - 1))) f := by
  subst e
  have hl := chL_le x (cn (C 0))
  have h16 := h.n16
  rcases p with ⟨a, _⟩ | ⟨_, a, _⟩ | ⟨_, _, er, o⟩
  · exact absurd a x0
  · exact absurd a hL
  · have ht2 : moN (C 0) (chW (C 14) x (cn (C 0))) (chL x (cn (C 0))) = nI t := (moN_cong _ (ch_any x _ _ _)).trans ht
    obtain ⟨b1, b2⟩ := bw_all h.V x (C 14) h30 ht2
    have z : Ck (rwM C (chL x (cn (C 0))) (chW (C 14) x (cn (C 0))) 0) (bwF (C 0) (chW (C 14) x (cn (C 0))) (chL x (cn (C 0)))) (bwR (C 0) (chW (C 14) x (cn (C 0))) (chL x (cn (C 0)))) B := by
      rw [rwM_ne (by decide) (by decide)]
      exact ck_bw h.2.2.2.1 h.g (chW_gd h.W _ _) (by omega)
    obtain ⟨d1, i1, i2, i3⟩ := h.rw.op o z (Nat.le_refl _)
    obtain ⟨t1, t2, _⟩ := i3 (by rw [b1]; exact nI_pos' (by omega))
    rw [rwM_ne (by decide) (by decide)] at t2
    exact ⟨er.trans b1, d1, i1, by rw [i2]; exact b2, t1, t2⟩
end BT
theorem un_ok {r : Int32} (hd : 0 < d) {T2 : MS} (p : ((d = 0 ∧ r = -5 ∧ C1 = C) ∨ (0 < d ∧ r = nI (d - 1) ∧ C1 = T2)) ∧ pi1 = pi) : r = nI (d - 1) ∧ C1 = T2 ∧ pi1 = pi := by
  obtain ⟨p, e⟩ := p
  rcases p with ⟨a, _⟩ | ⟨_, a, b⟩
  · omega
  · exact ⟨a, b, e⟩
theorem lad_st {f : Nat → Int32} {k ru la : Nat} {r : Int32} (er : r = nI ru) (hru : ru < 2 ^ 31) (ela : f (8 + k) = nI la) (hla : la < 2 ^ 31) : (ladP f r k = none → o2i (ladP f r (k + 1)) = if 0 < ru ∧ ru ≤ la then nI k else -6) ∧ ∀ p lp, ladP f r k = some p → f (8 + p) = nI lp → lp < 2 ^ 31 → o2i (ladP f r (k + 1)) = if (0 < ru ∧ ru ≤ la) ∧ la < lp then nI k else nI p := by
  subst er
  have k1 : (¬ nI ru ≤ 0 ∧ ¬ f (8 + k) < nI ru) ↔ (0 < ru ∧ ru ≤ la) := by
    rw [ela, show (0 : Int32) = nI 0 from rfl, nI_leI hru (by decide), nI_ltI hla hru]; omega
  constructor
  · intro e
    unfold ladP
    rw [e]
    show o2i (if ¬ nI ru ≤ 0 ∧ ¬ f (8 + k) < nI ru then some k else none) = _
    by_cases z : 0 < ru ∧ ru ≤ la
    · rw [if_pos z, if_pos (k1.mpr z)]; rfl
    · rw [if_neg z, if_neg (fun y => z (k1.mp y))]; rfl
  · intro p lp e elp hlp
    unfold ladP
    rw [e]
    show o2i (if (¬ nI ru ≤ 0 ∧ ¬ f (8 + k) < nI ru) ∧ ¬ f (8 + p) ≤ f (8 + k) then some k else some p) = _
    have k2 : (¬ f (8 + p) ≤ f (8 + k)) ↔ la < lp := by rw [ela, elp, nI_leI hlp hla]; omega
    by_cases z : (0 < ru ∧ ru ≤ la) ∧ la < lp
    · rw [if_pos z, if_pos ⟨k1.mpr z.1, k2.mpr z.2⟩]; rfl
    · rw [if_neg z, if_neg (fun y => z ⟨k1.mp y.1, k2.mp y.2⟩)]; rfl
end INs
end
section
/-! numbers of a clock, of a ladder; a step of the set -/
section Q6
variable {f : Nat → Int32} {c k : Nat} {x : Int32}
theorem cl_num (v : Iv f) (hc : c < cn f) : ∃ ru, ru ≤ 30 ∧ f (12 + 8 * c + 1) = nI ru ∧ ∃ s3, s3 ≤ 40 ∧ f (12 + 8 * c + 3) + 20 = nI s3 := by
  obtain ⟨D, hD, h4, W, S, vc⟩ := v
  obtain ⟨_, ⟨ru, h1, h2⟩, hs, _⟩ := vc c hc
  obtain ⟨s3, h3, e3⟩ := scr_ex hs
  refine ⟨ru, h1, h2, s3, by omega, ?_⟩
  rw [e3]; exact Int32.sub_add_cancel _ _
theorem la_num (v : Iv f) (hk : k < ln f) : ∃ la, la ≤ 30 ∧ f (8 + k) = nI la := by
  obtain ⟨a, _, h, e⟩ := v.S.2.2.2.2 k hk
  exact ⟨a, h, e⟩
theorem ho_num (v : Iv f) (hc : c < cn f) : ∃ a, a ≤ 99 ∧ f (12 + 8 * c + 0) = nI a := by
  obtain ⟨D, hD, h4, W, S, vc⟩ := v
  exact (vc c hc).1
theorem cl_go (v : Iv f) (hc : c < cn f) : f (12 + 8 * c + 6) = 1 ∨ (f (12 + 8 * c + 6) = 0 ∧ f (12 + 8 * c + 4) = 43200) := by
  obtain ⟨D, hD, h4, W, S, vc⟩ := v
  exact (vc c hc).2.2.2.2
theorem o2i_can (W : Wk f) (h : canW f c = true) {ru : Nat} (e : f (12 + 8 * c + 1) = nI ru) (hr : ru ≤ 30) : ¬ ru = 0 → ¬ o2i (ladF f c) < 0 := by
  intro h0
  rcases canW_t.mp h with y | y
  · rw [e] at y; exact absurd y (nI_ne0 (by omega) (by omega))
  · cases q : ladF f c with
    | none => exact absurd q y
    | some p =>
      have := ladF_lt W c p q
      exact nI_pos this
theorem fm_t {a : Nat} (h : bt x c) (e : f (12 + 8 * c + 0) = nI a) (ha : a < 2 ^ 31 := by omega) : fmN f x (c + 1) = max (fmN f x c) a := by
  show (if bt x c then _ else _) = _
  rw [if_pos h, e, ix_nI ha]
theorem fm_f (h : ¬ bt x c) : fmN f x (c + 1) = fmN f x c := by
  show (if bt x c then _ else _) = _
  rw [if_neg h]
theorem wr_t (h : bt x c) : wrN f x (c + 1) = if canW f c = true then wrN f x c + 1 else wrN f x c := by
  show (if bt x c then _ else _) = _
  rw [if_pos h]
theorem wr_f (h : ¬ bt x c) : wrN f x (c + 1) = wrN f x c := by
  show (if bt x c then _ else _) = _
  rw [if_neg h]
theorem fm_le (v : Iv f) (x : Int32) : ∀ c, c ≤ cn f → fmN f x c ≤ 99 := by
  intro c
  induction c with
  | zero => intro _; show 0 ≤ 99; omega
  | succ c ih =>
    intro hc
    have i := ih (by omega)
    by_cases h : bt x c
    · obtain ⟨a, ha, ea⟩ := ho_num v (show c < cn f by omega)
      rw [fm_t h ea]; omega
    · rw [fm_f h]; exact i
end Q6
end
