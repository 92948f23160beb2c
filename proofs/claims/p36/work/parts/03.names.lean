def RX0 : String := "CalendarSync$Agenda"
def TX0 : u_T := fun k => match k with
  | 0 => ("CalendarSync$Agenda", "count", "I", false)
  | 1 => ("CalendarSync$Agenda", "keys", "[I", true)
  | _ => ("CalendarSync$Agenda", "lengths", "[I", true)
def tyX0 : Nat → FieldType := fun k => match k with
  | 0 => .int
  | 1 => .array .int
  | _ => .array .int
abbrev wsX00 : List Cond := u_ws RX0 TX0 3
theorem nmX0 : ∀ a, a < 3 → ∀ b, b < 3 → a ≠ b → (TX0 a).2.1 ≠ (TX0 b).2.1 := by decide +kernel
theorem tyX0_ok : ∀ k, k < 3 → parseFieldDescriptor (TX0 k).2.2.1 = some (tyX0 k) := by decide +kernel
abbrev cX0_init : ByteArray := prog_2_method_1_code
def yX0_init : MethodName := ⟨RX0, "<init>", "()V"⟩
abbrev cX0_listAll : ByteArray := prog_2_method_2_code
def yX0_listAll : MethodName := ⟨RX0, "listAll", "(LCalendarSync$Place;)V"⟩
abbrev cX0_insert : ByteArray := prog_2_method_3_code
def yX0_insert : MethodName := ⟨RX0, "insert", "(I)V"⟩
abbrev cX0_momentOf : ByteArray := prog_2_method_4_code
def yX0_momentOf : MethodName := ⟨RX0, "momentOf", "(I)I"⟩
abbrev cX0_eventOf : ByteArray := prog_2_method_5_code
def yX0_eventOf : MethodName := ⟨RX0, "eventOf", "(I)I"⟩
abbrev cX0_dateOf : ByteArray := prog_2_method_6_code
def yX0_dateOf : MethodName := ⟨RX0, "dateOf", "(I)I"⟩
abbrev cX0_endOf : ByteArray := prog_2_method_7_code
def yX0_endOf : MethodName := ⟨RX0, "endOf", "(I)I"⟩
abbrev cX0_countBefore : ByteArray := prog_2_method_8_code
def yX0_countBefore : MethodName := ⟨RX0, "countBefore", "(I)I"⟩
abbrev cX0_countOverlaps : ByteArray := prog_2_method_9_code
def yX0_countOverlaps : MethodName := ⟨RX0, "countOverlaps", "()I"⟩
abbrev cX0_countMinutes : ByteArray := prog_2_method_10_code
def yX0_countMinutes : MethodName := ⟨RX0, "countMinutes", "(II)I"⟩
def RX1 : String := "CalendarSync$Days"
def TX1 : u_T := fun k => match k with
  | _ => ("", "", "", false)
def tyX1 : Nat → FieldType := fun k => match k with
  | _ => .int
abbrev wsX10 : List Cond := u_ws RX1 TX1 0
theorem nmX1 : ∀ a, a < 0 → ∀ b, b < 0 → a ≠ b → (TX1 a).2.1 ≠ (TX1 b).2.1 := by decide +kernel
theorem tyX1_ok : ∀ k, k < 0 → parseFieldDescriptor (TX1 k).2.2.1 = some (tyX1 k) := by decide +kernel
abbrev cX1_isDay : ByteArray := prog_3_method_2_code
def yX1_isDay : MethodName := ⟨RX1, "isDay", "(I)Z"⟩
abbrev cX1_isDayOfYear : ByteArray := prog_3_method_3_code
def yX1_isDayOfYear : MethodName := ⟨RX1, "isDayOfYear", "(I)Z"⟩
abbrev cX1_isMinute : ByteArray := prog_3_method_4_code
def yX1_isMinute : MethodName := ⟨RX1, "isMinute", "(I)Z"⟩
abbrev cX1_yearOf : ByteArray := prog_3_method_5_code
def yX1_yearOf : MethodName := ⟨RX1, "yearOf", "(I)I"⟩
abbrev cX1_weekdayOf : ByteArray := prog_3_method_6_code
def yX1_weekdayOf : MethodName := ⟨RX1, "weekdayOf", "(I)I"⟩
abbrev cX1_monthOf : ByteArray := prog_3_method_7_code
def yX1_monthOf : MethodName := ⟨RX1, "monthOf", "(I)I"⟩
abbrev cX1_dayOfMonth : ByteArray := prog_3_method_8_code
def yX1_dayOfMonth : MethodName := ⟨RX1, "dayOfMonth", "(I)I"⟩
abbrev cX1_dayInMonth : ByteArray := prog_3_method_9_code
def yX1_dayInMonth : MethodName := ⟨RX1, "dayInMonth", "(II)I"⟩
def RX2 : String := "CalendarSync$Event"
def TX2 : u_T := fun k => match k with
  | 0 => ("CalendarSync$Event", "isThere", "Z", false)
  | 1 => ("CalendarSync$Event", "day", "I", false)
  | 2 => ("CalendarSync$Event", "minute", "I", false)
  | 3 => ("CalendarSync$Event", "length", "I", false)
  | 4 => ("CalendarSync$Event", "zone", "I", false)
  | 5 => ("CalendarSync$Event", "kind", "I", false)
  | 6 => ("CalendarSync$Event", "n", "I", false)
  | 7 => ("CalendarSync$Event", "weekdays", "I", false)
  | 8 => ("CalendarSync$Event", "times", "I", false)
  | 9 => ("CalendarSync$Event", "version", "I", false)
  | 10 => ("CalendarSync$Event", "dates", "I", false)
  | 11 => ("CalendarSync$Event", "cancelled", "I", false)
  | 12 => ("CalendarSync$Event", "moved", "I", false)
  | 13 => ("CalendarSync$Event", "ruleDay", "[I", true)
  | 14 => ("CalendarSync$Event", "movedTo", "[I", true)
  | 15 => ("CalendarSync$Event", "whole", "[I", true)
  | _ => ("CalendarSync$Event", "given", "[J", true)
def tyX2 : Nat → FieldType := fun k => match k with
  | 0 => .boolean
  | 1 => .int
  | 2 => .int
  | 3 => .int
  | 4 => .int
  | 5 => .int
  | 6 => .int
  | 7 => .int
  | 8 => .int
  | 9 => .int
  | 10 => .int
  | 11 => .int
  | 12 => .int
  | 13 => .array .int
  | 14 => .array .int
  | 15 => .array .int
  | _ => .array .long
abbrev wsX20 : List Cond := u_ws RX2 TX2 17
theorem nmX2 : ∀ a, a < 17 → ∀ b, b < 17 → a ≠ b → (TX2 a).2.1 ≠ (TX2 b).2.1 := by decide +kernel
theorem tyX2_ok : ∀ k, k < 17 → parseFieldDescriptor (TX2 k).2.2.1 = some (tyX2 k) := by decide +kernel
abbrev cX2_init : ByteArray := prog_4_method_1_code
def yX2_init : MethodName := ⟨RX2, "<init>", "()V"⟩
abbrev cX2_startAt : ByteArray := prog_4_method_2_code
def yX2_startAt : MethodName := ⟨RX2, "startAt", "(IIII)V"⟩
abbrev cX2_setOnce : ByteArray := prog_4_method_3_code
def yX2_setOnce : MethodName := ⟨RX2, "setOnce", "()V"⟩
abbrev cX2_setRule : ByteArray := prog_4_method_4_code
def yX2_setRule : MethodName := ⟨RX2, "setRule", "(IIII)V"⟩
abbrev cX2_forgetDates : ByteArray := prog_4_method_5_code
def yX2_forgetDates : MethodName := ⟨RX2, "forgetDates", "()V"⟩
abbrev cX2_vanish : ByteArray := prog_4_method_6_code
def yX2_vanish : MethodName := ⟨RX2, "vanish", "()V"⟩
abbrev cX2_become : ByteArray := prog_4_method_7_code
def yX2_become : MethodName := ⟨RX2, "become", "(LCalendarSync$Event;)V"⟩
abbrev cX2_addDate : ByteArray := prog_4_method_8_code
def yX2_addDate : MethodName := ⟨RX2, "addDate", "(I)V"⟩
abbrev cX2_listDays : ByteArray := prog_4_method_9_code
def yX2_listDays : MethodName := ⟨RX2, "listDays", "()V"⟩
abbrev cX2_listWeeks : ByteArray := prog_4_method_10_code
def yX2_listWeeks : MethodName := ⟨RX2, "listWeeks", "()V"⟩
abbrev cX2_listMonths : ByteArray := prog_4_method_11_code
def yX2_listMonths : MethodName := ⟨RX2, "listMonths", "()V"⟩
abbrev cX2_hasDate : ByteArray := prog_4_method_12_code
def yX2_hasDate : MethodName := ⟨RX2, "hasDate", "(I)Z"⟩
abbrev cX2_shownBits : ByteArray := prog_4_method_13_code
def yX2_shownBits : MethodName := ⟨RX2, "shownBits", "()I"⟩
abbrev cX2_isShown : ByteArray := prog_4_method_14_code
def yX2_isShown : MethodName := ⟨RX2, "isShown", "(I)Z"⟩
abbrev cX2_moveTo : ByteArray := prog_4_method_15_code
def yX2_moveTo : MethodName := ⟨RX2, "moveTo", "(III)V"⟩
abbrev cX2_dayOf : ByteArray := prog_4_method_16_code
def yX2_dayOf : MethodName := ⟨RX2, "dayOf", "(I)I"⟩
abbrev cX2_minuteOf : ByteArray := prog_4_method_17_code
def yX2_minuteOf : MethodName := ⟨RX2, "minuteOf", "(I)I"⟩
abbrev cX2_givenTo : ByteArray := prog_4_method_18_code
def yX2_givenTo : MethodName := ⟨RX2, "givenTo", "(II)I"⟩
abbrev cX2_giveTo : ByteArray := prog_4_method_19_code
def yX2_giveTo : MethodName := ⟨RX2, "giveTo", "(III)V"⟩
abbrev cX2_answerTo : ByteArray := prog_4_method_20_code
def yX2_answerTo : MethodName := ⟨RX2, "answerTo", "(II)I"⟩
abbrev cX2_takeAnswers : ByteArray := prog_4_method_21_code
def yX2_takeAnswers : MethodName := ⟨RX2, "takeAnswers", "(LCalendarSync$Event;I)V"⟩
def RX3 : String := "CalendarSync$Exchange"
def TX3 : u_T := fun k => match k with
  | 0 => ("CalendarSync$Exchange", "clock", "I", false)
  | 1 => ("CalendarSync$Exchange", "store", "LCalendarSync$Place;", true)
  | 2 => ("CalendarSync$Exchange", "sides", "[LCalendarSync$Side;", true)
  | _ => ("CalendarSync$Exchange", "concerned", "[I", true)
def tyX3 : Nat → FieldType := fun k => match k with
  | 0 => .int
  | 1 => .object "CalendarSync$Place"
  | 2 => .array (.object "CalendarSync$Side")
  | _ => .array .int
abbrev wsX30 : List Cond := u_ws RX3 TX3 4
theorem nmX3 : ∀ a, a < 4 → ∀ b, b < 4 → a ≠ b → (TX3 a).2.1 ≠ (TX3 b).2.1 := by decide +kernel
theorem tyX3_ok : ∀ k, k < 4 → parseFieldDescriptor (TX3 k).2.2.1 = some (tyX3 k) := by decide +kernel
abbrev cX3_init : ByteArray := prog_5_method_1_code
def yX3_init : MethodName := ⟨RX3, "<init>", "()V"⟩
abbrev cX3_become : ByteArray := prog_5_method_2_code
def yX3_become : MethodName := ⟨RX3, "become", "(LCalendarSync$Exchange;)V"⟩
abbrev cX3_beginWith : ByteArray := prog_5_method_3_code
def yX3_beginWith : MethodName := ⟨RX3, "beginWith", "(LCalendarSync$Place;)V"⟩
abbrev cX3_countChange : ByteArray := prog_5_method_4_code
def yX3_countChange : MethodName := ⟨RX3, "countChange", "(I)I"⟩
abbrev cX3_isTooOld : ByteArray := prog_5_method_5_code
def yX3_isTooOld : MethodName := ⟨RX3, "isTooOld", "(I)Z"⟩
abbrev cX3_toldBehind : ByteArray := prog_5_method_6_code
def yX3_toldBehind : MethodName := ⟨RX3, "toldBehind", "(I)I"⟩
abbrev cX3_pushFrom : ByteArray := prog_5_method_7_code
def yX3_pushFrom : MethodName := ⟨RX3, "pushFrom", "(I)I"⟩
abbrev cX3_pushEvent : ByteArray := prog_5_method_8_code
def yX3_pushEvent : MethodName := ⟨RX3, "pushEvent", "(II)V"⟩
abbrev cX3_accept : ByteArray := prog_5_method_9_code
def yX3_accept : MethodName := ⟨RX3, "accept", "(LCalendarSync$Side;I)V"⟩
abbrev cX3_pullTo : ByteArray := prog_5_method_10_code
def yX3_pullTo : MethodName := ⟨RX3, "pullTo", "(I)I"⟩
def RX4 : String := "CalendarSync$History"
def TX4 : u_T := fun k => match k with
  | 0 => ("CalendarSync$History", "count", "I", false)
  | 1 => ("CalendarSync$History", "next", "I", false)
  | _ => ("CalendarSync$History", "rows", "[LCalendarSync$Exchange;", true)
def tyX4 : Nat → FieldType := fun k => match k with
  | 0 => .int
  | 1 => .int
  | _ => .array (.object "CalendarSync$Exchange")
abbrev wsX40 : List Cond := u_ws RX4 TX4 3
theorem nmX4 : ∀ a, a < 3 → ∀ b, b < 3 → a ≠ b → (TX4 a).2.1 ≠ (TX4 b).2.1 := by decide +kernel
theorem tyX4_ok : ∀ k, k < 3 → parseFieldDescriptor (TX4 k).2.2.1 = some (tyX4 k) := by decide +kernel
abbrev cX4_init : ByteArray := prog_6_method_1_code
def yX4_init : MethodName := ⟨RX4, "<init>", "()V"⟩
abbrev cX4_save : ByteArray := prog_6_method_2_code
def yX4_save : MethodName := ⟨RX4, "save", "(LCalendarSync$Exchange;)V"⟩
abbrev cX4_bringBack : ByteArray := prog_6_method_3_code
def yX4_bringBack : MethodName := ⟨RX4, "bringBack", "(LCalendarSync$Exchange;)V"⟩
abbrev cX4_forget : ByteArray := prog_6_method_4_code
def yX4_forget : MethodName := ⟨RX4, "forget", "()V"⟩
def RX5 : String := "CalendarSync$Place"
def TX5 : u_T := fun k => match k with
  | 0 => ("CalendarSync$Place", "zoneCount", "I", false)
  | 1 => ("CalendarSync$Place", "zones", "[LCalendarSync$Zone;", true)
  | _ => ("CalendarSync$Place", "events", "[LCalendarSync$Event;", true)
def tyX5 : Nat → FieldType := fun k => match k with
  | 0 => .int
  | 1 => .array (.object "CalendarSync$Zone")
  | _ => .array (.object "CalendarSync$Event")
abbrev wsX50 : List Cond := u_ws RX5 TX5 3
theorem nmX5 : ∀ a, a < 3 → ∀ b, b < 3 → a ≠ b → (TX5 a).2.1 ≠ (TX5 b).2.1 := by decide +kernel
theorem tyX5_ok : ∀ k, k < 3 → parseFieldDescriptor (TX5 k).2.2.1 = some (tyX5 k) := by decide +kernel
abbrev cX5_init : ByteArray := prog_7_method_1_code
def yX5_init : MethodName := ⟨RX5, "<init>", "()V"⟩
abbrev cX5_clear : ByteArray := prog_7_method_2_code
def yX5_clear : MethodName := ⟨RX5, "clear", "()V"⟩
abbrev cX5_become : ByteArray := prog_7_method_3_code
def yX5_become : MethodName := ⟨RX5, "become", "(LCalendarSync$Place;)V"⟩
abbrev cX5_becomeZones : ByteArray := prog_7_method_4_code
def yX5_becomeZones : MethodName := ⟨RX5, "becomeZones", "(LCalendarSync$Place;)V"⟩
abbrev cX5_hasZone : ByteArray := prog_7_method_5_code
def yX5_hasZone : MethodName := ⟨RX5, "hasZone", "(I)Z"⟩
abbrev cX5_hasEvent : ByteArray := prog_7_method_6_code
def yX5_hasEvent : MethodName := ⟨RX5, "hasEvent", "(I)Z"⟩
abbrev cX5_eventBits : ByteArray := prog_7_method_7_code
def yX5_eventBits : MethodName := ⟨RX5, "eventBits", "()I"⟩
abbrev cX5_momentOf : ByteArray := prog_7_method_8_code
def yX5_momentOf : MethodName := ⟨RX5, "momentOf", "(II)I"⟩
abbrev cX5_showsSame : ByteArray := prog_7_method_9_code
def yX5_showsSame : MethodName := ⟨RX5, "showsSame", "(LCalendarSync$Place;I)Z"⟩
abbrev cX5_showsSameDate : ByteArray := prog_7_method_10_code
def yX5_showsSameDate : MethodName := ⟨RX5, "showsSameDate", "(LCalendarSync$Place;II)Z"⟩
def RX6 : String := "CalendarSync$Reader"
def TX6 : u_T := fun k => match k with
  | 0 => ("CalendarSync$Reader", "draft", "LCalendarSync$Place;", true)
  | 1 => ("CalendarSync$Reader", "eventCount", "I", false)
  | 2 => ("CalendarSync$Reader", "errorCode", "I", false)
  | 3 => ("CalendarSync$Reader", "errorPosition", "I", false)
  | 4 => ("CalendarSync$Reader", "text", "LCalendarSync$Text;", true)
  | 5 => ("CalendarSync$Reader", "number", "I", false)
  | 6 => ("CalendarSync$Reader", "weekdays", "I", false)
  | 7 => ("CalendarSync$Reader", "zone", "LCalendarSync$Zone;", false)
  | _ => ("CalendarSync$Reader", "event", "LCalendarSync$Event;", false)
def tyX6 : Nat → FieldType := fun k => match k with
  | 0 => .object "CalendarSync$Place"
  | 1 => .int
  | 2 => .int
  | 3 => .int
  | 4 => .object "CalendarSync$Text"
  | 5 => .int
  | 6 => .int
  | 7 => .object "CalendarSync$Zone"
  | _ => .object "CalendarSync$Event"
abbrev wsX60 : List Cond := u_ws RX6 TX6 9
theorem nmX6 : ∀ a, a < 9 → ∀ b, b < 9 → a ≠ b → (TX6 a).2.1 ≠ (TX6 b).2.1 := by decide +kernel
theorem tyX6_ok : ∀ k, k < 9 → parseFieldDescriptor (TX6 k).2.2.1 = some (tyX6 k) := by decide +kernel
abbrev cX6_init : ByteArray := prog_8_method_1_code
def yX6_init : MethodName := ⟨RX6, "<init>", "()V"⟩
abbrev cX6_readCalendar : ByteArray := prog_8_method_2_code
def yX6_readCalendar : MethodName := ⟨RX6, "readCalendar", "(I)Z"⟩
abbrev cX6_fail : ByteArray := prog_8_method_3_code
def yX6_fail : MethodName := ⟨RX6, "fail", "(I)Z"⟩
abbrev cX6_takeSemicolon : ByteArray := prog_8_method_4_code
def yX6_takeSemicolon : MethodName := ⟨RX6, "takeSemicolon", "()Z"⟩
abbrev cX6_takeNumber : ByteArray := prog_8_method_5_code
def yX6_takeNumber : MethodName := ⟨RX6, "takeNumber", "(II)Z"⟩
abbrev cX6_seeNumber : ByteArray := prog_8_method_6_code
def yX6_seeNumber : MethodName := ⟨RX6, "seeNumber", "(II)Z"⟩
abbrev cX6_readZone : ByteArray := prog_8_method_7_code
def yX6_readZone : MethodName := ⟨RX6, "readZone", "()Z"⟩
abbrev cX6_readSummer : ByteArray := prog_8_method_8_code
def yX6_readSummer : MethodName := ⟨RX6, "readSummer", "()Z"⟩
abbrev cX6_readEvent : ByteArray := prog_8_method_9_code
def yX6_readEvent : MethodName := ⟨RX6, "readEvent", "()Z"⟩
abbrev cX6_readRule : ByteArray := prog_8_method_10_code
def yX6_readRule : MethodName := ⟨RX6, "readRule", "()Z"⟩
abbrev cX6_unitKind : ByteArray := prog_8_method_11_code
def yX6_unitKind : MethodName := ⟨RX6, "unitKind", "()I"⟩
abbrev cX6_takeWeekdays : ByteArray := prog_8_method_12_code
def yX6_takeWeekdays : MethodName := ⟨RX6, "takeWeekdays", "()Z"⟩
abbrev cX6_readExceptions : ByteArray := prog_8_method_13_code
def yX6_readExceptions : MethodName := ⟨RX6, "readExceptions", "()Z"⟩
abbrev cX6_readNot : ByteArray := prog_8_method_14_code
def yX6_readNot : MethodName := ⟨RX6, "readNot", "()Z"⟩
abbrev cX6_readMove : ByteArray := prog_8_method_15_code
def yX6_readMove : MethodName := ⟨RX6, "readMove", "()Z"⟩
def RX7 : String := "CalendarSync$Side"
def TX7 : u_T := fun k => match k with
  | 0 => ("CalendarSync$Side", "copy", "LCalendarSync$Place;", true)
  | 1 => ("CalendarSync$Side", "token", "I", false)
  | 2 => ("CalendarSync$Side", "changed", "I", false)
  | 3 => ("CalendarSync$Side", "contentChanged", "I", false)
  | _ => ("CalendarSync$Side", "accounts", "[I", true)
def tyX7 : Nat → FieldType := fun k => match k with
  | 0 => .object "CalendarSync$Place"
  | 1 => .int
  | 2 => .int
  | 3 => .int
  | _ => .array .int
abbrev wsX70 : List Cond := u_ws RX7 TX7 5
theorem nmX7 : ∀ a, a < 5 → ∀ b, b < 5 → a ≠ b → (TX7 a).2.1 ≠ (TX7 b).2.1 := by decide +kernel
theorem tyX7_ok : ∀ k, k < 5 → parseFieldDescriptor (TX7 k).2.2.1 = some (tyX7 k) := by decide +kernel
abbrev cX7_init : ByteArray := prog_9_method_1_code
def yX7_init : MethodName := ⟨RX7, "<init>", "()V"⟩
abbrev cX7_become : ByteArray := prog_9_method_2_code
def yX7_become : MethodName := ⟨RX7, "become", "(LCalendarSync$Side;)V"⟩
abbrev cX7_beginWith : ByteArray := prog_9_method_3_code
def yX7_beginWith : MethodName := ⟨RX7, "beginWith", "(LCalendarSync$Place;)V"⟩
abbrev cX7_noteContent : ByteArray := prog_9_method_4_code
def yX7_noteContent : MethodName := ⟨RX7, "noteContent", "(I)V"⟩
abbrev cX7_noteAnswers : ByteArray := prog_9_method_5_code
def yX7_noteAnswers : MethodName := ⟨RX7, "noteAnswers", "(I)V"⟩
def RX8 : String := "CalendarSync$Text"
def TX8 : u_T := fun k => match k with
  | 0 => ("CalendarSync$Text", "length", "I", false)
  | 1 => ("CalendarSync$Text", "kind", "I", false)
  | 2 => ("CalendarSync$Text", "start", "I", false)
  | 3 => ("CalendarSync$Text", "value", "I", false)
  | 4 => ("CalendarSync$Text", "bytes", "[B", true)
  | 5 => ("CalendarSync$Text", "end", "I", false)
  | _ => ("CalendarSync$Text", "behind", "I", false)
def tyX8 : Nat → FieldType := fun k => match k with
  | 0 => .int
  | 1 => .int
  | 2 => .int
  | 3 => .int
  | 4 => .array .byte
  | 5 => .int
  | _ => .int
abbrev wsX80 : List Cond := u_ws RX8 TX8 7
theorem nmX8 : ∀ a, a < 7 → ∀ b, b < 7 → a ≠ b → (TX8 a).2.1 ≠ (TX8 b).2.1 := by decide +kernel
theorem tyX8_ok : ∀ k, k < 7 → parseFieldDescriptor (TX8 k).2.2.1 = some (tyX8 k) := by decide +kernel
abbrev cX8_init : ByteArray := prog_10_method_1_code
def yX8_init : MethodName := ⟨RX8, "<init>", "()V"⟩
abbrev cX8_appendBytes : ByteArray := prog_10_method_2_code
def yX8_appendBytes : MethodName := ⟨RX8, "appendBytes", "(I)V"⟩
abbrev cX8_beginTokens : ByteArray := prog_10_method_3_code
def yX8_beginTokens : MethodName := ⟨RX8, "beginTokens", "(I)V"⟩
abbrev cX8_step : ByteArray := prog_10_method_4_code
def yX8_step : MethodName := ⟨RX8, "step", "()V"⟩
abbrev cX8_isWord : ByteArray := prog_10_method_5_code
def yX8_isWord : MethodName := ⟨RX8, "isWord", "(Ljava/lang/String;)Z"⟩
abbrev cX8_weekday : ByteArray := prog_10_method_6_code
def yX8_weekday : MethodName := ⟨RX8, "weekday", "()I"⟩
abbrev cX8_isBlank : ByteArray := prog_10_method_7_code
def yX8_isBlank : MethodName := ⟨RX8, "isBlank", "(B)Z"⟩
abbrev cX8_isLetter : ByteArray := prog_10_method_8_code
def yX8_isLetter : MethodName := ⟨RX8, "isLetter", "(B)Z"⟩
abbrev cX8_isDigit : ByteArray := prog_10_method_9_code
def yX8_isDigit : MethodName := ⟨RX8, "isDigit", "(B)Z"⟩
def RX9 : String := "CalendarSync$Zone"
def TX9 : u_T := fun k => match k with
  | 0 => ("CalendarSync$Zone", "offset", "I", false)
  | 1 => ("CalendarSync$Zone", "first", "I", false)
  | 2 => ("CalendarSync$Zone", "last", "I", false)
  | _ => ("CalendarSync$Zone", "version", "I", false)
def tyX9 : Nat → FieldType := fun k => match k with
  | 0 => .int
  | 1 => .int
  | 2 => .int
  | _ => .int
abbrev wsX90 : List Cond := u_ws RX9 TX9 4
theorem nmX9 : ∀ a, a < 4 → ∀ b, b < 4 → a ≠ b → (TX9 a).2.1 ≠ (TX9 b).2.1 := by decide +kernel
theorem tyX9_ok : ∀ k, k < 4 → parseFieldDescriptor (TX9 k).2.2.1 = some (tyX9 k) := by decide +kernel
abbrev cX9_init : ByteArray := prog_11_method_1_code
def yX9_init : MethodName := ⟨RX9, "<init>", "()V"⟩
abbrev cX9_setTo : ByteArray := prog_11_method_2_code
def yX9_setTo : MethodName := ⟨RX9, "setTo", "(III)V"⟩
abbrev cX9_become : ByteArray := prog_11_method_3_code
def yX9_become : MethodName := ⟨RX9, "become", "(LCalendarSync$Zone;)V"⟩
abbrev cX9_momentAt : ByteArray := prog_11_method_4_code
def yX9_momentAt : MethodName := ⟨RX9, "momentAt", "(II)I"⟩
abbrev cX9_isSummer : ByteArray := prog_11_method_5_code
def yX9_isSummer : MethodName := ⟨RX9, "isSummer", "(I)Z"⟩
def RX10 : String := "CalendarSync"
def TX10 : u_T := fun k => match k with
  | 0 => ("CalendarSync", "reader", "LCalendarSync$Reader;", true)
  | 1 => ("CalendarSync", "exchange", "LCalendarSync$Exchange;", true)
  | 2 => ("CalendarSync", "history", "LCalendarSync$History;", true)
  | 3 => ("CalendarSync", "slots", "[LCalendarSync$Exchange;", true)
  | 4 => ("CalendarSync", "isKept", "[Z", true)
  | _ => ("CalendarSync", "shownDates", "LCalendarSync$Agenda;", true)
def tyX10 : Nat → FieldType := fun k => match k with
  | 0 => .object "CalendarSync$Reader"
  | 1 => .object "CalendarSync$Exchange"
  | 2 => .object "CalendarSync$History"
  | 3 => .array (.object "CalendarSync$Exchange")
  | 4 => .array .boolean
  | _ => .object "CalendarSync$Agenda"
abbrev wsX100 : List Cond := u_ws RX10 TX10 6
theorem nmX10 : ∀ a, a < 6 → ∀ b, b < 6 → a ≠ b → (TX10 a).2.1 ≠ (TX10 b).2.1 := by decide +kernel
theorem tyX10_ok : ∀ k, k < 6 → parseFieldDescriptor (TX10 k).2.2.1 = some (tyX10 k) := by decide +kernel
abbrev cX10_init : ByteArray := prog_1_method_1_code
def yX10_init : MethodName := ⟨RX10, "<init>", "()V"⟩
abbrev cX10_feed : ByteArray := prog_1_method_2_code
def yX10_feed : MethodName := ⟨RX10, "feed", "(IIIII)I"⟩
abbrev cX10_load : ByteArray := prog_1_method_3_code
def yX10_load : MethodName := ⟨RX10, "load", "(I)I"⟩
abbrev cX10_day : ByteArray := prog_1_method_6_code
def yX10_day : MethodName := ⟨RX10, "day", "(II)I"⟩
abbrev cX10_zone : ByteArray := prog_1_method_7_code
def yX10_zone : MethodName := ⟨RX10, "zone", "(III)I"⟩
abbrev cX10_moment : ByteArray := prog_1_method_8_code
def yX10_moment : MethodName := ⟨RX10, "moment", "(IIII)I"⟩
abbrev cX10_events : ByteArray := prog_1_method_9_code
def yX10_events : MethodName := ⟨RX10, "events", "(I)I"⟩
abbrev cX10_event : ByteArray := prog_1_method_10_code
def yX10_event : MethodName := ⟨RX10, "event", "(III)I"⟩
abbrev cX10_date : ByteArray := prog_1_method_11_code
def yX10_date : MethodName := ⟨RX10, "date", "(IIII)I"⟩
abbrev cX10_answer : ByteArray := prog_1_method_12_code
def yX10_answer : MethodName := ⟨RX10, "answer", "(III)I"⟩
abbrev cX10_agenda : ByteArray := prog_1_method_13_code
def yX10_agenda : MethodName := ⟨RX10, "agenda", "(III)I"⟩
abbrev cX10_agendaAt : ByteArray := prog_1_method_14_code
def yX10_agendaAt : MethodName := ⟨RX10, "agendaAt", "(IIII)I"⟩
abbrev cX10_clashes : ByteArray := prog_1_method_15_code
def yX10_clashes : MethodName := ⟨RX10, "clashes", "(I)I"⟩
abbrev cX10_busy : ByteArray := prog_1_method_16_code
def yX10_busy : MethodName := ⟨RX10, "busy", "(III)F"⟩
abbrev cX10_isSame : ByteArray := prog_1_method_18_code
def yX10_isSame : MethodName := ⟨RX10, "isSame", "(I)Z"⟩
abbrev cX10_clock : ByteArray := prog_1_method_19_code
def yX10_clock : MethodName := ⟨RX10, "clock", "()I"⟩
abbrev cX10_side : ByteArray := prog_1_method_20_code
def yX10_side : MethodName := ⟨RX10, "side", "(II)I"⟩
abbrev cX10_account : ByteArray := prog_1_method_21_code
def yX10_account : MethodName := ⟨RX10, "account", "(II)I"⟩
abbrev cX10_create : ByteArray := prog_1_method_22_code
def yX10_create : MethodName := ⟨RX10, "create", "(IIIIII)I"⟩
abbrev cX10_repeat : ByteArray := prog_1_method_23_code
def yX10_repeat : MethodName := ⟨RX10, "repeat", "(IIIIII)I"⟩
abbrev cX10_cancel : ByteArray := prog_1_method_24_code
def yX10_cancel : MethodName := ⟨RX10, "cancel", "(III)I"⟩
abbrev cX10_move : ByteArray := prog_1_method_25_code
def yX10_move : MethodName := ⟨RX10, "move", "(IIIII)I"⟩
abbrev cX10_reply : ByteArray := prog_1_method_26_code
def yX10_reply : MethodName := ⟨RX10, "reply", "(IIII)I"⟩
abbrev cX10_remove : ByteArray := prog_1_method_27_code
def yX10_remove : MethodName := ⟨RX10, "remove", "(II)I"⟩
abbrev cX10_setZone : ByteArray := prog_1_method_28_code
def yX10_setZone : MethodName := ⟨RX10, "setZone", "(IIII)I"⟩
abbrev cX10_push : ByteArray := prog_1_method_29_code
def yX10_push : MethodName := ⟨RX10, "push", "(I)I"⟩
abbrev cX10_pull : ByteArray := prog_1_method_30_code
def yX10_pull : MethodName := ⟨RX10, "pull", "(I)I"⟩
abbrev cX10_sync : ByteArray := prog_1_method_31_code
def yX10_sync : MethodName := ⟨RX10, "sync", "(I)I"⟩
abbrev cX10_undo : ByteArray := prog_1_method_32_code
def yX10_undo : MethodName := ⟨RX10, "undo", "()I"⟩
abbrev cX10_keep : ByteArray := prog_1_method_33_code
def yX10_keep : MethodName := ⟨RX10, "keep", "(I)I"⟩
abbrev cX10_restore : ByteArray := prog_1_method_34_code
def yX10_restore : MethodName := ⟨RX10, "restore", "(I)I"⟩
abbrev cX10_busyShare : ByteArray := prog_1_method_35_code
def yX10_busyShare : MethodName := ⟨RX10, "busyShare", "(III)F"⟩
abbrev cX10_placeAt : ByteArray := prog_1_method_37_code
def yX10_placeAt : MethodName := ⟨RX10, "placeAt", "(I)LCalendarSync$Place;"⟩
abbrev cX10_sideAt : ByteArray := prog_1_method_38_code
def yX10_sideAt : MethodName := ⟨RX10, "sideAt", "(I)LCalendarSync$Side;"⟩
abbrev cX10_zoneAt : ByteArray := prog_1_method_39_code
def yX10_zoneAt : MethodName := ⟨RX10, "zoneAt", "(LCalendarSync$Place;I)LCalendarSync$Zone;"⟩
abbrev cX10_eventAt : ByteArray := prog_1_method_40_code
def yX10_eventAt : MethodName := ⟨RX10, "eventAt", "(LCalendarSync$Place;I)LCalendarSync$Event;"⟩
abbrev cX10_isSide : ByteArray := prog_1_method_41_code
def yX10_isSide : MethodName := ⟨RX10, "isSide", "(I)Z"⟩
abbrev cX10_isWithin : ByteArray := prog_1_method_42_code
def yX10_isWithin : MethodName := ⟨RX10, "isWithin", "(III)Z"⟩
abbrev cX10_hasBit : ByteArray := prog_1_method_43_code
def yX10_hasBit : MethodName := ⟨RX10, "hasBit", "(II)Z"⟩
abbrev cX10_requireArgument : ByteArray := prog_1_method_44_code
def yX10_requireArgument : MethodName := ⟨RX10, "requireArgument", "(Z)V"⟩
abbrev cX10_requireElement : ByteArray := prog_1_method_45_code
def yX10_requireElement : MethodName := ⟨RX10, "requireElement", "(Z)V"⟩
abbrev cX10_requireIndex : ByteArray := prog_1_method_46_code
def yX10_requireIndex : MethodName := ⟨RX10, "requireIndex", "(Z)V"⟩
abbrev cX10_requireState : ByteArray := prog_1_method_47_code
def yX10_requireState : MethodName := ⟨RX10, "requireState", "(Z)V"⟩
def RX11 : String := "CalendarSyncModel"
def TX11 : u_T := fun k => match k with
  | _ => ("", "", "", false)
def tyX11 : Nat → FieldType := fun k => match k with
  | _ => .int
abbrev wsX110 : List Cond := u_ws RX11 TX11 0
theorem nmX11 : ∀ a, a < 0 → ∀ b, b < 0 → a ≠ b → (TX11 a).2.1 ≠ (TX11 b).2.1 := by decide +kernel
theorem tyX11_ok : ∀ k, k < 0 → parseFieldDescriptor (TX11 k).2.2.1 = some (tyX11 k) := by decide +kernel
def RJx145de : String := "java/io/Serializable"
def TJx145de : u_T := fun k => match k with
  | _ => ("", "", "", false)
def tyJx145de : Nat → FieldType := fun k => match k with
  | _ => .int
abbrev wsJx145de0 : List Cond := u_ws RJx145de TJx145de 0
theorem nmJx145de : ∀ a, a < 0 → ∀ b, b < 0 → a ≠ b → (TJx145de a).2.1 ≠ (TJx145de b).2.1 := by decide +kernel
theorem tyJx145de_ok : ∀ k, k < 0 → parseFieldDescriptor (TJx145de k).2.2.1 = some (tyJx145de k) := by decide +kernel
def RJ5 : String := "java/lang/AbstractStringBuilder"
def TJ5 : u_T := fun k => match k with
  | _ => ("", "", "", false)
def tyJ5 : Nat → FieldType := fun k => match k with
  | _ => .int
abbrev wsJ50 : List Cond := u_ws RJ5 TJ5 0
theorem nmJ5 : ∀ a, a < 0 → ∀ b, b < 0 → a ≠ b → (TJ5 a).2.1 ≠ (TJ5 b).2.1 := by decide +kernel
theorem tyJ5_ok : ∀ k, k < 0 → parseFieldDescriptor (TJ5 k).2.2.1 = some (tyJ5 k) := by decide +kernel
abbrev cJ5_init_d00df : ByteArray := prog_15_method_2_code
def yJ5_init_d00df : MethodName := ⟨RJ5, "<init>", "(I)V"⟩
abbrev cJ5_init_a7421 : ByteArray := prog_15_method_3_code
def yJ5_init_a7421 : MethodName := ⟨RJ5, "<init>", "(Ljava/lang/String;)V"⟩
abbrev cJ5_length_8abf5 : ByteArray := prog_15_method_6_code
def yJ5_length_8abf5 : MethodName := ⟨RJ5, "length", "()I"⟩
abbrev cJ5_ensureCapacityInternal_d00df : ByteArray := prog_15_method_9_code
def yJ5_ensureCapacityInternal_d00df : MethodName := ⟨RJ5, "ensureCapacityInternal", "(I)V"⟩
abbrev cJ5_newCapacity_0f7a4 : ByteArray := prog_15_method_10_code
def yJ5_newCapacity_0f7a4 : MethodName := ⟨RJ5, "newCapacity", "(I)I"⟩
abbrev cJ5_inflate_da8c8 : ByteArray := prog_15_method_11_code
def yJ5_inflate_da8c8 : MethodName := ⟨RJ5, "inflate", "()V"⟩
abbrev cJ5_append_cf1ce : ByteArray := prog_15_method_22_code
def yJ5_append_cf1ce : MethodName := ⟨RJ5, "append", "(Ljava/lang/String;)Ljava/lang/AbstractStringBuilder;"⟩
abbrev cJ5_appendNull_278bc : ByteArray := prog_15_method_26_code
def yJ5_appendNull_278bc : MethodName := ⟨RJ5, "appendNull", "()Ljava/lang/AbstractStringBuilder;"⟩
abbrev cJ5_append_3fe6f : ByteArray := prog_15_method_31_code
def yJ5_append_3fe6f : MethodName := ⟨RJ5, "append", "(C)Ljava/lang/AbstractStringBuilder;"⟩
abbrev cJ5_append_c97b9 : ByteArray := prog_15_method_32_code
def yJ5_append_c97b9 : MethodName := ⟨RJ5, "append", "(I)Ljava/lang/AbstractStringBuilder;"⟩
abbrev cJ5_getValue_6d5f1 : ByteArray := prog_15_method_64_code
def yJ5_getValue_6d5f1 : MethodName := ⟨RJ5, "getValue", "()[B"⟩
abbrev cJ5_isLatin1_aae02 : ByteArray := prog_15_method_68_code
def yJ5_isLatin1_aae02 : MethodName := ⟨RJ5, "isLatin1", "()Z"⟩
abbrev cJ5_inflateIfNeededFor_a7421 : ByteArray := prog_15_method_71_code
def yJ5_inflateIfNeededFor_a7421 : MethodName := ⟨RJ5, "inflateIfNeededFor", "(Ljava/lang/String;)V"⟩
abbrev cJ5_putStringAt_47b60 : ByteArray := prog_15_method_73_code
def yJ5_putStringAt_47b60 : MethodName := ⟨RJ5, "putStringAt", "(ILjava/lang/String;)V"⟩
def RJx2cfe8 : String := "java/lang/Appendable"
def TJx2cfe8 : u_T := fun k => match k with
  | _ => ("", "", "", false)
def tyJx2cfe8 : Nat → FieldType := fun k => match k with
  | _ => .int
abbrev wsJx2cfe80 : List Cond := u_ws RJx2cfe8 TJx2cfe8 0
theorem nmJx2cfe8 : ∀ a, a < 0 → ∀ b, b < 0 → a ≠ b → (TJx2cfe8 a).2.1 ≠ (TJx2cfe8 b).2.1 := by decide +kernel
theorem tyJx2cfe8_ok : ∀ k, k < 0 → parseFieldDescriptor (TJx2cfe8 k).2.2.1 = some (tyJx2cfe8 k) := by decide +kernel
def RJx9f9b0 : String := "java/lang/CharSequence"
def TJx9f9b0 : u_T := fun k => match k with
  | _ => ("", "", "", false)
def tyJx9f9b0 : Nat → FieldType := fun k => match k with
  | _ => .int
abbrev wsJx9f9b00 : List Cond := u_ws RJx9f9b0 TJx9f9b0 0
theorem nmJx9f9b0 : ∀ a, a < 0 → ∀ b, b < 0 → a ≠ b → (TJx9f9b0 a).2.1 ≠ (TJx9f9b0 b).2.1 := by decide +kernel
theorem tyJx9f9b0_ok : ∀ k, k < 0 → parseFieldDescriptor (TJx9f9b0 k).2.2.1 = some (tyJx9f9b0 k) := by decide +kernel
def RJx8e188 : String := "java/lang/Cloneable"
def TJx8e188 : u_T := fun k => match k with
  | _ => ("", "", "", false)
def tyJx8e188 : Nat → FieldType := fun k => match k with
  | _ => .int
abbrev wsJx8e1880 : List Cond := u_ws RJx8e188 TJx8e188 0
theorem nmJx8e188 : ∀ a, a < 0 → ∀ b, b < 0 → a ≠ b → (TJx8e188 a).2.1 ≠ (TJx8e188 b).2.1 := by decide +kernel
theorem tyJx8e188_ok : ∀ k, k < 0 → parseFieldDescriptor (TJx8e188 k).2.2.1 = some (tyJx8e188 k) := by decide +kernel
def RJxb160c : String := "java/lang/Comparable"
def TJxb160c : u_T := fun k => match k with
  | _ => ("", "", "", false)
def tyJxb160c : Nat → FieldType := fun k => match k with
  | _ => .int
abbrev wsJxb160c0 : List Cond := u_ws RJxb160c TJxb160c 0
theorem nmJxb160c : ∀ a, a < 0 → ∀ b, b < 0 → a ≠ b → (TJxb160c a).2.1 ≠ (TJxb160c b).2.1 := by decide +kernel
theorem tyJxb160c_ok : ∀ k, k < 0 → parseFieldDescriptor (TJxb160c k).2.2.1 = some (tyJxb160c k) := by decide +kernel
def RJ6 : String := "java/lang/Integer"
def TJ6 : u_T := fun k => match k with
  | _ => ("", "", "", false)
def tyJ6 : Nat → FieldType := fun k => match k with
  | _ => .int
abbrev wsJ60 : List Cond := u_ws RJ6 TJ6 0
theorem nmJ6 : ∀ a, a < 0 → ∀ b, b < 0 → a ≠ b → (TJ6 a).2.1 ≠ (TJ6 b).2.1 := by decide +kernel
theorem tyJ6_ok : ∀ k, k < 0 → parseFieldDescriptor (TJ6 k).2.2.1 = some (tyJ6 k) := by decide +kernel
abbrev cJ6_getChars_ba4f3 : ByteArray := prog_24_method_12_code
def yJ6_getChars_ba4f3 : MethodName := ⟨RJ6, "getChars", "(II[B)I"⟩
abbrev cJ6_stringSize_0f7a4 : ByteArray := prog_24_method_13_code
def yJ6_stringSize_0f7a4 : MethodName := ⟨RJ6, "stringSize", "(I)I"⟩
abbrev cJ6_bitCount_0f7a4 : ByteArray := prog_24_method_49_code
def yJ6_bitCount_0f7a4 : MethodName := ⟨RJ6, "bitCount", "(I)I"⟩
def RJ9 : String := "java/lang/Math"
def TJ9 : u_T := fun k => match k with
  | _ => ("", "", "", false)
def tyJ9 : Nat → FieldType := fun k => match k with
  | _ => .int
abbrev wsJ90 : List Cond := u_ws RJ9 TJ9 0
theorem nmJ9 : ∀ a, a < 0 → ∀ b, b < 0 → a ≠ b → (TJ9 a).2.1 ≠ (TJ9 b).2.1 := by decide +kernel
theorem tyJ9_ok : ∀ k, k < 0 → parseFieldDescriptor (TJ9 k).2.2.1 = some (tyJ9 k) := by decide +kernel
abbrev cJ9_max_7cf53 : ByteArray := prog_25_method_65_code
def yJ9_max_7cf53 : MethodName := ⟨RJ9, "max", "(II)I"⟩
abbrev cJ9_min_7cf53 : ByteArray := prog_25_method_69_code
def yJ9_min_7cf53 : MethodName := ⟨RJ9, "min", "(II)I"⟩
def RJxd2413 : String := "java/lang/Number"
def TJxd2413 : u_T := fun k => match k with
  | _ => ("", "", "", false)
def tyJxd2413 : Nat → FieldType := fun k => match k with
  | _ => .int
abbrev wsJxd24130 : List Cond := u_ws RJxd2413 TJxd2413 0
theorem nmJxd2413 : ∀ a, a < 0 → ∀ b, b < 0 → a ≠ b → (TJxd2413 a).2.1 ≠ (TJxd2413 b).2.1 := by decide +kernel
theorem tyJxd2413_ok : ∀ k, k < 0 → parseFieldDescriptor (TJxd2413 k).2.2.1 = some (tyJxd2413 k) := by decide +kernel
def RJ0 : String := "java/lang/String"
def TJ0 : u_T := fun k => match k with
  | 0 => ("java/lang/String", "value", "[B", true)
  | 1 => ("java/lang/String", "coder", "B", true)
  | 2 => ("java/lang/String", "hash", "I", false)
  | _ => ("java/lang/String", "hashIsZero", "Z", false)
def tyJ0 : Nat → FieldType := fun k => match k with
  | 0 => .array .byte
  | 1 => .byte
  | 2 => .int
  | _ => .boolean
abbrev wsJ00 : List Cond := u_ws RJ0 TJ0 4
theorem nmJ0 : ∀ a, a < 4 → ∀ b, b < 4 → a ≠ b → (TJ0 a).2.1 ≠ (TJ0 b).2.1 := by decide +kernel
theorem tyJ0_ok : ∀ k, k < 4 → parseFieldDescriptor (TJ0 k).2.2.1 = some (tyJ0 k) := by decide +kernel
abbrev cJ0_init_81219 : ByteArray := prog_28_method_53_code
def yJ0_init_81219 : MethodName := ⟨RJ0, "<init>", "(Ljava/lang/StringBuilder;)V"⟩
abbrev cJ0_length_8abf5 : ByteArray := prog_28_method_54_code
def yJ0_length_8abf5 : MethodName := ⟨RJ0, "length", "()I"⟩
abbrev cJ0_charAt_5068e : ByteArray := prog_28_method_56_code
def yJ0_charAt_5068e : MethodName := ⟨RJ0, "charAt", "(I)C"⟩
abbrev cJ0_getBytes_840e7 : ByteArray := prog_28_method_147_code
def yJ0_getBytes_840e7 : MethodName := ⟨RJ0, "getBytes", "([BIB)V"⟩
abbrev cJ0_init_db425 : ByteArray := prog_28_method_150_code
def yJ0_init_db425 : MethodName := ⟨RJ0, "<init>", "(Ljava/lang/AbstractStringBuilder;Ljava/lang/Void;)V"⟩
abbrev cJ0_coder_7d493 : ByteArray := prog_28_method_152_code
def yJ0_coder_7d493 : MethodName := ⟨RJ0, "coder", "()B"⟩
abbrev cJ0_isLatin1_aae02 : ByteArray := prog_28_method_154_code
def yJ0_isLatin1_aae02 : MethodName := ⟨RJ0, "isLatin1", "()Z"⟩
abbrev cJ0_checkIndex_df160 : ByteArray := prog_28_method_155_code
def yJ0_checkIndex_df160 : MethodName := ⟨RJ0, "checkIndex", "(II)V"⟩
abbrev cJ0_checkBoundsOffCount_cabcc : ByteArray := prog_28_method_157_code
def yJ0_checkBoundsOffCount_cabcc : MethodName := ⟨RJ0, "checkBoundsOffCount", "(III)I"⟩
abbrev cJ0_checkBoundsBeginEnd_23922 : ByteArray := prog_28_method_158_code
def yJ0_checkBoundsBeginEnd_23922 : MethodName := ⟨RJ0, "checkBoundsBeginEnd", "(III)V"⟩
def RJ4 : String := "java/lang/StringBuilder"
def TJ4 : u_T := fun k => match k with
  | 0 => ("java/lang/AbstractStringBuilder", "value", "[B", false)
  | 1 => ("java/lang/AbstractStringBuilder", "coder", "B", false)
  | 2 => ("java/lang/AbstractStringBuilder", "maybeLatin1", "Z", false)
  | _ => ("java/lang/AbstractStringBuilder", "count", "I", false)
def tyJ4 : Nat → FieldType := fun k => match k with
  | 0 => .array .byte
  | 1 => .byte
  | 2 => .boolean
  | _ => .int
abbrev wsJ40 : List Cond := u_ws RJ4 TJ4 4
theorem nmJ4 : ∀ a, a < 4 → ∀ b, b < 4 → a ≠ b → (TJ4 a).2.1 ≠ (TJ4 b).2.1 := by decide +kernel
theorem tyJ4_ok : ∀ k, k < 4 → parseFieldDescriptor (TJ4 k).2.2.1 = some (tyJ4 k) := by decide +kernel
abbrev cJ4_init_da8c8 : ByteArray := prog_29_method_1_code
def yJ4_init_da8c8 : MethodName := ⟨RJ4, "<init>", "()V"⟩
abbrev cJ4_init_a7421 : ByteArray := prog_29_method_3_code
def yJ4_init_a7421 : MethodName := ⟨RJ4, "<init>", "(Ljava/lang/String;)V"⟩
abbrev cJ4_append_15ec4 : ByteArray := prog_29_method_7_code
def yJ4_append_15ec4 : MethodName := ⟨RJ4, "append", "(Ljava/lang/String;)Ljava/lang/StringBuilder;"⟩
abbrev cJ4_append_cf468 : ByteArray := prog_29_method_14_code
def yJ4_append_cf468 : MethodName := ⟨RJ4, "append", "(C)Ljava/lang/StringBuilder;"⟩
abbrev cJ4_append_bf812 : ByteArray := prog_29_method_15_code
def yJ4_append_bf812 : MethodName := ⟨RJ4, "append", "(I)Ljava/lang/StringBuilder;"⟩
abbrev cJ4_toString_0e30d : ByteArray := prog_29_method_42_code
def yJ4_toString_0e30d : MethodName := ⟨RJ4, "toString", "()Ljava/lang/String;"⟩
abbrev cJ4_append_cf1ce : ByteArray := prog_29_method_80_code
def yJ4_append_cf1ce : MethodName := ⟨RJ4, "append", "(Ljava/lang/String;)Ljava/lang/AbstractStringBuilder;"⟩
abbrev cJ4_length_8abf5 : ByteArray := prog_29_method_93_code
def yJ4_length_8abf5 : MethodName := ⟨RJ4, "length", "()I"⟩
def RJ1 : String := "java/lang/StringLatin1"
def TJ1 : u_T := fun k => match k with
  | _ => ("", "", "", false)
def tyJ1 : Nat → FieldType := fun k => match k with
  | _ => .int
abbrev wsJ10 : List Cond := u_ws RJ1 TJ1 0
theorem nmJ1 : ∀ a, a < 0 → ∀ b, b < 0 → a ≠ b → (TJ1 a).2.1 ≠ (TJ1 b).2.1 := by decide +kernel
theorem tyJ1_ok : ∀ k, k < 0 → parseFieldDescriptor (TJ1 k).2.2.1 = some (tyJ1 k) := by decide +kernel
abbrev cJ1_charAt_3b067 : ByteArray := prog_30_method_2_code
def yJ1_charAt_3b067 : MethodName := ⟨RJ1, "charAt", "([BI)C"⟩
abbrev cJ1_canEncode_fc78d : ByteArray := prog_30_method_3_code
def yJ1_canEncode_fc78d : MethodName := ⟨RJ1, "canEncode", "(C)Z"⟩
abbrev cJ1_inflate_0e8fd : ByteArray := prog_30_method_50_code
def yJ1_inflate_0e8fd : MethodName := ⟨RJ1, "inflate", "([BI[BII)V"⟩
def RJ2 : String := "java/lang/StringUTF16"
def TJ2 : u_T := fun k => match k with
  | _ => ("", "", "", false)
def tyJ2 : Nat → FieldType := fun k => match k with
  | _ => .int
abbrev wsJ20 : List Cond := u_ws RJ2 TJ2 0
theorem nmJ2 : ∀ a, a < 0 → ∀ b, b < 0 → a ≠ b → (TJ2 a).2.1 ≠ (TJ2 b).2.1 := by decide +kernel
theorem tyJ2_ok : ∀ k, k < 0 → parseFieldDescriptor (TJ2 k).2.2.1 = some (tyJ2 k) := by decide +kernel
abbrev cJ2_newBytesFor_77867 : ByteArray := prog_31_method_2_code
def yJ2_newBytesFor_77867 : MethodName := ⟨RJ2, "newBytesFor", "(I)[B"⟩
abbrev cJ2_newBytesLength_0f7a4 : ByteArray := prog_31_method_3_code
def yJ2_newBytesLength_0f7a4 : MethodName := ⟨RJ2, "newBytesLength", "(I)I"⟩
abbrev cJ2_putChar_b72d1 : ByteArray := prog_31_method_4_code
def yJ2_putChar_b72d1 : MethodName := ⟨RJ2, "putChar", "([BII)V"⟩
abbrev cJ2_getChar_3b067 : ByteArray := prog_31_method_5_code
def yJ2_getChar_3b067 : MethodName := ⟨RJ2, "getChar", "([BI)C"⟩
abbrev cJ2_length_9d52b : ByteArray := prog_31_method_6_code
def yJ2_length_9d52b : MethodName := ⟨RJ2, "length", "([B)I"⟩
abbrev cJ2_coderFromArrayLen_85cad : ByteArray := prog_31_method_15_code
def yJ2_coderFromArrayLen_85cad : MethodName := ⟨RJ2, "coderFromArrayLen", "([BI)B"⟩
abbrev cJ2_compress_39247 : ByteArray := prog_31_method_17_code
def yJ2_compress_39247 : MethodName := ⟨RJ2, "compress", "([BII)[B"⟩
abbrev cJ2_compress_5af95 : ByteArray := prog_31_method_22_code
def yJ2_compress_5af95 : MethodName := ⟨RJ2, "compress", "([BI[BII)I"⟩
abbrev cJ2_putCharSB_b72d1 : ByteArray := prog_31_method_71_code
def yJ2_putCharSB_b72d1 : MethodName := ⟨RJ2, "putCharSB", "([BII)V"⟩
abbrev cJ2_getChars_46870 : ByteArray := prog_31_method_77_code
def yJ2_getChars_46870 : MethodName := ⟨RJ2, "getChars", "(III[B)I"⟩
abbrev cJ2_putCharsAt_cd4e5 : ByteArray := prog_31_method_81_code
def yJ2_putCharsAt_cd4e5 : MethodName := ⟨RJ2, "putCharsAt", "([BICCCC)I"⟩
abbrev cJ2_charAt_3b067 : ByteArray := prog_31_method_83_code
def yJ2_charAt_3b067 : MethodName := ⟨RJ2, "charAt", "([BI)C"⟩
abbrev cJ2_inflate_0e8fd : ByteArray := prog_31_method_86_code
def yJ2_inflate_0e8fd : MethodName := ⟨RJ2, "inflate", "([BI[BII)V"⟩
abbrev cJ2_getChars_ba4f3 : ByteArray := prog_31_method_89_code
def yJ2_getChars_ba4f3 : MethodName := ⟨RJ2, "getChars", "(II[B)I"⟩
abbrev cJ2_checkIndex_2214a : ByteArray := prog_31_method_91_code
def yJ2_checkIndex_2214a : MethodName := ⟨RJ2, "checkIndex", "(I[B)V"⟩
abbrev cJ2_checkBoundsBeginEnd_d044e : ByteArray := prog_31_method_93_code
def yJ2_checkBoundsBeginEnd_d044e : MethodName := ⟨RJ2, "checkBoundsBeginEnd", "(II[B)V"⟩
abbrev cJ2_checkBoundsOffCount_d044e : ByteArray := prog_31_method_94_code
def yJ2_checkBoundsOffCount_d044e : MethodName := ⟨RJ2, "checkBoundsOffCount", "(II[B)V"⟩
def RJ10 : String := "java/lang/System"
def TJ10 : u_T := fun k => match k with
  | _ => ("", "", "", false)
def tyJ10 : Nat → FieldType := fun k => match k with
  | _ => .int
abbrev wsJ100 : List Cond := u_ws RJ10 TJ10 0
theorem nmJ10 : ∀ a, a < 0 → ∀ b, b < 0 → a ≠ b → (TJ10 a).2.1 ≠ (TJ10 b).2.1 := by decide +kernel
theorem tyJ10_ok : ∀ k, k < 0 → parseFieldDescriptor (TJ10 k).2.2.1 = some (tyJ10 k) := by decide +kernel
def RJxfd54e : String := "java/lang/constant/Constable"
def TJxfd54e : u_T := fun k => match k with
  | _ => ("", "", "", false)
def tyJxfd54e : Nat → FieldType := fun k => match k with
  | _ => .int
abbrev wsJxfd54e0 : List Cond := u_ws RJxfd54e TJxfd54e 0
theorem nmJxfd54e : ∀ a, a < 0 → ∀ b, b < 0 → a ≠ b → (TJxfd54e a).2.1 ≠ (TJxfd54e b).2.1 := by decide +kernel
theorem tyJxfd54e_ok : ∀ k, k < 0 → parseFieldDescriptor (TJxfd54e k).2.2.1 = some (tyJxfd54e k) := by decide +kernel
def RJx3cf43 : String := "java/lang/constant/ConstantDesc"
def TJx3cf43 : u_T := fun k => match k with
  | _ => ("", "", "", false)
def tyJx3cf43 : Nat → FieldType := fun k => match k with
  | _ => .int
abbrev wsJx3cf430 : List Cond := u_ws RJx3cf43 TJx3cf43 0
theorem nmJx3cf43 : ∀ a, a < 0 → ∀ b, b < 0 → a ≠ b → (TJx3cf43 a).2.1 ≠ (TJx3cf43 b).2.1 := by decide +kernel
theorem tyJx3cf43_ok : ∀ k, k < 0 → parseFieldDescriptor (TJx3cf43 k).2.2.1 = some (tyJx3cf43 k) := by decide +kernel
def RJ7 : String := "java/util/Arrays"
def TJ7 : u_T := fun k => match k with
  | _ => ("", "", "", false)
def tyJ7 : Nat → FieldType := fun k => match k with
  | _ => .int
abbrev wsJ70 : List Cond := u_ws RJ7 TJ7 0
theorem nmJ7 : ∀ a, a < 0 → ∀ b, b < 0 → a ≠ b → (TJ7 a).2.1 ≠ (TJ7 b).2.1 := by decide +kernel
theorem tyJ7_ok : ∀ k, k < 0 → parseFieldDescriptor (TJ7 k).2.2.1 = some (tyJ7 k) := by decide +kernel
abbrev cJ7_copyOf_9075b : ByteArray := prog_36_method_121_code
def yJ7_copyOf_9075b : MethodName := ⟨RJ7, "copyOf", "([BI)[B"⟩
abbrev cJ7_checkLength_df160 : ByteArray := prog_36_method_131_code
def yJ7_checkLength_df160 : MethodName := ⟨RJ7, "checkLength", "(II)V"⟩
abbrev cJ7_copyOfRange_39247 : ByteArray := prog_36_method_132_code
def yJ7_copyOfRange_39247 : MethodName := ⟨RJ7, "copyOfRange", "([BII)[B"⟩
abbrev cJ7_copyOfRangeByte_39247 : ByteArray := prog_36_method_133_code
def yJ7_copyOfRangeByte_39247 : MethodName := ⟨RJ7, "copyOfRangeByte", "([BII)[B"⟩
def RJ8 : String := "jdk/internal/util/ArraysSupport"
def TJ8 : u_T := fun k => match k with
  | _ => ("", "", "", false)
def tyJ8 : Nat → FieldType := fun k => match k with
  | _ => .int
abbrev wsJ80 : List Cond := u_ws RJ8 TJ8 0
theorem nmJ8 : ∀ a, a < 0 → ∀ b, b < 0 → a ≠ b → (TJ8 a).2.1 ≠ (TJ8 b).2.1 := by decide +kernel
theorem tyJ8_ok : ∀ k, k < 0 → parseFieldDescriptor (TJ8 k).2.2.1 = some (tyJ8 k) := by decide +kernel
abbrev cJ8_newLength_cabcc : ByteArray := prog_38_method_27_code
def yJ8_newLength_cabcc : MethodName := ⟨RJ8, "newLength", "(III)I"⟩
abbrev cJ8_hugeLength_7cf53 : ByteArray := prog_38_method_28_code
def yJ8_hugeLength_7cf53 : MethodName := ⟨RJ8, "hugeLength", "(II)I"⟩
def RJ3 : String := "jdk/internal/util/Preconditions"
def TJ3 : u_T := fun k => match k with
  | _ => ("", "", "", false)
def tyJ3 : Nat → FieldType := fun k => match k with
  | _ => .int
abbrev wsJ30 : List Cond := u_ws RJ3 TJ3 0
theorem nmJ3 : ∀ a, a < 0 → ∀ b, b < 0 → a ≠ b → (TJ3 a).2.1 ≠ (TJ3 b).2.1 := by decide +kernel
theorem tyJ3_ok : ∀ k, k < 0 → parseFieldDescriptor (TJ3 k).2.2.1 = some (tyJ3 k) := by decide +kernel
abbrev cJ3_checkIndex_8e157 : ByteArray := prog_39_method_11_code
def yJ3_checkIndex_8e157 : MethodName := ⟨RJ3, "checkIndex", "(IILjava/util/function/BiFunction;)I"⟩
abbrev cJ3_checkFromToIndex_8c36e : ByteArray := prog_39_method_12_code
def yJ3_checkFromToIndex_8c36e : MethodName := ⟨RJ3, "checkFromToIndex", "(IIILjava/util/function/BiFunction;)I"⟩
abbrev cJ3_checkFromIndexSize_8c36e : ByteArray := prog_39_method_13_code
def yJ3_checkFromIndexSize_8c36e : MethodName := ⟨RJ3, "checkFromIndexSize", "(IIILjava/util/function/BiFunction;)I"⟩
def RL : String := "CalendarSyncLaw"
abbrev cL_next : ByteArray := method_2_code
def yL_next : MethodName := ⟨RL, "next", "([I)I"⟩
abbrev cL_type : ByteArray := method_3_code
def yL_type : MethodName := ⟨RL, "type", "(LCalendarSync;Ljava/lang/String;)I"⟩
abbrev cL_load : ByteArray := method_4_code
def yL_load : MethodName := ⟨RL, "load", "(LCalendarSync;Ljava/lang/String;)I"⟩
abbrev cL_rule : ByteArray := method_5_code
def yL_rule : MethodName := ⟨RL, "rule", "([I)Ljava/lang/String;"⟩
abbrev cL_calendar : ByteArray := method_6_code
def yL_calendar : MethodName := ⟨RL, "calendar", "([I)Ljava/lang/String;"⟩
abbrev cL_undone : ByteArray := method_7_code
def yL_undone : MethodName := ⟨RL, "undone", "(LCalendarSync;)I"⟩
abbrev cL_made : ByteArray := method_8_code
def yL_made : MethodName := ⟨RL, "made", "(LCalendarSync;IIIIII)I"⟩
abbrev cL_repeated : ByteArray := method_9_code
def yL_repeated : MethodName := ⟨RL, "repeated", "(LCalendarSync;IIIIII)I"⟩
abbrev cL_cancelled : ByteArray := method_10_code
def yL_cancelled : MethodName := ⟨RL, "cancelled", "(LCalendarSync;III)I"⟩
abbrev cL_moved : ByteArray := method_11_code
def yL_moved : MethodName := ⟨RL, "moved", "(LCalendarSync;IIIII)I"⟩
abbrev cL_replied : ByteArray := method_12_code
def yL_replied : MethodName := ⟨RL, "replied", "(LCalendarSync;IIII)I"⟩
abbrev cL_removed : ByteArray := method_13_code
def yL_removed : MethodName := ⟨RL, "removed", "(LCalendarSync;II)I"⟩
abbrev cL_sum : ByteArray := method_14_code
def yL_sum : MethodName := ⟨RL, "sum", "(LCalendarSync;)J"⟩
abbrev cL_place : ByteArray := method_15_code
def yL_place : MethodName := ⟨RL, "place", "(LCalendarSync;I[I)Z"⟩
abbrev cL_law : ByteArray := code
def yL_law : MethodName := ⟨RL, "law", "([I)Z"⟩
abbrev cL_exchanges : ByteArray := method_17_code
def yL_exchanges : MethodName := ⟨RL, "exchanges", "(LCalendarSync;I)Z"⟩
abbrev cL_act : ByteArray := method_18_code
def yL_act : MethodName := ⟨RL, "act", "(LCalendarSync;[I)Z"⟩
abbrev vwCl : List vw_C := [(RX0, TX0, 3), (RX2, TX2, 17), (RX3, TX3, 4), (RX4, TX4, 3), (RX5, TX5, 3), (RX6, TX6, 9), (RX7, TX7, 5), (RX8, TX8, 7), (RX9, TX9, 4), (RX10, TX10, 6), (RJ4, TJ4, 4), (RJ0, TJ0, 4)]
