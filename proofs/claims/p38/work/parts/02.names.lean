def RX0 : String := "FerryCrews$Duties"
def TX0 : u_T := fun k => match k with
  | 0 => ("FerryCrews$Duties", "marks", "[I", true)
  | 1 => ("FerryCrews$Duties", "hours", "I", false)
  | 2 => ("FerryCrews$Duties", "end", "I", false)
  | _ => ("FerryCrews$Duties", "collide", "Z", false)
def tyX0 : Nat → FieldType := fun k => match k with
  | 0 => .array .int
  | 1 => .int
  | 2 => .int
  | _ => .boolean
abbrev wsX00 : List Cond := u_ws RX0 TX0 4
theorem nmX0 : ∀ a, a < 4 → ∀ b, b < 4 → a ≠ b → (TX0 a).2.1 ≠ (TX0 b).2.1 := by decide +kernel
theorem tyX0_ok : ∀ k, k < 4 → parseFieldDescriptor (TX0 k).2.2.1 = some (tyX0 k) := by decide +kernel
abbrev cX0_init : ByteArray := prog_2_method_1_code
def yX0_init : MethodName := ⟨RX0, "<init>", "()V"⟩
abbrev cX0_clear : ByteArray := prog_2_method_2_code
def yX0_clear : MethodName := ⟨RX0, "clear", "()V"⟩
abbrev cX0_addSailing : ByteArray := prog_2_method_3_code
def yX0_addSailing : MethodName := ⟨RX0, "addSailing", "(LFerryCrews$Sailing;)V"⟩
abbrev cX0_addHandover : ByteArray := prog_2_method_4_code
def yX0_addHandover : MethodName := ⟨RX0, "addHandover", "(LFerryCrews$Sailing;)V"⟩
abbrev cX0_mark : ByteArray := prog_2_method_5_code
def yX0_mark : MethodName := ⟨RX0, "mark", "(II)V"⟩
abbrev cX0_beginOf : ByteArray := prog_2_method_6_code
def yX0_beginOf : MethodName := ⟨RX0, "beginOf", "(LFerryCrews$Sailing;)I"⟩
abbrev cX0_restAt : ByteArray := prog_2_method_7_code
def yX0_restAt : MethodName := ⟨RX0, "restAt", "(I)I"⟩
abbrev cX0_restIn : ByteArray := prog_2_method_8_code
def yX0_restIn : MethodName := ⟨RX0, "restIn", "(II)I"⟩
abbrev cX0_everyRowHas : ByteArray := prog_2_method_9_code
def yX0_everyRowHas : MethodName := ⟨RX0, "everyRowHas", "(IIII)Z"⟩
abbrev cX0_everyDayHasLongRest : ByteArray := prog_2_method_10_code
def yX0_everyDayHasLongRest : MethodName := ⟨RX0, "everyDayHasLongRest", "(III)Z"⟩
abbrev cX0_leastLongRest : ByteArray := prog_2_method_11_code
def yX0_leastLongRest : MethodName := ⟨RX0, "leastLongRest", "()I"⟩
abbrev cX0_firstHourOfLeastRest : ByteArray := prog_2_method_12_code
def yX0_firstHourOfLeastRest : MethodName := ⟨RX0, "firstHourOfLeastRest", "()I"⟩
def RX1 : String := "FerryCrews$History"
def TX1 : u_T := fun k => match k with
  | 0 => ("FerryCrews$History", "states", "[LFerryCrews$State;", true)
  | _ => ("FerryCrews$History", "size", "I", false)
def tyX1 : Nat → FieldType := fun k => match k with
  | 0 => .array (.object "FerryCrews$State")
  | _ => .int
abbrev wsX10 : List Cond := u_ws RX1 TX1 2
theorem nmX1 : ∀ a, a < 2 → ∀ b, b < 2 → a ≠ b → (TX1 a).2.1 ≠ (TX1 b).2.1 := by decide +kernel
theorem tyX1_ok : ∀ k, k < 2 → parseFieldDescriptor (TX1 k).2.2.1 = some (tyX1 k) := by decide +kernel
abbrev cX1_init : ByteArray := prog_3_method_1_code
def yX1_init : MethodName := ⟨RX1, "<init>", "(LFerryCrews$Duties;)V"⟩
abbrev cX1_record : ByteArray := prog_3_method_2_code
def yX1_record : MethodName := ⟨RX1, "record", "(LFerryCrews$State;)V"⟩
abbrev cX1_dropOldest : ByteArray := prog_3_method_3_code
def yX1_dropOldest : MethodName := ⟨RX1, "dropOldest", "()V"⟩
abbrev cX1_takeBack : ByteArray := prog_3_method_4_code
def yX1_takeBack : MethodName := ⟨RX1, "takeBack", "(LFerryCrews$State;)V"⟩
def RX2 : String := "FerryCrews$Ladder"
def TX2 : u_T := fun k => match k with
  | 0 => ("FerryCrews$Ladder", "members", "[I", true)
  | _ => ("FerryCrews$Ladder", "size", "I", false)
def tyX2 : Nat → FieldType := fun k => match k with
  | 0 => .array .int
  | _ => .int
abbrev wsX20 : List Cond := u_ws RX2 TX2 2
theorem nmX2 : ∀ a, a < 2 → ∀ b, b < 2 → a ≠ b → (TX2 a).2.1 ≠ (TX2 b).2.1 := by decide +kernel
theorem tyX2_ok : ∀ k, k < 2 → parseFieldDescriptor (TX2 k).2.2.1 = some (tyX2 k) := by decide +kernel
abbrev cX2_init : ByteArray := prog_4_method_1_code
def yX2_init : MethodName := ⟨RX2, "<init>", "()V"⟩
abbrev cX2_copyFrom : ByteArray := prog_4_method_2_code
def yX2_copyFrom : MethodName := ⟨RX2, "copyFrom", "(LFerryCrews$Ladder;)V"⟩
abbrev cX2_memberOfRank : ByteArray := prog_4_method_3_code
def yX2_memberOfRank : MethodName := ⟨RX2, "memberOfRank", "(I)I"⟩
abbrev cX2_has : ByteArray := prog_4_method_4_code
def yX2_has : MethodName := ⟨RX2, "has", "(I)Z"⟩
abbrev cX2_takeOff : ByteArray := prog_4_method_5_code
def yX2_takeOff : MethodName := ⟨RX2, "takeOff", "(I)I"⟩
abbrev cX2_putLast : ByteArray := prog_4_method_6_code
def yX2_putLast : MethodName := ⟨RX2, "putLast", "(I)I"⟩
def RX3 : String := "FerryCrews$Member"
def TX3 : u_T := fun k => match k with
  | 0 => ("FerryCrews$Member", "certificates", "[I", true)
  | 1 => ("FerryCrews$Member", "sickUntil", "I", false)
  | _ => ("FerryCrews$Member", "covers", "I", false)
def tyX3 : Nat → FieldType := fun k => match k with
  | 0 => .array .int
  | 1 => .int
  | _ => .int
abbrev wsX30 : List Cond := u_ws RX3 TX3 3
theorem nmX3 : ∀ a, a < 3 → ∀ b, b < 3 → a ≠ b → (TX3 a).2.1 ≠ (TX3 b).2.1 := by decide +kernel
theorem tyX3_ok : ∀ k, k < 3 → parseFieldDescriptor (TX3 k).2.2.1 = some (tyX3 k) := by decide +kernel
abbrev cX3_init : ByteArray := prog_5_method_1_code
def yX3_init : MethodName := ⟨RX3, "<init>", "()V"⟩
abbrev cX3_copyFrom : ByteArray := prog_5_method_2_code
def yX3_copyFrom : MethodName := ⟨RX3, "copyFrom", "(LFerryCrews$Member;)V"⟩
abbrev cX3_certificateOf : ByteArray := prog_5_method_3_code
def yX3_certificateOf : MethodName := ⟨RX3, "certificateOf", "(I)I"⟩
abbrev cX3_replaceCertificate : ByteArray := prog_5_method_4_code
def yX3_replaceCertificate : MethodName := ⟨RX3, "replaceCertificate", "(II)I"⟩
def RX4 : String := "FerryCrews$Sailing"
def TX4 : u_T := fun k => match k with
  | 0 => ("FerryCrews$Sailing", "number", "I", false)
  | 1 => ("FerryCrews$Sailing", "ferry", "I", false)
  | 2 => ("FerryCrews$Sailing", "start", "I", false)
  | 3 => ("FerryCrews$Sailing", "end", "I", false)
  | 4 => ("FerryCrews$Sailing", "set", "I", false)
  | 5 => ("FerryCrews$Sailing", "status", "I", false)
  | 6 => ("FerryCrews$Sailing", "roleGivenUp", "I", false)
  | 7 => ("FerryCrews$Sailing", "places", "[I", true)
  | _ => ("FerryCrews$Sailing", "roles", "[I", true)
def tyX4 : Nat → FieldType := fun k => match k with
  | 0 => .int
  | 1 => .int
  | 2 => .int
  | 3 => .int
  | 4 => .int
  | 5 => .int
  | 6 => .int
  | 7 => .array .int
  | _ => .array .int
abbrev wsX40 : List Cond := u_ws RX4 TX4 9
theorem nmX4 : ∀ a, a < 9 → ∀ b, b < 9 → a ≠ b → (TX4 a).2.1 ≠ (TX4 b).2.1 := by decide +kernel
theorem tyX4_ok : ∀ k, k < 9 → parseFieldDescriptor (TX4 k).2.2.1 = some (tyX4 k) := by decide +kernel
abbrev cX4_init : ByteArray := prog_6_method_1_code
def yX4_init : MethodName := ⟨RX4, "<init>", "()V"⟩
abbrev cX4_come : ByteArray := prog_6_method_2_code
def yX4_come : MethodName := ⟨RX4, "come", "(IIIII)V"⟩
abbrev cX4_copyFrom : ByteArray := prog_6_method_3_code
def yX4_copyFrom : MethodName := ⟨RX4, "copyFrom", "(LFerryCrews$Sailing;)V"⟩
abbrev cX4_hasCome : ByteArray := prog_6_method_4_code
def yX4_hasCome : MethodName := ⟨RX4, "hasCome", "()Z"⟩
abbrev cX4_isOpen : ByteArray := prog_6_method_5_code
def yX4_isOpen : MethodName := ⟨RX4, "isOpen", "()Z"⟩
abbrev cX4_occupies : ByteArray := prog_6_method_6_code
def yX4_occupies : MethodName := ⟨RX4, "occupies", "(III)Z"⟩
abbrev cX4_seats : ByteArray := prog_6_method_7_code
def yX4_seats : MethodName := ⟨RX4, "seats", "(I)Z"⟩
abbrev cX4_roleOf : ByteArray := prog_6_method_8_code
def yX4_roleOf : MethodName := ⟨RX4, "roleOf", "(I)I"⟩
abbrev cX4_seat : ByteArray := prog_6_method_9_code
def yX4_seat : MethodName := ⟨RX4, "seat", "(II)V"⟩
abbrev cX4_unseat : ByteArray := prog_6_method_10_code
def yX4_unseat : MethodName := ⟨RX4, "unseat", "(I)I"⟩
abbrev cX4_unseatAll : ByteArray := prog_6_method_11_code
def yX4_unseatAll : MethodName := ⟨RX4, "unseatAll", "()V"⟩
abbrev cX4_callOff : ByteArray := prog_6_method_12_code
def yX4_callOff : MethodName := ⟨RX4, "callOff", "()I"⟩
abbrev cX4_depart : ByteArray := prog_6_method_13_code
def yX4_depart : MethodName := ⟨RX4, "depart", "()V"⟩
abbrev cX4_freePlacesOf : ByteArray := prog_6_method_14_code
def yX4_freePlacesOf : MethodName := ⟨RX4, "freePlacesOf", "(I)I"⟩
abbrev cX4_allPlaces : ByteArray := prog_6_method_15_code
def yX4_allPlaces : MethodName := ⟨RX4, "allPlaces", "()I"⟩
abbrev cX4_takenPlaces : ByteArray := prog_6_method_16_code
def yX4_takenPlaces : MethodName := ⟨RX4, "takenPlaces", "()I"⟩
abbrev cX4_freePlaces : ByteArray := prog_6_method_17_code
def yX4_freePlaces : MethodName := ⟨RX4, "freePlaces", "()I"⟩
abbrev cX4_memberOfRank : ByteArray := prog_6_method_18_code
def yX4_memberOfRank : MethodName := ⟨RX4, "memberOfRank", "(I)I"⟩
def RX5 : String := "FerryCrews$State"
def TX5 : u_T := fun k => match k with
  | 0 => ("FerryCrews$State", "duties", "LFerryCrews$Duties;", true)
  | 1 => ("FerryCrews$State", "settings", "[I", true)
  | 2 => ("FerryCrews$State", "now", "I", false)
  | 3 => ("FerryCrews$State", "sailingCount", "I", false)
  | 4 => ("FerryCrews$State", "memberCount", "I", false)
  | 5 => ("FerryCrews$State", "byStart", "[LFerryCrews$Sailing;", true)
  | 6 => ("FerryCrews$State", "members", "[LFerryCrews$Member;", true)
  | _ => ("FerryCrews$State", "ladders", "[LFerryCrews$Ladder;", true)
def tyX5 : Nat → FieldType := fun k => match k with
  | 0 => .object "FerryCrews$Duties"
  | 1 => .array .int
  | 2 => .int
  | 3 => .int
  | 4 => .int
  | 5 => .array (.object "FerryCrews$Sailing")
  | 6 => .array (.object "FerryCrews$Member")
  | _ => .array (.object "FerryCrews$Ladder")
abbrev wsX50 : List Cond := u_ws RX5 TX5 8
theorem nmX5 : ∀ a, a < 8 → ∀ b, b < 8 → a ≠ b → (TX5 a).2.1 ≠ (TX5 b).2.1 := by decide +kernel
theorem tyX5_ok : ∀ k, k < 8 → parseFieldDescriptor (TX5 k).2.2.1 = some (tyX5 k) := by decide +kernel
abbrev cX5_init : ByteArray := prog_7_method_1_code
def yX5_init : MethodName := ⟨RX5, "<init>", "(LFerryCrews$Duties;)V"⟩
abbrev cX5_copyFrom : ByteArray := prog_7_method_2_code
def yX5_copyFrom : MethodName := ⟨RX5, "copyFrom", "(LFerryCrews$State;)V"⟩
abbrev cX5_sailingAt : ByteArray := prog_7_method_3_code
def yX5_sailingAt : MethodName := ⟨RX5, "sailingAt", "(I)LFerryCrews$Sailing;"⟩
abbrev cX5_memberAt : ByteArray := prog_7_method_4_code
def yX5_memberAt : MethodName := ⟨RX5, "memberAt", "(I)LFerryCrews$Member;"⟩
abbrev cX5_ladderOf : ByteArray := prog_7_method_5_code
def yX5_ladderOf : MethodName := ⟨RX5, "ladderOf", "(I)LFerryCrews$Ladder;"⟩
abbrev cX5_refusalOf : ByteArray := prog_7_method_6_code
def yX5_refusalOf : MethodName := ⟨RX5, "refusalOf", "(IIII)I"⟩
abbrev cX5_addSailing : ByteArray := prog_7_method_7_code
def yX5_addSailing : MethodName := ⟨RX5, "addSailing", "(IIII)I"⟩
abbrev cX5_addMember : ByteArray := prog_7_method_8_code
def yX5_addMember : MethodName := ⟨RX5, "addMember", "(II)I"⟩
abbrev cX5_needsCertificateAfter : ByteArray := prog_7_method_9_code
def yX5_needsCertificateAfter : MethodName := ⟨RX5, "needsCertificateAfter", "(III)Z"⟩
abbrev cX5_dutiesOf : ByteArray := prog_7_method_10_code
def yX5_dutiesOf : MethodName := ⟨RX5, "dutiesOf", "(ILFerryCrews$Sailing;)LFerryCrews$Duties;"⟩
abbrev cX5_restsHold : ByteArray := prog_7_method_11_code
def yX5_restsHold : MethodName := ⟨RX5, "restsHold", "(LFerryCrews$Duties;II)Z"⟩
abbrev cX5_allRestsHold : ByteArray := prog_7_method_12_code
def yX5_allRestsHold : MethodName := ⟨RX5, "allRestsHold", "()Z"⟩
abbrev cX5_reasonAgainst : ByteArray := prog_7_method_13_code
def yX5_reasonAgainst : MethodName := ⟨RX5, "reasonAgainst", "(ILFerryCrews$Sailing;I)I"⟩
abbrev cX5_coverPlace : ByteArray := prog_7_method_14_code
def yX5_coverPlace : MethodName := ⟨RX5, "coverPlace", "(LFerryCrews$Sailing;I)Z"⟩
abbrev cX5_coverAllPlaces : ByteArray := prog_7_method_15_code
def yX5_coverAllPlaces : MethodName := ⟨RX5, "coverAllPlaces", "(LFerryCrews$Sailing;)I"⟩
abbrev cX5_fallSick : ByteArray := prog_7_method_16_code
def yX5_fallSick : MethodName := ⟨RX5, "fallSick", "(II)I"⟩
abbrev cX5_goOn : ByteArray := prog_7_method_17_code
def yX5_goOn : MethodName := ⟨RX5, "goOn", "(I)I"⟩
abbrev cX5_placesOf : ByteArray := prog_7_method_18_code
def yX5_placesOf : MethodName := ⟨RX5, "placesOf", "(II)I"⟩
abbrev cX5_nextSailingOf : ByteArray := prog_7_method_19_code
def yX5_nextSailingOf : MethodName := ⟨RX5, "nextSailingOf", "(I)I"⟩
abbrev cX5_sailingsThatAre : ByteArray := prog_7_method_22_code
def yX5_sailingsThatAre : MethodName := ⟨RX5, "sailingsThatAre", "(I)I"⟩
abbrev cX5_freeOpenPlaces : ByteArray := prog_7_method_23_code
def yX5_freeOpenPlaces : MethodName := ⟨RX5, "freeOpenPlaces", "()I"⟩
abbrev cX5_takenOpenPlaces : ByteArray := prog_7_method_24_code
def yX5_takenOpenPlaces : MethodName := ⟨RX5, "takenOpenPlaces", "()I"⟩
abbrev cX5_membersSickNow : ByteArray := prog_7_method_25_code
def yX5_membersSickNow : MethodName := ⟨RX5, "membersSickNow", "()I"⟩
abbrev cX5_allCovers : ByteArray := prog_7_method_26_code
def yX5_allCovers : MethodName := ⟨RX5, "allCovers", "()I"⟩
abbrev cX5_hoursBeyond : ByteArray := prog_7_method_27_code
def yX5_hoursBeyond : MethodName := ⟨RX5, "hoursBeyond", "(LFerryCrews$Duties;I)I"⟩
abbrev cX5_allHoursBeyond : ByteArray := prog_7_method_28_code
def yX5_allHoursBeyond : MethodName := ⟨RX5, "allHoursBeyond", "()I"⟩
def RX6 : String := "FerryCrews$Text"
def TX6 : u_T := fun k => match k with
  | 0 => ("FerryCrews$Text", "characters", "[C", true)
  | 1 => ("FerryCrews$Text", "length", "I", false)
  | 2 => ("FerryCrews$Text", "at", "I", false)
  | 3 => ("FerryCrews$Text", "sailingsRead", "I", false)
  | 4 => ("FerryCrews$Text", "ferries", "[I", true)
  | 5 => ("FerryCrews$Text", "starts", "[I", true)
  | 6 => ("FerryCrews$Text", "hours", "[I", true)
  | _ => ("FerryCrews$Text", "sets", "[I", true)
def tyX6 : Nat → FieldType := fun k => match k with
  | 0 => .array .char
  | 1 => .int
  | 2 => .int
  | 3 => .int
  | 4 => .array .int
  | 5 => .array .int
  | 6 => .array .int
  | _ => .array .int
abbrev wsX60 : List Cond := u_ws RX6 TX6 8
theorem nmX6 : ∀ a, a < 8 → ∀ b, b < 8 → a ≠ b → (TX6 a).2.1 ≠ (TX6 b).2.1 := by decide +kernel
theorem tyX6_ok : ∀ k, k < 8 → parseFieldDescriptor (TX6 k).2.2.1 = some (tyX6 k) := by decide +kernel
abbrev cX6_init : ByteArray := prog_8_method_1_code
def yX6_init : MethodName := ⟨RX6, "<init>", "()V"⟩
def RX7 : String := "FerryCrews"
def TX7 : u_T := fun k => match k with
  | 0 => ("FerryCrews", "state", "LFerryCrews$State;", true)
  | 1 => ("FerryCrews", "snapshot", "LFerryCrews$State;", true)
  | 2 => ("FerryCrews", "trial", "LFerryCrews$State;", true)
  | 3 => ("FerryCrews", "history", "LFerryCrews$History;", true)
  | 4 => ("FerryCrews", "text", "LFerryCrews$Text;", true)
  | _ => ("FerryCrews", "hasSnapshot", "Z", false)
def tyX7 : Nat → FieldType := fun k => match k with
  | 0 => .object "FerryCrews$State"
  | 1 => .object "FerryCrews$State"
  | 2 => .object "FerryCrews$State"
  | 3 => .object "FerryCrews$History"
  | 4 => .object "FerryCrews$Text"
  | _ => .boolean
abbrev wsX70 : List Cond := u_ws RX7 TX7 6
theorem nmX7 : ∀ a, a < 6 → ∀ b, b < 6 → a ≠ b → (TX7 a).2.1 ≠ (TX7 b).2.1 := by decide +kernel
theorem tyX7_ok : ∀ k, k < 6 → parseFieldDescriptor (TX7 k).2.2.1 = some (tyX7 k) := by decide +kernel
abbrev cX7_init : ByteArray := prog_1_method_1_code
def yX7_init : MethodName := ⟨RX7, "<init>", "()V"⟩
abbrev cX7_sailing : ByteArray := prog_1_method_2_code
def yX7_sailing : MethodName := ⟨RX7, "sailing", "(IIII)I"⟩
abbrev cX7_cancel : ByteArray := prog_1_method_4_code
def yX7_cancel : MethodName := ⟨RX7, "cancel", "(I)I"⟩
abbrev cX7_member : ByteArray := prog_1_method_5_code
def yX7_member : MethodName := ⟨RX7, "member", "(II)I"⟩
abbrev cX7_certify : ByteArray := prog_1_method_6_code
def yX7_certify : MethodName := ⟨RX7, "certify", "(III)I"⟩
abbrev cX7_climb : ByteArray := prog_1_method_7_code
def yX7_climb : MethodName := ⟨RX7, "climb", "(II)I"⟩
abbrev cX7_leave : ByteArray := prog_1_method_8_code
def yX7_leave : MethodName := ⟨RX7, "leave", "(II)I"⟩
abbrev cX7_sick : ByteArray := prog_1_method_9_code
def yX7_sick : MethodName := ⟨RX7, "sick", "(II)I"⟩
abbrev cX7_well : ByteArray := prog_1_method_10_code
def yX7_well : MethodName := ⟨RX7, "well", "(I)I"⟩
abbrev cX7_give : ByteArray := prog_1_method_11_code
def yX7_give : MethodName := ⟨RX7, "give", "(III)I"⟩
abbrev cX7_giveUp : ByteArray := prog_1_method_12_code
def yX7_giveUp : MethodName := ⟨RX7, "giveUp", "(II)I"⟩
abbrev cX7_fill : ByteArray := prog_1_method_13_code
def yX7_fill : MethodName := ⟨RX7, "fill", "(I)I"⟩
abbrev cX7_pass : ByteArray := prog_1_method_14_code
def yX7_pass : MethodName := ⟨RX7, "pass", "(I)I"⟩
abbrev cX7_set : ByteArray := prog_1_method_15_code
def yX7_set : MethodName := ⟨RX7, "set", "(II)I"⟩
abbrev cX7_undo : ByteArray := prog_1_method_19_code
def yX7_undo : MethodName := ⟨RX7, "undo", "()I"⟩
abbrev cX7_sailingOf : ByteArray := prog_1_method_22_code
def yX7_sailingOf : MethodName := ⟨RX7, "sailingOf", "(II)I"⟩
abbrev cX7_crew : ByteArray := prog_1_method_23_code
def yX7_crew : MethodName := ⟨RX7, "crew", "(III)I"⟩
abbrev cX7_memberOf : ByteArray := prog_1_method_24_code
def yX7_memberOf : MethodName := ⟨RX7, "memberOf", "(II)I"⟩
abbrev cX7_ladder : ByteArray := prog_1_method_25_code
def yX7_ladder : MethodName := ⟨RX7, "ladder", "(II)I"⟩
abbrev cX7_rest : ByteArray := prog_1_method_26_code
def yX7_rest : MethodName := ⟨RX7, "rest", "(III)I"⟩
abbrev cX7_leastRest : ByteArray := prog_1_method_27_code
def yX7_leastRest : MethodName := ⟨RX7, "leastRest", "(II)I"⟩
abbrev cX7_overtime : ByteArray := prog_1_method_28_code
def yX7_overtime : MethodName := ⟨RX7, "overtime", "(II)I"⟩
abbrev cX7_count : ByteArray := prog_1_method_29_code
def yX7_count : MethodName := ⟨RX7, "count", "(I)I"⟩
abbrev cX7_why : ByteArray := prog_1_method_30_code
def yX7_why : MethodName := ⟨RX7, "why", "(III)I"⟩
abbrev cX7_isWithin : ByteArray := prog_1_method_38_code
def yX7_isWithin : MethodName := ⟨RX7, "isWithin", "(III)Z"⟩
abbrev cX7_isRole : ByteArray := prog_1_method_39_code
def yX7_isRole : MethodName := ⟨RX7, "isRole", "(I)Z"⟩
abbrev cX7_isMemberNumber : ByteArray := prog_1_method_40_code
def yX7_isMemberNumber : MethodName := ⟨RX7, "isMemberNumber", "(I)Z"⟩
abbrev cX7_isSet : ByteArray := prog_1_method_41_code
def yX7_isSet : MethodName := ⟨RX7, "isSet", "(I)Z"⟩
def RX8 : String := "FerryCrewsModel"
def TX8 : u_T := fun k => match k with
  | _ => ("", "", "", false)
def tyX8 : Nat → FieldType := fun k => match k with
  | _ => .int
abbrev wsX80 : List Cond := u_ws RX8 TX8 0
theorem nmX8 : ∀ a, a < 0 → ∀ b, b < 0 → a ≠ b → (TX8 a).2.1 ≠ (TX8 b).2.1 := by decide +kernel
theorem tyX8_ok : ∀ k, k < 0 → parseFieldDescriptor (TX8 k).2.2.1 = some (tyX8 k) := by decide +kernel
def RJ9 : String := "java/lang/Math"
def TJ9 : u_T := fun k => match k with
  | _ => ("", "", "", false)
def tyJ9 : Nat → FieldType := fun k => match k with
  | _ => .int
abbrev wsJ90 : List Cond := u_ws RJ9 TJ9 0
theorem nmJ9 : ∀ a, a < 0 → ∀ b, b < 0 → a ≠ b → (TJ9 a).2.1 ≠ (TJ9 b).2.1 := by decide +kernel
theorem tyJ9_ok : ∀ k, k < 0 → parseFieldDescriptor (TJ9 k).2.2.1 = some (tyJ9 k) := by decide +kernel
abbrev cJ9_max_7cf53 : ByteArray := prog_11_method_65_code
def yJ9_max_7cf53 : MethodName := ⟨RJ9, "max", "(II)I"⟩
def RJ10 : String := "java/lang/System"
def TJ10 : u_T := fun k => match k with
  | _ => ("", "", "", false)
def tyJ10 : Nat → FieldType := fun k => match k with
  | _ => .int
abbrev wsJ100 : List Cond := u_ws RJ10 TJ10 0
theorem nmJ10 : ∀ a, a < 0 → ∀ b, b < 0 → a ≠ b → (TJ10 a).2.1 ≠ (TJ10 b).2.1 := by decide +kernel
theorem tyJ10_ok : ∀ k, k < 0 → parseFieldDescriptor (TJ10 k).2.2.1 = some (tyJ10 k) := by decide +kernel
def RL : String := "FerryCrewsLaw"
abbrev cL_cell : ByteArray := method_2_code
def yL_cell : MethodName := ⟨RL, "cell", "([II)I"⟩
abbrev cL_low : ByteArray := method_3_code
def yL_low : MethodName := ⟨RL, "low", "(II)I"⟩
abbrev cL_tell : ByteArray := method_4_code
def yL_tell : MethodName := ⟨RL, "tell", "(LFerryCrews;)[I"⟩
abbrev cL_same : ByteArray := method_5_code
def yL_same : MethodName := ⟨RL, "same", "([I[I)Z"⟩
abbrev cL_sailings : ByteArray := method_6_code
def yL_sailings : MethodName := ⟨RL, "sailings", "(LFerryCrews;)Z"⟩
abbrev cL_members : ByteArray := method_7_code
def yL_members : MethodName := ⟨RL, "members", "(LFerryCrews;)Z"⟩
abbrev cL_act : ByteArray := method_8_code
def yL_act : MethodName := ⟨RL, "act", "(LFerryCrews;II)I"⟩
abbrev cL_law : ByteArray := code
def yL_law : MethodName := ⟨RL, "law", "([I)Z"⟩
/-- the words that stand through a call -/
def zB : List Cond := lw_tbl.filter goodWord
set_option maxRecDepth 100000 in
theorem iX0 : ∀ w ∈ u_ws RX0 TX0 4, w ∈ zB := by decide +kernel
set_option maxRecDepth 100000 in
theorem iX1 : ∀ w ∈ u_ws RX1 TX1 2, w ∈ zB := by decide +kernel
set_option maxRecDepth 100000 in
theorem iX2 : ∀ w ∈ u_ws RX2 TX2 2, w ∈ zB := by decide +kernel
set_option maxRecDepth 100000 in
theorem iX3 : ∀ w ∈ u_ws RX3 TX3 3, w ∈ zB := by decide +kernel
set_option maxRecDepth 100000 in
theorem iX4 : ∀ w ∈ u_ws RX4 TX4 9, w ∈ zB := by decide +kernel
set_option maxRecDepth 100000 in
theorem iX5 : ∀ w ∈ u_ws RX5 TX5 8, w ∈ zB := by decide +kernel
set_option maxRecDepth 100000 in
theorem iX6 : ∀ w ∈ u_ws RX6 TX6 8, w ∈ zB := by decide +kernel
set_option maxRecDepth 100000 in
theorem iX7 : ∀ w ∈ u_ws RX7 TX7 6, w ∈ zB := by decide +kernel
/-- the classes -/
abbrev zcl : List vw_C := [(RX0, TX0, 4), (RX1, TX1, 2), (RX2, TX2, 2), (RX3, TX3, 3), (RX4, TX4, 9), (RX5, TX5, 8), (RX6, TX6, 8), (RX7, TX7, 6)]
