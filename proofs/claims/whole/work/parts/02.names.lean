def RX0 : String := "CueBook$Cue"
def TX0 : u_T := fun k => match k with
  | 0 => ("CueBook$Cue", "kind", "I", true)
  | 1 => ("CueBook$Cue", "puppet", "LCueBook$Puppet;", true)
  | 2 => ("CueBook$Cue", "beat", "I", true)
  | 3 => ("CueBook$Cue", "place", "I", true)
  | 4 => ("CueBook$Cue", "track", "I", true)
  | 5 => ("CueBook$Cue", "isStruck", "Z", false)
  | 6 => ("CueBook$Cue", "notes", "I", false)
  | 7 => ("CueBook$Cue", "sumLate", "I", false)
  | _ => ("CueBook$Cue", "sumOff", "I", false)
def tyX0 : Nat → FieldType := fun k => match k with
  | 0 => .int
  | 1 => .object "CueBook$Puppet"
  | 2 => .int
  | 3 => .int
  | 4 => .int
  | 5 => .boolean
  | 6 => .int
  | 7 => .int
  | _ => .int
theorem nmX0 : ∀ a, a < 9 → ∀ b, b < 9 → a ≠ b → (TX0 a).2.1 ≠ (TX0 b).2.1 := by decide +kernel
theorem tyX0_ok : ∀ k, k < 9 → parseFieldDescriptor (TX0 k).2.2.1 = some (tyX0 k) := by decide +kernel
abbrev cX0_init : ByteArray := prog_2_method_1_code
def yX0_init : MethodName := ⟨RX0, "<init>", "(ILCueBook$Puppet;III)V"⟩
def RX1 : String := "CueBook$Path"
def TX1 : u_T := fun k => match k with
  | 0 => ("CueBook$Path", "isOnStage", "Z", false)
  | 1 => ("CueBook$Path", "enteredAt", "I", false)
  | 2 => ("CueBook$Path", "track", "I", false)
  | 3 => ("CueBook$Path", "fromPlace", "I", false)
  | 4 => ("CueBook$Path", "toPlace", "I", false)
  | 5 => ("CueBook$Path", "fromBeat", "I", false)
  | _ => ("CueBook$Path", "toBeat", "I", false)
def tyX1 : Nat → FieldType := fun k => match k with
  | 0 => .boolean
  | 1 => .int
  | 2 => .int
  | 3 => .int
  | 4 => .int
  | 5 => .int
  | _ => .int
theorem nmX1 : ∀ a, a < 7 → ∀ b, b < 7 → a ≠ b → (TX1 a).2.1 ≠ (TX1 b).2.1 := by decide +kernel
theorem tyX1_ok : ∀ k, k < 7 → parseFieldDescriptor (TX1 k).2.2.1 = some (tyX1 k) := by decide +kernel
abbrev cX1_init : ByteArray := prog_3_method_1_code
def yX1_init : MethodName := ⟨RX1, "<init>", "()V"⟩
abbrev cX1_allows : ByteArray := prog_3_method_2_code
def yX1_allows : MethodName := ⟨RX1, "allows", "(LCueBook$Cue;)Z"⟩
abbrev cX1_follow : ByteArray := prog_3_method_3_code
def yX1_follow : MethodName := ⟨RX1, "follow", "(LCueBook$Cue;)V"⟩
abbrev cX1_walk : ByteArray := prog_3_method_4_code
def yX1_walk : MethodName := ⟨RX1, "walk", "(III)V"⟩
abbrev cX1_placeAtBeat : ByteArray := prog_3_method_5_code
def yX1_placeAtBeat : MethodName := ⟨RX1, "placeAtBeat", "(I)I"⟩
abbrev cX1_trackNow : ByteArray := prog_3_method_6_code
def yX1_trackNow : MethodName := ⟨RX1, "trackNow", "()I"⟩
def RX2 : String := "CueBook$Player"
def TX2 : u_T := fun k => match k with
  | 0 => ("CueBook$Player", "strength", "I", true)
  | 1 => ("CueBook$Player", "placeAtFirst", "I", true)
  | _ => ("CueBook$Player", "heldAt", "[I", true)
def tyX2 : Nat → FieldType := fun k => match k with
  | 0 => .int
  | 1 => .int
  | _ => .array .int
theorem nmX2 : ∀ a, a < 3 → ∀ b, b < 3 → a ≠ b → (TX2 a).2.1 ≠ (TX2 b).2.1 := by decide +kernel
theorem tyX2_ok : ∀ k, k < 3 → parseFieldDescriptor (TX2 k).2.2.1 = some (tyX2 k) := by decide +kernel
abbrev cX2_init : ByteArray := prog_4_method_1_code
def yX2_init : MethodName := ⟨RX2, "<init>", "(II)V"⟩
abbrev cX2_holds : ByteArray := prog_4_method_2_code
def yX2_holds : MethodName := ⟨RX2, "holds", "(LCueBook$Puppet;I)Z"⟩
abbrev cX2_putDownAll : ByteArray := prog_4_method_3_code
def yX2_putDownAll : MethodName := ⟨RX2, "putDownAll", "()V"⟩
abbrev cX2_take : ByteArray := prog_4_method_4_code
def yX2_take : MethodName := ⟨RX2, "take", "(LCueBook$Stay;)V"⟩
abbrev cX2_busyBeats : ByteArray := prog_4_method_5_code
def yX2_busyBeats : MethodName := ⟨RX2, "busyBeats", "()I"⟩
def RX3 : String := "CueBook$Puppet"
def TX3 : u_T := fun k => match k with
  | 0 => ("CueBook$Puppet", "number", "I", true)
  | 1 => ("CueBook$Puppet", "bit", "I", true)
  | 2 => ("CueBook$Puppet", "weight", "I", true)
  | 3 => ("CueBook$Puppet", "handsNeeded", "I", true)
  | 4 => ("CueBook$Puppet", "script", "Ljava/util/ArrayList;", true)
  | 5 => ("CueBook$Puppet", "stayList", "Ljava/util/ArrayList;", true)
  | 6 => ("CueBook$Puppet", "placeAt", "[I", true)
  | _ => ("CueBook$Puppet", "trackAt", "[I", true)
def tyX3 : Nat → FieldType := fun k => match k with
  | 0 => .int
  | 1 => .int
  | 2 => .int
  | 3 => .int
  | 4 => .object "java/util/ArrayList"
  | 5 => .object "java/util/ArrayList"
  | 6 => .array .int
  | _ => .array .int
theorem nmX3 : ∀ a, a < 8 → ∀ b, b < 8 → a ≠ b → (TX3 a).2.1 ≠ (TX3 b).2.1 := by decide +kernel
theorem tyX3_ok : ∀ k, k < 8 → parseFieldDescriptor (TX3 k).2.2.1 = some (tyX3 k) := by decide +kernel
abbrev cX3_init : ByteArray := prog_5_method_1_code
def yX3_init : MethodName := ⟨RX3, "<init>", "(III)V"⟩
abbrev cX3_takesIn : ByteArray := prog_5_method_2_code
def yX3_takesIn : MethodName := ⟨RX3, "takesIn", "(LCueBook$Cue;)Z"⟩
abbrev cX3_takesOut : ByteArray := prog_5_method_3_code
def yX3_takesOut : MethodName := ⟨RX3, "takesOut", "(LCueBook$Cue;)Z"⟩
abbrev cX3_isScriptRight : ByteArray := prog_5_method_4_code
def yX3_isScriptRight : MethodName := ⟨RX3, "isScriptRight", "()Z"⟩
abbrev cX3_playScript : ByteArray := prog_5_method_5_code
def yX3_playScript : MethodName := ⟨RX3, "playScript", "()V"⟩
abbrev cX3_playBeats : ByteArray := prog_5_method_6_code
def yX3_playBeats : MethodName := ⟨RX3, "playBeats", "(LCueBook$Path;II)V"⟩
abbrev cX3_recordStay : ByteArray := prog_5_method_7_code
def yX3_recordStay : MethodName := ⟨RX3, "recordStay", "(LCueBook$Cue;)V"⟩
def RX4 : String := "CueBook$Stay"
def TX4 : u_T := fun k => match k with
  | 0 => ("CueBook$Stay", "puppet", "LCueBook$Puppet;", true)
  | 1 => ("CueBook$Stay", "begin", "I", true)
  | 2 => ("CueBook$Stay", "end", "I", false)
  | _ => ("CueBook$Stay", "player", "I", false)
def tyX4 : Nat → FieldType := fun k => match k with
  | 0 => .object "CueBook$Puppet"
  | 1 => .int
  | 2 => .int
  | _ => .int
theorem nmX4 : ∀ a, a < 4 → ∀ b, b < 4 → a ≠ b → (TX4 a).2.1 ≠ (TX4 b).2.1 := by decide +kernel
theorem tyX4_ok : ∀ k, k < 4 → parseFieldDescriptor (TX4 k).2.2.1 = some (tyX4 k) := by decide +kernel
abbrev cX4_init : ByteArray := prog_6_method_1_code
def yX4_init : MethodName := ⟨RX4, "<init>", "(LCueBook$Puppet;I)V"⟩
def RX5 : String := "CueBook"
def TX5 : u_T := fun k => match k with
  | 0 => ("CueBook", "puppets", "Ljava/util/ArrayList;", true)
  | 1 => ("CueBook", "players", "Ljava/util/ArrayList;", true)
  | 2 => ("CueBook", "cues", "Ljava/util/ArrayList;", true)
  | 3 => ("CueBook", "castingOrder", "Ljava/util/ArrayList;", true)
  | 4 => ("CueBook", "struckCues", "I", false)
  | 5 => ("CueBook", "castingStands", "Z", false)
  | 6 => ("CueBook", "clashesStand", "Z", false)
  | _ => ("CueBook", "clashingPairs", "I", false)
def tyX5 : Nat → FieldType := fun k => match k with
  | 0 => .object "java/util/ArrayList"
  | 1 => .object "java/util/ArrayList"
  | 2 => .object "java/util/ArrayList"
  | 3 => .object "java/util/ArrayList"
  | 4 => .int
  | 5 => .boolean
  | 6 => .boolean
  | _ => .int
theorem nmX5 : ∀ a, a < 8 → ∀ b, b < 8 → a ≠ b → (TX5 a).2.1 ≠ (TX5 b).2.1 := by decide +kernel
theorem tyX5_ok : ∀ k, k < 8 → parseFieldDescriptor (TX5 k).2.2.1 = some (tyX5 k) := by decide +kernel
abbrev cX5_init : ByteArray := prog_1_method_1_code
def yX5_init : MethodName := ⟨RX5, "<init>", "()V"⟩
abbrev cX5_addPuppet : ByteArray := prog_1_method_2_code
def yX5_addPuppet : MethodName := ⟨RX5, "addPuppet", "(II)I"⟩
abbrev cX5_addPlayer : ByteArray := prog_1_method_3_code
def yX5_addPlayer : MethodName := ⟨RX5, "addPlayer", "(II)I"⟩
abbrev cX5_enter : ByteArray := prog_1_method_4_code
def yX5_enter : MethodName := ⟨RX5, "enter", "(IIII)I"⟩
abbrev cX5_move : ByteArray := prog_1_method_5_code
def yX5_move : MethodName := ⟨RX5, "move", "(III)I"⟩
abbrev cX5_shift : ByteArray := prog_1_method_6_code
def yX5_shift : MethodName := ⟨RX5, "shift", "(III)I"⟩
abbrev cX5_leave : ByteArray := prog_1_method_7_code
def yX5_leave : MethodName := ⟨RX5, "leave", "(II)I"⟩
abbrev cX5_strike : ByteArray := prog_1_method_8_code
def yX5_strike : MethodName := ⟨RX5, "strike", "(I)I"⟩
abbrev cX5_count : ByteArray := prog_1_method_9_code
def yX5_count : MethodName := ⟨RX5, "count", "(I)I"⟩
abbrev cX5_cue : ByteArray := prog_1_method_10_code
def yX5_cue : MethodName := ⟨RX5, "cue", "(II)I"⟩
abbrev cX5_place : ByteArray := prog_1_method_11_code
def yX5_place : MethodName := ⟨RX5, "place", "(II)I"⟩
abbrev cX5_track : ByteArray := prog_1_method_12_code
def yX5_track : MethodName := ⟨RX5, "track", "(II)I"⟩
abbrev cX5_onStage : ByteArray := prog_1_method_13_code
def yX5_onStage : MethodName := ⟨RX5, "onStage", "(I)I"⟩
abbrev cX5_clash : ByteArray := prog_1_method_14_code
def yX5_clash : MethodName := ⟨RX5, "clash", "(II)I"⟩
abbrev cX5_clashes : ByteArray := prog_1_method_15_code
def yX5_clashes : MethodName := ⟨RX5, "clashes", "()I"⟩
abbrev cX5_beats : ByteArray := prog_1_method_16_code
def yX5_beats : MethodName := ⟨RX5, "beats", "(I)I"⟩
abbrev cX5_stays : ByteArray := prog_1_method_17_code
def yX5_stays : MethodName := ⟨RX5, "stays", "(I)I"⟩
abbrev cX5_stay : ByteArray := prog_1_method_18_code
def yX5_stay : MethodName := ⟨RX5, "stay", "(III)I"⟩
abbrev cX5_uncast : ByteArray := prog_1_method_19_code
def yX5_uncast : MethodName := ⟨RX5, "uncast", "()I"⟩
abbrev cX5_hands : ByteArray := prog_1_method_20_code
def yX5_hands : MethodName := ⟨RX5, "hands", "(II)I"⟩
abbrev cX5_load : ByteArray := prog_1_method_21_code
def yX5_load : MethodName := ⟨RX5, "load", "(I)I"⟩
abbrev cX5_note : ByteArray := prog_1_method_22_code
def yX5_note : MethodName := ⟨RX5, "note", "(II)I"⟩
abbrev cX5_mean : ByteArray := prog_1_method_23_code
def yX5_mean : MethodName := ⟨RX5, "mean", "(I)D"⟩
abbrev cX5_worst : ByteArray := prog_1_method_24_code
def yX5_worst : MethodName := ⟨RX5, "worst", "()I"⟩
abbrev cX5_digest : ByteArray := prog_1_method_25_code
def yX5_digest : MethodName := ⟨RX5, "digest", "()J"⟩
abbrev cX5_puppetNumbered : ByteArray := prog_1_method_26_code
def yX5_puppetNumbered : MethodName := ⟨RX5, "puppetNumbered", "(I)LCueBook$Puppet;"⟩
abbrev cX5_playerNumbered : ByteArray := prog_1_method_27_code
def yX5_playerNumbered : MethodName := ⟨RX5, "playerNumbered", "(I)LCueBook$Player;"⟩
abbrev cX5_cueNumbered : ByteArray := prog_1_method_28_code
def yX5_cueNumbered : MethodName := ⟨RX5, "cueNumbered", "(I)LCueBook$Cue;"⟩
abbrev cX5_requireBeat : ByteArray := prog_1_method_29_code
def yX5_requireBeat : MethodName := ⟨RX5, "requireBeat", "(I)V"⟩
abbrev cX5_requirePlace : ByteArray := prog_1_method_30_code
def yX5_requirePlace : MethodName := ⟨RX5, "requirePlace", "(I)V"⟩
abbrev cX5_requireTrack : ByteArray := prog_1_method_31_code
def yX5_requireTrack : MethodName := ⟨RX5, "requireTrack", "(I)V"⟩
abbrev cX5_write : ByteArray := prog_1_method_32_code
def yX5_write : MethodName := ⟨RX5, "write", "(LCueBook$Cue;)I"⟩
abbrev cX5_forgetWhatWasFound : ByteArray := prog_1_method_33_code
def yX5_forgetWhatWasFound : MethodName := ⟨RX5, "forgetWhatWasFound", "()V"⟩
abbrev cX5_tellOfCue : ByteArray := prog_1_method_34_code
def yX5_tellOfCue : MethodName := ⟨RX5, "tellOfCue", "(LCueBook$Cue;I)I"⟩
abbrev cX5_tellOfStay : ByteArray := prog_1_method_35_code
def yX5_tellOfStay : MethodName := ⟨RX5, "tellOfStay", "(LCueBook$Stay;I)I"⟩
abbrev cX5_distance : ByteArray := prog_1_method_36_code
def yX5_distance : MethodName := ⟨RX5, "distance", "(II)I"⟩
abbrev cX5_countClashingPairs : ByteArray := prog_1_method_37_code
def yX5_countClashingPairs : MethodName := ⟨RX5, "countClashingPairs", "()I"⟩
abbrev cX5_firstClash : ByteArray := prog_1_method_38_code
def yX5_firstClash : MethodName := ⟨RX5, "firstClash", "(LCueBook$Puppet;LCueBook$Puppet;)I"⟩
abbrev cX5_areOnOneTrack : ByteArray := prog_1_method_39_code
def yX5_areOnOneTrack : MethodName := ⟨RX5, "areOnOneTrack", "(LCueBook$Puppet;LCueBook$Puppet;I)Z"⟩
abbrev cX5_exchangePlaces : ByteArray := prog_1_method_40_code
def yX5_exchangePlaces : MethodName := ⟨RX5, "exchangePlaces", "(LCueBook$Puppet;LCueBook$Puppet;I)Z"⟩
abbrev cX5_findCasting : ByteArray := prog_1_method_41_code
def yX5_findCasting : MethodName := ⟨RX5, "findCasting", "()V"⟩
abbrev cX5_orderStays : ByteArray := prog_1_method_42_code
def yX5_orderStays : MethodName := ⟨RX5, "orderStays", "()V"⟩
abbrev cX5_putInOrder : ByteArray := prog_1_method_43_code
def yX5_putInOrder : MethodName := ⟨RX5, "putInOrder", "(LCueBook$Stay;)V"⟩
abbrev cX5_namePlayer : ByteArray := prog_1_method_44_code
def yX5_namePlayer : MethodName := ⟨RX5, "namePlayer", "(LCueBook$Stay;)V"⟩
abbrev cX5_canDo : ByteArray := prog_1_method_45_code
def yX5_canDo : MethodName := ⟨RX5, "canDo", "(LCueBook$Player;LCueBook$Stay;)Z"⟩
abbrev cX5_canComeToBeginning : ByteArray := prog_1_method_46_code
def yX5_canComeToBeginning : MethodName := ⟨RX5, "canComeToBeginning", "(LCueBook$Player;LCueBook$Stay;)Z"⟩
abbrev cX5_placeOfHeld : ByteArray := prog_1_method_47_code
def yX5_placeOfHeld : MethodName := ⟨RX5, "placeOfHeld", "(LCueBook$Player;I)I"⟩
abbrev cX5_canHold : ByteArray := prog_1_method_48_code
def yX5_canHold : MethodName := ⟨RX5, "canHold", "(LCueBook$Player;LCueBook$Puppet;I)Z"⟩
abbrev cX5_digestWith : ByteArray := prog_1_method_49_code
def yX5_digestWith : MethodName := ⟨RX5, "digestWith", "(JI)J"⟩
abbrev cX5_digestWithStays : ByteArray := prog_1_method_50_code
def yX5_digestWithStays : MethodName := ⟨RX5, "digestWithStays", "(JLjava/util/ArrayList;)J"⟩
abbrev cX5_digestWithCue : ByteArray := prog_1_method_51_code
def yX5_digestWithCue : MethodName := ⟨RX5, "digestWithCue", "(JLCueBook$Cue;)J"⟩
def RX6 : String := "CueBookModel"
def TX6 : u_T := fun k => match k with
  | 0 => ("CueBookModel", "thrown", "I", false)
  | 1 => ("CueBookModel", "puppets", "I", false)
  | 2 => ("CueBookModel", "weights", "[I", true)
  | 3 => ("CueBookModel", "needs", "[I", true)
  | 4 => ("CueBookModel", "players", "I", false)
  | 5 => ("CueBookModel", "strengths", "[I", true)
  | 6 => ("CueBookModel", "homes", "[I", true)
  | 7 => ("CueBookModel", "cues", "I", false)
  | 8 => ("CueBookModel", "table", "[I", true)
  | 9 => ("CueBookModel", "areStruck", "[Z", true)
  | 10 => ("CueBookModel", "struck", "I", false)
  | 11 => ("CueBookModel", "noted", "[I", true)
  | 12 => ("CueBookModel", "sums", "[I", true)
  | 13 => ("CueBookModel", "greatness", "[I", true)
  | 14 => ("CueBookModel", "isFresh", "Z", false)
  | 15 => ("CueBookModel", "places", "[I", true)
  | 16 => ("CueBookModel", "tracks", "[I", true)
  | 17 => ("CueBookModel", "stays", "[I", true)
  | 18 => ("CueBookModel", "manyStays", "[I", true)
  | 19 => ("CueBookModel", "begins", "[I", true)
  | 20 => ("CueBookModel", "ends", "[I", true)
  | _ => ("CueBookModel", "cast", "[I", true)
def tyX6 : Nat → FieldType := fun k => match k with
  | 0 => .int
  | 1 => .int
  | 2 => .array .int
  | 3 => .array .int
  | 4 => .int
  | 5 => .array .int
  | 6 => .array .int
  | 7 => .int
  | 8 => .array .int
  | 9 => .array .boolean
  | 10 => .int
  | 11 => .array .int
  | 12 => .array .int
  | 13 => .array .int
  | 14 => .boolean
  | 15 => .array .int
  | 16 => .array .int
  | 17 => .array .int
  | 18 => .array .int
  | 19 => .array .int
  | 20 => .array .int
  | _ => .array .int
theorem nmX6 : ∀ a, a < 22 → ∀ b, b < 22 → a ≠ b → (TX6 a).2.1 ≠ (TX6 b).2.1 := by decide +kernel
theorem tyX6_ok : ∀ k, k < 22 → parseFieldDescriptor (TX6 k).2.2.1 = some (tyX6 k) := by decide +kernel
abbrev cX6_init : ByteArray := prog_8_method_1_code
def yX6_init : MethodName := ⟨RX6, "<init>", "()V"⟩
abbrev cX6_thrown : ByteArray := prog_8_method_2_code
def yX6_thrown : MethodName := ⟨RX6, "thrown", "()I"⟩
abbrev cX6_fail : ByteArray := prog_8_method_3_code
def yX6_fail : MethodName := ⟨RX6, "fail", "(I)I"⟩
abbrev cX6_isIn : ByteArray := prog_8_method_4_code
def yX6_isIn : MethodName := ⟨RX6, "isIn", "(III)Z"⟩
abbrev cX6_isPuppet : ByteArray := prog_8_method_5_code
def yX6_isPuppet : MethodName := ⟨RX6, "isPuppet", "(I)Z"⟩
abbrev cX6_isPlayer : ByteArray := prog_8_method_6_code
def yX6_isPlayer : MethodName := ⟨RX6, "isPlayer", "(I)Z"⟩
abbrev cX6_isBeat : ByteArray := prog_8_method_7_code
def yX6_isBeat : MethodName := ⟨RX6, "isBeat", "(I)Z"⟩
abbrev cX6_addPuppet : ByteArray := prog_8_method_8_code
def yX6_addPuppet : MethodName := ⟨RX6, "addPuppet", "(II)I"⟩
abbrev cX6_addPlayer : ByteArray := prog_8_method_9_code
def yX6_addPlayer : MethodName := ⟨RX6, "addPlayer", "(II)I"⟩
abbrev cX6_kind : ByteArray := prog_8_method_10_code
def yX6_kind : MethodName := ⟨RX6, "kind", "(I)I"⟩
abbrev cX6_beat : ByteArray := prog_8_method_11_code
def yX6_beat : MethodName := ⟨RX6, "beat", "(I)I"⟩
abbrev cX6_behind : ByteArray := prog_8_method_12_code
def yX6_behind : MethodName := ⟨RX6, "behind", "(II)I"⟩
abbrev cX6_isBehind : ByteArray := prog_8_method_13_code
def yX6_isBehind : MethodName := ⟨RX6, "isBehind", "(II)Z"⟩
abbrev cX6_areRight : ByteArray := prog_8_method_14_code
def yX6_areRight : MethodName := ⟨RX6, "areRight", "(I)Z"⟩
abbrev cX6_write : ByteArray := prog_8_method_15_code
def yX6_write : MethodName := ⟨RX6, "write", "(IIIII)I"⟩
abbrev cX6_written : ByteArray := prog_8_method_16_code
def yX6_written : MethodName := ⟨RX6, "written", "(IIIII)I"⟩
abbrev cX6_enter : ByteArray := prog_8_method_17_code
def yX6_enter : MethodName := ⟨RX6, "enter", "(IIII)I"⟩
abbrev cX6_move : ByteArray := prog_8_method_18_code
def yX6_move : MethodName := ⟨RX6, "move", "(III)I"⟩
abbrev cX6_shift : ByteArray := prog_8_method_19_code
def yX6_shift : MethodName := ⟨RX6, "shift", "(III)I"⟩
abbrev cX6_leave : ByteArray := prog_8_method_20_code
def yX6_leave : MethodName := ⟨RX6, "leave", "(II)I"⟩
abbrev cX6_isCue : ByteArray := prog_8_method_21_code
def yX6_isCue : MethodName := ⟨RX6, "isCue", "(I)Z"⟩
abbrev cX6_strike : ByteArray := prog_8_method_22_code
def yX6_strike : MethodName := ⟨RX6, "strike", "(I)I"⟩
abbrev cX6_count : ByteArray := prog_8_method_23_code
def yX6_count : MethodName := ⟨RX6, "count", "(I)I"⟩
abbrev cX6_cue : ByteArray := prog_8_method_24_code
def yX6_cue : MethodName := ⟨RX6, "cue", "(II)I"⟩
abbrev cX6_workOut : ByteArray := prog_8_method_25_code
def yX6_workOut : MethodName := ⟨RX6, "workOut", "()V"⟩
abbrev cX6_workOut_ : ByteArray := prog_8_method_26_code
def yX6_workOut_ : MethodName := ⟨RX6, "workOut", "(I)V"⟩
abbrev cX6_playerAt : ByteArray := prog_8_method_27_code
def yX6_playerAt : MethodName := ⟨RX6, "playerAt", "(II)I"⟩
abbrev cX6_canDo : ByteArray := prog_8_method_28_code
def yX6_canDo : MethodName := ⟨RX6, "canDo", "(I)Z"⟩
abbrev cX6_castAll : ByteArray := prog_8_method_29_code
def yX6_castAll : MethodName := ⟨RX6, "castAll", "()V"⟩
abbrev cX6_placeAt : ByteArray := prog_8_method_30_code
def yX6_placeAt : MethodName := ⟨RX6, "placeAt", "(II)I"⟩
abbrev cX6_trackAt : ByteArray := prog_8_method_31_code
def yX6_trackAt : MethodName := ⟨RX6, "trackAt", "(II)I"⟩
abbrev cX6_whyBeat : ByteArray := prog_8_method_32_code
def yX6_whyBeat : MethodName := ⟨RX6, "whyBeat", "(I)I"⟩
abbrev cX6_place : ByteArray := prog_8_method_33_code
def yX6_place : MethodName := ⟨RX6, "place", "(II)I"⟩
abbrev cX6_track : ByteArray := prog_8_method_34_code
def yX6_track : MethodName := ⟨RX6, "track", "(II)I"⟩
abbrev cX6_onStage : ByteArray := prog_8_method_35_code
def yX6_onStage : MethodName := ⟨RX6, "onStage", "(I)I"⟩
abbrev cX6_areOnOneTrack : ByteArray := prog_8_method_36_code
def yX6_areOnOneTrack : MethodName := ⟨RX6, "areOnOneTrack", "(III)Z"⟩
abbrev cX6_firstClash : ByteArray := prog_8_method_37_code
def yX6_firstClash : MethodName := ⟨RX6, "firstClash", "(II)I"⟩
abbrev cX6_clash : ByteArray := prog_8_method_38_code
def yX6_clash : MethodName := ⟨RX6, "clash", "(II)I"⟩
abbrev cX6_allClashes : ByteArray := prog_8_method_39_code
def yX6_allClashes : MethodName := ⟨RX6, "allClashes", "()I"⟩
abbrev cX6_clashes : ByteArray := prog_8_method_40_code
def yX6_clashes : MethodName := ⟨RX6, "clashes", "()I"⟩
abbrev cX6_beats : ByteArray := prog_8_method_41_code
def yX6_beats : MethodName := ⟨RX6, "beats", "(I)I"⟩
abbrev cX6_stays : ByteArray := prog_8_method_42_code
def yX6_stays : MethodName := ⟨RX6, "stays", "(I)I"⟩
abbrev cX6_stayTold : ByteArray := prog_8_method_43_code
def yX6_stayTold : MethodName := ⟨RX6, "stayTold", "(III)I"⟩
abbrev cX6_stay : ByteArray := prog_8_method_44_code
def yX6_stay : MethodName := ⟨RX6, "stay", "(III)I"⟩
abbrev cX6_uncast : ByteArray := prog_8_method_45_code
def yX6_uncast : MethodName := ⟨RX6, "uncast", "()I"⟩
abbrev cX6_handsOf : ByteArray := prog_8_method_46_code
def yX6_handsOf : MethodName := ⟨RX6, "handsOf", "(II)I"⟩
abbrev cX6_hands : ByteArray := prog_8_method_47_code
def yX6_hands : MethodName := ⟨RX6, "hands", "(II)I"⟩
abbrev cX6_loadOf : ByteArray := prog_8_method_48_code
def yX6_loadOf : MethodName := ⟨RX6, "loadOf", "(I)I"⟩
abbrev cX6_load : ByteArray := prog_8_method_49_code
def yX6_load : MethodName := ⟨RX6, "load", "(I)I"⟩
abbrev cX6_note : ByteArray := prog_8_method_50_code
def yX6_note : MethodName := ⟨RX6, "note", "(II)I"⟩
abbrev cX6_mean : ByteArray := prog_8_method_51_code
def yX6_mean : MethodName := ⟨RX6, "mean", "(I)D"⟩
abbrev cX6_worst : ByteArray := prog_8_method_52_code
def yX6_worst : MethodName := ⟨RX6, "worst", "()I"⟩
abbrev cX6_digest : ByteArray := prog_8_method_53_code
def yX6_digest : MethodName := ⟨RX6, "digest", "()J"⟩
def RJx145de : String := "java/io/Serializable"
def TJx145de : u_T := fun k => match k with
  | _ => ("", "", "", false)
def tyJx145de : Nat → FieldType := fun k => match k with
  | _ => .int
theorem nmJx145de : ∀ a, a < 0 → ∀ b, b < 0 → a ≠ b → (TJx145de a).2.1 ≠ (TJx145de b).2.1 := by decide +kernel
theorem tyJx145de_ok : ∀ k, k < 0 → parseFieldDescriptor (TJx145de k).2.2.1 = some (tyJx145de k) := by decide +kernel
def RJ5 : String := "java/lang/AbstractStringBuilder"
def TJ5 : u_T := fun k => match k with
  | _ => ("", "", "", false)
def tyJ5 : Nat → FieldType := fun k => match k with
  | _ => .int
theorem nmJ5 : ∀ a, a < 0 → ∀ b, b < 0 → a ≠ b → (TJ5 a).2.1 ≠ (TJ5 b).2.1 := by decide +kernel
theorem tyJ5_ok : ∀ k, k < 0 → parseFieldDescriptor (TJ5 k).2.2.1 = some (tyJ5 k) := by decide +kernel
abbrev cJ5_init_d00df : ByteArray := prog_10_method_2_code
def yJ5_init_d00df : MethodName := ⟨RJ5, "<init>", "(I)V"⟩
abbrev cJ5_length_8abf5 : ByteArray := prog_10_method_6_code
def yJ5_length_8abf5 : MethodName := ⟨RJ5, "length", "()I"⟩
abbrev cJ5_ensureCapacityInternal_d00df : ByteArray := prog_10_method_9_code
def yJ5_ensureCapacityInternal_d00df : MethodName := ⟨RJ5, "ensureCapacityInternal", "(I)V"⟩
abbrev cJ5_newCapacity_0f7a4 : ByteArray := prog_10_method_10_code
def yJ5_newCapacity_0f7a4 : MethodName := ⟨RJ5, "newCapacity", "(I)I"⟩
abbrev cJ5_inflate_da8c8 : ByteArray := prog_10_method_11_code
def yJ5_inflate_da8c8 : MethodName := ⟨RJ5, "inflate", "()V"⟩
abbrev cJ5_append_cf1ce : ByteArray := prog_10_method_22_code
def yJ5_append_cf1ce : MethodName := ⟨RJ5, "append", "(Ljava/lang/String;)Ljava/lang/AbstractStringBuilder;"⟩
abbrev cJ5_appendNull_278bc : ByteArray := prog_10_method_26_code
def yJ5_appendNull_278bc : MethodName := ⟨RJ5, "appendNull", "()Ljava/lang/AbstractStringBuilder;"⟩
abbrev cJ5_append_c97b9 : ByteArray := prog_10_method_32_code
def yJ5_append_c97b9 : MethodName := ⟨RJ5, "append", "(I)Ljava/lang/AbstractStringBuilder;"⟩
abbrev cJ5_getValue_6d5f1 : ByteArray := prog_10_method_64_code
def yJ5_getValue_6d5f1 : MethodName := ⟨RJ5, "getValue", "()[B"⟩
abbrev cJ5_isLatin1_aae02 : ByteArray := prog_10_method_68_code
def yJ5_isLatin1_aae02 : MethodName := ⟨RJ5, "isLatin1", "()Z"⟩
abbrev cJ5_inflateIfNeededFor_a7421 : ByteArray := prog_10_method_71_code
def yJ5_inflateIfNeededFor_a7421 : MethodName := ⟨RJ5, "inflateIfNeededFor", "(Ljava/lang/String;)V"⟩
abbrev cJ5_putStringAt_47b60 : ByteArray := prog_10_method_73_code
def yJ5_putStringAt_47b60 : MethodName := ⟨RJ5, "putStringAt", "(ILjava/lang/String;)V"⟩
def RJx2cfe8 : String := "java/lang/Appendable"
def TJx2cfe8 : u_T := fun k => match k with
  | _ => ("", "", "", false)
def tyJx2cfe8 : Nat → FieldType := fun k => match k with
  | _ => .int
theorem nmJx2cfe8 : ∀ a, a < 0 → ∀ b, b < 0 → a ≠ b → (TJx2cfe8 a).2.1 ≠ (TJx2cfe8 b).2.1 := by decide +kernel
theorem tyJx2cfe8_ok : ∀ k, k < 0 → parseFieldDescriptor (TJx2cfe8 k).2.2.1 = some (tyJx2cfe8 k) := by decide +kernel
def RJx9f9b0 : String := "java/lang/CharSequence"
def TJx9f9b0 : u_T := fun k => match k with
  | _ => ("", "", "", false)
def tyJx9f9b0 : Nat → FieldType := fun k => match k with
  | _ => .int
theorem nmJx9f9b0 : ∀ a, a < 0 → ∀ b, b < 0 → a ≠ b → (TJx9f9b0 a).2.1 ≠ (TJx9f9b0 b).2.1 := by decide +kernel
theorem tyJx9f9b0_ok : ∀ k, k < 0 → parseFieldDescriptor (TJx9f9b0 k).2.2.1 = some (tyJx9f9b0 k) := by decide +kernel
def RJx8e188 : String := "java/lang/Cloneable"
def TJx8e188 : u_T := fun k => match k with
  | _ => ("", "", "", false)
def tyJx8e188 : Nat → FieldType := fun k => match k with
  | _ => .int
theorem nmJx8e188 : ∀ a, a < 0 → ∀ b, b < 0 → a ≠ b → (TJx8e188 a).2.1 ≠ (TJx8e188 b).2.1 := by decide +kernel
theorem tyJx8e188_ok : ∀ k, k < 0 → parseFieldDescriptor (TJx8e188 k).2.2.1 = some (tyJx8e188 k) := by decide +kernel
def RJxb160c : String := "java/lang/Comparable"
def TJxb160c : u_T := fun k => match k with
  | _ => ("", "", "", false)
def tyJxb160c : Nat → FieldType := fun k => match k with
  | _ => .int
theorem nmJxb160c : ∀ a, a < 0 → ∀ b, b < 0 → a ≠ b → (TJxb160c a).2.1 ≠ (TJxb160c b).2.1 := by decide +kernel
theorem tyJxb160c_ok : ∀ k, k < 0 → parseFieldDescriptor (TJxb160c k).2.2.1 = some (tyJxb160c k) := by decide +kernel
def RJ6 : String := "java/lang/Integer"
def TJ6 : u_T := fun k => match k with
  | _ => ("", "", "", false)
def tyJ6 : Nat → FieldType := fun k => match k with
  | _ => .int
theorem nmJ6 : ∀ a, a < 0 → ∀ b, b < 0 → a ≠ b → (TJ6 a).2.1 ≠ (TJ6 b).2.1 := by decide +kernel
theorem tyJ6_ok : ∀ k, k < 0 → parseFieldDescriptor (TJ6 k).2.2.1 = some (tyJ6 k) := by decide +kernel
abbrev cJ6_getChars_ba4f3 : ByteArray := prog_19_method_12_code
def yJ6_getChars_ba4f3 : MethodName := ⟨RJ6, "getChars", "(II[B)I"⟩
abbrev cJ6_stringSize_0f7a4 : ByteArray := prog_19_method_13_code
def yJ6_stringSize_0f7a4 : MethodName := ⟨RJ6, "stringSize", "(I)I"⟩
abbrev cJ6_signum_0f7a4 : ByteArray := prog_19_method_56_code
def yJ6_signum_0f7a4 : MethodName := ⟨RJ6, "signum", "(I)I"⟩
def RJxab1ab : String := "java/lang/Iterable"
def TJxab1ab : u_T := fun k => match k with
  | _ => ("", "", "", false)
def tyJxab1ab : Nat → FieldType := fun k => match k with
  | _ => .int
theorem nmJxab1ab : ∀ a, a < 0 → ∀ b, b < 0 → a ≠ b → (TJxab1ab a).2.1 ≠ (TJxab1ab b).2.1 := by decide +kernel
theorem tyJxab1ab_ok : ∀ k, k < 0 → parseFieldDescriptor (TJxab1ab k).2.2.1 = some (tyJxab1ab k) := by decide +kernel
def RJ9 : String := "java/lang/Math"
def TJ9 : u_T := fun k => match k with
  | _ => ("", "", "", false)
def tyJ9 : Nat → FieldType := fun k => match k with
  | _ => .int
theorem nmJ9 : ∀ a, a < 0 → ∀ b, b < 0 → a ≠ b → (TJ9 a).2.1 ≠ (TJ9 b).2.1 := by decide +kernel
theorem tyJ9_ok : ∀ k, k < 0 → parseFieldDescriptor (TJ9 k).2.2.1 = some (tyJ9 k) := by decide +kernel
abbrev cJ9_abs_0f7a4 : ByteArray := prog_21_method_59_code
def yJ9_abs_0f7a4 : MethodName := ⟨RJ9, "abs", "(I)I"⟩
abbrev cJ9_max_7cf53 : ByteArray := prog_21_method_65_code
def yJ9_max_7cf53 : MethodName := ⟨RJ9, "max", "(II)I"⟩
abbrev cJ9_min_7cf53 : ByteArray := prog_21_method_69_code
def yJ9_min_7cf53 : MethodName := ⟨RJ9, "min", "(II)I"⟩
def RJxd2413 : String := "java/lang/Number"
def TJxd2413 : u_T := fun k => match k with
  | _ => ("", "", "", false)
def tyJxd2413 : Nat → FieldType := fun k => match k with
  | _ => .int
theorem nmJxd2413 : ∀ a, a < 0 → ∀ b, b < 0 → a ≠ b → (TJxd2413 a).2.1 ≠ (TJxd2413 b).2.1 := by decide +kernel
theorem tyJxd2413_ok : ∀ k, k < 0 → parseFieldDescriptor (TJxd2413 k).2.2.1 = some (tyJxd2413 k) := by decide +kernel
def RJ0 : String := "java/lang/String"
def TJ0 : u_T := fun k => match k with
  | 0 => ("java/lang/String", "value", "[B", true)
  | 1 => ("java/lang/String", "coder", "B", true)
  | 2 => ("java/lang/String", "hash", "I", false)
  | _ => ("java/lang/String", "hashIsZero", "Z", false)
def tyJ0 : Nat → FieldType := fun k => match k with
  | 0 => .array .byte
  | 1 => .byte
  | 2 => .int
  | _ => .boolean
theorem nmJ0 : ∀ a, a < 4 → ∀ b, b < 4 → a ≠ b → (TJ0 a).2.1 ≠ (TJ0 b).2.1 := by decide +kernel
theorem tyJ0_ok : ∀ k, k < 4 → parseFieldDescriptor (TJ0 k).2.2.1 = some (tyJ0 k) := by decide +kernel
abbrev cJ0_init_81219 : ByteArray := prog_24_method_53_code
def yJ0_init_81219 : MethodName := ⟨RJ0, "<init>", "(Ljava/lang/StringBuilder;)V"⟩
abbrev cJ0_length_8abf5 : ByteArray := prog_24_method_54_code
def yJ0_length_8abf5 : MethodName := ⟨RJ0, "length", "()I"⟩
abbrev cJ0_getBytes_840e7 : ByteArray := prog_24_method_147_code
def yJ0_getBytes_840e7 : MethodName := ⟨RJ0, "getBytes", "([BIB)V"⟩
abbrev cJ0_init_db425 : ByteArray := prog_24_method_150_code
def yJ0_init_db425 : MethodName := ⟨RJ0, "<init>", "(Ljava/lang/AbstractStringBuilder;Ljava/lang/Void;)V"⟩
abbrev cJ0_coder_7d493 : ByteArray := prog_24_method_152_code
def yJ0_coder_7d493 : MethodName := ⟨RJ0, "coder", "()B"⟩
abbrev cJ0_checkBoundsOffCount_cabcc : ByteArray := prog_24_method_157_code
def yJ0_checkBoundsOffCount_cabcc : MethodName := ⟨RJ0, "checkBoundsOffCount", "(III)I"⟩
abbrev cJ0_checkBoundsBeginEnd_23922 : ByteArray := prog_24_method_158_code
def yJ0_checkBoundsBeginEnd_23922 : MethodName := ⟨RJ0, "checkBoundsBeginEnd", "(III)V"⟩
def RJ4 : String := "java/lang/StringBuilder"
def TJ4 : u_T := fun k => match k with
  | 0 => ("java/lang/AbstractStringBuilder", "value", "[B", false)
  | 1 => ("java/lang/AbstractStringBuilder", "coder", "B", false)
  | 2 => ("java/lang/AbstractStringBuilder", "maybeLatin1", "Z", false)
  | _ => ("java/lang/AbstractStringBuilder", "count", "I", false)
def tyJ4 : Nat → FieldType := fun k => match k with
  | 0 => .array .byte
  | 1 => .byte
  | 2 => .boolean
  | _ => .int
theorem nmJ4 : ∀ a, a < 4 → ∀ b, b < 4 → a ≠ b → (TJ4 a).2.1 ≠ (TJ4 b).2.1 := by decide +kernel
theorem tyJ4_ok : ∀ k, k < 4 → parseFieldDescriptor (TJ4 k).2.2.1 = some (tyJ4 k) := by decide +kernel
abbrev cJ4_init_da8c8 : ByteArray := prog_25_method_1_code
def yJ4_init_da8c8 : MethodName := ⟨RJ4, "<init>", "()V"⟩
abbrev cJ4_append_15ec4 : ByteArray := prog_25_method_7_code
def yJ4_append_15ec4 : MethodName := ⟨RJ4, "append", "(Ljava/lang/String;)Ljava/lang/StringBuilder;"⟩
abbrev cJ4_append_bf812 : ByteArray := prog_25_method_15_code
def yJ4_append_bf812 : MethodName := ⟨RJ4, "append", "(I)Ljava/lang/StringBuilder;"⟩
abbrev cJ4_toString_0e30d : ByteArray := prog_25_method_42_code
def yJ4_toString_0e30d : MethodName := ⟨RJ4, "toString", "()Ljava/lang/String;"⟩
abbrev cJ4_length_8abf5 : ByteArray := prog_25_method_93_code
def yJ4_length_8abf5 : MethodName := ⟨RJ4, "length", "()I"⟩
def RJ1 : String := "java/lang/StringLatin1"
def TJ1 : u_T := fun k => match k with
  | _ => ("", "", "", false)
def tyJ1 : Nat → FieldType := fun k => match k with
  | _ => .int
theorem nmJ1 : ∀ a, a < 0 → ∀ b, b < 0 → a ≠ b → (TJ1 a).2.1 ≠ (TJ1 b).2.1 := by decide +kernel
theorem tyJ1_ok : ∀ k, k < 0 → parseFieldDescriptor (TJ1 k).2.2.1 = some (tyJ1 k) := by decide +kernel
abbrev cJ1_inflate_0e8fd : ByteArray := prog_26_method_50_code
def yJ1_inflate_0e8fd : MethodName := ⟨RJ1, "inflate", "([BI[BII)V"⟩
def RJ2 : String := "java/lang/StringUTF16"
def TJ2 : u_T := fun k => match k with
  | _ => ("", "", "", false)
def tyJ2 : Nat → FieldType := fun k => match k with
  | _ => .int
theorem nmJ2 : ∀ a, a < 0 → ∀ b, b < 0 → a ≠ b → (TJ2 a).2.1 ≠ (TJ2 b).2.1 := by decide +kernel
theorem tyJ2_ok : ∀ k, k < 0 → parseFieldDescriptor (TJ2 k).2.2.1 = some (tyJ2 k) := by decide +kernel
abbrev cJ2_newBytesFor_77867 : ByteArray := prog_27_method_2_code
def yJ2_newBytesFor_77867 : MethodName := ⟨RJ2, "newBytesFor", "(I)[B"⟩
abbrev cJ2_newBytesLength_0f7a4 : ByteArray := prog_27_method_3_code
def yJ2_newBytesLength_0f7a4 : MethodName := ⟨RJ2, "newBytesLength", "(I)I"⟩
abbrev cJ2_putChar_b72d1 : ByteArray := prog_27_method_4_code
def yJ2_putChar_b72d1 : MethodName := ⟨RJ2, "putChar", "([BII)V"⟩
abbrev cJ2_getChar_3b067 : ByteArray := prog_27_method_5_code
def yJ2_getChar_3b067 : MethodName := ⟨RJ2, "getChar", "([BI)C"⟩
abbrev cJ2_length_9d52b : ByteArray := prog_27_method_6_code
def yJ2_length_9d52b : MethodName := ⟨RJ2, "length", "([B)I"⟩
abbrev cJ2_coderFromArrayLen_85cad : ByteArray := prog_27_method_15_code
def yJ2_coderFromArrayLen_85cad : MethodName := ⟨RJ2, "coderFromArrayLen", "([BI)B"⟩
abbrev cJ2_compress_39247 : ByteArray := prog_27_method_17_code
def yJ2_compress_39247 : MethodName := ⟨RJ2, "compress", "([BII)[B"⟩
abbrev cJ2_compress_5af95 : ByteArray := prog_27_method_22_code
def yJ2_compress_5af95 : MethodName := ⟨RJ2, "compress", "([BI[BII)I"⟩
abbrev cJ2_getChars_46870 : ByteArray := prog_27_method_77_code
def yJ2_getChars_46870 : MethodName := ⟨RJ2, "getChars", "(III[B)I"⟩
abbrev cJ2_putCharsAt_cd4e5 : ByteArray := prog_27_method_81_code
def yJ2_putCharsAt_cd4e5 : MethodName := ⟨RJ2, "putCharsAt", "([BICCCC)I"⟩
abbrev cJ2_inflate_0e8fd : ByteArray := prog_27_method_86_code
def yJ2_inflate_0e8fd : MethodName := ⟨RJ2, "inflate", "([BI[BII)V"⟩
abbrev cJ2_getChars_ba4f3 : ByteArray := prog_27_method_89_code
def yJ2_getChars_ba4f3 : MethodName := ⟨RJ2, "getChars", "(II[B)I"⟩
abbrev cJ2_checkBoundsBeginEnd_d044e : ByteArray := prog_27_method_93_code
def yJ2_checkBoundsBeginEnd_d044e : MethodName := ⟨RJ2, "checkBoundsBeginEnd", "(II[B)V"⟩
abbrev cJ2_checkBoundsOffCount_d044e : ByteArray := prog_27_method_94_code
def yJ2_checkBoundsOffCount_d044e : MethodName := ⟨RJ2, "checkBoundsOffCount", "(II[B)V"⟩
def RJ10 : String := "java/lang/System"
def TJ10 : u_T := fun k => match k with
  | _ => ("", "", "", false)
def tyJ10 : Nat → FieldType := fun k => match k with
  | _ => .int
theorem nmJ10 : ∀ a, a < 0 → ∀ b, b < 0 → a ≠ b → (TJ10 a).2.1 ≠ (TJ10 b).2.1 := by decide +kernel
theorem tyJ10_ok : ∀ k, k < 0 → parseFieldDescriptor (TJ10 k).2.2.1 = some (tyJ10 k) := by decide +kernel
def RJxfd54e : String := "java/lang/constant/Constable"
def TJxfd54e : u_T := fun k => match k with
  | _ => ("", "", "", false)
def tyJxfd54e : Nat → FieldType := fun k => match k with
  | _ => .int
theorem nmJxfd54e : ∀ a, a < 0 → ∀ b, b < 0 → a ≠ b → (TJxfd54e a).2.1 ≠ (TJxfd54e b).2.1 := by decide +kernel
theorem tyJxfd54e_ok : ∀ k, k < 0 → parseFieldDescriptor (TJxfd54e k).2.2.1 = some (tyJxfd54e k) := by decide +kernel
def RJx3cf43 : String := "java/lang/constant/ConstantDesc"
def TJx3cf43 : u_T := fun k => match k with
  | _ => ("", "", "", false)
def tyJx3cf43 : Nat → FieldType := fun k => match k with
  | _ => .int
theorem nmJx3cf43 : ∀ a, a < 0 → ∀ b, b < 0 → a ≠ b → (TJx3cf43 a).2.1 ≠ (TJx3cf43 b).2.1 := by decide +kernel
theorem tyJx3cf43_ok : ∀ k, k < 0 → parseFieldDescriptor (TJx3cf43 k).2.2.1 = some (tyJx3cf43 k) := by decide +kernel
def RJxa1e45 : String := "java/util/AbstractCollection"
def TJxa1e45 : u_T := fun k => match k with
  | _ => ("", "", "", false)
def tyJxa1e45 : Nat → FieldType := fun k => match k with
  | _ => .int
theorem nmJxa1e45 : ∀ a, a < 0 → ∀ b, b < 0 → a ≠ b → (TJxa1e45 a).2.1 ≠ (TJxa1e45 b).2.1 := by decide +kernel
theorem tyJxa1e45_ok : ∀ k, k < 0 → parseFieldDescriptor (TJxa1e45 k).2.2.1 = some (tyJxa1e45 k) := by decide +kernel
abbrev cJxa1e45_init_da8c8 : ByteArray := prog_32_method_1_code
def yJxa1e45_init_da8c8 : MethodName := ⟨RJxa1e45, "<init>", "()V"⟩
def RJxc12de : String := "java/util/AbstractList"
def TJxc12de : u_T := fun k => match k with
  | _ => ("", "", "", false)
def tyJxc12de : Nat → FieldType := fun k => match k with
  | _ => .int
theorem nmJxc12de : ∀ a, a < 0 → ∀ b, b < 0 → a ≠ b → (TJxc12de a).2.1 ≠ (TJxc12de b).2.1 := by decide +kernel
theorem tyJxc12de_ok : ∀ k, k < 0 → parseFieldDescriptor (TJxc12de k).2.2.1 = some (tyJxc12de k) := by decide +kernel
abbrev cJxc12de_init_da8c8 : ByteArray := prog_33_method_1_code
def yJxc12de_init_da8c8 : MethodName := ⟨RJxc12de, "<init>", "()V"⟩
def RJx4a65c : String := "java/util/ArrayList"
def TJx4a65c : u_T := fun k => match k with
  | 0 => ("java/util/AbstractList", "modCount", "I", false)
  | 1 => ("java/util/ArrayList", "elementData", "[Ljava/lang/Object;", false)
  | _ => ("java/util/ArrayList", "size", "I", false)
def tyJx4a65c : Nat → FieldType := fun k => match k with
  | 0 => .int
  | 1 => .array (.object "java/lang/Object")
  | _ => .int
theorem nmJx4a65c : ∀ a, a < 3 → ∀ b, b < 3 → a ≠ b → (TJx4a65c a).2.1 ≠ (TJx4a65c b).2.1 := by decide +kernel
theorem tyJx4a65c_ok : ∀ k, k < 3 → parseFieldDescriptor (TJx4a65c k).2.2.1 = some (tyJx4a65c k) := by decide +kernel
abbrev cJx4a65c_init_da8c8 : ByteArray := prog_34_method_2_code
def yJx4a65c_init_da8c8 : MethodName := ⟨RJx4a65c, "<init>", "()V"⟩
abbrev cJx4a65c_grow_92f84 : ByteArray := prog_34_method_6_code
def yJx4a65c_grow_92f84 : MethodName := ⟨RJx4a65c, "grow", "(I)[Ljava/lang/Object;"⟩
abbrev cJx4a65c_grow_d5877 : ByteArray := prog_34_method_7_code
def yJx4a65c_grow_d5877 : MethodName := ⟨RJx4a65c, "grow", "()[Ljava/lang/Object;"⟩
abbrev cJx4a65c_size_8abf5 : ByteArray := prog_34_method_8_code
def yJx4a65c_size_8abf5 : MethodName := ⟨RJx4a65c, "size", "()I"⟩
abbrev cJx4a65c_isEmpty_aae02 : ByteArray := prog_34_method_9_code
def yJx4a65c_isEmpty_aae02 : MethodName := ⟨RJx4a65c, "isEmpty", "()Z"⟩
abbrev cJx4a65c_elementData_915e3 : ByteArray := prog_34_method_18_code
def yJx4a65c_elementData_915e3 : MethodName := ⟨RJx4a65c, "elementData", "(I)Ljava/lang/Object;"⟩
abbrev cJx4a65c_get_915e3 : ByteArray := prog_34_method_20_code
def yJx4a65c_get_915e3 : MethodName := ⟨RJx4a65c, "get", "(I)Ljava/lang/Object;"⟩
abbrev cJx4a65c_add_72be8 : ByteArray := prog_34_method_24_code
def yJx4a65c_add_72be8 : MethodName := ⟨RJx4a65c, "add", "(Ljava/lang/Object;[Ljava/lang/Object;I)V"⟩
abbrev cJx4a65c_add_9ea2d : ByteArray := prog_34_method_25_code
def yJx4a65c_add_9ea2d : MethodName := ⟨RJx4a65c, "add", "(Ljava/lang/Object;)Z"⟩
abbrev cJx4a65c_add_7a177 : ByteArray := prog_34_method_26_code
def yJx4a65c_add_7a177 : MethodName := ⟨RJx4a65c, "add", "(ILjava/lang/Object;)V"⟩
abbrev cJx4a65c_remove_915e3 : ByteArray := prog_34_method_29_code
def yJx4a65c_remove_915e3 : MethodName := ⟨RJx4a65c, "remove", "(I)Ljava/lang/Object;"⟩
abbrev cJx4a65c_fastRemove_b59b0 : ByteArray := prog_34_method_39_code
def yJx4a65c_fastRemove_b59b0 : MethodName := ⟨RJx4a65c, "fastRemove", "([Ljava/lang/Object;I)V"⟩
abbrev cJx4a65c_clear_da8c8 : ByteArray := prog_34_method_40_code
def yJx4a65c_clear_da8c8 : MethodName := ⟨RJx4a65c, "clear", "()V"⟩
abbrev cJx4a65c_rangeCheckForAdd_d00df : ByteArray := prog_34_method_45_code
def yJx4a65c_rangeCheckForAdd_d00df : MethodName := ⟨RJx4a65c, "rangeCheckForAdd", "(I)V"⟩
abbrev cJx4a65c_outOfBoundsMsg_b52d3 : ByteArray := prog_34_method_46_code
def yJx4a65c_outOfBoundsMsg_b52d3 : MethodName := ⟨RJx4a65c, "outOfBoundsMsg", "(I)Ljava/lang/String;"⟩
def RJ7 : String := "java/util/Arrays"
def TJ7 : u_T := fun k => match k with
  | _ => ("", "", "", false)
def tyJ7 : Nat → FieldType := fun k => match k with
  | _ => .int
theorem nmJ7 : ∀ a, a < 0 → ∀ b, b < 0 → a ≠ b → (TJ7 a).2.1 ≠ (TJ7 b).2.1 := by decide +kernel
theorem tyJ7_ok : ∀ k, k < 0 → parseFieldDescriptor (TJ7 k).2.2.1 = some (tyJ7 k) := by decide +kernel
abbrev cJ7_fill_53178 : ByteArray := prog_35_method_103_code
def yJ7_fill_53178 : MethodName := ⟨RJ7, "fill", "([II)V"⟩
abbrev cJ7_copyOf_1904c : ByteArray := prog_35_method_119_code
def yJ7_copyOf_1904c : MethodName := ⟨RJ7, "copyOf", "([Ljava/lang/Object;I)[Ljava/lang/Object;"⟩
abbrev cJ7_copyOf_6403c : ByteArray := prog_35_method_120_code
def yJ7_copyOf_6403c : MethodName := ⟨RJ7, "copyOf", "([Ljava/lang/Object;ILjava/lang/Class;)[Ljava/lang/Object;"⟩
abbrev cJ7_copyOf_9075b : ByteArray := prog_35_method_121_code
def yJ7_copyOf_9075b : MethodName := ⟨RJ7, "copyOf", "([BI)[B"⟩
abbrev cJ7_checkLength_df160 : ByteArray := prog_35_method_131_code
def yJ7_checkLength_df160 : MethodName := ⟨RJ7, "checkLength", "(II)V"⟩
abbrev cJ7_copyOfRange_39247 : ByteArray := prog_35_method_132_code
def yJ7_copyOfRange_39247 : MethodName := ⟨RJ7, "copyOfRange", "([BII)[B"⟩
abbrev cJ7_copyOfRangeByte_39247 : ByteArray := prog_35_method_133_code
def yJ7_copyOfRangeByte_39247 : MethodName := ⟨RJ7, "copyOfRangeByte", "([BII)[B"⟩
def RJx5ef63 : String := "java/util/Collection"
def TJx5ef63 : u_T := fun k => match k with
  | _ => ("", "", "", false)
def tyJx5ef63 : Nat → FieldType := fun k => match k with
  | _ => .int
theorem nmJx5ef63 : ∀ a, a < 0 → ∀ b, b < 0 → a ≠ b → (TJx5ef63 a).2.1 ≠ (TJx5ef63 b).2.1 := by decide +kernel
theorem tyJx5ef63_ok : ∀ k, k < 0 → parseFieldDescriptor (TJx5ef63 k).2.2.1 = some (tyJx5ef63 k) := by decide +kernel
def RJxbd725 : String := "java/util/List"
def TJxbd725 : u_T := fun k => match k with
  | _ => ("", "", "", false)
def tyJxbd725 : Nat → FieldType := fun k => match k with
  | _ => .int
theorem nmJxbd725 : ∀ a, a < 0 → ∀ b, b < 0 → a ≠ b → (TJxbd725 a).2.1 ≠ (TJxbd725 b).2.1 := by decide +kernel
theorem tyJxbd725_ok : ∀ k, k < 0 → parseFieldDescriptor (TJxbd725 k).2.2.1 = some (tyJxbd725 k) := by decide +kernel
def RJ15 : String := "java/util/Objects"
def TJ15 : u_T := fun k => match k with
  | _ => ("", "", "", false)
def tyJ15 : Nat → FieldType := fun k => match k with
  | _ => .int
theorem nmJ15 : ∀ a, a < 0 → ∀ b, b < 0 → a ≠ b → (TJ15 a).2.1 ≠ (TJ15 b).2.1 := by decide +kernel
theorem tyJ15_ok : ∀ k, k < 0 → parseFieldDescriptor (TJ15 k).2.2.1 = some (tyJ15 k) := by decide +kernel
abbrev cJ15_checkIndex_7cf53 : ByteArray := prog_38_method_17_code
def yJ15_checkIndex_7cf53 : MethodName := ⟨RJ15, "checkIndex", "(II)I"⟩
def RJxf0a74 : String := "java/util/RandomAccess"
def TJxf0a74 : u_T := fun k => match k with
  | _ => ("", "", "", false)
def tyJxf0a74 : Nat → FieldType := fun k => match k with
  | _ => .int
theorem nmJxf0a74 : ∀ a, a < 0 → ∀ b, b < 0 → a ≠ b → (TJxf0a74 a).2.1 ≠ (TJxf0a74 b).2.1 := by decide +kernel
theorem tyJxf0a74_ok : ∀ k, k < 0 → parseFieldDescriptor (TJxf0a74 k).2.2.1 = some (tyJxf0a74 k) := by decide +kernel
def RJxa66e6 : String := "java/util/SequencedCollection"
def TJxa66e6 : u_T := fun k => match k with
  | _ => ("", "", "", false)
def tyJxa66e6 : Nat → FieldType := fun k => match k with
  | _ => .int
theorem nmJxa66e6 : ∀ a, a < 0 → ∀ b, b < 0 → a ≠ b → (TJxa66e6 a).2.1 ≠ (TJxa66e6 b).2.1 := by decide +kernel
theorem tyJxa66e6_ok : ∀ k, k < 0 → parseFieldDescriptor (TJxa66e6 k).2.2.1 = some (tyJxa66e6 k) := by decide +kernel
def RJ8 : String := "jdk/internal/util/ArraysSupport"
def TJ8 : u_T := fun k => match k with
  | _ => ("", "", "", false)
def tyJ8 : Nat → FieldType := fun k => match k with
  | _ => .int
theorem nmJ8 : ∀ a, a < 0 → ∀ b, b < 0 → a ≠ b → (TJ8 a).2.1 ≠ (TJ8 b).2.1 := by decide +kernel
theorem tyJ8_ok : ∀ k, k < 0 → parseFieldDescriptor (TJ8 k).2.2.1 = some (tyJ8 k) := by decide +kernel
abbrev cJ8_newLength_cabcc : ByteArray := prog_41_method_27_code
def yJ8_newLength_cabcc : MethodName := ⟨RJ8, "newLength", "(III)I"⟩
abbrev cJ8_hugeLength_7cf53 : ByteArray := prog_41_method_28_code
def yJ8_hugeLength_7cf53 : MethodName := ⟨RJ8, "hugeLength", "(II)I"⟩
def RJ3 : String := "jdk/internal/util/Preconditions"
def TJ3 : u_T := fun k => match k with
  | _ => ("", "", "", false)
def tyJ3 : Nat → FieldType := fun k => match k with
  | _ => .int
theorem nmJ3 : ∀ a, a < 0 → ∀ b, b < 0 → a ≠ b → (TJ3 a).2.1 ≠ (TJ3 b).2.1 := by decide +kernel
theorem tyJ3_ok : ∀ k, k < 0 → parseFieldDescriptor (TJ3 k).2.2.1 = some (tyJ3 k) := by decide +kernel
abbrev cJ3_checkIndex_8e157 : ByteArray := prog_42_method_11_code
def yJ3_checkIndex_8e157 : MethodName := ⟨RJ3, "checkIndex", "(IILjava/util/function/BiFunction;)I"⟩
abbrev cJ3_checkFromToIndex_8c36e : ByteArray := prog_42_method_12_code
def yJ3_checkFromToIndex_8c36e : MethodName := ⟨RJ3, "checkFromToIndex", "(IIILjava/util/function/BiFunction;)I"⟩
abbrev cJ3_checkFromIndexSize_8c36e : ByteArray := prog_42_method_13_code
def yJ3_checkFromIndexSize_8c36e : MethodName := ⟨RJ3, "checkFromIndexSize", "(IIILjava/util/function/BiFunction;)I"⟩
def RL : String := "CueBookLaw"
abbrev cL_addPuppet : ByteArray := method_3_code
def yL_addPuppet : MethodName := ⟨RL, "addPuppet", "(LCueBook;II[J)I"⟩
abbrev cL_addPlayer : ByteArray := method_4_code
def yL_addPlayer : MethodName := ⟨RL, "addPlayer", "(LCueBook;II[J)I"⟩
abbrev cL_enter : ByteArray := method_5_code
def yL_enter : MethodName := ⟨RL, "enter", "(LCueBook;IIII[J)I"⟩
abbrev cL_move : ByteArray := method_6_code
def yL_move : MethodName := ⟨RL, "move", "(LCueBook;III[J)I"⟩
abbrev cL_shift : ByteArray := method_7_code
def yL_shift : MethodName := ⟨RL, "shift", "(LCueBook;III[J)I"⟩
abbrev cL_leave : ByteArray := method_8_code
def yL_leave : MethodName := ⟨RL, "leave", "(LCueBook;II[J)I"⟩
abbrev cL_strike : ByteArray := method_9_code
def yL_strike : MethodName := ⟨RL, "strike", "(LCueBook;I[J)I"⟩
abbrev cL_count : ByteArray := method_10_code
def yL_count : MethodName := ⟨RL, "count", "(LCueBook;I[J)I"⟩
abbrev cL_cue : ByteArray := method_11_code
def yL_cue : MethodName := ⟨RL, "cue", "(LCueBook;II[J)I"⟩
abbrev cL_place : ByteArray := method_12_code
def yL_place : MethodName := ⟨RL, "place", "(LCueBook;II[J)I"⟩
abbrev cL_track : ByteArray := method_13_code
def yL_track : MethodName := ⟨RL, "track", "(LCueBook;II[J)I"⟩
abbrev cL_onStage : ByteArray := method_14_code
def yL_onStage : MethodName := ⟨RL, "onStage", "(LCueBook;I[J)I"⟩
abbrev cL_clash : ByteArray := method_15_code
def yL_clash : MethodName := ⟨RL, "clash", "(LCueBook;II[J)I"⟩
abbrev cL_beats : ByteArray := method_16_code
def yL_beats : MethodName := ⟨RL, "beats", "(LCueBook;I[J)I"⟩
abbrev cL_stays : ByteArray := method_17_code
def yL_stays : MethodName := ⟨RL, "stays", "(LCueBook;I[J)I"⟩
abbrev cL_stay : ByteArray := method_18_code
def yL_stay : MethodName := ⟨RL, "stay", "(LCueBook;III[J)I"⟩
abbrev cL_hands : ByteArray := method_19_code
def yL_hands : MethodName := ⟨RL, "hands", "(LCueBook;II[J)I"⟩
abbrev cL_load : ByteArray := method_20_code
def yL_load : MethodName := ⟨RL, "load", "(LCueBook;I[J)I"⟩
abbrev cL_note : ByteArray := method_21_code
def yL_note : MethodName := ⟨RL, "note", "(LCueBook;II[J)I"⟩
abbrev cL_mean : ByteArray := method_22_code
def yL_mean : MethodName := ⟨RL, "mean", "(LCueBook;I[D)I"⟩
abbrev cL_law : ByteArray := code
def yL_law : MethodName := ⟨RL, "law", "([I)Z"⟩
