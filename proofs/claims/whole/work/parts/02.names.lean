def RX0 : String := "ToastCourt$Court"
def TX0 : u_T := fun k => match k with
  | 0 => ("ToastCourt$Court", "height", "I", false)
  | 1 => ("ToastCourt$Court", "spread", "I", false)
  | 2 => ("ToastCourt$Court", "edges", "I", false)
  | 3 => ("ToastCourt$Court", "drop", "I", false)
  | 4 => ("ToastCourt$Court", "z", "I", false)
  | 5 => ("ToastCourt$Court", "list", "[I", true)
  | 6 => ("ToastCourt$Court", "spots", "[I", true)
  | 7 => ("ToastCourt$Court", "size", "I", false)
  | _ => ("ToastCourt$Court", "all", "[LToastCourt$Disputant;", true)
def tyX0 : Nat → FieldType := fun k => match k with
  | 0 => .int
  | 1 => .int
  | 2 => .int
  | 3 => .int
  | 4 => .int
  | 5 => .array .int
  | 6 => .array .int
  | 7 => .int
  | _ => .array (.object "ToastCourt$Disputant")
theorem nmX0 : ∀ a, a < 9 → ∀ b, b < 9 → a ≠ b → (TX0 a).2.1 ≠ (TX0 b).2.1 := by decide +kernel
theorem tyX0_ok : ∀ k, k < 9 → parseFieldDescriptor (TX0 k).2.2.1 = some (tyX0 k) := by decide +kernel
abbrev cX0_init : ByteArray := prog_2_method_1_code
def yX0_init : MethodName := ⟨RX0, "<init>", "()V"⟩
abbrev cX0_become : ByteArray := prog_2_method_2_code
def yX0_become : MethodName := ⟨RX0, "become", "(LToastCourt$Court;)V"⟩
abbrev cX0_has : ByteArray := prog_2_method_3_code
def yX0_has : MethodName := ⟨RX0, "has", "(I)Z"⟩
abbrev cX0_areTwo : ByteArray := prog_2_method_4_code
def yX0_areTwo : MethodName := ⟨RX0, "areTwo", "(II)Z"⟩
abbrev cX0_isFull : ByteArray := prog_2_method_5_code
def yX0_isFull : MethodName := ⟨RX0, "isFull", "()Z"⟩
abbrev cX0_admit : ByteArray := prog_2_method_6_code
def yX0_admit : MethodName := ⟨RX0, lw_nmA, "(II)I"⟩
abbrev cX0_hush : ByteArray := prog_2_method_7_code
def yX0_hush : MethodName := ⟨RX0, "hush", "(I)V"⟩
abbrev cX0_draw : ByteArray := prog_2_method_8_code
def yX0_draw : MethodName := ⟨RX0, "draw", "()I"⟩
abbrev cX0_turns : ByteArray := prog_2_method_9_code
def yX0_turns : MethodName := ⟨RX0, "turns", "(III)I"⟩
abbrev cX0_loser : ByteArray := prog_2_method_10_code
def yX0_loser : MethodName := ⟨RX0, "loser", "(III)I"⟩
abbrev cX0_fallsOut : ByteArray := prog_2_method_11_code
def yX0_fallsOut : MethodName := ⟨RX0, "fallsOut", "()Z"⟩
abbrev cX0_dropOnce : ByteArray := prog_2_method_12_code
def yX0_dropOnce : MethodName := ⟨RX0, "dropOnce", "()V"⟩
abbrev cX0_letFall : ByteArray := prog_2_method_13_code
def yX0_letFall : MethodName := ⟨RX0, "letFall", "(II)V"⟩
abbrev cX0_wrongs : ByteArray := prog_2_method_14_code
def yX0_wrongs : MethodName := ⟨RX0, "wrongs", "()I"⟩
abbrev cX0_tempers : ByteArray := prog_2_method_15_code
def yX0_tempers : MethodName := ⟨RX0, "tempers", "()I"⟩
abbrev cX0_moreWrong : ByteArray := prog_2_method_16_code
def yX0_moreWrong : MethodName := ⟨RX0, "moreWrong", "()I"⟩
abbrev cX0_silents : ByteArray := prog_2_method_17_code
def yX0_silents : MethodName := ⟨RX0, "silents", "()I"⟩
abbrev cX0_loudest : ByteArray := prog_2_method_18_code
def yX0_loudest : MethodName := ⟨RX0, "loudest", "()I"⟩
abbrev cX0_heldSpots : ByteArray := prog_2_method_19_code
def yX0_heldSpots : MethodName := ⟨RX0, "heldSpots", "()I"⟩
def RX1 : String := "ToastCourt$Disputant"
def TX1 : u_T := fun k => match k with
  | 0 => ("ToastCourt$Disputant", "kind", "I", false)
  | 1 => ("ToastCourt$Disputant", "cause", "I", false)
  | 2 => ("ToastCourt$Disputant", "temper", "I", false)
  | 3 => ("ToastCourt$Disputant", "wrong", "I", false)
  | 4 => ("ToastCourt$Disputant", "right", "I", false)
  | _ => ("ToastCourt$Disputant", "silent", "I", false)
def tyX1 : Nat → FieldType := fun k => match k with
  | 0 => .int
  | 1 => .int
  | 2 => .int
  | 3 => .int
  | 4 => .int
  | _ => .int
theorem nmX1 : ∀ a, a < 6 → ∀ b, b < 6 → a ≠ b → (TX1 a).2.1 ≠ (TX1 b).2.1 := by decide +kernel
theorem tyX1_ok : ∀ k, k < 6 → parseFieldDescriptor (TX1 k).2.2.1 = some (tyX1 k) := by decide +kernel
abbrev cX1_init : ByteArray := prog_3_method_1_code
def yX1_init : MethodName := ⟨RX1, "<init>", "()V"⟩
abbrev cX1_begin : ByteArray := prog_3_method_2_code
def yX1_begin : MethodName := ⟨RX1, "begin", "(II)V"⟩
abbrev cX1_become : ByteArray := prog_3_method_3_code
def yX1_become : MethodName := ⟨RX1, "become", "(LToastCourt$Disputant;)V"⟩
abbrev cX1_most : ByteArray := prog_3_method_4_code
def yX1_most : MethodName := ⟨RX1, "most", "(I)I"⟩
abbrev cX1_put : ByteArray := prog_3_method_5_code
def yX1_put : MethodName := ⟨RX1, "put", "(II)V"⟩
abbrev cX1_tells : ByteArray := prog_3_method_6_code
def yX1_tells : MethodName := ⟨RX1, "tells", "(III)I"⟩
abbrev cX1_isOne : ByteArray := prog_3_method_7_code
def yX1_isOne : MethodName := ⟨RX1, "isOne", "(I)Z"⟩
abbrev cX1_presses : ByteArray := prog_3_method_8_code
def yX1_presses : MethodName := ⟨RX1, "presses", "(I)I"⟩
abbrev cX1_pressesAsParson : ByteArray := prog_3_method_9_code
def yX1_pressesAsParson : MethodName := ⟨RX1, "pressesAsParson", "(I)I"⟩
abbrev cX1_jolts : ByteArray := prog_3_method_10_code
def yX1_jolts : MethodName := ⟨RX1, "jolts", "(I)I"⟩
abbrev cX1_grows : ByteArray := prog_3_method_11_code
def yX1_grows : MethodName := ⟨RX1, "grows", "()I"⟩
abbrev cX1_learns : ByteArray := prog_3_method_12_code
def yX1_learns : MethodName := ⟨RX1, "learns", "()I"⟩
abbrev cX1_cools : ByteArray := prog_3_method_13_code
def yX1_cools : MethodName := ⟨RX1, "cools", "()I"⟩
abbrev cX1_isFoundWrong : ByteArray := prog_3_method_14_code
def yX1_isFoundWrong : MethodName := ⟨RX1, "isFoundWrong", "()V"⟩
abbrev cX1_isFoundRight : ByteArray := prog_3_method_15_code
def yX1_isFoundRight : MethodName := ⟨RX1, "isFoundRight", "()V"⟩
abbrev cX1_coolDown : ByteArray := prog_3_method_16_code
def yX1_coolDown : MethodName := ⟨RX1, "coolDown", "()V"⟩
def RX2 : String := "ToastCourt$Sheet"
def TX2 : u_T := fun k => match k with
  | 0 => ("ToastCourt$Sheet", "bits", "I", false)
  | 1 => ("ToastCourt$Sheet", "size", "I", false)
  | _ => ("ToastCourt$Sheet", "numbers", "[I", true)
def tyX2 : Nat → FieldType := fun k => match k with
  | 0 => .int
  | 1 => .int
  | _ => .array .int
theorem nmX2 : ∀ a, a < 3 → ∀ b, b < 3 → a ≠ b → (TX2 a).2.1 ≠ (TX2 b).2.1 := by decide +kernel
theorem tyX2_ok : ∀ k, k < 3 → parseFieldDescriptor (TX2 k).2.2.1 = some (tyX2 k) := by decide +kernel
abbrev cX2_init : ByteArray := prog_4_method_1_code
def yX2_init : MethodName := ⟨RX2, "<init>", "()V"⟩
abbrev cX2_isMissing : ByteArray := prog_4_method_2_code
def yX2_isMissing : MethodName := ⟨RX2, "isMissing", "()Z"⟩
abbrev cX2_renew : ByteArray := prog_4_method_3_code
def yX2_renew : MethodName := ⟨RX2, "renew", "(II)V"⟩
abbrev cX2_put : ByteArray := prog_4_method_4_code
def yX2_put : MethodName := ⟨RX2, "put", "(II)V"⟩
abbrev cX2_hasRow : ByteArray := prog_4_method_5_code
def yX2_hasRow : MethodName := ⟨RX2, "hasRow", "(II)Z"⟩
def RX3 : String := "ToastCourt$Tape"
def TX3 : u_T := fun k => match k with
  | 0 => ("ToastCourt$Tape", "bytes", "[I", true)
  | 1 => ("ToastCourt$Tape", "size", "I", false)
  | 2 => ("ToastCourt$Tape", "token", "I", false)
  | 3 => ("ToastCourt$Tape", "at", "I", false)
  | 4 => ("ToastCourt$Tape", "behind", "I", false)
  | _ => ("ToastCourt$Tape", "number", "I", false)
def tyX3 : Nat → FieldType := fun k => match k with
  | 0 => .array .int
  | 1 => .int
  | 2 => .int
  | 3 => .int
  | 4 => .int
  | _ => .int
theorem nmX3 : ∀ a, a < 6 → ∀ b, b < 6 → a ≠ b → (TX3 a).2.1 ≠ (TX3 b).2.1 := by decide +kernel
theorem tyX3_ok : ∀ k, k < 6 → parseFieldDescriptor (TX3 k).2.2.1 = some (tyX3 k) := by decide +kernel
abbrev cX3_init : ByteArray := prog_5_method_1_code
def yX3_init : MethodName := ⟨RX3, "<init>", "()V"⟩
abbrev cX3_append : ByteArray := prog_5_method_2_code
def yX3_append : MethodName := ⟨RX3, "append", "(I)V"⟩
abbrev cX3_read : ByteArray := prog_5_method_3_code
def yX3_read : MethodName := ⟨RX3, "read", "(LToastCourt$Court;)I"⟩
abbrev cX3_readItem : ByteArray := prog_5_method_4_code
def yX3_readItem : MethodName := ⟨RX3, "readItem", "(LToastCourt$Court;)Z"⟩
abbrev cX3_kindOfWord : ByteArray := prog_5_method_5_code
def yX3_kindOfWord : MethodName := ⟨RX3, "kindOfWord", "()I"⟩
abbrev cX3_readDisputant : ByteArray := prog_5_method_6_code
def yX3_readDisputant : MethodName := ⟨RX3, "readDisputant", "(LToastCourt$Court;I)Z"⟩
abbrev cX3_readDispute : ByteArray := prog_5_method_7_code
def yX3_readDispute : MethodName := ⟨RX3, "readDispute", "(LToastCourt$Court;)Z"⟩
abbrev cX3_readHeight : ByteArray := prog_5_method_8_code
def yX3_readHeight : MethodName := ⟨RX3, "readHeight", "(LToastCourt$Court;)Z"⟩
abbrev cX3_readSpread : ByteArray := prog_5_method_9_code
def yX3_readSpread : MethodName := ⟨RX3, "readSpread", "(LToastCourt$Court;)Z"⟩
abbrev cX3_stepsToNumber : ByteArray := prog_5_method_10_code
def yX3_stepsToNumber : MethodName := ⟨RX3, "stepsToNumber", "(II)Z"⟩
abbrev cX3_isWord : ByteArray := prog_5_method_11_code
def yX3_isWord : MethodName := ⟨RX3, "isWord", "(Ljava/lang/String;)Z"⟩
abbrev cX3_step : ByteArray := prog_5_method_12_code
def yX3_step : MethodName := ⟨RX3, "step", "()V"⟩
abbrev cX3_isLetter : ByteArray := prog_5_method_13_code
def yX3_isLetter : MethodName := ⟨RX3, "isLetter", "(I)Z"⟩
abbrev cX3_isDigit : ByteArray := prog_5_method_14_code
def yX3_isDigit : MethodName := ⟨RX3, "isDigit", "(I)Z"⟩
def RX4 : String := "ToastCourt"
def TX4 : u_T := fun k => match k with
  | 0 => ("ToastCourt", "real", "LToastCourt$Court;", true)
  | 1 => ("ToastCourt", "trial", "LToastCourt$Court;", true)
  | 2 => ("ToastCourt", "kept", "LToastCourt$Court;", true)
  | 3 => ("ToastCourt", "isKept", "Z", false)
  | 4 => ("ToastCourt", "tape", "LToastCourt$Tape;", true)
  | 5 => ("ToastCourt", "sheets", "[LToastCourt$Sheet;", true)
  | _ => ("ToastCourt", "told", "[I", true)
def tyX4 : Nat → FieldType := fun k => match k with
  | 0 => .object "ToastCourt$Court"
  | 1 => .object "ToastCourt$Court"
  | 2 => .object "ToastCourt$Court"
  | 3 => .boolean
  | 4 => .object "ToastCourt$Tape"
  | 5 => .array (.object "ToastCourt$Sheet")
  | _ => .array .int
theorem nmX4 : ∀ a, a < 7 → ∀ b, b < 7 → a ≠ b → (TX4 a).2.1 ≠ (TX4 b).2.1 := by decide +kernel
theorem tyX4_ok : ∀ k, k < 7 → parseFieldDescriptor (TX4 k).2.2.1 = some (tyX4 k) := by decide +kernel
abbrev cX4_init : ByteArray := prog_1_method_1_code
def yX4_init : MethodName := ⟨RX4, "<init>", "()V"⟩
abbrev cX4_set : ByteArray := prog_1_method_2_code
def yX4_set : MethodName := ⟨RX4, "set", "(II)I"⟩
abbrev cX4_court : ByteArray := prog_1_method_3_code
def yX4_court : MethodName := ⟨RX4, "court", "(I)I"⟩
abbrev cX4_dispute : ByteArray := prog_1_method_4_code
def yX4_dispute : MethodName := ⟨RX4, "dispute", "(III)I"⟩
abbrev cX4_listed : ByteArray := prog_1_method_5_code
def yX4_listed : MethodName := ⟨RX4, "listed", "(I)I"⟩
abbrev cX4_disputant : ByteArray := prog_1_method_6_code
def yX4_disputant : MethodName := ⟨RX4, "disputant", "(II)I"⟩
abbrev cX4_of : ByteArray := prog_1_method_7_code
def yX4_of : MethodName := ⟨RX4, "of", "(II)I"⟩
abbrev cX4_change : ByteArray := prog_1_method_8_code
def yX4_change : MethodName := ⟨RX4, "change", "(III)I"⟩
abbrev cX4_turning : ByteArray := prog_1_method_9_code
def yX4_turning : MethodName := ⟨RX4, "turning", "(II)I"⟩
abbrev cX4_falls : ByteArray := prog_1_method_10_code
def yX4_falls : MethodName := ⟨RX4, "falls", "(II)I"⟩
abbrev cX4_go : ByteArray := prog_1_method_11_code
def yX4_go : MethodName := ⟨RX4, "go", "(I)I"⟩
abbrev cX4_now : ByteArray := prog_1_method_12_code
def yX4_now : MethodName := ⟨RX4, "now", "(I)I"⟩
abbrev cX4_ahead : ByteArray := prog_1_method_13_code
def yX4_ahead : MethodName := ⟨RX4, "ahead", "(III)I"⟩
abbrev cX4_wrong : ByteArray := prog_1_method_14_code
def yX4_wrong : MethodName := ⟨RX4, "wrong", "(II)I"⟩
abbrev cX4_right : ByteArray := prog_1_method_15_code
def yX4_right : MethodName := ⟨RX4, "right", "(II)I"⟩
abbrev cX4_stands : ByteArray := prog_1_method_16_code
def yX4_stands : MethodName := ⟨RX4, "stands", "()I"⟩
abbrev cX4_calm : ByteArray := prog_1_method_17_code
def yX4_calm : MethodName := ⟨RX4, "calm", "(II)I"⟩
abbrev cX4_heightFor : ByteArray := prog_1_method_18_code
def yX4_heightFor : MethodName := ⟨RX4, "heightFor", "(II)I"⟩
abbrev cX4_spreadFor : ByteArray := prog_1_method_19_code
def yX4_spreadFor : MethodName := ⟨RX4, "spreadFor", "(II)I"⟩
abbrev cX4_kindFor : ByteArray := prog_1_method_20_code
def yX4_kindFor : MethodName := ⟨RX4, "kindFor", "(II)I"⟩
abbrev cX4_causeFor : ByteArray := prog_1_method_21_code
def yX4_causeFor : MethodName := ⟨RX4, "causeFor", "(III)I"⟩
abbrev cX4_against : ByteArray := prog_1_method_22_code
def yX4_against : MethodName := ⟨RX4, "against", "(II)I"⟩
abbrev cX4_silence : ByteArray := prog_1_method_23_code
def yX4_silence : MethodName := ⟨RX4, "silence", "(II)I"⟩
abbrev cX4_fits : ByteArray := prog_1_method_24_code
def yX4_fits : MethodName := ⟨RX4, "fits", "(II)I"⟩
abbrev cX4_height : ByteArray := prog_1_method_25_code
def yX4_height : MethodName := ⟨RX4, "height", "(II)I"⟩
abbrev cX4_kinds : ByteArray := prog_1_method_26_code
def yX4_kinds : MethodName := ⟨RX4, "kinds", "(II)I"⟩
abbrev cX4_toss : ByteArray := prog_1_method_27_code
def yX4_toss : MethodName := ⟨RX4, "toss", "(I)I"⟩
abbrev cX4_odds : ByteArray := prog_1_method_28_code
def yX4_odds : MethodName := ⟨RX4, "odds", "(IIII)J"⟩
abbrev cX4_seed : ByteArray := prog_1_method_29_code
def yX4_seed : MethodName := ⟨RX4, "seed", "(I)I"⟩
abbrev cX4_feed : ByteArray := prog_1_method_30_code
def yX4_feed : MethodName := ⟨RX4, "feed", "(II)I"⟩
abbrev cX4_wipe : ByteArray := prog_1_method_31_code
def yX4_wipe : MethodName := ⟨RX4, "wipe", "()I"⟩
abbrev cX4_text : ByteArray := prog_1_method_32_code
def yX4_text : MethodName := ⟨RX4, "text", "()I"⟩
abbrev cX4_hold : ByteArray := prog_1_method_33_code
def yX4_hold : MethodName := ⟨RX4, "hold", "(II)I"⟩
abbrev cX4_as : ByteArray := prog_1_method_34_code
def yX4_as : MethodName := ⟨RX4, "as", "(II)I"⟩
abbrev cX4_sheet : ByteArray := prog_1_method_35_code
def yX4_sheet : MethodName := ⟨RX4, "sheet", "(III)I"⟩
abbrev cX4_write : ByteArray := prog_1_method_36_code
def yX4_write : MethodName := ⟨RX4, "write", "(III)I"⟩
abbrev cX4_copy : ByteArray := prog_1_method_37_code
def yX4_copy : MethodName := ⟨RX4, "copy", "(IIIII)I"⟩
abbrev cX4_load : ByteArray := prog_1_method_38_code
def yX4_load : MethodName := ⟨RX4, "load", "(I)I"⟩
abbrev cX4_judge : ByteArray := prog_1_method_39_code
def yX4_judge : MethodName := ⟨RX4, "judge", "(I)I"⟩
abbrev cX4_image : ByteArray := prog_1_method_40_code
def yX4_image : MethodName := ⟨RX4, "image", "()I"⟩
abbrev cX4_undo : ByteArray := prog_1_method_41_code
def yX4_undo : MethodName := ⟨RX4, "undo", "()I"⟩
abbrev cX4_tear : ByteArray := prog_1_method_42_code
def yX4_tear : MethodName := ⟨RX4, "tear", "()I"⟩
abbrev cX4_count : ByteArray := prog_1_method_43_code
def yX4_count : MethodName := ⟨RX4, "count", "(I)I"⟩
abbrev cX4_status : ByteArray := prog_1_method_44_code
def yX4_status : MethodName := ⟨RX4, "status", "(I)I"⟩
abbrev cX4_tell : ByteArray := prog_1_method_45_code
def yX4_tell : MethodName := ⟨RX4, "tell", "(I)I"⟩
abbrev cX4_isWithin : ByteArray := prog_1_method_46_code
def yX4_isWithin : MethodName := ⟨RX4, "isWithin", "(III)Z"⟩
abbrev cX4_isPlace : ByteArray := prog_1_method_47_code
def yX4_isPlace : MethodName := ⟨RX4, "isPlace", "(I)Z"⟩
abbrev cX4_isParty : ByteArray := prog_1_method_48_code
def yX4_isParty : MethodName := ⟨RX4, "isParty", "(I)Z"⟩
abbrev cX4_isSheet : ByteArray := prog_1_method_49_code
def yX4_isSheet : MethodName := ⟨RX4, "isSheet", "(I)Z"⟩
abbrev cX4_findingOfSheet : ByteArray := prog_1_method_50_code
def yX4_findingOfSheet : MethodName := ⟨RX4, "findingOfSheet", "(I)I"⟩
abbrev cX4_findingOfFalls : ByteArray := prog_1_method_51_code
def yX4_findingOfFalls : MethodName := ⟨RX4, "findingOfFalls", "(II)I"⟩
abbrev cX4_dropsToReach : ByteArray := prog_1_method_52_code
def yX4_dropsToReach : MethodName := ⟨RX4, "dropsToReach", "(III)I"⟩
abbrev cX4_trialLeavesWrong : ByteArray := prog_1_method_53_code
def yX4_trialLeavesWrong : MethodName := ⟨RX4, "trialLeavesWrong", "(II)Z"⟩
abbrev cX4_trialRight : ByteArray := prog_1_method_54_code
def yX4_trialRight : MethodName := ⟨RX4, "trialRight", "(II)I"⟩
abbrev cX4_trialIsAsTold : ByteArray := prog_1_method_55_code
def yX4_trialIsAsTold : MethodName := ⟨RX4, "trialIsAsTold", "(LToastCourt$Sheet;I)Z"⟩
abbrev cX4_commonDivisor : ByteArray := prog_1_method_56_code
def yX4_commonDivisor : MethodName := ⟨RX4, "commonDivisor", "(II)I"⟩
def RX5 : String := "ToastCourtModel"
def TX5 : u_T := fun k => match k with
  | 0 => ("ToastCourtModel", "now", "[I", true)
  | 1 => ("ToastCourtModel", "kept", "[I", true)
  | 2 => ("ToastCourtModel", "aside", "[I", true)
  | 3 => ("ToastCourtModel", "isKept", "Z", false)
  | 4 => ("ToastCourtModel", "found", "[I", true)
  | 5 => ("ToastCourtModel", "heightsMany", "I", false)
  | 6 => ("ToastCourtModel", "heightsLeast", "I", false)
  | 7 => ("ToastCourtModel", "tape", "[I", true)
  | 8 => ("ToastCourtModel", "taped", "I", false)
  | 9 => ("ToastCourtModel", "begins", "I", false)
  | 10 => ("ToastCourtModel", "ends", "I", false)
  | 11 => ("ToastCourtModel", "sort", "I", false)
  | 12 => ("ToastCourtModel", "value", "I", false)
  | 13 => ("ToastCourtModel", "isWrong", "Z", false)
  | 14 => ("ToastCourtModel", "kindNames", "[Ljava/lang/String;", true)
  | 15 => ("ToastCourtModel", "items", "[I", true)
  | 16 => ("ToastCourtModel", "itemMany", "I", false)
  | 17 => ("ToastCourtModel", "disputantsThen", "I", false)
  | 18 => ("ToastCourtModel", "widths", "[I", true)
  | 19 => ("ToastCourtModel", "sizes", "[I", true)
  | 20 => ("ToastCourtModel", "numbers", "[I", true)
  | _ => ("ToastCourtModel", "moved", "[I", true)
def tyX5 : Nat → FieldType := fun k => match k with
  | 0 => .array .int
  | 1 => .array .int
  | 2 => .array .int
  | 3 => .boolean
  | 4 => .array .int
  | 5 => .int
  | 6 => .int
  | 7 => .array .int
  | 8 => .int
  | 9 => .int
  | 10 => .int
  | 11 => .int
  | 12 => .int
  | 13 => .boolean
  | 14 => .array (.object "java/lang/String")
  | 15 => .array .int
  | 16 => .int
  | 17 => .int
  | 18 => .array .int
  | 19 => .array .int
  | 20 => .array .int
  | _ => .array .int
theorem nmX5 : ∀ a, a < 22 → ∀ b, b < 22 → a ≠ b → (TX5 a).2.1 ≠ (TX5 b).2.1 := by decide +kernel
theorem tyX5_ok : ∀ k, k < 22 → parseFieldDescriptor (TX5 k).2.2.1 = some (tyX5 k) := by decide +kernel
abbrev cX5_init : ByteArray := prog_7_method_1_code
def yX5_init : MethodName := ⟨RX5, "<init>", "()V"⟩
abbrev cX5_finding : ByteArray := prog_7_method_2_code
def yX5_finding : MethodName := ⟨RX5, "finding", "(I)I"⟩
abbrev cX5_within : ByteArray := prog_7_method_3_code
def yX5_within : MethodName := ⟨RX5, "within", "(III)Z"⟩
abbrev cX5_become : ByteArray := prog_7_method_4_code
def yX5_become : MethodName := ⟨RX5, "become", "(II)I"⟩
abbrev cX5_copyRow : ByteArray := prog_7_method_5_code
def yX5_copyRow : MethodName := ⟨RX5, "copyRow", "([I[I)V"⟩
abbrev cX5_putBack : ByteArray := prog_7_method_6_code
def yX5_putBack : MethodName := ⟨RX5, "putBack", "(I)I"⟩
abbrev cX5_orNone : ByteArray := prog_7_method_7_code
def yX5_orNone : MethodName := ⟨RX5, "orNone", "(I)I"⟩
abbrev cX5_bits : ByteArray := prog_7_method_8_code
def yX5_bits : MethodName := ⟨RX5, "bits", "(I)I"⟩
abbrev cX5_set : ByteArray := prog_7_method_9_code
def yX5_set : MethodName := ⟨RX5, "set", "(II)I"⟩
abbrev cX5_court : ByteArray := prog_7_method_10_code
def yX5_court : MethodName := ⟨RX5, "court", "(I)I"⟩
abbrev cX5_isPlace : ByteArray := prog_7_method_11_code
def yX5_isPlace : MethodName := ⟨RX5, "isPlace", "(I)Z"⟩
abbrev cX5_isSide : ByteArray := prog_7_method_12_code
def yX5_isSide : MethodName := ⟨RX5, "isSide", "(I)Z"⟩
abbrev cX5_dispute : ByteArray := prog_7_method_13_code
def yX5_dispute : MethodName := ⟨RX5, "dispute", "(III)I"⟩
abbrev cX5_listed : ByteArray := prog_7_method_14_code
def yX5_listed : MethodName := ⟨RX5, "listed", "(I)I"⟩
abbrev cX5_disputantAt : ByteArray := prog_7_method_15_code
def yX5_disputantAt : MethodName := ⟨RX5, "disputantAt", "(II)I"⟩
abbrev cX5_disputantIs : ByteArray := prog_7_method_16_code
def yX5_disputantIs : MethodName := ⟨RX5, "disputantIs", "(II)I"⟩
abbrev cX5_isDisputant : ByteArray := prog_7_method_17_code
def yX5_isDisputant : MethodName := ⟨RX5, "isDisputant", "(I)Z"⟩
abbrev cX5_isKind : ByteArray := prog_7_method_18_code
def yX5_isKind : MethodName := ⟨RX5, "isKind", "(I)Z"⟩
abbrev cX5_comes : ByteArray := prog_7_method_19_code
def yX5_comes : MethodName := ⟨RX5, "comes", "(II)I"⟩
abbrev cX5_disputant : ByteArray := prog_7_method_20_code
def yX5_disputant : MethodName := ⟨RX5, "disputant", "(II)I"⟩
abbrev cX5_presses : ByteArray := prog_7_method_21_code
def yX5_presses : MethodName := ⟨RX5, "presses", "(I)I"⟩
abbrev cX5_jolts : ByteArray := prog_7_method_22_code
def yX5_jolts : MethodName := ⟨RX5, "jolts", "(I)I"⟩
abbrev cX5_grows : ByteArray := prog_7_method_23_code
def yX5_grows : MethodName := ⟨RX5, "grows", "(I)I"⟩
abbrev cX5_learns : ByteArray := prog_7_method_24_code
def yX5_learns : MethodName := ⟨RX5, "learns", "(I)I"⟩
abbrev cX5_cools : ByteArray := prog_7_method_25_code
def yX5_cools : MethodName := ⟨RX5, "cools", "(I)I"⟩
abbrev cX5_told : ByteArray := prog_7_method_26_code
def yX5_told : MethodName := ⟨RX5, "told", "(II)I"⟩
abbrev cX5_of : ByteArray := prog_7_method_27_code
def yX5_of : MethodName := ⟨RX5, "of", "(II)I"⟩
abbrev cX5_isField : ByteArray := prog_7_method_28_code
def yX5_isField : MethodName := ⟨RX5, "isField", "(II)Z"⟩
abbrev cX5_change : ByteArray := prog_7_method_29_code
def yX5_change : MethodName := ⟨RX5, "change", "(III)I"⟩
abbrev cX5_turnsOf : ByteArray := prog_7_method_30_code
def yX5_turnsOf : MethodName := ⟨RX5, "turnsOf", "(II)I"⟩
abbrev cX5_areTwo : ByteArray := prog_7_method_31_code
def yX5_areTwo : MethodName := ⟨RX5, "areTwo", "(II)Z"⟩
abbrev cX5_turning : ByteArray := prog_7_method_32_code
def yX5_turning : MethodName := ⟨RX5, "turning", "(II)I"⟩
abbrev cX5_fallsFor : ByteArray := prog_7_method_33_code
def yX5_fallsFor : MethodName := ⟨RX5, "fallsFor", "(II)I"⟩
abbrev cX5_falls : ByteArray := prog_7_method_34_code
def yX5_falls : MethodName := ⟨RX5, "falls", "(II)I"⟩
abbrev cX5_fallsOut : ByteArray := prog_7_method_35_code
def yX5_fallsOut : MethodName := ⟨RX5, "fallsOut", "()Z"⟩
abbrev cX5_more : ByteArray := prog_7_method_36_code
def yX5_more : MethodName := ⟨RX5, "more", "(III)V"⟩
abbrev cX5_settles : ByteArray := prog_7_method_37_code
def yX5_settles : MethodName := ⟨RX5, "settles", "(II)V"⟩
abbrev cX5_drop : ByteArray := prog_7_method_38_code
def yX5_drop : MethodName := ⟨RX5, "drop", "()V"⟩
abbrev cX5_dropsGo : ByteArray := prog_7_method_39_code
def yX5_dropsGo : MethodName := ⟨RX5, "dropsGo", "(I)V"⟩
abbrev cX5_sumOf : ByteArray := prog_7_method_40_code
def yX5_sumOf : MethodName := ⟨RX5, "sumOf", "(I)I"⟩
abbrev cX5_go : ByteArray := prog_7_method_41_code
def yX5_go : MethodName := ⟨RX5, "go", "(I)I"⟩
abbrev cX5_oftenWrong : ByteArray := prog_7_method_42_code
def yX5_oftenWrong : MethodName := ⟨RX5, "oftenWrong", "()I"⟩
abbrev cX5_pressesMost : ByteArray := prog_7_method_43_code
def yX5_pressesMost : MethodName := ⟨RX5, "pressesMost", "()I"⟩
abbrev cX5_silent : ByteArray := prog_7_method_44_code
def yX5_silent : MethodName := ⟨RX5, "silent", "()I"⟩
abbrev cX5_now : ByteArray := prog_7_method_45_code
def yX5_now : MethodName := ⟨RX5, "now", "(I)I"⟩
abbrev cX5_behind : ByteArray := prog_7_method_46_code
def yX5_behind : MethodName := ⟨RX5, "behind", "(II)I"⟩
abbrev cX5_ahead : ByteArray := prog_7_method_47_code
def yX5_ahead : MethodName := ⟨RX5, "ahead", "(III)I"⟩
abbrev cX5_dropsTo : ByteArray := prog_7_method_48_code
def yX5_dropsTo : MethodName := ⟨RX5, "dropsTo", "(II)I"⟩
abbrev cX5_wrong : ByteArray := prog_7_method_49_code
def yX5_wrong : MethodName := ⟨RX5, "wrong", "(II)I"⟩
abbrev cX5_right : ByteArray := prog_7_method_50_code
def yX5_right : MethodName := ⟨RX5, "right", "(II)I"⟩
abbrev cX5_stands : ByteArray := prog_7_method_51_code
def yX5_stands : MethodName := ⟨RX5, "stands", "()I"⟩
abbrev cX5_calm : ByteArray := prog_7_method_52_code
def yX5_calm : MethodName := ⟨RX5, "calm", "(II)I"⟩
abbrev cX5_isThought : ByteArray := prog_7_method_53_code
def yX5_isThought : MethodName := ⟨RX5, "isThought", "(I)Z"⟩
abbrev cX5_heightFor : ByteArray := prog_7_method_54_code
def yX5_heightFor : MethodName := ⟨RX5, "heightFor", "(II)I"⟩
abbrev cX5_bestFor : ByteArray := prog_7_method_55_code
def yX5_bestFor : MethodName := ⟨RX5, "bestFor", "(IIII)I"⟩
abbrev cX5_spreadFor : ByteArray := prog_7_method_56_code
def yX5_spreadFor : MethodName := ⟨RX5, "spreadFor", "(II)I"⟩
abbrev cX5_kindFor : ByteArray := prog_7_method_57_code
def yX5_kindFor : MethodName := ⟨RX5, "kindFor", "(II)I"⟩
abbrev cX5_causeFor : ByteArray := prog_7_method_58_code
def yX5_causeFor : MethodName := ⟨RX5, "causeFor", "(III)I"⟩
abbrev cX5_against : ByteArray := prog_7_method_59_code
def yX5_against : MethodName := ⟨RX5, "against", "(II)I"⟩
abbrev cX5_isWithout : ByteArray := prog_7_method_60_code
def yX5_isWithout : MethodName := ⟨RX5, "isWithout", "(III)Z"⟩
abbrev cX5_silence : ByteArray := prog_7_method_61_code
def yX5_silence : MethodName := ⟨RX5, "silence", "(II)I"⟩
abbrev cX5_lacks : ByteArray := prog_7_method_62_code
def yX5_lacks : MethodName := ⟨RX5, "lacks", "(IZ)I"⟩
abbrev cX5_isWrongSo : ByteArray := prog_7_method_63_code
def yX5_isWrongSo : MethodName := ⟨RX5, "isWrongSo", "(II)Z"⟩
abbrev cX5_findHeights : ByteArray := prog_7_method_64_code
def yX5_findHeights : MethodName := ⟨RX5, "findHeights", "(II)V"⟩
abbrev cX5_fits : ByteArray := prog_7_method_65_code
def yX5_fits : MethodName := ⟨RX5, "fits", "(II)I"⟩
abbrev cX5_height : ByteArray := prog_7_method_66_code
def yX5_height : MethodName := ⟨RX5, "height", "(II)I"⟩
abbrev cX5_kinds : ByteArray := prog_7_method_67_code
def yX5_kinds : MethodName := ⟨RX5, "kinds", "(II)I"⟩
abbrev cX5_drawn : ByteArray := prog_7_method_68_code
def yX5_drawn : MethodName := ⟨RX5, "drawn", "()I"⟩
abbrev cX5_toss : ByteArray := prog_7_method_69_code
def yX5_toss : MethodName := ⟨RX5, "toss", "(I)I"⟩
abbrev cX5_odds : ByteArray := prog_7_method_70_code
def yX5_odds : MethodName := ⟨RX5, "odds", "(IIII)J"⟩
abbrev cX5_seed : ByteArray := prog_7_method_71_code
def yX5_seed : MethodName := ⟨RX5, "seed", "(I)I"⟩
abbrev cX5_feed : ByteArray := prog_7_method_72_code
def yX5_feed : MethodName := ⟨RX5, "feed", "(II)I"⟩
abbrev cX5_wipe : ByteArray := prog_7_method_73_code
def yX5_wipe : MethodName := ⟨RX5, "wipe", "()I"⟩
abbrev cX5_byteAt : ByteArray := prog_7_method_74_code
def yX5_byteAt : MethodName := ⟨RX5, "byteAt", "(I)I"⟩
abbrev cX5_token : ByteArray := prog_7_method_75_code
def yX5_token : MethodName := ⟨RX5, "token", "()V"⟩
abbrev cX5_isWord : ByteArray := prog_7_method_76_code
def yX5_isWord : MethodName := ⟨RX5, "isWord", "(Ljava/lang/String;)Z"⟩
abbrev cX5_must : ByteArray := prog_7_method_77_code
def yX5_must : MethodName := ⟨RX5, "must", "(Z)V"⟩
abbrev cX5_number : ByteArray := prog_7_method_78_code
def yX5_number : MethodName := ⟨RX5, "number", "(II)I"⟩
abbrev cX5_addItem : ByteArray := prog_7_method_79_code
def yX5_addItem : MethodName := ⟨RX5, "addItem", "(IIII)V"⟩
abbrev cX5_takesWord : ByteArray := prog_7_method_80_code
def yX5_takesWord : MethodName := ⟨RX5, "takesWord", "(Ljava/lang/String;)Z"⟩
abbrev cX5_readDisputant : ByteArray := prog_7_method_81_code
def yX5_readDisputant : MethodName := ⟨RX5, "readDisputant", "(I)V"⟩
abbrev cX5_readDispute : ByteArray := prog_7_method_82_code
def yX5_readDispute : MethodName := ⟨RX5, "readDispute", "()V"⟩
abbrev cX5_readItem : ByteArray := prog_7_method_83_code
def yX5_readItem : MethodName := ⟨RX5, "readItem", "()V"⟩
abbrev cX5_isToldSo : ByteArray := prog_7_method_84_code
def yX5_isToldSo : MethodName := ⟨RX5, "isToldSo", "(I)V"⟩
abbrev cX5_text : ByteArray := prog_7_method_85_code
def yX5_text : MethodName := ⟨RX5, "text", "()I"⟩
abbrev cX5_isSpot : ByteArray := prog_7_method_86_code
def yX5_isSpot : MethodName := ⟨RX5, "isSpot", "(I)Z"⟩
abbrev cX5_hold : ByteArray := prog_7_method_87_code
def yX5_hold : MethodName := ⟨RX5, "hold", "(II)I"⟩
abbrev cX5_as : ByteArray := prog_7_method_88_code
def yX5_as : MethodName := ⟨RX5, "as", "(II)I"⟩
abbrev cX5_isSheet : ByteArray := prog_7_method_89_code
def yX5_isSheet : MethodName := ⟨RX5, "isSheet", "(I)Z"⟩
abbrev cX5_cutTo : ByteArray := prog_7_method_90_code
def yX5_cutTo : MethodName := ⟨RX5, "cutTo", "(II)I"⟩
abbrev cX5_sheet : ByteArray := prog_7_method_91_code
def yX5_sheet : MethodName := ⟨RX5, "sheet", "(III)I"⟩
abbrev cX5_write : ByteArray := prog_7_method_92_code
def yX5_write : MethodName := ⟨RX5, "write", "(III)I"⟩
abbrev cX5_copy : ByteArray := prog_7_method_93_code
def yX5_copy : MethodName := ⟨RX5, "copy", "(IIIII)I"⟩
abbrev cX5_above : ByteArray := prog_7_method_94_code
def yX5_above : MethodName := ⟨RX5, "above", "(I)I"⟩
abbrev cX5_isUnder : ByteArray := prog_7_method_95_code
def yX5_isUnder : MethodName := ⟨RX5, "isUnder", "(II)Z"⟩
abbrev cX5_load : ByteArray := prog_7_method_96_code
def yX5_load : MethodName := ⟨RX5, "load", "(I)I"⟩
abbrev cX5_judge : ByteArray := prog_7_method_97_code
def yX5_judge : MethodName := ⟨RX5, "judge", "(I)I"⟩
abbrev cX5_image : ByteArray := prog_7_method_98_code
def yX5_image : MethodName := ⟨RX5, "image", "()I"⟩
abbrev cX5_undo : ByteArray := prog_7_method_99_code
def yX5_undo : MethodName := ⟨RX5, "undo", "()I"⟩
abbrev cX5_tear : ByteArray := prog_7_method_100_code
def yX5_tear : MethodName := ⟨RX5, "tear", "()I"⟩
abbrev cX5_count : ByteArray := prog_7_method_101_code
def yX5_count : MethodName := ⟨RX5, "count", "(I)I"⟩
abbrev cX5_status : ByteArray := prog_7_method_102_code
def yX5_status : MethodName := ⟨RX5, "status", "(I)I"⟩
def RJ6 : String := "java/lang/Integer"
def TJ6 : u_T := fun k => match k with
  | _ => ("", "", "", false)
def tyJ6 : Nat → FieldType := fun k => match k with
  | _ => .int
theorem nmJ6 : ∀ a, a < 0 → ∀ b, b < 0 → a ≠ b → (TJ6 a).2.1 ≠ (TJ6 b).2.1 := by decide +kernel
theorem tyJ6_ok : ∀ k, k < 0 → parseFieldDescriptor (TJ6 k).2.2.1 = some (tyJ6 k) := by decide +kernel
abbrev cJ6_bitCount_0f7a4 : ByteArray := prog_8_method_49_code
def yJ6_bitCount_0f7a4 : MethodName := ⟨RJ6, "bitCount", "(I)I"⟩
def RJ9 : String := "java/lang/Math"
def TJ9 : u_T := fun k => match k with
  | _ => ("", "", "", false)
def tyJ9 : Nat → FieldType := fun k => match k with
  | _ => .int
theorem nmJ9 : ∀ a, a < 0 → ∀ b, b < 0 → a ≠ b → (TJ9 a).2.1 ≠ (TJ9 b).2.1 := by decide +kernel
theorem tyJ9_ok : ∀ k, k < 0 → parseFieldDescriptor (TJ9 k).2.2.1 = some (tyJ9 k) := by decide +kernel
abbrev cJ9_max_7cf53 : ByteArray := prog_9_method_65_code
def yJ9_max_7cf53 : MethodName := ⟨RJ9, "max", "(II)I"⟩
abbrev cJ9_min_7cf53 : ByteArray := prog_9_method_69_code
def yJ9_min_7cf53 : MethodName := ⟨RJ9, "min", "(II)I"⟩
def RJ0 : String := "java/lang/String"
def TJ0 : u_T := fun k => match k with
  | _ => ("", "", "", false)
def tyJ0 : Nat → FieldType := fun k => match k with
  | _ => .int
theorem nmJ0 : ∀ a, a < 0 → ∀ b, b < 0 → a ≠ b → (TJ0 a).2.1 ≠ (TJ0 b).2.1 := by decide +kernel
theorem tyJ0_ok : ∀ k, k < 0 → parseFieldDescriptor (TJ0 k).2.2.1 = some (tyJ0 k) := by decide +kernel
abbrev cJ0_length_8abf5 : ByteArray := prog_10_method_54_code
def yJ0_length_8abf5 : MethodName := ⟨RJ0, "length", "()I"⟩
abbrev cJ0_charAt_5068e : ByteArray := prog_10_method_56_code
def yJ0_charAt_5068e : MethodName := ⟨RJ0, "charAt", "(I)C"⟩
abbrev cJ0_coder_7d493 : ByteArray := prog_10_method_152_code
def yJ0_coder_7d493 : MethodName := ⟨RJ0, "coder", "()B"⟩
abbrev cJ0_isLatin1_aae02 : ByteArray := prog_10_method_154_code
def yJ0_isLatin1_aae02 : MethodName := ⟨RJ0, "isLatin1", "()Z"⟩
abbrev cJ0_checkIndex_df160 : ByteArray := prog_10_method_155_code
def yJ0_checkIndex_df160 : MethodName := ⟨RJ0, "checkIndex", "(II)V"⟩
def RJ1 : String := "java/lang/StringLatin1"
def TJ1 : u_T := fun k => match k with
  | _ => ("", "", "", false)
def tyJ1 : Nat → FieldType := fun k => match k with
  | _ => .int
theorem nmJ1 : ∀ a, a < 0 → ∀ b, b < 0 → a ≠ b → (TJ1 a).2.1 ≠ (TJ1 b).2.1 := by decide +kernel
theorem tyJ1_ok : ∀ k, k < 0 → parseFieldDescriptor (TJ1 k).2.2.1 = some (tyJ1 k) := by decide +kernel
abbrev cJ1_charAt_3b067 : ByteArray := prog_11_method_2_code
def yJ1_charAt_3b067 : MethodName := ⟨RJ1, "charAt", "([BI)C"⟩
def RJ2 : String := "java/lang/StringUTF16"
def TJ2 : u_T := fun k => match k with
  | _ => ("", "", "", false)
def tyJ2 : Nat → FieldType := fun k => match k with
  | _ => .int
theorem nmJ2 : ∀ a, a < 0 → ∀ b, b < 0 → a ≠ b → (TJ2 a).2.1 ≠ (TJ2 b).2.1 := by decide +kernel
theorem tyJ2_ok : ∀ k, k < 0 → parseFieldDescriptor (TJ2 k).2.2.1 = some (tyJ2 k) := by decide +kernel
abbrev cJ2_getChar_3b067 : ByteArray := prog_12_method_5_code
def yJ2_getChar_3b067 : MethodName := ⟨RJ2, "getChar", "([BI)C"⟩
abbrev cJ2_length_9d52b : ByteArray := prog_12_method_6_code
def yJ2_length_9d52b : MethodName := ⟨RJ2, "length", "([B)I"⟩
abbrev cJ2_charAt_3b067 : ByteArray := prog_12_method_83_code
def yJ2_charAt_3b067 : MethodName := ⟨RJ2, "charAt", "([BI)C"⟩
abbrev cJ2_checkIndex_2214a : ByteArray := prog_12_method_91_code
def yJ2_checkIndex_2214a : MethodName := ⟨RJ2, "checkIndex", "(I[B)V"⟩
def RJ10 : String := "java/lang/System"
def TJ10 : u_T := fun k => match k with
  | _ => ("", "", "", false)
def tyJ10 : Nat → FieldType := fun k => match k with
  | _ => .int
theorem nmJ10 : ∀ a, a < 0 → ∀ b, b < 0 → a ≠ b → (TJ10 a).2.1 ≠ (TJ10 b).2.1 := by decide +kernel
theorem tyJ10_ok : ∀ k, k < 0 → parseFieldDescriptor (TJ10 k).2.2.1 = some (tyJ10 k) := by decide +kernel
def RJ3 : String := "jdk/internal/util/Preconditions"
def TJ3 : u_T := fun k => match k with
  | _ => ("", "", "", false)
def tyJ3 : Nat → FieldType := fun k => match k with
  | _ => .int
theorem nmJ3 : ∀ a, a < 0 → ∀ b, b < 0 → a ≠ b → (TJ3 a).2.1 ≠ (TJ3 b).2.1 := by decide +kernel
theorem tyJ3_ok : ∀ k, k < 0 → parseFieldDescriptor (TJ3 k).2.2.1 = some (tyJ3 k) := by decide +kernel
abbrev cJ3_checkIndex_8e157 : ByteArray := prog_14_method_11_code
def yJ3_checkIndex_8e157 : MethodName := ⟨RJ3, "checkIndex", "(IILjava/util/function/BiFunction;)I"⟩
def RL : String := "ToastCourtLaw"
def TW : List Cond := lw_tbl.filter goodWord
def isNest (w : Cond) : Bool := match w with
  | .fieldLinkNest _ _ _ _ _ _ => true
  | .methodLinkNest _ _ _ _ => true
  | _ => false
def NW : List Cond := lw_tbl.filter isNest
theorem q0 : (Jvm.Cond.initialized "ToastCourtLaw") ∈ TW := List.mem_filter.mpr ⟨List.mem_append_right _ (List.mem_of_getElem? (i := 0) (by decide +kernel)), rfl⟩
theorem q1 : (Jvm.Cond.initialized "ToastCourt") ∈ TW := List.mem_filter.mpr ⟨List.mem_append_right _ (List.mem_of_getElem? (i := 1) (by decide +kernel)), rfl⟩
theorem q2 : (Jvm.Cond.initialized "ToastCourt$Court") ∈ TW := List.mem_filter.mpr ⟨List.mem_append_right _ (List.mem_of_getElem? (i := 2) (by decide +kernel)), rfl⟩
theorem q3 : (Jvm.Cond.initialized "ToastCourt$Disputant") ∈ TW := List.mem_filter.mpr ⟨List.mem_append_right _ (List.mem_of_getElem? (i := 3) (by decide +kernel)), rfl⟩
theorem q4 : (Jvm.Cond.initialized "ToastCourt$Tape") ∈ TW := List.mem_filter.mpr ⟨List.mem_append_right _ (List.mem_of_getElem? (i := 4) (by decide +kernel)), rfl⟩
theorem q5 : (Jvm.Cond.initialized "ToastCourt$Sheet") ∈ TW := List.mem_filter.mpr ⟨List.mem_append_right _ (List.mem_of_getElem? (i := 5) (by decide +kernel)), rfl⟩
theorem q6 : (Jvm.Cond.initialized "ToastCourtModel") ∈ TW := List.mem_filter.mpr ⟨List.mem_append_right _ (List.mem_of_getElem? (i := 6) (by decide +kernel)), rfl⟩
theorem q7 : (Jvm.Cond.initialized "java/lang/Math") ∈ TW := List.mem_filter.mpr ⟨List.mem_append_right _ (List.mem_of_getElem? (i := 7) (by decide +kernel)), rfl⟩
theorem q8 : (Jvm.Cond.initialized "java/lang/System") ∈ TW := List.mem_filter.mpr ⟨List.mem_append_right _ (List.mem_of_getElem? (i := 8) (by decide +kernel)), rfl⟩
theorem q9 : (Jvm.Cond.initialized "java/lang/Integer") ∈ TW := List.mem_filter.mpr ⟨List.mem_append_right _ (List.mem_of_getElem? (i := 9) (by decide +kernel)), rfl⟩
theorem q10 : (Jvm.Cond.initialized "java/lang/String") ∈ TW := List.mem_filter.mpr ⟨List.mem_append_right _ (List.mem_of_getElem? (i := 10) (by decide +kernel)), rfl⟩
theorem q11 : (Jvm.Cond.initialized "java/lang/StringLatin1") ∈ TW := List.mem_filter.mpr ⟨List.mem_append_right _ (List.mem_of_getElem? (i := 11) (by decide +kernel)), rfl⟩
theorem q12 : (Jvm.Cond.initialized "jdk/internal/util/Preconditions") ∈ TW := List.mem_filter.mpr ⟨List.mem_append_right _ (List.mem_of_getElem? (i := 12) (by decide +kernel)), rfl⟩
theorem q13 : (Jvm.Cond.initialized "java/lang/StringUTF16") ∈ TW := List.mem_filter.mpr ⟨List.mem_append_right _ (List.mem_of_getElem? (i := 13) (by decide +kernel)), rfl⟩
theorem q14 : (Jvm.Cond.classLink "ToastCourtLaw" (7 : Nat) "ToastCourt") ∈ TW := List.mem_filter.mpr ⟨List.mem_append_right _ (List.mem_of_getElem? (i := 14) (by decide +kernel)), rfl⟩
theorem q15 : (Jvm.Cond.instantiable "ToastCourt" (7 : Nat)) ∈ TW := List.mem_filter.mpr ⟨List.mem_append_right _ (List.mem_of_getElem? (i := 15) (by decide +kernel)), rfl⟩
theorem q16 : (Jvm.Cond.methodLink "ToastCourtLaw" (9 : Nat) ({ cls := "ToastCourt", name := "<init>", desc := "()V" } : Jvm.MethodName)) ∈ TW := List.mem_filter.mpr ⟨List.mem_append_right _ (List.mem_of_getElem? (i := 16) (by decide +kernel)), rfl⟩
theorem q17 : (Jvm.Cond.instanceMethod ({ cls := "ToastCourt", name := "<init>", desc := "()V" } : Jvm.MethodName)) ∈ TW := List.mem_filter.mpr ⟨List.mem_append_right _ (List.mem_of_getElem? (i := 17) (by decide +kernel)), rfl⟩
theorem q18 : (Jvm.Cond.code ({ cls := "ToastCourt", name := "<init>", desc := "()V" } : Jvm.MethodName) prog_1_method_1_code (2 : Nat) (Option.none : Option Jvm.ClassFile.FieldType)) ∈ TW := List.mem_filter.mpr ⟨List.mem_append_right _ (List.mem_of_getElem? (i := 18) (by decide +kernel)), rfl⟩
theorem q19 : (Jvm.Cond.methodLink "ToastCourt" (3 : Nat) ({ cls := "java/lang/Object", name := "<init>", desc := "()V" } : Jvm.MethodName)) ∈ TW := List.mem_filter.mpr ⟨List.mem_append_right _ (List.mem_of_getElem? (i := 19) (by decide +kernel)), rfl⟩
theorem q20 : (Jvm.Cond.instanceMethod ({ cls := "java/lang/Object", name := "<init>", desc := "()V" } : Jvm.MethodName)) ∈ TW := List.mem_filter.mpr ⟨List.mem_append_right _ (List.mem_of_getElem? (i := 20) (by decide +kernel)), rfl⟩
theorem q21 : (Jvm.Cond.code ({ cls := "java/lang/Object", name := "<init>", desc := "()V" } : Jvm.MethodName) object_method_1_code (1 : Nat) (Option.none : Option Jvm.ClassFile.FieldType)) ∈ TW := List.mem_filter.mpr ⟨List.mem_append_right _ (List.mem_of_getElem? (i := 21) (by decide +kernel)), rfl⟩
theorem q22 : (Jvm.Cond.classLink "ToastCourt" (9 : Nat) "ToastCourt$Court") ∈ TW := List.mem_filter.mpr ⟨List.mem_append_right _ (List.mem_of_getElem? (i := 22) (by decide +kernel)), rfl⟩
theorem q23 : (Jvm.Cond.instantiable "ToastCourt$Court" (9 : Nat)) ∈ TW := List.mem_filter.mpr ⟨List.mem_append_right _ (List.mem_of_getElem? (i := 23) (by decide +kernel)), rfl⟩
theorem q24 : (Jvm.Cond.methodLinkNest "ToastCourt" (11 : Nat) ({ cls := "ToastCourt$Court", name := "<init>", desc := "()V" } : Jvm.MethodName) "ToastCourt") ∈ NW := List.mem_filter.mpr ⟨List.mem_append_right _ (List.mem_of_getElem? (i := 24) (by decide +kernel)), rfl⟩
theorem q25 : (Jvm.Cond.instanceMethod ({ cls := "ToastCourt$Court", name := "<init>", desc := "()V" } : Jvm.MethodName)) ∈ TW := List.mem_filter.mpr ⟨List.mem_append_right _ (List.mem_of_getElem? (i := 25) (by decide +kernel)), rfl⟩
theorem q26 : (Jvm.Cond.code ({ cls := "ToastCourt$Court", name := "<init>", desc := "()V" } : Jvm.MethodName) prog_2_method_1_code (2 : Nat) (Option.none : Option Jvm.ClassFile.FieldType)) ∈ TW := List.mem_filter.mpr ⟨List.mem_append_right _ (List.mem_of_getElem? (i := 26) (by decide +kernel)), rfl⟩
theorem q27 : (Jvm.Cond.methodLink "ToastCourt$Court" (3 : Nat) ({ cls := "java/lang/Object", name := "<init>", desc := "()V" } : Jvm.MethodName)) ∈ TW := List.mem_filter.mpr ⟨List.mem_append_right _ (List.mem_of_getElem? (i := 27) (by decide +kernel)), rfl⟩
theorem q28 : (Jvm.Cond.classLink "ToastCourt$Court" (37 : Nat) "ToastCourt$Disputant") ∈ TW := List.mem_filter.mpr ⟨List.mem_append_right _ (List.mem_of_getElem? (i := 28) (by decide +kernel)), rfl⟩
theorem q30 : (Jvm.Cond.instantiable "ToastCourt$Disputant" (6 : Nat)) ∈ TW := List.mem_filter.mpr ⟨List.mem_append_right _ (List.mem_of_getElem? (i := 30) (by decide +kernel)), rfl⟩
theorem q31 : (Jvm.Cond.methodLinkNest "ToastCourt$Court" (43 : Nat) ({ cls := "ToastCourt$Disputant", name := "<init>", desc := "()V" } : Jvm.MethodName) "ToastCourt") ∈ NW := List.mem_filter.mpr ⟨List.mem_append_right _ (List.mem_of_getElem? (i := 31) (by decide +kernel)), rfl⟩
theorem q32 : (Jvm.Cond.instanceMethod ({ cls := "ToastCourt$Disputant", name := "<init>", desc := "()V" } : Jvm.MethodName)) ∈ TW := List.mem_filter.mpr ⟨List.mem_append_right _ (List.mem_of_getElem? (i := 32) (by decide +kernel)), rfl⟩
theorem q33 : (Jvm.Cond.code ({ cls := "ToastCourt$Disputant", name := "<init>", desc := "()V" } : Jvm.MethodName) prog_3_method_1_code (1 : Nat) (Option.none : Option Jvm.ClassFile.FieldType)) ∈ TW := List.mem_filter.mpr ⟨List.mem_append_right _ (List.mem_of_getElem? (i := 33) (by decide +kernel)), rfl⟩
theorem q34 : (Jvm.Cond.methodLink "ToastCourt$Disputant" (5 : Nat) ({ cls := "java/lang/Object", name := "<init>", desc := "()V" } : Jvm.MethodName)) ∈ TW := List.mem_filter.mpr ⟨List.mem_append_right _ (List.mem_of_getElem? (i := 34) (by decide +kernel)), rfl⟩
theorem q35 : (Jvm.Cond.fieldLink "ToastCourt$Disputant" (11 : Nat) "ToastCourt$Disputant" "kind" "I") ∈ TW := List.mem_filter.mpr ⟨List.mem_append_right _ (List.mem_of_getElem? (i := 35) (by decide +kernel)), rfl⟩
theorem q36 : (Jvm.Cond.fieldLinkNest "ToastCourt" (156 : Nat) "ToastCourt$Disputant" "kind" "I" "ToastCourt") ∈ NW := List.mem_filter.mpr ⟨List.mem_append_right _ (List.mem_of_getElem? (i := 36) (by decide +kernel)), rfl⟩
theorem q37 : (Jvm.Cond.fieldLink "ToastCourt$Disputant" (15 : Nat) "ToastCourt$Disputant" "cause" "I") ∈ TW := List.mem_filter.mpr ⟨List.mem_append_right _ (List.mem_of_getElem? (i := 37) (by decide +kernel)), rfl⟩
theorem q38 : (Jvm.Cond.fieldLinkNest "ToastCourt$Tape" (101 : Nat) "ToastCourt$Disputant" "cause" "I" "ToastCourt") ∈ NW := List.mem_filter.mpr ⟨List.mem_append_right _ (List.mem_of_getElem? (i := 38) (by decide +kernel)), rfl⟩
theorem q39 : (Jvm.Cond.fieldLinkNest "ToastCourt" (159 : Nat) "ToastCourt$Disputant" "cause" "I" "ToastCourt") ∈ NW := List.mem_filter.mpr ⟨List.mem_append_right _ (List.mem_of_getElem? (i := 39) (by decide +kernel)), rfl⟩
theorem q40 : (Jvm.Cond.fieldLink "ToastCourt$Disputant" (18 : Nat) "ToastCourt$Disputant" "temper" "I") ∈ TW := List.mem_filter.mpr ⟨List.mem_append_right _ (List.mem_of_getElem? (i := 40) (by decide +kernel)), rfl⟩
theorem q41 : (Jvm.Cond.fieldLinkNest "ToastCourt$Tape" (105 : Nat) "ToastCourt$Disputant" "temper" "I" "ToastCourt") ∈ NW := List.mem_filter.mpr ⟨List.mem_append_right _ (List.mem_of_getElem? (i := 41) (by decide +kernel)), rfl⟩
theorem q42 : (Jvm.Cond.fieldLinkNest "ToastCourt$Court" (110 : Nat) "ToastCourt$Disputant" "temper" "I" "ToastCourt") ∈ NW := List.mem_filter.mpr ⟨List.mem_append_right _ (List.mem_of_getElem? (i := 42) (by decide +kernel)), rfl⟩
theorem q43 : (Jvm.Cond.fieldLinkNest "ToastCourt" (147 : Nat) "ToastCourt$Disputant" "temper" "I" "ToastCourt") ∈ NW := List.mem_filter.mpr ⟨List.mem_append_right _ (List.mem_of_getElem? (i := 43) (by decide +kernel)), rfl⟩
theorem q44 : (Jvm.Cond.fieldLink "ToastCourt$Disputant" (21 : Nat) "ToastCourt$Disputant" "wrong" "I") ∈ TW := List.mem_filter.mpr ⟨List.mem_append_right _ (List.mem_of_getElem? (i := 44) (by decide +kernel)), rfl⟩
theorem q45 : (Jvm.Cond.fieldLinkNest "ToastCourt$Court" (107 : Nat) "ToastCourt$Disputant" "wrong" "I" "ToastCourt") ∈ NW := List.mem_filter.mpr ⟨List.mem_append_right _ (List.mem_of_getElem? (i := 45) (by decide +kernel)), rfl⟩
theorem q46 : (Jvm.Cond.fieldLinkNest "ToastCourt" (236 : Nat) "ToastCourt$Disputant" "wrong" "I" "ToastCourt") ∈ NW := List.mem_filter.mpr ⟨List.mem_append_right _ (List.mem_of_getElem? (i := 46) (by decide +kernel)), rfl⟩
theorem q47 : (Jvm.Cond.fieldLink "ToastCourt$Disputant" (24 : Nat) "ToastCourt$Disputant" "right" "I") ∈ TW := List.mem_filter.mpr ⟨List.mem_append_right _ (List.mem_of_getElem? (i := 47) (by decide +kernel)), rfl⟩
theorem q48 : (Jvm.Cond.fieldLinkNest "ToastCourt$Court" (113 : Nat) "ToastCourt$Disputant" "right" "I" "ToastCourt") ∈ NW := List.mem_filter.mpr ⟨List.mem_append_right _ (List.mem_of_getElem? (i := 48) (by decide +kernel)), rfl⟩
theorem q49 : (Jvm.Cond.fieldLinkNest "ToastCourt" (242 : Nat) "ToastCourt$Disputant" "right" "I" "ToastCourt") ∈ NW := List.mem_filter.mpr ⟨List.mem_append_right _ (List.mem_of_getElem? (i := 49) (by decide +kernel)), rfl⟩
theorem q50 : (Jvm.Cond.fieldLink "ToastCourt$Disputant" (27 : Nat) "ToastCourt$Disputant" "silent" "I") ∈ TW := List.mem_filter.mpr ⟨List.mem_append_right _ (List.mem_of_getElem? (i := 50) (by decide +kernel)), rfl⟩
theorem q51 : (Jvm.Cond.fieldLinkNest "ToastCourt$Tape" (109 : Nat) "ToastCourt$Disputant" "silent" "I" "ToastCourt") ∈ NW := List.mem_filter.mpr ⟨List.mem_append_right _ (List.mem_of_getElem? (i := 51) (by decide +kernel)), rfl⟩
theorem q52 : (Jvm.Cond.fieldLinkNest "ToastCourt$Court" (62 : Nat) "ToastCourt$Disputant" "silent" "I" "ToastCourt") ∈ NW := List.mem_filter.mpr ⟨List.mem_append_right _ (List.mem_of_getElem? (i := 52) (by decide +kernel)), rfl⟩
theorem q53 : (Jvm.Cond.lays "ToastCourt$Disputant" "ToastCourt$Disputant" "kind" "I") ∈ TW := List.mem_filter.mpr ⟨List.mem_append_right _ (List.mem_of_getElem? (i := 53) (by decide +kernel)), rfl⟩
theorem q55 : (Jvm.Cond.lays "ToastCourt$Disputant" "ToastCourt$Disputant" "cause" "I") ∈ TW := List.mem_filter.mpr ⟨List.mem_append_right _ (List.mem_of_getElem? (i := 55) (by decide +kernel)), rfl⟩
theorem q57 : (Jvm.Cond.lays "ToastCourt$Disputant" "ToastCourt$Disputant" "temper" "I") ∈ TW := List.mem_filter.mpr ⟨List.mem_append_right _ (List.mem_of_getElem? (i := 57) (by decide +kernel)), rfl⟩
theorem q59 : (Jvm.Cond.lays "ToastCourt$Disputant" "ToastCourt$Disputant" "wrong" "I") ∈ TW := List.mem_filter.mpr ⟨List.mem_append_right _ (List.mem_of_getElem? (i := 59) (by decide +kernel)), rfl⟩
theorem q61 : (Jvm.Cond.lays "ToastCourt$Disputant" "ToastCourt$Disputant" "right" "I") ∈ TW := List.mem_filter.mpr ⟨List.mem_append_right _ (List.mem_of_getElem? (i := 61) (by decide +kernel)), rfl⟩
theorem q63 : (Jvm.Cond.lays "ToastCourt$Disputant" "ToastCourt$Disputant" "silent" "I") ∈ TW := List.mem_filter.mpr ⟨List.mem_append_right _ (List.mem_of_getElem? (i := 63) (by decide +kernel)), rfl⟩
theorem q66 : (Jvm.Cond.arrayClass Jvm.ClassFile.FieldType.int) ∈ TW := List.mem_filter.mpr ⟨List.mem_append_right _ (List.mem_of_getElem? (i := 66) (by decide +kernel)), rfl⟩
theorem q67 : (Jvm.Cond.fieldLink "ToastCourt$Court" (9 : Nat) "ToastCourt$Court" "height" "I") ∈ TW := List.mem_filter.mpr ⟨List.mem_append_right _ (List.mem_of_getElem? (i := 67) (by decide +kernel)), rfl⟩
theorem q68 : (Jvm.Cond.fieldLinkNest "ToastCourt" (48 : Nat) "ToastCourt$Court" "height" "I" "ToastCourt") ∈ NW := List.mem_filter.mpr ⟨List.mem_append_right _ (List.mem_of_getElem? (i := 68) (by decide +kernel)), rfl⟩
theorem q69 : (Jvm.Cond.fieldLinkNest "ToastCourt$Tape" (114 : Nat) "ToastCourt$Court" "height" "I" "ToastCourt") ∈ NW := List.mem_filter.mpr ⟨List.mem_append_right _ (List.mem_of_getElem? (i := 69) (by decide +kernel)), rfl⟩
theorem q70 : (Jvm.Cond.fieldLink "ToastCourt$Court" (15 : Nat) "ToastCourt$Court" "spread" "I") ∈ TW := List.mem_filter.mpr ⟨List.mem_append_right _ (List.mem_of_getElem? (i := 70) (by decide +kernel)), rfl⟩
theorem q71 : (Jvm.Cond.fieldLinkNest "ToastCourt" (52 : Nat) "ToastCourt$Court" "spread" "I" "ToastCourt") ∈ NW := List.mem_filter.mpr ⟨List.mem_append_right _ (List.mem_of_getElem? (i := 71) (by decide +kernel)), rfl⟩
theorem q72 : (Jvm.Cond.fieldLinkNest "ToastCourt$Tape" (116 : Nat) "ToastCourt$Court" "spread" "I" "ToastCourt") ∈ NW := List.mem_filter.mpr ⟨List.mem_append_right _ (List.mem_of_getElem? (i := 72) (by decide +kernel)), rfl⟩
theorem q73 : (Jvm.Cond.fieldLink "ToastCourt$Court" (18 : Nat) "ToastCourt$Court" "edges" "I") ∈ TW := List.mem_filter.mpr ⟨List.mem_append_right _ (List.mem_of_getElem? (i := 73) (by decide +kernel)), rfl⟩
theorem q74 : (Jvm.Cond.fieldLinkNest "ToastCourt" (60 : Nat) "ToastCourt$Court" "edges" "I" "ToastCourt") ∈ NW := List.mem_filter.mpr ⟨List.mem_append_right _ (List.mem_of_getElem? (i := 74) (by decide +kernel)), rfl⟩
theorem q75 : (Jvm.Cond.fieldLink "ToastCourt$Court" (21 : Nat) "ToastCourt$Court" "drop" "I") ∈ TW := List.mem_filter.mpr ⟨List.mem_append_right _ (List.mem_of_getElem? (i := 75) (by decide +kernel)), rfl⟩
theorem q76 : (Jvm.Cond.fieldLinkNest "ToastCourt" (91 : Nat) "ToastCourt$Court" "drop" "I" "ToastCourt") ∈ NW := List.mem_filter.mpr ⟨List.mem_append_right _ (List.mem_of_getElem? (i := 76) (by decide +kernel)), rfl⟩
theorem q77 : (Jvm.Cond.fieldLink "ToastCourt$Court" (24 : Nat) "ToastCourt$Court" "z" "I") ∈ TW := List.mem_filter.mpr ⟨List.mem_append_right _ (List.mem_of_getElem? (i := 77) (by decide +kernel)), rfl⟩
theorem q78 : (Jvm.Cond.fieldLinkNest "ToastCourt" (187 : Nat) "ToastCourt$Court" "z" "I" "ToastCourt") ∈ NW := List.mem_filter.mpr ⟨List.mem_append_right _ (List.mem_of_getElem? (i := 78) (by decide +kernel)), rfl⟩
theorem q79 : (Jvm.Cond.fieldLink "ToastCourt$Court" (27 : Nat) "ToastCourt$Court" "list" "[I") ∈ TW := List.mem_filter.mpr ⟨List.mem_append_right _ (List.mem_of_getElem? (i := 79) (by decide +kernel)), rfl⟩
theorem q80 : (Jvm.Cond.fieldLinkNest "ToastCourt" (70 : Nat) "ToastCourt$Court" "list" "[I" "ToastCourt") ∈ NW := List.mem_filter.mpr ⟨List.mem_append_right _ (List.mem_of_getElem? (i := 80) (by decide +kernel)), rfl⟩
theorem q81 : (Jvm.Cond.fieldLinkNest "ToastCourt$Tape" (111 : Nat) "ToastCourt$Court" "list" "[I" "ToastCourt") ∈ NW := List.mem_filter.mpr ⟨List.mem_append_right _ (List.mem_of_getElem? (i := 81) (by decide +kernel)), rfl⟩
theorem q82 : (Jvm.Cond.fieldLink "ToastCourt$Court" (31 : Nat) "ToastCourt$Court" "spots" "[I") ∈ TW := List.mem_filter.mpr ⟨List.mem_append_right _ (List.mem_of_getElem? (i := 82) (by decide +kernel)), rfl⟩
theorem q83 : (Jvm.Cond.fieldLinkNest "ToastCourt" (198 : Nat) "ToastCourt$Court" "spots" "[I" "ToastCourt") ∈ NW := List.mem_filter.mpr ⟨List.mem_append_right _ (List.mem_of_getElem? (i := 83) (by decide +kernel)), rfl⟩
theorem q84 : (Jvm.Cond.fieldLink "ToastCourt$Court" (34 : Nat) "ToastCourt$Court" "size" "I") ∈ TW := List.mem_filter.mpr ⟨List.mem_append_right _ (List.mem_of_getElem? (i := 84) (by decide +kernel)), rfl⟩
theorem q85 : (Jvm.Cond.fieldLinkNest "ToastCourt" (162 : Nat) "ToastCourt$Court" "size" "I" "ToastCourt") ∈ NW := List.mem_filter.mpr ⟨List.mem_append_right _ (List.mem_of_getElem? (i := 85) (by decide +kernel)), rfl⟩
theorem q86 : (Jvm.Cond.fieldLink "ToastCourt$Court" (39 : Nat) "ToastCourt$Court" "all" "[LToastCourt$Disputant;") ∈ TW := List.mem_filter.mpr ⟨List.mem_append_right _ (List.mem_of_getElem? (i := 86) (by decide +kernel)), rfl⟩
theorem q87 : (Jvm.Cond.fieldLinkNest "ToastCourt$Tape" (87 : Nat) "ToastCourt$Court" "all" "[LToastCourt$Disputant;" "ToastCourt") ∈ NW := List.mem_filter.mpr ⟨List.mem_append_right _ (List.mem_of_getElem? (i := 87) (by decide +kernel)), rfl⟩
theorem q88 : (Jvm.Cond.fieldLinkNest "ToastCourt" (87 : Nat) "ToastCourt$Court" "all" "[LToastCourt$Disputant;" "ToastCourt") ∈ NW := List.mem_filter.mpr ⟨List.mem_append_right _ (List.mem_of_getElem? (i := 88) (by decide +kernel)), rfl⟩
theorem q89 : (Jvm.Cond.lays "ToastCourt$Court" "ToastCourt$Court" "height" "I") ∈ TW := List.mem_filter.mpr ⟨List.mem_append_right _ (List.mem_of_getElem? (i := 89) (by decide +kernel)), rfl⟩
theorem q91 : (Jvm.Cond.lays "ToastCourt$Court" "ToastCourt$Court" "spread" "I") ∈ TW := List.mem_filter.mpr ⟨List.mem_append_right _ (List.mem_of_getElem? (i := 91) (by decide +kernel)), rfl⟩
theorem q93 : (Jvm.Cond.lays "ToastCourt$Court" "ToastCourt$Court" "edges" "I") ∈ TW := List.mem_filter.mpr ⟨List.mem_append_right _ (List.mem_of_getElem? (i := 93) (by decide +kernel)), rfl⟩
theorem q95 : (Jvm.Cond.lays "ToastCourt$Court" "ToastCourt$Court" "drop" "I") ∈ TW := List.mem_filter.mpr ⟨List.mem_append_right _ (List.mem_of_getElem? (i := 95) (by decide +kernel)), rfl⟩
theorem q97 : (Jvm.Cond.lays "ToastCourt$Court" "ToastCourt$Court" "z" "I") ∈ TW := List.mem_filter.mpr ⟨List.mem_append_right _ (List.mem_of_getElem? (i := 97) (by decide +kernel)), rfl⟩
theorem q99 : (Jvm.Cond.laysFinal "ToastCourt$Court" "ToastCourt$Court" "list" "[I") ∈ TW := List.mem_filter.mpr ⟨List.mem_append_right _ (List.mem_of_getElem? (i := 99) (by decide +kernel)), rfl⟩
theorem q101 : (Jvm.Cond.laysFinal "ToastCourt$Court" "ToastCourt$Court" "spots" "[I") ∈ TW := List.mem_filter.mpr ⟨List.mem_append_right _ (List.mem_of_getElem? (i := 101) (by decide +kernel)), rfl⟩
theorem q103 : (Jvm.Cond.lays "ToastCourt$Court" "ToastCourt$Court" "size" "I") ∈ TW := List.mem_filter.mpr ⟨List.mem_append_right _ (List.mem_of_getElem? (i := 103) (by decide +kernel)), rfl⟩
theorem q105 : (Jvm.Cond.laysFinal "ToastCourt$Court" "ToastCourt$Court" "all" "[LToastCourt$Disputant;") ∈ TW := List.mem_filter.mpr ⟨List.mem_append_right _ (List.mem_of_getElem? (i := 105) (by decide +kernel)), rfl⟩
theorem q108 : (Jvm.Cond.classLink "ToastCourt" (26 : Nat) "ToastCourt$Tape") ∈ TW := List.mem_filter.mpr ⟨List.mem_append_right _ (List.mem_of_getElem? (i := 108) (by decide +kernel)), rfl⟩
theorem q109 : (Jvm.Cond.instantiable "ToastCourt$Tape" (6 : Nat)) ∈ TW := List.mem_filter.mpr ⟨List.mem_append_right _ (List.mem_of_getElem? (i := 109) (by decide +kernel)), rfl⟩
theorem q110 : (Jvm.Cond.methodLinkNest "ToastCourt" (28 : Nat) ({ cls := "ToastCourt$Tape", name := "<init>", desc := "()V" } : Jvm.MethodName) "ToastCourt") ∈ NW := List.mem_filter.mpr ⟨List.mem_append_right _ (List.mem_of_getElem? (i := 110) (by decide +kernel)), rfl⟩
theorem q111 : (Jvm.Cond.instanceMethod ({ cls := "ToastCourt$Tape", name := "<init>", desc := "()V" } : Jvm.MethodName)) ∈ TW := List.mem_filter.mpr ⟨List.mem_append_right _ (List.mem_of_getElem? (i := 111) (by decide +kernel)), rfl⟩
theorem q112 : (Jvm.Cond.code ({ cls := "ToastCourt$Tape", name := "<init>", desc := "()V" } : Jvm.MethodName) prog_5_method_1_code (1 : Nat) (Option.none : Option Jvm.ClassFile.FieldType)) ∈ TW := List.mem_filter.mpr ⟨List.mem_append_right _ (List.mem_of_getElem? (i := 112) (by decide +kernel)), rfl⟩
theorem q113 : (Jvm.Cond.methodLink "ToastCourt$Tape" (3 : Nat) ({ cls := "java/lang/Object", name := "<init>", desc := "()V" } : Jvm.MethodName)) ∈ TW := List.mem_filter.mpr ⟨List.mem_append_right _ (List.mem_of_getElem? (i := 113) (by decide +kernel)), rfl⟩
theorem q114 : (Jvm.Cond.fieldLink "ToastCourt$Tape" (9 : Nat) "ToastCourt$Tape" "bytes" "[I") ∈ TW := List.mem_filter.mpr ⟨List.mem_append_right _ (List.mem_of_getElem? (i := 114) (by decide +kernel)), rfl⟩
theorem q115 : (Jvm.Cond.fieldLink "ToastCourt$Tape" (15 : Nat) "ToastCourt$Tape" "size" "I") ∈ TW := List.mem_filter.mpr ⟨List.mem_append_right _ (List.mem_of_getElem? (i := 115) (by decide +kernel)), rfl⟩
theorem q116 : (Jvm.Cond.fieldLinkNest "ToastCourt" (190 : Nat) "ToastCourt$Tape" "size" "I" "ToastCourt") ∈ NW := List.mem_filter.mpr ⟨List.mem_append_right _ (List.mem_of_getElem? (i := 116) (by decide +kernel)), rfl⟩
theorem q117 : (Jvm.Cond.fieldLink "ToastCourt$Tape" (19 : Nat) "ToastCourt$Tape" "token" "I") ∈ TW := List.mem_filter.mpr ⟨List.mem_append_right _ (List.mem_of_getElem? (i := 117) (by decide +kernel)), rfl⟩
theorem q118 : (Jvm.Cond.fieldLink "ToastCourt$Tape" (22 : Nat) "ToastCourt$Tape" "at" "I") ∈ TW := List.mem_filter.mpr ⟨List.mem_append_right _ (List.mem_of_getElem? (i := 118) (by decide +kernel)), rfl⟩
theorem q119 : (Jvm.Cond.fieldLink "ToastCourt$Tape" (25 : Nat) "ToastCourt$Tape" "behind" "I") ∈ TW := List.mem_filter.mpr ⟨List.mem_append_right _ (List.mem_of_getElem? (i := 119) (by decide +kernel)), rfl⟩
theorem q120 : (Jvm.Cond.fieldLink "ToastCourt$Tape" (28 : Nat) "ToastCourt$Tape" "number" "I") ∈ TW := List.mem_filter.mpr ⟨List.mem_append_right _ (List.mem_of_getElem? (i := 120) (by decide +kernel)), rfl⟩
theorem q121 : (Jvm.Cond.laysFinal "ToastCourt$Tape" "ToastCourt$Tape" "bytes" "[I") ∈ TW := List.mem_filter.mpr ⟨List.mem_append_right _ (List.mem_of_getElem? (i := 121) (by decide +kernel)), rfl⟩
theorem q123 : (Jvm.Cond.lays "ToastCourt$Tape" "ToastCourt$Tape" "size" "I") ∈ TW := List.mem_filter.mpr ⟨List.mem_append_right _ (List.mem_of_getElem? (i := 123) (by decide +kernel)), rfl⟩
theorem q125 : (Jvm.Cond.lays "ToastCourt$Tape" "ToastCourt$Tape" "token" "I") ∈ TW := List.mem_filter.mpr ⟨List.mem_append_right _ (List.mem_of_getElem? (i := 125) (by decide +kernel)), rfl⟩
theorem q127 : (Jvm.Cond.lays "ToastCourt$Tape" "ToastCourt$Tape" "at" "I") ∈ TW := List.mem_filter.mpr ⟨List.mem_append_right _ (List.mem_of_getElem? (i := 127) (by decide +kernel)), rfl⟩
theorem q129 : (Jvm.Cond.lays "ToastCourt$Tape" "ToastCourt$Tape" "behind" "I") ∈ TW := List.mem_filter.mpr ⟨List.mem_append_right _ (List.mem_of_getElem? (i := 129) (by decide +kernel)), rfl⟩
theorem q131 : (Jvm.Cond.lays "ToastCourt$Tape" "ToastCourt$Tape" "number" "I") ∈ TW := List.mem_filter.mpr ⟨List.mem_append_right _ (List.mem_of_getElem? (i := 131) (by decide +kernel)), rfl⟩
theorem q134 : (Jvm.Cond.classLink "ToastCourt" (33 : Nat) "ToastCourt$Sheet") ∈ TW := List.mem_filter.mpr ⟨List.mem_append_right _ (List.mem_of_getElem? (i := 134) (by decide +kernel)), rfl⟩
theorem q136 : (Jvm.Cond.instantiable "ToastCourt$Sheet" (3 : Nat)) ∈ TW := List.mem_filter.mpr ⟨List.mem_append_right _ (List.mem_of_getElem? (i := 136) (by decide +kernel)), rfl⟩
theorem q137 : (Jvm.Cond.methodLinkNest "ToastCourt" (43 : Nat) ({ cls := "ToastCourt$Sheet", name := "<init>", desc := "()V" } : Jvm.MethodName) "ToastCourt") ∈ NW := List.mem_filter.mpr ⟨List.mem_append_right _ (List.mem_of_getElem? (i := 137) (by decide +kernel)), rfl⟩
theorem q138 : (Jvm.Cond.instanceMethod ({ cls := "ToastCourt$Sheet", name := "<init>", desc := "()V" } : Jvm.MethodName)) ∈ TW := List.mem_filter.mpr ⟨List.mem_append_right _ (List.mem_of_getElem? (i := 138) (by decide +kernel)), rfl⟩
theorem q139 : (Jvm.Cond.code ({ cls := "ToastCourt$Sheet", name := "<init>", desc := "()V" } : Jvm.MethodName) prog_4_method_1_code (1 : Nat) (Option.none : Option Jvm.ClassFile.FieldType)) ∈ TW := List.mem_filter.mpr ⟨List.mem_append_right _ (List.mem_of_getElem? (i := 139) (by decide +kernel)), rfl⟩
theorem q140 : (Jvm.Cond.methodLink "ToastCourt$Sheet" (3 : Nat) ({ cls := "java/lang/Object", name := "<init>", desc := "()V" } : Jvm.MethodName)) ∈ TW := List.mem_filter.mpr ⟨List.mem_append_right _ (List.mem_of_getElem? (i := 140) (by decide +kernel)), rfl⟩
theorem q141 : (Jvm.Cond.fieldLink "ToastCourt$Sheet" (9 : Nat) "ToastCourt$Sheet" "bits" "I") ∈ TW := List.mem_filter.mpr ⟨List.mem_append_right _ (List.mem_of_getElem? (i := 141) (by decide +kernel)), rfl⟩
theorem q142 : (Jvm.Cond.fieldLinkNest "ToastCourt" (221 : Nat) "ToastCourt$Sheet" "bits" "I" "ToastCourt") ∈ NW := List.mem_filter.mpr ⟨List.mem_append_right _ (List.mem_of_getElem? (i := 142) (by decide +kernel)), rfl⟩
theorem q143 : (Jvm.Cond.fieldLink "ToastCourt$Sheet" (15 : Nat) "ToastCourt$Sheet" "size" "I") ∈ TW := List.mem_filter.mpr ⟨List.mem_append_right _ (List.mem_of_getElem? (i := 143) (by decide +kernel)), rfl⟩
theorem q144 : (Jvm.Cond.fieldLinkNest "ToastCourt" (213 : Nat) "ToastCourt$Sheet" "size" "I" "ToastCourt") ∈ NW := List.mem_filter.mpr ⟨List.mem_append_right _ (List.mem_of_getElem? (i := 144) (by decide +kernel)), rfl⟩
theorem q145 : (Jvm.Cond.fieldLink "ToastCourt$Sheet" (18 : Nat) "ToastCourt$Sheet" "numbers" "[I") ∈ TW := List.mem_filter.mpr ⟨List.mem_append_right _ (List.mem_of_getElem? (i := 145) (by decide +kernel)), rfl⟩
theorem q146 : (Jvm.Cond.fieldLinkNest "ToastCourt" (227 : Nat) "ToastCourt$Sheet" "numbers" "[I" "ToastCourt") ∈ NW := List.mem_filter.mpr ⟨List.mem_append_right _ (List.mem_of_getElem? (i := 146) (by decide +kernel)), rfl⟩
theorem q147 : (Jvm.Cond.lays "ToastCourt$Sheet" "ToastCourt$Sheet" "bits" "I") ∈ TW := List.mem_filter.mpr ⟨List.mem_append_right _ (List.mem_of_getElem? (i := 147) (by decide +kernel)), rfl⟩
theorem q149 : (Jvm.Cond.lays "ToastCourt$Sheet" "ToastCourt$Sheet" "size" "I") ∈ TW := List.mem_filter.mpr ⟨List.mem_append_right _ (List.mem_of_getElem? (i := 149) (by decide +kernel)), rfl⟩
theorem q151 : (Jvm.Cond.laysFinal "ToastCourt$Sheet" "ToastCourt$Sheet" "numbers" "[I") ∈ TW := List.mem_filter.mpr ⟨List.mem_append_right _ (List.mem_of_getElem? (i := 151) (by decide +kernel)), rfl⟩
theorem q154 : (Jvm.Cond.fieldLink "ToastCourt" (12 : Nat) "ToastCourt" "real" "LToastCourt$Court;") ∈ TW := List.mem_filter.mpr ⟨List.mem_append_right _ (List.mem_of_getElem? (i := 154) (by decide +kernel)), rfl⟩
theorem q155 : (Jvm.Cond.fieldLink "ToastCourt" (16 : Nat) "ToastCourt" "trial" "LToastCourt$Court;") ∈ TW := List.mem_filter.mpr ⟨List.mem_append_right _ (List.mem_of_getElem? (i := 155) (by decide +kernel)), rfl⟩
theorem q156 : (Jvm.Cond.fieldLink "ToastCourt" (19 : Nat) "ToastCourt" "kept" "LToastCourt$Court;") ∈ TW := List.mem_filter.mpr ⟨List.mem_append_right _ (List.mem_of_getElem? (i := 156) (by decide +kernel)), rfl⟩
theorem q157 : (Jvm.Cond.fieldLink "ToastCourt" (22 : Nat) "ToastCourt" "isKept" "Z") ∈ TW := List.mem_filter.mpr ⟨List.mem_append_right _ (List.mem_of_getElem? (i := 157) (by decide +kernel)), rfl⟩
theorem q158 : (Jvm.Cond.fieldLink "ToastCourt" (29 : Nat) "ToastCourt" "tape" "LToastCourt$Tape;") ∈ TW := List.mem_filter.mpr ⟨List.mem_append_right _ (List.mem_of_getElem? (i := 158) (by decide +kernel)), rfl⟩
theorem q159 : (Jvm.Cond.fieldLink "ToastCourt" (35 : Nat) "ToastCourt" "sheets" "[LToastCourt$Sheet;") ∈ TW := List.mem_filter.mpr ⟨List.mem_append_right _ (List.mem_of_getElem? (i := 159) (by decide +kernel)), rfl⟩
theorem q160 : (Jvm.Cond.fieldLink "ToastCourt" (39 : Nat) "ToastCourt" "told" "[I") ∈ TW := List.mem_filter.mpr ⟨List.mem_append_right _ (List.mem_of_getElem? (i := 160) (by decide +kernel)), rfl⟩
theorem q161 : (Jvm.Cond.laysFinal "ToastCourt" "ToastCourt" "real" "LToastCourt$Court;") ∈ TW := List.mem_filter.mpr ⟨List.mem_append_right _ (List.mem_of_getElem? (i := 161) (by decide +kernel)), rfl⟩
theorem q163 : (Jvm.Cond.laysFinal "ToastCourt" "ToastCourt" "trial" "LToastCourt$Court;") ∈ TW := List.mem_filter.mpr ⟨List.mem_append_right _ (List.mem_of_getElem? (i := 163) (by decide +kernel)), rfl⟩
theorem q165 : (Jvm.Cond.laysFinal "ToastCourt" "ToastCourt" "kept" "LToastCourt$Court;") ∈ TW := List.mem_filter.mpr ⟨List.mem_append_right _ (List.mem_of_getElem? (i := 165) (by decide +kernel)), rfl⟩
theorem q167 : (Jvm.Cond.lays "ToastCourt" "ToastCourt" "isKept" "Z") ∈ TW := List.mem_filter.mpr ⟨List.mem_append_right _ (List.mem_of_getElem? (i := 167) (by decide +kernel)), rfl⟩
theorem q169 : (Jvm.Cond.laysFinal "ToastCourt" "ToastCourt" "tape" "LToastCourt$Tape;") ∈ TW := List.mem_filter.mpr ⟨List.mem_append_right _ (List.mem_of_getElem? (i := 169) (by decide +kernel)), rfl⟩
theorem q171 : (Jvm.Cond.laysFinal "ToastCourt" "ToastCourt" "sheets" "[LToastCourt$Sheet;") ∈ TW := List.mem_filter.mpr ⟨List.mem_append_right _ (List.mem_of_getElem? (i := 171) (by decide +kernel)), rfl⟩
theorem q173 : (Jvm.Cond.laysFinal "ToastCourt" "ToastCourt" "told" "[I") ∈ TW := List.mem_filter.mpr ⟨List.mem_append_right _ (List.mem_of_getElem? (i := 173) (by decide +kernel)), rfl⟩
theorem q176 : (Jvm.Cond.methodLink "ToastCourtLaw" (13 : Nat) ({ cls := "ToastCourt", name := "set", desc := "(II)I" } : Jvm.MethodName)) ∈ TW := List.mem_filter.mpr ⟨List.mem_append_right _ (List.mem_of_getElem? (i := 176) (by decide +kernel)), rfl⟩
theorem q177 : (Jvm.Cond.instanceMethod ({ cls := "ToastCourt", name := "set", desc := "(II)I" } : Jvm.MethodName)) ∈ TW := List.mem_filter.mpr ⟨List.mem_append_right _ (List.mem_of_getElem? (i := 177) (by decide +kernel)), rfl⟩
theorem q178 : (Jvm.Cond.selects "ToastCourt" ({ cls := "ToastCourt", name := "set", desc := "(II)I" } : Jvm.MethodName) ({ cls := "ToastCourt", name := "set", desc := "(II)I" } : Jvm.MethodName)) ∈ TW := List.mem_filter.mpr ⟨List.mem_append_right _ (List.mem_of_getElem? (i := 178) (by decide +kernel)), rfl⟩
theorem q179 : (Jvm.Cond.code ({ cls := "ToastCourt", name := "set", desc := "(II)I" } : Jvm.MethodName) prog_1_method_2_code (4 : Nat) (Option.some Jvm.ClassFile.FieldType.int)) ∈ TW := List.mem_filter.mpr ⟨List.mem_append_right _ (List.mem_of_getElem? (i := 179) (by decide +kernel)), rfl⟩
theorem q180 : (Jvm.Cond.methodLink "ToastCourt" (44 : Nat) ({ cls := "ToastCourt", name := "isWithin", desc := "(III)Z" } : Jvm.MethodName)) ∈ TW := List.mem_filter.mpr ⟨List.mem_append_right _ (List.mem_of_getElem? (i := 180) (by decide +kernel)), rfl⟩
theorem q181 : (Jvm.Cond.static ({ cls := "ToastCourt", name := "isWithin", desc := "(III)Z" } : Jvm.MethodName)) ∈ TW := List.mem_filter.mpr ⟨List.mem_append_right _ (List.mem_of_getElem? (i := 181) (by decide +kernel)), rfl⟩
theorem q182 : (Jvm.Cond.code ({ cls := "ToastCourt", name := "isWithin", desc := "(III)Z" } : Jvm.MethodName) prog_1_method_46_code (3 : Nat) (Option.some Jvm.ClassFile.FieldType.boolean)) ∈ TW := List.mem_filter.mpr ⟨List.mem_append_right _ (List.mem_of_getElem? (i := 182) (by decide +kernel)), rfl⟩
theorem q183 : (Jvm.Cond.constant "ToastCourt" (55 : Nat) (-1000001 : Int32)) ∈ TW := List.mem_filter.mpr ⟨List.mem_append_right _ (List.mem_of_getElem? (i := 183) (by decide +kernel)), rfl⟩
theorem q184 : (Jvm.Cond.methodLink "ToastCourt" (56 : Nat) ({ cls := "ToastCourt", name := "tell", desc := "(I)I" } : Jvm.MethodName)) ∈ TW := List.mem_filter.mpr ⟨List.mem_append_right _ (List.mem_of_getElem? (i := 184) (by decide +kernel)), rfl⟩
theorem q186 : (Jvm.Cond.instanceMethod ({ cls := "ToastCourt", name := "tell", desc := "(I)I" } : Jvm.MethodName)) ∈ TW := List.mem_filter.mpr ⟨List.mem_append_right _ (List.mem_of_getElem? (i := 186) (by decide +kernel)), rfl⟩
theorem q187 : (Jvm.Cond.code ({ cls := "ToastCourt", name := "tell", desc := "(I)I" } : Jvm.MethodName) prog_1_method_45_code (3 : Nat) (Option.some Jvm.ClassFile.FieldType.int)) ∈ TW := List.mem_filter.mpr ⟨List.mem_append_right _ (List.mem_of_getElem? (i := 187) (by decide +kernel)), rfl⟩
theorem q188 : (Jvm.Cond.methodLink "ToastCourtLaw" (18 : Nat) ({ cls := "ToastCourt", name := "court", desc := "(I)I" } : Jvm.MethodName)) ∈ TW := List.mem_filter.mpr ⟨List.mem_append_right _ (List.mem_of_getElem? (i := 188) (by decide +kernel)), rfl⟩
theorem q189 : (Jvm.Cond.instanceMethod ({ cls := "ToastCourt", name := "court", desc := "(I)I" } : Jvm.MethodName)) ∈ TW := List.mem_filter.mpr ⟨List.mem_append_right _ (List.mem_of_getElem? (i := 189) (by decide +kernel)), rfl⟩
theorem q190 : (Jvm.Cond.selects "ToastCourt" ({ cls := "ToastCourt", name := "court", desc := "(I)I" } : Jvm.MethodName) ({ cls := "ToastCourt", name := "court", desc := "(I)I" } : Jvm.MethodName)) ∈ TW := List.mem_filter.mpr ⟨List.mem_append_right _ (List.mem_of_getElem? (i := 190) (by decide +kernel)), rfl⟩
theorem q191 : (Jvm.Cond.code ({ cls := "ToastCourt", name := "court", desc := "(I)I" } : Jvm.MethodName) prog_1_method_3_code (2 : Nat) (Option.some Jvm.ClassFile.FieldType.int)) ∈ TW := List.mem_filter.mpr ⟨List.mem_append_right _ (List.mem_of_getElem? (i := 191) (by decide +kernel)), rfl⟩
theorem q192 : (Jvm.Cond.methodLink "ToastCourtLaw" (23 : Nat) ({ cls := "ToastCourt", name := "dispute", desc := "(III)I" } : Jvm.MethodName)) ∈ TW := List.mem_filter.mpr ⟨List.mem_append_right _ (List.mem_of_getElem? (i := 192) (by decide +kernel)), rfl⟩
theorem q193 : (Jvm.Cond.instanceMethod ({ cls := "ToastCourt", name := "dispute", desc := "(III)I" } : Jvm.MethodName)) ∈ TW := List.mem_filter.mpr ⟨List.mem_append_right _ (List.mem_of_getElem? (i := 193) (by decide +kernel)), rfl⟩
theorem q194 : (Jvm.Cond.selects "ToastCourt" ({ cls := "ToastCourt", name := "dispute", desc := "(III)I" } : Jvm.MethodName) ({ cls := "ToastCourt", name := "dispute", desc := "(III)I" } : Jvm.MethodName)) ∈ TW := List.mem_filter.mpr ⟨List.mem_append_right _ (List.mem_of_getElem? (i := 194) (by decide +kernel)), rfl⟩
theorem q195 : (Jvm.Cond.code ({ cls := "ToastCourt", name := "dispute", desc := "(III)I" } : Jvm.MethodName) prog_1_method_4_code (5 : Nat) (Option.some Jvm.ClassFile.FieldType.int)) ∈ TW := List.mem_filter.mpr ⟨List.mem_append_right _ (List.mem_of_getElem? (i := 195) (by decide +kernel)), rfl⟩
theorem q196 : (Jvm.Cond.methodLink "ToastCourt" (63 : Nat) ({ cls := "ToastCourt", name := "isPlace", desc := "(I)Z" } : Jvm.MethodName)) ∈ TW := List.mem_filter.mpr ⟨List.mem_append_right _ (List.mem_of_getElem? (i := 196) (by decide +kernel)), rfl⟩
theorem q197 : (Jvm.Cond.static ({ cls := "ToastCourt", name := "isPlace", desc := "(I)Z" } : Jvm.MethodName)) ∈ TW := List.mem_filter.mpr ⟨List.mem_append_right _ (List.mem_of_getElem? (i := 197) (by decide +kernel)), rfl⟩
theorem q198 : (Jvm.Cond.code ({ cls := "ToastCourt", name := "isPlace", desc := "(I)Z" } : Jvm.MethodName) prog_1_method_47_code (1 : Nat) (Option.some Jvm.ClassFile.FieldType.boolean)) ∈ TW := List.mem_filter.mpr ⟨List.mem_append_right _ (List.mem_of_getElem? (i := 198) (by decide +kernel)), rfl⟩
theorem q199 : (Jvm.Cond.methodLink "ToastCourt" (67 : Nat) ({ cls := "ToastCourt", name := "isParty", desc := "(I)Z" } : Jvm.MethodName)) ∈ TW := List.mem_filter.mpr ⟨List.mem_append_right _ (List.mem_of_getElem? (i := 199) (by decide +kernel)), rfl⟩
theorem q200 : (Jvm.Cond.static ({ cls := "ToastCourt", name := "isParty", desc := "(I)Z" } : Jvm.MethodName)) ∈ TW := List.mem_filter.mpr ⟨List.mem_append_right _ (List.mem_of_getElem? (i := 200) (by decide +kernel)), rfl⟩
theorem q201 : (Jvm.Cond.code ({ cls := "ToastCourt", name := "isParty", desc := "(I)Z" } : Jvm.MethodName) prog_1_method_48_code (1 : Nat) (Option.some Jvm.ClassFile.FieldType.boolean)) ∈ TW := List.mem_filter.mpr ⟨List.mem_append_right _ (List.mem_of_getElem? (i := 201) (by decide +kernel)), rfl⟩
theorem q202 : (Jvm.Cond.methodLink "ToastCourtLaw" (28 : Nat) ({ cls := "ToastCourt", name := "listed", desc := "(I)I" } : Jvm.MethodName)) ∈ TW := List.mem_filter.mpr ⟨List.mem_append_right _ (List.mem_of_getElem? (i := 202) (by decide +kernel)), rfl⟩
theorem q203 : (Jvm.Cond.instanceMethod ({ cls := "ToastCourt", name := "listed", desc := "(I)I" } : Jvm.MethodName)) ∈ TW := List.mem_filter.mpr ⟨List.mem_append_right _ (List.mem_of_getElem? (i := 203) (by decide +kernel)), rfl⟩
theorem q204 : (Jvm.Cond.selects "ToastCourt" ({ cls := "ToastCourt", name := "listed", desc := "(I)I" } : Jvm.MethodName) ({ cls := "ToastCourt", name := "listed", desc := "(I)I" } : Jvm.MethodName)) ∈ TW := List.mem_filter.mpr ⟨List.mem_append_right _ (List.mem_of_getElem? (i := 204) (by decide +kernel)), rfl⟩
theorem q205 : (Jvm.Cond.code ({ cls := "ToastCourt", name := "listed", desc := "(I)I" } : Jvm.MethodName) prog_1_method_5_code (2 : Nat) (Option.some Jvm.ClassFile.FieldType.int)) ∈ TW := List.mem_filter.mpr ⟨List.mem_append_right _ (List.mem_of_getElem? (i := 205) (by decide +kernel)), rfl⟩
theorem q206 : (Jvm.Cond.methodLink "ToastCourtLaw" (32 : Nat) ({ cls := "ToastCourt", name := "disputant", desc := "(II)I" } : Jvm.MethodName)) ∈ TW := List.mem_filter.mpr ⟨List.mem_append_right _ (List.mem_of_getElem? (i := 206) (by decide +kernel)), rfl⟩
theorem q207 : (Jvm.Cond.instanceMethod ({ cls := "ToastCourt", name := "disputant", desc := "(II)I" } : Jvm.MethodName)) ∈ TW := List.mem_filter.mpr ⟨List.mem_append_right _ (List.mem_of_getElem? (i := 207) (by decide +kernel)), rfl⟩
theorem q208 : (Jvm.Cond.selects "ToastCourt" ({ cls := "ToastCourt", name := "disputant", desc := "(II)I" } : Jvm.MethodName) ({ cls := "ToastCourt", name := "disputant", desc := "(II)I" } : Jvm.MethodName)) ∈ TW := List.mem_filter.mpr ⟨List.mem_append_right _ (List.mem_of_getElem? (i := 208) (by decide +kernel)), rfl⟩
theorem q209 : (Jvm.Cond.code ({ cls := "ToastCourt", name := "disputant", desc := "(II)I" } : Jvm.MethodName) prog_1_method_6_code (3 : Nat) (Option.some Jvm.ClassFile.FieldType.int)) ∈ TW := List.mem_filter.mpr ⟨List.mem_append_right _ (List.mem_of_getElem? (i := 209) (by decide +kernel)), rfl⟩
theorem q210 : (Jvm.Cond.methodLinkNest "ToastCourt" (73 : Nat) ({ cls := "ToastCourt$Court", name := "isFull", desc := "()Z" } : Jvm.MethodName) "ToastCourt") ∈ NW := List.mem_filter.mpr ⟨List.mem_append_right _ (List.mem_of_getElem? (i := 210) (by decide +kernel)), rfl⟩
theorem q212 : (Jvm.Cond.instanceMethod ({ cls := "ToastCourt$Court", name := "isFull", desc := "()Z" } : Jvm.MethodName)) ∈ TW := List.mem_filter.mpr ⟨List.mem_append_right _ (List.mem_of_getElem? (i := 212) (by decide +kernel)), rfl⟩
theorem q213 : (Jvm.Cond.code ({ cls := "ToastCourt$Court", name := "isFull", desc := "()Z" } : Jvm.MethodName) prog_2_method_5_code (1 : Nat) (Option.some Jvm.ClassFile.FieldType.boolean)) ∈ TW := List.mem_filter.mpr ⟨List.mem_append_right _ (List.mem_of_getElem? (i := 213) (by decide +kernel)), rfl⟩
theorem q214 : (Jvm.Cond.constant "ToastCourt" (77 : Nat) (-1000002 : Int32)) ∈ TW := List.mem_filter.mpr ⟨List.mem_append_right _ (List.mem_of_getElem? (i := 214) (by decide +kernel)), rfl⟩
theorem q215 : (Jvm.Cond.methodLinkNest "ToastCourt" (78 : Nat) ({ cls := "ToastCourt$Court", name := lw_nmA, desc := "(II)I" } : Jvm.MethodName) "ToastCourt") ∈ NW := List.mem_filter.mpr ⟨List.mem_append_right _ (List.mem_of_getElem? (i := 215) (by decide +kernel)), rfl⟩
theorem q217 : (Jvm.Cond.instanceMethod ({ cls := "ToastCourt$Court", name := lw_nmA, desc := "(II)I" } : Jvm.MethodName)) ∈ TW := List.mem_filter.mpr ⟨List.mem_append_right _ (List.mem_of_getElem? (i := 217) (by decide +kernel)), rfl⟩
theorem q218 : (Jvm.Cond.code ({ cls := "ToastCourt$Court", name := lw_nmA, desc := "(II)I" } : Jvm.MethodName) prog_2_method_6_code (3 : Nat) (Option.some Jvm.ClassFile.FieldType.int)) ∈ TW := List.mem_filter.mpr ⟨List.mem_append_right _ (List.mem_of_getElem? (i := 218) (by decide +kernel)), rfl⟩
theorem q219 : (Jvm.Cond.methodLinkNest "ToastCourt$Court" (58 : Nat) ({ cls := "ToastCourt$Disputant", name := "begin", desc := "(II)V" } : Jvm.MethodName) "ToastCourt") ∈ NW := List.mem_filter.mpr ⟨List.mem_append_right _ (List.mem_of_getElem? (i := 219) (by decide +kernel)), rfl⟩
theorem q221 : (Jvm.Cond.instanceMethod ({ cls := "ToastCourt$Disputant", name := "begin", desc := "(II)V" } : Jvm.MethodName)) ∈ TW := List.mem_filter.mpr ⟨List.mem_append_right _ (List.mem_of_getElem? (i := 221) (by decide +kernel)), rfl⟩
theorem q222 : (Jvm.Cond.code ({ cls := "ToastCourt$Disputant", name := "begin", desc := "(II)V" } : Jvm.MethodName) prog_3_method_2_code (3 : Nat) (Option.none : Option Jvm.ClassFile.FieldType)) ∈ TW := List.mem_filter.mpr ⟨List.mem_append_right _ (List.mem_of_getElem? (i := 222) (by decide +kernel)), rfl⟩
theorem q223 : (Jvm.Cond.methodLink "ToastCourtLaw" (36 : Nat) ({ cls := "ToastCourt", name := "of", desc := "(II)I" } : Jvm.MethodName)) ∈ TW := List.mem_filter.mpr ⟨List.mem_append_right _ (List.mem_of_getElem? (i := 223) (by decide +kernel)), rfl⟩
theorem q224 : (Jvm.Cond.instanceMethod ({ cls := "ToastCourt", name := "of", desc := "(II)I" } : Jvm.MethodName)) ∈ TW := List.mem_filter.mpr ⟨List.mem_append_right _ (List.mem_of_getElem? (i := 224) (by decide +kernel)), rfl⟩
theorem q225 : (Jvm.Cond.selects "ToastCourt" ({ cls := "ToastCourt", name := "of", desc := "(II)I" } : Jvm.MethodName) ({ cls := "ToastCourt", name := "of", desc := "(II)I" } : Jvm.MethodName)) ∈ TW := List.mem_filter.mpr ⟨List.mem_append_right _ (List.mem_of_getElem? (i := 225) (by decide +kernel)), rfl⟩
theorem q226 : (Jvm.Cond.code ({ cls := "ToastCourt", name := "of", desc := "(II)I" } : Jvm.MethodName) prog_1_method_7_code (3 : Nat) (Option.some Jvm.ClassFile.FieldType.int)) ∈ TW := List.mem_filter.mpr ⟨List.mem_append_right _ (List.mem_of_getElem? (i := 226) (by decide +kernel)), rfl⟩
theorem q227 : (Jvm.Cond.methodLinkNest "ToastCourt" (82 : Nat) ({ cls := "ToastCourt$Court", name := "has", desc := "(I)Z" } : Jvm.MethodName) "ToastCourt") ∈ NW := List.mem_filter.mpr ⟨List.mem_append_right _ (List.mem_of_getElem? (i := 227) (by decide +kernel)), rfl⟩
theorem q229 : (Jvm.Cond.instanceMethod ({ cls := "ToastCourt$Court", name := "has", desc := "(I)Z" } : Jvm.MethodName)) ∈ TW := List.mem_filter.mpr ⟨List.mem_append_right _ (List.mem_of_getElem? (i := 229) (by decide +kernel)), rfl⟩
theorem q230 : (Jvm.Cond.code ({ cls := "ToastCourt$Court", name := "has", desc := "(I)Z" } : Jvm.MethodName) prog_2_method_3_code (2 : Nat) (Option.some Jvm.ClassFile.FieldType.boolean)) ∈ TW := List.mem_filter.mpr ⟨List.mem_append_right _ (List.mem_of_getElem? (i := 230) (by decide +kernel)), rfl⟩
theorem q231 : (Jvm.Cond.methodLinkNest "ToastCourt" (94 : Nat) ({ cls := "ToastCourt$Disputant", name := "tells", desc := "(III)I" } : Jvm.MethodName) "ToastCourt") ∈ NW := List.mem_filter.mpr ⟨List.mem_append_right _ (List.mem_of_getElem? (i := 231) (by decide +kernel)), rfl⟩
theorem q233 : (Jvm.Cond.instanceMethod ({ cls := "ToastCourt$Disputant", name := "tells", desc := "(III)I" } : Jvm.MethodName)) ∈ TW := List.mem_filter.mpr ⟨List.mem_append_right _ (List.mem_of_getElem? (i := 233) (by decide +kernel)), rfl⟩
theorem q234 : (Jvm.Cond.code ({ cls := "ToastCourt$Disputant", name := "tells", desc := "(III)I" } : Jvm.MethodName) prog_3_method_6_code (4 : Nat) (Option.some Jvm.ClassFile.FieldType.int)) ∈ TW := List.mem_filter.mpr ⟨List.mem_append_right _ (List.mem_of_getElem? (i := 234) (by decide +kernel)), rfl⟩
theorem q235 : (Jvm.Cond.methodLink "ToastCourt$Disputant" (30 : Nat) ({ cls := "ToastCourt$Disputant", name := "presses", desc := "(I)I" } : Jvm.MethodName)) ∈ TW := List.mem_filter.mpr ⟨List.mem_append_right _ (List.mem_of_getElem? (i := 235) (by decide +kernel)), rfl⟩
theorem q237 : (Jvm.Cond.instanceMethod ({ cls := "ToastCourt$Disputant", name := "presses", desc := "(I)I" } : Jvm.MethodName)) ∈ TW := List.mem_filter.mpr ⟨List.mem_append_right _ (List.mem_of_getElem? (i := 237) (by decide +kernel)), rfl⟩
theorem q238 : (Jvm.Cond.code ({ cls := "ToastCourt$Disputant", name := "presses", desc := "(I)I" } : Jvm.MethodName) prog_3_method_8_code (2 : Nat) (Option.some Jvm.ClassFile.FieldType.int)) ∈ TW := List.mem_filter.mpr ⟨List.mem_append_right _ (List.mem_of_getElem? (i := 238) (by decide +kernel)), rfl⟩
theorem q239 : (Jvm.Cond.methodLink "ToastCourt$Disputant" (47 : Nat) ({ cls := "java/lang/Math", name := "max", desc := "(II)I" } : Jvm.MethodName)) ∈ TW := List.mem_filter.mpr ⟨List.mem_append_right _ (List.mem_of_getElem? (i := 239) (by decide +kernel)), rfl⟩
theorem q240 : (Jvm.Cond.static ({ cls := "java/lang/Math", name := "max", desc := "(II)I" } : Jvm.MethodName)) ∈ TW := List.mem_filter.mpr ⟨List.mem_append_right _ (List.mem_of_getElem? (i := 240) (by decide +kernel)), rfl⟩
theorem q241 : (Jvm.Cond.code ({ cls := "java/lang/Math", name := "max", desc := "(II)I" } : Jvm.MethodName) prog_9_method_65_code (2 : Nat) (Option.some Jvm.ClassFile.FieldType.int)) ∈ TW := List.mem_filter.mpr ⟨List.mem_append_right _ (List.mem_of_getElem? (i := 241) (by decide +kernel)), rfl⟩
theorem q242 : (Jvm.Cond.methodLink "ToastCourt$Disputant" (53 : Nat) ({ cls := "ToastCourt$Disputant", name := "pressesAsParson", desc := "(I)I" } : Jvm.MethodName)) ∈ TW := List.mem_filter.mpr ⟨List.mem_append_right _ (List.mem_of_getElem? (i := 242) (by decide +kernel)), rfl⟩
theorem q244 : (Jvm.Cond.instanceMethod ({ cls := "ToastCourt$Disputant", name := "pressesAsParson", desc := "(I)I" } : Jvm.MethodName)) ∈ TW := List.mem_filter.mpr ⟨List.mem_append_right _ (List.mem_of_getElem? (i := 244) (by decide +kernel)), rfl⟩
theorem q245 : (Jvm.Cond.code ({ cls := "ToastCourt$Disputant", name := "pressesAsParson", desc := "(I)I" } : Jvm.MethodName) prog_3_method_9_code (2 : Nat) (Option.some Jvm.ClassFile.FieldType.int)) ∈ TW := List.mem_filter.mpr ⟨List.mem_append_right _ (List.mem_of_getElem? (i := 245) (by decide +kernel)), rfl⟩
theorem q246 : (Jvm.Cond.methodLink "ToastCourt$Disputant" (56 : Nat) ({ cls := "java/lang/Math", name := "min", desc := "(II)I" } : Jvm.MethodName)) ∈ TW := List.mem_filter.mpr ⟨List.mem_append_right _ (List.mem_of_getElem? (i := 246) (by decide +kernel)), rfl⟩
theorem q247 : (Jvm.Cond.static ({ cls := "java/lang/Math", name := "min", desc := "(II)I" } : Jvm.MethodName)) ∈ TW := List.mem_filter.mpr ⟨List.mem_append_right _ (List.mem_of_getElem? (i := 247) (by decide +kernel)), rfl⟩
theorem q248 : (Jvm.Cond.code ({ cls := "java/lang/Math", name := "min", desc := "(II)I" } : Jvm.MethodName) prog_9_method_69_code (2 : Nat) (Option.some Jvm.ClassFile.FieldType.int)) ∈ TW := List.mem_filter.mpr ⟨List.mem_append_right _ (List.mem_of_getElem? (i := 248) (by decide +kernel)), rfl⟩
theorem q249 : (Jvm.Cond.methodLink "ToastCourt$Disputant" (34 : Nat) ({ cls := "ToastCourt$Disputant", name := "jolts", desc := "(I)I" } : Jvm.MethodName)) ∈ TW := List.mem_filter.mpr ⟨List.mem_append_right _ (List.mem_of_getElem? (i := 249) (by decide +kernel)), rfl⟩
theorem q251 : (Jvm.Cond.instanceMethod ({ cls := "ToastCourt$Disputant", name := "jolts", desc := "(I)I" } : Jvm.MethodName)) ∈ TW := List.mem_filter.mpr ⟨List.mem_append_right _ (List.mem_of_getElem? (i := 251) (by decide +kernel)), rfl⟩
theorem q252 : (Jvm.Cond.code ({ cls := "ToastCourt$Disputant", name := "jolts", desc := "(I)I" } : Jvm.MethodName) prog_3_method_10_code (2 : Nat) (Option.some Jvm.ClassFile.FieldType.int)) ∈ TW := List.mem_filter.mpr ⟨List.mem_append_right _ (List.mem_of_getElem? (i := 252) (by decide +kernel)), rfl⟩
theorem q253 : (Jvm.Cond.methodLink "ToastCourt$Disputant" (37 : Nat) ({ cls := "ToastCourt$Disputant", name := "grows", desc := "()I" } : Jvm.MethodName)) ∈ TW := List.mem_filter.mpr ⟨List.mem_append_right _ (List.mem_of_getElem? (i := 253) (by decide +kernel)), rfl⟩
theorem q255 : (Jvm.Cond.instanceMethod ({ cls := "ToastCourt$Disputant", name := "grows", desc := "()I" } : Jvm.MethodName)) ∈ TW := List.mem_filter.mpr ⟨List.mem_append_right _ (List.mem_of_getElem? (i := 255) (by decide +kernel)), rfl⟩
theorem q256 : (Jvm.Cond.code ({ cls := "ToastCourt$Disputant", name := "grows", desc := "()I" } : Jvm.MethodName) prog_3_method_11_code (1 : Nat) (Option.some Jvm.ClassFile.FieldType.int)) ∈ TW := List.mem_filter.mpr ⟨List.mem_append_right _ (List.mem_of_getElem? (i := 256) (by decide +kernel)), rfl⟩
theorem q257 : (Jvm.Cond.methodLink "ToastCourt$Disputant" (41 : Nat) ({ cls := "ToastCourt$Disputant", name := "learns", desc := "()I" } : Jvm.MethodName)) ∈ TW := List.mem_filter.mpr ⟨List.mem_append_right _ (List.mem_of_getElem? (i := 257) (by decide +kernel)), rfl⟩
theorem q259 : (Jvm.Cond.instanceMethod ({ cls := "ToastCourt$Disputant", name := "learns", desc := "()I" } : Jvm.MethodName)) ∈ TW := List.mem_filter.mpr ⟨List.mem_append_right _ (List.mem_of_getElem? (i := 259) (by decide +kernel)), rfl⟩
theorem q260 : (Jvm.Cond.code ({ cls := "ToastCourt$Disputant", name := "learns", desc := "()I" } : Jvm.MethodName) prog_3_method_12_code (1 : Nat) (Option.some Jvm.ClassFile.FieldType.int)) ∈ TW := List.mem_filter.mpr ⟨List.mem_append_right _ (List.mem_of_getElem? (i := 260) (by decide +kernel)), rfl⟩
theorem q261 : (Jvm.Cond.methodLink "ToastCourt$Disputant" (44 : Nat) ({ cls := "ToastCourt$Disputant", name := "cools", desc := "()I" } : Jvm.MethodName)) ∈ TW := List.mem_filter.mpr ⟨List.mem_append_right _ (List.mem_of_getElem? (i := 261) (by decide +kernel)), rfl⟩
theorem q263 : (Jvm.Cond.instanceMethod ({ cls := "ToastCourt$Disputant", name := "cools", desc := "()I" } : Jvm.MethodName)) ∈ TW := List.mem_filter.mpr ⟨List.mem_append_right _ (List.mem_of_getElem? (i := 263) (by decide +kernel)), rfl⟩
theorem q264 : (Jvm.Cond.code ({ cls := "ToastCourt$Disputant", name := "cools", desc := "()I" } : Jvm.MethodName) prog_3_method_13_code (1 : Nat) (Option.some Jvm.ClassFile.FieldType.int)) ∈ TW := List.mem_filter.mpr ⟨List.mem_append_right _ (List.mem_of_getElem? (i := 264) (by decide +kernel)), rfl⟩
theorem q265 : (Jvm.Cond.methodLink "ToastCourtLaw" (40 : Nat) ({ cls := "ToastCourt", name := "change", desc := "(III)I" } : Jvm.MethodName)) ∈ TW := List.mem_filter.mpr ⟨List.mem_append_right _ (List.mem_of_getElem? (i := 265) (by decide +kernel)), rfl⟩
theorem q266 : (Jvm.Cond.instanceMethod ({ cls := "ToastCourt", name := "change", desc := "(III)I" } : Jvm.MethodName)) ∈ TW := List.mem_filter.mpr ⟨List.mem_append_right _ (List.mem_of_getElem? (i := 266) (by decide +kernel)), rfl⟩
theorem q267 : (Jvm.Cond.selects "ToastCourt" ({ cls := "ToastCourt", name := "change", desc := "(III)I" } : Jvm.MethodName) ({ cls := "ToastCourt", name := "change", desc := "(III)I" } : Jvm.MethodName)) ∈ TW := List.mem_filter.mpr ⟨List.mem_append_right _ (List.mem_of_getElem? (i := 267) (by decide +kernel)), rfl⟩
theorem q268 : (Jvm.Cond.code ({ cls := "ToastCourt", name := "change", desc := "(III)I" } : Jvm.MethodName) prog_1_method_8_code (6 : Nat) (Option.some Jvm.ClassFile.FieldType.int)) ∈ TW := List.mem_filter.mpr ⟨List.mem_append_right _ (List.mem_of_getElem? (i := 268) (by decide +kernel)), rfl⟩
theorem q269 : (Jvm.Cond.methodLinkNest "ToastCourt" (98 : Nat) ({ cls := "ToastCourt$Disputant", name := "most", desc := "(I)I" } : Jvm.MethodName) "ToastCourt") ∈ NW := List.mem_filter.mpr ⟨List.mem_append_right _ (List.mem_of_getElem? (i := 269) (by decide +kernel)), rfl⟩
theorem q271 : (Jvm.Cond.instanceMethod ({ cls := "ToastCourt$Disputant", name := "most", desc := "(I)I" } : Jvm.MethodName)) ∈ TW := List.mem_filter.mpr ⟨List.mem_append_right _ (List.mem_of_getElem? (i := 271) (by decide +kernel)), rfl⟩
theorem q272 : (Jvm.Cond.code ({ cls := "ToastCourt$Disputant", name := "most", desc := "(I)I" } : Jvm.MethodName) prog_3_method_4_code (2 : Nat) (Option.some Jvm.ClassFile.FieldType.int)) ∈ TW := List.mem_filter.mpr ⟨List.mem_append_right _ (List.mem_of_getElem? (i := 272) (by decide +kernel)), rfl⟩
theorem q273 : (Jvm.Cond.methodLinkNest "ToastCourt" (101 : Nat) ({ cls := "ToastCourt$Disputant", name := "put", desc := "(II)V" } : Jvm.MethodName) "ToastCourt") ∈ NW := List.mem_filter.mpr ⟨List.mem_append_right _ (List.mem_of_getElem? (i := 273) (by decide +kernel)), rfl⟩
theorem q275 : (Jvm.Cond.instanceMethod ({ cls := "ToastCourt$Disputant", name := "put", desc := "(II)V" } : Jvm.MethodName)) ∈ TW := List.mem_filter.mpr ⟨List.mem_append_right _ (List.mem_of_getElem? (i := 275) (by decide +kernel)), rfl⟩
theorem q276 : (Jvm.Cond.code ({ cls := "ToastCourt$Disputant", name := "put", desc := "(II)V" } : Jvm.MethodName) prog_3_method_5_code (3 : Nat) (Option.none : Option Jvm.ClassFile.FieldType)) ∈ TW := List.mem_filter.mpr ⟨List.mem_append_right _ (List.mem_of_getElem? (i := 276) (by decide +kernel)), rfl⟩
theorem q277 : (Jvm.Cond.methodLink "ToastCourtLaw" (44 : Nat) ({ cls := "ToastCourt", name := "turning", desc := "(II)I" } : Jvm.MethodName)) ∈ TW := List.mem_filter.mpr ⟨List.mem_append_right _ (List.mem_of_getElem? (i := 277) (by decide +kernel)), rfl⟩
theorem q278 : (Jvm.Cond.instanceMethod ({ cls := "ToastCourt", name := "turning", desc := "(II)I" } : Jvm.MethodName)) ∈ TW := List.mem_filter.mpr ⟨List.mem_append_right _ (List.mem_of_getElem? (i := 278) (by decide +kernel)), rfl⟩
theorem q279 : (Jvm.Cond.selects "ToastCourt" ({ cls := "ToastCourt", name := "turning", desc := "(II)I" } : Jvm.MethodName) ({ cls := "ToastCourt", name := "turning", desc := "(II)I" } : Jvm.MethodName)) ∈ TW := List.mem_filter.mpr ⟨List.mem_append_right _ (List.mem_of_getElem? (i := 279) (by decide +kernel)), rfl⟩
theorem q280 : (Jvm.Cond.code ({ cls := "ToastCourt", name := "turning", desc := "(II)I" } : Jvm.MethodName) prog_1_method_9_code (3 : Nat) (Option.some Jvm.ClassFile.FieldType.int)) ∈ TW := List.mem_filter.mpr ⟨List.mem_append_right _ (List.mem_of_getElem? (i := 280) (by decide +kernel)), rfl⟩
theorem q281 : (Jvm.Cond.methodLinkNest "ToastCourt" (105 : Nat) ({ cls := "ToastCourt$Court", name := "areTwo", desc := "(II)Z" } : Jvm.MethodName) "ToastCourt") ∈ NW := List.mem_filter.mpr ⟨List.mem_append_right _ (List.mem_of_getElem? (i := 281) (by decide +kernel)), rfl⟩
theorem q283 : (Jvm.Cond.instanceMethod ({ cls := "ToastCourt$Court", name := "areTwo", desc := "(II)Z" } : Jvm.MethodName)) ∈ TW := List.mem_filter.mpr ⟨List.mem_append_right _ (List.mem_of_getElem? (i := 283) (by decide +kernel)), rfl⟩
theorem q284 : (Jvm.Cond.code ({ cls := "ToastCourt$Court", name := "areTwo", desc := "(II)Z" } : Jvm.MethodName) prog_2_method_4_code (3 : Nat) (Option.some Jvm.ClassFile.FieldType.boolean)) ∈ TW := List.mem_filter.mpr ⟨List.mem_append_right _ (List.mem_of_getElem? (i := 284) (by decide +kernel)), rfl⟩
theorem q285 : (Jvm.Cond.methodLink "ToastCourt$Court" (54 : Nat) ({ cls := "ToastCourt$Court", name := "has", desc := "(I)Z" } : Jvm.MethodName)) ∈ TW := List.mem_filter.mpr ⟨List.mem_append_right _ (List.mem_of_getElem? (i := 285) (by decide +kernel)), rfl⟩
theorem q286 : (Jvm.Cond.methodLinkNest "ToastCourt" (109 : Nat) ({ cls := "ToastCourt$Court", name := "turns", desc := "(III)I" } : Jvm.MethodName) "ToastCourt") ∈ NW := List.mem_filter.mpr ⟨List.mem_append_right _ (List.mem_of_getElem? (i := 286) (by decide +kernel)), rfl⟩
theorem q288 : (Jvm.Cond.instanceMethod ({ cls := "ToastCourt$Court", name := "turns", desc := "(III)I" } : Jvm.MethodName)) ∈ TW := List.mem_filter.mpr ⟨List.mem_append_right _ (List.mem_of_getElem? (i := 288) (by decide +kernel)), rfl⟩
theorem q289 : (Jvm.Cond.code ({ cls := "ToastCourt$Court", name := "turns", desc := "(III)I" } : Jvm.MethodName) prog_2_method_9_code (4 : Nat) (Option.some Jvm.ClassFile.FieldType.int)) ∈ TW := List.mem_filter.mpr ⟨List.mem_append_right _ (List.mem_of_getElem? (i := 289) (by decide +kernel)), rfl⟩
theorem q290 : (Jvm.Cond.methodLinkNest "ToastCourt$Court" (66 : Nat) ({ cls := "ToastCourt$Disputant", name := "jolts", desc := "(I)I" } : Jvm.MethodName) "ToastCourt") ∈ NW := List.mem_filter.mpr ⟨List.mem_append_right _ (List.mem_of_getElem? (i := 290) (by decide +kernel)), rfl⟩
theorem q291 : (Jvm.Cond.methodLink "ToastCourtLaw" (48 : Nat) ({ cls := "ToastCourt", name := "falls", desc := "(II)I" } : Jvm.MethodName)) ∈ TW := List.mem_filter.mpr ⟨List.mem_append_right _ (List.mem_of_getElem? (i := 291) (by decide +kernel)), rfl⟩
theorem q292 : (Jvm.Cond.instanceMethod ({ cls := "ToastCourt", name := "falls", desc := "(II)I" } : Jvm.MethodName)) ∈ TW := List.mem_filter.mpr ⟨List.mem_append_right _ (List.mem_of_getElem? (i := 292) (by decide +kernel)), rfl⟩
theorem q293 : (Jvm.Cond.selects "ToastCourt" ({ cls := "ToastCourt", name := "falls", desc := "(II)I" } : Jvm.MethodName) ({ cls := "ToastCourt", name := "falls", desc := "(II)I" } : Jvm.MethodName)) ∈ TW := List.mem_filter.mpr ⟨List.mem_append_right _ (List.mem_of_getElem? (i := 293) (by decide +kernel)), rfl⟩
theorem q294 : (Jvm.Cond.code ({ cls := "ToastCourt", name := "falls", desc := "(II)I" } : Jvm.MethodName) prog_1_method_10_code (4 : Nat) (Option.some Jvm.ClassFile.FieldType.int)) ∈ TW := List.mem_filter.mpr ⟨List.mem_append_right _ (List.mem_of_getElem? (i := 294) (by decide +kernel)), rfl⟩
theorem q295 : (Jvm.Cond.methodLinkNest "ToastCourt" (112 : Nat) ({ cls := "ToastCourt$Court", name := "loser", desc := "(III)I" } : Jvm.MethodName) "ToastCourt") ∈ NW := List.mem_filter.mpr ⟨List.mem_append_right _ (List.mem_of_getElem? (i := 295) (by decide +kernel)), rfl⟩
theorem q297 : (Jvm.Cond.instanceMethod ({ cls := "ToastCourt$Court", name := "loser", desc := "(III)I" } : Jvm.MethodName)) ∈ TW := List.mem_filter.mpr ⟨List.mem_append_right _ (List.mem_of_getElem? (i := 297) (by decide +kernel)), rfl⟩
theorem q298 : (Jvm.Cond.code ({ cls := "ToastCourt$Court", name := "loser", desc := "(III)I" } : Jvm.MethodName) prog_2_method_10_code (7 : Nat) (Option.some Jvm.ClassFile.FieldType.int)) ∈ TW := List.mem_filter.mpr ⟨List.mem_append_right _ (List.mem_of_getElem? (i := 298) (by decide +kernel)), rfl⟩
theorem q299 : (Jvm.Cond.methodLink "ToastCourt$Court" (70 : Nat) ({ cls := "ToastCourt$Court", name := "turns", desc := "(III)I" } : Jvm.MethodName)) ∈ TW := List.mem_filter.mpr ⟨List.mem_append_right _ (List.mem_of_getElem? (i := 299) (by decide +kernel)), rfl⟩
theorem q300 : (Jvm.Cond.methodLinkNest "ToastCourt$Court" (74 : Nat) ({ cls := "ToastCourt$Disputant", name := "presses", desc := "(I)I" } : Jvm.MethodName) "ToastCourt") ∈ NW := List.mem_filter.mpr ⟨List.mem_append_right _ (List.mem_of_getElem? (i := 300) (by decide +kernel)), rfl⟩
theorem q301 : (Jvm.Cond.constant "ToastCourt" (115 : Nat) (-1000004 : Int32)) ∈ TW := List.mem_filter.mpr ⟨List.mem_append_right _ (List.mem_of_getElem? (i := 301) (by decide +kernel)), rfl⟩
theorem q302 : (Jvm.Cond.methodLink "ToastCourtLaw" (52 : Nat) ({ cls := "ToastCourt", name := "go", desc := "(I)I" } : Jvm.MethodName)) ∈ TW := List.mem_filter.mpr ⟨List.mem_append_right _ (List.mem_of_getElem? (i := 302) (by decide +kernel)), rfl⟩
theorem q303 : (Jvm.Cond.instanceMethod ({ cls := "ToastCourt", name := "go", desc := "(I)I" } : Jvm.MethodName)) ∈ TW := List.mem_filter.mpr ⟨List.mem_append_right _ (List.mem_of_getElem? (i := 303) (by decide +kernel)), rfl⟩
theorem q304 : (Jvm.Cond.selects "ToastCourt" ({ cls := "ToastCourt", name := "go", desc := "(I)I" } : Jvm.MethodName) ({ cls := "ToastCourt", name := "go", desc := "(I)I" } : Jvm.MethodName)) ∈ TW := List.mem_filter.mpr ⟨List.mem_append_right _ (List.mem_of_getElem? (i := 304) (by decide +kernel)), rfl⟩
theorem q305 : (Jvm.Cond.code ({ cls := "ToastCourt", name := "go", desc := "(I)I" } : Jvm.MethodName) prog_1_method_11_code (3 : Nat) (Option.some Jvm.ClassFile.FieldType.int)) ∈ TW := List.mem_filter.mpr ⟨List.mem_append_right _ (List.mem_of_getElem? (i := 305) (by decide +kernel)), rfl⟩
theorem q306 : (Jvm.Cond.constant "ToastCourt" (116 : Nat) (99999 : Int32)) ∈ TW := List.mem_filter.mpr ⟨List.mem_append_right _ (List.mem_of_getElem? (i := 306) (by decide +kernel)), rfl⟩
theorem q307 : (Jvm.Cond.constant "ToastCourt" (117 : Nat) (-1000005 : Int32)) ∈ TW := List.mem_filter.mpr ⟨List.mem_append_right _ (List.mem_of_getElem? (i := 307) (by decide +kernel)), rfl⟩
theorem q308 : (Jvm.Cond.methodLinkNest "ToastCourt" (118 : Nat) ({ cls := "ToastCourt$Court", name := "dropOnce", desc := "()V" } : Jvm.MethodName) "ToastCourt") ∈ NW := List.mem_filter.mpr ⟨List.mem_append_right _ (List.mem_of_getElem? (i := 308) (by decide +kernel)), rfl⟩
theorem q310 : (Jvm.Cond.instanceMethod ({ cls := "ToastCourt$Court", name := "dropOnce", desc := "()V" } : Jvm.MethodName)) ∈ TW := List.mem_filter.mpr ⟨List.mem_append_right _ (List.mem_of_getElem? (i := 310) (by decide +kernel)), rfl⟩
theorem q311 : (Jvm.Cond.code ({ cls := "ToastCourt$Court", name := "dropOnce", desc := "()V" } : Jvm.MethodName) prog_2_method_12_code (2 : Nat) (Option.none : Option Jvm.ClassFile.FieldType)) ∈ TW := List.mem_filter.mpr ⟨List.mem_append_right _ (List.mem_of_getElem? (i := 311) (by decide +kernel)), rfl⟩
theorem q312 : (Jvm.Cond.methodLink "ToastCourt$Court" (81 : Nat) ({ cls := "ToastCourt$Court", name := "fallsOut", desc := "()Z" } : Jvm.MethodName)) ∈ TW := List.mem_filter.mpr ⟨List.mem_append_right _ (List.mem_of_getElem? (i := 312) (by decide +kernel)), rfl⟩
theorem q314 : (Jvm.Cond.instanceMethod ({ cls := "ToastCourt$Court", name := "fallsOut", desc := "()Z" } : Jvm.MethodName)) ∈ TW := List.mem_filter.mpr ⟨List.mem_append_right _ (List.mem_of_getElem? (i := 314) (by decide +kernel)), rfl⟩
theorem q315 : (Jvm.Cond.code ({ cls := "ToastCourt$Court", name := "fallsOut", desc := "()Z" } : Jvm.MethodName) prog_2_method_11_code (3 : Nat) (Option.some Jvm.ClassFile.FieldType.boolean)) ∈ TW := List.mem_filter.mpr ⟨List.mem_append_right _ (List.mem_of_getElem? (i := 315) (by decide +kernel)), rfl⟩
theorem q316 : (Jvm.Cond.methodLink "ToastCourt$Court" (77 : Nat) ({ cls := "ToastCourt$Court", name := "areTwo", desc := "(II)Z" } : Jvm.MethodName)) ∈ TW := List.mem_filter.mpr ⟨List.mem_append_right _ (List.mem_of_getElem? (i := 316) (by decide +kernel)), rfl⟩
theorem q317 : (Jvm.Cond.methodLink "ToastCourt$Court" (85 : Nat) ({ cls := "ToastCourt$Court", name := "letFall", desc := "(II)V" } : Jvm.MethodName)) ∈ TW := List.mem_filter.mpr ⟨List.mem_append_right _ (List.mem_of_getElem? (i := 317) (by decide +kernel)), rfl⟩
theorem q319 : (Jvm.Cond.instanceMethod ({ cls := "ToastCourt$Court", name := "letFall", desc := "(II)V" } : Jvm.MethodName)) ∈ TW := List.mem_filter.mpr ⟨List.mem_append_right _ (List.mem_of_getElem? (i := 319) (by decide +kernel)), rfl⟩
theorem q320 : (Jvm.Cond.code ({ cls := "ToastCourt$Court", name := "letFall", desc := "(II)V" } : Jvm.MethodName) prog_2_method_13_code (4 : Nat) (Option.none : Option Jvm.ClassFile.FieldType)) ∈ TW := List.mem_filter.mpr ⟨List.mem_append_right _ (List.mem_of_getElem? (i := 320) (by decide +kernel)), rfl⟩
theorem q321 : (Jvm.Cond.methodLink "ToastCourt$Court" (98 : Nat) ({ cls := "ToastCourt$Court", name := "loser", desc := "(III)I" } : Jvm.MethodName)) ∈ TW := List.mem_filter.mpr ⟨List.mem_append_right _ (List.mem_of_getElem? (i := 321) (by decide +kernel)), rfl⟩
theorem q322 : (Jvm.Cond.methodLink "ToastCourt$Court" (92 : Nat) ({ cls := "java/lang/Math", name := "min", desc := "(II)I" } : Jvm.MethodName)) ∈ TW := List.mem_filter.mpr ⟨List.mem_append_right _ (List.mem_of_getElem? (i := 322) (by decide +kernel)), rfl⟩
theorem q323 : (Jvm.Cond.methodLinkNest "ToastCourt$Court" (101 : Nat) ({ cls := "ToastCourt$Disputant", name := "isFoundWrong", desc := "()V" } : Jvm.MethodName) "ToastCourt") ∈ NW := List.mem_filter.mpr ⟨List.mem_append_right _ (List.mem_of_getElem? (i := 323) (by decide +kernel)), rfl⟩
theorem q325 : (Jvm.Cond.instanceMethod ({ cls := "ToastCourt$Disputant", name := "isFoundWrong", desc := "()V" } : Jvm.MethodName)) ∈ TW := List.mem_filter.mpr ⟨List.mem_append_right _ (List.mem_of_getElem? (i := 325) (by decide +kernel)), rfl⟩
theorem q326 : (Jvm.Cond.code ({ cls := "ToastCourt$Disputant", name := "isFoundWrong", desc := "()V" } : Jvm.MethodName) prog_3_method_14_code (1 : Nat) (Option.none : Option Jvm.ClassFile.FieldType)) ∈ TW := List.mem_filter.mpr ⟨List.mem_append_right _ (List.mem_of_getElem? (i := 326) (by decide +kernel)), rfl⟩
theorem q327 : (Jvm.Cond.methodLinkNest "ToastCourt$Court" (104 : Nat) ({ cls := "ToastCourt$Disputant", name := "isFoundRight", desc := "()V" } : Jvm.MethodName) "ToastCourt") ∈ NW := List.mem_filter.mpr ⟨List.mem_append_right _ (List.mem_of_getElem? (i := 327) (by decide +kernel)), rfl⟩
theorem q329 : (Jvm.Cond.instanceMethod ({ cls := "ToastCourt$Disputant", name := "isFoundRight", desc := "()V" } : Jvm.MethodName)) ∈ TW := List.mem_filter.mpr ⟨List.mem_append_right _ (List.mem_of_getElem? (i := 329) (by decide +kernel)), rfl⟩
theorem q330 : (Jvm.Cond.code ({ cls := "ToastCourt$Disputant", name := "isFoundRight", desc := "()V" } : Jvm.MethodName) prog_3_method_15_code (1 : Nat) (Option.none : Option Jvm.ClassFile.FieldType)) ∈ TW := List.mem_filter.mpr ⟨List.mem_append_right _ (List.mem_of_getElem? (i := 330) (by decide +kernel)), rfl⟩
theorem q331 : (Jvm.Cond.methodLinkNest "ToastCourt$Court" (88 : Nat) ({ cls := "ToastCourt$Disputant", name := "coolDown", desc := "()V" } : Jvm.MethodName) "ToastCourt") ∈ NW := List.mem_filter.mpr ⟨List.mem_append_right _ (List.mem_of_getElem? (i := 331) (by decide +kernel)), rfl⟩
theorem q333 : (Jvm.Cond.instanceMethod ({ cls := "ToastCourt$Disputant", name := "coolDown", desc := "()V" } : Jvm.MethodName)) ∈ TW := List.mem_filter.mpr ⟨List.mem_append_right _ (List.mem_of_getElem? (i := 333) (by decide +kernel)), rfl⟩
theorem q334 : (Jvm.Cond.code ({ cls := "ToastCourt$Disputant", name := "coolDown", desc := "()V" } : Jvm.MethodName) prog_3_method_16_code (1 : Nat) (Option.none : Option Jvm.ClassFile.FieldType)) ∈ TW := List.mem_filter.mpr ⟨List.mem_append_right _ (List.mem_of_getElem? (i := 334) (by decide +kernel)), rfl⟩
theorem q335 : (Jvm.Cond.constant "ToastCourt$Court" (91 : Nat) (99999 : Int32)) ∈ TW := List.mem_filter.mpr ⟨List.mem_append_right _ (List.mem_of_getElem? (i := 335) (by decide +kernel)), rfl⟩
theorem q336 : (Jvm.Cond.methodLinkNest "ToastCourt" (121 : Nat) ({ cls := "ToastCourt$Court", name := "wrongs", desc := "()I" } : Jvm.MethodName) "ToastCourt") ∈ NW := List.mem_filter.mpr ⟨List.mem_append_right _ (List.mem_of_getElem? (i := 336) (by decide +kernel)), rfl⟩
theorem q338 : (Jvm.Cond.instanceMethod ({ cls := "ToastCourt$Court", name := "wrongs", desc := "()I" } : Jvm.MethodName)) ∈ TW := List.mem_filter.mpr ⟨List.mem_append_right _ (List.mem_of_getElem? (i := 338) (by decide +kernel)), rfl⟩
theorem q339 : (Jvm.Cond.code ({ cls := "ToastCourt$Court", name := "wrongs", desc := "()I" } : Jvm.MethodName) prog_2_method_14_code (3 : Nat) (Option.some Jvm.ClassFile.FieldType.int)) ∈ TW := List.mem_filter.mpr ⟨List.mem_append_right _ (List.mem_of_getElem? (i := 339) (by decide +kernel)), rfl⟩
theorem q340 : (Jvm.Cond.methodLink "ToastCourtLaw" (56 : Nat) ({ cls := "ToastCourt", name := "now", desc := "(I)I" } : Jvm.MethodName)) ∈ TW := List.mem_filter.mpr ⟨List.mem_append_right _ (List.mem_of_getElem? (i := 340) (by decide +kernel)), rfl⟩
theorem q341 : (Jvm.Cond.instanceMethod ({ cls := "ToastCourt", name := "now", desc := "(I)I" } : Jvm.MethodName)) ∈ TW := List.mem_filter.mpr ⟨List.mem_append_right _ (List.mem_of_getElem? (i := 341) (by decide +kernel)), rfl⟩
theorem q342 : (Jvm.Cond.selects "ToastCourt" ({ cls := "ToastCourt", name := "now", desc := "(I)I" } : Jvm.MethodName) ({ cls := "ToastCourt", name := "now", desc := "(I)I" } : Jvm.MethodName)) ∈ TW := List.mem_filter.mpr ⟨List.mem_append_right _ (List.mem_of_getElem? (i := 342) (by decide +kernel)), rfl⟩
theorem q343 : (Jvm.Cond.code ({ cls := "ToastCourt", name := "now", desc := "(I)I" } : Jvm.MethodName) prog_1_method_12_code (2 : Nat) (Option.some Jvm.ClassFile.FieldType.int)) ∈ TW := List.mem_filter.mpr ⟨List.mem_append_right _ (List.mem_of_getElem? (i := 343) (by decide +kernel)), rfl⟩
theorem q344 : (Jvm.Cond.methodLinkNest "ToastCourt" (125 : Nat) ({ cls := "ToastCourt$Court", name := "moreWrong", desc := "()I" } : Jvm.MethodName) "ToastCourt") ∈ NW := List.mem_filter.mpr ⟨List.mem_append_right _ (List.mem_of_getElem? (i := 344) (by decide +kernel)), rfl⟩
theorem q346 : (Jvm.Cond.instanceMethod ({ cls := "ToastCourt$Court", name := "moreWrong", desc := "()I" } : Jvm.MethodName)) ∈ TW := List.mem_filter.mpr ⟨List.mem_append_right _ (List.mem_of_getElem? (i := 346) (by decide +kernel)), rfl⟩
theorem q347 : (Jvm.Cond.code ({ cls := "ToastCourt$Court", name := "moreWrong", desc := "()I" } : Jvm.MethodName) prog_2_method_16_code (3 : Nat) (Option.some Jvm.ClassFile.FieldType.int)) ∈ TW := List.mem_filter.mpr ⟨List.mem_append_right _ (List.mem_of_getElem? (i := 347) (by decide +kernel)), rfl⟩
theorem q348 : (Jvm.Cond.methodLinkNest "ToastCourt" (128 : Nat) ({ cls := "ToastCourt$Court", name := "tempers", desc := "()I" } : Jvm.MethodName) "ToastCourt") ∈ NW := List.mem_filter.mpr ⟨List.mem_append_right _ (List.mem_of_getElem? (i := 348) (by decide +kernel)), rfl⟩
theorem q350 : (Jvm.Cond.instanceMethod ({ cls := "ToastCourt$Court", name := "tempers", desc := "()I" } : Jvm.MethodName)) ∈ TW := List.mem_filter.mpr ⟨List.mem_append_right _ (List.mem_of_getElem? (i := 350) (by decide +kernel)), rfl⟩
theorem q351 : (Jvm.Cond.code ({ cls := "ToastCourt$Court", name := "tempers", desc := "()I" } : Jvm.MethodName) prog_2_method_15_code (3 : Nat) (Option.some Jvm.ClassFile.FieldType.int)) ∈ TW := List.mem_filter.mpr ⟨List.mem_append_right _ (List.mem_of_getElem? (i := 351) (by decide +kernel)), rfl⟩
theorem q352 : (Jvm.Cond.methodLinkNest "ToastCourt" (131 : Nat) ({ cls := "ToastCourt$Court", name := "loudest", desc := "()I" } : Jvm.MethodName) "ToastCourt") ∈ NW := List.mem_filter.mpr ⟨List.mem_append_right _ (List.mem_of_getElem? (i := 352) (by decide +kernel)), rfl⟩
theorem q354 : (Jvm.Cond.instanceMethod ({ cls := "ToastCourt$Court", name := "loudest", desc := "()I" } : Jvm.MethodName)) ∈ TW := List.mem_filter.mpr ⟨List.mem_append_right _ (List.mem_of_getElem? (i := 354) (by decide +kernel)), rfl⟩
theorem q355 : (Jvm.Cond.code ({ cls := "ToastCourt$Court", name := "loudest", desc := "()I" } : Jvm.MethodName) prog_2_method_18_code (5 : Nat) (Option.some Jvm.ClassFile.FieldType.int)) ∈ TW := List.mem_filter.mpr ⟨List.mem_append_right _ (List.mem_of_getElem? (i := 355) (by decide +kernel)), rfl⟩
theorem q356 : (Jvm.Cond.methodLinkNest "ToastCourt" (134 : Nat) ({ cls := "ToastCourt$Court", name := "silents", desc := "()I" } : Jvm.MethodName) "ToastCourt") ∈ NW := List.mem_filter.mpr ⟨List.mem_append_right _ (List.mem_of_getElem? (i := 356) (by decide +kernel)), rfl⟩
theorem q358 : (Jvm.Cond.instanceMethod ({ cls := "ToastCourt$Court", name := "silents", desc := "()I" } : Jvm.MethodName)) ∈ TW := List.mem_filter.mpr ⟨List.mem_append_right _ (List.mem_of_getElem? (i := 358) (by decide +kernel)), rfl⟩
theorem q359 : (Jvm.Cond.code ({ cls := "ToastCourt$Court", name := "silents", desc := "()I" } : Jvm.MethodName) prog_2_method_17_code (3 : Nat) (Option.some Jvm.ClassFile.FieldType.int)) ∈ TW := List.mem_filter.mpr ⟨List.mem_append_right _ (List.mem_of_getElem? (i := 359) (by decide +kernel)), rfl⟩
theorem q360 : (Jvm.Cond.methodLinkNest "ToastCourt" (137 : Nat) ({ cls := "ToastCourt$Court", name := "fallsOut", desc := "()Z" } : Jvm.MethodName) "ToastCourt") ∈ NW := List.mem_filter.mpr ⟨List.mem_append_right _ (List.mem_of_getElem? (i := 360) (by decide +kernel)), rfl⟩
theorem q361 : (Jvm.Cond.methodLink "ToastCourtLaw" (60 : Nat) ({ cls := "ToastCourt", name := "ahead", desc := "(III)I" } : Jvm.MethodName)) ∈ TW := List.mem_filter.mpr ⟨List.mem_append_right _ (List.mem_of_getElem? (i := 361) (by decide +kernel)), rfl⟩
theorem q362 : (Jvm.Cond.instanceMethod ({ cls := "ToastCourt", name := "ahead", desc := "(III)I" } : Jvm.MethodName)) ∈ TW := List.mem_filter.mpr ⟨List.mem_append_right _ (List.mem_of_getElem? (i := 362) (by decide +kernel)), rfl⟩
theorem q363 : (Jvm.Cond.selects "ToastCourt" ({ cls := "ToastCourt", name := "ahead", desc := "(III)I" } : Jvm.MethodName) ({ cls := "ToastCourt", name := "ahead", desc := "(III)I" } : Jvm.MethodName)) ∈ TW := List.mem_filter.mpr ⟨List.mem_append_right _ (List.mem_of_getElem? (i := 363) (by decide +kernel)), rfl⟩
theorem q364 : (Jvm.Cond.code ({ cls := "ToastCourt", name := "ahead", desc := "(III)I" } : Jvm.MethodName) prog_1_method_13_code (6 : Nat) (Option.some Jvm.ClassFile.FieldType.int)) ∈ TW := List.mem_filter.mpr ⟨List.mem_append_right _ (List.mem_of_getElem? (i := 364) (by decide +kernel)), rfl⟩
theorem q365 : (Jvm.Cond.methodLinkNest "ToastCourt" (140 : Nat) ({ cls := "ToastCourt$Court", name := "become", desc := "(LToastCourt$Court;)V" } : Jvm.MethodName) "ToastCourt") ∈ NW := List.mem_filter.mpr ⟨List.mem_append_right _ (List.mem_of_getElem? (i := 365) (by decide +kernel)), rfl⟩
theorem q367 : (Jvm.Cond.instanceMethod ({ cls := "ToastCourt$Court", name := "become", desc := "(LToastCourt$Court;)V" } : Jvm.MethodName)) ∈ TW := List.mem_filter.mpr ⟨List.mem_append_right _ (List.mem_of_getElem? (i := 367) (by decide +kernel)), rfl⟩
theorem q368 : (Jvm.Cond.code ({ cls := "ToastCourt$Court", name := "become", desc := "(LToastCourt$Court;)V" } : Jvm.MethodName) prog_2_method_2_code (3 : Nat) (Option.none : Option Jvm.ClassFile.FieldType)) ∈ TW := List.mem_filter.mpr ⟨List.mem_append_right _ (List.mem_of_getElem? (i := 368) (by decide +kernel)), rfl⟩
theorem q369 : (Jvm.Cond.methodLink "ToastCourt$Court" (44 : Nat) ({ cls := "java/lang/System", name := "arraycopy", desc := "(Ljava/lang/Object;ILjava/lang/Object;II)V" } : Jvm.MethodName)) ∈ TW := List.mem_filter.mpr ⟨List.mem_append_right _ (List.mem_of_getElem? (i := 369) (by decide +kernel)), rfl⟩
theorem q370 : (Jvm.Cond.static ({ cls := "java/lang/System", name := "arraycopy", desc := "(Ljava/lang/Object;ILjava/lang/Object;II)V" } : Jvm.MethodName)) ∈ TW := List.mem_filter.mpr ⟨List.mem_append_right _ (List.mem_of_getElem? (i := 370) (by decide +kernel)), rfl⟩
theorem q371 : (Jvm.Cond.native ({ cls := "java/lang/System", name := "arraycopy", desc := "(Ljava/lang/Object;ILjava/lang/Object;II)V" } : Jvm.MethodName)) ∈ TW := List.mem_filter.mpr ⟨List.mem_append_right _ (List.mem_of_getElem? (i := 371) (by decide +kernel)), rfl⟩
theorem q372 : (Jvm.Cond.methodLinkNest "ToastCourt$Court" (50 : Nat) ({ cls := "ToastCourt$Disputant", name := "become", desc := "(LToastCourt$Disputant;)V" } : Jvm.MethodName) "ToastCourt") ∈ NW := List.mem_filter.mpr ⟨List.mem_append_right _ (List.mem_of_getElem? (i := 372) (by decide +kernel)), rfl⟩
theorem q374 : (Jvm.Cond.instanceMethod ({ cls := "ToastCourt$Disputant", name := "become", desc := "(LToastCourt$Disputant;)V" } : Jvm.MethodName)) ∈ TW := List.mem_filter.mpr ⟨List.mem_append_right _ (List.mem_of_getElem? (i := 374) (by decide +kernel)), rfl⟩
theorem q375 : (Jvm.Cond.code ({ cls := "ToastCourt$Disputant", name := "become", desc := "(LToastCourt$Disputant;)V" } : Jvm.MethodName) prog_3_method_3_code (2 : Nat) (Option.none : Option Jvm.ClassFile.FieldType)) ∈ TW := List.mem_filter.mpr ⟨List.mem_append_right _ (List.mem_of_getElem? (i := 375) (by decide +kernel)), rfl⟩
theorem q376 : (Jvm.Cond.methodLink "ToastCourtLaw" (64 : Nat) ({ cls := "ToastCourt", name := "wrong", desc := "(II)I" } : Jvm.MethodName)) ∈ TW := List.mem_filter.mpr ⟨List.mem_append_right _ (List.mem_of_getElem? (i := 376) (by decide +kernel)), rfl⟩
theorem q377 : (Jvm.Cond.instanceMethod ({ cls := "ToastCourt", name := "wrong", desc := "(II)I" } : Jvm.MethodName)) ∈ TW := List.mem_filter.mpr ⟨List.mem_append_right _ (List.mem_of_getElem? (i := 377) (by decide +kernel)), rfl⟩
theorem q378 : (Jvm.Cond.selects "ToastCourt" ({ cls := "ToastCourt", name := "wrong", desc := "(II)I" } : Jvm.MethodName) ({ cls := "ToastCourt", name := "wrong", desc := "(II)I" } : Jvm.MethodName)) ∈ TW := List.mem_filter.mpr ⟨List.mem_append_right _ (List.mem_of_getElem? (i := 378) (by decide +kernel)), rfl⟩
theorem q379 : (Jvm.Cond.code ({ cls := "ToastCourt", name := "wrong", desc := "(II)I" } : Jvm.MethodName) prog_1_method_14_code (3 : Nat) (Option.some Jvm.ClassFile.FieldType.int)) ∈ TW := List.mem_filter.mpr ⟨List.mem_append_right _ (List.mem_of_getElem? (i := 379) (by decide +kernel)), rfl⟩
theorem q380 : (Jvm.Cond.methodLink "ToastCourt" (144 : Nat) ({ cls := "ToastCourt", name := "dropsToReach", desc := "(III)I" } : Jvm.MethodName)) ∈ TW := List.mem_filter.mpr ⟨List.mem_append_right _ (List.mem_of_getElem? (i := 380) (by decide +kernel)), rfl⟩
theorem q382 : (Jvm.Cond.instanceMethod ({ cls := "ToastCourt", name := "dropsToReach", desc := "(III)I" } : Jvm.MethodName)) ∈ TW := List.mem_filter.mpr ⟨List.mem_append_right _ (List.mem_of_getElem? (i := 382) (by decide +kernel)), rfl⟩
theorem q383 : (Jvm.Cond.code ({ cls := "ToastCourt", name := "dropsToReach", desc := "(III)I" } : Jvm.MethodName) prog_1_method_52_code (5 : Nat) (Option.some Jvm.ClassFile.FieldType.int)) ∈ TW := List.mem_filter.mpr ⟨List.mem_append_right _ (List.mem_of_getElem? (i := 383) (by decide +kernel)), rfl⟩
theorem q384 : (Jvm.Cond.methodLink "ToastCourtLaw" (68 : Nat) ({ cls := "ToastCourt", name := "right", desc := "(II)I" } : Jvm.MethodName)) ∈ TW := List.mem_filter.mpr ⟨List.mem_append_right _ (List.mem_of_getElem? (i := 384) (by decide +kernel)), rfl⟩
theorem q385 : (Jvm.Cond.instanceMethod ({ cls := "ToastCourt", name := "right", desc := "(II)I" } : Jvm.MethodName)) ∈ TW := List.mem_filter.mpr ⟨List.mem_append_right _ (List.mem_of_getElem? (i := 385) (by decide +kernel)), rfl⟩
theorem q386 : (Jvm.Cond.selects "ToastCourt" ({ cls := "ToastCourt", name := "right", desc := "(II)I" } : Jvm.MethodName) ({ cls := "ToastCourt", name := "right", desc := "(II)I" } : Jvm.MethodName)) ∈ TW := List.mem_filter.mpr ⟨List.mem_append_right _ (List.mem_of_getElem? (i := 386) (by decide +kernel)), rfl⟩
theorem q387 : (Jvm.Cond.code ({ cls := "ToastCourt", name := "right", desc := "(II)I" } : Jvm.MethodName) prog_1_method_15_code (3 : Nat) (Option.some Jvm.ClassFile.FieldType.int)) ∈ TW := List.mem_filter.mpr ⟨List.mem_append_right _ (List.mem_of_getElem? (i := 387) (by decide +kernel)), rfl⟩
theorem q388 : (Jvm.Cond.methodLink "ToastCourtLaw" (72 : Nat) ({ cls := "ToastCourt", name := "stands", desc := "()I" } : Jvm.MethodName)) ∈ TW := List.mem_filter.mpr ⟨List.mem_append_right _ (List.mem_of_getElem? (i := 388) (by decide +kernel)), rfl⟩
theorem q389 : (Jvm.Cond.instanceMethod ({ cls := "ToastCourt", name := "stands", desc := "()I" } : Jvm.MethodName)) ∈ TW := List.mem_filter.mpr ⟨List.mem_append_right _ (List.mem_of_getElem? (i := 389) (by decide +kernel)), rfl⟩
theorem q390 : (Jvm.Cond.selects "ToastCourt" ({ cls := "ToastCourt", name := "stands", desc := "()I" } : Jvm.MethodName) ({ cls := "ToastCourt", name := "stands", desc := "()I" } : Jvm.MethodName)) ∈ TW := List.mem_filter.mpr ⟨List.mem_append_right _ (List.mem_of_getElem? (i := 390) (by decide +kernel)), rfl⟩
theorem q391 : (Jvm.Cond.code ({ cls := "ToastCourt", name := "stands", desc := "()I" } : Jvm.MethodName) prog_1_method_16_code (2 : Nat) (Option.some Jvm.ClassFile.FieldType.int)) ∈ TW := List.mem_filter.mpr ⟨List.mem_append_right _ (List.mem_of_getElem? (i := 391) (by decide +kernel)), rfl⟩
theorem q392 : (Jvm.Cond.methodLink "ToastCourtLaw" (77 : Nat) ({ cls := "ToastCourt", name := "calm", desc := "(II)I" } : Jvm.MethodName)) ∈ TW := List.mem_filter.mpr ⟨List.mem_append_right _ (List.mem_of_getElem? (i := 392) (by decide +kernel)), rfl⟩
theorem q393 : (Jvm.Cond.instanceMethod ({ cls := "ToastCourt", name := "calm", desc := "(II)I" } : Jvm.MethodName)) ∈ TW := List.mem_filter.mpr ⟨List.mem_append_right _ (List.mem_of_getElem? (i := 393) (by decide +kernel)), rfl⟩
theorem q394 : (Jvm.Cond.selects "ToastCourt" ({ cls := "ToastCourt", name := "calm", desc := "(II)I" } : Jvm.MethodName) ({ cls := "ToastCourt", name := "calm", desc := "(II)I" } : Jvm.MethodName)) ∈ TW := List.mem_filter.mpr ⟨List.mem_append_right _ (List.mem_of_getElem? (i := 394) (by decide +kernel)), rfl⟩
theorem q395 : (Jvm.Cond.code ({ cls := "ToastCourt", name := "calm", desc := "(II)I" } : Jvm.MethodName) prog_1_method_17_code (4 : Nat) (Option.some Jvm.ClassFile.FieldType.int)) ∈ TW := List.mem_filter.mpr ⟨List.mem_append_right _ (List.mem_of_getElem? (i := 395) (by decide +kernel)), rfl⟩
theorem q396 : (Jvm.Cond.methodLink "ToastCourtLaw" (81 : Nat) ({ cls := "ToastCourt", name := "heightFor", desc := "(II)I" } : Jvm.MethodName)) ∈ TW := List.mem_filter.mpr ⟨List.mem_append_right _ (List.mem_of_getElem? (i := 396) (by decide +kernel)), rfl⟩
theorem q397 : (Jvm.Cond.instanceMethod ({ cls := "ToastCourt", name := "heightFor", desc := "(II)I" } : Jvm.MethodName)) ∈ TW := List.mem_filter.mpr ⟨List.mem_append_right _ (List.mem_of_getElem? (i := 397) (by decide +kernel)), rfl⟩
theorem q398 : (Jvm.Cond.selects "ToastCourt" ({ cls := "ToastCourt", name := "heightFor", desc := "(II)I" } : Jvm.MethodName) ({ cls := "ToastCourt", name := "heightFor", desc := "(II)I" } : Jvm.MethodName)) ∈ TW := List.mem_filter.mpr ⟨List.mem_append_right _ (List.mem_of_getElem? (i := 398) (by decide +kernel)), rfl⟩
theorem q399 : (Jvm.Cond.code ({ cls := "ToastCourt", name := "heightFor", desc := "(II)I" } : Jvm.MethodName) prog_1_method_18_code (4 : Nat) (Option.some Jvm.ClassFile.FieldType.int)) ∈ TW := List.mem_filter.mpr ⟨List.mem_append_right _ (List.mem_of_getElem? (i := 399) (by decide +kernel)), rfl⟩
theorem q400 : (Jvm.Cond.methodLink "ToastCourt" (150 : Nat) ({ cls := "ToastCourt", name := "trialLeavesWrong", desc := "(II)Z" } : Jvm.MethodName)) ∈ TW := List.mem_filter.mpr ⟨List.mem_append_right _ (List.mem_of_getElem? (i := 400) (by decide +kernel)), rfl⟩
theorem q402 : (Jvm.Cond.instanceMethod ({ cls := "ToastCourt", name := "trialLeavesWrong", desc := "(II)Z" } : Jvm.MethodName)) ∈ TW := List.mem_filter.mpr ⟨List.mem_append_right _ (List.mem_of_getElem? (i := 402) (by decide +kernel)), rfl⟩
theorem q403 : (Jvm.Cond.code ({ cls := "ToastCourt", name := "trialLeavesWrong", desc := "(II)Z" } : Jvm.MethodName) prog_1_method_53_code (6 : Nat) (Option.some Jvm.ClassFile.FieldType.boolean)) ∈ TW := List.mem_filter.mpr ⟨List.mem_append_right _ (List.mem_of_getElem? (i := 403) (by decide +kernel)), rfl⟩
theorem q404 : (Jvm.Cond.methodLink "ToastCourtLaw" (85 : Nat) ({ cls := "ToastCourt", name := "spreadFor", desc := "(II)I" } : Jvm.MethodName)) ∈ TW := List.mem_filter.mpr ⟨List.mem_append_right _ (List.mem_of_getElem? (i := 404) (by decide +kernel)), rfl⟩
theorem q405 : (Jvm.Cond.instanceMethod ({ cls := "ToastCourt", name := "spreadFor", desc := "(II)I" } : Jvm.MethodName)) ∈ TW := List.mem_filter.mpr ⟨List.mem_append_right _ (List.mem_of_getElem? (i := 405) (by decide +kernel)), rfl⟩
theorem q406 : (Jvm.Cond.selects "ToastCourt" ({ cls := "ToastCourt", name := "spreadFor", desc := "(II)I" } : Jvm.MethodName) ({ cls := "ToastCourt", name := "spreadFor", desc := "(II)I" } : Jvm.MethodName)) ∈ TW := List.mem_filter.mpr ⟨List.mem_append_right _ (List.mem_of_getElem? (i := 406) (by decide +kernel)), rfl⟩
theorem q407 : (Jvm.Cond.code ({ cls := "ToastCourt", name := "spreadFor", desc := "(II)I" } : Jvm.MethodName) prog_1_method_19_code (7 : Nat) (Option.some Jvm.ClassFile.FieldType.int)) ∈ TW := List.mem_filter.mpr ⟨List.mem_append_right _ (List.mem_of_getElem? (i := 407) (by decide +kernel)), rfl⟩
theorem q408 : (Jvm.Cond.methodLink "ToastCourt" (153 : Nat) ({ cls := "ToastCourt", name := "trialRight", desc := "(II)I" } : Jvm.MethodName)) ∈ TW := List.mem_filter.mpr ⟨List.mem_append_right _ (List.mem_of_getElem? (i := 408) (by decide +kernel)), rfl⟩
theorem q410 : (Jvm.Cond.instanceMethod ({ cls := "ToastCourt", name := "trialRight", desc := "(II)I" } : Jvm.MethodName)) ∈ TW := List.mem_filter.mpr ⟨List.mem_append_right _ (List.mem_of_getElem? (i := 410) (by decide +kernel)), rfl⟩
theorem q411 : (Jvm.Cond.code ({ cls := "ToastCourt", name := "trialRight", desc := "(II)I" } : Jvm.MethodName) prog_1_method_54_code (4 : Nat) (Option.some Jvm.ClassFile.FieldType.int)) ∈ TW := List.mem_filter.mpr ⟨List.mem_append_right _ (List.mem_of_getElem? (i := 411) (by decide +kernel)), rfl⟩
theorem q412 : (Jvm.Cond.methodLink "ToastCourtLaw" (89 : Nat) ({ cls := "ToastCourt", name := "kindFor", desc := "(II)I" } : Jvm.MethodName)) ∈ TW := List.mem_filter.mpr ⟨List.mem_append_right _ (List.mem_of_getElem? (i := 412) (by decide +kernel)), rfl⟩
theorem q413 : (Jvm.Cond.instanceMethod ({ cls := "ToastCourt", name := "kindFor", desc := "(II)I" } : Jvm.MethodName)) ∈ TW := List.mem_filter.mpr ⟨List.mem_append_right _ (List.mem_of_getElem? (i := 413) (by decide +kernel)), rfl⟩
theorem q414 : (Jvm.Cond.selects "ToastCourt" ({ cls := "ToastCourt", name := "kindFor", desc := "(II)I" } : Jvm.MethodName) ({ cls := "ToastCourt", name := "kindFor", desc := "(II)I" } : Jvm.MethodName)) ∈ TW := List.mem_filter.mpr ⟨List.mem_append_right _ (List.mem_of_getElem? (i := 414) (by decide +kernel)), rfl⟩
theorem q415 : (Jvm.Cond.code ({ cls := "ToastCourt", name := "kindFor", desc := "(II)I" } : Jvm.MethodName) prog_1_method_20_code (7 : Nat) (Option.some Jvm.ClassFile.FieldType.int)) ∈ TW := List.mem_filter.mpr ⟨List.mem_append_right _ (List.mem_of_getElem? (i := 415) (by decide +kernel)), rfl⟩
theorem q416 : (Jvm.Cond.methodLink "ToastCourtLaw" (93 : Nat) ({ cls := "ToastCourt", name := "causeFor", desc := "(III)I" } : Jvm.MethodName)) ∈ TW := List.mem_filter.mpr ⟨List.mem_append_right _ (List.mem_of_getElem? (i := 416) (by decide +kernel)), rfl⟩
theorem q417 : (Jvm.Cond.instanceMethod ({ cls := "ToastCourt", name := "causeFor", desc := "(III)I" } : Jvm.MethodName)) ∈ TW := List.mem_filter.mpr ⟨List.mem_append_right _ (List.mem_of_getElem? (i := 417) (by decide +kernel)), rfl⟩
theorem q418 : (Jvm.Cond.selects "ToastCourt" ({ cls := "ToastCourt", name := "causeFor", desc := "(III)I" } : Jvm.MethodName) ({ cls := "ToastCourt", name := "causeFor", desc := "(III)I" } : Jvm.MethodName)) ∈ TW := List.mem_filter.mpr ⟨List.mem_append_right _ (List.mem_of_getElem? (i := 418) (by decide +kernel)), rfl⟩
theorem q419 : (Jvm.Cond.code ({ cls := "ToastCourt", name := "causeFor", desc := "(III)I" } : Jvm.MethodName) prog_1_method_21_code (5 : Nat) (Option.some Jvm.ClassFile.FieldType.int)) ∈ TW := List.mem_filter.mpr ⟨List.mem_append_right _ (List.mem_of_getElem? (i := 419) (by decide +kernel)), rfl⟩
theorem q420 : (Jvm.Cond.methodLink "ToastCourtLaw" (97 : Nat) ({ cls := "ToastCourt", name := "against", desc := "(II)I" } : Jvm.MethodName)) ∈ TW := List.mem_filter.mpr ⟨List.mem_append_right _ (List.mem_of_getElem? (i := 420) (by decide +kernel)), rfl⟩
theorem q421 : (Jvm.Cond.instanceMethod ({ cls := "ToastCourt", name := "against", desc := "(II)I" } : Jvm.MethodName)) ∈ TW := List.mem_filter.mpr ⟨List.mem_append_right _ (List.mem_of_getElem? (i := 421) (by decide +kernel)), rfl⟩
theorem q422 : (Jvm.Cond.selects "ToastCourt" ({ cls := "ToastCourt", name := "against", desc := "(II)I" } : Jvm.MethodName) ({ cls := "ToastCourt", name := "against", desc := "(II)I" } : Jvm.MethodName)) ∈ TW := List.mem_filter.mpr ⟨List.mem_append_right _ (List.mem_of_getElem? (i := 422) (by decide +kernel)), rfl⟩
theorem q423 : (Jvm.Cond.code ({ cls := "ToastCourt", name := "against", desc := "(II)I" } : Jvm.MethodName) prog_1_method_22_code (7 : Nat) (Option.some Jvm.ClassFile.FieldType.int)) ∈ TW := List.mem_filter.mpr ⟨List.mem_append_right _ (List.mem_of_getElem? (i := 423) (by decide +kernel)), rfl⟩
theorem q424 : (Jvm.Cond.methodLink "ToastCourtLaw" (101 : Nat) ({ cls := "ToastCourt", name := "silence", desc := "(II)I" } : Jvm.MethodName)) ∈ TW := List.mem_filter.mpr ⟨List.mem_append_right _ (List.mem_of_getElem? (i := 424) (by decide +kernel)), rfl⟩
theorem q425 : (Jvm.Cond.instanceMethod ({ cls := "ToastCourt", name := "silence", desc := "(II)I" } : Jvm.MethodName)) ∈ TW := List.mem_filter.mpr ⟨List.mem_append_right _ (List.mem_of_getElem? (i := 425) (by decide +kernel)), rfl⟩
theorem q426 : (Jvm.Cond.selects "ToastCourt" ({ cls := "ToastCourt", name := "silence", desc := "(II)I" } : Jvm.MethodName) ({ cls := "ToastCourt", name := "silence", desc := "(II)I" } : Jvm.MethodName)) ∈ TW := List.mem_filter.mpr ⟨List.mem_append_right _ (List.mem_of_getElem? (i := 426) (by decide +kernel)), rfl⟩
theorem q427 : (Jvm.Cond.code ({ cls := "ToastCourt", name := "silence", desc := "(II)I" } : Jvm.MethodName) prog_1_method_23_code (7 : Nat) (Option.some Jvm.ClassFile.FieldType.int)) ∈ TW := List.mem_filter.mpr ⟨List.mem_append_right _ (List.mem_of_getElem? (i := 427) (by decide +kernel)), rfl⟩
theorem q428 : (Jvm.Cond.methodLink "ToastCourt" (165 : Nat) ({ cls := "java/lang/Integer", name := "bitCount", desc := "(I)I" } : Jvm.MethodName)) ∈ TW := List.mem_filter.mpr ⟨List.mem_append_right _ (List.mem_of_getElem? (i := 428) (by decide +kernel)), rfl⟩
theorem q429 : (Jvm.Cond.static ({ cls := "java/lang/Integer", name := "bitCount", desc := "(I)I" } : Jvm.MethodName)) ∈ TW := List.mem_filter.mpr ⟨List.mem_append_right _ (List.mem_of_getElem? (i := 429) (by decide +kernel)), rfl⟩
theorem q430 : (Jvm.Cond.code ({ cls := "java/lang/Integer", name := "bitCount", desc := "(I)I" } : Jvm.MethodName) prog_8_method_49_code (1 : Nat) (Option.some Jvm.ClassFile.FieldType.int)) ∈ TW := List.mem_filter.mpr ⟨List.mem_append_right _ (List.mem_of_getElem? (i := 430) (by decide +kernel)), rfl⟩
theorem q431 : (Jvm.Cond.constant "java/lang/Integer" (265 : Nat) (1431655765 : Int32)) ∈ TW := List.mem_filter.mpr ⟨List.mem_append_right _ (List.mem_of_getElem? (i := 431) (by decide +kernel)), rfl⟩
theorem q432 : (Jvm.Cond.constant "java/lang/Integer" (266 : Nat) (858993459 : Int32)) ∈ TW := List.mem_filter.mpr ⟨List.mem_append_right _ (List.mem_of_getElem? (i := 432) (by decide +kernel)), rfl⟩
theorem q433 : (Jvm.Cond.constant "java/lang/Integer" (267 : Nat) (252645135 : Int32)) ∈ TW := List.mem_filter.mpr ⟨List.mem_append_right _ (List.mem_of_getElem? (i := 433) (by decide +kernel)), rfl⟩
theorem q434 : (Jvm.Cond.methodLinkNest "ToastCourt" (170 : Nat) ({ cls := "ToastCourt$Court", name := "hush", desc := "(I)V" } : Jvm.MethodName) "ToastCourt") ∈ NW := List.mem_filter.mpr ⟨List.mem_append_right _ (List.mem_of_getElem? (i := 434) (by decide +kernel)), rfl⟩
theorem q436 : (Jvm.Cond.instanceMethod ({ cls := "ToastCourt$Court", name := "hush", desc := "(I)V" } : Jvm.MethodName)) ∈ TW := List.mem_filter.mpr ⟨List.mem_append_right _ (List.mem_of_getElem? (i := 436) (by decide +kernel)), rfl⟩
theorem q437 : (Jvm.Cond.code ({ cls := "ToastCourt$Court", name := "hush", desc := "(I)V" } : Jvm.MethodName) prog_2_method_7_code (3 : Nat) (Option.none : Option Jvm.ClassFile.FieldType)) ∈ TW := List.mem_filter.mpr ⟨List.mem_append_right _ (List.mem_of_getElem? (i := 437) (by decide +kernel)), rfl⟩
theorem q438 : (Jvm.Cond.methodLink "ToastCourtLaw" (105 : Nat) ({ cls := "ToastCourt", name := "fits", desc := "(II)I" } : Jvm.MethodName)) ∈ TW := List.mem_filter.mpr ⟨List.mem_append_right _ (List.mem_of_getElem? (i := 438) (by decide +kernel)), rfl⟩
theorem q439 : (Jvm.Cond.instanceMethod ({ cls := "ToastCourt", name := "fits", desc := "(II)I" } : Jvm.MethodName)) ∈ TW := List.mem_filter.mpr ⟨List.mem_append_right _ (List.mem_of_getElem? (i := 439) (by decide +kernel)), rfl⟩
theorem q440 : (Jvm.Cond.selects "ToastCourt" ({ cls := "ToastCourt", name := "fits", desc := "(II)I" } : Jvm.MethodName) ({ cls := "ToastCourt", name := "fits", desc := "(II)I" } : Jvm.MethodName)) ∈ TW := List.mem_filter.mpr ⟨List.mem_append_right _ (List.mem_of_getElem? (i := 440) (by decide +kernel)), rfl⟩
theorem q441 : (Jvm.Cond.code ({ cls := "ToastCourt", name := "fits", desc := "(II)I" } : Jvm.MethodName) prog_1_method_24_code (6 : Nat) (Option.some Jvm.ClassFile.FieldType.int)) ∈ TW := List.mem_filter.mpr ⟨List.mem_append_right _ (List.mem_of_getElem? (i := 441) (by decide +kernel)), rfl⟩
theorem q442 : (Jvm.Cond.methodLink "ToastCourt" (174 : Nat) ({ cls := "ToastCourt", name := "findingOfFalls", desc := "(II)I" } : Jvm.MethodName)) ∈ TW := List.mem_filter.mpr ⟨List.mem_append_right _ (List.mem_of_getElem? (i := 442) (by decide +kernel)), rfl⟩
theorem q444 : (Jvm.Cond.instanceMethod ({ cls := "ToastCourt", name := "findingOfFalls", desc := "(II)I" } : Jvm.MethodName)) ∈ TW := List.mem_filter.mpr ⟨List.mem_append_right _ (List.mem_of_getElem? (i := 444) (by decide +kernel)), rfl⟩
theorem q445 : (Jvm.Cond.code ({ cls := "ToastCourt", name := "findingOfFalls", desc := "(II)I" } : Jvm.MethodName) prog_1_method_51_code (4 : Nat) (Option.some Jvm.ClassFile.FieldType.int)) ∈ TW := List.mem_filter.mpr ⟨List.mem_append_right _ (List.mem_of_getElem? (i := 445) (by decide +kernel)), rfl⟩
theorem q446 : (Jvm.Cond.methodLink "ToastCourt" (214 : Nat) ({ cls := "ToastCourt", name := "findingOfSheet", desc := "(I)I" } : Jvm.MethodName)) ∈ TW := List.mem_filter.mpr ⟨List.mem_append_right _ (List.mem_of_getElem? (i := 446) (by decide +kernel)), rfl⟩
theorem q448 : (Jvm.Cond.instanceMethod ({ cls := "ToastCourt", name := "findingOfSheet", desc := "(I)I" } : Jvm.MethodName)) ∈ TW := List.mem_filter.mpr ⟨List.mem_append_right _ (List.mem_of_getElem? (i := 448) (by decide +kernel)), rfl⟩
theorem q449 : (Jvm.Cond.code ({ cls := "ToastCourt", name := "findingOfSheet", desc := "(I)I" } : Jvm.MethodName) prog_1_method_50_code (2 : Nat) (Option.some Jvm.ClassFile.FieldType.int)) ∈ TW := List.mem_filter.mpr ⟨List.mem_append_right _ (List.mem_of_getElem? (i := 449) (by decide +kernel)), rfl⟩
theorem q450 : (Jvm.Cond.methodLink "ToastCourt" (206 : Nat) ({ cls := "ToastCourt", name := "isSheet", desc := "(I)Z" } : Jvm.MethodName)) ∈ TW := List.mem_filter.mpr ⟨List.mem_append_right _ (List.mem_of_getElem? (i := 450) (by decide +kernel)), rfl⟩
theorem q451 : (Jvm.Cond.static ({ cls := "ToastCourt", name := "isSheet", desc := "(I)Z" } : Jvm.MethodName)) ∈ TW := List.mem_filter.mpr ⟨List.mem_append_right _ (List.mem_of_getElem? (i := 451) (by decide +kernel)), rfl⟩
theorem q452 : (Jvm.Cond.code ({ cls := "ToastCourt", name := "isSheet", desc := "(I)Z" } : Jvm.MethodName) prog_1_method_49_code (1 : Nat) (Option.some Jvm.ClassFile.FieldType.boolean)) ∈ TW := List.mem_filter.mpr ⟨List.mem_append_right _ (List.mem_of_getElem? (i := 452) (by decide +kernel)), rfl⟩
theorem q453 : (Jvm.Cond.methodLinkNest "ToastCourt" (218 : Nat) ({ cls := "ToastCourt$Sheet", name := "isMissing", desc := "()Z" } : Jvm.MethodName) "ToastCourt") ∈ NW := List.mem_filter.mpr ⟨List.mem_append_right _ (List.mem_of_getElem? (i := 453) (by decide +kernel)), rfl⟩
theorem q455 : (Jvm.Cond.instanceMethod ({ cls := "ToastCourt$Sheet", name := "isMissing", desc := "()Z" } : Jvm.MethodName)) ∈ TW := List.mem_filter.mpr ⟨List.mem_append_right _ (List.mem_of_getElem? (i := 455) (by decide +kernel)), rfl⟩
theorem q456 : (Jvm.Cond.code ({ cls := "ToastCourt$Sheet", name := "isMissing", desc := "()Z" } : Jvm.MethodName) prog_4_method_2_code (1 : Nat) (Option.some Jvm.ClassFile.FieldType.boolean)) ∈ TW := List.mem_filter.mpr ⟨List.mem_append_right _ (List.mem_of_getElem? (i := 456) (by decide +kernel)), rfl⟩
theorem q457 : (Jvm.Cond.constant "ToastCourt" (201 : Nat) (-1000006 : Int32)) ∈ TW := List.mem_filter.mpr ⟨List.mem_append_right _ (List.mem_of_getElem? (i := 457) (by decide +kernel)), rfl⟩
theorem q458 : (Jvm.Cond.methodLink "ToastCourt" (177 : Nat) ({ cls := "ToastCourt", name := "trialIsAsTold", desc := "(LToastCourt$Sheet;I)Z" } : Jvm.MethodName)) ∈ TW := List.mem_filter.mpr ⟨List.mem_append_right _ (List.mem_of_getElem? (i := 458) (by decide +kernel)), rfl⟩
theorem q460 : (Jvm.Cond.instanceMethod ({ cls := "ToastCourt", name := "trialIsAsTold", desc := "(LToastCourt$Sheet;I)Z" } : Jvm.MethodName)) ∈ TW := List.mem_filter.mpr ⟨List.mem_append_right _ (List.mem_of_getElem? (i := 460) (by decide +kernel)), rfl⟩
theorem q461 : (Jvm.Cond.code ({ cls := "ToastCourt", name := "trialIsAsTold", desc := "(LToastCourt$Sheet;I)Z" } : Jvm.MethodName) prog_1_method_55_code (5 : Nat) (Option.some Jvm.ClassFile.FieldType.boolean)) ∈ TW := List.mem_filter.mpr ⟨List.mem_append_right _ (List.mem_of_getElem? (i := 461) (by decide +kernel)), rfl⟩
theorem q462 : (Jvm.Cond.methodLink "ToastCourtLaw" (109 : Nat) ({ cls := "ToastCourt", name := "height", desc := "(II)I" } : Jvm.MethodName)) ∈ TW := List.mem_filter.mpr ⟨List.mem_append_right _ (List.mem_of_getElem? (i := 462) (by decide +kernel)), rfl⟩
theorem q463 : (Jvm.Cond.instanceMethod ({ cls := "ToastCourt", name := "height", desc := "(II)I" } : Jvm.MethodName)) ∈ TW := List.mem_filter.mpr ⟨List.mem_append_right _ (List.mem_of_getElem? (i := 463) (by decide +kernel)), rfl⟩
theorem q464 : (Jvm.Cond.selects "ToastCourt" ({ cls := "ToastCourt", name := "height", desc := "(II)I" } : Jvm.MethodName) ({ cls := "ToastCourt", name := "height", desc := "(II)I" } : Jvm.MethodName)) ∈ TW := List.mem_filter.mpr ⟨List.mem_append_right _ (List.mem_of_getElem? (i := 464) (by decide +kernel)), rfl⟩
theorem q465 : (Jvm.Cond.code ({ cls := "ToastCourt", name := "height", desc := "(II)I" } : Jvm.MethodName) prog_1_method_25_code (5 : Nat) (Option.some Jvm.ClassFile.FieldType.int)) ∈ TW := List.mem_filter.mpr ⟨List.mem_append_right _ (List.mem_of_getElem? (i := 465) (by decide +kernel)), rfl⟩
theorem q466 : (Jvm.Cond.methodLink "ToastCourtLaw" (113 : Nat) ({ cls := "ToastCourt", name := "kinds", desc := "(II)I" } : Jvm.MethodName)) ∈ TW := List.mem_filter.mpr ⟨List.mem_append_right _ (List.mem_of_getElem? (i := 466) (by decide +kernel)), rfl⟩
theorem q467 : (Jvm.Cond.instanceMethod ({ cls := "ToastCourt", name := "kinds", desc := "(II)I" } : Jvm.MethodName)) ∈ TW := List.mem_filter.mpr ⟨List.mem_append_right _ (List.mem_of_getElem? (i := 467) (by decide +kernel)), rfl⟩
theorem q468 : (Jvm.Cond.selects "ToastCourt" ({ cls := "ToastCourt", name := "kinds", desc := "(II)I" } : Jvm.MethodName) ({ cls := "ToastCourt", name := "kinds", desc := "(II)I" } : Jvm.MethodName)) ∈ TW := List.mem_filter.mpr ⟨List.mem_append_right _ (List.mem_of_getElem? (i := 468) (by decide +kernel)), rfl⟩
theorem q469 : (Jvm.Cond.code ({ cls := "ToastCourt", name := "kinds", desc := "(II)I" } : Jvm.MethodName) prog_1_method_26_code (6 : Nat) (Option.some Jvm.ClassFile.FieldType.int)) ∈ TW := List.mem_filter.mpr ⟨List.mem_append_right _ (List.mem_of_getElem? (i := 469) (by decide +kernel)), rfl⟩
theorem q470 : (Jvm.Cond.methodLink "ToastCourtLaw" (117 : Nat) ({ cls := "ToastCourt", name := "toss", desc := "(I)I" } : Jvm.MethodName)) ∈ TW := List.mem_filter.mpr ⟨List.mem_append_right _ (List.mem_of_getElem? (i := 470) (by decide +kernel)), rfl⟩
theorem q471 : (Jvm.Cond.instanceMethod ({ cls := "ToastCourt", name := "toss", desc := "(I)I" } : Jvm.MethodName)) ∈ TW := List.mem_filter.mpr ⟨List.mem_append_right _ (List.mem_of_getElem? (i := 471) (by decide +kernel)), rfl⟩
theorem q472 : (Jvm.Cond.selects "ToastCourt" ({ cls := "ToastCourt", name := "toss", desc := "(I)I" } : Jvm.MethodName) ({ cls := "ToastCourt", name := "toss", desc := "(I)I" } : Jvm.MethodName)) ∈ TW := List.mem_filter.mpr ⟨List.mem_append_right _ (List.mem_of_getElem? (i := 472) (by decide +kernel)), rfl⟩
theorem q473 : (Jvm.Cond.code ({ cls := "ToastCourt", name := "toss", desc := "(I)I" } : Jvm.MethodName) prog_1_method_27_code (5 : Nat) (Option.some Jvm.ClassFile.FieldType.int)) ∈ TW := List.mem_filter.mpr ⟨List.mem_append_right _ (List.mem_of_getElem? (i := 473) (by decide +kernel)), rfl⟩
theorem q474 : (Jvm.Cond.methodLinkNest "ToastCourt" (181 : Nat) ({ cls := "ToastCourt$Court", name := "draw", desc := "()I" } : Jvm.MethodName) "ToastCourt") ∈ NW := List.mem_filter.mpr ⟨List.mem_append_right _ (List.mem_of_getElem? (i := 474) (by decide +kernel)), rfl⟩
theorem q476 : (Jvm.Cond.instanceMethod ({ cls := "ToastCourt$Court", name := "draw", desc := "()I" } : Jvm.MethodName)) ∈ TW := List.mem_filter.mpr ⟨List.mem_append_right _ (List.mem_of_getElem? (i := 476) (by decide +kernel)), rfl⟩
theorem q477 : (Jvm.Cond.code ({ cls := "ToastCourt$Court", name := "draw", desc := "()I" } : Jvm.MethodName) prog_2_method_8_code (1 : Nat) (Option.some Jvm.ClassFile.FieldType.int)) ∈ TW := List.mem_filter.mpr ⟨List.mem_append_right _ (List.mem_of_getElem? (i := 477) (by decide +kernel)), rfl⟩
theorem q478 : (Jvm.Cond.constant "ToastCourt$Court" (65 : Nat) (1103515245 : Int32)) ∈ TW := List.mem_filter.mpr ⟨List.mem_append_right _ (List.mem_of_getElem? (i := 478) (by decide +kernel)), rfl⟩
theorem q479 : (Jvm.Cond.methodLink "ToastCourtLaw" (121 : Nat) ({ cls := "ToastCourt", name := "odds", desc := "(IIII)J" } : Jvm.MethodName)) ∈ TW := List.mem_filter.mpr ⟨List.mem_append_right _ (List.mem_of_getElem? (i := 479) (by decide +kernel)), rfl⟩
theorem q480 : (Jvm.Cond.instanceMethod ({ cls := "ToastCourt", name := "odds", desc := "(IIII)J" } : Jvm.MethodName)) ∈ TW := List.mem_filter.mpr ⟨List.mem_append_right _ (List.mem_of_getElem? (i := 480) (by decide +kernel)), rfl⟩
theorem q481 : (Jvm.Cond.selects "ToastCourt" ({ cls := "ToastCourt", name := "odds", desc := "(IIII)J" } : Jvm.MethodName) ({ cls := "ToastCourt", name := "odds", desc := "(IIII)J" } : Jvm.MethodName)) ∈ TW := List.mem_filter.mpr ⟨List.mem_append_right _ (List.mem_of_getElem? (i := 481) (by decide +kernel)), rfl⟩
theorem q482 : (Jvm.Cond.code ({ cls := "ToastCourt", name := "odds", desc := "(IIII)J" } : Jvm.MethodName) prog_1_method_28_code (11 : Nat) (Option.some Jvm.ClassFile.FieldType.long)) ∈ TW := List.mem_filter.mpr ⟨List.mem_append_right _ (List.mem_of_getElem? (i := 482) (by decide +kernel)), rfl⟩
theorem q483 : (Jvm.Cond.methodLink "ToastCourt" (184 : Nat) ({ cls := "ToastCourt", name := "commonDivisor", desc := "(II)I" } : Jvm.MethodName)) ∈ TW := List.mem_filter.mpr ⟨List.mem_append_right _ (List.mem_of_getElem? (i := 483) (by decide +kernel)), rfl⟩
theorem q484 : (Jvm.Cond.static ({ cls := "ToastCourt", name := "commonDivisor", desc := "(II)I" } : Jvm.MethodName)) ∈ TW := List.mem_filter.mpr ⟨List.mem_append_right _ (List.mem_of_getElem? (i := 484) (by decide +kernel)), rfl⟩
theorem q485 : (Jvm.Cond.code ({ cls := "ToastCourt", name := "commonDivisor", desc := "(II)I" } : Jvm.MethodName) prog_1_method_56_code (3 : Nat) (Option.some Jvm.ClassFile.FieldType.int)) ∈ TW := List.mem_filter.mpr ⟨List.mem_append_right _ (List.mem_of_getElem? (i := 485) (by decide +kernel)), rfl⟩
theorem q486 : (Jvm.Cond.methodLink "ToastCourtLaw" (126 : Nat) ({ cls := "ToastCourt", name := "seed", desc := "(I)I" } : Jvm.MethodName)) ∈ TW := List.mem_filter.mpr ⟨List.mem_append_right _ (List.mem_of_getElem? (i := 486) (by decide +kernel)), rfl⟩
theorem q487 : (Jvm.Cond.instanceMethod ({ cls := "ToastCourt", name := "seed", desc := "(I)I" } : Jvm.MethodName)) ∈ TW := List.mem_filter.mpr ⟨List.mem_append_right _ (List.mem_of_getElem? (i := 487) (by decide +kernel)), rfl⟩
theorem q488 : (Jvm.Cond.selects "ToastCourt" ({ cls := "ToastCourt", name := "seed", desc := "(I)I" } : Jvm.MethodName) ({ cls := "ToastCourt", name := "seed", desc := "(I)I" } : Jvm.MethodName)) ∈ TW := List.mem_filter.mpr ⟨List.mem_append_right _ (List.mem_of_getElem? (i := 488) (by decide +kernel)), rfl⟩
theorem q489 : (Jvm.Cond.code ({ cls := "ToastCourt", name := "seed", desc := "(I)I" } : Jvm.MethodName) prog_1_method_29_code (3 : Nat) (Option.some Jvm.ClassFile.FieldType.int)) ∈ TW := List.mem_filter.mpr ⟨List.mem_append_right _ (List.mem_of_getElem? (i := 489) (by decide +kernel)), rfl⟩
theorem q490 : (Jvm.Cond.methodLink "ToastCourtLaw" (130 : Nat) ({ cls := "ToastCourt", name := "feed", desc := "(II)I" } : Jvm.MethodName)) ∈ TW := List.mem_filter.mpr ⟨List.mem_append_right _ (List.mem_of_getElem? (i := 490) (by decide +kernel)), rfl⟩
theorem q491 : (Jvm.Cond.instanceMethod ({ cls := "ToastCourt", name := "feed", desc := "(II)I" } : Jvm.MethodName)) ∈ TW := List.mem_filter.mpr ⟨List.mem_append_right _ (List.mem_of_getElem? (i := 491) (by decide +kernel)), rfl⟩
theorem q492 : (Jvm.Cond.selects "ToastCourt" ({ cls := "ToastCourt", name := "feed", desc := "(II)I" } : Jvm.MethodName) ({ cls := "ToastCourt", name := "feed", desc := "(II)I" } : Jvm.MethodName)) ∈ TW := List.mem_filter.mpr ⟨List.mem_append_right _ (List.mem_of_getElem? (i := 492) (by decide +kernel)), rfl⟩
theorem q493 : (Jvm.Cond.code ({ cls := "ToastCourt", name := "feed", desc := "(II)I" } : Jvm.MethodName) prog_1_method_30_code (4 : Nat) (Option.some Jvm.ClassFile.FieldType.int)) ∈ TW := List.mem_filter.mpr ⟨List.mem_append_right _ (List.mem_of_getElem? (i := 493) (by decide +kernel)), rfl⟩
theorem q494 : (Jvm.Cond.methodLinkNest "ToastCourt" (191 : Nat) ({ cls := "ToastCourt$Tape", name := "append", desc := "(I)V" } : Jvm.MethodName) "ToastCourt") ∈ NW := List.mem_filter.mpr ⟨List.mem_append_right _ (List.mem_of_getElem? (i := 494) (by decide +kernel)), rfl⟩
theorem q496 : (Jvm.Cond.instanceMethod ({ cls := "ToastCourt$Tape", name := "append", desc := "(I)V" } : Jvm.MethodName)) ∈ TW := List.mem_filter.mpr ⟨List.mem_append_right _ (List.mem_of_getElem? (i := 496) (by decide +kernel)), rfl⟩
theorem q497 : (Jvm.Cond.code ({ cls := "ToastCourt$Tape", name := "append", desc := "(I)V" } : Jvm.MethodName) prog_5_method_2_code (2 : Nat) (Option.none : Option Jvm.ClassFile.FieldType)) ∈ TW := List.mem_filter.mpr ⟨List.mem_append_right _ (List.mem_of_getElem? (i := 497) (by decide +kernel)), rfl⟩
theorem q498 : (Jvm.Cond.methodLink "ToastCourtLaw" (134 : Nat) ({ cls := "ToastCourt", name := "wipe", desc := "()I" } : Jvm.MethodName)) ∈ TW := List.mem_filter.mpr ⟨List.mem_append_right _ (List.mem_of_getElem? (i := 498) (by decide +kernel)), rfl⟩
theorem q499 : (Jvm.Cond.instanceMethod ({ cls := "ToastCourt", name := "wipe", desc := "()I" } : Jvm.MethodName)) ∈ TW := List.mem_filter.mpr ⟨List.mem_append_right _ (List.mem_of_getElem? (i := 499) (by decide +kernel)), rfl⟩
theorem q500 : (Jvm.Cond.selects "ToastCourt" ({ cls := "ToastCourt", name := "wipe", desc := "()I" } : Jvm.MethodName) ({ cls := "ToastCourt", name := "wipe", desc := "()I" } : Jvm.MethodName)) ∈ TW := List.mem_filter.mpr ⟨List.mem_append_right _ (List.mem_of_getElem? (i := 500) (by decide +kernel)), rfl⟩
theorem q501 : (Jvm.Cond.code ({ cls := "ToastCourt", name := "wipe", desc := "()I" } : Jvm.MethodName) prog_1_method_31_code (2 : Nat) (Option.some Jvm.ClassFile.FieldType.int)) ∈ TW := List.mem_filter.mpr ⟨List.mem_append_right _ (List.mem_of_getElem? (i := 501) (by decide +kernel)), rfl⟩
theorem q502 : (Jvm.Cond.methodLink "ToastCourtLaw" (138 : Nat) ({ cls := "ToastCourt", name := "text", desc := "()I" } : Jvm.MethodName)) ∈ TW := List.mem_filter.mpr ⟨List.mem_append_right _ (List.mem_of_getElem? (i := 502) (by decide +kernel)), rfl⟩
theorem q503 : (Jvm.Cond.instanceMethod ({ cls := "ToastCourt", name := "text", desc := "()I" } : Jvm.MethodName)) ∈ TW := List.mem_filter.mpr ⟨List.mem_append_right _ (List.mem_of_getElem? (i := 503) (by decide +kernel)), rfl⟩
theorem q504 : (Jvm.Cond.selects "ToastCourt" ({ cls := "ToastCourt", name := "text", desc := "()I" } : Jvm.MethodName) ({ cls := "ToastCourt", name := "text", desc := "()I" } : Jvm.MethodName)) ∈ TW := List.mem_filter.mpr ⟨List.mem_append_right _ (List.mem_of_getElem? (i := 504) (by decide +kernel)), rfl⟩
theorem q505 : (Jvm.Cond.code ({ cls := "ToastCourt", name := "text", desc := "()I" } : Jvm.MethodName) prog_1_method_32_code (2 : Nat) (Option.some Jvm.ClassFile.FieldType.int)) ∈ TW := List.mem_filter.mpr ⟨List.mem_append_right _ (List.mem_of_getElem? (i := 505) (by decide +kernel)), rfl⟩
theorem q506 : (Jvm.Cond.methodLinkNest "ToastCourt" (194 : Nat) ({ cls := "ToastCourt$Tape", name := "read", desc := "(LToastCourt$Court;)I" } : Jvm.MethodName) "ToastCourt") ∈ NW := List.mem_filter.mpr ⟨List.mem_append_right _ (List.mem_of_getElem? (i := 506) (by decide +kernel)), rfl⟩
theorem q508 : (Jvm.Cond.instanceMethod ({ cls := "ToastCourt$Tape", name := "read", desc := "(LToastCourt$Court;)I" } : Jvm.MethodName)) ∈ TW := List.mem_filter.mpr ⟨List.mem_append_right _ (List.mem_of_getElem? (i := 508) (by decide +kernel)), rfl⟩
theorem q509 : (Jvm.Cond.code ({ cls := "ToastCourt$Tape", name := "read", desc := "(LToastCourt$Court;)I" } : Jvm.MethodName) prog_5_method_3_code (3 : Nat) (Option.some Jvm.ClassFile.FieldType.int)) ∈ TW := List.mem_filter.mpr ⟨List.mem_append_right _ (List.mem_of_getElem? (i := 509) (by decide +kernel)), rfl⟩
theorem q510 : (Jvm.Cond.methodLink "ToastCourt$Tape" (31 : Nat) ({ cls := "ToastCourt$Tape", name := "step", desc := "()V" } : Jvm.MethodName)) ∈ TW := List.mem_filter.mpr ⟨List.mem_append_right _ (List.mem_of_getElem? (i := 510) (by decide +kernel)), rfl⟩
theorem q512 : (Jvm.Cond.instanceMethod ({ cls := "ToastCourt$Tape", name := "step", desc := "()V" } : Jvm.MethodName)) ∈ TW := List.mem_filter.mpr ⟨List.mem_append_right _ (List.mem_of_getElem? (i := 512) (by decide +kernel)), rfl⟩
theorem q513 : (Jvm.Cond.code ({ cls := "ToastCourt$Tape", name := "step", desc := "()V" } : Jvm.MethodName) prog_5_method_12_code (1 : Nat) (Option.none : Option Jvm.ClassFile.FieldType)) ∈ TW := List.mem_filter.mpr ⟨List.mem_append_right _ (List.mem_of_getElem? (i := 513) (by decide +kernel)), rfl⟩
theorem q514 : (Jvm.Cond.methodLink "ToastCourt$Tape" (127 : Nat) ({ cls := "ToastCourt$Tape", name := "isLetter", desc := "(I)Z" } : Jvm.MethodName)) ∈ TW := List.mem_filter.mpr ⟨List.mem_append_right _ (List.mem_of_getElem? (i := 514) (by decide +kernel)), rfl⟩
theorem q515 : (Jvm.Cond.static ({ cls := "ToastCourt$Tape", name := "isLetter", desc := "(I)Z" } : Jvm.MethodName)) ∈ TW := List.mem_filter.mpr ⟨List.mem_append_right _ (List.mem_of_getElem? (i := 515) (by decide +kernel)), rfl⟩
theorem q516 : (Jvm.Cond.code ({ cls := "ToastCourt$Tape", name := "isLetter", desc := "(I)Z" } : Jvm.MethodName) prog_5_method_13_code (1 : Nat) (Option.some Jvm.ClassFile.FieldType.boolean)) ∈ TW := List.mem_filter.mpr ⟨List.mem_append_right _ (List.mem_of_getElem? (i := 516) (by decide +kernel)), rfl⟩
theorem q517 : (Jvm.Cond.methodLink "ToastCourt$Tape" (131 : Nat) ({ cls := "ToastCourt$Tape", name := "isDigit", desc := "(I)Z" } : Jvm.MethodName)) ∈ TW := List.mem_filter.mpr ⟨List.mem_append_right _ (List.mem_of_getElem? (i := 517) (by decide +kernel)), rfl⟩
theorem q518 : (Jvm.Cond.static ({ cls := "ToastCourt$Tape", name := "isDigit", desc := "(I)Z" } : Jvm.MethodName)) ∈ TW := List.mem_filter.mpr ⟨List.mem_append_right _ (List.mem_of_getElem? (i := 518) (by decide +kernel)), rfl⟩
theorem q519 : (Jvm.Cond.code ({ cls := "ToastCourt$Tape", name := "isDigit", desc := "(I)Z" } : Jvm.MethodName) prog_5_method_14_code (1 : Nat) (Option.some Jvm.ClassFile.FieldType.boolean)) ∈ TW := List.mem_filter.mpr ⟨List.mem_append_right _ (List.mem_of_getElem? (i := 519) (by decide +kernel)), rfl⟩
theorem q520 : (Jvm.Cond.methodLink "ToastCourt$Tape" (134 : Nat) ({ cls := "java/lang/Math", name := "min", desc := "(II)I" } : Jvm.MethodName)) ∈ TW := List.mem_filter.mpr ⟨List.mem_append_right _ (List.mem_of_getElem? (i := 520) (by decide +kernel)), rfl⟩
theorem q521 : (Jvm.Cond.methodLink "ToastCourt$Tape" (34 : Nat) ({ cls := "ToastCourt$Tape", name := "readItem", desc := "(LToastCourt$Court;)Z" } : Jvm.MethodName)) ∈ TW := List.mem_filter.mpr ⟨List.mem_append_right _ (List.mem_of_getElem? (i := 521) (by decide +kernel)), rfl⟩
theorem q523 : (Jvm.Cond.instanceMethod ({ cls := "ToastCourt$Tape", name := "readItem", desc := "(LToastCourt$Court;)Z" } : Jvm.MethodName)) ∈ TW := List.mem_filter.mpr ⟨List.mem_append_right _ (List.mem_of_getElem? (i := 523) (by decide +kernel)), rfl⟩
theorem q524 : (Jvm.Cond.code ({ cls := "ToastCourt$Tape", name := "readItem", desc := "(LToastCourt$Court;)Z" } : Jvm.MethodName) prog_5_method_4_code (3 : Nat) (Option.some Jvm.ClassFile.FieldType.boolean)) ∈ TW := List.mem_filter.mpr ⟨List.mem_append_right _ (List.mem_of_getElem? (i := 524) (by decide +kernel)), rfl⟩
theorem q525 : (Jvm.Cond.methodLink "ToastCourt$Tape" (38 : Nat) ({ cls := "ToastCourt$Tape", name := "kindOfWord", desc := "()I" } : Jvm.MethodName)) ∈ TW := List.mem_filter.mpr ⟨List.mem_append_right _ (List.mem_of_getElem? (i := 525) (by decide +kernel)), rfl⟩
theorem q527 : (Jvm.Cond.instanceMethod ({ cls := "ToastCourt$Tape", name := "kindOfWord", desc := "()I" } : Jvm.MethodName)) ∈ TW := List.mem_filter.mpr ⟨List.mem_append_right _ (List.mem_of_getElem? (i := 527) (by decide +kernel)), rfl⟩
theorem q528 : (Jvm.Cond.code ({ cls := "ToastCourt$Tape", name := "kindOfWord", desc := "()I" } : Jvm.MethodName) prog_5_method_5_code (1 : Nat) (Option.some Jvm.ClassFile.FieldType.int)) ∈ TW := List.mem_filter.mpr ⟨List.mem_append_right _ (List.mem_of_getElem? (i := 528) (by decide +kernel)), rfl⟩
theorem q530 : (Jvm.Cond.methodLink "ToastCourt$Tape" (48 : Nat) ({ cls := "ToastCourt$Tape", name := "isWord", desc := "(Ljava/lang/String;)Z" } : Jvm.MethodName)) ∈ TW := List.mem_filter.mpr ⟨List.mem_append_right _ (List.mem_of_getElem? (i := 530) (by decide +kernel)), rfl⟩
theorem q532 : (Jvm.Cond.instanceMethod ({ cls := "ToastCourt$Tape", name := "isWord", desc := "(Ljava/lang/String;)Z" } : Jvm.MethodName)) ∈ TW := List.mem_filter.mpr ⟨List.mem_append_right _ (List.mem_of_getElem? (i := 532) (by decide +kernel)), rfl⟩
theorem q533 : (Jvm.Cond.code ({ cls := "ToastCourt$Tape", name := "isWord", desc := "(Ljava/lang/String;)Z" } : Jvm.MethodName) prog_5_method_11_code (3 : Nat) (Option.some Jvm.ClassFile.FieldType.boolean)) ∈ TW := List.mem_filter.mpr ⟨List.mem_append_right _ (List.mem_of_getElem? (i := 533) (by decide +kernel)), rfl⟩
theorem q534 : (Jvm.Cond.methodLink "ToastCourt$Tape" (118 : Nat) ({ cls := "java/lang/String", name := "length", desc := "()I" } : Jvm.MethodName)) ∈ TW := List.mem_filter.mpr ⟨List.mem_append_right _ (List.mem_of_getElem? (i := 534) (by decide +kernel)), rfl⟩
theorem q535 : (Jvm.Cond.instanceMethod ({ cls := "java/lang/String", name := "length", desc := "()I" } : Jvm.MethodName)) ∈ TW := List.mem_filter.mpr ⟨List.mem_append_right _ (List.mem_of_getElem? (i := 535) (by decide +kernel)), rfl⟩
theorem q536 : (Jvm.Cond.selects "java/lang/String" ({ cls := "java/lang/String", name := "length", desc := "()I" } : Jvm.MethodName) ({ cls := "java/lang/String", name := "length", desc := "()I" } : Jvm.MethodName)) ∈ TW := List.mem_filter.mpr ⟨List.mem_append_right _ (List.mem_of_getElem? (i := 536) (by decide +kernel)), rfl⟩
theorem q537 : (Jvm.Cond.code ({ cls := "java/lang/String", name := "length", desc := "()I" } : Jvm.MethodName) prog_10_method_54_code (1 : Nat) (Option.some Jvm.ClassFile.FieldType.int)) ∈ TW := List.mem_filter.mpr ⟨List.mem_append_right _ (List.mem_of_getElem? (i := 537) (by decide +kernel)), rfl⟩
theorem q538 : (Jvm.Cond.methodLink "java/lang/String" (335 : Nat) ({ cls := "java/lang/String", name := "coder", desc := "()B" } : Jvm.MethodName)) ∈ TW := List.mem_filter.mpr ⟨List.mem_append_right _ (List.mem_of_getElem? (i := 538) (by decide +kernel)), rfl⟩
theorem q539 : (Jvm.Cond.instanceMethod ({ cls := "java/lang/String", name := "coder", desc := "()B" } : Jvm.MethodName)) ∈ TW := List.mem_filter.mpr ⟨List.mem_append_right _ (List.mem_of_getElem? (i := 539) (by decide +kernel)), rfl⟩
theorem q540 : (Jvm.Cond.selects "java/lang/String" ({ cls := "java/lang/String", name := "coder", desc := "()B" } : Jvm.MethodName) ({ cls := "java/lang/String", name := "coder", desc := "()B" } : Jvm.MethodName)) ∈ TW := List.mem_filter.mpr ⟨List.mem_append_right _ (List.mem_of_getElem? (i := 540) (by decide +kernel)), rfl⟩
theorem q541 : (Jvm.Cond.code ({ cls := "java/lang/String", name := "coder", desc := "()B" } : Jvm.MethodName) prog_10_method_152_code (1 : Nat) (Option.some Jvm.ClassFile.FieldType.byte)) ∈ TW := List.mem_filter.mpr ⟨List.mem_append_right _ (List.mem_of_getElem? (i := 541) (by decide +kernel)), rfl⟩
theorem q542 : (Jvm.Cond.fieldLink "java/lang/String" (38 : Nat) "java/lang/String" "COMPACT_STRINGS" "Z") ∈ TW := List.mem_filter.mpr ⟨List.mem_append_right _ (List.mem_of_getElem? (i := 542) (by decide +kernel)), rfl⟩
theorem q544 : (Jvm.Cond.methodLink "ToastCourt$Tape" (123 : Nat) ({ cls := "java/lang/String", name := "charAt", desc := "(I)C" } : Jvm.MethodName)) ∈ TW := List.mem_filter.mpr ⟨List.mem_append_right _ (List.mem_of_getElem? (i := 544) (by decide +kernel)), rfl⟩
theorem q545 : (Jvm.Cond.instanceMethod ({ cls := "java/lang/String", name := "charAt", desc := "(I)C" } : Jvm.MethodName)) ∈ TW := List.mem_filter.mpr ⟨List.mem_append_right _ (List.mem_of_getElem? (i := 545) (by decide +kernel)), rfl⟩
theorem q546 : (Jvm.Cond.selects "java/lang/String" ({ cls := "java/lang/String", name := "charAt", desc := "(I)C" } : Jvm.MethodName) ({ cls := "java/lang/String", name := "charAt", desc := "(I)C" } : Jvm.MethodName)) ∈ TW := List.mem_filter.mpr ⟨List.mem_append_right _ (List.mem_of_getElem? (i := 546) (by decide +kernel)), rfl⟩
theorem q547 : (Jvm.Cond.code ({ cls := "java/lang/String", name := "charAt", desc := "(I)C" } : Jvm.MethodName) prog_10_method_56_code (2 : Nat) (Option.some Jvm.ClassFile.FieldType.char)) ∈ TW := List.mem_filter.mpr ⟨List.mem_append_right _ (List.mem_of_getElem? (i := 547) (by decide +kernel)), rfl⟩
theorem q548 : (Jvm.Cond.methodLink "java/lang/String" (492 : Nat) ({ cls := "java/lang/String", name := "isLatin1", desc := "()Z" } : Jvm.MethodName)) ∈ TW := List.mem_filter.mpr ⟨List.mem_append_right _ (List.mem_of_getElem? (i := 548) (by decide +kernel)), rfl⟩
theorem q549 : (Jvm.Cond.instanceMethod ({ cls := "java/lang/String", name := "isLatin1", desc := "()Z" } : Jvm.MethodName)) ∈ TW := List.mem_filter.mpr ⟨List.mem_append_right _ (List.mem_of_getElem? (i := 549) (by decide +kernel)), rfl⟩
theorem q550 : (Jvm.Cond.selects "java/lang/String" ({ cls := "java/lang/String", name := "isLatin1", desc := "()Z" } : Jvm.MethodName) ({ cls := "java/lang/String", name := "isLatin1", desc := "()Z" } : Jvm.MethodName)) ∈ TW := List.mem_filter.mpr ⟨List.mem_append_right _ (List.mem_of_getElem? (i := 550) (by decide +kernel)), rfl⟩
theorem q551 : (Jvm.Cond.code ({ cls := "java/lang/String", name := "isLatin1", desc := "()Z" } : Jvm.MethodName) prog_10_method_154_code (1 : Nat) (Option.some Jvm.ClassFile.FieldType.boolean)) ∈ TW := List.mem_filter.mpr ⟨List.mem_append_right _ (List.mem_of_getElem? (i := 551) (by decide +kernel)), rfl⟩
theorem q552 : (Jvm.Cond.methodLink "java/lang/String" (495 : Nat) ({ cls := "java/lang/StringLatin1", name := "charAt", desc := "([BI)C" } : Jvm.MethodName)) ∈ TW := List.mem_filter.mpr ⟨List.mem_append_right _ (List.mem_of_getElem? (i := 552) (by decide +kernel)), rfl⟩
theorem q553 : (Jvm.Cond.static ({ cls := "java/lang/StringLatin1", name := "charAt", desc := "([BI)C" } : Jvm.MethodName)) ∈ TW := List.mem_filter.mpr ⟨List.mem_append_right _ (List.mem_of_getElem? (i := 553) (by decide +kernel)), rfl⟩
theorem q554 : (Jvm.Cond.code ({ cls := "java/lang/StringLatin1", name := "charAt", desc := "([BI)C" } : Jvm.MethodName) prog_11_method_2_code (2 : Nat) (Option.some Jvm.ClassFile.FieldType.char)) ∈ TW := List.mem_filter.mpr ⟨List.mem_append_right _ (List.mem_of_getElem? (i := 554) (by decide +kernel)), rfl⟩
theorem q555 : (Jvm.Cond.methodLink "java/lang/StringLatin1" (9 : Nat) ({ cls := "java/lang/String", name := "checkIndex", desc := "(II)V" } : Jvm.MethodName)) ∈ TW := List.mem_filter.mpr ⟨List.mem_append_right _ (List.mem_of_getElem? (i := 555) (by decide +kernel)), rfl⟩
theorem q556 : (Jvm.Cond.static ({ cls := "java/lang/String", name := "checkIndex", desc := "(II)V" } : Jvm.MethodName)) ∈ TW := List.mem_filter.mpr ⟨List.mem_append_right _ (List.mem_of_getElem? (i := 556) (by decide +kernel)), rfl⟩
theorem q557 : (Jvm.Cond.code ({ cls := "java/lang/String", name := "checkIndex", desc := "(II)V" } : Jvm.MethodName) prog_10_method_155_code (2 : Nat) (Option.none : Option Jvm.ClassFile.FieldType)) ∈ TW := List.mem_filter.mpr ⟨List.mem_append_right _ (List.mem_of_getElem? (i := 557) (by decide +kernel)), rfl⟩
theorem q558 : (Jvm.Cond.fieldLink "java/lang/String" (1053 : Nat) "jdk/internal/util/Preconditions" "SIOOBE_FORMATTER" "Ljava/util/function/BiFunction;") ∈ TW := List.mem_filter.mpr ⟨List.mem_append_right _ (List.mem_of_getElem? (i := 558) (by decide +kernel)), rfl⟩
theorem q560 : (Jvm.Cond.methodLink "java/lang/String" (1059 : Nat) ({ cls := "jdk/internal/util/Preconditions", name := "checkIndex", desc := "(IILjava/util/function/BiFunction;)I" } : Jvm.MethodName)) ∈ TW := List.mem_filter.mpr ⟨List.mem_append_right _ (List.mem_of_getElem? (i := 560) (by decide +kernel)), rfl⟩
theorem q561 : (Jvm.Cond.static ({ cls := "jdk/internal/util/Preconditions", name := "checkIndex", desc := "(IILjava/util/function/BiFunction;)I" } : Jvm.MethodName)) ∈ TW := List.mem_filter.mpr ⟨List.mem_append_right _ (List.mem_of_getElem? (i := 561) (by decide +kernel)), rfl⟩
theorem q562 : (Jvm.Cond.code ({ cls := "jdk/internal/util/Preconditions", name := "checkIndex", desc := "(IILjava/util/function/BiFunction;)I" } : Jvm.MethodName) prog_14_method_11_code (3 : Nat) (Option.some Jvm.ClassFile.FieldType.int)) ∈ TW := List.mem_filter.mpr ⟨List.mem_append_right _ (List.mem_of_getElem? (i := 562) (by decide +kernel)), rfl⟩
theorem q563 : (Jvm.Cond.methodLink "java/lang/String" (498 : Nat) ({ cls := "java/lang/StringUTF16", name := "charAt", desc := "([BI)C" } : Jvm.MethodName)) ∈ TW := List.mem_filter.mpr ⟨List.mem_append_right _ (List.mem_of_getElem? (i := 563) (by decide +kernel)), rfl⟩
theorem q564 : (Jvm.Cond.static ({ cls := "java/lang/StringUTF16", name := "charAt", desc := "([BI)C" } : Jvm.MethodName)) ∈ TW := List.mem_filter.mpr ⟨List.mem_append_right _ (List.mem_of_getElem? (i := 564) (by decide +kernel)), rfl⟩
theorem q565 : (Jvm.Cond.code ({ cls := "java/lang/StringUTF16", name := "charAt", desc := "([BI)C" } : Jvm.MethodName) prog_12_method_83_code (2 : Nat) (Option.some Jvm.ClassFile.FieldType.char)) ∈ TW := List.mem_filter.mpr ⟨List.mem_append_right _ (List.mem_of_getElem? (i := 565) (by decide +kernel)), rfl⟩
theorem q566 : (Jvm.Cond.methodLink "java/lang/StringUTF16" (67 : Nat) ({ cls := "java/lang/StringUTF16", name := "checkIndex", desc := "(I[B)V" } : Jvm.MethodName)) ∈ TW := List.mem_filter.mpr ⟨List.mem_append_right _ (List.mem_of_getElem? (i := 566) (by decide +kernel)), rfl⟩
theorem q567 : (Jvm.Cond.static ({ cls := "java/lang/StringUTF16", name := "checkIndex", desc := "(I[B)V" } : Jvm.MethodName)) ∈ TW := List.mem_filter.mpr ⟨List.mem_append_right _ (List.mem_of_getElem? (i := 567) (by decide +kernel)), rfl⟩
theorem q568 : (Jvm.Cond.code ({ cls := "java/lang/StringUTF16", name := "checkIndex", desc := "(I[B)V" } : Jvm.MethodName) prog_12_method_91_code (2 : Nat) (Option.none : Option Jvm.ClassFile.FieldType)) ∈ TW := List.mem_filter.mpr ⟨List.mem_append_right _ (List.mem_of_getElem? (i := 568) (by decide +kernel)), rfl⟩
theorem q569 : (Jvm.Cond.methodLink "java/lang/StringUTF16" (48 : Nat) ({ cls := "java/lang/StringUTF16", name := "length", desc := "([B)I" } : Jvm.MethodName)) ∈ TW := List.mem_filter.mpr ⟨List.mem_append_right _ (List.mem_of_getElem? (i := 569) (by decide +kernel)), rfl⟩
theorem q570 : (Jvm.Cond.static ({ cls := "java/lang/StringUTF16", name := "length", desc := "([B)I" } : Jvm.MethodName)) ∈ TW := List.mem_filter.mpr ⟨List.mem_append_right _ (List.mem_of_getElem? (i := 570) (by decide +kernel)), rfl⟩
theorem q571 : (Jvm.Cond.code ({ cls := "java/lang/StringUTF16", name := "length", desc := "([B)I" } : Jvm.MethodName) prog_12_method_6_code (1 : Nat) (Option.some Jvm.ClassFile.FieldType.int)) ∈ TW := List.mem_filter.mpr ⟨List.mem_append_right _ (List.mem_of_getElem? (i := 571) (by decide +kernel)), rfl⟩
theorem q572 : (Jvm.Cond.methodLink "java/lang/StringUTF16" (414 : Nat) ({ cls := "java/lang/String", name := "checkIndex", desc := "(II)V" } : Jvm.MethodName)) ∈ TW := List.mem_filter.mpr ⟨List.mem_append_right _ (List.mem_of_getElem? (i := 572) (by decide +kernel)), rfl⟩
theorem q573 : (Jvm.Cond.methodLink "java/lang/StringUTF16" (71 : Nat) ({ cls := "java/lang/StringUTF16", name := "getChar", desc := "([BI)C" } : Jvm.MethodName)) ∈ TW := List.mem_filter.mpr ⟨List.mem_append_right _ (List.mem_of_getElem? (i := 573) (by decide +kernel)), rfl⟩
theorem q574 : (Jvm.Cond.static ({ cls := "java/lang/StringUTF16", name := "getChar", desc := "([BI)C" } : Jvm.MethodName)) ∈ TW := List.mem_filter.mpr ⟨List.mem_append_right _ (List.mem_of_getElem? (i := 574) (by decide +kernel)), rfl⟩
theorem q575 : (Jvm.Cond.code ({ cls := "java/lang/StringUTF16", name := "getChar", desc := "([BI)C" } : Jvm.MethodName) prog_12_method_5_code (2 : Nat) (Option.some Jvm.ClassFile.FieldType.char)) ∈ TW := List.mem_filter.mpr ⟨List.mem_append_right _ (List.mem_of_getElem? (i := 575) (by decide +kernel)), rfl⟩
theorem q576 : (Jvm.Cond.fieldLink "java/lang/StringUTF16" (44 : Nat) "java/lang/StringUTF16" "$assertionsDisabled" "Z") ∈ TW := List.mem_filter.mpr ⟨List.mem_append_right _ (List.mem_of_getElem? (i := 576) (by decide +kernel)), rfl⟩
theorem q578 : (Jvm.Cond.fieldLink "java/lang/StringUTF16" (59 : Nat) "java/lang/StringUTF16" "HI_BYTE_SHIFT" "I") ∈ TW := List.mem_filter.mpr ⟨List.mem_append_right _ (List.mem_of_getElem? (i := 578) (by decide +kernel)), rfl⟩
theorem q580 : (Jvm.Cond.fieldLink "java/lang/StringUTF16" (63 : Nat) "java/lang/StringUTF16" "LO_BYTE_SHIFT" "I") ∈ TW := List.mem_filter.mpr ⟨List.mem_append_right _ (List.mem_of_getElem? (i := 580) (by decide +kernel)), rfl⟩
theorem q588 : (Jvm.Cond.methodLink "ToastCourt$Tape" (42 : Nat) ({ cls := "ToastCourt$Tape", name := "readDisputant", desc := "(LToastCourt$Court;I)Z" } : Jvm.MethodName)) ∈ TW := List.mem_filter.mpr ⟨List.mem_append_right _ (List.mem_of_getElem? (i := 588) (by decide +kernel)), rfl⟩
theorem q590 : (Jvm.Cond.instanceMethod ({ cls := "ToastCourt$Tape", name := "readDisputant", desc := "(LToastCourt$Court;I)Z" } : Jvm.MethodName)) ∈ TW := List.mem_filter.mpr ⟨List.mem_append_right _ (List.mem_of_getElem? (i := 590) (by decide +kernel)), rfl⟩
theorem q591 : (Jvm.Cond.code ({ cls := "ToastCourt$Tape", name := "readDisputant", desc := "(LToastCourt$Court;I)Z" } : Jvm.MethodName) prog_5_method_6_code (4 : Nat) (Option.some Jvm.ClassFile.FieldType.boolean)) ∈ TW := List.mem_filter.mpr ⟨List.mem_append_right _ (List.mem_of_getElem? (i := 591) (by decide +kernel)), rfl⟩
theorem q592 : (Jvm.Cond.methodLinkNest "ToastCourt$Tape" (81 : Nat) ({ cls := "ToastCourt$Court", name := "isFull", desc := "()Z" } : Jvm.MethodName) "ToastCourt") ∈ NW := List.mem_filter.mpr ⟨List.mem_append_right _ (List.mem_of_getElem? (i := 592) (by decide +kernel)), rfl⟩
theorem q593 : (Jvm.Cond.methodLinkNest "ToastCourt$Tape" (91 : Nat) ({ cls := "ToastCourt$Court", name := lw_nmA, desc := "(II)I" } : Jvm.MethodName) "ToastCourt") ∈ NW := List.mem_filter.mpr ⟨List.mem_append_right _ (List.mem_of_getElem? (i := 593) (by decide +kernel)), rfl⟩
theorem q595 : (Jvm.Cond.methodLink "ToastCourt$Tape" (97 : Nat) ({ cls := "ToastCourt$Tape", name := "stepsToNumber", desc := "(II)Z" } : Jvm.MethodName)) ∈ TW := List.mem_filter.mpr ⟨List.mem_append_right _ (List.mem_of_getElem? (i := 595) (by decide +kernel)), rfl⟩
theorem q597 : (Jvm.Cond.instanceMethod ({ cls := "ToastCourt$Tape", name := "stepsToNumber", desc := "(II)Z" } : Jvm.MethodName)) ∈ TW := List.mem_filter.mpr ⟨List.mem_append_right _ (List.mem_of_getElem? (i := 597) (by decide +kernel)), rfl⟩
theorem q598 : (Jvm.Cond.code ({ cls := "ToastCourt$Tape", name := "stepsToNumber", desc := "(II)Z" } : Jvm.MethodName) prog_5_method_10_code (3 : Nat) (Option.some Jvm.ClassFile.FieldType.boolean)) ∈ TW := List.mem_filter.mpr ⟨List.mem_append_right _ (List.mem_of_getElem? (i := 598) (by decide +kernel)), rfl⟩
theorem q602 : (Jvm.Cond.methodLink "ToastCourt$Tape" (52 : Nat) ({ cls := "ToastCourt$Tape", name := "readDispute", desc := "(LToastCourt$Court;)Z" } : Jvm.MethodName)) ∈ TW := List.mem_filter.mpr ⟨List.mem_append_right _ (List.mem_of_getElem? (i := 602) (by decide +kernel)), rfl⟩
theorem q604 : (Jvm.Cond.instanceMethod ({ cls := "ToastCourt$Tape", name := "readDispute", desc := "(LToastCourt$Court;)Z" } : Jvm.MethodName)) ∈ TW := List.mem_filter.mpr ⟨List.mem_append_right _ (List.mem_of_getElem? (i := 604) (by decide +kernel)), rfl⟩
theorem q605 : (Jvm.Cond.code ({ cls := "ToastCourt$Tape", name := "readDispute", desc := "(LToastCourt$Court;)Z" } : Jvm.MethodName) prog_5_method_7_code (4 : Nat) (Option.some Jvm.ClassFile.FieldType.boolean)) ∈ TW := List.mem_filter.mpr ⟨List.mem_append_right _ (List.mem_of_getElem? (i := 605) (by decide +kernel)), rfl⟩
theorem q607 : (Jvm.Cond.methodLink "ToastCourt$Tape" (57 : Nat) ({ cls := "ToastCourt$Tape", name := "readHeight", desc := "(LToastCourt$Court;)Z" } : Jvm.MethodName)) ∈ TW := List.mem_filter.mpr ⟨List.mem_append_right _ (List.mem_of_getElem? (i := 607) (by decide +kernel)), rfl⟩
theorem q609 : (Jvm.Cond.instanceMethod ({ cls := "ToastCourt$Tape", name := "readHeight", desc := "(LToastCourt$Court;)Z" } : Jvm.MethodName)) ∈ TW := List.mem_filter.mpr ⟨List.mem_append_right _ (List.mem_of_getElem? (i := 609) (by decide +kernel)), rfl⟩
theorem q610 : (Jvm.Cond.code ({ cls := "ToastCourt$Tape", name := "readHeight", desc := "(LToastCourt$Court;)Z" } : Jvm.MethodName) prog_5_method_8_code (2 : Nat) (Option.some Jvm.ClassFile.FieldType.boolean)) ∈ TW := List.mem_filter.mpr ⟨List.mem_append_right _ (List.mem_of_getElem? (i := 610) (by decide +kernel)), rfl⟩
theorem q612 : (Jvm.Cond.methodLink "ToastCourt$Tape" (62 : Nat) ({ cls := "ToastCourt$Tape", name := "readSpread", desc := "(LToastCourt$Court;)Z" } : Jvm.MethodName)) ∈ TW := List.mem_filter.mpr ⟨List.mem_append_right _ (List.mem_of_getElem? (i := 612) (by decide +kernel)), rfl⟩
theorem q614 : (Jvm.Cond.instanceMethod ({ cls := "ToastCourt$Tape", name := "readSpread", desc := "(LToastCourt$Court;)Z" } : Jvm.MethodName)) ∈ TW := List.mem_filter.mpr ⟨List.mem_append_right _ (List.mem_of_getElem? (i := 614) (by decide +kernel)), rfl⟩
theorem q615 : (Jvm.Cond.code ({ cls := "ToastCourt$Tape", name := "readSpread", desc := "(LToastCourt$Court;)Z" } : Jvm.MethodName) prog_5_method_9_code (2 : Nat) (Option.some Jvm.ClassFile.FieldType.boolean)) ∈ TW := List.mem_filter.mpr ⟨List.mem_append_right _ (List.mem_of_getElem? (i := 615) (by decide +kernel)), rfl⟩
theorem q616 : (Jvm.Cond.arrayClass Jvm.ClassFile.FieldType.byte) ∈ TW := List.mem_filter.mpr ⟨List.mem_append_right _ (List.mem_of_getElem? (i := 616) (by decide +kernel)), rfl⟩
theorem q617 : (Jvm.Cond.methodLink "ToastCourtLaw" (142 : Nat) ({ cls := "ToastCourt", name := "hold", desc := "(II)I" } : Jvm.MethodName)) ∈ TW := List.mem_filter.mpr ⟨List.mem_append_right _ (List.mem_of_getElem? (i := 617) (by decide +kernel)), rfl⟩
theorem q618 : (Jvm.Cond.instanceMethod ({ cls := "ToastCourt", name := "hold", desc := "(II)I" } : Jvm.MethodName)) ∈ TW := List.mem_filter.mpr ⟨List.mem_append_right _ (List.mem_of_getElem? (i := 618) (by decide +kernel)), rfl⟩
theorem q619 : (Jvm.Cond.selects "ToastCourt" ({ cls := "ToastCourt", name := "hold", desc := "(II)I" } : Jvm.MethodName) ({ cls := "ToastCourt", name := "hold", desc := "(II)I" } : Jvm.MethodName)) ∈ TW := List.mem_filter.mpr ⟨List.mem_append_right _ (List.mem_of_getElem? (i := 619) (by decide +kernel)), rfl⟩
theorem q620 : (Jvm.Cond.code ({ cls := "ToastCourt", name := "hold", desc := "(II)I" } : Jvm.MethodName) prog_1_method_33_code (3 : Nat) (Option.some Jvm.ClassFile.FieldType.int)) ∈ TW := List.mem_filter.mpr ⟨List.mem_append_right _ (List.mem_of_getElem? (i := 620) (by decide +kernel)), rfl⟩
theorem q621 : (Jvm.Cond.methodLink "ToastCourtLaw" (146 : Nat) ({ cls := "ToastCourt", name := "as", desc := "(II)I" } : Jvm.MethodName)) ∈ TW := List.mem_filter.mpr ⟨List.mem_append_right _ (List.mem_of_getElem? (i := 621) (by decide +kernel)), rfl⟩
theorem q622 : (Jvm.Cond.instanceMethod ({ cls := "ToastCourt", name := "as", desc := "(II)I" } : Jvm.MethodName)) ∈ TW := List.mem_filter.mpr ⟨List.mem_append_right _ (List.mem_of_getElem? (i := 622) (by decide +kernel)), rfl⟩
theorem q623 : (Jvm.Cond.selects "ToastCourt" ({ cls := "ToastCourt", name := "as", desc := "(II)I" } : Jvm.MethodName) ({ cls := "ToastCourt", name := "as", desc := "(II)I" } : Jvm.MethodName)) ∈ TW := List.mem_filter.mpr ⟨List.mem_append_right _ (List.mem_of_getElem? (i := 623) (by decide +kernel)), rfl⟩
theorem q624 : (Jvm.Cond.code ({ cls := "ToastCourt", name := "as", desc := "(II)I" } : Jvm.MethodName) prog_1_method_34_code (4 : Nat) (Option.some Jvm.ClassFile.FieldType.int)) ∈ TW := List.mem_filter.mpr ⟨List.mem_append_right _ (List.mem_of_getElem? (i := 624) (by decide +kernel)), rfl⟩
theorem q625 : (Jvm.Cond.methodLinkNest "ToastCourt" (202 : Nat) ({ cls := "ToastCourt$Disputant", name := "isOne", desc := "(I)Z" } : Jvm.MethodName) "ToastCourt") ∈ NW := List.mem_filter.mpr ⟨List.mem_append_right _ (List.mem_of_getElem? (i := 625) (by decide +kernel)), rfl⟩
theorem q627 : (Jvm.Cond.instanceMethod ({ cls := "ToastCourt$Disputant", name := "isOne", desc := "(I)Z" } : Jvm.MethodName)) ∈ TW := List.mem_filter.mpr ⟨List.mem_append_right _ (List.mem_of_getElem? (i := 627) (by decide +kernel)), rfl⟩
theorem q628 : (Jvm.Cond.code ({ cls := "ToastCourt$Disputant", name := "isOne", desc := "(I)Z" } : Jvm.MethodName) prog_3_method_7_code (2 : Nat) (Option.some Jvm.ClassFile.FieldType.boolean)) ∈ TW := List.mem_filter.mpr ⟨List.mem_append_right _ (List.mem_of_getElem? (i := 628) (by decide +kernel)), rfl⟩
theorem q629 : (Jvm.Cond.constant "ToastCourt" (205 : Nat) (-1000003 : Int32)) ∈ TW := List.mem_filter.mpr ⟨List.mem_append_right _ (List.mem_of_getElem? (i := 629) (by decide +kernel)), rfl⟩
theorem q630 : (Jvm.Cond.methodLink "ToastCourtLaw" (150 : Nat) ({ cls := "ToastCourt", name := "sheet", desc := "(III)I" } : Jvm.MethodName)) ∈ TW := List.mem_filter.mpr ⟨List.mem_append_right _ (List.mem_of_getElem? (i := 630) (by decide +kernel)), rfl⟩
theorem q631 : (Jvm.Cond.instanceMethod ({ cls := "ToastCourt", name := "sheet", desc := "(III)I" } : Jvm.MethodName)) ∈ TW := List.mem_filter.mpr ⟨List.mem_append_right _ (List.mem_of_getElem? (i := 631) (by decide +kernel)), rfl⟩
theorem q632 : (Jvm.Cond.selects "ToastCourt" ({ cls := "ToastCourt", name := "sheet", desc := "(III)I" } : Jvm.MethodName) ({ cls := "ToastCourt", name := "sheet", desc := "(III)I" } : Jvm.MethodName)) ∈ TW := List.mem_filter.mpr ⟨List.mem_append_right _ (List.mem_of_getElem? (i := 632) (by decide +kernel)), rfl⟩
theorem q633 : (Jvm.Cond.code ({ cls := "ToastCourt", name := "sheet", desc := "(III)I" } : Jvm.MethodName) prog_1_method_35_code (5 : Nat) (Option.some Jvm.ClassFile.FieldType.int)) ∈ TW := List.mem_filter.mpr ⟨List.mem_append_right _ (List.mem_of_getElem? (i := 633) (by decide +kernel)), rfl⟩
theorem q634 : (Jvm.Cond.constant "ToastCourt" (209 : Nat) (-1000007 : Int32)) ∈ TW := List.mem_filter.mpr ⟨List.mem_append_right _ (List.mem_of_getElem? (i := 634) (by decide +kernel)), rfl⟩
theorem q635 : (Jvm.Cond.methodLinkNest "ToastCourt" (210 : Nat) ({ cls := "ToastCourt$Sheet", name := "renew", desc := "(II)V" } : Jvm.MethodName) "ToastCourt") ∈ NW := List.mem_filter.mpr ⟨List.mem_append_right _ (List.mem_of_getElem? (i := 635) (by decide +kernel)), rfl⟩
theorem q637 : (Jvm.Cond.instanceMethod ({ cls := "ToastCourt$Sheet", name := "renew", desc := "(II)V" } : Jvm.MethodName)) ∈ TW := List.mem_filter.mpr ⟨List.mem_append_right _ (List.mem_of_getElem? (i := 637) (by decide +kernel)), rfl⟩
theorem q638 : (Jvm.Cond.code ({ cls := "ToastCourt$Sheet", name := "renew", desc := "(II)V" } : Jvm.MethodName) prog_4_method_3_code (4 : Nat) (Option.none : Option Jvm.ClassFile.FieldType)) ∈ TW := List.mem_filter.mpr ⟨List.mem_append_right _ (List.mem_of_getElem? (i := 638) (by decide +kernel)), rfl⟩
theorem q639 : (Jvm.Cond.methodLink "ToastCourtLaw" (154 : Nat) ({ cls := "ToastCourt", name := "write", desc := "(III)I" } : Jvm.MethodName)) ∈ TW := List.mem_filter.mpr ⟨List.mem_append_right _ (List.mem_of_getElem? (i := 639) (by decide +kernel)), rfl⟩
theorem q640 : (Jvm.Cond.instanceMethod ({ cls := "ToastCourt", name := "write", desc := "(III)I" } : Jvm.MethodName)) ∈ TW := List.mem_filter.mpr ⟨List.mem_append_right _ (List.mem_of_getElem? (i := 640) (by decide +kernel)), rfl⟩
theorem q641 : (Jvm.Cond.selects "ToastCourt" ({ cls := "ToastCourt", name := "write", desc := "(III)I" } : Jvm.MethodName) ({ cls := "ToastCourt", name := "write", desc := "(III)I" } : Jvm.MethodName)) ∈ TW := List.mem_filter.mpr ⟨List.mem_append_right _ (List.mem_of_getElem? (i := 641) (by decide +kernel)), rfl⟩
theorem q642 : (Jvm.Cond.code ({ cls := "ToastCourt", name := "write", desc := "(III)I" } : Jvm.MethodName) prog_1_method_36_code (5 : Nat) (Option.some Jvm.ClassFile.FieldType.int)) ∈ TW := List.mem_filter.mpr ⟨List.mem_append_right _ (List.mem_of_getElem? (i := 642) (by decide +kernel)), rfl⟩
theorem q643 : (Jvm.Cond.methodLinkNest "ToastCourt" (217 : Nat) ({ cls := "ToastCourt$Sheet", name := "put", desc := "(II)V" } : Jvm.MethodName) "ToastCourt") ∈ NW := List.mem_filter.mpr ⟨List.mem_append_right _ (List.mem_of_getElem? (i := 643) (by decide +kernel)), rfl⟩
theorem q645 : (Jvm.Cond.instanceMethod ({ cls := "ToastCourt$Sheet", name := "put", desc := "(II)V" } : Jvm.MethodName)) ∈ TW := List.mem_filter.mpr ⟨List.mem_append_right _ (List.mem_of_getElem? (i := 645) (by decide +kernel)), rfl⟩
theorem q646 : (Jvm.Cond.code ({ cls := "ToastCourt$Sheet", name := "put", desc := "(II)V" } : Jvm.MethodName) prog_4_method_4_code (3 : Nat) (Option.none : Option Jvm.ClassFile.FieldType)) ∈ TW := List.mem_filter.mpr ⟨List.mem_append_right _ (List.mem_of_getElem? (i := 646) (by decide +kernel)), rfl⟩
theorem q647 : (Jvm.Cond.methodLink "ToastCourtLaw" (158 : Nat) ({ cls := "ToastCourt", name := "copy", desc := "(IIIII)I" } : Jvm.MethodName)) ∈ TW := List.mem_filter.mpr ⟨List.mem_append_right _ (List.mem_of_getElem? (i := 647) (by decide +kernel)), rfl⟩
theorem q648 : (Jvm.Cond.instanceMethod ({ cls := "ToastCourt", name := "copy", desc := "(IIIII)I" } : Jvm.MethodName)) ∈ TW := List.mem_filter.mpr ⟨List.mem_append_right _ (List.mem_of_getElem? (i := 648) (by decide +kernel)), rfl⟩
theorem q649 : (Jvm.Cond.selects "ToastCourt" ({ cls := "ToastCourt", name := "copy", desc := "(IIIII)I" } : Jvm.MethodName) ({ cls := "ToastCourt", name := "copy", desc := "(IIIII)I" } : Jvm.MethodName)) ∈ TW := List.mem_filter.mpr ⟨List.mem_append_right _ (List.mem_of_getElem? (i := 649) (by decide +kernel)), rfl⟩
theorem q650 : (Jvm.Cond.code ({ cls := "ToastCourt", name := "copy", desc := "(IIIII)I" } : Jvm.MethodName) prog_1_method_37_code (8 : Nat) (Option.some Jvm.ClassFile.FieldType.int)) ∈ TW := List.mem_filter.mpr ⟨List.mem_append_right _ (List.mem_of_getElem? (i := 650) (by decide +kernel)), rfl⟩
theorem q651 : (Jvm.Cond.methodLinkNest "ToastCourt" (224 : Nat) ({ cls := "ToastCourt$Sheet", name := "hasRow", desc := "(II)Z" } : Jvm.MethodName) "ToastCourt") ∈ NW := List.mem_filter.mpr ⟨List.mem_append_right _ (List.mem_of_getElem? (i := 651) (by decide +kernel)), rfl⟩
theorem q653 : (Jvm.Cond.instanceMethod ({ cls := "ToastCourt$Sheet", name := "hasRow", desc := "(II)Z" } : Jvm.MethodName)) ∈ TW := List.mem_filter.mpr ⟨List.mem_append_right _ (List.mem_of_getElem? (i := 653) (by decide +kernel)), rfl⟩
theorem q654 : (Jvm.Cond.code ({ cls := "ToastCourt$Sheet", name := "hasRow", desc := "(II)Z" } : Jvm.MethodName) prog_4_method_5_code (3 : Nat) (Option.some Jvm.ClassFile.FieldType.boolean)) ∈ TW := List.mem_filter.mpr ⟨List.mem_append_right _ (List.mem_of_getElem? (i := 654) (by decide +kernel)), rfl⟩
theorem q655 : (Jvm.Cond.methodLink "ToastCourt" (230 : Nat) ({ cls := "java/lang/System", name := "arraycopy", desc := "(Ljava/lang/Object;ILjava/lang/Object;II)V" } : Jvm.MethodName)) ∈ TW := List.mem_filter.mpr ⟨List.mem_append_right _ (List.mem_of_getElem? (i := 655) (by decide +kernel)), rfl⟩
theorem q656 : (Jvm.Cond.methodLink "ToastCourtLaw" (163 : Nat) ({ cls := "ToastCourt", name := "load", desc := "(I)I" } : Jvm.MethodName)) ∈ TW := List.mem_filter.mpr ⟨List.mem_append_right _ (List.mem_of_getElem? (i := 656) (by decide +kernel)), rfl⟩
theorem q657 : (Jvm.Cond.instanceMethod ({ cls := "ToastCourt", name := "load", desc := "(I)I" } : Jvm.MethodName)) ∈ TW := List.mem_filter.mpr ⟨List.mem_append_right _ (List.mem_of_getElem? (i := 657) (by decide +kernel)), rfl⟩
theorem q658 : (Jvm.Cond.selects "ToastCourt" ({ cls := "ToastCourt", name := "load", desc := "(I)I" } : Jvm.MethodName) ({ cls := "ToastCourt", name := "load", desc := "(I)I" } : Jvm.MethodName)) ∈ TW := List.mem_filter.mpr ⟨List.mem_append_right _ (List.mem_of_getElem? (i := 658) (by decide +kernel)), rfl⟩
theorem q659 : (Jvm.Cond.code ({ cls := "ToastCourt", name := "load", desc := "(I)I" } : Jvm.MethodName) prog_1_method_38_code (5 : Nat) (Option.some Jvm.ClassFile.FieldType.int)) ∈ TW := List.mem_filter.mpr ⟨List.mem_append_right _ (List.mem_of_getElem? (i := 659) (by decide +kernel)), rfl⟩
theorem q660 : (Jvm.Cond.methodLink "ToastCourtLaw" (167 : Nat) ({ cls := "ToastCourt", name := "judge", desc := "(I)I" } : Jvm.MethodName)) ∈ TW := List.mem_filter.mpr ⟨List.mem_append_right _ (List.mem_of_getElem? (i := 660) (by decide +kernel)), rfl⟩
theorem q661 : (Jvm.Cond.instanceMethod ({ cls := "ToastCourt", name := "judge", desc := "(I)I" } : Jvm.MethodName)) ∈ TW := List.mem_filter.mpr ⟨List.mem_append_right _ (List.mem_of_getElem? (i := 661) (by decide +kernel)), rfl⟩
theorem q662 : (Jvm.Cond.selects "ToastCourt" ({ cls := "ToastCourt", name := "judge", desc := "(I)I" } : Jvm.MethodName) ({ cls := "ToastCourt", name := "judge", desc := "(I)I" } : Jvm.MethodName)) ∈ TW := List.mem_filter.mpr ⟨List.mem_append_right _ (List.mem_of_getElem? (i := 662) (by decide +kernel)), rfl⟩
theorem q663 : (Jvm.Cond.code ({ cls := "ToastCourt", name := "judge", desc := "(I)I" } : Jvm.MethodName) prog_1_method_39_code (5 : Nat) (Option.some Jvm.ClassFile.FieldType.int)) ∈ TW := List.mem_filter.mpr ⟨List.mem_append_right _ (List.mem_of_getElem? (i := 663) (by decide +kernel)), rfl⟩
theorem q664 : (Jvm.Cond.methodLink "ToastCourtLaw" (171 : Nat) ({ cls := "ToastCourt", name := "image", desc := "()I" } : Jvm.MethodName)) ∈ TW := List.mem_filter.mpr ⟨List.mem_append_right _ (List.mem_of_getElem? (i := 664) (by decide +kernel)), rfl⟩
theorem q665 : (Jvm.Cond.instanceMethod ({ cls := "ToastCourt", name := "image", desc := "()I" } : Jvm.MethodName)) ∈ TW := List.mem_filter.mpr ⟨List.mem_append_right _ (List.mem_of_getElem? (i := 665) (by decide +kernel)), rfl⟩
theorem q666 : (Jvm.Cond.selects "ToastCourt" ({ cls := "ToastCourt", name := "image", desc := "()I" } : Jvm.MethodName) ({ cls := "ToastCourt", name := "image", desc := "()I" } : Jvm.MethodName)) ∈ TW := List.mem_filter.mpr ⟨List.mem_append_right _ (List.mem_of_getElem? (i := 666) (by decide +kernel)), rfl⟩
theorem q667 : (Jvm.Cond.code ({ cls := "ToastCourt", name := "image", desc := "()I" } : Jvm.MethodName) prog_1_method_40_code (1 : Nat) (Option.some Jvm.ClassFile.FieldType.int)) ∈ TW := List.mem_filter.mpr ⟨List.mem_append_right _ (List.mem_of_getElem? (i := 667) (by decide +kernel)), rfl⟩
theorem q668 : (Jvm.Cond.methodLink "ToastCourtLaw" (175 : Nat) ({ cls := "ToastCourt", name := "undo", desc := "()I" } : Jvm.MethodName)) ∈ TW := List.mem_filter.mpr ⟨List.mem_append_right _ (List.mem_of_getElem? (i := 668) (by decide +kernel)), rfl⟩
theorem q669 : (Jvm.Cond.instanceMethod ({ cls := "ToastCourt", name := "undo", desc := "()I" } : Jvm.MethodName)) ∈ TW := List.mem_filter.mpr ⟨List.mem_append_right _ (List.mem_of_getElem? (i := 669) (by decide +kernel)), rfl⟩
theorem q670 : (Jvm.Cond.selects "ToastCourt" ({ cls := "ToastCourt", name := "undo", desc := "()I" } : Jvm.MethodName) ({ cls := "ToastCourt", name := "undo", desc := "()I" } : Jvm.MethodName)) ∈ TW := List.mem_filter.mpr ⟨List.mem_append_right _ (List.mem_of_getElem? (i := 670) (by decide +kernel)), rfl⟩
theorem q671 : (Jvm.Cond.code ({ cls := "ToastCourt", name := "undo", desc := "()I" } : Jvm.MethodName) prog_1_method_41_code (1 : Nat) (Option.some Jvm.ClassFile.FieldType.int)) ∈ TW := List.mem_filter.mpr ⟨List.mem_append_right _ (List.mem_of_getElem? (i := 671) (by decide +kernel)), rfl⟩
theorem q672 : (Jvm.Cond.methodLink "ToastCourtLaw" (179 : Nat) ({ cls := "ToastCourt", name := "tear", desc := "()I" } : Jvm.MethodName)) ∈ TW := List.mem_filter.mpr ⟨List.mem_append_right _ (List.mem_of_getElem? (i := 672) (by decide +kernel)), rfl⟩
theorem q673 : (Jvm.Cond.instanceMethod ({ cls := "ToastCourt", name := "tear", desc := "()I" } : Jvm.MethodName)) ∈ TW := List.mem_filter.mpr ⟨List.mem_append_right _ (List.mem_of_getElem? (i := 673) (by decide +kernel)), rfl⟩
theorem q674 : (Jvm.Cond.selects "ToastCourt" ({ cls := "ToastCourt", name := "tear", desc := "()I" } : Jvm.MethodName) ({ cls := "ToastCourt", name := "tear", desc := "()I" } : Jvm.MethodName)) ∈ TW := List.mem_filter.mpr ⟨List.mem_append_right _ (List.mem_of_getElem? (i := 674) (by decide +kernel)), rfl⟩
theorem q675 : (Jvm.Cond.code ({ cls := "ToastCourt", name := "tear", desc := "()I" } : Jvm.MethodName) prog_1_method_42_code (2 : Nat) (Option.some Jvm.ClassFile.FieldType.int)) ∈ TW := List.mem_filter.mpr ⟨List.mem_append_right _ (List.mem_of_getElem? (i := 675) (by decide +kernel)), rfl⟩
theorem q676 : (Jvm.Cond.methodLink "ToastCourtLaw" (183 : Nat) ({ cls := "ToastCourt", name := "count", desc := "(I)I" } : Jvm.MethodName)) ∈ TW := List.mem_filter.mpr ⟨List.mem_append_right _ (List.mem_of_getElem? (i := 676) (by decide +kernel)), rfl⟩
theorem q677 : (Jvm.Cond.instanceMethod ({ cls := "ToastCourt", name := "count", desc := "(I)I" } : Jvm.MethodName)) ∈ TW := List.mem_filter.mpr ⟨List.mem_append_right _ (List.mem_of_getElem? (i := 677) (by decide +kernel)), rfl⟩
theorem q678 : (Jvm.Cond.selects "ToastCourt" ({ cls := "ToastCourt", name := "count", desc := "(I)I" } : Jvm.MethodName) ({ cls := "ToastCourt", name := "count", desc := "(I)I" } : Jvm.MethodName)) ∈ TW := List.mem_filter.mpr ⟨List.mem_append_right _ (List.mem_of_getElem? (i := 678) (by decide +kernel)), rfl⟩
theorem q679 : (Jvm.Cond.code ({ cls := "ToastCourt", name := "count", desc := "(I)I" } : Jvm.MethodName) prog_1_method_43_code (2 : Nat) (Option.some Jvm.ClassFile.FieldType.int)) ∈ TW := List.mem_filter.mpr ⟨List.mem_append_right _ (List.mem_of_getElem? (i := 679) (by decide +kernel)), rfl⟩
theorem q680 : (Jvm.Cond.methodLinkNest "ToastCourt" (239 : Nat) ({ cls := "ToastCourt$Court", name := "heldSpots", desc := "()I" } : Jvm.MethodName) "ToastCourt") ∈ NW := List.mem_filter.mpr ⟨List.mem_append_right _ (List.mem_of_getElem? (i := 680) (by decide +kernel)), rfl⟩
theorem q682 : (Jvm.Cond.instanceMethod ({ cls := "ToastCourt$Court", name := "heldSpots", desc := "()I" } : Jvm.MethodName)) ∈ TW := List.mem_filter.mpr ⟨List.mem_append_right _ (List.mem_of_getElem? (i := 682) (by decide +kernel)), rfl⟩
theorem q683 : (Jvm.Cond.code ({ cls := "ToastCourt$Court", name := "heldSpots", desc := "()I" } : Jvm.MethodName) prog_2_method_19_code (3 : Nat) (Option.some Jvm.ClassFile.FieldType.int)) ∈ TW := List.mem_filter.mpr ⟨List.mem_append_right _ (List.mem_of_getElem? (i := 683) (by decide +kernel)), rfl⟩
theorem q684 : (Jvm.Cond.methodLink "ToastCourtLaw" (187 : Nat) ({ cls := "ToastCourt", name := "status", desc := "(I)I" } : Jvm.MethodName)) ∈ TW := List.mem_filter.mpr ⟨List.mem_append_right _ (List.mem_of_getElem? (i := 684) (by decide +kernel)), rfl⟩
theorem q685 : (Jvm.Cond.instanceMethod ({ cls := "ToastCourt", name := "status", desc := "(I)I" } : Jvm.MethodName)) ∈ TW := List.mem_filter.mpr ⟨List.mem_append_right _ (List.mem_of_getElem? (i := 685) (by decide +kernel)), rfl⟩
theorem q686 : (Jvm.Cond.selects "ToastCourt" ({ cls := "ToastCourt", name := "status", desc := "(I)I" } : Jvm.MethodName) ({ cls := "ToastCourt", name := "status", desc := "(I)I" } : Jvm.MethodName)) ∈ TW := List.mem_filter.mpr ⟨List.mem_append_right _ (List.mem_of_getElem? (i := 686) (by decide +kernel)), rfl⟩
theorem q687 : (Jvm.Cond.code ({ cls := "ToastCourt", name := "status", desc := "(I)I" } : Jvm.MethodName) prog_1_method_44_code (4 : Nat) (Option.some Jvm.ClassFile.FieldType.int)) ∈ TW := List.mem_filter.mpr ⟨List.mem_append_right _ (List.mem_of_getElem? (i := 687) (by decide +kernel)), rfl⟩
theorem q688 : (Jvm.Cond.classLink "ToastCourtLaw" (10 : Nat) "ToastCourtModel") ∈ TW := List.mem_filter.mpr ⟨List.mem_append_right _ (List.mem_of_getElem? (i := 688) (by decide +kernel)), rfl⟩
theorem q689 : (Jvm.Cond.instantiable "ToastCourtModel" (22 : Nat)) ∈ TW := List.mem_filter.mpr ⟨List.mem_append_right _ (List.mem_of_getElem? (i := 689) (by decide +kernel)), rfl⟩
theorem q690 : (Jvm.Cond.methodLink "ToastCourtLaw" (12 : Nat) ({ cls := "ToastCourtModel", name := "<init>", desc := "()V" } : Jvm.MethodName)) ∈ TW := List.mem_filter.mpr ⟨List.mem_append_right _ (List.mem_of_getElem? (i := 690) (by decide +kernel)), rfl⟩
theorem q691 : (Jvm.Cond.instanceMethod ({ cls := "ToastCourtModel", name := "<init>", desc := "()V" } : Jvm.MethodName)) ∈ TW := List.mem_filter.mpr ⟨List.mem_append_right _ (List.mem_of_getElem? (i := 691) (by decide +kernel)), rfl⟩
theorem q692 : (Jvm.Cond.code ({ cls := "ToastCourtModel", name := "<init>", desc := "()V" } : Jvm.MethodName) prog_7_method_1_code (2 : Nat) (Option.none : Option Jvm.ClassFile.FieldType)) ∈ TW := List.mem_filter.mpr ⟨List.mem_append_right _ (List.mem_of_getElem? (i := 692) (by decide +kernel)), rfl⟩
theorem q693 : (Jvm.Cond.methodLink "ToastCourtModel" (1 : Nat) ({ cls := "java/lang/Object", name := "<init>", desc := "()V" } : Jvm.MethodName)) ∈ TW := List.mem_filter.mpr ⟨List.mem_append_right _ (List.mem_of_getElem? (i := 693) (by decide +kernel)), rfl⟩
theorem q694 : (Jvm.Cond.classLink "ToastCourtModel" (25 : Nat) "java/lang/String") ∈ TW := List.mem_filter.mpr ⟨List.mem_append_right _ (List.mem_of_getElem? (i := 694) (by decide +kernel)), rfl⟩
theorem q703 : (Jvm.Cond.fieldLink "ToastCourtModel" (9 : Nat) "ToastCourtModel" "now" "[I") ∈ TW := List.mem_filter.mpr ⟨List.mem_append_right _ (List.mem_of_getElem? (i := 703) (by decide +kernel)), rfl⟩
theorem q704 : (Jvm.Cond.fieldLink "ToastCourtModel" (13 : Nat) "ToastCourtModel" "kept" "[I") ∈ TW := List.mem_filter.mpr ⟨List.mem_append_right _ (List.mem_of_getElem? (i := 704) (by decide +kernel)), rfl⟩
theorem q705 : (Jvm.Cond.fieldLink "ToastCourtModel" (16 : Nat) "ToastCourtModel" "aside" "[I") ∈ TW := List.mem_filter.mpr ⟨List.mem_append_right _ (List.mem_of_getElem? (i := 705) (by decide +kernel)), rfl⟩
theorem q706 : (Jvm.Cond.fieldLink "ToastCourtModel" (317 : Nat) "ToastCourtModel" "isKept" "Z") ∈ TW := List.mem_filter.mpr ⟨List.mem_append_right _ (List.mem_of_getElem? (i := 706) (by decide +kernel)), rfl⟩
theorem q707 : (Jvm.Cond.fieldLink "ToastCourtModel" (19 : Nat) "ToastCourtModel" "found" "[I") ∈ TW := List.mem_filter.mpr ⟨List.mem_append_right _ (List.mem_of_getElem? (i := 707) (by decide +kernel)), rfl⟩
theorem q708 : (Jvm.Cond.fieldLink "ToastCourtModel" (203 : Nat) "ToastCourtModel" "heightsMany" "I") ∈ TW := List.mem_filter.mpr ⟨List.mem_append_right _ (List.mem_of_getElem? (i := 708) (by decide +kernel)), rfl⟩
theorem q709 : (Jvm.Cond.fieldLink "ToastCourtModel" (207 : Nat) "ToastCourtModel" "heightsLeast" "I") ∈ TW := List.mem_filter.mpr ⟨List.mem_append_right _ (List.mem_of_getElem? (i := 709) (by decide +kernel)), rfl⟩
theorem q710 : (Jvm.Cond.fieldLink "ToastCourtModel" (22 : Nat) "ToastCourtModel" "tape" "[I") ∈ TW := List.mem_filter.mpr ⟨List.mem_append_right _ (List.mem_of_getElem? (i := 710) (by decide +kernel)), rfl⟩
theorem q711 : (Jvm.Cond.fieldLink "ToastCourtModel" (224 : Nat) "ToastCourtModel" "taped" "I") ∈ TW := List.mem_filter.mpr ⟨List.mem_append_right _ (List.mem_of_getElem? (i := 711) (by decide +kernel)), rfl⟩
theorem q712 : (Jvm.Cond.fieldLink "ToastCourtModel" (230 : Nat) "ToastCourtModel" "begins" "I") ∈ TW := List.mem_filter.mpr ⟨List.mem_append_right _ (List.mem_of_getElem? (i := 712) (by decide +kernel)), rfl⟩
theorem q713 : (Jvm.Cond.fieldLink "ToastCourtModel" (227 : Nat) "ToastCourtModel" "ends" "I") ∈ TW := List.mem_filter.mpr ⟨List.mem_append_right _ (List.mem_of_getElem? (i := 713) (by decide +kernel)), rfl⟩
theorem q714 : (Jvm.Cond.fieldLink "ToastCourtModel" (239 : Nat) "ToastCourtModel" "sort" "I") ∈ TW := List.mem_filter.mpr ⟨List.mem_append_right _ (List.mem_of_getElem? (i := 714) (by decide +kernel)), rfl⟩
theorem q715 : (Jvm.Cond.fieldLink "ToastCourtModel" (236 : Nat) "ToastCourtModel" "value" "I") ∈ TW := List.mem_filter.mpr ⟨List.mem_append_right _ (List.mem_of_getElem? (i := 715) (by decide +kernel)), rfl⟩
theorem q716 : (Jvm.Cond.fieldLink "ToastCourtModel" (249 : Nat) "ToastCourtModel" "isWrong" "Z") ∈ TW := List.mem_filter.mpr ⟨List.mem_append_right _ (List.mem_of_getElem? (i := 716) (by decide +kernel)), rfl⟩
theorem q717 : (Jvm.Cond.fieldLink "ToastCourtModel" (41 : Nat) "ToastCourtModel" "kindNames" "[Ljava/lang/String;") ∈ TW := List.mem_filter.mpr ⟨List.mem_append_right _ (List.mem_of_getElem? (i := 717) (by decide +kernel)), rfl⟩
theorem q718 : (Jvm.Cond.fieldLink "ToastCourtModel" (45 : Nat) "ToastCourtModel" "items" "[I") ∈ TW := List.mem_filter.mpr ⟨List.mem_append_right _ (List.mem_of_getElem? (i := 718) (by decide +kernel)), rfl⟩
theorem q719 : (Jvm.Cond.fieldLink "ToastCourtModel" (260 : Nat) "ToastCourtModel" "itemMany" "I") ∈ TW := List.mem_filter.mpr ⟨List.mem_append_right _ (List.mem_of_getElem? (i := 719) (by decide +kernel)), rfl⟩
theorem q720 : (Jvm.Cond.fieldLink "ToastCourtModel" (267 : Nat) "ToastCourtModel" "disputantsThen" "I") ∈ TW := List.mem_filter.mpr ⟨List.mem_append_right _ (List.mem_of_getElem? (i := 720) (by decide +kernel)), rfl⟩
theorem q721 : (Jvm.Cond.fieldLink "ToastCourtModel" (48 : Nat) "ToastCourtModel" "widths" "[I") ∈ TW := List.mem_filter.mpr ⟨List.mem_append_right _ (List.mem_of_getElem? (i := 721) (by decide +kernel)), rfl⟩
theorem q722 : (Jvm.Cond.fieldLink "ToastCourtModel" (51 : Nat) "ToastCourtModel" "sizes" "[I") ∈ TW := List.mem_filter.mpr ⟨List.mem_append_right _ (List.mem_of_getElem? (i := 722) (by decide +kernel)), rfl⟩
theorem q723 : (Jvm.Cond.fieldLink "ToastCourtModel" (54 : Nat) "ToastCourtModel" "numbers" "[I") ∈ TW := List.mem_filter.mpr ⟨List.mem_append_right _ (List.mem_of_getElem? (i := 723) (by decide +kernel)), rfl⟩
theorem q724 : (Jvm.Cond.fieldLink "ToastCourtModel" (57 : Nat) "ToastCourtModel" "moved" "[I") ∈ TW := List.mem_filter.mpr ⟨List.mem_append_right _ (List.mem_of_getElem? (i := 724) (by decide +kernel)), rfl⟩
theorem q725 : (Jvm.Cond.laysFinal "ToastCourtModel" "ToastCourtModel" "now" "[I") ∈ TW := List.mem_filter.mpr ⟨List.mem_append_right _ (List.mem_of_getElem? (i := 725) (by decide +kernel)), rfl⟩
theorem q727 : (Jvm.Cond.laysFinal "ToastCourtModel" "ToastCourtModel" "kept" "[I") ∈ TW := List.mem_filter.mpr ⟨List.mem_append_right _ (List.mem_of_getElem? (i := 727) (by decide +kernel)), rfl⟩
theorem q729 : (Jvm.Cond.laysFinal "ToastCourtModel" "ToastCourtModel" "aside" "[I") ∈ TW := List.mem_filter.mpr ⟨List.mem_append_right _ (List.mem_of_getElem? (i := 729) (by decide +kernel)), rfl⟩
theorem q731 : (Jvm.Cond.lays "ToastCourtModel" "ToastCourtModel" "isKept" "Z") ∈ TW := List.mem_filter.mpr ⟨List.mem_append_right _ (List.mem_of_getElem? (i := 731) (by decide +kernel)), rfl⟩
theorem q733 : (Jvm.Cond.laysFinal "ToastCourtModel" "ToastCourtModel" "found" "[I") ∈ TW := List.mem_filter.mpr ⟨List.mem_append_right _ (List.mem_of_getElem? (i := 733) (by decide +kernel)), rfl⟩
theorem q735 : (Jvm.Cond.lays "ToastCourtModel" "ToastCourtModel" "heightsMany" "I") ∈ TW := List.mem_filter.mpr ⟨List.mem_append_right _ (List.mem_of_getElem? (i := 735) (by decide +kernel)), rfl⟩
theorem q737 : (Jvm.Cond.lays "ToastCourtModel" "ToastCourtModel" "heightsLeast" "I") ∈ TW := List.mem_filter.mpr ⟨List.mem_append_right _ (List.mem_of_getElem? (i := 737) (by decide +kernel)), rfl⟩
theorem q739 : (Jvm.Cond.laysFinal "ToastCourtModel" "ToastCourtModel" "tape" "[I") ∈ TW := List.mem_filter.mpr ⟨List.mem_append_right _ (List.mem_of_getElem? (i := 739) (by decide +kernel)), rfl⟩
theorem q741 : (Jvm.Cond.lays "ToastCourtModel" "ToastCourtModel" "taped" "I") ∈ TW := List.mem_filter.mpr ⟨List.mem_append_right _ (List.mem_of_getElem? (i := 741) (by decide +kernel)), rfl⟩
theorem q743 : (Jvm.Cond.lays "ToastCourtModel" "ToastCourtModel" "begins" "I") ∈ TW := List.mem_filter.mpr ⟨List.mem_append_right _ (List.mem_of_getElem? (i := 743) (by decide +kernel)), rfl⟩
theorem q745 : (Jvm.Cond.lays "ToastCourtModel" "ToastCourtModel" "ends" "I") ∈ TW := List.mem_filter.mpr ⟨List.mem_append_right _ (List.mem_of_getElem? (i := 745) (by decide +kernel)), rfl⟩
theorem q747 : (Jvm.Cond.lays "ToastCourtModel" "ToastCourtModel" "sort" "I") ∈ TW := List.mem_filter.mpr ⟨List.mem_append_right _ (List.mem_of_getElem? (i := 747) (by decide +kernel)), rfl⟩
theorem q749 : (Jvm.Cond.lays "ToastCourtModel" "ToastCourtModel" "value" "I") ∈ TW := List.mem_filter.mpr ⟨List.mem_append_right _ (List.mem_of_getElem? (i := 749) (by decide +kernel)), rfl⟩
theorem q751 : (Jvm.Cond.lays "ToastCourtModel" "ToastCourtModel" "isWrong" "Z") ∈ TW := List.mem_filter.mpr ⟨List.mem_append_right _ (List.mem_of_getElem? (i := 751) (by decide +kernel)), rfl⟩
theorem q753 : (Jvm.Cond.laysFinal "ToastCourtModel" "ToastCourtModel" "kindNames" "[Ljava/lang/String;") ∈ TW := List.mem_filter.mpr ⟨List.mem_append_right _ (List.mem_of_getElem? (i := 753) (by decide +kernel)), rfl⟩
theorem q755 : (Jvm.Cond.laysFinal "ToastCourtModel" "ToastCourtModel" "items" "[I") ∈ TW := List.mem_filter.mpr ⟨List.mem_append_right _ (List.mem_of_getElem? (i := 755) (by decide +kernel)), rfl⟩
theorem q757 : (Jvm.Cond.lays "ToastCourtModel" "ToastCourtModel" "itemMany" "I") ∈ TW := List.mem_filter.mpr ⟨List.mem_append_right _ (List.mem_of_getElem? (i := 757) (by decide +kernel)), rfl⟩
theorem q759 : (Jvm.Cond.lays "ToastCourtModel" "ToastCourtModel" "disputantsThen" "I") ∈ TW := List.mem_filter.mpr ⟨List.mem_append_right _ (List.mem_of_getElem? (i := 759) (by decide +kernel)), rfl⟩
theorem q761 : (Jvm.Cond.laysFinal "ToastCourtModel" "ToastCourtModel" "widths" "[I") ∈ TW := List.mem_filter.mpr ⟨List.mem_append_right _ (List.mem_of_getElem? (i := 761) (by decide +kernel)), rfl⟩
theorem q763 : (Jvm.Cond.laysFinal "ToastCourtModel" "ToastCourtModel" "sizes" "[I") ∈ TW := List.mem_filter.mpr ⟨List.mem_append_right _ (List.mem_of_getElem? (i := 763) (by decide +kernel)), rfl⟩
theorem q765 : (Jvm.Cond.laysFinal "ToastCourtModel" "ToastCourtModel" "numbers" "[I") ∈ TW := List.mem_filter.mpr ⟨List.mem_append_right _ (List.mem_of_getElem? (i := 765) (by decide +kernel)), rfl⟩
theorem q767 : (Jvm.Cond.laysFinal "ToastCourtModel" "ToastCourtModel" "moved" "[I") ∈ TW := List.mem_filter.mpr ⟨List.mem_append_right _ (List.mem_of_getElem? (i := 767) (by decide +kernel)), rfl⟩
theorem q770 : (Jvm.Cond.methodLink "ToastCourtLaw" (17 : Nat) ({ cls := "ToastCourtModel", name := "set", desc := "(II)I" } : Jvm.MethodName)) ∈ TW := List.mem_filter.mpr ⟨List.mem_append_right _ (List.mem_of_getElem? (i := 770) (by decide +kernel)), rfl⟩
theorem q771 : (Jvm.Cond.instanceMethod ({ cls := "ToastCourtModel", name := "set", desc := "(II)I" } : Jvm.MethodName)) ∈ TW := List.mem_filter.mpr ⟨List.mem_append_right _ (List.mem_of_getElem? (i := 771) (by decide +kernel)), rfl⟩
theorem q772 : (Jvm.Cond.selects "ToastCourtModel" ({ cls := "ToastCourtModel", name := "set", desc := "(II)I" } : Jvm.MethodName) ({ cls := "ToastCourtModel", name := "set", desc := "(II)I" } : Jvm.MethodName)) ∈ TW := List.mem_filter.mpr ⟨List.mem_append_right _ (List.mem_of_getElem? (i := 772) (by decide +kernel)), rfl⟩
theorem q773 : (Jvm.Cond.code ({ cls := "ToastCourtModel", name := "set", desc := "(II)I" } : Jvm.MethodName) prog_7_method_9_code (4 : Nat) (Option.some Jvm.ClassFile.FieldType.int)) ∈ TW := List.mem_filter.mpr ⟨List.mem_append_right _ (List.mem_of_getElem? (i := 773) (by decide +kernel)), rfl⟩
theorem q774 : (Jvm.Cond.methodLink "ToastCourtModel" (70 : Nat) ({ cls := "ToastCourtModel", name := "within", desc := "(III)Z" } : Jvm.MethodName)) ∈ TW := List.mem_filter.mpr ⟨List.mem_append_right _ (List.mem_of_getElem? (i := 774) (by decide +kernel)), rfl⟩
theorem q775 : (Jvm.Cond.static ({ cls := "ToastCourtModel", name := "within", desc := "(III)Z" } : Jvm.MethodName)) ∈ TW := List.mem_filter.mpr ⟨List.mem_append_right _ (List.mem_of_getElem? (i := 775) (by decide +kernel)), rfl⟩
theorem q776 : (Jvm.Cond.code ({ cls := "ToastCourtModel", name := "within", desc := "(III)Z" } : Jvm.MethodName) prog_7_method_3_code (3 : Nat) (Option.some Jvm.ClassFile.FieldType.boolean)) ∈ TW := List.mem_filter.mpr ⟨List.mem_append_right _ (List.mem_of_getElem? (i := 776) (by decide +kernel)), rfl⟩
theorem q777 : (Jvm.Cond.methodLink "ToastCourtModel" (74 : Nat) ({ cls := "ToastCourtModel", name := "become", desc := "(II)I" } : Jvm.MethodName)) ∈ TW := List.mem_filter.mpr ⟨List.mem_append_right _ (List.mem_of_getElem? (i := 777) (by decide +kernel)), rfl⟩
theorem q779 : (Jvm.Cond.instanceMethod ({ cls := "ToastCourtModel", name := "become", desc := "(II)I" } : Jvm.MethodName)) ∈ TW := List.mem_filter.mpr ⟨List.mem_append_right _ (List.mem_of_getElem? (i := 779) (by decide +kernel)), rfl⟩
theorem q780 : (Jvm.Cond.code ({ cls := "ToastCourtModel", name := "become", desc := "(II)I" } : Jvm.MethodName) prog_7_method_4_code (4 : Nat) (Option.some Jvm.ClassFile.FieldType.int)) ∈ TW := List.mem_filter.mpr ⟨List.mem_append_right _ (List.mem_of_getElem? (i := 780) (by decide +kernel)), rfl⟩
theorem q781 : (Jvm.Cond.constant "ToastCourtModel" (60 : Nat) (-1000001 : Int32)) ∈ TW := List.mem_filter.mpr ⟨List.mem_append_right _ (List.mem_of_getElem? (i := 781) (by decide +kernel)), rfl⟩
theorem q782 : (Jvm.Cond.methodLink "ToastCourtModel" (66 : Nat) ({ cls := "ToastCourtModel", name := "finding", desc := "(I)I" } : Jvm.MethodName)) ∈ TW := List.mem_filter.mpr ⟨List.mem_append_right _ (List.mem_of_getElem? (i := 782) (by decide +kernel)), rfl⟩
theorem q784 : (Jvm.Cond.instanceMethod ({ cls := "ToastCourtModel", name := "finding", desc := "(I)I" } : Jvm.MethodName)) ∈ TW := List.mem_filter.mpr ⟨List.mem_append_right _ (List.mem_of_getElem? (i := 784) (by decide +kernel)), rfl⟩
theorem q785 : (Jvm.Cond.code ({ cls := "ToastCourtModel", name := "finding", desc := "(I)I" } : Jvm.MethodName) prog_7_method_2_code (2 : Nat) (Option.some Jvm.ClassFile.FieldType.int)) ∈ TW := List.mem_filter.mpr ⟨List.mem_append_right _ (List.mem_of_getElem? (i := 785) (by decide +kernel)), rfl⟩
theorem q786 : (Jvm.Cond.methodLink "ToastCourtLaw" (22 : Nat) ({ cls := "ToastCourtModel", name := "court", desc := "(I)I" } : Jvm.MethodName)) ∈ TW := List.mem_filter.mpr ⟨List.mem_append_right _ (List.mem_of_getElem? (i := 786) (by decide +kernel)), rfl⟩
theorem q787 : (Jvm.Cond.instanceMethod ({ cls := "ToastCourtModel", name := "court", desc := "(I)I" } : Jvm.MethodName)) ∈ TW := List.mem_filter.mpr ⟨List.mem_append_right _ (List.mem_of_getElem? (i := 787) (by decide +kernel)), rfl⟩
theorem q788 : (Jvm.Cond.selects "ToastCourtModel" ({ cls := "ToastCourtModel", name := "court", desc := "(I)I" } : Jvm.MethodName) ({ cls := "ToastCourtModel", name := "court", desc := "(I)I" } : Jvm.MethodName)) ∈ TW := List.mem_filter.mpr ⟨List.mem_append_right _ (List.mem_of_getElem? (i := 788) (by decide +kernel)), rfl⟩
theorem q789 : (Jvm.Cond.code ({ cls := "ToastCourtModel", name := "court", desc := "(I)I" } : Jvm.MethodName) prog_7_method_10_code (2 : Nat) (Option.some Jvm.ClassFile.FieldType.int)) ∈ TW := List.mem_filter.mpr ⟨List.mem_append_right _ (List.mem_of_getElem? (i := 789) (by decide +kernel)), rfl⟩
theorem q790 : (Jvm.Cond.methodLink "ToastCourtLaw" (27 : Nat) ({ cls := "ToastCourtModel", name := "dispute", desc := "(III)I" } : Jvm.MethodName)) ∈ TW := List.mem_filter.mpr ⟨List.mem_append_right _ (List.mem_of_getElem? (i := 790) (by decide +kernel)), rfl⟩
theorem q791 : (Jvm.Cond.instanceMethod ({ cls := "ToastCourtModel", name := "dispute", desc := "(III)I" } : Jvm.MethodName)) ∈ TW := List.mem_filter.mpr ⟨List.mem_append_right _ (List.mem_of_getElem? (i := 791) (by decide +kernel)), rfl⟩
theorem q792 : (Jvm.Cond.selects "ToastCourtModel" ({ cls := "ToastCourtModel", name := "dispute", desc := "(III)I" } : Jvm.MethodName) ({ cls := "ToastCourtModel", name := "dispute", desc := "(III)I" } : Jvm.MethodName)) ∈ TW := List.mem_filter.mpr ⟨List.mem_append_right _ (List.mem_of_getElem? (i := 792) (by decide +kernel)), rfl⟩
theorem q793 : (Jvm.Cond.code ({ cls := "ToastCourtModel", name := "dispute", desc := "(III)I" } : Jvm.MethodName) prog_7_method_13_code (4 : Nat) (Option.some Jvm.ClassFile.FieldType.int)) ∈ TW := List.mem_filter.mpr ⟨List.mem_append_right _ (List.mem_of_getElem? (i := 793) (by decide +kernel)), rfl⟩
theorem q794 : (Jvm.Cond.methodLink "ToastCourtModel" (78 : Nat) ({ cls := "ToastCourtModel", name := "isPlace", desc := "(I)Z" } : Jvm.MethodName)) ∈ TW := List.mem_filter.mpr ⟨List.mem_append_right _ (List.mem_of_getElem? (i := 794) (by decide +kernel)), rfl⟩
theorem q795 : (Jvm.Cond.static ({ cls := "ToastCourtModel", name := "isPlace", desc := "(I)Z" } : Jvm.MethodName)) ∈ TW := List.mem_filter.mpr ⟨List.mem_append_right _ (List.mem_of_getElem? (i := 795) (by decide +kernel)), rfl⟩
theorem q796 : (Jvm.Cond.code ({ cls := "ToastCourtModel", name := "isPlace", desc := "(I)Z" } : Jvm.MethodName) prog_7_method_11_code (1 : Nat) (Option.some Jvm.ClassFile.FieldType.boolean)) ∈ TW := List.mem_filter.mpr ⟨List.mem_append_right _ (List.mem_of_getElem? (i := 796) (by decide +kernel)), rfl⟩
theorem q797 : (Jvm.Cond.methodLink "ToastCourtModel" (82 : Nat) ({ cls := "ToastCourtModel", name := "isSide", desc := "(I)Z" } : Jvm.MethodName)) ∈ TW := List.mem_filter.mpr ⟨List.mem_append_right _ (List.mem_of_getElem? (i := 797) (by decide +kernel)), rfl⟩
theorem q798 : (Jvm.Cond.static ({ cls := "ToastCourtModel", name := "isSide", desc := "(I)Z" } : Jvm.MethodName)) ∈ TW := List.mem_filter.mpr ⟨List.mem_append_right _ (List.mem_of_getElem? (i := 798) (by decide +kernel)), rfl⟩
theorem q799 : (Jvm.Cond.code ({ cls := "ToastCourtModel", name := "isSide", desc := "(I)Z" } : Jvm.MethodName) prog_7_method_12_code (1 : Nat) (Option.some Jvm.ClassFile.FieldType.boolean)) ∈ TW := List.mem_filter.mpr ⟨List.mem_append_right _ (List.mem_of_getElem? (i := 799) (by decide +kernel)), rfl⟩
theorem q800 : (Jvm.Cond.methodLink "ToastCourtLaw" (31 : Nat) ({ cls := "ToastCourtModel", name := "listed", desc := "(I)I" } : Jvm.MethodName)) ∈ TW := List.mem_filter.mpr ⟨List.mem_append_right _ (List.mem_of_getElem? (i := 800) (by decide +kernel)), rfl⟩
theorem q801 : (Jvm.Cond.instanceMethod ({ cls := "ToastCourtModel", name := "listed", desc := "(I)I" } : Jvm.MethodName)) ∈ TW := List.mem_filter.mpr ⟨List.mem_append_right _ (List.mem_of_getElem? (i := 801) (by decide +kernel)), rfl⟩
theorem q802 : (Jvm.Cond.selects "ToastCourtModel" ({ cls := "ToastCourtModel", name := "listed", desc := "(I)I" } : Jvm.MethodName) ({ cls := "ToastCourtModel", name := "listed", desc := "(I)I" } : Jvm.MethodName)) ∈ TW := List.mem_filter.mpr ⟨List.mem_append_right _ (List.mem_of_getElem? (i := 802) (by decide +kernel)), rfl⟩
theorem q803 : (Jvm.Cond.code ({ cls := "ToastCourtModel", name := "listed", desc := "(I)I" } : Jvm.MethodName) prog_7_method_14_code (2 : Nat) (Option.some Jvm.ClassFile.FieldType.int)) ∈ TW := List.mem_filter.mpr ⟨List.mem_append_right _ (List.mem_of_getElem? (i := 803) (by decide +kernel)), rfl⟩
theorem q804 : (Jvm.Cond.methodLink "ToastCourtLaw" (35 : Nat) ({ cls := "ToastCourtModel", name := "disputant", desc := "(II)I" } : Jvm.MethodName)) ∈ TW := List.mem_filter.mpr ⟨List.mem_append_right _ (List.mem_of_getElem? (i := 804) (by decide +kernel)), rfl⟩
theorem q805 : (Jvm.Cond.instanceMethod ({ cls := "ToastCourtModel", name := "disputant", desc := "(II)I" } : Jvm.MethodName)) ∈ TW := List.mem_filter.mpr ⟨List.mem_append_right _ (List.mem_of_getElem? (i := 805) (by decide +kernel)), rfl⟩
theorem q806 : (Jvm.Cond.selects "ToastCourtModel" ({ cls := "ToastCourtModel", name := "disputant", desc := "(II)I" } : Jvm.MethodName) ({ cls := "ToastCourtModel", name := "disputant", desc := "(II)I" } : Jvm.MethodName)) ∈ TW := List.mem_filter.mpr ⟨List.mem_append_right _ (List.mem_of_getElem? (i := 806) (by decide +kernel)), rfl⟩
theorem q807 : (Jvm.Cond.code ({ cls := "ToastCourtModel", name := "disputant", desc := "(II)I" } : Jvm.MethodName) prog_7_method_20_code (3 : Nat) (Option.some Jvm.ClassFile.FieldType.int)) ∈ TW := List.mem_filter.mpr ⟨List.mem_append_right _ (List.mem_of_getElem? (i := 807) (by decide +kernel)), rfl⟩
theorem q808 : (Jvm.Cond.methodLink "ToastCourtModel" (88 : Nat) ({ cls := "ToastCourtModel", name := "isKind", desc := "(I)Z" } : Jvm.MethodName)) ∈ TW := List.mem_filter.mpr ⟨List.mem_append_right _ (List.mem_of_getElem? (i := 808) (by decide +kernel)), rfl⟩
theorem q809 : (Jvm.Cond.static ({ cls := "ToastCourtModel", name := "isKind", desc := "(I)Z" } : Jvm.MethodName)) ∈ TW := List.mem_filter.mpr ⟨List.mem_append_right _ (List.mem_of_getElem? (i := 809) (by decide +kernel)), rfl⟩
theorem q810 : (Jvm.Cond.code ({ cls := "ToastCourtModel", name := "isKind", desc := "(I)Z" } : Jvm.MethodName) prog_7_method_18_code (1 : Nat) (Option.some Jvm.ClassFile.FieldType.boolean)) ∈ TW := List.mem_filter.mpr ⟨List.mem_append_right _ (List.mem_of_getElem? (i := 810) (by decide +kernel)), rfl⟩
theorem q811 : (Jvm.Cond.constant "ToastCourtModel" (91 : Nat) (-1000002 : Int32)) ∈ TW := List.mem_filter.mpr ⟨List.mem_append_right _ (List.mem_of_getElem? (i := 811) (by decide +kernel)), rfl⟩
theorem q812 : (Jvm.Cond.methodLink "ToastCourtModel" (92 : Nat) ({ cls := "ToastCourtModel", name := "comes", desc := "(II)I" } : Jvm.MethodName)) ∈ TW := List.mem_filter.mpr ⟨List.mem_append_right _ (List.mem_of_getElem? (i := 812) (by decide +kernel)), rfl⟩
theorem q814 : (Jvm.Cond.instanceMethod ({ cls := "ToastCourtModel", name := "comes", desc := "(II)I" } : Jvm.MethodName)) ∈ TW := List.mem_filter.mpr ⟨List.mem_append_right _ (List.mem_of_getElem? (i := 814) (by decide +kernel)), rfl⟩
theorem q815 : (Jvm.Cond.code ({ cls := "ToastCourtModel", name := "comes", desc := "(II)I" } : Jvm.MethodName) prog_7_method_19_code (5 : Nat) (Option.some Jvm.ClassFile.FieldType.int)) ∈ TW := List.mem_filter.mpr ⟨List.mem_append_right _ (List.mem_of_getElem? (i := 815) (by decide +kernel)), rfl⟩
theorem q816 : (Jvm.Cond.methodLink "ToastCourtModel" (85 : Nat) ({ cls := "ToastCourtModel", name := "disputantAt", desc := "(II)I" } : Jvm.MethodName)) ∈ TW := List.mem_filter.mpr ⟨List.mem_append_right _ (List.mem_of_getElem? (i := 816) (by decide +kernel)), rfl⟩
theorem q817 : (Jvm.Cond.static ({ cls := "ToastCourtModel", name := "disputantAt", desc := "(II)I" } : Jvm.MethodName)) ∈ TW := List.mem_filter.mpr ⟨List.mem_append_right _ (List.mem_of_getElem? (i := 817) (by decide +kernel)), rfl⟩
theorem q818 : (Jvm.Cond.code ({ cls := "ToastCourtModel", name := "disputantAt", desc := "(II)I" } : Jvm.MethodName) prog_7_method_15_code (2 : Nat) (Option.some Jvm.ClassFile.FieldType.int)) ∈ TW := List.mem_filter.mpr ⟨List.mem_append_right _ (List.mem_of_getElem? (i := 818) (by decide +kernel)), rfl⟩
theorem q819 : (Jvm.Cond.methodLink "ToastCourtLaw" (39 : Nat) ({ cls := "ToastCourtModel", name := "of", desc := "(II)I" } : Jvm.MethodName)) ∈ TW := List.mem_filter.mpr ⟨List.mem_append_right _ (List.mem_of_getElem? (i := 819) (by decide +kernel)), rfl⟩
theorem q820 : (Jvm.Cond.instanceMethod ({ cls := "ToastCourtModel", name := "of", desc := "(II)I" } : Jvm.MethodName)) ∈ TW := List.mem_filter.mpr ⟨List.mem_append_right _ (List.mem_of_getElem? (i := 820) (by decide +kernel)), rfl⟩
theorem q821 : (Jvm.Cond.selects "ToastCourtModel" ({ cls := "ToastCourtModel", name := "of", desc := "(II)I" } : Jvm.MethodName) ({ cls := "ToastCourtModel", name := "of", desc := "(II)I" } : Jvm.MethodName)) ∈ TW := List.mem_filter.mpr ⟨List.mem_append_right _ (List.mem_of_getElem? (i := 821) (by decide +kernel)), rfl⟩
theorem q822 : (Jvm.Cond.code ({ cls := "ToastCourtModel", name := "of", desc := "(II)I" } : Jvm.MethodName) prog_7_method_27_code (3 : Nat) (Option.some Jvm.ClassFile.FieldType.int)) ∈ TW := List.mem_filter.mpr ⟨List.mem_append_right _ (List.mem_of_getElem? (i := 822) (by decide +kernel)), rfl⟩
theorem q823 : (Jvm.Cond.methodLink "ToastCourtModel" (121 : Nat) ({ cls := "ToastCourtModel", name := "isDisputant", desc := "(I)Z" } : Jvm.MethodName)) ∈ TW := List.mem_filter.mpr ⟨List.mem_append_right _ (List.mem_of_getElem? (i := 823) (by decide +kernel)), rfl⟩
theorem q825 : (Jvm.Cond.instanceMethod ({ cls := "ToastCourtModel", name := "isDisputant", desc := "(I)Z" } : Jvm.MethodName)) ∈ TW := List.mem_filter.mpr ⟨List.mem_append_right _ (List.mem_of_getElem? (i := 825) (by decide +kernel)), rfl⟩
theorem q826 : (Jvm.Cond.code ({ cls := "ToastCourtModel", name := "isDisputant", desc := "(I)Z" } : Jvm.MethodName) prog_7_method_17_code (2 : Nat) (Option.some Jvm.ClassFile.FieldType.boolean)) ∈ TW := List.mem_filter.mpr ⟨List.mem_append_right _ (List.mem_of_getElem? (i := 826) (by decide +kernel)), rfl⟩
theorem q827 : (Jvm.Cond.methodLink "ToastCourtModel" (124 : Nat) ({ cls := "ToastCourtModel", name := "told", desc := "(II)I" } : Jvm.MethodName)) ∈ TW := List.mem_filter.mpr ⟨List.mem_append_right _ (List.mem_of_getElem? (i := 827) (by decide +kernel)), rfl⟩
theorem q829 : (Jvm.Cond.instanceMethod ({ cls := "ToastCourtModel", name := "told", desc := "(II)I" } : Jvm.MethodName)) ∈ TW := List.mem_filter.mpr ⟨List.mem_append_right _ (List.mem_of_getElem? (i := 829) (by decide +kernel)), rfl⟩
theorem q830 : (Jvm.Cond.code ({ cls := "ToastCourtModel", name := "told", desc := "(II)I" } : Jvm.MethodName) prog_7_method_26_code (3 : Nat) (Option.some Jvm.ClassFile.FieldType.int)) ∈ TW := List.mem_filter.mpr ⟨List.mem_append_right _ (List.mem_of_getElem? (i := 830) (by decide +kernel)), rfl⟩
theorem q831 : (Jvm.Cond.methodLink "ToastCourtModel" (106 : Nat) ({ cls := "ToastCourtModel", name := "presses", desc := "(I)I" } : Jvm.MethodName)) ∈ TW := List.mem_filter.mpr ⟨List.mem_append_right _ (List.mem_of_getElem? (i := 831) (by decide +kernel)), rfl⟩
theorem q833 : (Jvm.Cond.instanceMethod ({ cls := "ToastCourtModel", name := "presses", desc := "(I)I" } : Jvm.MethodName)) ∈ TW := List.mem_filter.mpr ⟨List.mem_append_right _ (List.mem_of_getElem? (i := 833) (by decide +kernel)), rfl⟩
theorem q834 : (Jvm.Cond.code ({ cls := "ToastCourtModel", name := "presses", desc := "(I)I" } : Jvm.MethodName) prog_7_method_21_code (6 : Nat) (Option.some Jvm.ClassFile.FieldType.int)) ∈ TW := List.mem_filter.mpr ⟨List.mem_append_right _ (List.mem_of_getElem? (i := 834) (by decide +kernel)), rfl⟩
theorem q835 : (Jvm.Cond.methodLink "ToastCourtModel" (95 : Nat) ({ cls := "ToastCourtModel", name := "disputantIs", desc := "(II)I" } : Jvm.MethodName)) ∈ TW := List.mem_filter.mpr ⟨List.mem_append_right _ (List.mem_of_getElem? (i := 835) (by decide +kernel)), rfl⟩
theorem q837 : (Jvm.Cond.instanceMethod ({ cls := "ToastCourtModel", name := "disputantIs", desc := "(II)I" } : Jvm.MethodName)) ∈ TW := List.mem_filter.mpr ⟨List.mem_append_right _ (List.mem_of_getElem? (i := 837) (by decide +kernel)), rfl⟩
theorem q838 : (Jvm.Cond.code ({ cls := "ToastCourtModel", name := "disputantIs", desc := "(II)I" } : Jvm.MethodName) prog_7_method_16_code (3 : Nat) (Option.some Jvm.ClassFile.FieldType.int)) ∈ TW := List.mem_filter.mpr ⟨List.mem_append_right _ (List.mem_of_getElem? (i := 838) (by decide +kernel)), rfl⟩
theorem q839 : (Jvm.Cond.methodLink "ToastCourtModel" (98 : Nat) ({ cls := "java/lang/Math", name := "min", desc := "(II)I" } : Jvm.MethodName)) ∈ TW := List.mem_filter.mpr ⟨List.mem_append_right _ (List.mem_of_getElem? (i := 839) (by decide +kernel)), rfl⟩
theorem q840 : (Jvm.Cond.methodLink "ToastCourtModel" (103 : Nat) ({ cls := "java/lang/Math", name := "max", desc := "(II)I" } : Jvm.MethodName)) ∈ TW := List.mem_filter.mpr ⟨List.mem_append_right _ (List.mem_of_getElem? (i := 840) (by decide +kernel)), rfl⟩
theorem q841 : (Jvm.Cond.methodLink "ToastCourtModel" (109 : Nat) ({ cls := "ToastCourtModel", name := "jolts", desc := "(I)I" } : Jvm.MethodName)) ∈ TW := List.mem_filter.mpr ⟨List.mem_append_right _ (List.mem_of_getElem? (i := 841) (by decide +kernel)), rfl⟩
theorem q843 : (Jvm.Cond.instanceMethod ({ cls := "ToastCourtModel", name := "jolts", desc := "(I)I" } : Jvm.MethodName)) ∈ TW := List.mem_filter.mpr ⟨List.mem_append_right _ (List.mem_of_getElem? (i := 843) (by decide +kernel)), rfl⟩
theorem q844 : (Jvm.Cond.code ({ cls := "ToastCourtModel", name := "jolts", desc := "(I)I" } : Jvm.MethodName) prog_7_method_22_code (3 : Nat) (Option.some Jvm.ClassFile.FieldType.int)) ∈ TW := List.mem_filter.mpr ⟨List.mem_append_right _ (List.mem_of_getElem? (i := 844) (by decide +kernel)), rfl⟩
theorem q845 : (Jvm.Cond.methodLink "ToastCourtModel" (112 : Nat) ({ cls := "ToastCourtModel", name := "grows", desc := "(I)I" } : Jvm.MethodName)) ∈ TW := List.mem_filter.mpr ⟨List.mem_append_right _ (List.mem_of_getElem? (i := 845) (by decide +kernel)), rfl⟩
theorem q847 : (Jvm.Cond.instanceMethod ({ cls := "ToastCourtModel", name := "grows", desc := "(I)I" } : Jvm.MethodName)) ∈ TW := List.mem_filter.mpr ⟨List.mem_append_right _ (List.mem_of_getElem? (i := 847) (by decide +kernel)), rfl⟩
theorem q848 : (Jvm.Cond.code ({ cls := "ToastCourtModel", name := "grows", desc := "(I)I" } : Jvm.MethodName) prog_7_method_23_code (2 : Nat) (Option.some Jvm.ClassFile.FieldType.int)) ∈ TW := List.mem_filter.mpr ⟨List.mem_append_right _ (List.mem_of_getElem? (i := 848) (by decide +kernel)), rfl⟩
theorem q849 : (Jvm.Cond.methodLink "ToastCourtModel" (115 : Nat) ({ cls := "ToastCourtModel", name := "learns", desc := "(I)I" } : Jvm.MethodName)) ∈ TW := List.mem_filter.mpr ⟨List.mem_append_right _ (List.mem_of_getElem? (i := 849) (by decide +kernel)), rfl⟩
theorem q851 : (Jvm.Cond.instanceMethod ({ cls := "ToastCourtModel", name := "learns", desc := "(I)I" } : Jvm.MethodName)) ∈ TW := List.mem_filter.mpr ⟨List.mem_append_right _ (List.mem_of_getElem? (i := 851) (by decide +kernel)), rfl⟩
theorem q852 : (Jvm.Cond.code ({ cls := "ToastCourtModel", name := "learns", desc := "(I)I" } : Jvm.MethodName) prog_7_method_24_code (2 : Nat) (Option.some Jvm.ClassFile.FieldType.int)) ∈ TW := List.mem_filter.mpr ⟨List.mem_append_right _ (List.mem_of_getElem? (i := 852) (by decide +kernel)), rfl⟩
theorem q853 : (Jvm.Cond.methodLink "ToastCourtModel" (118 : Nat) ({ cls := "ToastCourtModel", name := "cools", desc := "(I)I" } : Jvm.MethodName)) ∈ TW := List.mem_filter.mpr ⟨List.mem_append_right _ (List.mem_of_getElem? (i := 853) (by decide +kernel)), rfl⟩
theorem q855 : (Jvm.Cond.instanceMethod ({ cls := "ToastCourtModel", name := "cools", desc := "(I)I" } : Jvm.MethodName)) ∈ TW := List.mem_filter.mpr ⟨List.mem_append_right _ (List.mem_of_getElem? (i := 855) (by decide +kernel)), rfl⟩
theorem q856 : (Jvm.Cond.code ({ cls := "ToastCourtModel", name := "cools", desc := "(I)I" } : Jvm.MethodName) prog_7_method_25_code (2 : Nat) (Option.some Jvm.ClassFile.FieldType.int)) ∈ TW := List.mem_filter.mpr ⟨List.mem_append_right _ (List.mem_of_getElem? (i := 856) (by decide +kernel)), rfl⟩
theorem q857 : (Jvm.Cond.methodLink "ToastCourtLaw" (43 : Nat) ({ cls := "ToastCourtModel", name := "change", desc := "(III)I" } : Jvm.MethodName)) ∈ TW := List.mem_filter.mpr ⟨List.mem_append_right _ (List.mem_of_getElem? (i := 857) (by decide +kernel)), rfl⟩
theorem q858 : (Jvm.Cond.instanceMethod ({ cls := "ToastCourtModel", name := "change", desc := "(III)I" } : Jvm.MethodName)) ∈ TW := List.mem_filter.mpr ⟨List.mem_append_right _ (List.mem_of_getElem? (i := 858) (by decide +kernel)), rfl⟩
theorem q859 : (Jvm.Cond.selects "ToastCourtModel" ({ cls := "ToastCourtModel", name := "change", desc := "(III)I" } : Jvm.MethodName) ({ cls := "ToastCourtModel", name := "change", desc := "(III)I" } : Jvm.MethodName)) ∈ TW := List.mem_filter.mpr ⟨List.mem_append_right _ (List.mem_of_getElem? (i := 859) (by decide +kernel)), rfl⟩
theorem q860 : (Jvm.Cond.code ({ cls := "ToastCourtModel", name := "change", desc := "(III)I" } : Jvm.MethodName) prog_7_method_29_code (4 : Nat) (Option.some Jvm.ClassFile.FieldType.int)) ∈ TW := List.mem_filter.mpr ⟨List.mem_append_right _ (List.mem_of_getElem? (i := 860) (by decide +kernel)), rfl⟩
theorem q861 : (Jvm.Cond.methodLink "ToastCourtModel" (127 : Nat) ({ cls := "ToastCourtModel", name := "isField", desc := "(II)Z" } : Jvm.MethodName)) ∈ TW := List.mem_filter.mpr ⟨List.mem_append_right _ (List.mem_of_getElem? (i := 861) (by decide +kernel)), rfl⟩
theorem q862 : (Jvm.Cond.static ({ cls := "ToastCourtModel", name := "isField", desc := "(II)Z" } : Jvm.MethodName)) ∈ TW := List.mem_filter.mpr ⟨List.mem_append_right _ (List.mem_of_getElem? (i := 862) (by decide +kernel)), rfl⟩
theorem q863 : (Jvm.Cond.code ({ cls := "ToastCourtModel", name := "isField", desc := "(II)Z" } : Jvm.MethodName) prog_7_method_28_code (2 : Nat) (Option.some Jvm.ClassFile.FieldType.boolean)) ∈ TW := List.mem_filter.mpr ⟨List.mem_append_right _ (List.mem_of_getElem? (i := 863) (by decide +kernel)), rfl⟩
theorem q864 : (Jvm.Cond.methodLink "ToastCourtLaw" (47 : Nat) ({ cls := "ToastCourtModel", name := "turning", desc := "(II)I" } : Jvm.MethodName)) ∈ TW := List.mem_filter.mpr ⟨List.mem_append_right _ (List.mem_of_getElem? (i := 864) (by decide +kernel)), rfl⟩
theorem q865 : (Jvm.Cond.instanceMethod ({ cls := "ToastCourtModel", name := "turning", desc := "(II)I" } : Jvm.MethodName)) ∈ TW := List.mem_filter.mpr ⟨List.mem_append_right _ (List.mem_of_getElem? (i := 865) (by decide +kernel)), rfl⟩
theorem q866 : (Jvm.Cond.selects "ToastCourtModel" ({ cls := "ToastCourtModel", name := "turning", desc := "(II)I" } : Jvm.MethodName) ({ cls := "ToastCourtModel", name := "turning", desc := "(II)I" } : Jvm.MethodName)) ∈ TW := List.mem_filter.mpr ⟨List.mem_append_right _ (List.mem_of_getElem? (i := 866) (by decide +kernel)), rfl⟩
theorem q867 : (Jvm.Cond.code ({ cls := "ToastCourtModel", name := "turning", desc := "(II)I" } : Jvm.MethodName) prog_7_method_32_code (3 : Nat) (Option.some Jvm.ClassFile.FieldType.int)) ∈ TW := List.mem_filter.mpr ⟨List.mem_append_right _ (List.mem_of_getElem? (i := 867) (by decide +kernel)), rfl⟩
theorem q868 : (Jvm.Cond.methodLink "ToastCourtModel" (131 : Nat) ({ cls := "ToastCourtModel", name := "areTwo", desc := "(II)Z" } : Jvm.MethodName)) ∈ TW := List.mem_filter.mpr ⟨List.mem_append_right _ (List.mem_of_getElem? (i := 868) (by decide +kernel)), rfl⟩
theorem q870 : (Jvm.Cond.instanceMethod ({ cls := "ToastCourtModel", name := "areTwo", desc := "(II)Z" } : Jvm.MethodName)) ∈ TW := List.mem_filter.mpr ⟨List.mem_append_right _ (List.mem_of_getElem? (i := 870) (by decide +kernel)), rfl⟩
theorem q871 : (Jvm.Cond.code ({ cls := "ToastCourtModel", name := "areTwo", desc := "(II)Z" } : Jvm.MethodName) prog_7_method_31_code (3 : Nat) (Option.some Jvm.ClassFile.FieldType.boolean)) ∈ TW := List.mem_filter.mpr ⟨List.mem_append_right _ (List.mem_of_getElem? (i := 871) (by decide +kernel)), rfl⟩
theorem q872 : (Jvm.Cond.methodLink "ToastCourtModel" (134 : Nat) ({ cls := "ToastCourtModel", name := "turnsOf", desc := "(II)I" } : Jvm.MethodName)) ∈ TW := List.mem_filter.mpr ⟨List.mem_append_right _ (List.mem_of_getElem? (i := 872) (by decide +kernel)), rfl⟩
theorem q874 : (Jvm.Cond.instanceMethod ({ cls := "ToastCourtModel", name := "turnsOf", desc := "(II)I" } : Jvm.MethodName)) ∈ TW := List.mem_filter.mpr ⟨List.mem_append_right _ (List.mem_of_getElem? (i := 874) (by decide +kernel)), rfl⟩
theorem q875 : (Jvm.Cond.code ({ cls := "ToastCourtModel", name := "turnsOf", desc := "(II)I" } : Jvm.MethodName) prog_7_method_30_code (3 : Nat) (Option.some Jvm.ClassFile.FieldType.int)) ∈ TW := List.mem_filter.mpr ⟨List.mem_append_right _ (List.mem_of_getElem? (i := 875) (by decide +kernel)), rfl⟩
theorem q876 : (Jvm.Cond.methodLink "ToastCourtLaw" (51 : Nat) ({ cls := "ToastCourtModel", name := "falls", desc := "(II)I" } : Jvm.MethodName)) ∈ TW := List.mem_filter.mpr ⟨List.mem_append_right _ (List.mem_of_getElem? (i := 876) (by decide +kernel)), rfl⟩
theorem q877 : (Jvm.Cond.instanceMethod ({ cls := "ToastCourtModel", name := "falls", desc := "(II)I" } : Jvm.MethodName)) ∈ TW := List.mem_filter.mpr ⟨List.mem_append_right _ (List.mem_of_getElem? (i := 877) (by decide +kernel)), rfl⟩
theorem q878 : (Jvm.Cond.selects "ToastCourtModel" ({ cls := "ToastCourtModel", name := "falls", desc := "(II)I" } : Jvm.MethodName) ({ cls := "ToastCourtModel", name := "falls", desc := "(II)I" } : Jvm.MethodName)) ∈ TW := List.mem_filter.mpr ⟨List.mem_append_right _ (List.mem_of_getElem? (i := 878) (by decide +kernel)), rfl⟩
theorem q879 : (Jvm.Cond.code ({ cls := "ToastCourtModel", name := "falls", desc := "(II)I" } : Jvm.MethodName) prog_7_method_34_code (3 : Nat) (Option.some Jvm.ClassFile.FieldType.int)) ∈ TW := List.mem_filter.mpr ⟨List.mem_append_right _ (List.mem_of_getElem? (i := 879) (by decide +kernel)), rfl⟩
theorem q880 : (Jvm.Cond.methodLink "ToastCourtModel" (137 : Nat) ({ cls := "ToastCourtModel", name := "fallsFor", desc := "(II)I" } : Jvm.MethodName)) ∈ TW := List.mem_filter.mpr ⟨List.mem_append_right _ (List.mem_of_getElem? (i := 880) (by decide +kernel)), rfl⟩
theorem q882 : (Jvm.Cond.instanceMethod ({ cls := "ToastCourtModel", name := "fallsFor", desc := "(II)I" } : Jvm.MethodName)) ∈ TW := List.mem_filter.mpr ⟨List.mem_append_right _ (List.mem_of_getElem? (i := 882) (by decide +kernel)), rfl⟩
theorem q883 : (Jvm.Cond.code ({ cls := "ToastCourtModel", name := "fallsFor", desc := "(II)I" } : Jvm.MethodName) prog_7_method_33_code (5 : Nat) (Option.some Jvm.ClassFile.FieldType.int)) ∈ TW := List.mem_filter.mpr ⟨List.mem_append_right _ (List.mem_of_getElem? (i := 883) (by decide +kernel)), rfl⟩
theorem q884 : (Jvm.Cond.methodLink "ToastCourtModel" (140 : Nat) ({ cls := "ToastCourtModel", name := "orNone", desc := "(I)I" } : Jvm.MethodName)) ∈ TW := List.mem_filter.mpr ⟨List.mem_append_right _ (List.mem_of_getElem? (i := 884) (by decide +kernel)), rfl⟩
theorem q886 : (Jvm.Cond.instanceMethod ({ cls := "ToastCourtModel", name := "orNone", desc := "(I)I" } : Jvm.MethodName)) ∈ TW := List.mem_filter.mpr ⟨List.mem_append_right _ (List.mem_of_getElem? (i := 886) (by decide +kernel)), rfl⟩
theorem q887 : (Jvm.Cond.code ({ cls := "ToastCourtModel", name := "orNone", desc := "(I)I" } : Jvm.MethodName) prog_7_method_7_code (2 : Nat) (Option.some Jvm.ClassFile.FieldType.int)) ∈ TW := List.mem_filter.mpr ⟨List.mem_append_right _ (List.mem_of_getElem? (i := 887) (by decide +kernel)), rfl⟩
theorem q888 : (Jvm.Cond.constant "ToastCourtModel" (65 : Nat) (-1000004 : Int32)) ∈ TW := List.mem_filter.mpr ⟨List.mem_append_right _ (List.mem_of_getElem? (i := 888) (by decide +kernel)), rfl⟩
theorem q889 : (Jvm.Cond.methodLink "ToastCourtLaw" (55 : Nat) ({ cls := "ToastCourtModel", name := "go", desc := "(I)I" } : Jvm.MethodName)) ∈ TW := List.mem_filter.mpr ⟨List.mem_append_right _ (List.mem_of_getElem? (i := 889) (by decide +kernel)), rfl⟩
theorem q890 : (Jvm.Cond.instanceMethod ({ cls := "ToastCourtModel", name := "go", desc := "(I)I" } : Jvm.MethodName)) ∈ TW := List.mem_filter.mpr ⟨List.mem_append_right _ (List.mem_of_getElem? (i := 890) (by decide +kernel)), rfl⟩
theorem q891 : (Jvm.Cond.selects "ToastCourtModel" ({ cls := "ToastCourtModel", name := "go", desc := "(I)I" } : Jvm.MethodName) ({ cls := "ToastCourtModel", name := "go", desc := "(I)I" } : Jvm.MethodName)) ∈ TW := List.mem_filter.mpr ⟨List.mem_append_right _ (List.mem_of_getElem? (i := 891) (by decide +kernel)), rfl⟩
theorem q892 : (Jvm.Cond.code ({ cls := "ToastCourtModel", name := "go", desc := "(I)I" } : Jvm.MethodName) prog_7_method_41_code (2 : Nat) (Option.some Jvm.ClassFile.FieldType.int)) ∈ TW := List.mem_filter.mpr ⟨List.mem_append_right _ (List.mem_of_getElem? (i := 892) (by decide +kernel)), rfl⟩
theorem q893 : (Jvm.Cond.constant "ToastCourtModel" (155 : Nat) (99999 : Int32)) ∈ TW := List.mem_filter.mpr ⟨List.mem_append_right _ (List.mem_of_getElem? (i := 893) (by decide +kernel)), rfl⟩
theorem q894 : (Jvm.Cond.constant "ToastCourtModel" (159 : Nat) (-1000005 : Int32)) ∈ TW := List.mem_filter.mpr ⟨List.mem_append_right _ (List.mem_of_getElem? (i := 894) (by decide +kernel)), rfl⟩
theorem q895 : (Jvm.Cond.methodLink "ToastCourtModel" (160 : Nat) ({ cls := "ToastCourtModel", name := "dropsGo", desc := "(I)V" } : Jvm.MethodName)) ∈ TW := List.mem_filter.mpr ⟨List.mem_append_right _ (List.mem_of_getElem? (i := 895) (by decide +kernel)), rfl⟩
theorem q897 : (Jvm.Cond.instanceMethod ({ cls := "ToastCourtModel", name := "dropsGo", desc := "(I)V" } : Jvm.MethodName)) ∈ TW := List.mem_filter.mpr ⟨List.mem_append_right _ (List.mem_of_getElem? (i := 897) (by decide +kernel)), rfl⟩
theorem q898 : (Jvm.Cond.code ({ cls := "ToastCourtModel", name := "dropsGo", desc := "(I)V" } : Jvm.MethodName) prog_7_method_39_code (3 : Nat) (Option.none : Option Jvm.ClassFile.FieldType)) ∈ TW := List.mem_filter.mpr ⟨List.mem_append_right _ (List.mem_of_getElem? (i := 898) (by decide +kernel)), rfl⟩
theorem q899 : (Jvm.Cond.methodLink "ToastCourtModel" (156 : Nat) ({ cls := "ToastCourtModel", name := "drop", desc := "()V" } : Jvm.MethodName)) ∈ TW := List.mem_filter.mpr ⟨List.mem_append_right _ (List.mem_of_getElem? (i := 899) (by decide +kernel)), rfl⟩
theorem q901 : (Jvm.Cond.instanceMethod ({ cls := "ToastCourtModel", name := "drop", desc := "()V" } : Jvm.MethodName)) ∈ TW := List.mem_filter.mpr ⟨List.mem_append_right _ (List.mem_of_getElem? (i := 901) (by decide +kernel)), rfl⟩
theorem q902 : (Jvm.Cond.code ({ cls := "ToastCourtModel", name := "drop", desc := "()V" } : Jvm.MethodName) prog_7_method_38_code (2 : Nat) (Option.none : Option Jvm.ClassFile.FieldType)) ∈ TW := List.mem_filter.mpr ⟨List.mem_append_right _ (List.mem_of_getElem? (i := 902) (by decide +kernel)), rfl⟩
theorem q903 : (Jvm.Cond.methodLink "ToastCourtModel" (147 : Nat) ({ cls := "ToastCourtModel", name := "fallsOut", desc := "()Z" } : Jvm.MethodName)) ∈ TW := List.mem_filter.mpr ⟨List.mem_append_right _ (List.mem_of_getElem? (i := 903) (by decide +kernel)), rfl⟩
theorem q905 : (Jvm.Cond.instanceMethod ({ cls := "ToastCourtModel", name := "fallsOut", desc := "()Z" } : Jvm.MethodName)) ∈ TW := List.mem_filter.mpr ⟨List.mem_append_right _ (List.mem_of_getElem? (i := 905) (by decide +kernel)), rfl⟩
theorem q906 : (Jvm.Cond.code ({ cls := "ToastCourtModel", name := "fallsOut", desc := "()Z" } : Jvm.MethodName) prog_7_method_35_code (3 : Nat) (Option.some Jvm.ClassFile.FieldType.boolean)) ∈ TW := List.mem_filter.mpr ⟨List.mem_append_right _ (List.mem_of_getElem? (i := 906) (by decide +kernel)), rfl⟩
theorem q907 : (Jvm.Cond.methodLink "ToastCourtModel" (151 : Nat) ({ cls := "ToastCourtModel", name := "settles", desc := "(II)V" } : Jvm.MethodName)) ∈ TW := List.mem_filter.mpr ⟨List.mem_append_right _ (List.mem_of_getElem? (i := 907) (by decide +kernel)), rfl⟩
theorem q909 : (Jvm.Cond.instanceMethod ({ cls := "ToastCourtModel", name := "settles", desc := "(II)V" } : Jvm.MethodName)) ∈ TW := List.mem_filter.mpr ⟨List.mem_append_right _ (List.mem_of_getElem? (i := 909) (by decide +kernel)), rfl⟩
theorem q910 : (Jvm.Cond.code ({ cls := "ToastCourtModel", name := "settles", desc := "(II)V" } : Jvm.MethodName) prog_7_method_37_code (6 : Nat) (Option.none : Option Jvm.ClassFile.FieldType)) ∈ TW := List.mem_filter.mpr ⟨List.mem_append_right _ (List.mem_of_getElem? (i := 910) (by decide +kernel)), rfl⟩
theorem q911 : (Jvm.Cond.methodLink "ToastCourtModel" (143 : Nat) ({ cls := "ToastCourtModel", name := "more", desc := "(III)V" } : Jvm.MethodName)) ∈ TW := List.mem_filter.mpr ⟨List.mem_append_right _ (List.mem_of_getElem? (i := 911) (by decide +kernel)), rfl⟩
theorem q913 : (Jvm.Cond.instanceMethod ({ cls := "ToastCourtModel", name := "more", desc := "(III)V" } : Jvm.MethodName)) ∈ TW := List.mem_filter.mpr ⟨List.mem_append_right _ (List.mem_of_getElem? (i := 913) (by decide +kernel)), rfl⟩
theorem q914 : (Jvm.Cond.code ({ cls := "ToastCourtModel", name := "more", desc := "(III)V" } : Jvm.MethodName) prog_7_method_36_code (4 : Nat) (Option.none : Option Jvm.ClassFile.FieldType)) ∈ TW := List.mem_filter.mpr ⟨List.mem_append_right _ (List.mem_of_getElem? (i := 914) (by decide +kernel)), rfl⟩
theorem q915 : (Jvm.Cond.methodLink "ToastCourtModel" (164 : Nat) ({ cls := "ToastCourtModel", name := "sumOf", desc := "(I)I" } : Jvm.MethodName)) ∈ TW := List.mem_filter.mpr ⟨List.mem_append_right _ (List.mem_of_getElem? (i := 915) (by decide +kernel)), rfl⟩
theorem q917 : (Jvm.Cond.instanceMethod ({ cls := "ToastCourtModel", name := "sumOf", desc := "(I)I" } : Jvm.MethodName)) ∈ TW := List.mem_filter.mpr ⟨List.mem_append_right _ (List.mem_of_getElem? (i := 917) (by decide +kernel)), rfl⟩
theorem q918 : (Jvm.Cond.code ({ cls := "ToastCourtModel", name := "sumOf", desc := "(I)I" } : Jvm.MethodName) prog_7_method_40_code (4 : Nat) (Option.some Jvm.ClassFile.FieldType.int)) ∈ TW := List.mem_filter.mpr ⟨List.mem_append_right _ (List.mem_of_getElem? (i := 918) (by decide +kernel)), rfl⟩
theorem q919 : (Jvm.Cond.methodLink "ToastCourtLaw" (59 : Nat) ({ cls := "ToastCourtModel", name := "now", desc := "(I)I" } : Jvm.MethodName)) ∈ TW := List.mem_filter.mpr ⟨List.mem_append_right _ (List.mem_of_getElem? (i := 919) (by decide +kernel)), rfl⟩
theorem q920 : (Jvm.Cond.instanceMethod ({ cls := "ToastCourtModel", name := "now", desc := "(I)I" } : Jvm.MethodName)) ∈ TW := List.mem_filter.mpr ⟨List.mem_append_right _ (List.mem_of_getElem? (i := 920) (by decide +kernel)), rfl⟩
theorem q921 : (Jvm.Cond.selects "ToastCourtModel" ({ cls := "ToastCourtModel", name := "now", desc := "(I)I" } : Jvm.MethodName) ({ cls := "ToastCourtModel", name := "now", desc := "(I)I" } : Jvm.MethodName)) ∈ TW := List.mem_filter.mpr ⟨List.mem_append_right _ (List.mem_of_getElem? (i := 921) (by decide +kernel)), rfl⟩
theorem q922 : (Jvm.Cond.code ({ cls := "ToastCourtModel", name := "now", desc := "(I)I" } : Jvm.MethodName) prog_7_method_45_code (2 : Nat) (Option.some Jvm.ClassFile.FieldType.int)) ∈ TW := List.mem_filter.mpr ⟨List.mem_append_right _ (List.mem_of_getElem? (i := 922) (by decide +kernel)), rfl⟩
theorem q923 : (Jvm.Cond.methodLink "ToastCourtModel" (167 : Nat) ({ cls := "ToastCourtModel", name := "oftenWrong", desc := "()I" } : Jvm.MethodName)) ∈ TW := List.mem_filter.mpr ⟨List.mem_append_right _ (List.mem_of_getElem? (i := 923) (by decide +kernel)), rfl⟩
theorem q925 : (Jvm.Cond.instanceMethod ({ cls := "ToastCourtModel", name := "oftenWrong", desc := "()I" } : Jvm.MethodName)) ∈ TW := List.mem_filter.mpr ⟨List.mem_append_right _ (List.mem_of_getElem? (i := 925) (by decide +kernel)), rfl⟩
theorem q926 : (Jvm.Cond.code ({ cls := "ToastCourtModel", name := "oftenWrong", desc := "()I" } : Jvm.MethodName) prog_7_method_42_code (3 : Nat) (Option.some Jvm.ClassFile.FieldType.int)) ∈ TW := List.mem_filter.mpr ⟨List.mem_append_right _ (List.mem_of_getElem? (i := 926) (by decide +kernel)), rfl⟩
theorem q927 : (Jvm.Cond.methodLink "ToastCourtModel" (171 : Nat) ({ cls := "ToastCourtModel", name := "pressesMost", desc := "()I" } : Jvm.MethodName)) ∈ TW := List.mem_filter.mpr ⟨List.mem_append_right _ (List.mem_of_getElem? (i := 927) (by decide +kernel)), rfl⟩
theorem q929 : (Jvm.Cond.instanceMethod ({ cls := "ToastCourtModel", name := "pressesMost", desc := "()I" } : Jvm.MethodName)) ∈ TW := List.mem_filter.mpr ⟨List.mem_append_right _ (List.mem_of_getElem? (i := 929) (by decide +kernel)), rfl⟩
theorem q930 : (Jvm.Cond.code ({ cls := "ToastCourtModel", name := "pressesMost", desc := "()I" } : Jvm.MethodName) prog_7_method_43_code (3 : Nat) (Option.some Jvm.ClassFile.FieldType.int)) ∈ TW := List.mem_filter.mpr ⟨List.mem_append_right _ (List.mem_of_getElem? (i := 930) (by decide +kernel)), rfl⟩
theorem q931 : (Jvm.Cond.methodLink "ToastCourtModel" (174 : Nat) ({ cls := "ToastCourtModel", name := "silent", desc := "()I" } : Jvm.MethodName)) ∈ TW := List.mem_filter.mpr ⟨List.mem_append_right _ (List.mem_of_getElem? (i := 931) (by decide +kernel)), rfl⟩
theorem q933 : (Jvm.Cond.instanceMethod ({ cls := "ToastCourtModel", name := "silent", desc := "()I" } : Jvm.MethodName)) ∈ TW := List.mem_filter.mpr ⟨List.mem_append_right _ (List.mem_of_getElem? (i := 933) (by decide +kernel)), rfl⟩
theorem q934 : (Jvm.Cond.code ({ cls := "ToastCourtModel", name := "silent", desc := "()I" } : Jvm.MethodName) prog_7_method_44_code (3 : Nat) (Option.some Jvm.ClassFile.FieldType.int)) ∈ TW := List.mem_filter.mpr ⟨List.mem_append_right _ (List.mem_of_getElem? (i := 934) (by decide +kernel)), rfl⟩
theorem q935 : (Jvm.Cond.methodLink "ToastCourtLaw" (63 : Nat) ({ cls := "ToastCourtModel", name := "ahead", desc := "(III)I" } : Jvm.MethodName)) ∈ TW := List.mem_filter.mpr ⟨List.mem_append_right _ (List.mem_of_getElem? (i := 935) (by decide +kernel)), rfl⟩
theorem q936 : (Jvm.Cond.instanceMethod ({ cls := "ToastCourtModel", name := "ahead", desc := "(III)I" } : Jvm.MethodName)) ∈ TW := List.mem_filter.mpr ⟨List.mem_append_right _ (List.mem_of_getElem? (i := 936) (by decide +kernel)), rfl⟩
theorem q937 : (Jvm.Cond.selects "ToastCourtModel" ({ cls := "ToastCourtModel", name := "ahead", desc := "(III)I" } : Jvm.MethodName) ({ cls := "ToastCourtModel", name := "ahead", desc := "(III)I" } : Jvm.MethodName)) ∈ TW := List.mem_filter.mpr ⟨List.mem_append_right _ (List.mem_of_getElem? (i := 937) (by decide +kernel)), rfl⟩
theorem q938 : (Jvm.Cond.code ({ cls := "ToastCourtModel", name := "ahead", desc := "(III)I" } : Jvm.MethodName) prog_7_method_47_code (5 : Nat) (Option.some Jvm.ClassFile.FieldType.int)) ∈ TW := List.mem_filter.mpr ⟨List.mem_append_right _ (List.mem_of_getElem? (i := 938) (by decide +kernel)), rfl⟩
theorem q939 : (Jvm.Cond.methodLink "ToastCourtModel" (61 : Nat) ({ cls := "ToastCourtModel", name := "copyRow", desc := "([I[I)V" } : Jvm.MethodName)) ∈ TW := List.mem_filter.mpr ⟨List.mem_append_right _ (List.mem_of_getElem? (i := 939) (by decide +kernel)), rfl⟩
theorem q940 : (Jvm.Cond.static ({ cls := "ToastCourtModel", name := "copyRow", desc := "([I[I)V" } : Jvm.MethodName)) ∈ TW := List.mem_filter.mpr ⟨List.mem_append_right _ (List.mem_of_getElem? (i := 940) (by decide +kernel)), rfl⟩
theorem q941 : (Jvm.Cond.code ({ cls := "ToastCourtModel", name := "copyRow", desc := "([I[I)V" } : Jvm.MethodName) prog_7_method_5_code (3 : Nat) (Option.none : Option Jvm.ClassFile.FieldType)) ∈ TW := List.mem_filter.mpr ⟨List.mem_append_right _ (List.mem_of_getElem? (i := 941) (by decide +kernel)), rfl⟩
theorem q942 : (Jvm.Cond.methodLink "ToastCourtModel" (177 : Nat) ({ cls := "ToastCourtModel", name := "putBack", desc := "(I)I" } : Jvm.MethodName)) ∈ TW := List.mem_filter.mpr ⟨List.mem_append_right _ (List.mem_of_getElem? (i := 942) (by decide +kernel)), rfl⟩
theorem q944 : (Jvm.Cond.instanceMethod ({ cls := "ToastCourtModel", name := "putBack", desc := "(I)I" } : Jvm.MethodName)) ∈ TW := List.mem_filter.mpr ⟨List.mem_append_right _ (List.mem_of_getElem? (i := 944) (by decide +kernel)), rfl⟩
theorem q945 : (Jvm.Cond.code ({ cls := "ToastCourtModel", name := "putBack", desc := "(I)I" } : Jvm.MethodName) prog_7_method_6_code (2 : Nat) (Option.some Jvm.ClassFile.FieldType.int)) ∈ TW := List.mem_filter.mpr ⟨List.mem_append_right _ (List.mem_of_getElem? (i := 945) (by decide +kernel)), rfl⟩
theorem q946 : (Jvm.Cond.methodLink "ToastCourtLaw" (67 : Nat) ({ cls := "ToastCourtModel", name := "wrong", desc := "(II)I" } : Jvm.MethodName)) ∈ TW := List.mem_filter.mpr ⟨List.mem_append_right _ (List.mem_of_getElem? (i := 946) (by decide +kernel)), rfl⟩
theorem q947 : (Jvm.Cond.instanceMethod ({ cls := "ToastCourtModel", name := "wrong", desc := "(II)I" } : Jvm.MethodName)) ∈ TW := List.mem_filter.mpr ⟨List.mem_append_right _ (List.mem_of_getElem? (i := 947) (by decide +kernel)), rfl⟩
theorem q948 : (Jvm.Cond.selects "ToastCourtModel" ({ cls := "ToastCourtModel", name := "wrong", desc := "(II)I" } : Jvm.MethodName) ({ cls := "ToastCourtModel", name := "wrong", desc := "(II)I" } : Jvm.MethodName)) ∈ TW := List.mem_filter.mpr ⟨List.mem_append_right _ (List.mem_of_getElem? (i := 948) (by decide +kernel)), rfl⟩
theorem q949 : (Jvm.Cond.code ({ cls := "ToastCourtModel", name := "wrong", desc := "(II)I" } : Jvm.MethodName) prog_7_method_49_code (3 : Nat) (Option.some Jvm.ClassFile.FieldType.int)) ∈ TW := List.mem_filter.mpr ⟨List.mem_append_right _ (List.mem_of_getElem? (i := 949) (by decide +kernel)), rfl⟩
theorem q950 : (Jvm.Cond.methodLink "ToastCourtModel" (180 : Nat) ({ cls := "ToastCourtModel", name := "dropsTo", desc := "(II)I" } : Jvm.MethodName)) ∈ TW := List.mem_filter.mpr ⟨List.mem_append_right _ (List.mem_of_getElem? (i := 950) (by decide +kernel)), rfl⟩
theorem q952 : (Jvm.Cond.instanceMethod ({ cls := "ToastCourtModel", name := "dropsTo", desc := "(II)I" } : Jvm.MethodName)) ∈ TW := List.mem_filter.mpr ⟨List.mem_append_right _ (List.mem_of_getElem? (i := 952) (by decide +kernel)), rfl⟩
theorem q953 : (Jvm.Cond.code ({ cls := "ToastCourtModel", name := "dropsTo", desc := "(II)I" } : Jvm.MethodName) prog_7_method_48_code (4 : Nat) (Option.some Jvm.ClassFile.FieldType.int)) ∈ TW := List.mem_filter.mpr ⟨List.mem_append_right _ (List.mem_of_getElem? (i := 953) (by decide +kernel)), rfl⟩
theorem q954 : (Jvm.Cond.methodLink "ToastCourtLaw" (71 : Nat) ({ cls := "ToastCourtModel", name := "right", desc := "(II)I" } : Jvm.MethodName)) ∈ TW := List.mem_filter.mpr ⟨List.mem_append_right _ (List.mem_of_getElem? (i := 954) (by decide +kernel)), rfl⟩
theorem q955 : (Jvm.Cond.instanceMethod ({ cls := "ToastCourtModel", name := "right", desc := "(II)I" } : Jvm.MethodName)) ∈ TW := List.mem_filter.mpr ⟨List.mem_append_right _ (List.mem_of_getElem? (i := 955) (by decide +kernel)), rfl⟩
theorem q956 : (Jvm.Cond.selects "ToastCourtModel" ({ cls := "ToastCourtModel", name := "right", desc := "(II)I" } : Jvm.MethodName) ({ cls := "ToastCourtModel", name := "right", desc := "(II)I" } : Jvm.MethodName)) ∈ TW := List.mem_filter.mpr ⟨List.mem_append_right _ (List.mem_of_getElem? (i := 956) (by decide +kernel)), rfl⟩
theorem q957 : (Jvm.Cond.code ({ cls := "ToastCourtModel", name := "right", desc := "(II)I" } : Jvm.MethodName) prog_7_method_50_code (3 : Nat) (Option.some Jvm.ClassFile.FieldType.int)) ∈ TW := List.mem_filter.mpr ⟨List.mem_append_right _ (List.mem_of_getElem? (i := 957) (by decide +kernel)), rfl⟩
theorem q958 : (Jvm.Cond.methodLink "ToastCourtLaw" (76 : Nat) ({ cls := "ToastCourtModel", name := "stands", desc := "()I" } : Jvm.MethodName)) ∈ TW := List.mem_filter.mpr ⟨List.mem_append_right _ (List.mem_of_getElem? (i := 958) (by decide +kernel)), rfl⟩
theorem q959 : (Jvm.Cond.instanceMethod ({ cls := "ToastCourtModel", name := "stands", desc := "()I" } : Jvm.MethodName)) ∈ TW := List.mem_filter.mpr ⟨List.mem_append_right _ (List.mem_of_getElem? (i := 959) (by decide +kernel)), rfl⟩
theorem q960 : (Jvm.Cond.selects "ToastCourtModel" ({ cls := "ToastCourtModel", name := "stands", desc := "()I" } : Jvm.MethodName) ({ cls := "ToastCourtModel", name := "stands", desc := "()I" } : Jvm.MethodName)) ∈ TW := List.mem_filter.mpr ⟨List.mem_append_right _ (List.mem_of_getElem? (i := 960) (by decide +kernel)), rfl⟩
theorem q961 : (Jvm.Cond.code ({ cls := "ToastCourtModel", name := "stands", desc := "()I" } : Jvm.MethodName) prog_7_method_51_code (1 : Nat) (Option.some Jvm.ClassFile.FieldType.int)) ∈ TW := List.mem_filter.mpr ⟨List.mem_append_right _ (List.mem_of_getElem? (i := 961) (by decide +kernel)), rfl⟩
theorem q962 : (Jvm.Cond.methodLink "ToastCourtLaw" (80 : Nat) ({ cls := "ToastCourtModel", name := "calm", desc := "(II)I" } : Jvm.MethodName)) ∈ TW := List.mem_filter.mpr ⟨List.mem_append_right _ (List.mem_of_getElem? (i := 962) (by decide +kernel)), rfl⟩
theorem q963 : (Jvm.Cond.instanceMethod ({ cls := "ToastCourtModel", name := "calm", desc := "(II)I" } : Jvm.MethodName)) ∈ TW := List.mem_filter.mpr ⟨List.mem_append_right _ (List.mem_of_getElem? (i := 963) (by decide +kernel)), rfl⟩
theorem q964 : (Jvm.Cond.selects "ToastCourtModel" ({ cls := "ToastCourtModel", name := "calm", desc := "(II)I" } : Jvm.MethodName) ({ cls := "ToastCourtModel", name := "calm", desc := "(II)I" } : Jvm.MethodName)) ∈ TW := List.mem_filter.mpr ⟨List.mem_append_right _ (List.mem_of_getElem? (i := 964) (by decide +kernel)), rfl⟩
theorem q965 : (Jvm.Cond.code ({ cls := "ToastCourtModel", name := "calm", desc := "(II)I" } : Jvm.MethodName) prog_7_method_52_code (4 : Nat) (Option.some Jvm.ClassFile.FieldType.int)) ∈ TW := List.mem_filter.mpr ⟨List.mem_append_right _ (List.mem_of_getElem? (i := 965) (by decide +kernel)), rfl⟩
theorem q966 : (Jvm.Cond.methodLink "ToastCourtLaw" (84 : Nat) ({ cls := "ToastCourtModel", name := "heightFor", desc := "(II)I" } : Jvm.MethodName)) ∈ TW := List.mem_filter.mpr ⟨List.mem_append_right _ (List.mem_of_getElem? (i := 966) (by decide +kernel)), rfl⟩
theorem q967 : (Jvm.Cond.instanceMethod ({ cls := "ToastCourtModel", name := "heightFor", desc := "(II)I" } : Jvm.MethodName)) ∈ TW := List.mem_filter.mpr ⟨List.mem_append_right _ (List.mem_of_getElem? (i := 967) (by decide +kernel)), rfl⟩
theorem q968 : (Jvm.Cond.selects "ToastCourtModel" ({ cls := "ToastCourtModel", name := "heightFor", desc := "(II)I" } : Jvm.MethodName) ({ cls := "ToastCourtModel", name := "heightFor", desc := "(II)I" } : Jvm.MethodName)) ∈ TW := List.mem_filter.mpr ⟨List.mem_append_right _ (List.mem_of_getElem? (i := 968) (by decide +kernel)), rfl⟩
theorem q969 : (Jvm.Cond.code ({ cls := "ToastCourtModel", name := "heightFor", desc := "(II)I" } : Jvm.MethodName) prog_7_method_54_code (6 : Nat) (Option.some Jvm.ClassFile.FieldType.int)) ∈ TW := List.mem_filter.mpr ⟨List.mem_append_right _ (List.mem_of_getElem? (i := 969) (by decide +kernel)), rfl⟩
theorem q970 : (Jvm.Cond.methodLink "ToastCourtModel" (183 : Nat) ({ cls := "ToastCourtModel", name := "isThought", desc := "(I)Z" } : Jvm.MethodName)) ∈ TW := List.mem_filter.mpr ⟨List.mem_append_right _ (List.mem_of_getElem? (i := 970) (by decide +kernel)), rfl⟩
theorem q971 : (Jvm.Cond.static ({ cls := "ToastCourtModel", name := "isThought", desc := "(I)Z" } : Jvm.MethodName)) ∈ TW := List.mem_filter.mpr ⟨List.mem_append_right _ (List.mem_of_getElem? (i := 971) (by decide +kernel)), rfl⟩
theorem q972 : (Jvm.Cond.code ({ cls := "ToastCourtModel", name := "isThought", desc := "(I)Z" } : Jvm.MethodName) prog_7_method_53_code (1 : Nat) (Option.some Jvm.ClassFile.FieldType.boolean)) ∈ TW := List.mem_filter.mpr ⟨List.mem_append_right _ (List.mem_of_getElem? (i := 972) (by decide +kernel)), rfl⟩
theorem q973 : (Jvm.Cond.methodLink "ToastCourtModel" (186 : Nat) ({ cls := "ToastCourtModel", name := "behind", desc := "(II)I" } : Jvm.MethodName)) ∈ TW := List.mem_filter.mpr ⟨List.mem_append_right _ (List.mem_of_getElem? (i := 973) (by decide +kernel)), rfl⟩
theorem q975 : (Jvm.Cond.instanceMethod ({ cls := "ToastCourtModel", name := "behind", desc := "(II)I" } : Jvm.MethodName)) ∈ TW := List.mem_filter.mpr ⟨List.mem_append_right _ (List.mem_of_getElem? (i := 975) (by decide +kernel)), rfl⟩
theorem q976 : (Jvm.Cond.code ({ cls := "ToastCourtModel", name := "behind", desc := "(II)I" } : Jvm.MethodName) prog_7_method_46_code (3 : Nat) (Option.some Jvm.ClassFile.FieldType.int)) ∈ TW := List.mem_filter.mpr ⟨List.mem_append_right _ (List.mem_of_getElem? (i := 976) (by decide +kernel)), rfl⟩
theorem q977 : (Jvm.Cond.methodLink "ToastCourtLaw" (88 : Nat) ({ cls := "ToastCourtModel", name := "spreadFor", desc := "(II)I" } : Jvm.MethodName)) ∈ TW := List.mem_filter.mpr ⟨List.mem_append_right _ (List.mem_of_getElem? (i := 977) (by decide +kernel)), rfl⟩
theorem q978 : (Jvm.Cond.instanceMethod ({ cls := "ToastCourtModel", name := "spreadFor", desc := "(II)I" } : Jvm.MethodName)) ∈ TW := List.mem_filter.mpr ⟨List.mem_append_right _ (List.mem_of_getElem? (i := 978) (by decide +kernel)), rfl⟩
theorem q979 : (Jvm.Cond.selects "ToastCourtModel" ({ cls := "ToastCourtModel", name := "spreadFor", desc := "(II)I" } : Jvm.MethodName) ({ cls := "ToastCourtModel", name := "spreadFor", desc := "(II)I" } : Jvm.MethodName)) ∈ TW := List.mem_filter.mpr ⟨List.mem_append_right _ (List.mem_of_getElem? (i := 979) (by decide +kernel)), rfl⟩
theorem q980 : (Jvm.Cond.code ({ cls := "ToastCourtModel", name := "spreadFor", desc := "(II)I" } : Jvm.MethodName) prog_7_method_56_code (3 : Nat) (Option.some Jvm.ClassFile.FieldType.int)) ∈ TW := List.mem_filter.mpr ⟨List.mem_append_right _ (List.mem_of_getElem? (i := 980) (by decide +kernel)), rfl⟩
theorem q981 : (Jvm.Cond.methodLink "ToastCourtModel" (189 : Nat) ({ cls := "ToastCourtModel", name := "bestFor", desc := "(IIII)I" } : Jvm.MethodName)) ∈ TW := List.mem_filter.mpr ⟨List.mem_append_right _ (List.mem_of_getElem? (i := 981) (by decide +kernel)), rfl⟩
theorem q983 : (Jvm.Cond.instanceMethod ({ cls := "ToastCourtModel", name := "bestFor", desc := "(IIII)I" } : Jvm.MethodName)) ∈ TW := List.mem_filter.mpr ⟨List.mem_append_right _ (List.mem_of_getElem? (i := 983) (by decide +kernel)), rfl⟩
theorem q984 : (Jvm.Cond.code ({ cls := "ToastCourtModel", name := "bestFor", desc := "(IIII)I" } : Jvm.MethodName) prog_7_method_55_code (10 : Nat) (Option.some Jvm.ClassFile.FieldType.int)) ∈ TW := List.mem_filter.mpr ⟨List.mem_append_right _ (List.mem_of_getElem? (i := 984) (by decide +kernel)), rfl⟩
theorem q985 : (Jvm.Cond.methodLink "ToastCourtLaw" (92 : Nat) ({ cls := "ToastCourtModel", name := "kindFor", desc := "(II)I" } : Jvm.MethodName)) ∈ TW := List.mem_filter.mpr ⟨List.mem_append_right _ (List.mem_of_getElem? (i := 985) (by decide +kernel)), rfl⟩
theorem q986 : (Jvm.Cond.instanceMethod ({ cls := "ToastCourtModel", name := "kindFor", desc := "(II)I" } : Jvm.MethodName)) ∈ TW := List.mem_filter.mpr ⟨List.mem_append_right _ (List.mem_of_getElem? (i := 986) (by decide +kernel)), rfl⟩
theorem q987 : (Jvm.Cond.selects "ToastCourtModel" ({ cls := "ToastCourtModel", name := "kindFor", desc := "(II)I" } : Jvm.MethodName) ({ cls := "ToastCourtModel", name := "kindFor", desc := "(II)I" } : Jvm.MethodName)) ∈ TW := List.mem_filter.mpr ⟨List.mem_append_right _ (List.mem_of_getElem? (i := 987) (by decide +kernel)), rfl⟩
theorem q988 : (Jvm.Cond.code ({ cls := "ToastCourtModel", name := "kindFor", desc := "(II)I" } : Jvm.MethodName) prog_7_method_57_code (3 : Nat) (Option.some Jvm.ClassFile.FieldType.int)) ∈ TW := List.mem_filter.mpr ⟨List.mem_append_right _ (List.mem_of_getElem? (i := 988) (by decide +kernel)), rfl⟩
theorem q989 : (Jvm.Cond.methodLink "ToastCourtLaw" (96 : Nat) ({ cls := "ToastCourtModel", name := "causeFor", desc := "(III)I" } : Jvm.MethodName)) ∈ TW := List.mem_filter.mpr ⟨List.mem_append_right _ (List.mem_of_getElem? (i := 989) (by decide +kernel)), rfl⟩
theorem q990 : (Jvm.Cond.instanceMethod ({ cls := "ToastCourtModel", name := "causeFor", desc := "(III)I" } : Jvm.MethodName)) ∈ TW := List.mem_filter.mpr ⟨List.mem_append_right _ (List.mem_of_getElem? (i := 990) (by decide +kernel)), rfl⟩
theorem q991 : (Jvm.Cond.selects "ToastCourtModel" ({ cls := "ToastCourtModel", name := "causeFor", desc := "(III)I" } : Jvm.MethodName) ({ cls := "ToastCourtModel", name := "causeFor", desc := "(III)I" } : Jvm.MethodName)) ∈ TW := List.mem_filter.mpr ⟨List.mem_append_right _ (List.mem_of_getElem? (i := 991) (by decide +kernel)), rfl⟩
theorem q992 : (Jvm.Cond.code ({ cls := "ToastCourtModel", name := "causeFor", desc := "(III)I" } : Jvm.MethodName) prog_7_method_58_code (7 : Nat) (Option.some Jvm.ClassFile.FieldType.int)) ∈ TW := List.mem_filter.mpr ⟨List.mem_append_right _ (List.mem_of_getElem? (i := 992) (by decide +kernel)), rfl⟩
theorem q993 : (Jvm.Cond.methodLink "ToastCourtLaw" (100 : Nat) ({ cls := "ToastCourtModel", name := "against", desc := "(II)I" } : Jvm.MethodName)) ∈ TW := List.mem_filter.mpr ⟨List.mem_append_right _ (List.mem_of_getElem? (i := 993) (by decide +kernel)), rfl⟩
theorem q994 : (Jvm.Cond.instanceMethod ({ cls := "ToastCourtModel", name := "against", desc := "(II)I" } : Jvm.MethodName)) ∈ TW := List.mem_filter.mpr ⟨List.mem_append_right _ (List.mem_of_getElem? (i := 994) (by decide +kernel)), rfl⟩
theorem q995 : (Jvm.Cond.selects "ToastCourtModel" ({ cls := "ToastCourtModel", name := "against", desc := "(II)I" } : Jvm.MethodName) ({ cls := "ToastCourtModel", name := "against", desc := "(II)I" } : Jvm.MethodName)) ∈ TW := List.mem_filter.mpr ⟨List.mem_append_right _ (List.mem_of_getElem? (i := 995) (by decide +kernel)), rfl⟩
theorem q996 : (Jvm.Cond.code ({ cls := "ToastCourtModel", name := "against", desc := "(II)I" } : Jvm.MethodName) prog_7_method_59_code (9 : Nat) (Option.some Jvm.ClassFile.FieldType.int)) ∈ TW := List.mem_filter.mpr ⟨List.mem_append_right _ (List.mem_of_getElem? (i := 996) (by decide +kernel)), rfl⟩
theorem q997 : (Jvm.Cond.methodLink "ToastCourtLaw" (104 : Nat) ({ cls := "ToastCourtModel", name := "silence", desc := "(II)I" } : Jvm.MethodName)) ∈ TW := List.mem_filter.mpr ⟨List.mem_append_right _ (List.mem_of_getElem? (i := 997) (by decide +kernel)), rfl⟩
theorem q998 : (Jvm.Cond.instanceMethod ({ cls := "ToastCourtModel", name := "silence", desc := "(II)I" } : Jvm.MethodName)) ∈ TW := List.mem_filter.mpr ⟨List.mem_append_right _ (List.mem_of_getElem? (i := 998) (by decide +kernel)), rfl⟩
theorem q999 : (Jvm.Cond.selects "ToastCourtModel" ({ cls := "ToastCourtModel", name := "silence", desc := "(II)I" } : Jvm.MethodName) ({ cls := "ToastCourtModel", name := "silence", desc := "(II)I" } : Jvm.MethodName)) ∈ TW := List.mem_filter.mpr ⟨List.mem_append_right _ (List.mem_of_getElem? (i := 999) (by decide +kernel)), rfl⟩
theorem q1000 : (Jvm.Cond.code ({ cls := "ToastCourtModel", name := "silence", desc := "(II)I" } : Jvm.MethodName) prog_7_method_61_code (6 : Nat) (Option.some Jvm.ClassFile.FieldType.int)) ∈ TW := List.mem_filter.mpr ⟨List.mem_append_right _ (List.mem_of_getElem? (i := 1000) (by decide +kernel)), rfl⟩
theorem q1001 : (Jvm.Cond.methodLink "ToastCourtModel" (193 : Nat) ({ cls := "ToastCourtModel", name := "bits", desc := "(I)I" } : Jvm.MethodName)) ∈ TW := List.mem_filter.mpr ⟨List.mem_append_right _ (List.mem_of_getElem? (i := 1001) (by decide +kernel)), rfl⟩
theorem q1002 : (Jvm.Cond.static ({ cls := "ToastCourtModel", name := "bits", desc := "(I)I" } : Jvm.MethodName)) ∈ TW := List.mem_filter.mpr ⟨List.mem_append_right _ (List.mem_of_getElem? (i := 1002) (by decide +kernel)), rfl⟩
theorem q1003 : (Jvm.Cond.code ({ cls := "ToastCourtModel", name := "bits", desc := "(I)I" } : Jvm.MethodName) prog_7_method_8_code (3 : Nat) (Option.some Jvm.ClassFile.FieldType.int)) ∈ TW := List.mem_filter.mpr ⟨List.mem_append_right _ (List.mem_of_getElem? (i := 1003) (by decide +kernel)), rfl⟩
theorem q1004 : (Jvm.Cond.methodLink "ToastCourtModel" (196 : Nat) ({ cls := "ToastCourtModel", name := "isWithout", desc := "(III)Z" } : Jvm.MethodName)) ∈ TW := List.mem_filter.mpr ⟨List.mem_append_right _ (List.mem_of_getElem? (i := 1004) (by decide +kernel)), rfl⟩
theorem q1006 : (Jvm.Cond.instanceMethod ({ cls := "ToastCourtModel", name := "isWithout", desc := "(III)Z" } : Jvm.MethodName)) ∈ TW := List.mem_filter.mpr ⟨List.mem_append_right _ (List.mem_of_getElem? (i := 1006) (by decide +kernel)), rfl⟩
theorem q1007 : (Jvm.Cond.code ({ cls := "ToastCourtModel", name := "isWithout", desc := "(III)Z" } : Jvm.MethodName) prog_7_method_60_code (6 : Nat) (Option.some Jvm.ClassFile.FieldType.boolean)) ∈ TW := List.mem_filter.mpr ⟨List.mem_append_right _ (List.mem_of_getElem? (i := 1007) (by decide +kernel)), rfl⟩
theorem q1008 : (Jvm.Cond.methodLink "ToastCourtLaw" (108 : Nat) ({ cls := "ToastCourtModel", name := "fits", desc := "(II)I" } : Jvm.MethodName)) ∈ TW := List.mem_filter.mpr ⟨List.mem_append_right _ (List.mem_of_getElem? (i := 1008) (by decide +kernel)), rfl⟩
theorem q1009 : (Jvm.Cond.instanceMethod ({ cls := "ToastCourtModel", name := "fits", desc := "(II)I" } : Jvm.MethodName)) ∈ TW := List.mem_filter.mpr ⟨List.mem_append_right _ (List.mem_of_getElem? (i := 1009) (by decide +kernel)), rfl⟩
theorem q1010 : (Jvm.Cond.selects "ToastCourtModel" ({ cls := "ToastCourtModel", name := "fits", desc := "(II)I" } : Jvm.MethodName) ({ cls := "ToastCourtModel", name := "fits", desc := "(II)I" } : Jvm.MethodName)) ∈ TW := List.mem_filter.mpr ⟨List.mem_append_right _ (List.mem_of_getElem? (i := 1010) (by decide +kernel)), rfl⟩
theorem q1011 : (Jvm.Cond.code ({ cls := "ToastCourtModel", name := "fits", desc := "(II)I" } : Jvm.MethodName) prog_7_method_65_code (4 : Nat) (Option.some Jvm.ClassFile.FieldType.int)) ∈ TW := List.mem_filter.mpr ⟨List.mem_append_right _ (List.mem_of_getElem? (i := 1011) (by decide +kernel)), rfl⟩
theorem q1012 : (Jvm.Cond.methodLink "ToastCourtModel" (213 : Nat) ({ cls := "ToastCourtModel", name := "lacks", desc := "(IZ)I" } : Jvm.MethodName)) ∈ TW := List.mem_filter.mpr ⟨List.mem_append_right _ (List.mem_of_getElem? (i := 1012) (by decide +kernel)), rfl⟩
theorem q1014 : (Jvm.Cond.instanceMethod ({ cls := "ToastCourtModel", name := "lacks", desc := "(IZ)I" } : Jvm.MethodName)) ∈ TW := List.mem_filter.mpr ⟨List.mem_append_right _ (List.mem_of_getElem? (i := 1014) (by decide +kernel)), rfl⟩
theorem q1015 : (Jvm.Cond.code ({ cls := "ToastCourtModel", name := "lacks", desc := "(IZ)I" } : Jvm.MethodName) prog_7_method_62_code (3 : Nat) (Option.some Jvm.ClassFile.FieldType.int)) ∈ TW := List.mem_filter.mpr ⟨List.mem_append_right _ (List.mem_of_getElem? (i := 1015) (by decide +kernel)), rfl⟩
theorem q1016 : (Jvm.Cond.methodLink "ToastCourtModel" (199 : Nat) ({ cls := "ToastCourtModel", name := "isSheet", desc := "(I)Z" } : Jvm.MethodName)) ∈ TW := List.mem_filter.mpr ⟨List.mem_append_right _ (List.mem_of_getElem? (i := 1016) (by decide +kernel)), rfl⟩
theorem q1017 : (Jvm.Cond.static ({ cls := "ToastCourtModel", name := "isSheet", desc := "(I)Z" } : Jvm.MethodName)) ∈ TW := List.mem_filter.mpr ⟨List.mem_append_right _ (List.mem_of_getElem? (i := 1017) (by decide +kernel)), rfl⟩
theorem q1018 : (Jvm.Cond.code ({ cls := "ToastCourtModel", name := "isSheet", desc := "(I)Z" } : Jvm.MethodName) prog_7_method_89_code (1 : Nat) (Option.some Jvm.ClassFile.FieldType.boolean)) ∈ TW := List.mem_filter.mpr ⟨List.mem_append_right _ (List.mem_of_getElem? (i := 1018) (by decide +kernel)), rfl⟩
theorem q1019 : (Jvm.Cond.constant "ToastCourtModel" (202 : Nat) (-1000006 : Int32)) ∈ TW := List.mem_filter.mpr ⟨List.mem_append_right _ (List.mem_of_getElem? (i := 1019) (by decide +kernel)), rfl⟩
theorem q1020 : (Jvm.Cond.methodLink "ToastCourtModel" (217 : Nat) ({ cls := "ToastCourtModel", name := "findHeights", desc := "(II)V" } : Jvm.MethodName)) ∈ TW := List.mem_filter.mpr ⟨List.mem_append_right _ (List.mem_of_getElem? (i := 1020) (by decide +kernel)), rfl⟩
theorem q1022 : (Jvm.Cond.instanceMethod ({ cls := "ToastCourtModel", name := "findHeights", desc := "(II)V" } : Jvm.MethodName)) ∈ TW := List.mem_filter.mpr ⟨List.mem_append_right _ (List.mem_of_getElem? (i := 1022) (by decide +kernel)), rfl⟩
theorem q1023 : (Jvm.Cond.code ({ cls := "ToastCourtModel", name := "findHeights", desc := "(II)V" } : Jvm.MethodName) prog_7_method_64_code (5 : Nat) (Option.none : Option Jvm.ClassFile.FieldType)) ∈ TW := List.mem_filter.mpr ⟨List.mem_append_right _ (List.mem_of_getElem? (i := 1023) (by decide +kernel)), rfl⟩
theorem q1024 : (Jvm.Cond.methodLink "ToastCourtModel" (210 : Nat) ({ cls := "ToastCourtModel", name := "isWrongSo", desc := "(II)Z" } : Jvm.MethodName)) ∈ TW := List.mem_filter.mpr ⟨List.mem_append_right _ (List.mem_of_getElem? (i := 1024) (by decide +kernel)), rfl⟩
theorem q1026 : (Jvm.Cond.instanceMethod ({ cls := "ToastCourtModel", name := "isWrongSo", desc := "(II)Z" } : Jvm.MethodName)) ∈ TW := List.mem_filter.mpr ⟨List.mem_append_right _ (List.mem_of_getElem? (i := 1026) (by decide +kernel)), rfl⟩
theorem q1027 : (Jvm.Cond.code ({ cls := "ToastCourtModel", name := "isWrongSo", desc := "(II)Z" } : Jvm.MethodName) prog_7_method_63_code (6 : Nat) (Option.some Jvm.ClassFile.FieldType.boolean)) ∈ TW := List.mem_filter.mpr ⟨List.mem_append_right _ (List.mem_of_getElem? (i := 1027) (by decide +kernel)), rfl⟩
theorem q1028 : (Jvm.Cond.methodLink "ToastCourtLaw" (112 : Nat) ({ cls := "ToastCourtModel", name := "height", desc := "(II)I" } : Jvm.MethodName)) ∈ TW := List.mem_filter.mpr ⟨List.mem_append_right _ (List.mem_of_getElem? (i := 1028) (by decide +kernel)), rfl⟩
theorem q1029 : (Jvm.Cond.instanceMethod ({ cls := "ToastCourtModel", name := "height", desc := "(II)I" } : Jvm.MethodName)) ∈ TW := List.mem_filter.mpr ⟨List.mem_append_right _ (List.mem_of_getElem? (i := 1029) (by decide +kernel)), rfl⟩
theorem q1030 : (Jvm.Cond.selects "ToastCourtModel" ({ cls := "ToastCourtModel", name := "height", desc := "(II)I" } : Jvm.MethodName) ({ cls := "ToastCourtModel", name := "height", desc := "(II)I" } : Jvm.MethodName)) ∈ TW := List.mem_filter.mpr ⟨List.mem_append_right _ (List.mem_of_getElem? (i := 1030) (by decide +kernel)), rfl⟩
theorem q1031 : (Jvm.Cond.code ({ cls := "ToastCourtModel", name := "height", desc := "(II)I" } : Jvm.MethodName) prog_7_method_66_code (4 : Nat) (Option.some Jvm.ClassFile.FieldType.int)) ∈ TW := List.mem_filter.mpr ⟨List.mem_append_right _ (List.mem_of_getElem? (i := 1031) (by decide +kernel)), rfl⟩
theorem q1032 : (Jvm.Cond.methodLink "ToastCourtLaw" (116 : Nat) ({ cls := "ToastCourtModel", name := "kinds", desc := "(II)I" } : Jvm.MethodName)) ∈ TW := List.mem_filter.mpr ⟨List.mem_append_right _ (List.mem_of_getElem? (i := 1032) (by decide +kernel)), rfl⟩
theorem q1033 : (Jvm.Cond.instanceMethod ({ cls := "ToastCourtModel", name := "kinds", desc := "(II)I" } : Jvm.MethodName)) ∈ TW := List.mem_filter.mpr ⟨List.mem_append_right _ (List.mem_of_getElem? (i := 1033) (by decide +kernel)), rfl⟩
theorem q1034 : (Jvm.Cond.selects "ToastCourtModel" ({ cls := "ToastCourtModel", name := "kinds", desc := "(II)I" } : Jvm.MethodName) ({ cls := "ToastCourtModel", name := "kinds", desc := "(II)I" } : Jvm.MethodName)) ∈ TW := List.mem_filter.mpr ⟨List.mem_append_right _ (List.mem_of_getElem? (i := 1034) (by decide +kernel)), rfl⟩
theorem q1035 : (Jvm.Cond.code ({ cls := "ToastCourtModel", name := "kinds", desc := "(II)I" } : Jvm.MethodName) prog_7_method_67_code (8 : Nat) (Option.some Jvm.ClassFile.FieldType.int)) ∈ TW := List.mem_filter.mpr ⟨List.mem_append_right _ (List.mem_of_getElem? (i := 1035) (by decide +kernel)), rfl⟩
theorem q1036 : (Jvm.Cond.methodLink "ToastCourtLaw" (120 : Nat) ({ cls := "ToastCourtModel", name := "toss", desc := "(I)I" } : Jvm.MethodName)) ∈ TW := List.mem_filter.mpr ⟨List.mem_append_right _ (List.mem_of_getElem? (i := 1036) (by decide +kernel)), rfl⟩
theorem q1037 : (Jvm.Cond.instanceMethod ({ cls := "ToastCourtModel", name := "toss", desc := "(I)I" } : Jvm.MethodName)) ∈ TW := List.mem_filter.mpr ⟨List.mem_append_right _ (List.mem_of_getElem? (i := 1037) (by decide +kernel)), rfl⟩
theorem q1038 : (Jvm.Cond.selects "ToastCourtModel" ({ cls := "ToastCourtModel", name := "toss", desc := "(I)I" } : Jvm.MethodName) ({ cls := "ToastCourtModel", name := "toss", desc := "(I)I" } : Jvm.MethodName)) ∈ TW := List.mem_filter.mpr ⟨List.mem_append_right _ (List.mem_of_getElem? (i := 1038) (by decide +kernel)), rfl⟩
theorem q1039 : (Jvm.Cond.code ({ cls := "ToastCourtModel", name := "toss", desc := "(I)I" } : Jvm.MethodName) prog_7_method_69_code (5 : Nat) (Option.some Jvm.ClassFile.FieldType.int)) ∈ TW := List.mem_filter.mpr ⟨List.mem_append_right _ (List.mem_of_getElem? (i := 1039) (by decide +kernel)), rfl⟩
theorem q1040 : (Jvm.Cond.methodLink "ToastCourtModel" (221 : Nat) ({ cls := "ToastCourtModel", name := "drawn", desc := "()I" } : Jvm.MethodName)) ∈ TW := List.mem_filter.mpr ⟨List.mem_append_right _ (List.mem_of_getElem? (i := 1040) (by decide +kernel)), rfl⟩
theorem q1042 : (Jvm.Cond.instanceMethod ({ cls := "ToastCourtModel", name := "drawn", desc := "()I" } : Jvm.MethodName)) ∈ TW := List.mem_filter.mpr ⟨List.mem_append_right _ (List.mem_of_getElem? (i := 1042) (by decide +kernel)), rfl⟩
theorem q1043 : (Jvm.Cond.code ({ cls := "ToastCourtModel", name := "drawn", desc := "()I" } : Jvm.MethodName) prog_7_method_68_code (1 : Nat) (Option.some Jvm.ClassFile.FieldType.int)) ∈ TW := List.mem_filter.mpr ⟨List.mem_append_right _ (List.mem_of_getElem? (i := 1043) (by decide +kernel)), rfl⟩
theorem q1044 : (Jvm.Cond.constant "ToastCourtModel" (220 : Nat) (1103515245 : Int32)) ∈ TW := List.mem_filter.mpr ⟨List.mem_append_right _ (List.mem_of_getElem? (i := 1044) (by decide +kernel)), rfl⟩
theorem q1045 : (Jvm.Cond.methodLink "ToastCourtLaw" (125 : Nat) ({ cls := "ToastCourtModel", name := "odds", desc := "(IIII)J" } : Jvm.MethodName)) ∈ TW := List.mem_filter.mpr ⟨List.mem_append_right _ (List.mem_of_getElem? (i := 1045) (by decide +kernel)), rfl⟩
theorem q1046 : (Jvm.Cond.instanceMethod ({ cls := "ToastCourtModel", name := "odds", desc := "(IIII)J" } : Jvm.MethodName)) ∈ TW := List.mem_filter.mpr ⟨List.mem_append_right _ (List.mem_of_getElem? (i := 1046) (by decide +kernel)), rfl⟩
theorem q1047 : (Jvm.Cond.selects "ToastCourtModel" ({ cls := "ToastCourtModel", name := "odds", desc := "(IIII)J" } : Jvm.MethodName) ({ cls := "ToastCourtModel", name := "odds", desc := "(IIII)J" } : Jvm.MethodName)) ∈ TW := List.mem_filter.mpr ⟨List.mem_append_right _ (List.mem_of_getElem? (i := 1047) (by decide +kernel)), rfl⟩
theorem q1048 : (Jvm.Cond.code ({ cls := "ToastCourtModel", name := "odds", desc := "(IIII)J" } : Jvm.MethodName) prog_7_method_70_code (12 : Nat) (Option.some Jvm.ClassFile.FieldType.long)) ∈ TW := List.mem_filter.mpr ⟨List.mem_append_right _ (List.mem_of_getElem? (i := 1048) (by decide +kernel)), rfl⟩
theorem q1049 : (Jvm.Cond.methodLink "ToastCourtLaw" (129 : Nat) ({ cls := "ToastCourtModel", name := "seed", desc := "(I)I" } : Jvm.MethodName)) ∈ TW := List.mem_filter.mpr ⟨List.mem_append_right _ (List.mem_of_getElem? (i := 1049) (by decide +kernel)), rfl⟩
theorem q1050 : (Jvm.Cond.instanceMethod ({ cls := "ToastCourtModel", name := "seed", desc := "(I)I" } : Jvm.MethodName)) ∈ TW := List.mem_filter.mpr ⟨List.mem_append_right _ (List.mem_of_getElem? (i := 1050) (by decide +kernel)), rfl⟩
theorem q1051 : (Jvm.Cond.selects "ToastCourtModel" ({ cls := "ToastCourtModel", name := "seed", desc := "(I)I" } : Jvm.MethodName) ({ cls := "ToastCourtModel", name := "seed", desc := "(I)I" } : Jvm.MethodName)) ∈ TW := List.mem_filter.mpr ⟨List.mem_append_right _ (List.mem_of_getElem? (i := 1051) (by decide +kernel)), rfl⟩
theorem q1052 : (Jvm.Cond.code ({ cls := "ToastCourtModel", name := "seed", desc := "(I)I" } : Jvm.MethodName) prog_7_method_71_code (2 : Nat) (Option.some Jvm.ClassFile.FieldType.int)) ∈ TW := List.mem_filter.mpr ⟨List.mem_append_right _ (List.mem_of_getElem? (i := 1052) (by decide +kernel)), rfl⟩
theorem q1053 : (Jvm.Cond.methodLink "ToastCourtLaw" (133 : Nat) ({ cls := "ToastCourtModel", name := "feed", desc := "(II)I" } : Jvm.MethodName)) ∈ TW := List.mem_filter.mpr ⟨List.mem_append_right _ (List.mem_of_getElem? (i := 1053) (by decide +kernel)), rfl⟩
theorem q1054 : (Jvm.Cond.instanceMethod ({ cls := "ToastCourtModel", name := "feed", desc := "(II)I" } : Jvm.MethodName)) ∈ TW := List.mem_filter.mpr ⟨List.mem_append_right _ (List.mem_of_getElem? (i := 1054) (by decide +kernel)), rfl⟩
theorem q1055 : (Jvm.Cond.selects "ToastCourtModel" ({ cls := "ToastCourtModel", name := "feed", desc := "(II)I" } : Jvm.MethodName) ({ cls := "ToastCourtModel", name := "feed", desc := "(II)I" } : Jvm.MethodName)) ∈ TW := List.mem_filter.mpr ⟨List.mem_append_right _ (List.mem_of_getElem? (i := 1055) (by decide +kernel)), rfl⟩
theorem q1056 : (Jvm.Cond.code ({ cls := "ToastCourtModel", name := "feed", desc := "(II)I" } : Jvm.MethodName) prog_7_method_72_code (4 : Nat) (Option.some Jvm.ClassFile.FieldType.int)) ∈ TW := List.mem_filter.mpr ⟨List.mem_append_right _ (List.mem_of_getElem? (i := 1056) (by decide +kernel)), rfl⟩
theorem q1057 : (Jvm.Cond.methodLink "ToastCourtLaw" (137 : Nat) ({ cls := "ToastCourtModel", name := "wipe", desc := "()I" } : Jvm.MethodName)) ∈ TW := List.mem_filter.mpr ⟨List.mem_append_right _ (List.mem_of_getElem? (i := 1057) (by decide +kernel)), rfl⟩
theorem q1058 : (Jvm.Cond.instanceMethod ({ cls := "ToastCourtModel", name := "wipe", desc := "()I" } : Jvm.MethodName)) ∈ TW := List.mem_filter.mpr ⟨List.mem_append_right _ (List.mem_of_getElem? (i := 1058) (by decide +kernel)), rfl⟩
theorem q1059 : (Jvm.Cond.selects "ToastCourtModel" ({ cls := "ToastCourtModel", name := "wipe", desc := "()I" } : Jvm.MethodName) ({ cls := "ToastCourtModel", name := "wipe", desc := "()I" } : Jvm.MethodName)) ∈ TW := List.mem_filter.mpr ⟨List.mem_append_right _ (List.mem_of_getElem? (i := 1059) (by decide +kernel)), rfl⟩
theorem q1060 : (Jvm.Cond.code ({ cls := "ToastCourtModel", name := "wipe", desc := "()I" } : Jvm.MethodName) prog_7_method_73_code (2 : Nat) (Option.some Jvm.ClassFile.FieldType.int)) ∈ TW := List.mem_filter.mpr ⟨List.mem_append_right _ (List.mem_of_getElem? (i := 1060) (by decide +kernel)), rfl⟩
theorem q1061 : (Jvm.Cond.methodLink "ToastCourtLaw" (141 : Nat) ({ cls := "ToastCourtModel", name := "text", desc := "()I" } : Jvm.MethodName)) ∈ TW := List.mem_filter.mpr ⟨List.mem_append_right _ (List.mem_of_getElem? (i := 1061) (by decide +kernel)), rfl⟩
theorem q1062 : (Jvm.Cond.instanceMethod ({ cls := "ToastCourtModel", name := "text", desc := "()I" } : Jvm.MethodName)) ∈ TW := List.mem_filter.mpr ⟨List.mem_append_right _ (List.mem_of_getElem? (i := 1062) (by decide +kernel)), rfl⟩
theorem q1063 : (Jvm.Cond.selects "ToastCourtModel" ({ cls := "ToastCourtModel", name := "text", desc := "()I" } : Jvm.MethodName) ({ cls := "ToastCourtModel", name := "text", desc := "()I" } : Jvm.MethodName)) ∈ TW := List.mem_filter.mpr ⟨List.mem_append_right _ (List.mem_of_getElem? (i := 1063) (by decide +kernel)), rfl⟩
theorem q1064 : (Jvm.Cond.code ({ cls := "ToastCourtModel", name := "text", desc := "()I" } : Jvm.MethodName) prog_7_method_85_code (2 : Nat) (Option.some Jvm.ClassFile.FieldType.int)) ∈ TW := List.mem_filter.mpr ⟨List.mem_append_right _ (List.mem_of_getElem? (i := 1064) (by decide +kernel)), rfl⟩
theorem q1065 : (Jvm.Cond.methodLink "ToastCourtModel" (253 : Nat) ({ cls := "ToastCourtModel", name := "token", desc := "()V" } : Jvm.MethodName)) ∈ TW := List.mem_filter.mpr ⟨List.mem_append_right _ (List.mem_of_getElem? (i := 1065) (by decide +kernel)), rfl⟩
theorem q1067 : (Jvm.Cond.instanceMethod ({ cls := "ToastCourtModel", name := "token", desc := "()V" } : Jvm.MethodName)) ∈ TW := List.mem_filter.mpr ⟨List.mem_append_right _ (List.mem_of_getElem? (i := 1067) (by decide +kernel)), rfl⟩
theorem q1068 : (Jvm.Cond.code ({ cls := "ToastCourtModel", name := "token", desc := "()V" } : Jvm.MethodName) prog_7_method_75_code (2 : Nat) (Option.none : Option Jvm.ClassFile.FieldType)) ∈ TW := List.mem_filter.mpr ⟨List.mem_append_right _ (List.mem_of_getElem? (i := 1068) (by decide +kernel)), rfl⟩
theorem q1069 : (Jvm.Cond.methodLink "ToastCourtModel" (233 : Nat) ({ cls := "ToastCourtModel", name := "byteAt", desc := "(I)I" } : Jvm.MethodName)) ∈ TW := List.mem_filter.mpr ⟨List.mem_append_right _ (List.mem_of_getElem? (i := 1069) (by decide +kernel)), rfl⟩
theorem q1071 : (Jvm.Cond.instanceMethod ({ cls := "ToastCourtModel", name := "byteAt", desc := "(I)I" } : Jvm.MethodName)) ∈ TW := List.mem_filter.mpr ⟨List.mem_append_right _ (List.mem_of_getElem? (i := 1071) (by decide +kernel)), rfl⟩
theorem q1072 : (Jvm.Cond.code ({ cls := "ToastCourtModel", name := "byteAt", desc := "(I)I" } : Jvm.MethodName) prog_7_method_74_code (2 : Nat) (Option.some Jvm.ClassFile.FieldType.int)) ∈ TW := List.mem_filter.mpr ⟨List.mem_append_right _ (List.mem_of_getElem? (i := 1072) (by decide +kernel)), rfl⟩
theorem q1073 : (Jvm.Cond.methodLink "ToastCourtModel" (297 : Nat) ({ cls := "ToastCourtModel", name := "readItem", desc := "()V" } : Jvm.MethodName)) ∈ TW := List.mem_filter.mpr ⟨List.mem_append_right _ (List.mem_of_getElem? (i := 1073) (by decide +kernel)), rfl⟩
theorem q1075 : (Jvm.Cond.instanceMethod ({ cls := "ToastCourtModel", name := "readItem", desc := "()V" } : Jvm.MethodName)) ∈ TW := List.mem_filter.mpr ⟨List.mem_append_right _ (List.mem_of_getElem? (i := 1075) (by decide +kernel)), rfl⟩
theorem q1076 : (Jvm.Cond.code ({ cls := "ToastCourtModel", name := "readItem", desc := "()V" } : Jvm.MethodName) prog_7_method_83_code (3 : Nat) (Option.none : Option Jvm.ClassFile.FieldType)) ∈ TW := List.mem_filter.mpr ⟨List.mem_append_right _ (List.mem_of_getElem? (i := 1076) (by decide +kernel)), rfl⟩
theorem q1077 : (Jvm.Cond.methodLink "ToastCourtModel" (263 : Nat) ({ cls := "ToastCourtModel", name := "isWord", desc := "(Ljava/lang/String;)Z" } : Jvm.MethodName)) ∈ TW := List.mem_filter.mpr ⟨List.mem_append_right _ (List.mem_of_getElem? (i := 1077) (by decide +kernel)), rfl⟩
theorem q1079 : (Jvm.Cond.instanceMethod ({ cls := "ToastCourtModel", name := "isWord", desc := "(Ljava/lang/String;)Z" } : Jvm.MethodName)) ∈ TW := List.mem_filter.mpr ⟨List.mem_append_right _ (List.mem_of_getElem? (i := 1079) (by decide +kernel)), rfl⟩
theorem q1080 : (Jvm.Cond.code ({ cls := "ToastCourtModel", name := "isWord", desc := "(Ljava/lang/String;)Z" } : Jvm.MethodName) prog_7_method_76_code (4 : Nat) (Option.some Jvm.ClassFile.FieldType.boolean)) ∈ TW := List.mem_filter.mpr ⟨List.mem_append_right _ (List.mem_of_getElem? (i := 1080) (by decide +kernel)), rfl⟩
theorem q1081 : (Jvm.Cond.methodLink "ToastCourtModel" (242 : Nat) ({ cls := "java/lang/String", name := "length", desc := "()I" } : Jvm.MethodName)) ∈ TW := List.mem_filter.mpr ⟨List.mem_append_right _ (List.mem_of_getElem? (i := 1081) (by decide +kernel)), rfl⟩
theorem q1082 : (Jvm.Cond.methodLink "ToastCourtModel" (245 : Nat) ({ cls := "java/lang/String", name := "charAt", desc := "(I)C" } : Jvm.MethodName)) ∈ TW := List.mem_filter.mpr ⟨List.mem_append_right _ (List.mem_of_getElem? (i := 1082) (by decide +kernel)), rfl⟩
theorem q1083 : (Jvm.Cond.methodLink "ToastCourtModel" (285 : Nat) ({ cls := "ToastCourtModel", name := "readDisputant", desc := "(I)V" } : Jvm.MethodName)) ∈ TW := List.mem_filter.mpr ⟨List.mem_append_right _ (List.mem_of_getElem? (i := 1083) (by decide +kernel)), rfl⟩
theorem q1085 : (Jvm.Cond.instanceMethod ({ cls := "ToastCourtModel", name := "readDisputant", desc := "(I)V" } : Jvm.MethodName)) ∈ TW := List.mem_filter.mpr ⟨List.mem_append_right _ (List.mem_of_getElem? (i := 1085) (by decide +kernel)), rfl⟩
theorem q1086 : (Jvm.Cond.code ({ cls := "ToastCourtModel", name := "readDisputant", desc := "(I)V" } : Jvm.MethodName) prog_7_method_81_code (4 : Nat) (Option.none : Option Jvm.ClassFile.FieldType)) ∈ TW := List.mem_filter.mpr ⟨List.mem_append_right _ (List.mem_of_getElem? (i := 1086) (by decide +kernel)), rfl⟩
theorem q1087 : (Jvm.Cond.methodLink "ToastCourtModel" (256 : Nat) ({ cls := "ToastCourtModel", name := "must", desc := "(Z)V" } : Jvm.MethodName)) ∈ TW := List.mem_filter.mpr ⟨List.mem_append_right _ (List.mem_of_getElem? (i := 1087) (by decide +kernel)), rfl⟩
theorem q1089 : (Jvm.Cond.instanceMethod ({ cls := "ToastCourtModel", name := "must", desc := "(Z)V" } : Jvm.MethodName)) ∈ TW := List.mem_filter.mpr ⟨List.mem_append_right _ (List.mem_of_getElem? (i := 1089) (by decide +kernel)), rfl⟩
theorem q1090 : (Jvm.Cond.code ({ cls := "ToastCourtModel", name := "must", desc := "(Z)V" } : Jvm.MethodName) prog_7_method_77_code (2 : Nat) (Option.none : Option Jvm.ClassFile.FieldType)) ∈ TW := List.mem_filter.mpr ⟨List.mem_append_right _ (List.mem_of_getElem? (i := 1090) (by decide +kernel)), rfl⟩
theorem q1092 : (Jvm.Cond.methodLink "ToastCourtModel" (272 : Nat) ({ cls := "ToastCourtModel", name := "takesWord", desc := "(Ljava/lang/String;)Z" } : Jvm.MethodName)) ∈ TW := List.mem_filter.mpr ⟨List.mem_append_right _ (List.mem_of_getElem? (i := 1092) (by decide +kernel)), rfl⟩
theorem q1094 : (Jvm.Cond.instanceMethod ({ cls := "ToastCourtModel", name := "takesWord", desc := "(Ljava/lang/String;)Z" } : Jvm.MethodName)) ∈ TW := List.mem_filter.mpr ⟨List.mem_append_right _ (List.mem_of_getElem? (i := 1094) (by decide +kernel)), rfl⟩
theorem q1095 : (Jvm.Cond.code ({ cls := "ToastCourtModel", name := "takesWord", desc := "(Ljava/lang/String;)Z" } : Jvm.MethodName) prog_7_method_80_code (3 : Nat) (Option.some Jvm.ClassFile.FieldType.boolean)) ∈ TW := List.mem_filter.mpr ⟨List.mem_append_right _ (List.mem_of_getElem? (i := 1095) (by decide +kernel)), rfl⟩
theorem q1096 : (Jvm.Cond.methodLink "ToastCourtModel" (275 : Nat) ({ cls := "ToastCourtModel", name := "number", desc := "(II)I" } : Jvm.MethodName)) ∈ TW := List.mem_filter.mpr ⟨List.mem_append_right _ (List.mem_of_getElem? (i := 1096) (by decide +kernel)), rfl⟩
theorem q1098 : (Jvm.Cond.instanceMethod ({ cls := "ToastCourtModel", name := "number", desc := "(II)I" } : Jvm.MethodName)) ∈ TW := List.mem_filter.mpr ⟨List.mem_append_right _ (List.mem_of_getElem? (i := 1098) (by decide +kernel)), rfl⟩
theorem q1099 : (Jvm.Cond.code ({ cls := "ToastCourtModel", name := "number", desc := "(II)I" } : Jvm.MethodName) prog_7_method_78_code (4 : Nat) (Option.some Jvm.ClassFile.FieldType.int)) ∈ TW := List.mem_filter.mpr ⟨List.mem_append_right _ (List.mem_of_getElem? (i := 1099) (by decide +kernel)), rfl⟩
theorem q1102 : (Jvm.Cond.methodLink "ToastCourtModel" (281 : Nat) ({ cls := "ToastCourtModel", name := "addItem", desc := "(IIII)V" } : Jvm.MethodName)) ∈ TW := List.mem_filter.mpr ⟨List.mem_append_right _ (List.mem_of_getElem? (i := 1102) (by decide +kernel)), rfl⟩
theorem q1104 : (Jvm.Cond.instanceMethod ({ cls := "ToastCourtModel", name := "addItem", desc := "(IIII)V" } : Jvm.MethodName)) ∈ TW := List.mem_filter.mpr ⟨List.mem_append_right _ (List.mem_of_getElem? (i := 1104) (by decide +kernel)), rfl⟩
theorem q1105 : (Jvm.Cond.code ({ cls := "ToastCourtModel", name := "addItem", desc := "(IIII)V" } : Jvm.MethodName) prog_7_method_79_code (6 : Nat) (Option.none : Option Jvm.ClassFile.FieldType)) ∈ TW := List.mem_filter.mpr ⟨List.mem_append_right _ (List.mem_of_getElem? (i := 1105) (by decide +kernel)), rfl⟩
theorem q1107 : (Jvm.Cond.methodLink "ToastCourtModel" (290 : Nat) ({ cls := "ToastCourtModel", name := "readDispute", desc := "()V" } : Jvm.MethodName)) ∈ TW := List.mem_filter.mpr ⟨List.mem_append_right _ (List.mem_of_getElem? (i := 1107) (by decide +kernel)), rfl⟩
theorem q1109 : (Jvm.Cond.instanceMethod ({ cls := "ToastCourtModel", name := "readDispute", desc := "()V" } : Jvm.MethodName)) ∈ TW := List.mem_filter.mpr ⟨List.mem_append_right _ (List.mem_of_getElem? (i := 1109) (by decide +kernel)), rfl⟩
theorem q1110 : (Jvm.Cond.code ({ cls := "ToastCourtModel", name := "readDispute", desc := "()V" } : Jvm.MethodName) prog_7_method_82_code (3 : Nat) (Option.none : Option Jvm.ClassFile.FieldType)) ∈ TW := List.mem_filter.mpr ⟨List.mem_append_right _ (List.mem_of_getElem? (i := 1110) (by decide +kernel)), rfl⟩
theorem q1113 : (Jvm.Cond.methodLink "ToastCourtModel" (300 : Nat) ({ cls := "ToastCourtModel", name := "isToldSo", desc := "(I)V" } : Jvm.MethodName)) ∈ TW := List.mem_filter.mpr ⟨List.mem_append_right _ (List.mem_of_getElem? (i := 1113) (by decide +kernel)), rfl⟩
theorem q1115 : (Jvm.Cond.instanceMethod ({ cls := "ToastCourtModel", name := "isToldSo", desc := "(I)V" } : Jvm.MethodName)) ∈ TW := List.mem_filter.mpr ⟨List.mem_append_right _ (List.mem_of_getElem? (i := 1115) (by decide +kernel)), rfl⟩
theorem q1116 : (Jvm.Cond.code ({ cls := "ToastCourtModel", name := "isToldSo", desc := "(I)V" } : Jvm.MethodName) prog_7_method_84_code (5 : Nat) (Option.none : Option Jvm.ClassFile.FieldType)) ∈ TW := List.mem_filter.mpr ⟨List.mem_append_right _ (List.mem_of_getElem? (i := 1116) (by decide +kernel)), rfl⟩
theorem q1117 : (Jvm.Cond.methodLink "ToastCourtLaw" (145 : Nat) ({ cls := "ToastCourtModel", name := "hold", desc := "(II)I" } : Jvm.MethodName)) ∈ TW := List.mem_filter.mpr ⟨List.mem_append_right _ (List.mem_of_getElem? (i := 1117) (by decide +kernel)), rfl⟩
theorem q1118 : (Jvm.Cond.instanceMethod ({ cls := "ToastCourtModel", name := "hold", desc := "(II)I" } : Jvm.MethodName)) ∈ TW := List.mem_filter.mpr ⟨List.mem_append_right _ (List.mem_of_getElem? (i := 1118) (by decide +kernel)), rfl⟩
theorem q1119 : (Jvm.Cond.selects "ToastCourtModel" ({ cls := "ToastCourtModel", name := "hold", desc := "(II)I" } : Jvm.MethodName) ({ cls := "ToastCourtModel", name := "hold", desc := "(II)I" } : Jvm.MethodName)) ∈ TW := List.mem_filter.mpr ⟨List.mem_append_right _ (List.mem_of_getElem? (i := 1119) (by decide +kernel)), rfl⟩
theorem q1120 : (Jvm.Cond.code ({ cls := "ToastCourtModel", name := "hold", desc := "(II)I" } : Jvm.MethodName) prog_7_method_87_code (3 : Nat) (Option.some Jvm.ClassFile.FieldType.int)) ∈ TW := List.mem_filter.mpr ⟨List.mem_append_right _ (List.mem_of_getElem? (i := 1120) (by decide +kernel)), rfl⟩
theorem q1121 : (Jvm.Cond.methodLink "ToastCourtModel" (303 : Nat) ({ cls := "ToastCourtModel", name := "isSpot", desc := "(I)Z" } : Jvm.MethodName)) ∈ TW := List.mem_filter.mpr ⟨List.mem_append_right _ (List.mem_of_getElem? (i := 1121) (by decide +kernel)), rfl⟩
theorem q1122 : (Jvm.Cond.static ({ cls := "ToastCourtModel", name := "isSpot", desc := "(I)Z" } : Jvm.MethodName)) ∈ TW := List.mem_filter.mpr ⟨List.mem_append_right _ (List.mem_of_getElem? (i := 1122) (by decide +kernel)), rfl⟩
theorem q1123 : (Jvm.Cond.code ({ cls := "ToastCourtModel", name := "isSpot", desc := "(I)Z" } : Jvm.MethodName) prog_7_method_86_code (1 : Nat) (Option.some Jvm.ClassFile.FieldType.boolean)) ∈ TW := List.mem_filter.mpr ⟨List.mem_append_right _ (List.mem_of_getElem? (i := 1123) (by decide +kernel)), rfl⟩
theorem q1124 : (Jvm.Cond.methodLink "ToastCourtLaw" (149 : Nat) ({ cls := "ToastCourtModel", name := "as", desc := "(II)I" } : Jvm.MethodName)) ∈ TW := List.mem_filter.mpr ⟨List.mem_append_right _ (List.mem_of_getElem? (i := 1124) (by decide +kernel)), rfl⟩
theorem q1125 : (Jvm.Cond.instanceMethod ({ cls := "ToastCourtModel", name := "as", desc := "(II)I" } : Jvm.MethodName)) ∈ TW := List.mem_filter.mpr ⟨List.mem_append_right _ (List.mem_of_getElem? (i := 1125) (by decide +kernel)), rfl⟩
theorem q1126 : (Jvm.Cond.selects "ToastCourtModel" ({ cls := "ToastCourtModel", name := "as", desc := "(II)I" } : Jvm.MethodName) ({ cls := "ToastCourtModel", name := "as", desc := "(II)I" } : Jvm.MethodName)) ∈ TW := List.mem_filter.mpr ⟨List.mem_append_right _ (List.mem_of_getElem? (i := 1126) (by decide +kernel)), rfl⟩
theorem q1127 : (Jvm.Cond.code ({ cls := "ToastCourtModel", name := "as", desc := "(II)I" } : Jvm.MethodName) prog_7_method_88_code (4 : Nat) (Option.some Jvm.ClassFile.FieldType.int)) ∈ TW := List.mem_filter.mpr ⟨List.mem_append_right _ (List.mem_of_getElem? (i := 1127) (by decide +kernel)), rfl⟩
theorem q1128 : (Jvm.Cond.methodLink "ToastCourtModel" (306 : Nat) ({ cls := "ToastCourtModel", name := "isUnder", desc := "(II)Z" } : Jvm.MethodName)) ∈ TW := List.mem_filter.mpr ⟨List.mem_append_right _ (List.mem_of_getElem? (i := 1128) (by decide +kernel)), rfl⟩
theorem q1129 : (Jvm.Cond.static ({ cls := "ToastCourtModel", name := "isUnder", desc := "(II)Z" } : Jvm.MethodName)) ∈ TW := List.mem_filter.mpr ⟨List.mem_append_right _ (List.mem_of_getElem? (i := 1129) (by decide +kernel)), rfl⟩
theorem q1130 : (Jvm.Cond.code ({ cls := "ToastCourtModel", name := "isUnder", desc := "(II)Z" } : Jvm.MethodName) prog_7_method_95_code (3 : Nat) (Option.some Jvm.ClassFile.FieldType.boolean)) ∈ TW := List.mem_filter.mpr ⟨List.mem_append_right _ (List.mem_of_getElem? (i := 1130) (by decide +kernel)), rfl⟩
theorem q1131 : (Jvm.Cond.methodLink "ToastCourtModel" (314 : Nat) ({ cls := "ToastCourtModel", name := "above", desc := "(I)I" } : Jvm.MethodName)) ∈ TW := List.mem_filter.mpr ⟨List.mem_append_right _ (List.mem_of_getElem? (i := 1131) (by decide +kernel)), rfl⟩
theorem q1132 : (Jvm.Cond.static ({ cls := "ToastCourtModel", name := "above", desc := "(I)I" } : Jvm.MethodName)) ∈ TW := List.mem_filter.mpr ⟨List.mem_append_right _ (List.mem_of_getElem? (i := 1132) (by decide +kernel)), rfl⟩
theorem q1133 : (Jvm.Cond.code ({ cls := "ToastCourtModel", name := "above", desc := "(I)I" } : Jvm.MethodName) prog_7_method_94_code (1 : Nat) (Option.some Jvm.ClassFile.FieldType.int)) ∈ TW := List.mem_filter.mpr ⟨List.mem_append_right _ (List.mem_of_getElem? (i := 1133) (by decide +kernel)), rfl⟩
theorem q1134 : (Jvm.Cond.constant "ToastCourtModel" (309 : Nat) (-1000003 : Int32)) ∈ TW := List.mem_filter.mpr ⟨List.mem_append_right _ (List.mem_of_getElem? (i := 1134) (by decide +kernel)), rfl⟩
theorem q1135 : (Jvm.Cond.methodLink "ToastCourtLaw" (153 : Nat) ({ cls := "ToastCourtModel", name := "sheet", desc := "(III)I" } : Jvm.MethodName)) ∈ TW := List.mem_filter.mpr ⟨List.mem_append_right _ (List.mem_of_getElem? (i := 1135) (by decide +kernel)), rfl⟩
theorem q1136 : (Jvm.Cond.instanceMethod ({ cls := "ToastCourtModel", name := "sheet", desc := "(III)I" } : Jvm.MethodName)) ∈ TW := List.mem_filter.mpr ⟨List.mem_append_right _ (List.mem_of_getElem? (i := 1136) (by decide +kernel)), rfl⟩
theorem q1137 : (Jvm.Cond.selects "ToastCourtModel" ({ cls := "ToastCourtModel", name := "sheet", desc := "(III)I" } : Jvm.MethodName) ({ cls := "ToastCourtModel", name := "sheet", desc := "(III)I" } : Jvm.MethodName)) ∈ TW := List.mem_filter.mpr ⟨List.mem_append_right _ (List.mem_of_getElem? (i := 1137) (by decide +kernel)), rfl⟩
theorem q1138 : (Jvm.Cond.code ({ cls := "ToastCourtModel", name := "sheet", desc := "(III)I" } : Jvm.MethodName) prog_7_method_91_code (5 : Nat) (Option.some Jvm.ClassFile.FieldType.int)) ∈ TW := List.mem_filter.mpr ⟨List.mem_append_right _ (List.mem_of_getElem? (i := 1138) (by decide +kernel)), rfl⟩
theorem q1139 : (Jvm.Cond.constant "ToastCourtModel" (310 : Nat) (-1000007 : Int32)) ∈ TW := List.mem_filter.mpr ⟨List.mem_append_right _ (List.mem_of_getElem? (i := 1139) (by decide +kernel)), rfl⟩
theorem q1140 : (Jvm.Cond.methodLink "ToastCourtLaw" (157 : Nat) ({ cls := "ToastCourtModel", name := "write", desc := "(III)I" } : Jvm.MethodName)) ∈ TW := List.mem_filter.mpr ⟨List.mem_append_right _ (List.mem_of_getElem? (i := 1140) (by decide +kernel)), rfl⟩
theorem q1141 : (Jvm.Cond.instanceMethod ({ cls := "ToastCourtModel", name := "write", desc := "(III)I" } : Jvm.MethodName)) ∈ TW := List.mem_filter.mpr ⟨List.mem_append_right _ (List.mem_of_getElem? (i := 1141) (by decide +kernel)), rfl⟩
theorem q1142 : (Jvm.Cond.selects "ToastCourtModel" ({ cls := "ToastCourtModel", name := "write", desc := "(III)I" } : Jvm.MethodName) ({ cls := "ToastCourtModel", name := "write", desc := "(III)I" } : Jvm.MethodName)) ∈ TW := List.mem_filter.mpr ⟨List.mem_append_right _ (List.mem_of_getElem? (i := 1142) (by decide +kernel)), rfl⟩
theorem q1143 : (Jvm.Cond.code ({ cls := "ToastCourtModel", name := "write", desc := "(III)I" } : Jvm.MethodName) prog_7_method_92_code (4 : Nat) (Option.some Jvm.ClassFile.FieldType.int)) ∈ TW := List.mem_filter.mpr ⟨List.mem_append_right _ (List.mem_of_getElem? (i := 1143) (by decide +kernel)), rfl⟩
theorem q1144 : (Jvm.Cond.methodLink "ToastCourtModel" (311 : Nat) ({ cls := "ToastCourtModel", name := "cutTo", desc := "(II)I" } : Jvm.MethodName)) ∈ TW := List.mem_filter.mpr ⟨List.mem_append_right _ (List.mem_of_getElem? (i := 1144) (by decide +kernel)), rfl⟩
theorem q1145 : (Jvm.Cond.static ({ cls := "ToastCourtModel", name := "cutTo", desc := "(II)I" } : Jvm.MethodName)) ∈ TW := List.mem_filter.mpr ⟨List.mem_append_right _ (List.mem_of_getElem? (i := 1145) (by decide +kernel)), rfl⟩
theorem q1146 : (Jvm.Cond.code ({ cls := "ToastCourtModel", name := "cutTo", desc := "(II)I" } : Jvm.MethodName) prog_7_method_90_code (2 : Nat) (Option.some Jvm.ClassFile.FieldType.int)) ∈ TW := List.mem_filter.mpr ⟨List.mem_append_right _ (List.mem_of_getElem? (i := 1146) (by decide +kernel)), rfl⟩
theorem q1147 : (Jvm.Cond.methodLink "ToastCourtLaw" (162 : Nat) ({ cls := "ToastCourtModel", name := "copy", desc := "(IIIII)I" } : Jvm.MethodName)) ∈ TW := List.mem_filter.mpr ⟨List.mem_append_right _ (List.mem_of_getElem? (i := 1147) (by decide +kernel)), rfl⟩
theorem q1148 : (Jvm.Cond.instanceMethod ({ cls := "ToastCourtModel", name := "copy", desc := "(IIIII)I" } : Jvm.MethodName)) ∈ TW := List.mem_filter.mpr ⟨List.mem_append_right _ (List.mem_of_getElem? (i := 1148) (by decide +kernel)), rfl⟩
theorem q1149 : (Jvm.Cond.selects "ToastCourtModel" ({ cls := "ToastCourtModel", name := "copy", desc := "(IIIII)I" } : Jvm.MethodName) ({ cls := "ToastCourtModel", name := "copy", desc := "(IIIII)I" } : Jvm.MethodName)) ∈ TW := List.mem_filter.mpr ⟨List.mem_append_right _ (List.mem_of_getElem? (i := 1149) (by decide +kernel)), rfl⟩
theorem q1150 : (Jvm.Cond.code ({ cls := "ToastCourtModel", name := "copy", desc := "(IIIII)I" } : Jvm.MethodName) prog_7_method_93_code (7 : Nat) (Option.some Jvm.ClassFile.FieldType.int)) ∈ TW := List.mem_filter.mpr ⟨List.mem_append_right _ (List.mem_of_getElem? (i := 1150) (by decide +kernel)), rfl⟩
theorem q1151 : (Jvm.Cond.methodLink "ToastCourtLaw" (166 : Nat) ({ cls := "ToastCourtModel", name := "load", desc := "(I)I" } : Jvm.MethodName)) ∈ TW := List.mem_filter.mpr ⟨List.mem_append_right _ (List.mem_of_getElem? (i := 1151) (by decide +kernel)), rfl⟩
theorem q1152 : (Jvm.Cond.instanceMethod ({ cls := "ToastCourtModel", name := "load", desc := "(I)I" } : Jvm.MethodName)) ∈ TW := List.mem_filter.mpr ⟨List.mem_append_right _ (List.mem_of_getElem? (i := 1152) (by decide +kernel)), rfl⟩
theorem q1153 : (Jvm.Cond.selects "ToastCourtModel" ({ cls := "ToastCourtModel", name := "load", desc := "(I)I" } : Jvm.MethodName) ({ cls := "ToastCourtModel", name := "load", desc := "(I)I" } : Jvm.MethodName)) ∈ TW := List.mem_filter.mpr ⟨List.mem_append_right _ (List.mem_of_getElem? (i := 1153) (by decide +kernel)), rfl⟩
theorem q1154 : (Jvm.Cond.code ({ cls := "ToastCourtModel", name := "load", desc := "(I)I" } : Jvm.MethodName) prog_7_method_96_code (3 : Nat) (Option.some Jvm.ClassFile.FieldType.int)) ∈ TW := List.mem_filter.mpr ⟨List.mem_append_right _ (List.mem_of_getElem? (i := 1154) (by decide +kernel)), rfl⟩
theorem q1155 : (Jvm.Cond.methodLink "ToastCourtLaw" (170 : Nat) ({ cls := "ToastCourtModel", name := "judge", desc := "(I)I" } : Jvm.MethodName)) ∈ TW := List.mem_filter.mpr ⟨List.mem_append_right _ (List.mem_of_getElem? (i := 1155) (by decide +kernel)), rfl⟩
theorem q1156 : (Jvm.Cond.instanceMethod ({ cls := "ToastCourtModel", name := "judge", desc := "(I)I" } : Jvm.MethodName)) ∈ TW := List.mem_filter.mpr ⟨List.mem_append_right _ (List.mem_of_getElem? (i := 1156) (by decide +kernel)), rfl⟩
theorem q1157 : (Jvm.Cond.selects "ToastCourtModel" ({ cls := "ToastCourtModel", name := "judge", desc := "(I)I" } : Jvm.MethodName) ({ cls := "ToastCourtModel", name := "judge", desc := "(I)I" } : Jvm.MethodName)) ∈ TW := List.mem_filter.mpr ⟨List.mem_append_right _ (List.mem_of_getElem? (i := 1157) (by decide +kernel)), rfl⟩
theorem q1158 : (Jvm.Cond.code ({ cls := "ToastCourtModel", name := "judge", desc := "(I)I" } : Jvm.MethodName) prog_7_method_97_code (3 : Nat) (Option.some Jvm.ClassFile.FieldType.int)) ∈ TW := List.mem_filter.mpr ⟨List.mem_append_right _ (List.mem_of_getElem? (i := 1158) (by decide +kernel)), rfl⟩
theorem q1159 : (Jvm.Cond.methodLink "ToastCourtLaw" (174 : Nat) ({ cls := "ToastCourtModel", name := "image", desc := "()I" } : Jvm.MethodName)) ∈ TW := List.mem_filter.mpr ⟨List.mem_append_right _ (List.mem_of_getElem? (i := 1159) (by decide +kernel)), rfl⟩
theorem q1160 : (Jvm.Cond.instanceMethod ({ cls := "ToastCourtModel", name := "image", desc := "()I" } : Jvm.MethodName)) ∈ TW := List.mem_filter.mpr ⟨List.mem_append_right _ (List.mem_of_getElem? (i := 1160) (by decide +kernel)), rfl⟩
theorem q1161 : (Jvm.Cond.selects "ToastCourtModel" ({ cls := "ToastCourtModel", name := "image", desc := "()I" } : Jvm.MethodName) ({ cls := "ToastCourtModel", name := "image", desc := "()I" } : Jvm.MethodName)) ∈ TW := List.mem_filter.mpr ⟨List.mem_append_right _ (List.mem_of_getElem? (i := 1161) (by decide +kernel)), rfl⟩
theorem q1162 : (Jvm.Cond.code ({ cls := "ToastCourtModel", name := "image", desc := "()I" } : Jvm.MethodName) prog_7_method_98_code (1 : Nat) (Option.some Jvm.ClassFile.FieldType.int)) ∈ TW := List.mem_filter.mpr ⟨List.mem_append_right _ (List.mem_of_getElem? (i := 1162) (by decide +kernel)), rfl⟩
theorem q1163 : (Jvm.Cond.methodLink "ToastCourtLaw" (178 : Nat) ({ cls := "ToastCourtModel", name := "undo", desc := "()I" } : Jvm.MethodName)) ∈ TW := List.mem_filter.mpr ⟨List.mem_append_right _ (List.mem_of_getElem? (i := 1163) (by decide +kernel)), rfl⟩
theorem q1164 : (Jvm.Cond.instanceMethod ({ cls := "ToastCourtModel", name := "undo", desc := "()I" } : Jvm.MethodName)) ∈ TW := List.mem_filter.mpr ⟨List.mem_append_right _ (List.mem_of_getElem? (i := 1164) (by decide +kernel)), rfl⟩
theorem q1165 : (Jvm.Cond.selects "ToastCourtModel" ({ cls := "ToastCourtModel", name := "undo", desc := "()I" } : Jvm.MethodName) ({ cls := "ToastCourtModel", name := "undo", desc := "()I" } : Jvm.MethodName)) ∈ TW := List.mem_filter.mpr ⟨List.mem_append_right _ (List.mem_of_getElem? (i := 1165) (by decide +kernel)), rfl⟩
theorem q1166 : (Jvm.Cond.code ({ cls := "ToastCourtModel", name := "undo", desc := "()I" } : Jvm.MethodName) prog_7_method_99_code (1 : Nat) (Option.some Jvm.ClassFile.FieldType.int)) ∈ TW := List.mem_filter.mpr ⟨List.mem_append_right _ (List.mem_of_getElem? (i := 1166) (by decide +kernel)), rfl⟩
theorem q1167 : (Jvm.Cond.methodLink "ToastCourtLaw" (182 : Nat) ({ cls := "ToastCourtModel", name := "tear", desc := "()I" } : Jvm.MethodName)) ∈ TW := List.mem_filter.mpr ⟨List.mem_append_right _ (List.mem_of_getElem? (i := 1167) (by decide +kernel)), rfl⟩
theorem q1168 : (Jvm.Cond.instanceMethod ({ cls := "ToastCourtModel", name := "tear", desc := "()I" } : Jvm.MethodName)) ∈ TW := List.mem_filter.mpr ⟨List.mem_append_right _ (List.mem_of_getElem? (i := 1168) (by decide +kernel)), rfl⟩
theorem q1169 : (Jvm.Cond.selects "ToastCourtModel" ({ cls := "ToastCourtModel", name := "tear", desc := "()I" } : Jvm.MethodName) ({ cls := "ToastCourtModel", name := "tear", desc := "()I" } : Jvm.MethodName)) ∈ TW := List.mem_filter.mpr ⟨List.mem_append_right _ (List.mem_of_getElem? (i := 1169) (by decide +kernel)), rfl⟩
theorem q1170 : (Jvm.Cond.code ({ cls := "ToastCourtModel", name := "tear", desc := "()I" } : Jvm.MethodName) prog_7_method_100_code (2 : Nat) (Option.some Jvm.ClassFile.FieldType.int)) ∈ TW := List.mem_filter.mpr ⟨List.mem_append_right _ (List.mem_of_getElem? (i := 1170) (by decide +kernel)), rfl⟩
theorem q1171 : (Jvm.Cond.methodLink "ToastCourtLaw" (186 : Nat) ({ cls := "ToastCourtModel", name := "count", desc := "(I)I" } : Jvm.MethodName)) ∈ TW := List.mem_filter.mpr ⟨List.mem_append_right _ (List.mem_of_getElem? (i := 1171) (by decide +kernel)), rfl⟩
theorem q1172 : (Jvm.Cond.instanceMethod ({ cls := "ToastCourtModel", name := "count", desc := "(I)I" } : Jvm.MethodName)) ∈ TW := List.mem_filter.mpr ⟨List.mem_append_right _ (List.mem_of_getElem? (i := 1172) (by decide +kernel)), rfl⟩
theorem q1173 : (Jvm.Cond.selects "ToastCourtModel" ({ cls := "ToastCourtModel", name := "count", desc := "(I)I" } : Jvm.MethodName) ({ cls := "ToastCourtModel", name := "count", desc := "(I)I" } : Jvm.MethodName)) ∈ TW := List.mem_filter.mpr ⟨List.mem_append_right _ (List.mem_of_getElem? (i := 1173) (by decide +kernel)), rfl⟩
theorem q1174 : (Jvm.Cond.code ({ cls := "ToastCourtModel", name := "count", desc := "(I)I" } : Jvm.MethodName) prog_7_method_101_code (4 : Nat) (Option.some Jvm.ClassFile.FieldType.int)) ∈ TW := List.mem_filter.mpr ⟨List.mem_append_right _ (List.mem_of_getElem? (i := 1174) (by decide +kernel)), rfl⟩
theorem q1175 : (Jvm.Cond.methodLink "ToastCourtLaw" (190 : Nat) ({ cls := "ToastCourtModel", name := "status", desc := "(I)I" } : Jvm.MethodName)) ∈ TW := List.mem_filter.mpr ⟨List.mem_append_right _ (List.mem_of_getElem? (i := 1175) (by decide +kernel)), rfl⟩
theorem q1176 : (Jvm.Cond.instanceMethod ({ cls := "ToastCourtModel", name := "status", desc := "(I)I" } : Jvm.MethodName)) ∈ TW := List.mem_filter.mpr ⟨List.mem_append_right _ (List.mem_of_getElem? (i := 1176) (by decide +kernel)), rfl⟩
theorem q1177 : (Jvm.Cond.selects "ToastCourtModel" ({ cls := "ToastCourtModel", name := "status", desc := "(I)I" } : Jvm.MethodName) ({ cls := "ToastCourtModel", name := "status", desc := "(I)I" } : Jvm.MethodName)) ∈ TW := List.mem_filter.mpr ⟨List.mem_append_right _ (List.mem_of_getElem? (i := 1177) (by decide +kernel)), rfl⟩
theorem q1178 : (Jvm.Cond.code ({ cls := "ToastCourtModel", name := "status", desc := "(I)I" } : Jvm.MethodName) prog_7_method_102_code (2 : Nat) (Option.some Jvm.ClassFile.FieldType.int)) ∈ TW := List.mem_filter.mpr ⟨List.mem_append_right _ (List.mem_of_getElem? (i := 1178) (by decide +kernel)), rfl⟩
theorem q1179 : (Jvm.Cond.fieldLink "java/lang/String" (9 : Nat) "java/lang/String" "value" "[B") ∈ TW := List.mem_filter.mpr ⟨List.mem_append_right _ (List.mem_of_getElem? (i := 1179) (by decide +kernel)), rfl⟩
theorem q1180 : (Jvm.Cond.fieldLink "java/lang/String" (15 : Nat) "java/lang/String" "coder" "B") ∈ TW := List.mem_filter.mpr ⟨List.mem_append_right _ (List.mem_of_getElem? (i := 1180) (by decide +kernel)), rfl⟩
theorem z0 : Jvm.Cond.selects "ToastCourt" ⟨"ToastCourt", "tell", "(I)I"⟩ ⟨"ToastCourt", "tell", "(I)I"⟩ ∈ TW := List.mem_filter.mpr ⟨List.mem_append_left _ (List.mem_of_getElem? (i := 0) (by decide +kernel)), rfl⟩
theorem z1 : Jvm.Cond.selects "ToastCourt$Court" ⟨"ToastCourt$Court", "isFull", "()Z"⟩ ⟨"ToastCourt$Court", "isFull", "()Z"⟩ ∈ TW := List.mem_filter.mpr ⟨List.mem_append_left _ (List.mem_of_getElem? (i := 1) (by decide +kernel)), rfl⟩
theorem z2 : Jvm.Cond.selects "ToastCourt$Court" ⟨"ToastCourt$Court", lw_nmA, "(II)I"⟩ ⟨"ToastCourt$Court", lw_nmA, "(II)I"⟩ ∈ TW := List.mem_filter.mpr ⟨List.mem_append_left _ (List.mem_of_getElem? (i := 2) (by decide +kernel)), rfl⟩
theorem z3 : Jvm.Cond.selects "ToastCourt$Disputant" ⟨"ToastCourt$Disputant", "begin", "(II)V"⟩ ⟨"ToastCourt$Disputant", "begin", "(II)V"⟩ ∈ TW := List.mem_filter.mpr ⟨List.mem_append_left _ (List.mem_of_getElem? (i := 3) (by decide +kernel)), rfl⟩
theorem z4 : Jvm.Cond.selects "ToastCourt$Court" ⟨"ToastCourt$Court", "has", "(I)Z"⟩ ⟨"ToastCourt$Court", "has", "(I)Z"⟩ ∈ TW := List.mem_filter.mpr ⟨List.mem_append_left _ (List.mem_of_getElem? (i := 4) (by decide +kernel)), rfl⟩
theorem z5 : Jvm.Cond.selects "ToastCourt$Disputant" ⟨"ToastCourt$Disputant", "tells", "(III)I"⟩ ⟨"ToastCourt$Disputant", "tells", "(III)I"⟩ ∈ TW := List.mem_filter.mpr ⟨List.mem_append_left _ (List.mem_of_getElem? (i := 5) (by decide +kernel)), rfl⟩
theorem z6 : Jvm.Cond.selects "ToastCourt$Disputant" ⟨"ToastCourt$Disputant", "presses", "(I)I"⟩ ⟨"ToastCourt$Disputant", "presses", "(I)I"⟩ ∈ TW := List.mem_filter.mpr ⟨List.mem_append_left _ (List.mem_of_getElem? (i := 6) (by decide +kernel)), rfl⟩
theorem z7 : Jvm.Cond.selects "ToastCourt$Disputant" ⟨"ToastCourt$Disputant", "pressesAsParson", "(I)I"⟩ ⟨"ToastCourt$Disputant", "pressesAsParson", "(I)I"⟩ ∈ TW := List.mem_filter.mpr ⟨List.mem_append_left _ (List.mem_of_getElem? (i := 7) (by decide +kernel)), rfl⟩
theorem z8 : Jvm.Cond.selects "ToastCourt$Disputant" ⟨"ToastCourt$Disputant", "jolts", "(I)I"⟩ ⟨"ToastCourt$Disputant", "jolts", "(I)I"⟩ ∈ TW := List.mem_filter.mpr ⟨List.mem_append_left _ (List.mem_of_getElem? (i := 8) (by decide +kernel)), rfl⟩
theorem z9 : Jvm.Cond.selects "ToastCourt$Disputant" ⟨"ToastCourt$Disputant", "grows", "()I"⟩ ⟨"ToastCourt$Disputant", "grows", "()I"⟩ ∈ TW := List.mem_filter.mpr ⟨List.mem_append_left _ (List.mem_of_getElem? (i := 9) (by decide +kernel)), rfl⟩
theorem z10 : Jvm.Cond.selects "ToastCourt$Disputant" ⟨"ToastCourt$Disputant", "learns", "()I"⟩ ⟨"ToastCourt$Disputant", "learns", "()I"⟩ ∈ TW := List.mem_filter.mpr ⟨List.mem_append_left _ (List.mem_of_getElem? (i := 10) (by decide +kernel)), rfl⟩
theorem z11 : Jvm.Cond.selects "ToastCourt$Disputant" ⟨"ToastCourt$Disputant", "cools", "()I"⟩ ⟨"ToastCourt$Disputant", "cools", "()I"⟩ ∈ TW := List.mem_filter.mpr ⟨List.mem_append_left _ (List.mem_of_getElem? (i := 11) (by decide +kernel)), rfl⟩
theorem z12 : Jvm.Cond.selects "ToastCourt$Disputant" ⟨"ToastCourt$Disputant", "most", "(I)I"⟩ ⟨"ToastCourt$Disputant", "most", "(I)I"⟩ ∈ TW := List.mem_filter.mpr ⟨List.mem_append_left _ (List.mem_of_getElem? (i := 12) (by decide +kernel)), rfl⟩
theorem z13 : Jvm.Cond.selects "ToastCourt$Disputant" ⟨"ToastCourt$Disputant", "put", "(II)V"⟩ ⟨"ToastCourt$Disputant", "put", "(II)V"⟩ ∈ TW := List.mem_filter.mpr ⟨List.mem_append_left _ (List.mem_of_getElem? (i := 13) (by decide +kernel)), rfl⟩
theorem z14 : Jvm.Cond.selects "ToastCourt$Court" ⟨"ToastCourt$Court", "areTwo", "(II)Z"⟩ ⟨"ToastCourt$Court", "areTwo", "(II)Z"⟩ ∈ TW := List.mem_filter.mpr ⟨List.mem_append_left _ (List.mem_of_getElem? (i := 14) (by decide +kernel)), rfl⟩
theorem z15 : Jvm.Cond.selects "ToastCourt$Court" ⟨"ToastCourt$Court", "turns", "(III)I"⟩ ⟨"ToastCourt$Court", "turns", "(III)I"⟩ ∈ TW := List.mem_filter.mpr ⟨List.mem_append_left _ (List.mem_of_getElem? (i := 15) (by decide +kernel)), rfl⟩
theorem z16 : Jvm.Cond.selects "ToastCourt$Court" ⟨"ToastCourt$Court", "loser", "(III)I"⟩ ⟨"ToastCourt$Court", "loser", "(III)I"⟩ ∈ TW := List.mem_filter.mpr ⟨List.mem_append_left _ (List.mem_of_getElem? (i := 16) (by decide +kernel)), rfl⟩
theorem z17 : Jvm.Cond.selects "ToastCourt$Court" ⟨"ToastCourt$Court", "dropOnce", "()V"⟩ ⟨"ToastCourt$Court", "dropOnce", "()V"⟩ ∈ TW := List.mem_filter.mpr ⟨List.mem_append_left _ (List.mem_of_getElem? (i := 17) (by decide +kernel)), rfl⟩
theorem z18 : Jvm.Cond.selects "ToastCourt$Court" ⟨"ToastCourt$Court", "fallsOut", "()Z"⟩ ⟨"ToastCourt$Court", "fallsOut", "()Z"⟩ ∈ TW := List.mem_filter.mpr ⟨List.mem_append_left _ (List.mem_of_getElem? (i := 18) (by decide +kernel)), rfl⟩
theorem z19 : Jvm.Cond.selects "ToastCourt$Court" ⟨"ToastCourt$Court", "letFall", "(II)V"⟩ ⟨"ToastCourt$Court", "letFall", "(II)V"⟩ ∈ TW := List.mem_filter.mpr ⟨List.mem_append_left _ (List.mem_of_getElem? (i := 19) (by decide +kernel)), rfl⟩
theorem z20 : Jvm.Cond.selects "ToastCourt$Disputant" ⟨"ToastCourt$Disputant", "isFoundWrong", "()V"⟩ ⟨"ToastCourt$Disputant", "isFoundWrong", "()V"⟩ ∈ TW := List.mem_filter.mpr ⟨List.mem_append_left _ (List.mem_of_getElem? (i := 20) (by decide +kernel)), rfl⟩
theorem z21 : Jvm.Cond.selects "ToastCourt$Disputant" ⟨"ToastCourt$Disputant", "isFoundRight", "()V"⟩ ⟨"ToastCourt$Disputant", "isFoundRight", "()V"⟩ ∈ TW := List.mem_filter.mpr ⟨List.mem_append_left _ (List.mem_of_getElem? (i := 21) (by decide +kernel)), rfl⟩
theorem z22 : Jvm.Cond.selects "ToastCourt$Disputant" ⟨"ToastCourt$Disputant", "coolDown", "()V"⟩ ⟨"ToastCourt$Disputant", "coolDown", "()V"⟩ ∈ TW := List.mem_filter.mpr ⟨List.mem_append_left _ (List.mem_of_getElem? (i := 22) (by decide +kernel)), rfl⟩
theorem z23 : Jvm.Cond.selects "ToastCourt$Court" ⟨"ToastCourt$Court", "wrongs", "()I"⟩ ⟨"ToastCourt$Court", "wrongs", "()I"⟩ ∈ TW := List.mem_filter.mpr ⟨List.mem_append_left _ (List.mem_of_getElem? (i := 23) (by decide +kernel)), rfl⟩
theorem z24 : Jvm.Cond.selects "ToastCourt$Court" ⟨"ToastCourt$Court", "moreWrong", "()I"⟩ ⟨"ToastCourt$Court", "moreWrong", "()I"⟩ ∈ TW := List.mem_filter.mpr ⟨List.mem_append_left _ (List.mem_of_getElem? (i := 24) (by decide +kernel)), rfl⟩
theorem z25 : Jvm.Cond.selects "ToastCourt$Court" ⟨"ToastCourt$Court", "tempers", "()I"⟩ ⟨"ToastCourt$Court", "tempers", "()I"⟩ ∈ TW := List.mem_filter.mpr ⟨List.mem_append_left _ (List.mem_of_getElem? (i := 25) (by decide +kernel)), rfl⟩
theorem z26 : Jvm.Cond.selects "ToastCourt$Court" ⟨"ToastCourt$Court", "loudest", "()I"⟩ ⟨"ToastCourt$Court", "loudest", "()I"⟩ ∈ TW := List.mem_filter.mpr ⟨List.mem_append_left _ (List.mem_of_getElem? (i := 26) (by decide +kernel)), rfl⟩
theorem z27 : Jvm.Cond.selects "ToastCourt$Court" ⟨"ToastCourt$Court", "silents", "()I"⟩ ⟨"ToastCourt$Court", "silents", "()I"⟩ ∈ TW := List.mem_filter.mpr ⟨List.mem_append_left _ (List.mem_of_getElem? (i := 27) (by decide +kernel)), rfl⟩
theorem z28 : Jvm.Cond.selects "ToastCourt$Court" ⟨"ToastCourt$Court", "become", "(LToastCourt$Court;)V"⟩ ⟨"ToastCourt$Court", "become", "(LToastCourt$Court;)V"⟩ ∈ TW := List.mem_filter.mpr ⟨List.mem_append_left _ (List.mem_of_getElem? (i := 28) (by decide +kernel)), rfl⟩
theorem z29 : Jvm.Cond.selects "ToastCourt$Disputant" ⟨"ToastCourt$Disputant", "become", "(LToastCourt$Disputant;)V"⟩ ⟨"ToastCourt$Disputant", "become", "(LToastCourt$Disputant;)V"⟩ ∈ TW := List.mem_filter.mpr ⟨List.mem_append_left _ (List.mem_of_getElem? (i := 29) (by decide +kernel)), rfl⟩
theorem z30 : Jvm.Cond.selects "ToastCourt" ⟨"ToastCourt", "dropsToReach", "(III)I"⟩ ⟨"ToastCourt", "dropsToReach", "(III)I"⟩ ∈ TW := List.mem_filter.mpr ⟨List.mem_append_left _ (List.mem_of_getElem? (i := 30) (by decide +kernel)), rfl⟩
theorem z31 : Jvm.Cond.selects "ToastCourt" ⟨"ToastCourt", "trialLeavesWrong", "(II)Z"⟩ ⟨"ToastCourt", "trialLeavesWrong", "(II)Z"⟩ ∈ TW := List.mem_filter.mpr ⟨List.mem_append_left _ (List.mem_of_getElem? (i := 31) (by decide +kernel)), rfl⟩
theorem z32 : Jvm.Cond.selects "ToastCourt" ⟨"ToastCourt", "trialRight", "(II)I"⟩ ⟨"ToastCourt", "trialRight", "(II)I"⟩ ∈ TW := List.mem_filter.mpr ⟨List.mem_append_left _ (List.mem_of_getElem? (i := 32) (by decide +kernel)), rfl⟩
theorem z33 : Jvm.Cond.selects "ToastCourt$Court" ⟨"ToastCourt$Court", "hush", "(I)V"⟩ ⟨"ToastCourt$Court", "hush", "(I)V"⟩ ∈ TW := List.mem_filter.mpr ⟨List.mem_append_left _ (List.mem_of_getElem? (i := 33) (by decide +kernel)), rfl⟩
theorem z34 : Jvm.Cond.selects "ToastCourt" ⟨"ToastCourt", "findingOfFalls", "(II)I"⟩ ⟨"ToastCourt", "findingOfFalls", "(II)I"⟩ ∈ TW := List.mem_filter.mpr ⟨List.mem_append_left _ (List.mem_of_getElem? (i := 34) (by decide +kernel)), rfl⟩
theorem z35 : Jvm.Cond.selects "ToastCourt" ⟨"ToastCourt", "findingOfSheet", "(I)I"⟩ ⟨"ToastCourt", "findingOfSheet", "(I)I"⟩ ∈ TW := List.mem_filter.mpr ⟨List.mem_append_left _ (List.mem_of_getElem? (i := 35) (by decide +kernel)), rfl⟩
theorem z36 : Jvm.Cond.selects "ToastCourt$Sheet" ⟨"ToastCourt$Sheet", "isMissing", "()Z"⟩ ⟨"ToastCourt$Sheet", "isMissing", "()Z"⟩ ∈ TW := List.mem_filter.mpr ⟨List.mem_append_left _ (List.mem_of_getElem? (i := 36) (by decide +kernel)), rfl⟩
theorem z37 : Jvm.Cond.selects "ToastCourt" ⟨"ToastCourt", "trialIsAsTold", "(LToastCourt$Sheet;I)Z"⟩ ⟨"ToastCourt", "trialIsAsTold", "(LToastCourt$Sheet;I)Z"⟩ ∈ TW := List.mem_filter.mpr ⟨List.mem_append_left _ (List.mem_of_getElem? (i := 37) (by decide +kernel)), rfl⟩
theorem z38 : Jvm.Cond.selects "ToastCourt$Court" ⟨"ToastCourt$Court", "draw", "()I"⟩ ⟨"ToastCourt$Court", "draw", "()I"⟩ ∈ TW := List.mem_filter.mpr ⟨List.mem_append_left _ (List.mem_of_getElem? (i := 38) (by decide +kernel)), rfl⟩
theorem z39 : Jvm.Cond.selects "ToastCourt$Tape" ⟨"ToastCourt$Tape", "append", "(I)V"⟩ ⟨"ToastCourt$Tape", "append", "(I)V"⟩ ∈ TW := List.mem_filter.mpr ⟨List.mem_append_left _ (List.mem_of_getElem? (i := 39) (by decide +kernel)), rfl⟩
theorem z40 : Jvm.Cond.selects "ToastCourt$Tape" ⟨"ToastCourt$Tape", "read", "(LToastCourt$Court;)I"⟩ ⟨"ToastCourt$Tape", "read", "(LToastCourt$Court;)I"⟩ ∈ TW := List.mem_filter.mpr ⟨List.mem_append_left _ (List.mem_of_getElem? (i := 40) (by decide +kernel)), rfl⟩
theorem z41 : Jvm.Cond.selects "ToastCourt$Tape" ⟨"ToastCourt$Tape", "step", "()V"⟩ ⟨"ToastCourt$Tape", "step", "()V"⟩ ∈ TW := List.mem_filter.mpr ⟨List.mem_append_left _ (List.mem_of_getElem? (i := 41) (by decide +kernel)), rfl⟩
theorem z42 : Jvm.Cond.selects "ToastCourt$Tape" ⟨"ToastCourt$Tape", "readItem", "(LToastCourt$Court;)Z"⟩ ⟨"ToastCourt$Tape", "readItem", "(LToastCourt$Court;)Z"⟩ ∈ TW := List.mem_filter.mpr ⟨List.mem_append_left _ (List.mem_of_getElem? (i := 42) (by decide +kernel)), rfl⟩
theorem z43 : Jvm.Cond.selects "ToastCourt$Tape" ⟨"ToastCourt$Tape", "kindOfWord", "()I"⟩ ⟨"ToastCourt$Tape", "kindOfWord", "()I"⟩ ∈ TW := List.mem_filter.mpr ⟨List.mem_append_left _ (List.mem_of_getElem? (i := 43) (by decide +kernel)), rfl⟩
theorem z44 : Jvm.Cond.selects "ToastCourt$Tape" ⟨"ToastCourt$Tape", "isWord", "(Ljava/lang/String;)Z"⟩ ⟨"ToastCourt$Tape", "isWord", "(Ljava/lang/String;)Z"⟩ ∈ TW := List.mem_filter.mpr ⟨List.mem_append_left _ (List.mem_of_getElem? (i := 44) (by decide +kernel)), rfl⟩
theorem z45 : Jvm.Cond.selects "ToastCourt$Tape" ⟨"ToastCourt$Tape", "readDisputant", "(LToastCourt$Court;I)Z"⟩ ⟨"ToastCourt$Tape", "readDisputant", "(LToastCourt$Court;I)Z"⟩ ∈ TW := List.mem_filter.mpr ⟨List.mem_append_left _ (List.mem_of_getElem? (i := 45) (by decide +kernel)), rfl⟩
theorem z46 : Jvm.Cond.selects "ToastCourt$Tape" ⟨"ToastCourt$Tape", "stepsToNumber", "(II)Z"⟩ ⟨"ToastCourt$Tape", "stepsToNumber", "(II)Z"⟩ ∈ TW := List.mem_filter.mpr ⟨List.mem_append_left _ (List.mem_of_getElem? (i := 46) (by decide +kernel)), rfl⟩
theorem z47 : Jvm.Cond.selects "ToastCourt$Tape" ⟨"ToastCourt$Tape", "readDispute", "(LToastCourt$Court;)Z"⟩ ⟨"ToastCourt$Tape", "readDispute", "(LToastCourt$Court;)Z"⟩ ∈ TW := List.mem_filter.mpr ⟨List.mem_append_left _ (List.mem_of_getElem? (i := 47) (by decide +kernel)), rfl⟩
theorem z48 : Jvm.Cond.selects "ToastCourt$Tape" ⟨"ToastCourt$Tape", "readHeight", "(LToastCourt$Court;)Z"⟩ ⟨"ToastCourt$Tape", "readHeight", "(LToastCourt$Court;)Z"⟩ ∈ TW := List.mem_filter.mpr ⟨List.mem_append_left _ (List.mem_of_getElem? (i := 48) (by decide +kernel)), rfl⟩
theorem z49 : Jvm.Cond.selects "ToastCourt$Tape" ⟨"ToastCourt$Tape", "readSpread", "(LToastCourt$Court;)Z"⟩ ⟨"ToastCourt$Tape", "readSpread", "(LToastCourt$Court;)Z"⟩ ∈ TW := List.mem_filter.mpr ⟨List.mem_append_left _ (List.mem_of_getElem? (i := 49) (by decide +kernel)), rfl⟩
theorem z50 : Jvm.Cond.selects "ToastCourt$Disputant" ⟨"ToastCourt$Disputant", "isOne", "(I)Z"⟩ ⟨"ToastCourt$Disputant", "isOne", "(I)Z"⟩ ∈ TW := List.mem_filter.mpr ⟨List.mem_append_left _ (List.mem_of_getElem? (i := 50) (by decide +kernel)), rfl⟩
theorem z51 : Jvm.Cond.selects "ToastCourt$Sheet" ⟨"ToastCourt$Sheet", "renew", "(II)V"⟩ ⟨"ToastCourt$Sheet", "renew", "(II)V"⟩ ∈ TW := List.mem_filter.mpr ⟨List.mem_append_left _ (List.mem_of_getElem? (i := 51) (by decide +kernel)), rfl⟩
theorem z52 : Jvm.Cond.selects "ToastCourt$Sheet" ⟨"ToastCourt$Sheet", "put", "(II)V"⟩ ⟨"ToastCourt$Sheet", "put", "(II)V"⟩ ∈ TW := List.mem_filter.mpr ⟨List.mem_append_left _ (List.mem_of_getElem? (i := 52) (by decide +kernel)), rfl⟩
theorem z53 : Jvm.Cond.selects "ToastCourt$Sheet" ⟨"ToastCourt$Sheet", "hasRow", "(II)Z"⟩ ⟨"ToastCourt$Sheet", "hasRow", "(II)Z"⟩ ∈ TW := List.mem_filter.mpr ⟨List.mem_append_left _ (List.mem_of_getElem? (i := 53) (by decide +kernel)), rfl⟩
theorem z54 : Jvm.Cond.selects "ToastCourt$Court" ⟨"ToastCourt$Court", "heldSpots", "()I"⟩ ⟨"ToastCourt$Court", "heldSpots", "()I"⟩ ∈ TW := List.mem_filter.mpr ⟨List.mem_append_left _ (List.mem_of_getElem? (i := 54) (by decide +kernel)), rfl⟩
theorem z55 : Jvm.Cond.selects "ToastCourtModel" ⟨"ToastCourtModel", "become", "(II)I"⟩ ⟨"ToastCourtModel", "become", "(II)I"⟩ ∈ TW := List.mem_filter.mpr ⟨List.mem_append_left _ (List.mem_of_getElem? (i := 55) (by decide +kernel)), rfl⟩
theorem z56 : Jvm.Cond.selects "ToastCourtModel" ⟨"ToastCourtModel", "finding", "(I)I"⟩ ⟨"ToastCourtModel", "finding", "(I)I"⟩ ∈ TW := List.mem_filter.mpr ⟨List.mem_append_left _ (List.mem_of_getElem? (i := 56) (by decide +kernel)), rfl⟩
theorem z57 : Jvm.Cond.selects "ToastCourtModel" ⟨"ToastCourtModel", "comes", "(II)I"⟩ ⟨"ToastCourtModel", "comes", "(II)I"⟩ ∈ TW := List.mem_filter.mpr ⟨List.mem_append_left _ (List.mem_of_getElem? (i := 57) (by decide +kernel)), rfl⟩
theorem z58 : Jvm.Cond.selects "ToastCourtModel" ⟨"ToastCourtModel", "isDisputant", "(I)Z"⟩ ⟨"ToastCourtModel", "isDisputant", "(I)Z"⟩ ∈ TW := List.mem_filter.mpr ⟨List.mem_append_left _ (List.mem_of_getElem? (i := 58) (by decide +kernel)), rfl⟩
theorem z59 : Jvm.Cond.selects "ToastCourtModel" ⟨"ToastCourtModel", "told", "(II)I"⟩ ⟨"ToastCourtModel", "told", "(II)I"⟩ ∈ TW := List.mem_filter.mpr ⟨List.mem_append_left _ (List.mem_of_getElem? (i := 59) (by decide +kernel)), rfl⟩
theorem z60 : Jvm.Cond.selects "ToastCourtModel" ⟨"ToastCourtModel", "presses", "(I)I"⟩ ⟨"ToastCourtModel", "presses", "(I)I"⟩ ∈ TW := List.mem_filter.mpr ⟨List.mem_append_left _ (List.mem_of_getElem? (i := 60) (by decide +kernel)), rfl⟩
theorem z61 : Jvm.Cond.selects "ToastCourtModel" ⟨"ToastCourtModel", "disputantIs", "(II)I"⟩ ⟨"ToastCourtModel", "disputantIs", "(II)I"⟩ ∈ TW := List.mem_filter.mpr ⟨List.mem_append_left _ (List.mem_of_getElem? (i := 61) (by decide +kernel)), rfl⟩
theorem z62 : Jvm.Cond.selects "ToastCourtModel" ⟨"ToastCourtModel", "jolts", "(I)I"⟩ ⟨"ToastCourtModel", "jolts", "(I)I"⟩ ∈ TW := List.mem_filter.mpr ⟨List.mem_append_left _ (List.mem_of_getElem? (i := 62) (by decide +kernel)), rfl⟩
theorem z63 : Jvm.Cond.selects "ToastCourtModel" ⟨"ToastCourtModel", "grows", "(I)I"⟩ ⟨"ToastCourtModel", "grows", "(I)I"⟩ ∈ TW := List.mem_filter.mpr ⟨List.mem_append_left _ (List.mem_of_getElem? (i := 63) (by decide +kernel)), rfl⟩
theorem z64 : Jvm.Cond.selects "ToastCourtModel" ⟨"ToastCourtModel", "learns", "(I)I"⟩ ⟨"ToastCourtModel", "learns", "(I)I"⟩ ∈ TW := List.mem_filter.mpr ⟨List.mem_append_left _ (List.mem_of_getElem? (i := 64) (by decide +kernel)), rfl⟩
theorem z65 : Jvm.Cond.selects "ToastCourtModel" ⟨"ToastCourtModel", "cools", "(I)I"⟩ ⟨"ToastCourtModel", "cools", "(I)I"⟩ ∈ TW := List.mem_filter.mpr ⟨List.mem_append_left _ (List.mem_of_getElem? (i := 65) (by decide +kernel)), rfl⟩
theorem z66 : Jvm.Cond.selects "ToastCourtModel" ⟨"ToastCourtModel", "areTwo", "(II)Z"⟩ ⟨"ToastCourtModel", "areTwo", "(II)Z"⟩ ∈ TW := List.mem_filter.mpr ⟨List.mem_append_left _ (List.mem_of_getElem? (i := 66) (by decide +kernel)), rfl⟩
theorem z67 : Jvm.Cond.selects "ToastCourtModel" ⟨"ToastCourtModel", "turnsOf", "(II)I"⟩ ⟨"ToastCourtModel", "turnsOf", "(II)I"⟩ ∈ TW := List.mem_filter.mpr ⟨List.mem_append_left _ (List.mem_of_getElem? (i := 67) (by decide +kernel)), rfl⟩
theorem z68 : Jvm.Cond.selects "ToastCourtModel" ⟨"ToastCourtModel", "fallsFor", "(II)I"⟩ ⟨"ToastCourtModel", "fallsFor", "(II)I"⟩ ∈ TW := List.mem_filter.mpr ⟨List.mem_append_left _ (List.mem_of_getElem? (i := 68) (by decide +kernel)), rfl⟩
theorem z69 : Jvm.Cond.selects "ToastCourtModel" ⟨"ToastCourtModel", "orNone", "(I)I"⟩ ⟨"ToastCourtModel", "orNone", "(I)I"⟩ ∈ TW := List.mem_filter.mpr ⟨List.mem_append_left _ (List.mem_of_getElem? (i := 69) (by decide +kernel)), rfl⟩
theorem z70 : Jvm.Cond.selects "ToastCourtModel" ⟨"ToastCourtModel", "dropsGo", "(I)V"⟩ ⟨"ToastCourtModel", "dropsGo", "(I)V"⟩ ∈ TW := List.mem_filter.mpr ⟨List.mem_append_left _ (List.mem_of_getElem? (i := 70) (by decide +kernel)), rfl⟩
theorem z71 : Jvm.Cond.selects "ToastCourtModel" ⟨"ToastCourtModel", "drop", "()V"⟩ ⟨"ToastCourtModel", "drop", "()V"⟩ ∈ TW := List.mem_filter.mpr ⟨List.mem_append_left _ (List.mem_of_getElem? (i := 71) (by decide +kernel)), rfl⟩
theorem z72 : Jvm.Cond.selects "ToastCourtModel" ⟨"ToastCourtModel", "fallsOut", "()Z"⟩ ⟨"ToastCourtModel", "fallsOut", "()Z"⟩ ∈ TW := List.mem_filter.mpr ⟨List.mem_append_left _ (List.mem_of_getElem? (i := 72) (by decide +kernel)), rfl⟩
theorem z73 : Jvm.Cond.selects "ToastCourtModel" ⟨"ToastCourtModel", "settles", "(II)V"⟩ ⟨"ToastCourtModel", "settles", "(II)V"⟩ ∈ TW := List.mem_filter.mpr ⟨List.mem_append_left _ (List.mem_of_getElem? (i := 73) (by decide +kernel)), rfl⟩
theorem z74 : Jvm.Cond.selects "ToastCourtModel" ⟨"ToastCourtModel", "more", "(III)V"⟩ ⟨"ToastCourtModel", "more", "(III)V"⟩ ∈ TW := List.mem_filter.mpr ⟨List.mem_append_left _ (List.mem_of_getElem? (i := 74) (by decide +kernel)), rfl⟩
theorem z75 : Jvm.Cond.selects "ToastCourtModel" ⟨"ToastCourtModel", "sumOf", "(I)I"⟩ ⟨"ToastCourtModel", "sumOf", "(I)I"⟩ ∈ TW := List.mem_filter.mpr ⟨List.mem_append_left _ (List.mem_of_getElem? (i := 75) (by decide +kernel)), rfl⟩
theorem z76 : Jvm.Cond.selects "ToastCourtModel" ⟨"ToastCourtModel", "oftenWrong", "()I"⟩ ⟨"ToastCourtModel", "oftenWrong", "()I"⟩ ∈ TW := List.mem_filter.mpr ⟨List.mem_append_left _ (List.mem_of_getElem? (i := 76) (by decide +kernel)), rfl⟩
theorem z77 : Jvm.Cond.selects "ToastCourtModel" ⟨"ToastCourtModel", "pressesMost", "()I"⟩ ⟨"ToastCourtModel", "pressesMost", "()I"⟩ ∈ TW := List.mem_filter.mpr ⟨List.mem_append_left _ (List.mem_of_getElem? (i := 77) (by decide +kernel)), rfl⟩
theorem z78 : Jvm.Cond.selects "ToastCourtModel" ⟨"ToastCourtModel", "silent", "()I"⟩ ⟨"ToastCourtModel", "silent", "()I"⟩ ∈ TW := List.mem_filter.mpr ⟨List.mem_append_left _ (List.mem_of_getElem? (i := 78) (by decide +kernel)), rfl⟩
theorem z79 : Jvm.Cond.selects "ToastCourtModel" ⟨"ToastCourtModel", "putBack", "(I)I"⟩ ⟨"ToastCourtModel", "putBack", "(I)I"⟩ ∈ TW := List.mem_filter.mpr ⟨List.mem_append_left _ (List.mem_of_getElem? (i := 79) (by decide +kernel)), rfl⟩
theorem z80 : Jvm.Cond.selects "ToastCourtModel" ⟨"ToastCourtModel", "dropsTo", "(II)I"⟩ ⟨"ToastCourtModel", "dropsTo", "(II)I"⟩ ∈ TW := List.mem_filter.mpr ⟨List.mem_append_left _ (List.mem_of_getElem? (i := 80) (by decide +kernel)), rfl⟩
theorem z81 : Jvm.Cond.selects "ToastCourtModel" ⟨"ToastCourtModel", "behind", "(II)I"⟩ ⟨"ToastCourtModel", "behind", "(II)I"⟩ ∈ TW := List.mem_filter.mpr ⟨List.mem_append_left _ (List.mem_of_getElem? (i := 81) (by decide +kernel)), rfl⟩
theorem z82 : Jvm.Cond.selects "ToastCourtModel" ⟨"ToastCourtModel", "bestFor", "(IIII)I"⟩ ⟨"ToastCourtModel", "bestFor", "(IIII)I"⟩ ∈ TW := List.mem_filter.mpr ⟨List.mem_append_left _ (List.mem_of_getElem? (i := 82) (by decide +kernel)), rfl⟩
theorem z83 : Jvm.Cond.selects "ToastCourtModel" ⟨"ToastCourtModel", "isWithout", "(III)Z"⟩ ⟨"ToastCourtModel", "isWithout", "(III)Z"⟩ ∈ TW := List.mem_filter.mpr ⟨List.mem_append_left _ (List.mem_of_getElem? (i := 83) (by decide +kernel)), rfl⟩
theorem z84 : Jvm.Cond.selects "ToastCourtModel" ⟨"ToastCourtModel", "lacks", "(IZ)I"⟩ ⟨"ToastCourtModel", "lacks", "(IZ)I"⟩ ∈ TW := List.mem_filter.mpr ⟨List.mem_append_left _ (List.mem_of_getElem? (i := 84) (by decide +kernel)), rfl⟩
theorem z85 : Jvm.Cond.selects "ToastCourtModel" ⟨"ToastCourtModel", "findHeights", "(II)V"⟩ ⟨"ToastCourtModel", "findHeights", "(II)V"⟩ ∈ TW := List.mem_filter.mpr ⟨List.mem_append_left _ (List.mem_of_getElem? (i := 85) (by decide +kernel)), rfl⟩
theorem z86 : Jvm.Cond.selects "ToastCourtModel" ⟨"ToastCourtModel", "isWrongSo", "(II)Z"⟩ ⟨"ToastCourtModel", "isWrongSo", "(II)Z"⟩ ∈ TW := List.mem_filter.mpr ⟨List.mem_append_left _ (List.mem_of_getElem? (i := 86) (by decide +kernel)), rfl⟩
theorem z87 : Jvm.Cond.selects "ToastCourtModel" ⟨"ToastCourtModel", "drawn", "()I"⟩ ⟨"ToastCourtModel", "drawn", "()I"⟩ ∈ TW := List.mem_filter.mpr ⟨List.mem_append_left _ (List.mem_of_getElem? (i := 87) (by decide +kernel)), rfl⟩
theorem z88 : Jvm.Cond.selects "ToastCourtModel" ⟨"ToastCourtModel", "token", "()V"⟩ ⟨"ToastCourtModel", "token", "()V"⟩ ∈ TW := List.mem_filter.mpr ⟨List.mem_append_left _ (List.mem_of_getElem? (i := 88) (by decide +kernel)), rfl⟩
theorem z89 : Jvm.Cond.selects "ToastCourtModel" ⟨"ToastCourtModel", "byteAt", "(I)I"⟩ ⟨"ToastCourtModel", "byteAt", "(I)I"⟩ ∈ TW := List.mem_filter.mpr ⟨List.mem_append_left _ (List.mem_of_getElem? (i := 89) (by decide +kernel)), rfl⟩
theorem z90 : Jvm.Cond.selects "ToastCourtModel" ⟨"ToastCourtModel", "readItem", "()V"⟩ ⟨"ToastCourtModel", "readItem", "()V"⟩ ∈ TW := List.mem_filter.mpr ⟨List.mem_append_left _ (List.mem_of_getElem? (i := 90) (by decide +kernel)), rfl⟩
theorem z91 : Jvm.Cond.selects "ToastCourtModel" ⟨"ToastCourtModel", "isWord", "(Ljava/lang/String;)Z"⟩ ⟨"ToastCourtModel", "isWord", "(Ljava/lang/String;)Z"⟩ ∈ TW := List.mem_filter.mpr ⟨List.mem_append_left _ (List.mem_of_getElem? (i := 91) (by decide +kernel)), rfl⟩
theorem z92 : Jvm.Cond.selects "ToastCourtModel" ⟨"ToastCourtModel", "readDisputant", "(I)V"⟩ ⟨"ToastCourtModel", "readDisputant", "(I)V"⟩ ∈ TW := List.mem_filter.mpr ⟨List.mem_append_left _ (List.mem_of_getElem? (i := 92) (by decide +kernel)), rfl⟩
theorem z93 : Jvm.Cond.selects "ToastCourtModel" ⟨"ToastCourtModel", "must", "(Z)V"⟩ ⟨"ToastCourtModel", "must", "(Z)V"⟩ ∈ TW := List.mem_filter.mpr ⟨List.mem_append_left _ (List.mem_of_getElem? (i := 93) (by decide +kernel)), rfl⟩
theorem z94 : Jvm.Cond.selects "ToastCourtModel" ⟨"ToastCourtModel", "takesWord", "(Ljava/lang/String;)Z"⟩ ⟨"ToastCourtModel", "takesWord", "(Ljava/lang/String;)Z"⟩ ∈ TW := List.mem_filter.mpr ⟨List.mem_append_left _ (List.mem_of_getElem? (i := 94) (by decide +kernel)), rfl⟩
theorem z95 : Jvm.Cond.selects "ToastCourtModel" ⟨"ToastCourtModel", "number", "(II)I"⟩ ⟨"ToastCourtModel", "number", "(II)I"⟩ ∈ TW := List.mem_filter.mpr ⟨List.mem_append_left _ (List.mem_of_getElem? (i := 95) (by decide +kernel)), rfl⟩
theorem z96 : Jvm.Cond.selects "ToastCourtModel" ⟨"ToastCourtModel", "addItem", "(IIII)V"⟩ ⟨"ToastCourtModel", "addItem", "(IIII)V"⟩ ∈ TW := List.mem_filter.mpr ⟨List.mem_append_left _ (List.mem_of_getElem? (i := 96) (by decide +kernel)), rfl⟩
theorem z97 : Jvm.Cond.selects "ToastCourtModel" ⟨"ToastCourtModel", "readDispute", "()V"⟩ ⟨"ToastCourtModel", "readDispute", "()V"⟩ ∈ TW := List.mem_filter.mpr ⟨List.mem_append_left _ (List.mem_of_getElem? (i := 97) (by decide +kernel)), rfl⟩
theorem z98 : Jvm.Cond.selects "ToastCourtModel" ⟨"ToastCourtModel", "isToldSo", "(I)V"⟩ ⟨"ToastCourtModel", "isToldSo", "(I)V"⟩ ∈ TW := List.mem_filter.mpr ⟨List.mem_append_left _ (List.mem_of_getElem? (i := 98) (by decide +kernel)), rfl⟩
theorem inX0 : ∀ w ∈ u_ws RX0 TX0 9, w ∈ TW := List.forall_mem_cons.mpr ⟨q89, List.forall_mem_cons.mpr ⟨q91, List.forall_mem_cons.mpr ⟨q93, List.forall_mem_cons.mpr ⟨q95, List.forall_mem_cons.mpr ⟨q97, List.forall_mem_cons.mpr ⟨q99, List.forall_mem_cons.mpr ⟨q101, List.forall_mem_cons.mpr ⟨q103, List.forall_mem_cons.mpr ⟨q105, fun _ h => absurd h List.not_mem_nil⟩⟩⟩⟩⟩⟩⟩⟩⟩
theorem inX1 : ∀ w ∈ u_ws RX1 TX1 6, w ∈ TW := List.forall_mem_cons.mpr ⟨q53, List.forall_mem_cons.mpr ⟨q55, List.forall_mem_cons.mpr ⟨q57, List.forall_mem_cons.mpr ⟨q59, List.forall_mem_cons.mpr ⟨q61, List.forall_mem_cons.mpr ⟨q63, fun _ h => absurd h List.not_mem_nil⟩⟩⟩⟩⟩⟩
theorem inX2 : ∀ w ∈ u_ws RX2 TX2 3, w ∈ TW := List.forall_mem_cons.mpr ⟨q147, List.forall_mem_cons.mpr ⟨q149, List.forall_mem_cons.mpr ⟨q151, fun _ h => absurd h List.not_mem_nil⟩⟩⟩
theorem inX3 : ∀ w ∈ u_ws RX3 TX3 6, w ∈ TW := List.forall_mem_cons.mpr ⟨q121, List.forall_mem_cons.mpr ⟨q123, List.forall_mem_cons.mpr ⟨q125, List.forall_mem_cons.mpr ⟨q127, List.forall_mem_cons.mpr ⟨q129, List.forall_mem_cons.mpr ⟨q131, fun _ h => absurd h List.not_mem_nil⟩⟩⟩⟩⟩⟩
theorem inX4 : ∀ w ∈ u_ws RX4 TX4 7, w ∈ TW := List.forall_mem_cons.mpr ⟨q161, List.forall_mem_cons.mpr ⟨q163, List.forall_mem_cons.mpr ⟨q165, List.forall_mem_cons.mpr ⟨q167, List.forall_mem_cons.mpr ⟨q169, List.forall_mem_cons.mpr ⟨q171, List.forall_mem_cons.mpr ⟨q173, fun _ h => absurd h List.not_mem_nil⟩⟩⟩⟩⟩⟩⟩
theorem inX5 : ∀ w ∈ u_ws RX5 TX5 22, w ∈ TW := List.forall_mem_cons.mpr ⟨q725, List.forall_mem_cons.mpr ⟨q727, List.forall_mem_cons.mpr ⟨q729, List.forall_mem_cons.mpr ⟨q731, List.forall_mem_cons.mpr ⟨q733, List.forall_mem_cons.mpr ⟨q735, List.forall_mem_cons.mpr ⟨q737, List.forall_mem_cons.mpr ⟨q739, List.forall_mem_cons.mpr ⟨q741, List.forall_mem_cons.mpr ⟨q743, List.forall_mem_cons.mpr ⟨q745, List.forall_mem_cons.mpr ⟨q747, List.forall_mem_cons.mpr ⟨q749, List.forall_mem_cons.mpr ⟨q751, List.forall_mem_cons.mpr ⟨q753, List.forall_mem_cons.mpr ⟨q755, List.forall_mem_cons.mpr ⟨q757, List.forall_mem_cons.mpr ⟨q759, List.forall_mem_cons.mpr ⟨q761, List.forall_mem_cons.mpr ⟨q763, List.forall_mem_cons.mpr ⟨q765, List.forall_mem_cons.mpr ⟨q767, fun _ h => absurd h List.not_mem_nil⟩⟩⟩⟩⟩⟩⟩⟩⟩⟩⟩⟩⟩⟩⟩⟩⟩⟩⟩⟩⟩⟩
