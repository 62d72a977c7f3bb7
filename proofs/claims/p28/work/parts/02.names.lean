/-! Names, fields and the table of the methods (laid by wip/p28/tools/gen02.py) -/
def RX0 : String := "ClockedGame$Board"
def TX0 : u_T := fun k => match k with
  | _ => ("ClockedGame$Board", "owners", "[I", true)
def tyX0 : Nat → FieldType := fun k => match k with
  | _ => .array .int
theorem nmX0 : ∀ a, a < 1 → ∀ b, b < 1 → a ≠ b → (TX0 a).2.1 ≠ (TX0 b).2.1 := by decide +kernel
theorem tyX0_ok : ∀ k, k < 1 → parseFieldDescriptor (TX0 k).2.2.1 = some (tyX0 k) := by decide +kernel
abbrev cX0_init : ByteArray := prog_2_method_1_code
def yX0_init : MethodName := ⟨RX0, "<init>", "()V"⟩
abbrev cX0_setUp : ByteArray := prog_2_method_2_code
def yX0_setUp : MethodName := ⟨RX0, "setUp", "()V"⟩
abbrev cX0_copyFrom : ByteArray := prog_2_method_3_code
def yX0_copyFrom : MethodName := ⟨RX0, "copyFrom", "(LClockedGame$Board;)V"⟩
abbrev cX0_ownerOf : ByteArray := prog_2_method_4_code
def yX0_ownerOf : MethodName := ⟨RX0, "ownerOf", "(I)I"⟩
abbrev cX0_put : ByteArray := prog_2_method_5_code
def yX0_put : MethodName := ⟨RX0, "put", "(II)V"⟩
abbrev cX0_carry : ByteArray := prog_2_method_6_code
def yX0_carry : MethodName := ⟨RX0, "carry", "(II)V"⟩
abbrev cX0_carryBack : ByteArray := prog_2_method_7_code
def yX0_carryBack : MethodName := ⟨RX0, "carryBack", "(III)V"⟩
abbrev cX0_piecesOf : ByteArray := prog_2_method_8_code
def yX0_piecesOf : MethodName := ⟨RX0, "piecesOf", "(I)I"⟩
abbrev cX0_isLastRow : ByteArray := prog_2_method_9_code
def yX0_isLastRow : MethodName := ⟨RX0, "isLastRow", "(II)Z"⟩
abbrev cX0_hindrance : ByteArray := prog_2_method_10_code
def yX0_hindrance : MethodName := ⟨RX0, "hindrance", "(III)I"⟩
abbrev cX0_isAhead : ByteArray := prog_2_method_11_code
def yX0_isAhead : MethodName := ⟨RX0, "isAhead", "(III)Z"⟩
abbrev cX0_forward : ByteArray := prog_2_method_12_code
def yX0_forward : MethodName := ⟨RX0, "forward", "(I)I"⟩
abbrev cX0_countPossible : ByteArray := prog_2_method_13_code
def yX0_countPossible : MethodName := ⟨RX0, "countPossible", "(I)I"⟩
abbrev cX0_possibleMove : ByteArray := prog_2_method_14_code
def yX0_possibleMove : MethodName := ⟨RX0, "possibleMove", "(II)I"⟩
def RX1 : String := "ClockedGame$Entries"
def TX1 : u_T := fun k => match k with
  | 0 => ("ClockedGame$Entries", "signs", "[C", true)
  | 1 => ("ClockedGame$Entries", "length", "I", false)
  | _ => ("ClockedGame$Entries", "count", "I", false)
def tyX1 : Nat → FieldType := fun k => match k with
  | 0 => .array .char
  | 1 => .int
  | _ => .int
theorem nmX1 : ∀ a, a < 3 → ∀ b, b < 3 → a ≠ b → (TX1 a).2.1 ≠ (TX1 b).2.1 := by decide +kernel
theorem tyX1_ok : ∀ k, k < 3 → parseFieldDescriptor (TX1 k).2.2.1 = some (tyX1 k) := by decide +kernel
abbrev cX1_init : ByteArray := prog_3_method_1_code
def yX1_init : MethodName := ⟨RX1, "<init>", "()V"⟩
abbrev cX1_start : ByteArray := prog_3_method_2_code
def yX1_start : MethodName := ⟨RX1, "start", "()V"⟩
abbrev cX1_copyFrom : ByteArray := prog_3_method_3_code
def yX1_copyFrom : MethodName := ⟨RX1, "copyFrom", "(LClockedGame$Entries;)V"⟩
abbrev cX1_isFull : ByteArray := prog_3_method_4_code
def yX1_isFull : MethodName := ⟨RX1, "isFull", "()Z"⟩
abbrev cX1_signAt : ByteArray := prog_3_method_5_code
def yX1_signAt : MethodName := ⟨RX1, "signAt", "(I)I"⟩
abbrev cX1_writeMove : ByteArray := prog_3_method_6_code
def yX1_writeMove : MethodName := ⟨RX1, "writeMove", "(ZIIIZ)V"⟩
abbrev cX1_writeTakenBack : ByteArray := prog_3_method_7_code
def yX1_writeTakenBack : MethodName := ⟨RX1, "writeTakenBack", "(I)V"⟩
abbrev cX1_writeEnd : ByteArray := prog_3_method_8_code
def yX1_writeEnd : MethodName := ⟨RX1, "writeEnd", "(I)V"⟩
abbrev cX1_writeSign : ByteArray := prog_3_method_9_code
def yX1_writeSign : MethodName := ⟨RX1, "writeSign", "(C)V"⟩
abbrev cX1_beginEntry : ByteArray := prog_3_method_10_code
def yX1_beginEntry : MethodName := ⟨RX1, "beginEntry", "()V"⟩
abbrev cX1_putCell : ByteArray := prog_3_method_11_code
def yX1_putCell : MethodName := ⟨RX1, "putCell", "(I)V"⟩
abbrev cX1_putNumber : ByteArray := prog_3_method_12_code
def yX1_putNumber : MethodName := ⟨RX1, "putNumber", "(I)V"⟩
abbrev cX1_putDigit : ByteArray := prog_3_method_13_code
def yX1_putDigit : MethodName := ⟨RX1, "putDigit", "(I)V"⟩
abbrev cX1_put : ByteArray := prog_3_method_14_code
def yX1_put : MethodName := ⟨RX1, "put", "(C)V"⟩
def RX2 : String := "ClockedGame$Game"
def TX2 : u_T := fun k => match k with
  | 0 => ("ClockedGame$Game", "settings", "[I", true)
  | 1 => ("ClockedGame$Game", "board", "LClockedGame$Board;", true)
  | 2 => ("ClockedGame$Game", "first", "LClockedGame$Side;", true)
  | 3 => ("ClockedGame$Game", "second", "LClockedGame$Side;", true)
  | 4 => ("ClockedGame$Game", "made", "LClockedGame$Made;", true)
  | 5 => ("ClockedGame$Game", "entries", "LClockedGame$Entries;", true)
  | 6 => ("ClockedGame$Game", "state", "I", false)
  | 7 => ("ClockedGame$Game", "reason", "I", false)
  | 8 => ("ClockedGame$Game", "turn", "I", false)
  | 9 => ("ClockedGame$Game", "turnTicks", "I", false)
  | 10 => ("ClockedGame$Game", "question", "I", false)
  | 11 => ("ClockedGame$Game", "asker", "I", false)
  | 12 => ("ClockedGame$Game", "sealedFrom", "I", false)
  | _ => ("ClockedGame$Game", "sealedTo", "I", false)
def tyX2 : Nat → FieldType := fun k => match k with
  | 0 => .array .int
  | 1 => .object "ClockedGame$Board"
  | 2 => .object "ClockedGame$Side"
  | 3 => .object "ClockedGame$Side"
  | 4 => .object "ClockedGame$Made"
  | 5 => .object "ClockedGame$Entries"
  | 6 => .int
  | 7 => .int
  | 8 => .int
  | 9 => .int
  | 10 => .int
  | 11 => .int
  | 12 => .int
  | _ => .int
theorem nmX2 : ∀ a, a < 14 → ∀ b, b < 14 → a ≠ b → (TX2 a).2.1 ≠ (TX2 b).2.1 := by decide +kernel
theorem tyX2_ok : ∀ k, k < 14 → parseFieldDescriptor (TX2 k).2.2.1 = some (tyX2 k) := by decide +kernel
abbrev cX2_init : ByteArray := prog_4_method_1_code
def yX2_init : MethodName := ⟨RX2, "<init>", "()V"⟩
abbrev cX2_copyFrom : ByteArray := prog_4_method_2_code
def yX2_copyFrom : MethodName := ⟨RX2, "copyFrom", "(LClockedGame$Game;)V"⟩
abbrev cX2_start : ByteArray := prog_4_method_3_code
def yX2_start : MethodName := ⟨RX2, "start", "()V"⟩
abbrev cX2_side : ByteArray := prog_4_method_4_code
def yX2_side : MethodName := ⟨RX2, "side", "(I)LClockedGame$Side;"⟩
abbrev cX2_isOver : ByteArray := prog_4_method_5_code
def yX2_isOver : MethodName := ⟨RX2, "isOver", "()Z"⟩
abbrev cX2_numberOf : ByteArray := prog_4_method_6_code
def yX2_numberOf : MethodName := ⟨RX2, "numberOf", "(I)I"⟩
abbrev cX2_valueOf : ByteArray := prog_4_method_7_code
def yX2_valueOf : MethodName := ⟨RX2, "valueOf", "(I)I"⟩
abbrev cX2_faultOfChange : ByteArray := prog_4_method_8_code
def yX2_faultOfChange : MethodName := ⟨RX2, "faultOfChange", "(II)I"⟩
abbrev cX2_change : ByteArray := prog_4_method_9_code
def yX2_change : MethodName := ⟨RX2, "change", "(II)I"⟩
abbrev cX2_faultOfTicks : ByteArray := prog_4_method_10_code
def yX2_faultOfTicks : MethodName := ⟨RX2, "faultOfTicks", "(I)I"⟩
abbrev cX2_letGoBy : ByteArray := prog_4_method_11_code
def yX2_letGoBy : MethodName := ⟨RX2, "letGoBy", "(I)I"⟩
abbrev cX2_flagsFall : ByteArray := prog_4_method_12_code
def yX2_flagsFall : MethodName := ⟨RX2, "flagsFall", "()Z"⟩
abbrev cX2_lookAtFlags : ByteArray := prog_4_method_13_code
def yX2_lookAtFlags : MethodName := ⟨RX2, "lookAtFlags", "()V"⟩
abbrev cX2_faultOfClaim : ByteArray := prog_4_method_14_code
def yX2_faultOfClaim : MethodName := ⟨RX2, "faultOfClaim", "(I)I"⟩
abbrev cX2_faultOfMove : ByteArray := prog_4_method_15_code
def yX2_faultOfMove : MethodName := ⟨RX2, "faultOfMove", "(II)I"⟩
abbrev cX2_makeMove : ByteArray := prog_4_method_16_code
def yX2_makeMove : MethodName := ⟨RX2, "makeMove", "(IIZ)Z"⟩
abbrev cX2_additionFor : ByteArray := prog_4_method_17_code
def yX2_additionFor : MethodName := ⟨RX2, "additionFor", "(I)I"⟩
abbrev cX2_endByMove : ByteArray := prog_4_method_18_code
def yX2_endByMove : MethodName := ⟨RX2, "endByMove", "(II)V"⟩
abbrev cX2_faultOfSeal : ByteArray := prog_4_method_19_code
def yX2_faultOfSeal : MethodName := ⟨RX2, "faultOfSeal", "(II)I"⟩
abbrev cX2_breakOff : ByteArray := prog_4_method_20_code
def yX2_breakOff : MethodName := ⟨RX2, "breakOff", "(II)I"⟩
abbrev cX2_goOn : ByteArray := prog_4_method_21_code
def yX2_goOn : MethodName := ⟨RX2, "goOn", "()I"⟩
abbrev cX2_faultOfAsking : ByteArray := prog_4_method_22_code
def yX2_faultOfAsking : MethodName := ⟨RX2, "faultOfAsking", "(I)I"⟩
abbrev cX2_faultOfOffer : ByteArray := prog_4_method_23_code
def yX2_faultOfOffer : MethodName := ⟨RX2, "faultOfOffer", "(I)I"⟩
abbrev cX2_faultOfAnswer : ByteArray := prog_4_method_24_code
def yX2_faultOfAnswer : MethodName := ⟨RX2, "faultOfAnswer", "(Z)I"⟩
abbrev cX2_canAskAnything : ByteArray := prog_4_method_25_code
def yX2_canAskAnything : MethodName := ⟨RX2, "canAskAnything", "()Z"⟩
abbrev cX2_askToTakeBack : ByteArray := prog_4_method_26_code
def yX2_askToTakeBack : MethodName := ⟨RX2, "askToTakeBack", "(I)I"⟩
abbrev cX2_offerDraw : ByteArray := prog_4_method_27_code
def yX2_offerDraw : MethodName := ⟨RX2, "offerDraw", "(I)I"⟩
abbrev cX2_refuse : ByteArray := prog_4_method_28_code
def yX2_refuse : MethodName := ⟨RX2, "refuse", "()I"⟩
abbrev cX2_agree : ByteArray := prog_4_method_29_code
def yX2_agree : MethodName := ⟨RX2, "agree", "()I"⟩
abbrev cX2_movesBackTo : ByteArray := prog_4_method_30_code
def yX2_movesBackTo : MethodName := ⟨RX2, "movesBackTo", "(I)I"⟩
abbrev cX2_takeBack : ByteArray := prog_4_method_31_code
def yX2_takeBack : MethodName := ⟨RX2, "takeBack", "(I)V"⟩
abbrev cX2_takeBackLast : ByteArray := prog_4_method_32_code
def yX2_takeBackLast : MethodName := ⟨RX2, "takeBackLast", "()V"⟩
abbrev cX2_closeQuestion : ByteArray := prog_4_method_33_code
def yX2_closeQuestion : MethodName := ⟨RX2, "closeQuestion", "()V"⟩
abbrev cX2_wonBy : ByteArray := prog_4_method_34_code
def yX2_wonBy : MethodName := ⟨RX2, "wonBy", "(I)I"⟩
abbrev cX2_end : ByteArray := prog_4_method_35_code
def yX2_end : MethodName := ⟨RX2, "end", "(II)I"⟩
def RX3 : String := "ClockedGame$History"
def TX3 : u_T := fun k => match k with
  | 0 => ("ClockedGame$History", "states", "[LClockedGame$Game;", true)
  | 1 => ("ClockedGame$History", "first", "I", false)
  | _ => ("ClockedGame$History", "count", "I", false)
def tyX3 : Nat → FieldType := fun k => match k with
  | 0 => .array (.object "ClockedGame$Game")
  | 1 => .int
  | _ => .int
theorem nmX3 : ∀ a, a < 3 → ∀ b, b < 3 → a ≠ b → (TX3 a).2.1 ≠ (TX3 b).2.1 := by decide +kernel
theorem tyX3_ok : ∀ k, k < 3 → parseFieldDescriptor (TX3 k).2.2.1 = some (tyX3 k) := by decide +kernel
abbrev cX3_init : ByteArray := prog_5_method_1_code
def yX3_init : MethodName := ⟨RX3, "<init>", "()V"⟩
abbrev cX3_keep : ByteArray := prog_5_method_2_code
def yX3_keep : MethodName := ⟨RX3, "keep", "(LClockedGame$Game;)V"⟩
abbrev cX3_restoreLatest : ByteArray := prog_5_method_3_code
def yX3_restoreLatest : MethodName := ⟨RX3, "restoreLatest", "(LClockedGame$Game;)V"⟩
abbrev cX3_behindFirst : ByteArray := prog_5_method_4_code
def yX3_behindFirst : MethodName := ⟨RX3, "behindFirst", "(I)LClockedGame$Game;"⟩
def RX4 : String := "ClockedGame$Made"
def TX4 : u_T := fun k => match k with
  | 0 => ("ClockedGame$Made", "from", "[I", true)
  | 1 => ("ClockedGame$Made", "to", "[I", true)
  | 2 => ("ClockedGame$Made", "added", "[I", true)
  | 3 => ("ClockedGame$Made", "target", "[I", true)
  | 4 => ("ClockedGame$Made", "count", "I", false)
  | 5 => ("ClockedGame$Made", "poppedFrom", "I", false)
  | 6 => ("ClockedGame$Made", "poppedTo", "I", false)
  | 7 => ("ClockedGame$Made", "poppedTarget", "I", false)
  | _ => ("ClockedGame$Made", "poppedAdded", "I", false)
def tyX4 : Nat → FieldType := fun k => match k with
  | 0 => .array .int
  | 1 => .array .int
  | 2 => .array .int
  | 3 => .array .int
  | 4 => .int
  | 5 => .int
  | 6 => .int
  | 7 => .int
  | _ => .int
theorem nmX4 : ∀ a, a < 9 → ∀ b, b < 9 → a ≠ b → (TX4 a).2.1 ≠ (TX4 b).2.1 := by decide +kernel
theorem tyX4_ok : ∀ k, k < 9 → parseFieldDescriptor (TX4 k).2.2.1 = some (tyX4 k) := by decide +kernel
abbrev cX4_init : ByteArray := prog_6_method_1_code
def yX4_init : MethodName := ⟨RX4, "<init>", "()V"⟩
abbrev cX4_copyFrom : ByteArray := prog_6_method_2_code
def yX4_copyFrom : MethodName := ⟨RX4, "copyFrom", "(LClockedGame$Made;)V"⟩
abbrev cX4_push : ByteArray := prog_6_method_3_code
def yX4_push : MethodName := ⟨RX4, "push", "(IIII)V"⟩
abbrev cX4_pop : ByteArray := prog_6_method_4_code
def yX4_pop : MethodName := ⟨RX4, "pop", "()Z"⟩
def RX5 : String := "ClockedGame$Side"
def TX5 : u_T := fun k => match k with
  | 0 => ("ClockedGame$Side", "clock", "I", false)
  | 1 => ("ClockedGame$Side", "used", "I", false)
  | 2 => ("ClockedGame$Side", "gone", "I", false)
  | 3 => ("ClockedGame$Side", "added", "I", false)
  | 4 => ("ClockedGame$Side", "moves", "I", false)
  | _ => ("ClockedGame$Side", "takenBack", "I", false)
def tyX5 : Nat → FieldType := fun k => match k with
  | 0 => .int
  | 1 => .int
  | 2 => .int
  | 3 => .int
  | 4 => .int
  | _ => .int
theorem nmX5 : ∀ a, a < 6 → ∀ b, b < 6 → a ≠ b → (TX5 a).2.1 ≠ (TX5 b).2.1 := by decide +kernel
theorem tyX5_ok : ∀ k, k < 6 → parseFieldDescriptor (TX5 k).2.2.1 = some (tyX5 k) := by decide +kernel
abbrev cX5_init : ByteArray := prog_7_method_1_code
def yX5_init : MethodName := ⟨RX5, "<init>", "()V"⟩
abbrev cX5_start : ByteArray := prog_7_method_2_code
def yX5_start : MethodName := ⟨RX5, "start", "(I)V"⟩
abbrev cX5_copyFrom : ByteArray := prog_7_method_3_code
def yX5_copyFrom : MethodName := ⟨RX5, "copyFrom", "(LClockedGame$Side;)V"⟩
abbrev cX5_spend : ByteArray := prog_7_method_4_code
def yX5_spend : MethodName := ⟨RX5, "spend", "(II)V"⟩
abbrev cX5_add : ByteArray := prog_7_method_5_code
def yX5_add : MethodName := ⟨RX5, "add", "(I)V"⟩
abbrev cX5_numberOf : ByteArray := prog_7_method_6_code
def yX5_numberOf : MethodName := ⟨RX5, "numberOf", "(I)I"⟩
def RX6 : String := "ClockedGame$Text"
def TX6 : u_T := fun k => match k with
  | 0 => ("ClockedGame$Text", "signs", "[C", true)
  | _ => ("ClockedGame$Text", "length", "I", false)
def tyX6 : Nat → FieldType := fun k => match k with
  | 0 => .array .char
  | _ => .int
theorem nmX6 : ∀ a, a < 2 → ∀ b, b < 2 → a ≠ b → (TX6 a).2.1 ≠ (TX6 b).2.1 := by decide +kernel
theorem tyX6_ok : ∀ k, k < 2 → parseFieldDescriptor (TX6 k).2.2.1 = some (tyX6 k) := by decide +kernel
abbrev cX6_init : ByteArray := prog_8_method_1_code
def yX6_init : MethodName := ⟨RX6, "<init>", "()V"⟩
abbrev cX6_isFull : ByteArray := prog_8_method_2_code
def yX6_isFull : MethodName := ⟨RX6, "isFull", "()Z"⟩
abbrev cX6_append : ByteArray := prog_8_method_3_code
def yX6_append : MethodName := ⟨RX6, "append", "(C)I"⟩
def RX7 : String := "ClockedGame"
def TX7 : u_T := fun k => match k with
  | 0 => ("ClockedGame", "current", "LClockedGame$Game;", true)
  | 1 => ("ClockedGame", "before", "LClockedGame$Game;", true)
  | 2 => ("ClockedGame", "history", "LClockedGame$History;", true)
  | _ => ("ClockedGame", "text", "LClockedGame$Text;", true)
def tyX7 : Nat → FieldType := fun k => match k with
  | 0 => .object "ClockedGame$Game"
  | 1 => .object "ClockedGame$Game"
  | 2 => .object "ClockedGame$History"
  | _ => .object "ClockedGame$Text"
theorem nmX7 : ∀ a, a < 4 → ∀ b, b < 4 → a ≠ b → (TX7 a).2.1 ≠ (TX7 b).2.1 := by decide +kernel
theorem tyX7_ok : ∀ k, k < 4 → parseFieldDescriptor (TX7 k).2.2.1 = some (tyX7 k) := by decide +kernel
abbrev cX7_init : ByteArray := prog_1_method_1_code
def yX7_init : MethodName := ⟨RX7, "<init>", "()V"⟩
abbrev cX7_begin : ByteArray := prog_1_method_2_code
def yX7_begin : MethodName := ⟨RX7, "begin", "()I"⟩
abbrev cX7_set : ByteArray := prog_1_method_3_code
def yX7_set : MethodName := ⟨RX7, "set", "(II)I"⟩
abbrev cX7_setting : ByteArray := prog_1_method_4_code
def yX7_setting : MethodName := ⟨RX7, "setting", "(I)I"⟩
abbrev cX7_pass : ByteArray := prog_1_method_5_code
def yX7_pass : MethodName := ⟨RX7, "pass", "(I)I"⟩
abbrev cX7_move : ByteArray := prog_1_method_6_code
def yX7_move : MethodName := ⟨RX7, "move", "(II)I"⟩
abbrev cX7_why : ByteArray := prog_1_method_7_code
def yX7_why : MethodName := ⟨RX7, "why", "(II)I"⟩
abbrev cX7_seal : ByteArray := prog_1_method_8_code
def yX7_seal : MethodName := ⟨RX7, "seal", "(II)I"⟩
abbrev cX7_resume : ByteArray := prog_1_method_9_code
def yX7_resume : MethodName := ⟨RX7, "resume", "()I"⟩
abbrev cX7_ask : ByteArray := prog_1_method_10_code
def yX7_ask : MethodName := ⟨RX7, "ask", "(I)I"⟩
abbrev cX7_offer : ByteArray := prog_1_method_11_code
def yX7_offer : MethodName := ⟨RX7, "offer", "(I)I"⟩
abbrev cX7_answer : ByteArray := prog_1_method_12_code
def yX7_answer : MethodName := ⟨RX7, "answer", "(Z)I"⟩
abbrev cX7_resign : ByteArray := prog_1_method_13_code
def yX7_resign : MethodName := ⟨RX7, "resign", "(I)I"⟩
abbrev cX7_claim : ByteArray := prog_1_method_14_code
def yX7_claim : MethodName := ⟨RX7, "claim", "(I)I"⟩
abbrev cX7_at : ByteArray := prog_1_method_15_code
def yX7_at : MethodName := ⟨RX7, "at", "(I)I"⟩
abbrev cX7_game : ByteArray := prog_1_method_16_code
def yX7_game : MethodName := ⟨RX7, "game", "(I)I"⟩
abbrev cX7_player : ByteArray := prog_1_method_17_code
def yX7_player : MethodName := ⟨RX7, "player", "(II)I"⟩
abbrev cX7_possible : ByteArray := prog_1_method_18_code
def yX7_possible : MethodName := ⟨RX7, "possible", "(I)I"⟩
abbrev cX7_written : ByteArray := prog_1_method_19_code
def yX7_written : MethodName := ⟨RX7, "written", "()I"⟩
abbrev cX7_sign : ByteArray := prog_1_method_20_code
def yX7_sign : MethodName := ⟨RX7, "sign", "(I)I"⟩
abbrev cX7_mean : ByteArray := prog_1_method_21_code
def yX7_mean : MethodName := ⟨RX7, "mean", "(I)F"⟩
abbrev cX7_type : ByteArray := prog_1_method_22_code
def yX7_type : MethodName := ⟨RX7, "type", "(I)I"⟩
abbrev cX7_undo : ByteArray := prog_1_method_25_code
def yX7_undo : MethodName := ⟨RX7, "undo", "()I"⟩
abbrev cX7_fingerprint : ByteArray := prog_1_method_26_code
def yX7_fingerprint : MethodName := ⟨RX7, "fingerprint", "()J"⟩
abbrev cX7_isCell : ByteArray := prog_1_method_28_code
def yX7_isCell : MethodName := ⟨RX7, "isCell", "(I)Z"⟩
abbrev cX7_isPlayer : ByteArray := prog_1_method_29_code
def yX7_isPlayer : MethodName := ⟨RX7, "isPlayer", "(I)Z"⟩
abbrev cX7_other : ByteArray := prog_1_method_30_code
def yX7_other : MethodName := ⟨RX7, "other", "(I)I"⟩
def RX8 : String := "ClockedGameModel"
def TX8 : u_T := fun k => match k with
  | _ => ("", "", "", false)
def tyX8 : Nat → FieldType := fun k => match k with
  | _ => .int
theorem nmX8 : ∀ a, a < 0 → ∀ b, b < 0 → a ≠ b → (TX8 a).2.1 ≠ (TX8 b).2.1 := by decide +kernel
theorem tyX8_ok : ∀ k, k < 0 → parseFieldDescriptor (TX8 k).2.2.1 = some (tyX8 k) := by decide +kernel
def RL : String := "ClockedGameLaw"
abbrev cL_cell : ByteArray := method_2_code
def yL_cell : MethodName := ⟨RL, "cell", "([II)I"⟩
abbrev cL_up : ByteArray := method_3_code
def yL_up : MethodName := ⟨RL, "up", "(II)I"⟩
abbrev cL_fails : ByteArray := method_4_code
def yL_fails : MethodName := ⟨RL, "fails", "(LClockedGame;)Z"⟩
abbrev cL_agrees : ByteArray := method_5_code
def yL_agrees : MethodName := ⟨RL, "agrees", "(LClockedGame;)Z"⟩
abbrev cL_written : ByteArray := method_6_code
def yL_written : MethodName := ⟨RL, "written", "(LClockedGame;)Z"⟩
abbrev cL_clocks : ByteArray := method_7_code
def yL_clocks : MethodName := ⟨RL, "clocks", "(LClockedGame;I)Z"⟩
abbrev cL_moves : ByteArray := method_8_code
def yL_moves : MethodName := ⟨RL, "moves", "(LClockedGame;I)Z"⟩
abbrev cL_asks : ByteArray := method_9_code
def yL_asks : MethodName := ⟨RL, "asks", "(LClockedGame;I)Z"⟩
abbrev cL_law : ByteArray := code
def yL_law : MethodName := ⟨RL, "law", "([I)Z"⟩
abbrev vwCl : List vw_C := [(RX0, TX0, 1), (RX1, TX1, 3), (RX2, TX2, 14), (RX3, TX3, 3), (RX4, TX4, 9), (RX5, TX5, 6), (RX6, TX6, 2), (RX7, TX7, 4)]
def mtL_0 : List (MethodName × ByteArray × Nat × Option FieldType × Nat × Nat) := [(yX0_init, cX0_init, 1, (Option.none : Option FieldType), 1, 20), (yX0_setUp, cX0_setUp, 3, (Option.none : Option FieldType), 0, 0), (yX0_copyFrom, cX0_copyFrom, 2, (Option.none : Option FieldType), 1, 26), (yX0_ownerOf, cX0_ownerOf, 2, (Option.some FieldType.int), 0, 0), (yX0_put, cX0_put, 3, (Option.none : Option FieldType), 0, 0), (yX0_carry, cX0_carry, 3, (Option.none : Option FieldType), 1, 22), (yX0_carryBack, cX0_carryBack, 4, (Option.none : Option FieldType), 1, 22), (yX0_piecesOf, cX0_piecesOf, 4, (Option.some FieldType.int), 0, 0), (yX0_isLastRow, cX0_isLastRow, 3, (Option.some FieldType.boolean), 0, 0), (yX0_hindrance, cX0_hindrance, 7, (Option.some FieldType.int), 2, 46), (yX0_isAhead, cX0_isAhead, 6, (Option.some FieldType.boolean), 1, 21), (yX0_forward, cX0_forward, 2, (Option.some FieldType.int), 0, 0), (yX0_countPossible, cX0_countPossible, 6, (Option.some FieldType.int), 3, 72), (yX0_possibleMove, cX0_possibleMove, 7, (Option.some FieldType.int), 3, 72), (yX1_init, cX1_init, 1, (Option.none : Option FieldType), 1, 20), (yX1_start, cX1_start, 1, (Option.none : Option FieldType), 0, 0), (yX1_copyFrom, cX1_copyFrom, 3, (Option.none : Option FieldType), 1, 26), (yX1_isFull, cX1_isFull, 1, (Option.some FieldType.boolean), 0, 0), (yX1_signAt, cX1_signAt, 2, (Option.some FieldType.int), 0, 0), (yX1_writeMove, cX1_writeMove, 6, (Option.none : Option FieldType), 3, 65), (yX1_writeTakenBack, cX1_writeTakenBack, 2, (Option.none : Option FieldType), 2, 42), (yX1_writeEnd, cX1_writeEnd, 2, (Option.none : Option FieldType), 2, 42), (yX1_writeSign, cX1_writeSign, 2, (Option.none : Option FieldType), 2, 41), (yX1_beginEntry, cX1_beginEntry, 1, (Option.none : Option FieldType), 1, 21), (yX1_putCell, cX1_putCell, 2, (Option.none : Option FieldType), 1, 21), (yX1_putNumber, cX1_putNumber, 4, (Option.none : Option FieldType), 2, 42), (yX1_putDigit, cX1_putDigit, 2, (Option.none : Option FieldType), 1, 21), (yX1_put, cX1_put, 2, (Option.none : Option FieldType), 0, 0), (yX2_init, cX2_init, 1, (Option.none : Option FieldType), 2, 42), (yX2_copyFrom, cX2_copyFrom, 2, (Option.none : Option FieldType), 2, 48), (yX2_start, cX2_start, 1, (Option.none : Option FieldType), 1, 22), (yX2_side, cX2_side, 2, (Option.some (FieldType.object "ClockedGame$Side")), 0, 0), (yX2_isOver, cX2_isOver, 1, (Option.some FieldType.boolean), 0, 0), (yX2_numberOf, cX2_numberOf, 2, (Option.some FieldType.int), 4, 97), (yX2_valueOf, cX2_valueOf, 2, (Option.some FieldType.int), 0, 0), (yX2_faultOfChange, cX2_faultOfChange, 3, (Option.some FieldType.int), 0, 0), (yX2_change, cX2_change, 4, (Option.some FieldType.int), 5, 105), (yX2_faultOfTicks, cX2_faultOfTicks, 2, (Option.some FieldType.int), 0, 0), (yX2_letGoBy, cX2_letGoBy, 5, (Option.some FieldType.int), 5, 105), (yX2_flagsFall, cX2_flagsFall, 1, (Option.some FieldType.boolean), 0, 0)]
def mtL_1 : List (MethodName × ByteArray × Nat × Option FieldType × Nat × Nat) := [(yX2_lookAtFlags, cX2_lookAtFlags, 1, (Option.none : Option FieldType), 4, 85), (yX2_faultOfClaim, cX2_faultOfClaim, 2, (Option.some FieldType.int), 1, 21), (yX2_faultOfMove, cX2_faultOfMove, 3, (Option.some FieldType.int), 3, 72), (yX2_makeMove, cX2_makeMove, 9, (Option.some FieldType.boolean), 5, 121), (yX2_additionFor, cX2_additionFor, 3, (Option.some FieldType.int), 0, 0), (yX2_endByMove, cX2_endByMove, 4, (Option.none : Option FieldType), 4, 98), (yX2_faultOfSeal, cX2_faultOfSeal, 3, (Option.some FieldType.int), 1, 20), (yX2_breakOff, cX2_breakOff, 3, (Option.some FieldType.int), 1, 20), (yX2_goOn, cX2_goOn, 1, (Option.some FieldType.int), 6, 149), (yX2_faultOfAsking, cX2_faultOfAsking, 3, (Option.some FieldType.int), 1, 21), (yX2_faultOfOffer, cX2_faultOfOffer, 2, (Option.some FieldType.int), 1, 20), (yX2_faultOfAnswer, cX2_faultOfAnswer, 3, (Option.some FieldType.int), 1, 20), (yX2_canAskAnything, cX2_canAskAnything, 1, (Option.some FieldType.boolean), 0, 0), (yX2_askToTakeBack, cX2_askToTakeBack, 2, (Option.some FieldType.int), 3, 62), (yX2_offerDraw, cX2_offerDraw, 2, (Option.some FieldType.int), 3, 62), (yX2_refuse, cX2_refuse, 1, (Option.some FieldType.int), 3, 62), (yX2_agree, cX2_agree, 1, (Option.some FieldType.int), 6, 128), (yX2_movesBackTo, cX2_movesBackTo, 2, (Option.some FieldType.int), 0, 0), (yX2_takeBack, cX2_takeBack, 4, (Option.none : Option FieldType), 5, 105), (yX2_takeBackLast, cX2_takeBackLast, 2, (Option.none : Option FieldType), 2, 45), (yX2_closeQuestion, cX2_closeQuestion, 1, (Option.none : Option FieldType), 0, 0), (yX2_wonBy, cX2_wonBy, 1, (Option.some FieldType.int), 0, 0), (yX2_end, cX2_end, 3, (Option.some FieldType.int), 3, 63), (yX3_init, cX3_init, 2, (Option.none : Option FieldType), 3, 62), (yX3_keep, cX3_keep, 3, (Option.none : Option FieldType), 3, 69), (yX3_restoreLatest, cX3_restoreLatest, 3, (Option.none : Option FieldType), 3, 69), (yX3_behindFirst, cX3_behindFirst, 3, (Option.some (FieldType.object "ClockedGame$Game")), 0, 0), (yX4_init, cX4_init, 1, (Option.none : Option FieldType), 1, 20), (yX4_copyFrom, cX4_copyFrom, 3, (Option.none : Option FieldType), 1, 26), (yX4_push, cX4_push, 5, (Option.none : Option FieldType), 0, 0), (yX4_pop, cX4_pop, 1, (Option.some FieldType.boolean), 0, 0), (yX5_init, cX5_init, 1, (Option.none : Option FieldType), 1, 20), (yX5_start, cX5_start, 2, (Option.none : Option FieldType), 0, 0), (yX5_copyFrom, cX5_copyFrom, 2, (Option.none : Option FieldType), 0, 0), (yX5_spend, cX5_spend, 3, (Option.none : Option FieldType), 0, 0), (yX5_add, cX5_add, 2, (Option.none : Option FieldType), 0, 0), (yX5_numberOf, cX5_numberOf, 2, (Option.some FieldType.int), 0, 0), (yX6_init, cX6_init, 1, (Option.none : Option FieldType), 1, 20), (yX6_isFull, cX6_isFull, 1, (Option.some FieldType.boolean), 0, 0), (yX6_append, cX6_append, 2, (Option.some FieldType.int), 0, 0)]
def mtL_2 : List (MethodName × ByteArray × Nat × Option FieldType × Nat × Nat) := [(yX0_setUp, cX0_setUp, 3, (Option.none : Option FieldType), 0, 0), (yX0_setUp, cX0_setUp, 3, (Option.none : Option FieldType), 0, 0), (yX0_setUp, cX0_setUp, 3, (Option.none : Option FieldType), 0, 0), (yX0_setUp, cX0_setUp, 3, (Option.none : Option FieldType), 0, 0), (yX0_setUp, cX0_setUp, 3, (Option.none : Option FieldType), 0, 0), (yX0_setUp, cX0_setUp, 3, (Option.none : Option FieldType), 0, 0), (yX0_setUp, cX0_setUp, 3, (Option.none : Option FieldType), 0, 0), (yX0_setUp, cX0_setUp, 3, (Option.none : Option FieldType), 0, 0), (yX0_setUp, cX0_setUp, 3, (Option.none : Option FieldType), 0, 0), (yX0_setUp, cX0_setUp, 3, (Option.none : Option FieldType), 0, 0), (yX0_setUp, cX0_setUp, 3, (Option.none : Option FieldType), 0, 0), (yX0_setUp, cX0_setUp, 3, (Option.none : Option FieldType), 0, 0), (yX0_setUp, cX0_setUp, 3, (Option.none : Option FieldType), 0, 0), (yX7_init, cX7_init, 1, (Option.none : Option FieldType), 4, 83), (yX7_begin, cX7_begin, 2, (Option.some FieldType.int), 4, 91), (yX7_set, cX7_set, 4, (Option.some FieldType.int), 6, 128), (yX7_setting, cX7_setting, 2, (Option.some FieldType.int), 1, 21), (yX7_pass, cX7_pass, 3, (Option.some FieldType.int), 6, 129), (yX7_move, cX7_move, 4, (Option.some FieldType.int), 6, 149), (yX7_why, cX7_why, 3, (Option.some FieldType.int), 3, 72), (yX7_seal, cX7_seal, 4, (Option.some FieldType.int), 4, 91), (yX7_resume, cX7_resume, 1, (Option.some FieldType.int), 7, 169), (yX7_ask, cX7_ask, 3, (Option.some FieldType.int), 4, 91), (yX7_offer, cX7_offer, 3, (Option.some FieldType.int), 4, 91), (yX7_answer, cX7_answer, 3, (Option.some FieldType.int), 7, 148), (yX7_resign, cX7_resign, 2, (Option.some FieldType.int), 4, 91), (yX7_claim, cX7_claim, 3, (Option.some FieldType.int), 4, 91), (yX7_at, cX7_at, 2, (Option.some FieldType.int), 1, 21), (yX7_game, cX7_game, 2, (Option.some FieldType.int), 5, 118), (yX7_player, cX7_player, 3, (Option.some FieldType.int), 1, 23), (yX7_possible, cX7_possible, 2, (Option.some FieldType.int), 4, 98), (yX7_written, cX7_written, 1, (Option.some FieldType.int), 0, 0), (yX7_sign, cX7_sign, 2, (Option.some FieldType.int), 1, 21), (yX7_mean, cX7_mean, 3, (Option.some FieldType.float), 1, 21), (yX7_type, cX7_type, 2, (Option.some FieldType.int), 1, 21), (yX0_setUp, cX0_setUp, 3, (Option.none : Option FieldType), 0, 0), (yX0_setUp, cX0_setUp, 3, (Option.none : Option FieldType), 0, 0), (yX7_undo, cX7_undo, 1, (Option.some FieldType.int), 4, 91), (yX7_fingerprint, cX7_fingerprint, 5, (Option.some FieldType.long), 6, 139), (yX0_setUp, cX0_setUp, 3, (Option.none : Option FieldType), 0, 0)]
def mtL_3 : List (MethodName × ByteArray × Nat × Option FieldType × Nat × Nat) := [(yX7_isCell, cX7_isCell, 1, (Option.some FieldType.boolean), 0, 0), (yX7_isPlayer, cX7_isPlayer, 1, (Option.some FieldType.boolean), 0, 0), (yX7_other, cX7_other, 1, (Option.some FieldType.int), 0, 0), (yX0_setUp, cX0_setUp, 3, (Option.none : Option FieldType), 0, 0), (yX0_setUp, cX0_setUp, 3, (Option.none : Option FieldType), 0, 0), (yX0_setUp, cX0_setUp, 3, (Option.none : Option FieldType), 0, 0), (yX0_setUp, cX0_setUp, 3, (Option.none : Option FieldType), 0, 0), (yX0_setUp, cX0_setUp, 3, (Option.none : Option FieldType), 0, 0), (yX0_setUp, cX0_setUp, 3, (Option.none : Option FieldType), 0, 0), (yX0_setUp, cX0_setUp, 3, (Option.none : Option FieldType), 0, 0), (yX0_setUp, cX0_setUp, 3, (Option.none : Option FieldType), 0, 0), (yX0_setUp, cX0_setUp, 3, (Option.none : Option FieldType), 0, 0), (yX0_setUp, cX0_setUp, 3, (Option.none : Option FieldType), 0, 0), (yX0_setUp, cX0_setUp, 3, (Option.none : Option FieldType), 0, 0), (yX0_setUp, cX0_setUp, 3, (Option.none : Option FieldType), 0, 0), (yX0_setUp, cX0_setUp, 3, (Option.none : Option FieldType), 0, 0), (yX0_setUp, cX0_setUp, 3, (Option.none : Option FieldType), 0, 0), (yX0_setUp, cX0_setUp, 3, (Option.none : Option FieldType), 0, 0), (yX0_setUp, cX0_setUp, 3, (Option.none : Option FieldType), 0, 0), (yX0_setUp, cX0_setUp, 3, (Option.none : Option FieldType), 0, 0), (yX0_setUp, cX0_setUp, 3, (Option.none : Option FieldType), 0, 0), (yX0_setUp, cX0_setUp, 3, (Option.none : Option FieldType), 0, 0), (yX0_setUp, cX0_setUp, 3, (Option.none : Option FieldType), 0, 0), (yX0_setUp, cX0_setUp, 3, (Option.none : Option FieldType), 0, 0), (yX0_setUp, cX0_setUp, 3, (Option.none : Option FieldType), 0, 0), (yX0_setUp, cX0_setUp, 3, (Option.none : Option FieldType), 0, 0), (yX0_setUp, cX0_setUp, 3, (Option.none : Option FieldType), 0, 0), (yX0_setUp, cX0_setUp, 3, (Option.none : Option FieldType), 0, 0), (yX0_setUp, cX0_setUp, 3, (Option.none : Option FieldType), 0, 0), (yX0_setUp, cX0_setUp, 3, (Option.none : Option FieldType), 0, 0), (yX0_setUp, cX0_setUp, 3, (Option.none : Option FieldType), 0, 0), (yX0_setUp, cX0_setUp, 3, (Option.none : Option FieldType), 0, 0), (yX0_setUp, cX0_setUp, 3, (Option.none : Option FieldType), 0, 0), (yX0_setUp, cX0_setUp, 3, (Option.none : Option FieldType), 0, 0), (yX0_setUp, cX0_setUp, 3, (Option.none : Option FieldType), 0, 0), (yX0_setUp, cX0_setUp, 3, (Option.none : Option FieldType), 0, 0), (yX0_setUp, cX0_setUp, 3, (Option.none : Option FieldType), 0, 0), (yX0_setUp, cX0_setUp, 3, (Option.none : Option FieldType), 0, 0), (yX0_setUp, cX0_setUp, 3, (Option.none : Option FieldType), 0, 0), (yX0_setUp, cX0_setUp, 3, (Option.none : Option FieldType), 0, 0)]
def mtL_4 : List (MethodName × ByteArray × Nat × Option FieldType × Nat × Nat) := [(yX0_setUp, cX0_setUp, 3, (Option.none : Option FieldType), 0, 0), (yX0_setUp, cX0_setUp, 3, (Option.none : Option FieldType), 0, 0), (yX0_setUp, cX0_setUp, 3, (Option.none : Option FieldType), 0, 0), (yX0_setUp, cX0_setUp, 3, (Option.none : Option FieldType), 0, 0), (yX0_setUp, cX0_setUp, 3, (Option.none : Option FieldType), 0, 0), (yX0_setUp, cX0_setUp, 3, (Option.none : Option FieldType), 0, 0), (yX0_setUp, cX0_setUp, 3, (Option.none : Option FieldType), 0, 0), (yX0_setUp, cX0_setUp, 3, (Option.none : Option FieldType), 0, 0), (yX0_setUp, cX0_setUp, 3, (Option.none : Option FieldType), 0, 0), (yX0_setUp, cX0_setUp, 3, (Option.none : Option FieldType), 0, 0), (yX0_setUp, cX0_setUp, 3, (Option.none : Option FieldType), 0, 0), (yX0_setUp, cX0_setUp, 3, (Option.none : Option FieldType), 0, 0), (yX0_setUp, cX0_setUp, 3, (Option.none : Option FieldType), 0, 0), (yX0_setUp, cX0_setUp, 3, (Option.none : Option FieldType), 0, 0), (yX0_setUp, cX0_setUp, 3, (Option.none : Option FieldType), 0, 0), (yX0_setUp, cX0_setUp, 3, (Option.none : Option FieldType), 0, 0), (yX0_setUp, cX0_setUp, 3, (Option.none : Option FieldType), 0, 0), (yX0_setUp, cX0_setUp, 3, (Option.none : Option FieldType), 0, 0), (yX0_setUp, cX0_setUp, 3, (Option.none : Option FieldType), 0, 0), (yX0_setUp, cX0_setUp, 3, (Option.none : Option FieldType), 0, 0), (yX0_setUp, cX0_setUp, 3, (Option.none : Option FieldType), 0, 0), (yX0_setUp, cX0_setUp, 3, (Option.none : Option FieldType), 0, 0), (yL_cell, cL_cell, 2, (Option.some FieldType.int), 0, 0), (yL_up, cL_up, 2, (Option.some FieldType.int), 0, 0), (yL_fails, cL_fails, 5, (Option.some FieldType.boolean), 8, 189), (yL_agrees, cL_agrees, 13, (Option.some FieldType.boolean), 7, 167), (yL_written, cL_written, 9, (Option.some FieldType.boolean), 6, 139), (yL_clocks, cL_clocks, 2, (Option.some FieldType.boolean), 2, 45), (yL_moves, cL_moves, 15, (Option.some FieldType.boolean), 7, 172), (yL_asks, cL_asks, 13, (Option.some FieldType.boolean), 8, 170)]
def mtL : List (MethodName × ByteArray × Nat × Option FieldType × Nat × Nat) := mtL_0 ++ (mtL_1 ++ (mtL_2 ++ (mtL_3 ++ (mtL_4))))
def mpL_0 : List (Nat × Nat × Nat × Nat × Bool × Nat × Nat) := [(35, 34, 0, 9, false, 0, 0), (143, 141, 142, 9, false, 0, 0), (270, 268, 269, 9, false, 1, 0), (414, 412, 413, 9, false, 1, 0), (447, 445, 446, 9, false, 2, 0), (443, 441, 442, 9, false, 2, 0), (532, 530, 531, 9, false, 3, 0), (471, 469, 470, 9, false, 1, 0), (467, 465, 466, 9, false, 2, 0), (410, 408, 409, 9, false, 3, 0), (418, 416, 417, 9, false, 3, 0), (422, 420, 421, 9, false, 1, 0), (579, 577, 578, 9, false, 1, 0), (475, 473, 474, 9, false, 2, 0), (115, 114, 0, 12, false, 0, 1), (152, 150, 151, 12, false, 0, 1), (290, 288, 289, 12, false, 1, 1), (392, 390, 391, 12, false, 0, 1), (622, 620, 621, 12, false, 1, 1), (431, 429, 430, 12, false, 5, 1), (536, 534, 535, 12, false, 1, 1), (341, 339, 340, 12, false, 1, 1), (500, 498, 499, 12, false, 1, 1), (345, 344, 1, 12, false, 0, 1), (439, 438, 5, 12, false, 1, 1), (435, 434, 4, 12, false, 1, 1), (353, 352, 3, 12, false, 1, 1), (349, 348, 2, 12, false, 1, 1), (29, 28, 0, 8, false, 0, 2), (266, 264, 265, 8, false, 1, 2), (139, 137, 138, 8, false, 0, 2), (327, 325, 326, 8, false, 1, 2), (550, 548, 549, 8, false, 0, 2), (575, 573, 574, 8, false, 1, 2), (315, 313, 314, 8, false, 1, 2), (302, 300, 301, 8, false, 2, 2), (311, 309, 310, 8, false, 2, 2), (366, 364, 365, 8, false, 1, 2), (371, 369, 370, 8, false, 1, 2), (323, 321, 322, 8, false, 0, 2)]
def mpL_1 : List (Nat × Nat × Nat × Nat × Bool × Nat × Nat) := [(319, 317, 318, 8, false, 0, 2), (561, 559, 560, 8, false, 1, 2), (644, 642, 643, 8, false, 2, 2), (426, 424, 425, 8, false, 3, 2), (451, 449, 450, 8, false, 1, 2), (463, 461, 462, 8, false, 2, 2), (385, 383, 384, 8, false, 2, 2), (397, 395, 396, 8, false, 2, 2), (406, 404, 405, 8, false, 0, 2), (658, 656, 657, 8, false, 1, 2), (485, 483, 484, 8, false, 1, 2), (508, 506, 507, 8, false, 1, 2), (492, 490, 491, 8, false, 0, 2), (662, 660, 661, 8, false, 1, 2), (496, 494, 495, 8, false, 1, 2), (540, 538, 539, 8, false, 0, 2), (512, 510, 511, 8, false, 0, 2), (520, 518, 519, 8, false, 1, 2), (516, 514, 515, 8, false, 1, 2), (524, 522, 523, 8, false, 0, 2), (156, 154, 155, 8, false, 0, 2), (333, 332, 0, 8, true, 1, 2), (337, 335, 336, 8, false, 2, 2), (209, 208, 0, 14, false, 0, 3), (258, 256, 257, 14, false, 1, 3), (603, 601, 602, 14, false, 1, 3), (262, 261, 0, 14, false, 1, 3), (76, 75, 0, 11, false, 0, 4), (279, 277, 278, 11, false, 1, 4), (459, 457, 458, 11, false, 4, 4), (528, 526, 527, 11, false, 0, 4), (46, 45, 0, 10, false, 0, 5), (148, 146, 147, 10, false, 1, 5), (275, 273, 274, 10, false, 1, 5), (377, 375, 376, 10, false, 2, 5), (455, 453, 454, 10, false, 1, 5), (589, 587, 588, 10, false, 1, 5), (229, 228, 0, 15, false, 0, 6), (683, 681, 682, 15, false, 0, 6), (688, 686, 687, 15, false, 1, 6)]
def mpL_2 : List (Nat × Nat × Nat × Nat × Bool × Nat × Nat) := [(143, 141, 142, 9, false, 0, 0), (143, 141, 142, 9, false, 0, 0), (143, 141, 142, 9, false, 0, 0), (143, 141, 142, 9, false, 0, 0), (143, 141, 142, 9, false, 0, 0), (143, 141, 142, 9, false, 0, 0), (143, 141, 142, 9, false, 0, 0), (143, 141, 142, 9, false, 0, 0), (143, 141, 142, 9, false, 0, 0), (143, 141, 142, 9, false, 0, 0), (143, 141, 142, 9, false, 0, 0), (143, 141, 142, 9, false, 0, 0), (143, 141, 142, 9, false, 0, 0), (21, 20, 0, 7, false, 0, 7), (254, 252, 253, 7, false, 0, 7), (298, 296, 297, 7, false, 2, 7), (357, 355, 356, 7, false, 1, 7), (362, 360, 361, 7, false, 1, 7), (640, 638, 639, 7, false, 2, 7), (649, 647, 648, 7, false, 2, 7), (381, 379, 380, 7, false, 2, 7), (401, 399, 400, 7, false, 0, 7), (654, 652, 653, 7, false, 1, 7), (481, 479, 480, 7, false, 1, 7), (504, 502, 503, 7, false, 1, 7), (544, 542, 543, 7, false, 1, 7), (557, 555, 556, 7, false, 1, 7), (565, 563, 564, 7, false, 1, 7), (571, 569, 570, 7, false, 1, 7), (583, 581, 582, 7, false, 2, 7), (666, 664, 665, 7, false, 1, 7), (594, 592, 593, 7, false, 0, 7), (618, 616, 617, 7, false, 1, 7), (673, 671, 672, 7, false, 1, 7), (679, 677, 678, 7, false, 1, 7), (143, 141, 142, 9, false, 0, 0), (143, 141, 142, 9, false, 0, 0), (598, 596, 597, 7, false, 0, 7), (607, 605, 606, 7, false, 0, 7), (143, 141, 142, 9, false, 0, 0)]
def mpL_3 : List (Nat × Nat × Nat × Nat × Bool × Nat × Nat) := [(388, 387, 0, 7, true, 1, 7), (488, 487, 0, 7, true, 1, 7), (330, 329, 0, 7, true, 1, 7), (143, 141, 142, 9, false, 0, 0), (143, 141, 142, 9, false, 0, 0), (143, 141, 142, 9, false, 0, 0), (143, 141, 142, 9, false, 0, 0), (143, 141, 142, 9, false, 0, 0), (143, 141, 142, 9, false, 0, 0), (143, 141, 142, 9, false, 0, 0), (143, 141, 142, 9, false, 0, 0), (143, 141, 142, 9, false, 0, 0), (143, 141, 142, 9, false, 0, 0), (143, 141, 142, 9, false, 0, 0), (143, 141, 142, 9, false, 0, 0), (143, 141, 142, 9, false, 0, 0), (143, 141, 142, 9, false, 0, 0), (143, 141, 142, 9, false, 0, 0), (143, 141, 142, 9, false, 0, 0), (143, 141, 142, 9, false, 0, 0), (143, 141, 142, 9, false, 0, 0), (143, 141, 142, 9, false, 0, 0), (143, 141, 142, 9, false, 0, 0), (143, 141, 142, 9, false, 0, 0), (143, 141, 142, 9, false, 0, 0), (143, 141, 142, 9, false, 0, 0), (143, 141, 142, 9, false, 0, 0), (143, 141, 142, 9, false, 0, 0), (143, 141, 142, 9, false, 0, 0), (143, 141, 142, 9, false, 0, 0), (143, 141, 142, 9, false, 0, 0), (143, 141, 142, 9, false, 0, 0), (143, 141, 142, 9, false, 0, 0), (143, 141, 142, 9, false, 0, 0), (143, 141, 142, 9, false, 0, 0), (143, 141, 142, 9, false, 0, 0), (143, 141, 142, 9, false, 0, 0), (143, 141, 142, 9, false, 0, 0), (143, 141, 142, 9, false, 0, 0), (143, 141, 142, 9, false, 0, 0)]
def mpL_4 : List (Nat × Nat × Nat × Nat × Bool × Nat × Nat) := [(143, 141, 142, 9, false, 0, 0), (143, 141, 142, 9, false, 0, 0), (143, 141, 142, 9, false, 0, 0), (143, 141, 142, 9, false, 0, 0), (143, 141, 142, 9, false, 0, 0), (143, 141, 142, 9, false, 0, 0), (143, 141, 142, 9, false, 0, 0), (143, 141, 142, 9, false, 0, 0), (143, 141, 142, 9, false, 0, 0), (143, 141, 142, 9, false, 0, 0), (143, 141, 142, 9, false, 0, 0), (143, 141, 142, 9, false, 0, 0), (143, 141, 142, 9, false, 0, 0), (143, 141, 142, 9, false, 0, 0), (143, 141, 142, 9, false, 0, 0), (143, 141, 142, 9, false, 0, 0), (143, 141, 142, 9, false, 0, 0), (143, 141, 142, 9, false, 0, 0), (143, 141, 142, 9, false, 0, 0), (143, 141, 142, 9, false, 0, 0), (143, 141, 142, 9, false, 0, 0), (143, 141, 142, 9, false, 0, 0), (626, 625, 0, 6, true, 2, 7), (630, 629, 0, 6, true, 2, 7), (634, 633, 0, 6, true, 1, 7), (692, 691, 0, 6, true, 1, 7), (695, 694, 0, 6, true, 1, 7), (698, 697, 0, 6, true, 2, 7), (701, 700, 0, 6, true, 2, 7), (705, 704, 0, 6, true, 2, 7)]
def mpL : List (Nat × Nat × Nat × Nat × Bool × Nat × Nat) := mpL_0 ++ (mpL_1 ++ (mpL_2 ++ (mpL_3 ++ (mpL_4))))
def mt (a : Nat) : MethodName × ByteArray × Nat × Option FieldType × Nat × Nat := mtL.getD a (yX0_init, cX0_init, 0, none, 0, 0)
def mp (a : Nat) : Nat × Nat × Nat × Nat × Bool × Nat × Nat := mpL.getD a (0, 0, 0, 0, false, 0, 0)
def mY (a : Nat) : MethodName := (mt a).1
def mB (a : Nat) : ByteArray := (mt a).2.1
def mL (a : Nat) : Nat := (mt a).2.2.1
def mT (a : Nat) : Option FieldType := (mt a).2.2.2.1
def mR (a : Nat) : Room := { frames := (mt a).2.2.2.2.1, cells := 0, slots := 0, locals := (mt a).2.2.2.2.2 }
def mSt (a : Nat) : Bool := (mp a).2.2.2.2.1
def mNp (a : Nat) : Nat := (mp a).2.2.2.2.2.1
def mCl (a : Nat) : Nat := (mp a).2.2.2.2.2.2
def mInit (a : Nat) : Bool := (mY a).name == "<init>"
def okMb (a : Nat) : Bool :=
  decide (lw_tbl[(mp a).1]? = some (.code (mY a) (mB a) (mL a) (mT a))) && plainName (mY a).cls &&
  decide (lw_tbl[(mp a).2.2.2.1]? = some (.initialized (mY a).cls)) &&
  (if mSt a then decide (lw_tbl[(mp a).2.1]? = some (.static (mY a))) else decide (lw_tbl[(mp a).2.1]? = some (.instanceMethod (mY a))) && (mInit a || decide (lw_tbl[(mp a).2.2.1]? = some (.selects (mY a).cls (mY a) (mY a))))) &&
  decide ((mY a).cls ≠ "java/lang/invoke/MethodHandle") && decide ((mY a).cls ≠ "java/lang/invoke/VarHandle") &&
  decide ((parseMethodDescriptor (mY a).desc).map (fun d => d.parameters.length) = some (mNp a)) && decide (((parseMethodDescriptor (mY a).desc).map (fun d => d.returnType)) = some (mT a)) &&
  (mSt a || decide ((vwCl[mCl a]?).map (fun q => q.1) = some (mY a).cls))
def lw_g : List Cond := lw_tbl.filter goodWord
def mW (a : Nat) : List Cond := .code (mY a) (mB a) (mL a) (mT a) :: lw_g
def isNest (w : Cond) : Bool := match w with
  | .fieldLinkNest _ _ _ _ _ _ => true
  | .methodLinkNest _ _ _ _ => true
  | _ => false
theorem okA_0 : ∀ a, a < 0 → okMb a = true := lt_0
theorem okm_0 : okMb 0 = true := by decide +kernel
theorem okA_1 : ∀ a, a < 1 → okMb a = true := lt_s okA_0 okm_0
theorem okm_1 : okMb 1 = true := by decide +kernel
theorem okA_2 : ∀ a, a < 2 → okMb a = true := lt_s okA_1 okm_1
theorem okm_2 : okMb 2 = true := by decide +kernel
theorem okA_3 : ∀ a, a < 3 → okMb a = true := lt_s okA_2 okm_2
theorem okm_3 : okMb 3 = true := by decide +kernel
theorem okA_4 : ∀ a, a < 4 → okMb a = true := lt_s okA_3 okm_3
theorem okm_4 : okMb 4 = true := by decide +kernel
theorem okA_5 : ∀ a, a < 5 → okMb a = true := lt_s okA_4 okm_4
theorem okm_5 : okMb 5 = true := by decide +kernel
theorem okA_6 : ∀ a, a < 6 → okMb a = true := lt_s okA_5 okm_5
theorem okm_6 : okMb 6 = true := by decide +kernel
theorem okA_7 : ∀ a, a < 7 → okMb a = true := lt_s okA_6 okm_6
theorem okm_7 : okMb 7 = true := by decide +kernel
theorem okA_8 : ∀ a, a < 8 → okMb a = true := lt_s okA_7 okm_7
theorem okm_8 : okMb 8 = true := by decide +kernel
theorem okA_9 : ∀ a, a < 9 → okMb a = true := lt_s okA_8 okm_8
theorem okm_9 : okMb 9 = true := by decide +kernel
theorem okA_10 : ∀ a, a < 10 → okMb a = true := lt_s okA_9 okm_9
theorem okm_10 : okMb 10 = true := by decide +kernel
theorem okA_11 : ∀ a, a < 11 → okMb a = true := lt_s okA_10 okm_10
theorem okm_11 : okMb 11 = true := by decide +kernel
theorem okA_12 : ∀ a, a < 12 → okMb a = true := lt_s okA_11 okm_11
theorem okm_12 : okMb 12 = true := by decide +kernel
theorem okA_13 : ∀ a, a < 13 → okMb a = true := lt_s okA_12 okm_12
theorem okm_13 : okMb 13 = true := by decide +kernel
theorem okA_14 : ∀ a, a < 14 → okMb a = true := lt_s okA_13 okm_13
theorem okm_14 : okMb 14 = true := by decide +kernel
theorem okA_15 : ∀ a, a < 15 → okMb a = true := lt_s okA_14 okm_14
theorem okm_15 : okMb 15 = true := by decide +kernel
theorem okA_16 : ∀ a, a < 16 → okMb a = true := lt_s okA_15 okm_15
theorem okm_16 : okMb 16 = true := by decide +kernel
theorem okA_17 : ∀ a, a < 17 → okMb a = true := lt_s okA_16 okm_16
theorem okm_17 : okMb 17 = true := by decide +kernel
theorem okA_18 : ∀ a, a < 18 → okMb a = true := lt_s okA_17 okm_17
theorem okm_18 : okMb 18 = true := by decide +kernel
theorem okA_19 : ∀ a, a < 19 → okMb a = true := lt_s okA_18 okm_18
theorem okm_19 : okMb 19 = true := by decide +kernel
theorem okA_20 : ∀ a, a < 20 → okMb a = true := lt_s okA_19 okm_19
theorem okm_20 : okMb 20 = true := by decide +kernel
theorem okA_21 : ∀ a, a < 21 → okMb a = true := lt_s okA_20 okm_20
theorem okm_21 : okMb 21 = true := by decide +kernel
theorem okA_22 : ∀ a, a < 22 → okMb a = true := lt_s okA_21 okm_21
theorem okm_22 : okMb 22 = true := by decide +kernel
theorem okA_23 : ∀ a, a < 23 → okMb a = true := lt_s okA_22 okm_22
theorem okm_23 : okMb 23 = true := by decide +kernel
theorem okA_24 : ∀ a, a < 24 → okMb a = true := lt_s okA_23 okm_23
theorem okm_24 : okMb 24 = true := by decide +kernel
theorem okA_25 : ∀ a, a < 25 → okMb a = true := lt_s okA_24 okm_24
theorem okm_25 : okMb 25 = true := by decide +kernel
theorem okA_26 : ∀ a, a < 26 → okMb a = true := lt_s okA_25 okm_25
theorem okm_26 : okMb 26 = true := by decide +kernel
theorem okA_27 : ∀ a, a < 27 → okMb a = true := lt_s okA_26 okm_26
theorem okm_27 : okMb 27 = true := by decide +kernel
theorem okA_28 : ∀ a, a < 28 → okMb a = true := lt_s okA_27 okm_27
theorem okm_28 : okMb 28 = true := by decide +kernel
theorem okA_29 : ∀ a, a < 29 → okMb a = true := lt_s okA_28 okm_28
theorem okm_29 : okMb 29 = true := by decide +kernel
theorem okA_30 : ∀ a, a < 30 → okMb a = true := lt_s okA_29 okm_29
theorem okm_30 : okMb 30 = true := by decide +kernel
theorem okA_31 : ∀ a, a < 31 → okMb a = true := lt_s okA_30 okm_30
theorem okm_31 : okMb 31 = true := by decide +kernel
theorem okA_32 : ∀ a, a < 32 → okMb a = true := lt_s okA_31 okm_31
theorem okm_32 : okMb 32 = true := by decide +kernel
theorem okA_33 : ∀ a, a < 33 → okMb a = true := lt_s okA_32 okm_32
theorem okm_33 : okMb 33 = true := by decide +kernel
theorem okA_34 : ∀ a, a < 34 → okMb a = true := lt_s okA_33 okm_33
theorem okm_34 : okMb 34 = true := by decide +kernel
theorem okA_35 : ∀ a, a < 35 → okMb a = true := lt_s okA_34 okm_34
theorem okm_35 : okMb 35 = true := by decide +kernel
theorem okA_36 : ∀ a, a < 36 → okMb a = true := lt_s okA_35 okm_35
theorem okm_36 : okMb 36 = true := by decide +kernel
theorem okA_37 : ∀ a, a < 37 → okMb a = true := lt_s okA_36 okm_36
theorem okm_37 : okMb 37 = true := by decide +kernel
theorem okA_38 : ∀ a, a < 38 → okMb a = true := lt_s okA_37 okm_37
theorem okm_38 : okMb 38 = true := by decide +kernel
theorem okA_39 : ∀ a, a < 39 → okMb a = true := lt_s okA_38 okm_38
theorem okm_39 : okMb 39 = true := by decide +kernel
theorem okA_40 : ∀ a, a < 40 → okMb a = true := lt_s okA_39 okm_39
theorem okm_40 : okMb 40 = true := by decide +kernel
theorem okA_41 : ∀ a, a < 41 → okMb a = true := lt_s okA_40 okm_40
theorem okm_41 : okMb 41 = true := by decide +kernel
theorem okA_42 : ∀ a, a < 42 → okMb a = true := lt_s okA_41 okm_41
theorem okm_42 : okMb 42 = true := by decide +kernel
theorem okA_43 : ∀ a, a < 43 → okMb a = true := lt_s okA_42 okm_42
theorem okm_43 : okMb 43 = true := by decide +kernel
theorem okA_44 : ∀ a, a < 44 → okMb a = true := lt_s okA_43 okm_43
theorem okm_44 : okMb 44 = true := by decide +kernel
theorem okA_45 : ∀ a, a < 45 → okMb a = true := lt_s okA_44 okm_44
theorem okm_45 : okMb 45 = true := by decide +kernel
theorem okA_46 : ∀ a, a < 46 → okMb a = true := lt_s okA_45 okm_45
theorem okm_46 : okMb 46 = true := by decide +kernel
theorem okA_47 : ∀ a, a < 47 → okMb a = true := lt_s okA_46 okm_46
theorem okm_47 : okMb 47 = true := by decide +kernel
theorem okA_48 : ∀ a, a < 48 → okMb a = true := lt_s okA_47 okm_47
theorem okm_48 : okMb 48 = true := by decide +kernel
theorem okA_49 : ∀ a, a < 49 → okMb a = true := lt_s okA_48 okm_48
theorem okm_49 : okMb 49 = true := by decide +kernel
theorem okA_50 : ∀ a, a < 50 → okMb a = true := lt_s okA_49 okm_49
theorem okm_50 : okMb 50 = true := by decide +kernel
theorem okA_51 : ∀ a, a < 51 → okMb a = true := lt_s okA_50 okm_50
theorem okm_51 : okMb 51 = true := by decide +kernel
theorem okA_52 : ∀ a, a < 52 → okMb a = true := lt_s okA_51 okm_51
theorem okm_52 : okMb 52 = true := by decide +kernel
theorem okA_53 : ∀ a, a < 53 → okMb a = true := lt_s okA_52 okm_52
theorem okm_53 : okMb 53 = true := by decide +kernel
theorem okA_54 : ∀ a, a < 54 → okMb a = true := lt_s okA_53 okm_53
theorem okm_54 : okMb 54 = true := by decide +kernel
theorem okA_55 : ∀ a, a < 55 → okMb a = true := lt_s okA_54 okm_54
theorem okm_55 : okMb 55 = true := by decide +kernel
theorem okA_56 : ∀ a, a < 56 → okMb a = true := lt_s okA_55 okm_55
theorem okm_56 : okMb 56 = true := by decide +kernel
theorem okA_57 : ∀ a, a < 57 → okMb a = true := lt_s okA_56 okm_56
theorem okm_57 : okMb 57 = true := by decide +kernel
theorem okA_58 : ∀ a, a < 58 → okMb a = true := lt_s okA_57 okm_57
theorem okm_58 : okMb 58 = true := by decide +kernel
theorem okA_59 : ∀ a, a < 59 → okMb a = true := lt_s okA_58 okm_58
theorem okm_59 : okMb 59 = true := by decide +kernel
theorem okA_60 : ∀ a, a < 60 → okMb a = true := lt_s okA_59 okm_59
theorem okm_60 : okMb 60 = true := by decide +kernel
theorem okA_61 : ∀ a, a < 61 → okMb a = true := lt_s okA_60 okm_60
theorem okm_61 : okMb 61 = true := by decide +kernel
theorem okA_62 : ∀ a, a < 62 → okMb a = true := lt_s okA_61 okm_61
theorem okm_62 : okMb 62 = true := by decide +kernel
theorem okA_63 : ∀ a, a < 63 → okMb a = true := lt_s okA_62 okm_62
theorem okm_63 : okMb 63 = true := by decide +kernel
theorem okA_64 : ∀ a, a < 64 → okMb a = true := lt_s okA_63 okm_63
theorem okm_64 : okMb 64 = true := by decide +kernel
theorem okA_65 : ∀ a, a < 65 → okMb a = true := lt_s okA_64 okm_64
theorem okm_65 : okMb 65 = true := by decide +kernel
theorem okA_66 : ∀ a, a < 66 → okMb a = true := lt_s okA_65 okm_65
theorem okm_66 : okMb 66 = true := by decide +kernel
theorem okA_67 : ∀ a, a < 67 → okMb a = true := lt_s okA_66 okm_66
theorem okm_67 : okMb 67 = true := by decide +kernel
theorem okA_68 : ∀ a, a < 68 → okMb a = true := lt_s okA_67 okm_67
theorem okm_68 : okMb 68 = true := by decide +kernel
theorem okA_69 : ∀ a, a < 69 → okMb a = true := lt_s okA_68 okm_68
theorem okm_69 : okMb 69 = true := by decide +kernel
theorem okA_70 : ∀ a, a < 70 → okMb a = true := lt_s okA_69 okm_69
theorem okm_70 : okMb 70 = true := by decide +kernel
theorem okA_71 : ∀ a, a < 71 → okMb a = true := lt_s okA_70 okm_70
theorem okm_71 : okMb 71 = true := by decide +kernel
theorem okA_72 : ∀ a, a < 72 → okMb a = true := lt_s okA_71 okm_71
theorem okm_72 : okMb 72 = true := by decide +kernel
theorem okA_73 : ∀ a, a < 73 → okMb a = true := lt_s okA_72 okm_72
theorem okm_73 : okMb 73 = true := by decide +kernel
theorem okA_74 : ∀ a, a < 74 → okMb a = true := lt_s okA_73 okm_73
theorem okm_74 : okMb 74 = true := by decide +kernel
theorem okA_75 : ∀ a, a < 75 → okMb a = true := lt_s okA_74 okm_74
theorem okm_75 : okMb 75 = true := by decide +kernel
theorem okA_76 : ∀ a, a < 76 → okMb a = true := lt_s okA_75 okm_75
theorem okm_76 : okMb 76 = true := by decide +kernel
theorem okA_77 : ∀ a, a < 77 → okMb a = true := lt_s okA_76 okm_76
theorem okm_77 : okMb 77 = true := by decide +kernel
theorem okA_78 : ∀ a, a < 78 → okMb a = true := lt_s okA_77 okm_77
theorem okm_78 : okMb 78 = true := by decide +kernel
theorem okA_79 : ∀ a, a < 79 → okMb a = true := lt_s okA_78 okm_78
theorem okm_79 : okMb 79 = true := by decide +kernel
theorem okA_80 : ∀ a, a < 80 → okMb a = true := lt_s okA_79 okm_79
theorem okm_80 : okMb 80 = true := by decide +kernel
theorem okA_81 : ∀ a, a < 81 → okMb a = true := lt_s okA_80 okm_80
theorem okm_81 : okMb 81 = true := by decide +kernel
theorem okA_82 : ∀ a, a < 82 → okMb a = true := lt_s okA_81 okm_81
theorem okm_82 : okMb 82 = true := by decide +kernel
theorem okA_83 : ∀ a, a < 83 → okMb a = true := lt_s okA_82 okm_82
theorem okm_83 : okMb 83 = true := by decide +kernel
theorem okA_84 : ∀ a, a < 84 → okMb a = true := lt_s okA_83 okm_83
theorem okm_84 : okMb 84 = true := by decide +kernel
theorem okA_85 : ∀ a, a < 85 → okMb a = true := lt_s okA_84 okm_84
theorem okm_85 : okMb 85 = true := by decide +kernel
theorem okA_86 : ∀ a, a < 86 → okMb a = true := lt_s okA_85 okm_85
theorem okm_86 : okMb 86 = true := by decide +kernel
theorem okA_87 : ∀ a, a < 87 → okMb a = true := lt_s okA_86 okm_86
theorem okm_87 : okMb 87 = true := by decide +kernel
theorem okA_88 : ∀ a, a < 88 → okMb a = true := lt_s okA_87 okm_87
theorem okm_88 : okMb 88 = true := by decide +kernel
theorem okA_89 : ∀ a, a < 89 → okMb a = true := lt_s okA_88 okm_88
theorem okm_89 : okMb 89 = true := by decide +kernel
theorem okA_90 : ∀ a, a < 90 → okMb a = true := lt_s okA_89 okm_89
theorem okm_90 : okMb 90 = true := by decide +kernel
theorem okA_91 : ∀ a, a < 91 → okMb a = true := lt_s okA_90 okm_90
theorem okm_91 : okMb 91 = true := by decide +kernel
theorem okA_92 : ∀ a, a < 92 → okMb a = true := lt_s okA_91 okm_91
theorem okm_92 : okMb 92 = true := by decide +kernel
theorem okA_93 : ∀ a, a < 93 → okMb a = true := lt_s okA_92 okm_92
theorem okm_93 : okMb 93 = true := by decide +kernel
theorem okA_94 : ∀ a, a < 94 → okMb a = true := lt_s okA_93 okm_93
theorem okm_94 : okMb 94 = true := by decide +kernel
theorem okA_95 : ∀ a, a < 95 → okMb a = true := lt_s okA_94 okm_94
theorem okm_95 : okMb 95 = true := by decide +kernel
theorem okA_96 : ∀ a, a < 96 → okMb a = true := lt_s okA_95 okm_95
theorem okm_96 : okMb 96 = true := by decide +kernel
theorem okA_97 : ∀ a, a < 97 → okMb a = true := lt_s okA_96 okm_96
theorem okm_97 : okMb 97 = true := by decide +kernel
theorem okA_98 : ∀ a, a < 98 → okMb a = true := lt_s okA_97 okm_97
theorem okm_98 : okMb 98 = true := by decide +kernel
theorem okA_99 : ∀ a, a < 99 → okMb a = true := lt_s okA_98 okm_98
theorem okm_99 : okMb 99 = true := by decide +kernel
theorem okA_100 : ∀ a, a < 100 → okMb a = true := lt_s okA_99 okm_99
theorem okm_100 : okMb 100 = true := by decide +kernel
theorem okA_101 : ∀ a, a < 101 → okMb a = true := lt_s okA_100 okm_100
theorem okm_101 : okMb 101 = true := by decide +kernel
theorem okA_102 : ∀ a, a < 102 → okMb a = true := lt_s okA_101 okm_101
theorem okm_102 : okMb 102 = true := by decide +kernel
theorem okA_103 : ∀ a, a < 103 → okMb a = true := lt_s okA_102 okm_102
theorem okm_103 : okMb 103 = true := by decide +kernel
theorem okA_104 : ∀ a, a < 104 → okMb a = true := lt_s okA_103 okm_103
theorem okm_104 : okMb 104 = true := by decide +kernel
theorem okA_105 : ∀ a, a < 105 → okMb a = true := lt_s okA_104 okm_104
theorem okm_105 : okMb 105 = true := by decide +kernel
theorem okA_106 : ∀ a, a < 106 → okMb a = true := lt_s okA_105 okm_105
theorem okm_106 : okMb 106 = true := by decide +kernel
theorem okA_107 : ∀ a, a < 107 → okMb a = true := lt_s okA_106 okm_106
theorem okm_107 : okMb 107 = true := by decide +kernel
theorem okA_108 : ∀ a, a < 108 → okMb a = true := lt_s okA_107 okm_107
theorem okm_108 : okMb 108 = true := by decide +kernel
theorem okA_109 : ∀ a, a < 109 → okMb a = true := lt_s okA_108 okm_108
theorem okm_109 : okMb 109 = true := by decide +kernel
theorem okA_110 : ∀ a, a < 110 → okMb a = true := lt_s okA_109 okm_109
theorem okm_110 : okMb 110 = true := by decide +kernel
theorem okA_111 : ∀ a, a < 111 → okMb a = true := lt_s okA_110 okm_110
theorem okm_111 : okMb 111 = true := by decide +kernel
theorem okA_112 : ∀ a, a < 112 → okMb a = true := lt_s okA_111 okm_111
theorem okm_112 : okMb 112 = true := by decide +kernel
theorem okA_113 : ∀ a, a < 113 → okMb a = true := lt_s okA_112 okm_112
theorem okm_113 : okMb 113 = true := by decide +kernel
theorem okA_114 : ∀ a, a < 114 → okMb a = true := lt_s okA_113 okm_113
theorem okm_114 : okMb 114 = true := by decide +kernel
theorem okA_115 : ∀ a, a < 115 → okMb a = true := lt_s okA_114 okm_114
theorem okm_115 : okMb 115 = true := by decide +kernel
theorem okA_116 : ∀ a, a < 116 → okMb a = true := lt_s okA_115 okm_115
theorem okm_116 : okMb 116 = true := by decide +kernel
theorem okA_117 : ∀ a, a < 117 → okMb a = true := lt_s okA_116 okm_116
theorem okm_117 : okMb 117 = true := by decide +kernel
theorem okA_118 : ∀ a, a < 118 → okMb a = true := lt_s okA_117 okm_117
theorem okm_118 : okMb 118 = true := by decide +kernel
theorem okA_119 : ∀ a, a < 119 → okMb a = true := lt_s okA_118 okm_118
theorem okm_119 : okMb 119 = true := by decide +kernel
theorem okA_120 : ∀ a, a < 120 → okMb a = true := lt_s okA_119 okm_119
theorem okm_120 : okMb 120 = true := by decide +kernel
theorem okA_121 : ∀ a, a < 121 → okMb a = true := lt_s okA_120 okm_120
theorem okm_121 : okMb 121 = true := by decide +kernel
theorem okA_122 : ∀ a, a < 122 → okMb a = true := lt_s okA_121 okm_121
theorem okm_122 : okMb 122 = true := by decide +kernel
theorem okA_123 : ∀ a, a < 123 → okMb a = true := lt_s okA_122 okm_122
theorem okm_123 : okMb 123 = true := by decide +kernel
theorem okA_124 : ∀ a, a < 124 → okMb a = true := lt_s okA_123 okm_123
theorem okm_124 : okMb 124 = true := by decide +kernel
theorem okA_125 : ∀ a, a < 125 → okMb a = true := lt_s okA_124 okm_124
theorem okm_125 : okMb 125 = true := by decide +kernel
theorem okA_126 : ∀ a, a < 126 → okMb a = true := lt_s okA_125 okm_125
theorem okm_126 : okMb 126 = true := by decide +kernel
theorem okA_127 : ∀ a, a < 127 → okMb a = true := lt_s okA_126 okm_126
theorem okm_127 : okMb 127 = true := by decide +kernel
theorem okA_128 : ∀ a, a < 128 → okMb a = true := lt_s okA_127 okm_127
theorem okm_128 : okMb 128 = true := by decide +kernel
theorem okA_129 : ∀ a, a < 129 → okMb a = true := lt_s okA_128 okm_128
theorem okm_129 : okMb 129 = true := by decide +kernel
theorem okA_130 : ∀ a, a < 130 → okMb a = true := lt_s okA_129 okm_129
theorem okm_130 : okMb 130 = true := by decide +kernel
theorem okA_131 : ∀ a, a < 131 → okMb a = true := lt_s okA_130 okm_130
theorem okm_131 : okMb 131 = true := by decide +kernel
theorem okA_132 : ∀ a, a < 132 → okMb a = true := lt_s okA_131 okm_131
theorem okm_132 : okMb 132 = true := by decide +kernel
theorem okA_133 : ∀ a, a < 133 → okMb a = true := lt_s okA_132 okm_132
theorem okm_133 : okMb 133 = true := by decide +kernel
theorem okA_134 : ∀ a, a < 134 → okMb a = true := lt_s okA_133 okm_133
theorem okm_134 : okMb 134 = true := by decide +kernel
theorem okA_135 : ∀ a, a < 135 → okMb a = true := lt_s okA_134 okm_134
theorem okm_135 : okMb 135 = true := by decide +kernel
theorem okA_136 : ∀ a, a < 136 → okMb a = true := lt_s okA_135 okm_135
theorem okm_136 : okMb 136 = true := by decide +kernel
theorem okA_137 : ∀ a, a < 137 → okMb a = true := lt_s okA_136 okm_136
theorem okm_137 : okMb 137 = true := by decide +kernel
theorem okA_138 : ∀ a, a < 138 → okMb a = true := lt_s okA_137 okm_137
theorem okm_138 : okMb 138 = true := by decide +kernel
theorem okA_139 : ∀ a, a < 139 → okMb a = true := lt_s okA_138 okm_138
theorem okm_139 : okMb 139 = true := by decide +kernel
theorem okA_140 : ∀ a, a < 140 → okMb a = true := lt_s okA_139 okm_139
theorem okm_140 : okMb 140 = true := by decide +kernel
theorem okA_141 : ∀ a, a < 141 → okMb a = true := lt_s okA_140 okm_140
theorem okm_141 : okMb 141 = true := by decide +kernel
theorem okA_142 : ∀ a, a < 142 → okMb a = true := lt_s okA_141 okm_141
theorem okm_142 : okMb 142 = true := by decide +kernel
theorem okA_143 : ∀ a, a < 143 → okMb a = true := lt_s okA_142 okm_142
theorem okm_143 : okMb 143 = true := by decide +kernel
theorem okA_144 : ∀ a, a < 144 → okMb a = true := lt_s okA_143 okm_143
theorem okm_144 : okMb 144 = true := by decide +kernel
theorem okA_145 : ∀ a, a < 145 → okMb a = true := lt_s okA_144 okm_144
theorem okm_145 : okMb 145 = true := by decide +kernel
theorem okA_146 : ∀ a, a < 146 → okMb a = true := lt_s okA_145 okm_145
theorem okm_146 : okMb 146 = true := by decide +kernel
theorem okA_147 : ∀ a, a < 147 → okMb a = true := lt_s okA_146 okm_146
theorem okm_147 : okMb 147 = true := by decide +kernel
theorem okA_148 : ∀ a, a < 148 → okMb a = true := lt_s okA_147 okm_147
theorem okm_148 : okMb 148 = true := by decide +kernel
theorem okA_149 : ∀ a, a < 149 → okMb a = true := lt_s okA_148 okm_148
theorem okm_149 : okMb 149 = true := by decide +kernel
theorem okA_150 : ∀ a, a < 150 → okMb a = true := lt_s okA_149 okm_149
theorem okm_150 : okMb 150 = true := by decide +kernel
theorem okA_151 : ∀ a, a < 151 → okMb a = true := lt_s okA_150 okm_150
theorem okm_151 : okMb 151 = true := by decide +kernel
theorem okA_152 : ∀ a, a < 152 → okMb a = true := lt_s okA_151 okm_151
theorem okm_152 : okMb 152 = true := by decide +kernel
theorem okA_153 : ∀ a, a < 153 → okMb a = true := lt_s okA_152 okm_152
theorem okm_153 : okMb 153 = true := by decide +kernel
theorem okA_154 : ∀ a, a < 154 → okMb a = true := lt_s okA_153 okm_153
theorem okm_154 : okMb 154 = true := by decide +kernel
theorem okA_155 : ∀ a, a < 155 → okMb a = true := lt_s okA_154 okm_154
theorem okm_155 : okMb 155 = true := by decide +kernel
theorem okA_156 : ∀ a, a < 156 → okMb a = true := lt_s okA_155 okm_155
theorem okm_156 : okMb 156 = true := by decide +kernel
theorem okA_157 : ∀ a, a < 157 → okMb a = true := lt_s okA_156 okm_156
theorem okm_157 : okMb 157 = true := by decide +kernel
theorem okA_158 : ∀ a, a < 158 → okMb a = true := lt_s okA_157 okm_157
theorem okm_158 : okMb 158 = true := by decide +kernel
theorem okA_159 : ∀ a, a < 159 → okMb a = true := lt_s okA_158 okm_158
theorem okm_159 : okMb 159 = true := by decide +kernel
theorem okA_160 : ∀ a, a < 160 → okMb a = true := lt_s okA_159 okm_159
theorem okm_160 : okMb 160 = true := by decide +kernel
theorem okA_161 : ∀ a, a < 161 → okMb a = true := lt_s okA_160 okm_160
theorem okm_161 : okMb 161 = true := by decide +kernel
theorem okA_162 : ∀ a, a < 162 → okMb a = true := lt_s okA_161 okm_161
theorem okm_162 : okMb 162 = true := by decide +kernel
theorem okA_163 : ∀ a, a < 163 → okMb a = true := lt_s okA_162 okm_162
theorem okm_163 : okMb 163 = true := by decide +kernel
theorem okA_164 : ∀ a, a < 164 → okMb a = true := lt_s okA_163 okm_163
theorem okm_164 : okMb 164 = true := by decide +kernel
theorem okA_165 : ∀ a, a < 165 → okMb a = true := lt_s okA_164 okm_164
theorem okm_165 : okMb 165 = true := by decide +kernel
theorem okA_166 : ∀ a, a < 166 → okMb a = true := lt_s okA_165 okm_165
theorem okm_166 : okMb 166 = true := by decide +kernel
theorem okA_167 : ∀ a, a < 167 → okMb a = true := lt_s okA_166 okm_166
theorem okm_167 : okMb 167 = true := by decide +kernel
theorem okA_168 : ∀ a, a < 168 → okMb a = true := lt_s okA_167 okm_167
theorem okm_168 : okMb 168 = true := by decide +kernel
theorem okA_169 : ∀ a, a < 169 → okMb a = true := lt_s okA_168 okm_168
theorem okm_169 : okMb 169 = true := by decide +kernel
theorem okA_170 : ∀ a, a < 170 → okMb a = true := lt_s okA_169 okm_169
theorem okm_170 : okMb 170 = true := by decide +kernel
theorem okA_171 : ∀ a, a < 171 → okMb a = true := lt_s okA_170 okm_170
theorem okm_171 : okMb 171 = true := by decide +kernel
theorem okA_172 : ∀ a, a < 172 → okMb a = true := lt_s okA_171 okm_171
theorem okm_172 : okMb 172 = true := by decide +kernel
theorem okA_173 : ∀ a, a < 173 → okMb a = true := lt_s okA_172 okm_172
theorem okm_173 : okMb 173 = true := by decide +kernel
theorem okA_174 : ∀ a, a < 174 → okMb a = true := lt_s okA_173 okm_173
theorem okm_174 : okMb 174 = true := by decide +kernel
theorem okA_175 : ∀ a, a < 175 → okMb a = true := lt_s okA_174 okm_174
theorem okm_175 : okMb 175 = true := by decide +kernel
theorem okA_176 : ∀ a, a < 176 → okMb a = true := lt_s okA_175 okm_175
theorem okm_176 : okMb 176 = true := by decide +kernel
theorem okA_177 : ∀ a, a < 177 → okMb a = true := lt_s okA_176 okm_176
theorem okm_177 : okMb 177 = true := by decide +kernel
theorem okA_178 : ∀ a, a < 178 → okMb a = true := lt_s okA_177 okm_177
theorem okm_178 : okMb 178 = true := by decide +kernel
theorem okA_179 : ∀ a, a < 179 → okMb a = true := lt_s okA_178 okm_178
theorem okm_179 : okMb 179 = true := by decide +kernel
theorem okA_180 : ∀ a, a < 180 → okMb a = true := lt_s okA_179 okm_179
theorem okm_180 : okMb 180 = true := by decide +kernel
theorem okA_181 : ∀ a, a < 181 → okMb a = true := lt_s okA_180 okm_180
theorem okm_181 : okMb 181 = true := by decide +kernel
theorem okA_182 : ∀ a, a < 182 → okMb a = true := lt_s okA_181 okm_181
theorem okm_182 : okMb 182 = true := by decide +kernel
theorem okA_183 : ∀ a, a < 183 → okMb a = true := lt_s okA_182 okm_182
theorem okm_183 : okMb 183 = true := by decide +kernel
theorem okA_184 : ∀ a, a < 184 → okMb a = true := lt_s okA_183 okm_183
theorem okm_184 : okMb 184 = true := by decide +kernel
theorem okA_185 : ∀ a, a < 185 → okMb a = true := lt_s okA_184 okm_184
theorem okm_185 : okMb 185 = true := by decide +kernel
theorem okA_186 : ∀ a, a < 186 → okMb a = true := lt_s okA_185 okm_185
theorem okm_186 : okMb 186 = true := by decide +kernel
theorem okA_187 : ∀ a, a < 187 → okMb a = true := lt_s okA_186 okm_186
theorem okm_187 : okMb 187 = true := by decide +kernel
theorem okA_188 : ∀ a, a < 188 → okMb a = true := lt_s okA_187 okm_187
theorem okm_188 : okMb 188 = true := by decide +kernel
theorem okA_189 : ∀ a, a < 189 → okMb a = true := lt_s okA_188 okm_188
theorem okm_189 : okMb 189 = true := by decide +kernel
theorem okA_190 : ∀ a, a < 190 → okMb a = true := lt_s okA_189 okm_189
