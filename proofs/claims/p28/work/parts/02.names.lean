/-! Names, fields and the table of the methods (laid by wip/p28/tools/gen02.py) -/
def RX0 : String := "ClockedGame$Board"
def TX0 : u_T := fun k => match k with
  | _ => ("ClockedGame$Board", "owners", "[I", true)
def tyX0 : Nat → FieldType := fun k => match k with
  | _ => .array .int
theorem nmX0 : ∀ a, a < 1 → ∀ b, b < 1 → a ≠ b → (TX0 a).2.1 ≠ (TX0 b).2.1 := by decide +kernel
theorem tyX0_ok : ∀ k, k < 1 → parseFieldDescriptor (TX0 k).2.2.1 = some (tyX0 k) := by decide +kernel
abbrev cX0_init : ByteArray := prog_2_method_1_code
def yX0_init : MethodName := ⟨RX0, "<init>", "()V"⟩
abbrev cX0_setUp : ByteArray := prog_2_method_2_code
def yX0_setUp : MethodName := ⟨RX0, "setUp", "()V"⟩
abbrev cX0_copyFrom : ByteArray := prog_2_method_3_code
def yX0_copyFrom : MethodName := ⟨RX0, "copyFrom", "(LClockedGame$Board;)V"⟩
abbrev cX0_ownerOf : ByteArray := prog_2_method_4_code
def yX0_ownerOf : MethodName := ⟨RX0, "ownerOf", "(I)I"⟩
abbrev cX0_put : ByteArray := prog_2_method_5_code
def yX0_put : MethodName := ⟨RX0, "put", "(II)V"⟩
abbrev cX0_carry : ByteArray := prog_2_method_6_code
def yX0_carry : MethodName := ⟨RX0, "carry", "(II)V"⟩
abbrev cX0_carryBack : ByteArray := prog_2_method_7_code
def yX0_carryBack : MethodName := ⟨RX0, "carryBack", "(III)V"⟩
abbrev cX0_piecesOf : ByteArray := prog_2_method_8_code
def yX0_piecesOf : MethodName := ⟨RX0, "piecesOf", "(I)I"⟩
abbrev cX0_isLastRow : ByteArray := prog_2_method_9_code
def yX0_isLastRow : MethodName := ⟨RX0, "isLastRow", "(II)Z"⟩
abbrev cX0_hindrance : ByteArray := prog_2_method_10_code
def yX0_hindrance : MethodName := ⟨RX0, "hindrance", "(III)I"⟩
abbrev cX0_isAhead : ByteArray := prog_2_method_11_code
def yX0_isAhead : MethodName := ⟨RX0, "isAhead", "(III)Z"⟩
abbrev cX0_forward : ByteArray := prog_2_method_12_code
def yX0_forward : MethodName := ⟨RX0, "forward", "(I)I"⟩
abbrev cX0_countPossible : ByteArray := prog_2_method_13_code
def yX0_countPossible : MethodName := ⟨RX0, "countPossible", "(I)I"⟩
abbrev cX0_possibleMove : ByteArray := prog_2_method_14_code
def yX0_possibleMove : MethodName := ⟨RX0, "possibleMove", "(II)I"⟩
def RX1 : String := "ClockedGame$Entries"
def TX1 : u_T := fun k => match k with
  | 0 => ("ClockedGame$Entries", "signs", "[C", true)
  | 1 => ("ClockedGame$Entries", "length", "I", false)
  | _ => ("ClockedGame$Entries", "count", "I", false)
def tyX1 : Nat → FieldType := fun k => match k with
  | 0 => .array .char
  | 1 => .int
  | _ => .int
theorem nmX1 : ∀ a, a < 3 → ∀ b, b < 3 → a ≠ b → (TX1 a).2.1 ≠ (TX1 b).2.1 := by decide +kernel
theorem tyX1_ok : ∀ k, k < 3 → parseFieldDescriptor (TX1 k).2.2.1 = some (tyX1 k) := by decide +kernel
abbrev cX1_init : ByteArray := prog_3_method_1_code
def yX1_init : MethodName := ⟨RX1, "<init>", "()V"⟩
abbrev cX1_start : ByteArray := prog_3_method_2_code
def yX1_start : MethodName := ⟨RX1, "start", "()V"⟩
abbrev cX1_copyFrom : ByteArray := prog_3_method_3_code
def yX1_copyFrom : MethodName := ⟨RX1, "copyFrom", "(LClockedGame$Entries;)V"⟩
abbrev cX1_isFull : ByteArray := prog_3_method_4_code
def yX1_isFull : MethodName := ⟨RX1, "isFull", "()Z"⟩
abbrev cX1_signAt : ByteArray := prog_3_method_5_code
def yX1_signAt : MethodName := ⟨RX1, "signAt", "(I)I"⟩
abbrev cX1_writeMove : ByteArray := prog_3_method_6_code
def yX1_writeMove : MethodName := ⟨RX1, "writeMove", "(ZIIIZ)V"⟩
abbrev cX1_writeTakenBack : ByteArray := prog_3_method_7_code
def yX1_writeTakenBack : MethodName := ⟨RX1, "writeTakenBack", "(I)V"⟩
abbrev cX1_writeEnd : ByteArray := prog_3_method_8_code
def yX1_writeEnd : MethodName := ⟨RX1, "writeEnd", "(I)V"⟩
abbrev cX1_writeSign : ByteArray := prog_3_method_9_code
def yX1_writeSign : MethodName := ⟨RX1, "writeSign", "(C)V"⟩
abbrev cX1_beginEntry : ByteArray := prog_3_method_10_code
def yX1_beginEntry : MethodName := ⟨RX1, "beginEntry", "()V"⟩
abbrev cX1_putCell : ByteArray := prog_3_method_11_code
def yX1_putCell : MethodName := ⟨RX1, "putCell", "(I)V"⟩
abbrev cX1_putNumber : ByteArray := prog_3_method_12_code
def yX1_putNumber : MethodName := ⟨RX1, "putNumber", "(I)V"⟩
abbrev cX1_putDigit : ByteArray := prog_3_method_13_code
def yX1_putDigit : MethodName := ⟨RX1, "putDigit", "(I)V"⟩
abbrev cX1_put : ByteArray := prog_3_method_14_code
def yX1_put : MethodName := ⟨RX1, "put", "(C)V"⟩
def RX2 : String := "ClockedGame$Game"
def TX2 : u_T := fun k => match k with
  | 0 => ("ClockedGame$Game", "settings", "[I", true)
  | 1 => ("ClockedGame$Game", "board", "LClockedGame$Board;", true)
  | 2 => ("ClockedGame$Game", "first", "LClockedGame$Side;", true)
  | 3 => ("ClockedGame$Game", "second", "LClockedGame$Side;", true)
  | 4 => ("ClockedGame$Game", "made", "LClockedGame$Made;", true)
  | 5 => ("ClockedGame$Game", "entries", "LClockedGame$Entries;", true)
  | 6 => ("ClockedGame$Game", "state", "I", false)
  | 7 => ("ClockedGame$Game", "reason", "I", false)
  | 8 => ("ClockedGame$Game", "turn", "I", false)
  | 9 => ("ClockedGame$Game", "turnTicks", "I", false)
  | 10 => ("ClockedGame$Game", "question", "I", false)
  | 11 => ("ClockedGame$Game", "asker", "I", false)
  | 12 => ("ClockedGame$Game", "sealedFrom", "I", false)
  | _ => ("ClockedGame$Game", "sealedTo", "I", false)
def tyX2 : Nat → FieldType := fun k => match k with
  | 0 => .array .int
  | 1 => .object "ClockedGame$Board"
  | 2 => .object "ClockedGame$Side"
  | 3 => .object "ClockedGame$Side"
  | 4 => .object "ClockedGame$Made"
  | 5 => .object "ClockedGame$Entries"
  | 6 => .int
  | 7 => .int
  | 8 => .int
  | 9 => .int
  | 10 => .int
  | 11 => .int
  | 12 => .int
  | _ => .int
theorem nmX2 : ∀ a, a < 14 → ∀ b, b < 14 → a ≠ b → (TX2 a).2.1 ≠ (TX2 b).2.1 := by decide +kernel
theorem tyX2_ok : ∀ k, k < 14 → parseFieldDescriptor (TX2 k).2.2.1 = some (tyX2 k) := by decide +kernel
abbrev cX2_init : ByteArray := prog_4_method_1_code
def yX2_init : MethodName := ⟨RX2, "<init>", "()V"⟩
abbrev cX2_copyFrom : ByteArray := prog_4_method_2_code
def yX2_copyFrom : MethodName := ⟨RX2, "copyFrom", "(LClockedGame$Game;)V"⟩
abbrev cX2_start : ByteArray := prog_4_method_3_code
def yX2_start : MethodName := ⟨RX2, "start", "()V"⟩
abbrev cX2_side : ByteArray := prog_4_method_4_code
def yX2_side : MethodName := ⟨RX2, "side", "(I)LClockedGame$Side;"⟩
abbrev cX2_isOver : ByteArray := prog_4_method_5_code
def yX2_isOver : MethodName := ⟨RX2, "isOver", "()Z"⟩
abbrev cX2_numberOf : ByteArray := prog_4_method_6_code
def yX2_numberOf : MethodName := ⟨RX2, "numberOf", "(I)I"⟩
abbrev cX2_valueOf : ByteArray := prog_4_method_7_code
def yX2_valueOf : MethodName := ⟨RX2, "valueOf", "(I)I"⟩
abbrev cX2_faultOfChange : ByteArray := prog_4_method_8_code
def yX2_faultOfChange : MethodName := ⟨RX2, "faultOfChange", "(II)I"⟩
abbrev cX2_change : ByteArray := prog_4_method_9_code
def yX2_change : MethodName := ⟨RX2, "change", "(II)I"⟩
abbrev cX2_faultOfTicks : ByteArray := prog_4_method_10_code
def yX2_faultOfTicks : MethodName := ⟨RX2, "faultOfTicks", "(I)I"⟩
abbrev cX2_letGoBy : ByteArray := prog_4_method_11_code
def yX2_letGoBy : MethodName := ⟨RX2, "letGoBy", "(I)I"⟩
abbrev cX2_flagsFall : ByteArray := prog_4_method_12_code
def yX2_flagsFall : MethodName := ⟨RX2, "flagsFall", "()Z"⟩
abbrev cX2_lookAtFlags : ByteArray := prog_4_method_13_code
def yX2_lookAtFlags : MethodName := ⟨RX2, "lookAtFlags", "()V"⟩
abbrev cX2_faultOfClaim : ByteArray := prog_4_method_14_code
def yX2_faultOfClaim : MethodName := ⟨RX2, "faultOfClaim", "(I)I"⟩
abbrev cX2_faultOfMove : ByteArray := prog_4_method_15_code
def yX2_faultOfMove : MethodName := ⟨RX2, "faultOfMove", "(II)I"⟩
abbrev cX2_makeMove : ByteArray := prog_4_method_16_code
def yX2_makeMove : MethodName := ⟨RX2, "makeMove", "(IIZ)Z"⟩
abbrev cX2_additionFor : ByteArray := prog_4_method_17_code
def yX2_additionFor : MethodName := ⟨RX2, "additionFor", "(I)I"⟩
abbrev cX2_endByMove : ByteArray := prog_4_method_18_code
def yX2_endByMove : MethodName := ⟨RX2, "endByMove", "(II)V"⟩
abbrev cX2_faultOfSeal : ByteArray := prog_4_method_19_code
def yX2_faultOfSeal : MethodName := ⟨RX2, "faultOfSeal", "(II)I"⟩
abbrev cX2_breakOff : ByteArray := prog_4_method_20_code
def yX2_breakOff : MethodName := ⟨RX2, "breakOff", "(II)I"⟩
abbrev cX2_goOn : ByteArray := prog_4_method_21_code
def yX2_goOn : MethodName := ⟨RX2, "goOn", "()I"⟩
abbrev cX2_faultOfAsking : ByteArray := prog_4_method_22_code
def yX2_faultOfAsking : MethodName := ⟨RX2, "faultOfAsking", "(I)I"⟩
abbrev cX2_faultOfOffer : ByteArray := prog_4_method_23_code
def yX2_faultOfOffer : MethodName := ⟨RX2, "faultOfOffer", "(I)I"⟩
abbrev cX2_faultOfAnswer : ByteArray := prog_4_method_24_code
def yX2_faultOfAnswer : MethodName := ⟨RX2, "faultOfAnswer", "(Z)I"⟩
abbrev cX2_canAskAnything : ByteArray := prog_4_method_25_code
def yX2_canAskAnything : MethodName := ⟨RX2, "canAskAnything", "()Z"⟩
abbrev cX2_askToTakeBack : ByteArray := prog_4_method_26_code
def yX2_askToTakeBack : MethodName := ⟨RX2, "askToTakeBack", "(I)I"⟩
abbrev cX2_offerDraw : ByteArray := prog_4_method_27_code
def yX2_offerDraw : MethodName := ⟨RX2, "offerDraw", "(I)I"⟩
abbrev cX2_refuse : ByteArray := prog_4_method_28_code
def yX2_refuse : MethodName := ⟨RX2, "refuse", "()I"⟩
abbrev cX2_agree : ByteArray := prog_4_method_29_code
def yX2_agree : MethodName := ⟨RX2, "agree", "()I"⟩
abbrev cX2_movesBackTo : ByteArray := prog_4_method_30_code
def yX2_movesBackTo : MethodName := ⟨RX2, "movesBackTo", "(I)I"⟩
abbrev cX2_takeBack : ByteArray := prog_4_method_31_code
def yX2_takeBack : MethodName := ⟨RX2, "takeBack", "(I)V"⟩
abbrev cX2_takeBackLast : ByteArray := prog_4_method_32_code
def yX2_takeBackLast : MethodName := ⟨RX2, "takeBackLast", "()V"⟩
abbrev cX2_closeQuestion : ByteArray := prog_4_method_33_code
def yX2_closeQuestion : MethodName := ⟨RX2, "closeQuestion", "()V"⟩
abbrev cX2_wonBy : ByteArray := prog_4_method_34_code
def yX2_wonBy : MethodName := ⟨RX2, "wonBy", "(I)I"⟩
abbrev cX2_end : ByteArray := prog_4_method_35_code
def yX2_end : MethodName := ⟨RX2, "end", "(II)I"⟩
def RX3 : String := "ClockedGame$History"
def TX3 : u_T := fun k => match k with
  | 0 => ("ClockedGame$History", "states", "[LClockedGame$Game;", true)
  | 1 => ("ClockedGame$History", "first", "I", false)
  | _ => ("ClockedGame$History", "count", "I", false)
def tyX3 : Nat → FieldType := fun k => match k with
  | 0 => .array (.object "ClockedGame$Game")
  | 1 => .int
  | _ => .int
theorem nmX3 : ∀ a, a < 3 → ∀ b, b < 3 → a ≠ b → (TX3 a).2.1 ≠ (TX3 b).2.1 := by decide +kernel
theorem tyX3_ok : ∀ k, k < 3 → parseFieldDescriptor (TX3 k).2.2.1 = some (tyX3 k) := by decide +kernel
abbrev cX3_init : ByteArray := prog_5_method_1_code
def yX3_init : MethodName := ⟨RX3, "<init>", "()V"⟩
abbrev cX3_keep : ByteArray := prog_5_method_2_code
def yX3_keep : MethodName := ⟨RX3, "keep", "(LClockedGame$Game;)V"⟩
abbrev cX3_restoreLatest : ByteArray := prog_5_method_3_code
def yX3_restoreLatest : MethodName := ⟨RX3, "restoreLatest", "(LClockedGame$Game;)V"⟩
abbrev cX3_behindFirst : ByteArray := prog_5_method_4_code
def yX3_behindFirst : MethodName := ⟨RX3, "behindFirst", "(I)LClockedGame$Game;"⟩
def RX4 : String := "ClockedGame$Made"
def TX4 : u_T := fun k => match k with
  | 0 => ("ClockedGame$Made", "from", "[I", true)
  | 1 => ("ClockedGame$Made", "to", "[I", true)
  | 2 => ("ClockedGame$Made", "added", "[I", true)
  | 3 => ("ClockedGame$Made", "target", "[I", true)
  | 4 => ("ClockedGame$Made", "count", "I", false)
  | 5 => ("ClockedGame$Made", "poppedFrom", "I", false)
  | 6 => ("ClockedGame$Made", "poppedTo", "I", false)
  | 7 => ("ClockedGame$Made", "poppedTarget", "I", false)
  | _ => ("ClockedGame$Made", "poppedAdded", "I", false)
def tyX4 : Nat → FieldType := fun k => match k with
  | 0 => .array .int
  | 1 => .array .int
  | 2 => .array .int
  | 3 => .array .int
  | 4 => .int
  | 5 => .int
  | 6 => .int
  | 7 => .int
  | _ => .int
theorem nmX4 : ∀ a, a < 9 → ∀ b, b < 9 → a ≠ b → (TX4 a).2.1 ≠ (TX4 b).2.1 := by decide +kernel
theorem tyX4_ok : ∀ k, k < 9 → parseFieldDescriptor (TX4 k).2.2.1 = some (tyX4 k) := by decide +kernel
abbrev cX4_init : ByteArray := prog_6_method_1_code
def yX4_init : MethodName := ⟨RX4, "<init>", "()V"⟩
abbrev cX4_copyFrom : ByteArray := prog_6_method_2_code
def yX4_copyFrom : MethodName := ⟨RX4, "copyFrom", "(LClockedGame$Made;)V"⟩
abbrev cX4_push : ByteArray := prog_6_method_3_code
def yX4_push : MethodName := ⟨RX4, "push", "(IIII)V"⟩
abbrev cX4_pop : ByteArray := prog_6_method_4_code
def yX4_pop : MethodName := ⟨RX4, "pop", "()Z"⟩
def RX5 : String := "ClockedGame$Side"
def TX5 : u_T := fun k => match k with
  | 0 => ("ClockedGame$Side", "clock", "I", false)
  | 1 => ("ClockedGame$Side", "used", "I", false)
  | 2 => ("ClockedGame$Side", "gone", "I", false)
  | 3 => ("ClockedGame$Side", "added", "I", false)
  | 4 => ("ClockedGame$Side", "moves", "I", false)
  | _ => ("ClockedGame$Side", "takenBack", "I", false)
def tyX5 : Nat → FieldType := fun k => match k with
  | 0 => .int
  | 1 => .int
  | 2 => .int
  | 3 => .int
  | 4 => .int
  | _ => .int
theorem nmX5 : ∀ a, a < 6 → ∀ b, b < 6 → a ≠ b → (TX5 a).2.1 ≠ (TX5 b).2.1 := by decide +kernel
theorem tyX5_ok : ∀ k, k < 6 → parseFieldDescriptor (TX5 k).2.2.1 = some (tyX5 k) := by decide +kernel
abbrev cX5_init : ByteArray := prog_7_method_1_code
def yX5_init : MethodName := ⟨RX5, "<init>", "()V"⟩
abbrev cX5_start : ByteArray := prog_7_method_2_code
def yX5_start : MethodName := ⟨RX5, "start", "(I)V"⟩
abbrev cX5_copyFrom : ByteArray := prog_7_method_3_code
def yX5_copyFrom : MethodName := ⟨RX5, "copyFrom", "(LClockedGame$Side;)V"⟩
abbrev cX5_spend : ByteArray := prog_7_method_4_code
def yX5_spend : MethodName := ⟨RX5, "spend", "(II)V"⟩
abbrev cX5_add : ByteArray := prog_7_method_5_code
def yX5_add : MethodName := ⟨RX5, "add", "(I)V"⟩
abbrev cX5_numberOf : ByteArray := prog_7_method_6_code
def yX5_numberOf : MethodName := ⟨RX5, "numberOf", "(I)I"⟩
def RX6 : String := "ClockedGame$Text"
def TX6 : u_T := fun k => match k with
  | 0 => ("ClockedGame$Text", "signs", "[C", true)
  | _ => ("ClockedGame$Text", "length", "I", false)
def tyX6 : Nat → FieldType := fun k => match k with
  | 0 => .array .char
  | _ => .int
theorem nmX6 : ∀ a, a < 2 → ∀ b, b < 2 → a ≠ b → (TX6 a).2.1 ≠ (TX6 b).2.1 := by decide +kernel
theorem tyX6_ok : ∀ k, k < 2 → parseFieldDescriptor (TX6 k).2.2.1 = some (tyX6 k) := by decide +kernel
abbrev cX6_init : ByteArray := prog_8_method_1_code
def yX6_init : MethodName := ⟨RX6, "<init>", "()V"⟩
abbrev cX6_isFull : ByteArray := prog_8_method_2_code
def yX6_isFull : MethodName := ⟨RX6, "isFull", "()Z"⟩
abbrev cX6_append : ByteArray := prog_8_method_3_code
def yX6_append : MethodName := ⟨RX6, "append", "(C)I"⟩
def RX7 : String := "ClockedGame"
def TX7 : u_T := fun k => match k with
  | 0 => ("ClockedGame", "current", "LClockedGame$Game;", true)
  | 1 => ("ClockedGame", "before", "LClockedGame$Game;", true)
  | 2 => ("ClockedGame", "history", "LClockedGame$History;", true)
  | _ => ("ClockedGame", "text", "LClockedGame$Text;", true)
def tyX7 : Nat → FieldType := fun k => match k with
  | 0 => .object "ClockedGame$Game"
  | 1 => .object "ClockedGame$Game"
  | 2 => .object "ClockedGame$History"
  | _ => .object "ClockedGame$Text"
theorem nmX7 : ∀ a, a < 4 → ∀ b, b < 4 → a ≠ b → (TX7 a).2.1 ≠ (TX7 b).2.1 := by decide +kernel
theorem tyX7_ok : ∀ k, k < 4 → parseFieldDescriptor (TX7 k).2.2.1 = some (tyX7 k) := by decide +kernel
abbrev cX7_init : ByteArray := prog_1_method_1_code
def yX7_init : MethodName := ⟨RX7, "<init>", "()V"⟩
abbrev cX7_begin : ByteArray := prog_1_method_2_code
def yX7_begin : MethodName := ⟨RX7, "begin", "()I"⟩
abbrev cX7_set : ByteArray := prog_1_method_3_code
def yX7_set : MethodName := ⟨RX7, "set", "(II)I"⟩
abbrev cX7_setting : ByteArray := prog_1_method_4_code
def yX7_setting : MethodName := ⟨RX7, "setting", "(I)I"⟩
abbrev cX7_pass : ByteArray := prog_1_method_5_code
def yX7_pass : MethodName := ⟨RX7, "pass", "(I)I"⟩
abbrev cX7_move : ByteArray := prog_1_method_6_code
def yX7_move : MethodName := ⟨RX7, "move", "(II)I"⟩
abbrev cX7_why : ByteArray := prog_1_method_7_code
def yX7_why : MethodName := ⟨RX7, "why", "(II)I"⟩
abbrev cX7_seal : ByteArray := prog_1_method_8_code
def yX7_seal : MethodName := ⟨RX7, "seal", "(II)I"⟩
abbrev cX7_resume : ByteArray := prog_1_method_9_code
def yX7_resume : MethodName := ⟨RX7, "resume", "()I"⟩
abbrev cX7_ask : ByteArray := prog_1_method_10_code
def yX7_ask : MethodName := ⟨RX7, "ask", "(I)I"⟩
abbrev cX7_offer : ByteArray := prog_1_method_11_code
def yX7_offer : MethodName := ⟨RX7, "offer", "(I)I"⟩
abbrev cX7_answer : ByteArray := prog_1_method_12_code
def yX7_answer : MethodName := ⟨RX7, "answer", "(Z)I"⟩
abbrev cX7_resign : ByteArray := prog_1_method_13_code
def yX7_resign : MethodName := ⟨RX7, "resign", "(I)I"⟩
abbrev cX7_claim : ByteArray := prog_1_method_14_code
def yX7_claim : MethodName := ⟨RX7, "claim", "(I)I"⟩
abbrev cX7_at : ByteArray := prog_1_method_15_code
def yX7_at : MethodName := ⟨RX7, "at", "(I)I"⟩
abbrev cX7_game : ByteArray := prog_1_method_16_code
def yX7_game : MethodName := ⟨RX7, "game", "(I)I"⟩
abbrev cX7_player : ByteArray := prog_1_method_17_code
def yX7_player : MethodName := ⟨RX7, "player", "(II)I"⟩
abbrev cX7_possible : ByteArray := prog_1_method_18_code
def yX7_possible : MethodName := ⟨RX7, "possible", "(I)I"⟩
abbrev cX7_written : ByteArray := prog_1_method_19_code
def yX7_written : MethodName := ⟨RX7, "written", "()I"⟩
abbrev cX7_sign : ByteArray := prog_1_method_20_code
def yX7_sign : MethodName := ⟨RX7, "sign", "(I)I"⟩
abbrev cX7_mean : ByteArray := prog_1_method_21_code
def yX7_mean : MethodName := ⟨RX7, "mean", "(I)F"⟩
abbrev cX7_type : ByteArray := prog_1_method_22_code
def yX7_type : MethodName := ⟨RX7, "type", "(I)I"⟩
abbrev cX7_undo : ByteArray := prog_1_method_25_code
def yX7_undo : MethodName := ⟨RX7, "undo", "()I"⟩
abbrev cX7_fingerprint : ByteArray := prog_1_method_26_code
def yX7_fingerprint : MethodName := ⟨RX7, "fingerprint", "()J"⟩
abbrev cX7_isCell : ByteArray := prog_1_method_28_code
def yX7_isCell : MethodName := ⟨RX7, "isCell", "(I)Z"⟩
abbrev cX7_isPlayer : ByteArray := prog_1_method_29_code
def yX7_isPlayer : MethodName := ⟨RX7, "isPlayer", "(I)Z"⟩
abbrev cX7_other : ByteArray := prog_1_method_30_code
def yX7_other : MethodName := ⟨RX7, "other", "(I)I"⟩
def RX8 : String := "ClockedGameModel"
def TX8 : u_T := fun k => match k with
  | _ => ("", "", "", false)
def tyX8 : Nat → FieldType := fun k => match k with
  | _ => .int
theorem nmX8 : ∀ a, a < 0 → ∀ b, b < 0 → a ≠ b → (TX8 a).2.1 ≠ (TX8 b).2.1 := by decide +kernel
theorem tyX8_ok : ∀ k, k < 0 → parseFieldDescriptor (TX8 k).2.2.1 = some (tyX8 k) := by decide +kernel
def RL : String := "ClockedGameLaw"
abbrev cL_cell : ByteArray := method_2_code
def yL_cell : MethodName := ⟨RL, "cell", "([II)I"⟩
abbrev cL_up : ByteArray := method_3_code
def yL_up : MethodName := ⟨RL, "up", "(II)I"⟩
abbrev cL_fails : ByteArray := method_4_code
def yL_fails : MethodName := ⟨RL, "fails", "(LClockedGame;)Z"⟩
abbrev cL_agrees : ByteArray := method_5_code
def yL_agrees : MethodName := ⟨RL, "agrees", "(LClockedGame;)Z"⟩
abbrev cL_written : ByteArray := method_6_code
def yL_written : MethodName := ⟨RL, "written", "(LClockedGame;)Z"⟩
abbrev cL_clocks : ByteArray := method_7_code
def yL_clocks : MethodName := ⟨RL, "clocks", "(LClockedGame;I)Z"⟩
abbrev cL_moves : ByteArray := method_8_code
def yL_moves : MethodName := ⟨RL, "moves", "(LClockedGame;I)Z"⟩
abbrev cL_asks : ByteArray := method_9_code
def yL_asks : MethodName := ⟨RL, "asks", "(LClockedGame;I)Z"⟩
abbrev cL_law : ByteArray := code
def yL_law : MethodName := ⟨RL, "law", "([I)Z"⟩
abbrev vwCl : List vw_C := [(RX0, TX0, 1), (RX1, TX1, 3), (RX2, TX2, 14), (RX3, TX3, 3), (RX4, TX4, 9), (RX5, TX5, 6), (RX6, TX6, 2), (RX7, TX7, 4)]
def mtL_0 : List (MethodName × ByteArray × Nat × Option FieldType × Nat × Nat) := [(yX0_init, cX0_init, 1, (Option.none : Option FieldType), 1, 20), (yX0_setUp, cX0_setUp, 3, (Option.none : Option FieldType), 0, 0), (yX0_copyFrom, cX0_copyFrom, 2, (Option.none : Option FieldType), 1, 26), (yX0_ownerOf, cX0_ownerOf, 2, (Option.some FieldType.int), 0, 0), (yX0_put, cX0_put, 3, (Option.none : Option FieldType), 0, 0), (yX0_carry, cX0_carry, 3, (Option.none : Option FieldType), 1, 22), (yX0_carryBack, cX0_carryBack, 4, (Option.none : Option FieldType), 1, 22), (yX0_piecesOf, cX0_piecesOf, 4, (Option.some FieldType.int), 0, 0), (yX0_isLastRow, cX0_isLastRow, 3, (Option.some FieldType.boolean), 0, 0), (yX0_hindrance, cX0_hindrance, 7, (Option.some FieldType.int), 2, 46), (yX0_isAhead, cX0_isAhead, 6, (Option.some FieldType.boolean), 1, 21), (yX0_forward, cX0_forward, 2, (Option.some FieldType.int), 0, 0), (yX0_countPossible, cX0_countPossible, 6, (Option.some FieldType.int), 3, 72), (yX0_possibleMove, cX0_possibleMove, 7, (Option.some FieldType.int), 3, 72), (yX1_init, cX1_init, 1, (Option.none : Option FieldType), 1, 20), (yX1_start, cX1_start, 1, (Option.none : Option FieldType), 0, 0), (yX1_copyFrom, cX1_copyFrom, 3, (Option.none : Option FieldType), 1, 26), (yX1_isFull, cX1_isFull, 1, (Option.some FieldType.boolean), 0, 0), (yX1_signAt, cX1_signAt, 2, (Option.some FieldType.int), 0, 0), (yX1_writeMove, cX1_writeMove, 6, (Option.none : Option FieldType), 3, 65), (yX1_writeTakenBack, cX1_writeTakenBack, 2, (Option.none : Option FieldType), 2, 42), (yX1_writeEnd, cX1_writeEnd, 2, (Option.none : Option FieldType), 2, 42), (yX1_writeSign, cX1_writeSign, 2, (Option.none : Option FieldType), 2, 41), (yX1_beginEntry, cX1_beginEntry, 1, (Option.none : Option FieldType), 1, 21), (yX1_putCell, cX1_putCell, 2, (Option.none : Option FieldType), 1, 21), (yX1_putNumber, cX1_putNumber, 4, (Option.none : Option FieldType), 2, 42), (yX1_putDigit, cX1_putDigit, 2, (Option.none : Option FieldType), 1, 21), (yX1_put, cX1_put, 2, (Option.none : Option FieldType), 0, 0), (yX2_init, cX2_init, 1, (Option.none : Option FieldType), 2, 42), (yX2_copyFrom, cX2_copyFrom, 2, (Option.none : Option FieldType), 2, 48), (yX2_start, cX2_start, 1, (Option.none : Option FieldType), 1, 22), (yX2_side, cX2_side, 2, (Option.some (FieldType.object "ClockedGame$Side")), 0, 0), (yX2_isOver, cX2_isOver, 1, (Option.some FieldType.boolean), 0, 0), (yX2_numberOf, cX2_numberOf, 2, (Option.some FieldType.int), 4, 97), (yX2_valueOf, cX2_valueOf, 2, (Option.some FieldType.int), 0, 0), (yX2_faultOfChange, cX2_faultOfChange, 3, (Option.some FieldType.int), 0, 0), (yX2_change, cX2_change, 4, (Option.some FieldType.int), 5, 105), (yX2_faultOfTicks, cX2_faultOfTicks, 2, (Option.some FieldType.int), 0, 0), (yX2_letGoBy, cX2_letGoBy, 5, (Option.some FieldType.int), 5, 105), (yX2_flagsFall, cX2_flagsFall, 1, (Option.some FieldType.boolean), 0, 0)]
def mtL_1 : List (MethodName × ByteArray × Nat × Option FieldType × Nat × Nat) := [(yX2_lookAtFlags, cX2_lookAtFlags, 1, (Option.none : Option FieldType), 4, 85), (yX2_faultOfClaim, cX2_faultOfClaim, 2, (Option.some FieldType.int), 1, 21), (yX2_faultOfMove, cX2_faultOfMove, 3, (Option.some FieldType.int), 3, 72), (yX2_makeMove, cX2_makeMove, 9, (Option.some FieldType.boolean), 5, 121), (yX2_additionFor, cX2_additionFor, 3, (Option.some FieldType.int), 0, 0), (yX2_endByMove, cX2_endByMove, 4, (Option.none : Option FieldType), 4, 98), (yX2_faultOfSeal, cX2_faultOfSeal, 3, (Option.some FieldType.int), 1, 20), (yX2_breakOff, cX2_breakOff, 3, (Option.some FieldType.int), 1, 20), (yX2_goOn, cX2_goOn, 1, (Option.some FieldType.int), 6, 149), (yX2_faultOfAsking, cX2_faultOfAsking, 3, (Option.some FieldType.int), 1, 21), (yX2_faultOfOffer, cX2_faultOfOffer, 2, (Option.some FieldType.int), 1, 20), (yX2_faultOfAnswer, cX2_faultOfAnswer, 3, (Option.some FieldType.int), 1, 20), (yX2_canAskAnything, cX2_canAskAnything, 1, (Option.some FieldType.boolean), 0, 0), (yX2_askToTakeBack, cX2_askToTakeBack, 2, (Option.some FieldType.int), 3, 62), (yX2_offerDraw, cX2_offerDraw, 2, (Option.some FieldType.int), 3, 62), (yX2_refuse, cX2_refuse, 1, (Option.some FieldType.int), 3, 62), (yX2_agree, cX2_agree, 1, (Option.some FieldType.int), 6, 128), (yX2_movesBackTo, cX2_movesBackTo, 2, (Option.some FieldType.int), 0, 0), (yX2_takeBack, cX2_takeBack, 4, (Option.none : Option FieldType), 5, 105), (yX2_takeBackLast, cX2_takeBackLast, 2, (Option.none : Option FieldType), 2, 45), (yX2_closeQuestion, cX2_closeQuestion, 1, (Option.none : Option FieldType), 0, 0), (yX2_wonBy, cX2_wonBy, 1, (Option.some FieldType.int), 0, 0), (yX2_end, cX2_end, 3, (Option.some FieldType.int), 3, 63), (yX3_init, cX3_init, 2, (Option.none : Option FieldType), 3, 62), (yX3_keep, cX3_keep, 3, (Option.none : Option FieldType), 3, 69), (yX3_restoreLatest, cX3_restoreLatest, 3, (Option.none : Option FieldType), 3, 69), (yX3_behindFirst, cX3_behindFirst, 3, (Option.some (FieldType.object "ClockedGame$Game")), 0, 0), (yX4_init, cX4_init, 1, (Option.none : Option FieldType), 1, 20), (yX4_copyFrom, cX4_copyFrom, 3, (Option.none : Option FieldType), 1, 26), (yX4_push, cX4_push, 5, (Option.none : Option FieldType), 0, 0), (yX4_pop, cX4_pop, 1, (Option.some FieldType.boolean), 0, 0), (yX5_init, cX5_init, 1, (Option.none : Option FieldType), 1, 20), (yX5_start, cX5_start, 2, (Option.none : Option FieldType), 0, 0), (yX5_copyFrom, cX5_copyFrom, 2, (Option.none : Option FieldType), 0, 0), (yX5_spend, cX5_spend, 3, (Option.none : Option FieldType), 0, 0), (yX5_add, cX5_add, 2, (Option.none : Option FieldType), 0, 0), (yX5_numberOf, cX5_numberOf, 2, (Option.some FieldType.int), 0, 0), (yX6_init, cX6_init, 1, (Option.none : Option FieldType), 1, 20), (yX6_isFull, cX6_isFull, 1, (Option.some FieldType.boolean), 0, 0), (yX6_append, cX6_append, 2, (Option.some FieldType.int), 0, 0)]
def mtL_2 : List (MethodName × ByteArray × Nat × Option FieldType × Nat × Nat) := [(yX0_setUp, cX0_setUp, 3, (Option.none : Option FieldType), 0, 0), (yX0_setUp, cX0_setUp, 3, (Option.none : Option FieldType), 0, 0), (yX0_setUp, cX0_setUp, 3, (Option.none : Option FieldType), 0, 0), (yX0_setUp, cX0_setUp, 3, (Option.none : Option FieldType), 0, 0), (yX0_setUp, cX0_setUp, 3, (Option.none : Option FieldType), 0, 0), (yX0_setUp, cX0_setUp, 3, (Option.none : Option FieldType), 0, 0), (yX0_setUp, cX0_setUp, 3, (Option.none : Option FieldType), 0, 0), (yX0_setUp, cX0_setUp, 3, (Option.none : Option FieldType), 0, 0), (yX0_setUp, cX0_setUp, 3, (Option.none : Option FieldType), 0, 0), (yX0_setUp, cX0_setUp, 3, (Option.none : Option FieldType), 0, 0), (yX0_setUp, cX0_setUp, 3, (Option.none : Option FieldType), 0, 0), (yX0_setUp, cX0_setUp, 3, (Option.none : Option FieldType), 0, 0), (yX0_setUp, cX0_setUp, 3, (Option.none : Option FieldType), 0, 0), (yX7_init, cX7_init, 1, (Option.none : Option FieldType), 4, 83), (yX7_begin, cX7_begin, 2, (Option.some FieldType.int), 4, 91), (yX7_set, cX7_set, 4, (Option.some FieldType.int), 6, 128), (yX7_setting, cX7_setting, 2, (Option.some FieldType.int), 1, 21), (yX7_pass, cX7_pass, 3, (Option.some FieldType.int), 6, 129), (yX7_move, cX7_move, 4, (Option.some FieldType.int), 6, 149), (yX7_why, cX7_why, 3, (Option.some FieldType.int), 3, 72), (yX7_seal, cX7_seal, 4, (Option.some FieldType.int), 4, 91), (yX7_resume, cX7_resume, 1, (Option.some FieldType.int), 7, 169), (yX7_ask, cX7_ask, 3, (Option.some FieldType.int), 4, 91), (yX7_offer, cX7_offer, 3, (Option.some FieldType.int), 4, 91), (yX7_answer, cX7_answer, 3, (Option.some FieldType.int), 7, 148), (yX7_resign, cX7_resign, 2, (Option.some FieldType.int), 4, 91), (yX7_claim, cX7_claim, 3, (Option.some FieldType.int), 4, 91), (yX7_at, cX7_at, 2, (Option.some FieldType.int), 1, 21), (yX7_game, cX7_game, 2, (Option.some FieldType.int), 5, 118), (yX7_player, cX7_player, 3, (Option.some FieldType.int), 1, 23), (yX7_possible, cX7_possible, 2, (Option.some FieldType.int), 4, 98), (yX7_written, cX7_written, 1, (Option.some FieldType.int), 0, 0), (yX7_sign, cX7_sign, 2, (Option.some FieldType.int), 1, 21), (yX7_mean, cX7_mean, 3, (Option.some FieldType.float), 1, 21), (yX7_type, cX7_type, 2, (Option.some FieldType.int), 1, 21), (yX0_setUp, cX0_setUp, 3, (Option.none : Option FieldType), 0, 0), (yX0_setUp, cX0_setUp, 3, (Option.none : Option FieldType), 0, 0), (yX7_undo, cX7_undo, 1, (Option.some FieldType.int), 4, 91), (yX7_fingerprint, cX7_fingerprint, 5, (Option.some FieldType.long), 6, 139), (yX0_setUp, cX0_setUp, 3, (Option.none : Option FieldType), 0, 0)]
def mtL_3 : List (MethodName × ByteArray × Nat × Option FieldType × Nat × Nat) := [(yX7_isCell, cX7_isCell, 1, (Option.some FieldType.boolean), 0, 0), (yX7_isPlayer, cX7_isPlayer, 1, (Option.some FieldType.boolean), 0, 0), (yX7_other, cX7_other, 1, (Option.some FieldType.int), 0, 0), (yX0_setUp, cX0_setUp, 3, (Option.none : Option FieldType), 0, 0), (yX0_setUp, cX0_setUp, 3, (Option.none : Option FieldType), 0, 0), (yX0_setUp, cX0_setUp, 3, (Option.none : Option FieldType), 0, 0), (yX0_setUp, cX0_setUp, 3, (Option.none : Option FieldType), 0, 0), (yX0_setUp, cX0_setUp, 3, (Option.none : Option FieldType), 0, 0), (yX0_setUp, cX0_setUp, 3, (Option.none : Option FieldType), 0, 0), (yX0_setUp, cX0_setUp, 3, (Option.none : Option FieldType), 0, 0), (yX0_setUp, cX0_setUp, 3, (Option.none : Option FieldType), 0, 0), (yX0_setUp, cX0_setUp, 3, (Option.none : Option FieldType), 0, 0), (yX0_setUp, cX0_setUp, 3, (Option.none : Option FieldType), 0, 0), (yX0_setUp, cX0_setUp, 3, (Option.none : Option FieldType), 0, 0), (yX0_setUp, cX0_setUp, 3, (Option.none : Option FieldType), 0, 0), (yX0_setUp, cX0_setUp, 3, (Option.none : Option FieldType), 0, 0), (yX0_setUp, cX0_setUp, 3, (Option.none : Option FieldType), 0, 0), (yX0_setUp, cX0_setUp, 3, (Option.none : Option FieldType), 0, 0), (yX0_setUp, cX0_setUp, 3, (Option.none : Option FieldType), 0, 0), (yX0_setUp, cX0_setUp, 3, (Option.none : Option FieldType), 0, 0), (yX0_setUp, cX0_setUp, 3, (Option.none : Option FieldType), 0, 0), (yX0_setUp, cX0_setUp, 3, (Option.none : Option FieldType), 0, 0), (yX0_setUp, cX0_setUp, 3, (Option.none : Option FieldType), 0, 0), (yX0_setUp, cX0_setUp, 3, (Option.none : Option FieldType), 0, 0), (yX0_setUp, cX0_setUp, 3, (Option.none : Option FieldType), 0, 0), (yX0_setUp, cX0_setUp, 3, (Option.none : Option FieldType), 0, 0), (yX0_setUp, cX0_setUp, 3, (Option.none : Option FieldType), 0, 0), (yX0_setUp, cX0_setUp, 3, (Option.none : Option FieldType), 0, 0), (yX0_setUp, cX0_setUp, 3, (Option.none : Option FieldType), 0, 0), (yX0_setUp, cX0_setUp, 3, (Option.none : Option FieldType), 0, 0), (yX0_setUp, cX0_setUp, 3, (Option.none : Option FieldType), 0, 0), (yX0_setUp, cX0_setUp, 3, (Option.none : Option FieldType), 0, 0), (yX0_setUp, cX0_setUp, 3, (Option.none : Option FieldType), 0, 0), (yX0_setUp, cX0_setUp, 3, (Option.none : Option FieldType), 0, 0), (yX0_setUp, cX0_setUp, 3, (Option.none : Option FieldType), 0, 0), (yX0_setUp, cX0_setUp, 3, (Option.none : Option FieldType), 0, 0), (yX0_setUp, cX0_setUp, 3, (Option.none : Option FieldType), 0, 0), (yX0_setUp, cX0_setUp, 3, (Option.none : Option FieldType), 0, 0), (yX0_setUp, cX0_setUp, 3, (Option.none : Option FieldType), 0, 0), (yX0_setUp, cX0_setUp, 3, (Option.none : Option FieldType), 0, 0)]
def mtL_4 : List (MethodName × ByteArray × Nat × Option FieldType × Nat × Nat) := [(yX0_setUp, cX0_setUp, 3, (Option.none : Option FieldType), 0, 0), (yX0_setUp, cX0_setUp, 3, (Option.none : Option FieldType), 0, 0), (yX0_setUp, cX0_setUp, 3, (Option.none : Option FieldType), 0, 0), (yX0_setUp, cX0_setUp, 3, (Option.none : Option FieldType), 0, 0), (yX0_setUp, cX0_setUp, 3, (Option.none : Option FieldType), 0, 0), (yX0_setUp, cX0_setUp, 3, (Option.none : Option FieldType), 0, 0), (yX0_setUp, cX0_setUp, 3, (Option.none : Option FieldType), 0, 0), (yX0_setUp, cX0_setUp, 3, (Option.none : Option FieldType), 0, 0), (yX0_setUp, cX0_setUp, 3, (Option.none : Option FieldType), 0, 0), (yX0_setUp, cX0_setUp, 3, (Option.none : Option FieldType), 0, 0), (yX0_setUp, cX0_setUp, 3, (Option.none : Option FieldType), 0, 0), (yX0_setUp, cX0_setUp, 3, (Option.none : Option FieldType), 0, 0), (yX0_setUp, cX0_setUp, 3, (Option.none : Option FieldType), 0, 0), (yX0_setUp, cX0_setUp, 3, (Option.none : Option FieldType), 0, 0), (yX0_setUp, cX0_setUp, 3, (Option.none : Option FieldType), 0, 0), (yX0_setUp, cX0_setUp, 3, (Option.none : Option FieldType), 0, 0), (yX0_setUp, cX0_setUp, 3, (Option.none : Option FieldType), 0, 0), (yX0_setUp, cX0_setUp, 3, (Option.none : Option FieldType), 0, 0), (yX0_setUp, cX0_setUp, 3, (Option.none : Option FieldType), 0, 0), (yX0_setUp, cX0_setUp, 3, (Option.none : Option FieldType), 0, 0), (yX0_setUp, cX0_setUp, 3, (Option.none : Option FieldType), 0, 0), (yX0_setUp, cX0_setUp, 3, (Option.none : Option FieldType), 0, 0), (yL_cell, cL_cell, 2, (Option.some FieldType.int), 0, 0), (yL_up, cL_up, 2, (Option.some FieldType.int), 0, 0), (yL_fails, cL_fails, 5, (Option.some FieldType.boolean), 8, 189), (yL_agrees, cL_agrees, 13, (Option.some FieldType.boolean), 7, 167), (yL_written, cL_written, 9, (Option.some FieldType.boolean), 6, 139), (yL_clocks, cL_clocks, 2, (Option.some FieldType.boolean), 2, 45), (yL_moves, cL_moves, 15, (Option.some FieldType.boolean), 7, 172), (yL_asks, cL_asks, 13, (Option.some FieldType.boolean), 8, 170)]
def mtL : List (MethodName × ByteArray × Nat × Option FieldType × Nat × Nat) := mtL_0 ++ (mtL_1 ++ (mtL_2 ++ (mtL_3 ++ (mtL_4))))
def mpL_0 : List (Nat × Nat × Nat × Nat × Bool × Nat × Nat) := [(35, 34, 0, 9, false, 0, 0), (143, 141, 142, 9, false, 0, 0), (270, 268, 269, 9, false, 1, 0), (414, 412, 413, 9, false, 1, 0), (447, 445, 446, 9, false, 2, 0), (443, 441, 442, 9, false, 2, 0), (532, 530, 531, 9, false, 3, 0), (471, 469, 470, 9, false, 1, 0), (467, 465, 466, 9, false, 2, 0), (410, 408, 409, 9, false, 3, 0), (418, 416, 417, 9, false, 3, 0), (422, 420, 421, 9, false, 1, 0), (579, 577, 578, 9, false, 1, 0), (475, 473, 474, 9, false, 2, 0), (115, 114, 0, 12, false, 0, 1), (152, 150, 151, 12, false, 0, 1), (290, 288, 289, 12, false, 1, 1), (392, 390, 391, 12, false, 0, 1), (622, 620, 621, 12, false, 1, 1), (431, 429, 430, 12, false, 5, 1), (536, 534, 535, 12, false, 1, 1), (341, 339, 340, 12, false, 1, 1), (500, 498, 499, 12, false, 1, 1), (345, 344, 1, 12, false, 0, 1), (439, 438, 5, 12, false, 1, 1), (435, 434, 4, 12, false, 1, 1), (353, 352, 3, 12, false, 1, 1), (349, 348, 2, 12, false, 1, 1), (29, 28, 0, 8, false, 0, 2), (266, 264, 265, 8, false, 1, 2), (139, 137, 138, 8, false, 0, 2), (327, 325, 326, 8, false, 1, 2), (550, 548, 549, 8, false, 0, 2), (575, 573, 574, 8, false, 1, 2), (315, 313, 314, 8, false, 1, 2), (302, 300, 301, 8, false, 2, 2), (311, 309, 310, 8, false, 2, 2), (366, 364, 365, 8, false, 1, 2), (371, 369, 370, 8, false, 1, 2), (323, 321, 322, 8, false, 0, 2)]
def mpL_1 : List (Nat × Nat × Nat × Nat × Bool × Nat × Nat) := [(319, 317, 318, 8, false, 0, 2), (561, 559, 560, 8, false, 1, 2), (644, 642, 643, 8, false, 2, 2), (426, 424, 425, 8, false, 3, 2), (451, 449, 450, 8, false, 1, 2), (463, 461, 462, 8, false, 2, 2), (385, 383, 384, 8, false, 2, 2), (397, 395, 396, 8, false, 2, 2), (406, 404, 405, 8, false, 0, 2), (658, 656, 657, 8, false, 1, 2), (485, 483, 484, 8, false, 1, 2), (508, 506, 507, 8, false, 1, 2), (492, 490, 491, 8, false, 0, 2), (662, 660, 661, 8, false, 1, 2), (496, 494, 495, 8, false, 1, 2), (540, 538, 539, 8, false, 0, 2), (512, 510, 511, 8, false, 0, 2), (520, 518, 519, 8, false, 1, 2), (516, 514, 515, 8, false, 1, 2), (524, 522, 523, 8, false, 0, 2), (156, 154, 155, 8, false, 0, 2), (333, 332, 0, 8, true, 1, 2), (337, 335, 336, 8, false, 2, 2), (209, 208, 0, 14, false, 0, 3), (258, 256, 257, 14, false, 1, 3), (603, 601, 602, 14, false, 1, 3), (262, 261, 0, 14, false, 1, 3), (76, 75, 0, 11, false, 0, 4), (279, 277, 278, 11, false, 1, 4), (459, 457, 458, 11, false, 4, 4), (528, 526, 527, 11, false, 0, 4), (46, 45, 0, 10, false, 0, 5), (148, 146, 147, 10, false, 1, 5), (275, 273, 274, 10, false, 1, 5), (377, 375, 376, 10, false, 2, 5), (455, 453, 454, 10, false, 1, 5), (589, 587, 588, 10, false, 1, 5), (229, 228, 0, 15, false, 0, 6), (683, 681, 682, 15, false, 0, 6), (688, 686, 687, 15, false, 1, 6)]
def mpL_2 : List (Nat × Nat × Nat × Nat × Bool × Nat × Nat) := [(143, 141, 142, 9, false, 0, 0), (143, 141, 142, 9, false, 0, 0), (143, 141, 142, 9, false, 0, 0), (143, 141, 142, 9, false, 0, 0), (143, 141, 142, 9, false, 0, 0), (143, 141, 142, 9, false, 0, 0), (143, 141, 142, 9, false, 0, 0), (143, 141, 142, 9, false, 0, 0), (143, 141, 142, 9, false, 0, 0), (143, 141, 142, 9, false, 0, 0), (143, 141, 142, 9, false, 0, 0), (143, 141, 142, 9, false, 0, 0), (143, 141, 142, 9, false, 0, 0), (21, 20, 0, 7, false, 0, 7), (254, 252, 253, 7, false, 0, 7), (298, 296, 297, 7, false, 2, 7), (357, 355, 356, 7, false, 1, 7), (362, 360, 361, 7, false, 1, 7), (640, 638, 639, 7, false, 2, 7), (649, 647, 648, 7, false, 2, 7), (381, 379, 380, 7, false, 2, 7), (401, 399, 400, 7, false, 0, 7), (654, 652, 653, 7, false, 1, 7), (481, 479, 480, 7, false, 1, 7), (504, 502, 503, 7, false, 1, 7), (544, 542, 543, 7, false, 1, 7), (557, 555, 556, 7, false, 1, 7), (565, 563, 564, 7, false, 1, 7), (571, 569, 570, 7, false, 1, 7), (583, 581, 582, 7, false, 2, 7), (666, 664, 665, 7, false, 1, 7), (594, 592, 593, 7, false, 0, 7), (618, 616, 617, 7, false, 1, 7), (673, 671, 672, 7, false, 1, 7), (679, 677, 678, 7, false, 1, 7), (143, 141, 142, 9, false, 0, 0), (143, 141, 142, 9, false, 0, 0), (598, 596, 597, 7, false, 0, 7), (607, 605, 606, 7, false, 0, 7), (143, 141, 142, 9, false, 0, 0)]
def mpL_3 : List (Nat × Nat × Nat × Nat × Bool × Nat × Nat) := [(388, 387, 0, 7, true, 1, 7), (488, 487, 0, 7, true, 1, 7), (330, 329, 0, 7, true, 1, 7), (143, 141, 142, 9, false, 0, 0), (143, 141, 142, 9, false, 0, 0), (143, 141, 142, 9, false, 0, 0), (143, 141, 142, 9, false, 0, 0), (143, 141, 142, 9, false, 0, 0), (143, 141, 142, 9, false, 0, 0), (143, 141, 142, 9, false, 0, 0), (143, 141, 142, 9, false, 0, 0), (143, 141, 142, 9, false, 0, 0), (143, 141, 142, 9, false, 0, 0), (143, 141, 142, 9, false, 0, 0), (143, 141, 142, 9, false, 0, 0), (143, 141, 142, 9, false, 0, 0), (143, 141, 142, 9, false, 0, 0), (143, 141, 142, 9, false, 0, 0), (143, 141, 142, 9, false, 0, 0), (143, 141, 142, 9, false, 0, 0), (143, 141, 142, 9, false, 0, 0), (143, 141, 142, 9, false, 0, 0), (143, 141, 142, 9, false, 0, 0), (143, 141, 142, 9, false, 0, 0), (143, 141, 142, 9, false, 0, 0), (143, 141, 142, 9, false, 0, 0), (143, 141, 142, 9, false, 0, 0), (143, 141, 142, 9, false, 0, 0), (143, 141, 142, 9, false, 0, 0), (143, 141, 142, 9, false, 0, 0), (143, 141, 142, 9, false, 0, 0), (143, 141, 142, 9, false, 0, 0), (143, 141, 142, 9, false, 0, 0), (143, 141, 142, 9, false, 0, 0), (143, 141, 142, 9, false, 0, 0), (143, 141, 142, 9, false, 0, 0), (143, 141, 142, 9, false, 0, 0), (143, 141, 142, 9, false, 0, 0), (143, 141, 142, 9, false, 0, 0), (143, 141, 142, 9, false, 0, 0)]
def mpL_4 : List (Nat × Nat × Nat × Nat × Bool × Nat × Nat) := [(143, 141, 142, 9, false, 0, 0), (143, 141, 142, 9, false, 0, 0), (143, 141, 142, 9, false, 0, 0), (143, 141, 142, 9, false, 0, 0), (143, 141, 142, 9, false, 0, 0), (143, 141, 142, 9, false, 0, 0), (143, 141, 142, 9, false, 0, 0), (143, 141, 142, 9, false, 0, 0), (143, 141, 142, 9, false, 0, 0), (143, 141, 142, 9, false, 0, 0), (143, 141, 142, 9, false, 0, 0), (143, 141, 142, 9, false, 0, 0), (143, 141, 142, 9, false, 0, 0), (143, 141, 142, 9, false, 0, 0), (143, 141, 142, 9, false, 0, 0), (143, 141, 142, 9, false, 0, 0), (143, 141, 142, 9, false, 0, 0), (143, 141, 142, 9, false, 0, 0), (143, 141, 142, 9, false, 0, 0), (143, 141, 142, 9, false, 0, 0), (143, 141, 142, 9, false, 0, 0), (143, 141, 142, 9, false, 0, 0), (626, 625, 0, 6, true, 2, 7), (630, 629, 0, 6, true, 2, 7), (634, 633, 0, 6, true, 1, 7), (692, 691, 0, 6, true, 1, 7), (695, 694, 0, 6, true, 1, 7), (698, 697, 0, 6, true, 2, 7), (701, 700, 0, 6, true, 2, 7), (705, 704, 0, 6, true, 2, 7)]
def mpL : List (Nat × Nat × Nat × Nat × Bool × Nat × Nat) := mpL_0 ++ (mpL_1 ++ (mpL_2 ++ (mpL_3 ++ (mpL_4))))
def mt (a : Nat) : MethodName × ByteArray × Nat × Option FieldType × Nat × Nat := mtL.getD a (yX0_init, cX0_init, 0, none, 0, 0)
def mp (a : Nat) : Nat × Nat × Nat × Nat × Bool × Nat × Nat := mpL.getD a (0, 0, 0, 0, false, 0, 0)
def mY (a : Nat) : MethodName := (mt a).1
def mB (a : Nat) : ByteArray := (mt a).2.1
def mL (a : Nat) : Nat := (mt a).2.2.1
def mT (a : Nat) : Option FieldType := (mt a).2.2.2.1
def mR (a : Nat) : Room := { frames := (mt a).2.2.2.2.1, cells := 0, slots := 0, locals := (mt a).2.2.2.2.2 }
def mSt (a : Nat) : Bool := (mp a).2.2.2.2.1
def mNp (a : Nat) : Nat := (mp a).2.2.2.2.2.1
def mCl (a : Nat) : Nat := (mp a).2.2.2.2.2.2
def mInit (a : Nat) : Bool := (mY a).name == "<init>"
def eqCode (c : Cond) (y : MethodName) (b : ByteArray) (n : Nat) (t : Option FieldType) : Bool := match c with
  | .code y' b' n' t' => decide (y' = y) && decide (b'.data.toList = b.data.toList) && decide (n' = n) && decide (t' = t)
  | _ => false
theorem eqCode_of {c : Cond} {y : MethodName} {b : ByteArray} {n : Nat} {t : Option FieldType} (h : eqCode c y b n t = true) : c = .code y b n t := by
  unfold eqCode at h
  split at h
  · simp only [Bool.and_eq_true, decide_eq_true_eq] at h
    obtain ⟨⟨⟨h1, h2⟩, h3⟩, h4⟩ := h
    rename_i y' b' n' t'
    have hb : b' = b := by
      cases b' with
      | mk d' =>
        cases b with
        | mk d =>
          congr 1
          exact Array.toList_inj.mp h2
    rw [h1, hb, h3, h4]
  · cases h
def eqCodeO (c : Option Cond) (y : MethodName) (b : ByteArray) (n : Nat) (t : Option FieldType) : Bool := match c with
  | some c => eqCode c y b n t
  | none => false
theorem eqCodeO_of {c : Option Cond} {y : MethodName} {b : ByteArray} {n : Nat} {t : Option FieldType} (h : eqCodeO c y b n t = true) : c = some (.code y b n t) := by
  cases c with
  | none => cases h
  | some c => exact congrArg some (eqCode_of h)
def okMb (a : Nat) : Bool :=
  eqCodeO (lw_tbl[(mp a).1]?) (mY a) (mB a) (mL a) (mT a) && plainName (mY a).cls &&
  decide (lw_tbl[(mp a).2.2.2.1]? = some (.initialized (mY a).cls)) &&
  (if mSt a then decide (lw_tbl[(mp a).2.1]? = some (.static (mY a))) else decide (lw_tbl[(mp a).2.1]? = some (.instanceMethod (mY a))) && (mInit a || decide (lw_tbl[(mp a).2.2.1]? = some (.selects (mY a).cls (mY a) (mY a))))) &&
  decide ((mY a).cls ≠ "java/lang/invoke/MethodHandle") && decide ((mY a).cls ≠ "java/lang/invoke/VarHandle") &&
  decide ((parseMethodDescriptor (mY a).desc).map (fun d => d.parameters.length) = some (mNp a)) && decide (((parseMethodDescriptor (mY a).desc).map (fun d => d.returnType)) = some (mT a)) &&
  (mSt a || decide ((vwCl[mCl a]?).map (fun q => q.1) = some (mY a).cls))
def lw_g : List Cond := lw_tbl.filter goodWord
def mW (a : Nat) : List Cond := .code (mY a) (mB a) (mL a) (mT a) :: lw_g
def isNest (w : Cond) : Bool := match w with
  | .fieldLinkNest _ _ _ _ _ _ => true
  | .methodLinkNest _ _ _ _ => true
  | _ => false
theorem okA_0 : ∀ a, a < 0 → okMb a = true := lt_0
