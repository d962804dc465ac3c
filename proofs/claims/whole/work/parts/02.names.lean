def T_AL : u_T := fun k => match k with
  | 0 => ("java/util/AbstractList", "modCount", "I", false)
  | 1 => ("java/util/ArrayList", "elementData", "[Ljava/lang/Object;", false)
  | _ => ("java/util/ArrayList", "size", "I", false)
def ty_AL : Nat → FieldType := fun k => match k with
  | 0 => .int
  | 1 => .array (.object "java/lang/Object")
  | _ => .int
theorem nm_AL : ∀ a, a < 3 → ∀ b, b < 3 → a ≠ b → (T_AL a).2.1 ≠ (T_AL b).2.1 := by decide +kernel
theorem ok_AL : ∀ k, k < 3 → parseFieldDescriptor (T_AL k).2.2.1 = some (ty_AL k) := by decide +kernel
def T_Dy : u_T := fun k => match k with
  | 0 => ("TombLane$DayBook", "men", "LTombLane$Men;", true)
  | 1 => ("TombLane$DayBook", "flakes", "LTombLane$Flakes;", true)
  | 2 => ("TombLane$DayBook", "states", "[I", true)
  | 3 => ("TombLane$DayBook", "daysOf", "[I", true)
  | 4 => ("TombLane$DayBook", "wicksTold", "I", false)
  | _ => ("TombLane$DayBook", "wicksUnlike", "Z", false)
def ty_Dy : Nat → FieldType := fun k => match k with
  | 0 => .object "TombLane$Men"
  | 1 => .object "TombLane$Flakes"
  | 2 => .array .int
  | 3 => .array .int
  | 4 => .int
  | _ => .boolean
theorem nm_Dy : ∀ a, a < 6 → ∀ b, b < 6 → a ≠ b → (T_Dy a).2.1 ≠ (T_Dy b).2.1 := by decide +kernel
theorem ok_Dy : ∀ k, k < 6 → parseFieldDescriptor (T_Dy k).2.2.1 = some (ty_Dy k) := by decide +kernel
def T_De : u_T := fun k => match k with
  | 0 => ("TombLane$Debts", "by", "[I", true)
  | 1 => ("TombLane$Debts", "to", "[I", true)
  | 2 => ("TombLane$Debts", "good", "[I", true)
  | 3 => ("TombLane$Debts", "many", "[I", true)
  | 4 => ("TombLane$Debts", "from", "[I", true)
  | 5 => ("TombLane$Debts", "paid", "[I", true)
  | 6 => ("TombLane$Debts", "count", "I", false)
  | 7 => ("TombLane$Debts", "worths", "[I", true)
  | _ => ("TombLane$Debts", "balances", "[I", true)
def ty_De : Nat → FieldType := fun k => match k with
  | 0 => .array .int
  | 1 => .array .int
  | 2 => .array .int
  | 3 => .array .int
  | 4 => .array .int
  | 5 => .array .int
  | 6 => .int
  | 7 => .array .int
  | _ => .array .int
theorem nm_De : ∀ a, a < 9 → ∀ b, b < 9 → a ≠ b → (T_De a).2.1 ≠ (T_De b).2.1 := by decide +kernel
theorem ok_De : ∀ k, k < 9 → parseFieldDescriptor (T_De k).2.2.1 = some (ty_De k) := by decide +kernel
def T_Fk : u_T := fun k => match k with
  | 0 => ("TombLane$Flake", "found", "I", true)
  | 1 => ("TombLane$Flake", "lines", "Ljava/util/ArrayList;", true)
  | 2 => ("TombLane$Flake", "givenUp", "Z", false)
  | _ => ("TombLane$Flake", "givenUpOn", "I", false)
def ty_Fk : Nat → FieldType := fun k => match k with
  | 0 => .int
  | 1 => .object "java/util/ArrayList"
  | 2 => .boolean
  | _ => .int
theorem nm_Fk : ∀ a, a < 4 → ∀ b, b < 4 → a ≠ b → (T_Fk a).2.1 ≠ (T_Fk b).2.1 := by decide +kernel
theorem ok_Fk : ∀ k, k < 4 → parseFieldDescriptor (T_Fk k).2.2.1 = some (ty_Fk k) := by decide +kernel
def T_Re : u_T := fun k => match k with
  | 0 => ("TombLane$FlakeReader", "tokens", "LTombLane$Tokens;", true)
  | 1 => ("TombLane$FlakeReader", "men", "LTombLane$Men;", true)
  | 2 => ("TombLane$FlakeReader", "fault", "I", false)
  | 3 => ("TombLane$FlakeReader", "place", "I", false)
  | 4 => ("TombLane$FlakeReader", "expected", "I", false)
  | 5 => ("TombLane$FlakeReader", "lineDay", "I", false)
  | 6 => ("TombLane$FlakeReader", "line", "LTombLane$Line;", false)
  | _ => ("TombLane$FlakeReader", "named", "I", false)
def ty_Re : Nat → FieldType := fun k => match k with
  | 0 => .object "TombLane$Tokens"
  | 1 => .object "TombLane$Men"
  | 2 => .int
  | 3 => .int
  | 4 => .int
  | 5 => .int
  | 6 => .object "TombLane$Line"
  | _ => .int
theorem nm_Re : ∀ a, a < 8 → ∀ b, b < 8 → a ≠ b → (T_Re a).2.1 ≠ (T_Re b).2.1 := by decide +kernel
theorem ok_Re : ∀ k, k < 8 → parseFieldDescriptor (T_Re k).2.2.1 = some (ty_Re k) := by decide +kernel
def T_Fs : u_T := fun k => match k with
  | _ => ("TombLane$Flakes", "kept", "Ljava/util/ArrayList;", true)
def ty_Fs : Nat → FieldType := fun k => match k with
  | _ => .object "java/util/ArrayList"
theorem nm_Fs : ∀ a, a < 1 → ∀ b, b < 1 → a ≠ b → (T_Fs a).2.1 ≠ (T_Fs b).2.1 := by decide +kernel
theorem ok_Fs : ∀ k, k < 1 → parseFieldDescriptor (T_Fs k).2.2.1 = some (ty_Fs k) := by decide +kernel
def T_Li : u_T := fun k => match k with
  | 0 => ("TombLane$Line", "day", "I", true)
  | 1 => ("TombLane$Line", "side", "I", true)
  | 2 => ("TombLane$Line", "entries", "[I", true)
  | 3 => ("TombLane$Line", "gap", "Z", false)
  | _ => ("TombLane$Line", "wicksTold", "I", false)
def ty_Li : Nat → FieldType := fun k => match k with
  | 0 => .int
  | 1 => .int
  | 2 => .array .int
  | 3 => .boolean
  | _ => .int
theorem nm_Li : ∀ a, a < 5 → ∀ b, b < 5 → a ≠ b → (T_Li a).2.1 ≠ (T_Li b).2.1 := by decide +kernel
theorem ok_Li : ∀ k, k < 5 → parseFieldDescriptor (T_Li k).2.2.1 = some (ty_Li k) := by decide +kernel
def T_Me : u_T := fun k => match k with
  | 0 => ("TombLane$Men", "name", "[J", true)
  | 1 => ("TombLane$Men", "side", "[I", true)
  | 2 => ("TombLane$Men", "rank", "[I", true)
  | _ => ("TombLane$Men", "count", "I", false)
def ty_Me : Nat → FieldType := fun k => match k with
  | 0 => .array .long
  | 1 => .array .int
  | 2 => .array .int
  | _ => .int
theorem nm_Me : ∀ a, a < 4 → ∀ b, b < 4 → a ≠ b → (T_Me a).2.1 ≠ (T_Me b).2.1 := by decide +kernel
theorem ok_Me : ∀ k, k < 4 → parseFieldDescriptor (T_Me k).2.2.1 = some (ty_Me k) := by decide +kernel
def T_Ra : u_T := fun k => match k with
  | 0 => ("TombLane$Rations", "men", "LTombLane$Men;", true)
  | 1 => ("TombLane$Rations", "sacksByRank", "[I", true)
  | 2 => ("TombLane$Rations", "to", "[I", true)
  | 3 => ("TombLane$Rations", "on", "[I", true)
  | 4 => ("TombLane$Rations", "sacks", "[I", true)
  | _ => ("TombLane$Rations", "count", "I", false)
def ty_Ra : Nat → FieldType := fun k => match k with
  | 0 => .object "TombLane$Men"
  | 1 => .array .int
  | 2 => .array .int
  | 3 => .array .int
  | 4 => .array .int
  | _ => .int
theorem nm_Ra : ∀ a, a < 6 → ∀ b, b < 6 → a ≠ b → (T_Ra a).2.1 ≠ (T_Ra b).2.1 := by decide +kernel
theorem ok_Ra : ∀ k, k < 6 → parseFieldDescriptor (T_Ra k).2.2.1 = some (ty_Ra k) := by decide +kernel
def T_Se : u_T := fun k => match k with
  | 0 => ("TombLane$Settling", "sums", "[I", true)
  | _ => ("TombLane$Settling", "mostSets", "[I", true)
def ty_Se : Nat → FieldType := fun k => match k with
  | 0 => .array .int
  | _ => .array .int
theorem nm_Se : ∀ a, a < 2 → ∀ b, b < 2 → a ≠ b → (T_Se a).2.1 ≠ (T_Se b).2.1 := by decide +kernel
theorem ok_Se : ∀ k, k < 2 → parseFieldDescriptor (T_Se k).2.2.1 = some (ty_Se k) := by decide +kernel
def T_Ta : u_T := fun k => match k with
  | 0 => ("TombLane$Tape", "bytes", "[I", true)
  | _ => ("TombLane$Tape", "length", "I", false)
def ty_Ta : Nat → FieldType := fun k => match k with
  | 0 => .array .int
  | _ => .int
theorem nm_Ta : ∀ a, a < 2 → ∀ b, b < 2 → a ≠ b → (T_Ta a).2.1 ≠ (T_Ta b).2.1 := by decide +kernel
theorem ok_Ta : ∀ k, k < 2 → parseFieldDescriptor (T_Ta k).2.2.1 = some (ty_Ta k) := by decide +kernel
def T_To : u_T := fun k => match k with
  | 0 => ("TombLane$Tokens", "tape", "LTombLane$Tape;", true)
  | 1 => ("TombLane$Tokens", "next", "I", false)
  | 2 => ("TombLane$Tokens", "kind", "I", false)
  | 3 => ("TombLane$Tokens", "place", "I", false)
  | _ => ("TombLane$Tokens", "value", "J", false)
def ty_To : Nat → FieldType := fun k => match k with
  | 0 => .object "TombLane$Tape"
  | 1 => .int
  | 2 => .int
  | 3 => .int
  | _ => .long
theorem nm_To : ∀ a, a < 5 → ∀ b, b < 5 → a ≠ b → (T_To a).2.1 ≠ (T_To b).2.1 := by decide +kernel
theorem ok_To : ∀ k, k < 5 → parseFieldDescriptor (T_To k).2.2.1 = some (ty_To k) := by decide +kernel
def T_TL : u_T := fun k => match k with
  | 0 => ("TombLane", "men", "LTombLane$Men;", true)
  | 1 => ("TombLane", "tape", "LTombLane$Tape;", true)
  | 2 => ("TombLane", "reader", "LTombLane$FlakeReader;", true)
  | 3 => ("TombLane", "flakes", "LTombLane$Flakes;", true)
  | 4 => ("TombLane", "book", "LTombLane$DayBook;", true)
  | 5 => ("TombLane", "rations", "LTombLane$Rations;", true)
  | 6 => ("TombLane", "debts", "LTombLane$Debts;", true)
  | 7 => ("TombLane", "settling", "LTombLane$Settling;", true)
  | _ => ("TombLane", "date", "I", false)
def ty_TL : Nat → FieldType := fun k => match k with
  | 0 => .object "TombLane$Men"
  | 1 => .object "TombLane$Tape"
  | 2 => .object "TombLane$FlakeReader"
  | 3 => .object "TombLane$Flakes"
  | 4 => .object "TombLane$DayBook"
  | 5 => .object "TombLane$Rations"
  | 6 => .object "TombLane$Debts"
  | 7 => .object "TombLane$Settling"
  | _ => .int
theorem nm_TL : ∀ a, a < 9 → ∀ b, b < 9 → a ≠ b → (T_TL a).2.1 ≠ (T_TL b).2.1 := by decide +kernel
theorem ok_TL : ∀ k, k < 9 → parseFieldDescriptor (T_TL k).2.2.1 = some (ty_TL k) := by decide +kernel
def T_Mo : u_T := fun k => match k with
  | 0 => ("TombLaneModel", "names", "[J", true)
  | 1 => ("TombLaneModel", "sides", "[I", true)
  | 2 => ("TombLaneModel", "ranks", "[I", true)
  | 3 => ("TombLaneModel", "men", "I", false)
  | 4 => ("TombLaneModel", "date", "I", false)
  | 5 => ("TombLaneModel", "tape", "[B", true)
  | 6 => ("TombLaneModel", "text", "[B", true)
  | 7 => ("TombLaneModel", "taped", "I", false)
  | 8 => ("TombLaneModel", "size", "I", false)
  | 9 => ("TombLaneModel", "faultKind", "I", false)
  | 10 => ("TombLaneModel", "faultPlace", "I", false)
  | 11 => ("TombLaneModel", "at", "I", false)
  | 12 => ("TombLaneModel", "end", "I", false)
  | 13 => ("TombLaneModel", "token", "I", false)
  | 14 => ("TombLaneModel", "number", "I", false)
  | 15 => ("TombLaneModel", "name", "J", false)
  | 16 => ("TombLaneModel", "lineMany", "[I", true)
  | 17 => ("TombLaneModel", "lDay", "[I", true)
  | 18 => ("TombLaneModel", "lSide", "[I", true)
  | 19 => ("TombLaneModel", "lWicks", "[I", true)
  | 20 => ("TombLaneModel", "says", "[I", true)
  | 21 => ("TombLaneModel", "found", "[I", true)
  | 22 => ("TombLaneModel", "given", "[I", true)
  | 23 => ("TombLaneModel", "hasGap", "[Z", true)
  | 24 => ("TombLaneModel", "flakes", "I", false)
  | 25 => ("TombLaneModel", "did", "[I", true)
  | 26 => ("TombLaneModel", "wicksAre", "I", false)
  | 27 => ("TombLaneModel", "sacksOf", "[I", true)
  | 28 => ("TombLaneModel", "cMan", "[I", true)
  | 29 => ("TombLaneModel", "cDay", "[I", true)
  | 30 => ("TombLaneModel", "cSacks", "[I", true)
  | 31 => ("TombLaneModel", "worths", "[I", true)
  | 32 => ("TombLaneModel", "comes", "I", false)
  | 33 => ("TombLaneModel", "dBy", "[I", true)
  | 34 => ("TombLaneModel", "dTo", "[I", true)
  | 35 => ("TombLaneModel", "dGood", "[I", true)
  | 36 => ("TombLaneModel", "dMany", "[I", true)
  | 37 => ("TombLaneModel", "dDay", "[I", true)
  | 38 => ("TombLaneModel", "dPaid", "[I", true)
  | 39 => ("TombLaneModel", "sums", "[I", true)
  | 40 => ("TombLaneModel", "groups", "[I", true)
  | _ => ("TombLaneModel", "debts", "I", false)
def ty_Mo : Nat → FieldType := fun k => match k with
  | 0 => .array .long
  | 1 => .array .int
  | 2 => .array .int
  | 3 => .int
  | 4 => .int
  | 5 => .array .byte
  | 6 => .array .byte
  | 7 => .int
  | 8 => .int
  | 9 => .int
  | 10 => .int
  | 11 => .int
  | 12 => .int
  | 13 => .int
  | 14 => .int
  | 15 => .long
  | 16 => .array .int
  | 17 => .array .int
  | 18 => .array .int
  | 19 => .array .int
  | 20 => .array .int
  | 21 => .array .int
  | 22 => .array .int
  | 23 => .array .boolean
  | 24 => .int
  | 25 => .array .int
  | 26 => .int
  | 27 => .array .int
  | 28 => .array .int
  | 29 => .array .int
  | 30 => .array .int
  | 31 => .array .int
  | 32 => .int
  | 33 => .array .int
  | 34 => .array .int
  | 35 => .array .int
  | 36 => .array .int
  | 37 => .array .int
  | 38 => .array .int
  | 39 => .array .int
  | 40 => .array .int
  | _ => .int
theorem nm_Mo : ∀ a, a < 42 → ∀ b, b < 42 → a ≠ b → (T_Mo a).2.1 ≠ (T_Mo b).2.1 := by decide +kernel
theorem ok_Mo : ∀ k, k < 42 → parseFieldDescriptor (T_Mo k).2.2.1 = some (ty_Mo k) := by decide +kernel
abbrev vwCl : List vw_C := [("java/util/ArrayList", T_AL, 3), ("TombLane$DayBook", T_Dy, 6), ("TombLane$Debts", T_De, 9), ("TombLane$Flake", T_Fk, 4), ("TombLane$FlakeReader", T_Re, 8), ("TombLane$Flakes", T_Fs, 1), ("TombLane$Line", T_Li, 5), ("TombLane$Men", T_Me, 4), ("TombLane$Rations", T_Ra, 6), ("TombLane$Settling", T_Se, 2), ("TombLane$Tape", T_Ta, 2), ("TombLane$Tokens", T_To, 5), ("TombLane", T_TL, 9), ("TombLaneModel", T_Mo, 42)]
abbrev b_Dy_init : ByteArray := prog_2_method_1_code
def y_Dy_init : MethodName := ⟨"TombLane$DayBook", "<init>", "(LTombLane$Men;LTombLane$Flakes;)V"⟩
abbrev b_Dy_stateOf : ByteArray := prog_2_method_2_code
def y_Dy_stateOf : MethodName := ⟨"TombLane$DayBook", "stateOf", "(III)I"⟩
abbrev b_Dy_daysByState : ByteArray := prog_2_method_3_code
def y_Dy_daysByState : MethodName := ⟨"TombLane$DayBook", "daysByState", "(III)[I"⟩
abbrev b_Dy_reckon : ByteArray := prog_2_method_4_code
def y_Dy_reckon : MethodName := ⟨"TombLane$DayBook", "reckon", "(III)I"⟩
abbrev b_Dy_hearFlake : ByteArray := prog_2_method_5_code
def y_Dy_hearFlake : MethodName := ⟨"TombLane$DayBook", "hearFlake", "(LTombLane$Flake;II)V"⟩
abbrev b_Dy_hearLine : ByteArray := prog_2_method_6_code
def y_Dy_hearLine : MethodName := ⟨"TombLane$DayBook", "hearLine", "(LTombLane$Line;)V"⟩
abbrev b_Dy_joined : ByteArray := prog_2_method_7_code
def y_Dy_joined : MethodName := ⟨"TombLane$DayBook", "joined", "(II)I"⟩
abbrev b_Dy_narrow : ByteArray := prog_2_method_8_code
def y_Dy_narrow : MethodName := ⟨"TombLane$DayBook", "narrow", "(I)I"⟩
abbrev b_Dy_menThatAre : ByteArray := prog_2_method_9_code
def y_Dy_menThatAre : MethodName := ⟨"TombLane$DayBook", "menThatAre", "(II)I"⟩
abbrev b_Dy_closeOpen : ByteArray := prog_2_method_10_code
def y_Dy_closeOpen : MethodName := ⟨"TombLane$DayBook", "closeOpen", "(II)V"⟩
abbrev b_De_init : ByteArray := prog_3_method_1_code
def y_De_init : MethodName := ⟨"TombLane$Debts", "<init>", "()V"⟩
abbrev b_De_setWorth : ByteArray := prog_3_method_2_code
def y_De_setWorth : MethodName := ⟨"TombLane$Debts", "setWorth", "(III)Z"⟩
abbrev b_De_add : ByteArray := prog_3_method_3_code
def y_De_add : MethodName := ⟨"TombLane$Debts", "add", "(IIIII)I"⟩
abbrev b_De_setPaid : ByteArray := prog_3_method_4_code
def y_De_setPaid : MethodName := ⟨"TombLane$Debts", "setPaid", "(II)Z"⟩
abbrev b_De_balancesOn : ByteArray := prog_3_method_5_code
def y_De_balancesOn : MethodName := ⟨"TombLane$Debts", "balancesOn", "(I)[I"⟩
abbrev b_Fk_init : ByteArray := prog_4_method_1_code
def y_Fk_init : MethodName := ⟨"TombLane$Flake", "<init>", "(I)V"⟩
abbrev b_Fk_counts : ByteArray := prog_4_method_2_code
def y_Fk_counts : MethodName := ⟨"TombLane$Flake", "counts", "(I)Z"⟩
abbrev b_Re_init : ByteArray := prog_5_method_1_code
def y_Re_init : MethodName := ⟨"TombLane$FlakeReader", "<init>", "(LTombLane$Tape;LTombLane$Men;)V"⟩
abbrev b_Re_read : ByteArray := prog_5_method_2_code
def y_Re_read : MethodName := ⟨"TombLane$FlakeReader", "read", "(LTombLane$Flake;)Z"⟩
abbrev b_Re_faultOfToken : ByteArray := prog_5_method_3_code
def y_Re_faultOfToken : MethodName := ⟨"TombLane$FlakeReader", "faultOfToken", "(LTombLane$Flake;)I"⟩
abbrev b_Re_takeLine : ByteArray := prog_5_method_4_code
def y_Re_takeLine : MethodName := ⟨"TombLane$FlakeReader", "takeLine", "(LTombLane$Flake;)I"⟩
abbrev b_Re_takeDayNumber : ByteArray := prog_5_method_5_code
def y_Re_takeDayNumber : MethodName := ⟨"TombLane$FlakeReader", "takeDayNumber", "()I"⟩
abbrev b_Re_takeGang : ByteArray := prog_5_method_6_code
def y_Re_takeGang : MethodName := ⟨"TombLane$FlakeReader", "takeGang", "(LTombLane$Flake;)I"⟩
abbrev b_Re_takeSign : ByteArray := prog_5_method_7_code
def y_Re_takeSign : MethodName := ⟨"TombLane$FlakeReader", "takeSign", "(CI)I"⟩
abbrev b_Re_takeEntry : ByteArray := prog_5_method_8_code
def y_Re_takeEntry : MethodName := ⟨"TombLane$FlakeReader", "takeEntry", "()I"⟩
abbrev b_Re_takeName : ByteArray := prog_5_method_9_code
def y_Re_takeName : MethodName := ⟨"TombLane$FlakeReader", "takeName", "()I"⟩
abbrev b_Re_takeToldOfName : ByteArray := prog_5_method_10_code
def y_Re_takeToldOfName : MethodName := ⟨"TombLane$FlakeReader", "takeToldOfName", "()I"⟩
abbrev b_Re_takeWicksNumber : ByteArray := prog_5_method_11_code
def y_Re_takeWicksNumber : MethodName := ⟨"TombLane$FlakeReader", "takeWicksNumber", "()I"⟩
abbrev b_Re_expect : ByteArray := prog_5_method_12_code
def y_Re_expect : MethodName := ⟨"TombLane$FlakeReader", "expect", "(I)I"⟩
abbrev b_Fs_init : ByteArray := prog_6_method_1_code
def y_Fs_init : MethodName := ⟨"TombLane$Flakes", "<init>", "()V"⟩
abbrev b_Fs_count : ByteArray := prog_6_method_2_code
def y_Fs_count : MethodName := ⟨"TombLane$Flakes", "count", "()I"⟩
abbrev b_Fs_isFull : ByteArray := prog_6_method_3_code
def y_Fs_isFull : MethodName := ⟨"TombLane$Flakes", "isFull", "()Z"⟩
abbrev b_Fs_keep : ByteArray := prog_6_method_4_code
def y_Fs_keep : MethodName := ⟨"TombLane$Flakes", "keep", "(LTombLane$Flake;)I"⟩
abbrev b_Fs_giveUpOn : ByteArray := prog_6_method_5_code
def y_Fs_giveUpOn : MethodName := ⟨"TombLane$Flakes", "giveUpOn", "(II)Z"⟩
abbrev b_Fs_linesOf : ByteArray := prog_6_method_6_code
def y_Fs_linesOf : MethodName := ⟨"TombLane$Flakes", "linesOf", "(I)I"⟩
abbrev b_Li_init : ByteArray := prog_7_method_1_code
def y_Li_init : MethodName := ⟨"TombLane$Line", "<init>", "(II)V"⟩
abbrev b_Li_isOf : ByteArray := prog_7_method_2_code
def y_Li_isOf : MethodName := ⟨"TombLane$Line", "isOf", "(II)Z"⟩
abbrev b_Li_names : ByteArray := prog_7_method_3_code
def y_Li_names : MethodName := ⟨"TombLane$Line", "names", "(I)Z"⟩
abbrev b_Li_tells : ByteArray := prog_7_method_4_code
def y_Li_tells : MethodName := ⟨"TombLane$Line", "tells", "(I)I"⟩
abbrev b_Me_init : ByteArray := prog_8_method_1_code
def y_Me_init : MethodName := ⟨"TombLane$Men", "<init>", "()V"⟩
abbrev b_Me_has : ByteArray := prog_8_method_2_code
def y_Me_has : MethodName := ⟨"TombLane$Men", "has", "(I)Z"⟩
abbrev b_Me_add : ByteArray := prog_8_method_3_code
def y_Me_add : MethodName := ⟨"TombLane$Men", "add", "(JII)I"⟩
abbrev b_Me_find : ByteArray := prog_8_method_4_code
def y_Me_find : MethodName := ⟨"TombLane$Men", "find", "(J)I"⟩
abbrev b_Me_findInGang : ByteArray := prog_8_method_5_code
def y_Me_findInGang : MethodName := ⟨"TombLane$Men", "findInGang", "(JI)I"⟩
abbrev b_Ra_init : ByteArray := prog_9_method_1_code
def y_Ra_init : MethodName := ⟨"TombLane$Rations", "<init>", "(LTombLane$Men;)V"⟩
abbrev b_Ra_setSacks : ByteArray := prog_9_method_2_code
def y_Ra_setSacks : MethodName := ⟨"TombLane$Rations", "setSacks", "(II)Z"⟩
abbrev b_Ra_take : ByteArray := prog_9_method_3_code
def y_Ra_take : MethodName := ⟨"TombLane$Rations", "take", "(III)I"⟩
abbrev b_Ra_owedTo : ByteArray := prog_9_method_4_code
def y_Ra_owedTo : MethodName := ⟨"TombLane$Rations", "owedTo", "(II)I"⟩
abbrev b_Se_init : ByteArray := prog_10_method_1_code
def y_Se_init : MethodName := ⟨"TombLane$Settling", "<init>", "()V"⟩
abbrev b_Se_payments : ByteArray := prog_10_method_2_code
def y_Se_payments : MethodName := ⟨"TombLane$Settling", "payments", "([I)I"⟩
abbrev b_Se_mostSetsAmong : ByteArray := prog_10_method_3_code
def y_Se_mostSetsAmong : MethodName := ⟨"TombLane$Settling", "mostSetsAmong", "(I)I"⟩
abbrev b_Se_mostSetsWithin : ByteArray := prog_10_method_4_code
def y_Se_mostSetsWithin : MethodName := ⟨"TombLane$Settling", "mostSetsWithin", "(II)I"⟩
abbrev b_Ta_init : ByteArray := prog_11_method_1_code
def y_Ta_init : MethodName := ⟨"TombLane$Tape", "<init>", "()V"⟩
abbrev b_Ta_hasRoomFor : ByteArray := prog_11_method_2_code
def y_Ta_hasRoomFor : MethodName := ⟨"TombLane$Tape", "hasRoomFor", "(I)Z"⟩
abbrev b_Ta_append : ByteArray := prog_11_method_3_code
def y_Ta_append : MethodName := ⟨"TombLane$Tape", "append", "(I)V"⟩
abbrev b_Ta_cut : ByteArray := prog_11_method_4_code
def y_Ta_cut : MethodName := ⟨"TombLane$Tape", "cut", "(I)Z"⟩
abbrev b_Ta_at : ByteArray := prog_11_method_5_code
def y_Ta_at : MethodName := ⟨"TombLane$Tape", "at", "(I)I"⟩
abbrev b_To_init : ByteArray := prog_12_method_1_code
def y_To_init : MethodName := ⟨"TombLane$Tokens", "<init>", "(LTombLane$Tape;)V"⟩
abbrev b_To_restart : ByteArray := prog_12_method_2_code
def y_To_restart : MethodName := ⟨"TombLane$Tokens", "restart", "()V"⟩
abbrev b_To_advance : ByteArray := prog_12_method_3_code
def y_To_advance : MethodName := ⟨"TombLane$Tokens", "advance", "()V"⟩
abbrev b_To_skipBlanks : ByteArray := prog_12_method_4_code
def y_To_skipBlanks : MethodName := ⟨"TombLane$Tokens", "skipBlanks", "()V"⟩
abbrev b_To_readWord : ByteArray := prog_12_method_5_code
def y_To_readWord : MethodName := ⟨"TombLane$Tokens", "readWord", "()V"⟩
abbrev b_To_readNumber : ByteArray := prog_12_method_6_code
def y_To_readNumber : MethodName := ⟨"TombLane$Tokens", "readNumber", "()V"⟩
abbrev b_To_readSign : ByteArray := prog_12_method_7_code
def y_To_readSign : MethodName := ⟨"TombLane$Tokens", "readSign", "(I)V"⟩
abbrev b_To_isSign : ByteArray := prog_12_method_8_code
def y_To_isSign : MethodName := ⟨"TombLane$Tokens", "isSign", "(C)Z"⟩
abbrev b_To_isWord : ByteArray := prog_12_method_9_code
def y_To_isWord : MethodName := ⟨"TombLane$Tokens", "isWord", "(J)Z"⟩
abbrev b_TL_init : ByteArray := prog_1_method_1_code
def y_TL_init : MethodName := ⟨"TombLane", "<init>", "()V"⟩
abbrev b_TL_man : ByteArray := prog_1_method_2_code
def y_TL_man : MethodName := ⟨"TombLane", "man", "(JII)I"⟩
abbrev b_TL_feed : ByteArray := prog_1_method_3_code
def y_TL_feed : MethodName := ⟨"TombLane", "feed", "(IIIII)I"⟩
abbrev b_TL_end : ByteArray := prog_1_method_4_code
def y_TL_end : MethodName := ⟨"TombLane", "end", "(I)I"⟩
abbrev b_TL_flake : ByteArray := prog_1_method_5_code
def y_TL_flake : MethodName := ⟨"TombLane", "flake", "()I"⟩
abbrev b_TL_fault : ByteArray := prog_1_method_6_code
def y_TL_fault : MethodName := ⟨"TombLane", "fault", "(I)I"⟩
abbrev b_TL_giveUp : ByteArray := prog_1_method_7_code
def y_TL_giveUp : MethodName := ⟨"TombLane", "giveUp", "(I)Z"⟩
abbrev b_TL_later : ByteArray := prog_1_method_8_code
def y_TL_later : MethodName := ⟨"TombLane", "later", "(I)I"⟩
abbrev b_TL_day : ByteArray := prog_1_method_9_code
def y_TL_day : MethodName := ⟨"TombLane", "day", "(III)I"⟩
abbrev b_TL_wicks : ByteArray := prog_1_method_10_code
def y_TL_wicks : MethodName := ⟨"TombLane", "wicks", "(III)I"⟩
abbrev b_TL_span : ByteArray := prog_1_method_11_code
def y_TL_span : MethodName := ⟨"TombLane", "span", "(IIIZ)I"⟩
abbrev b_TL_missed : ByteArray := prog_1_method_12_code
def y_TL_missed : MethodName := ⟨"TombLane", "missed", "(IIII)I"⟩
abbrev b_TL_ration : ByteArray := prog_1_method_13_code
def y_TL_ration : MethodName := ⟨"TombLane", "ration", "(II)Z"⟩
abbrev b_TL_come : ByteArray := prog_1_method_14_code
def y_TL_come : MethodName := ⟨"TombLane", "come", "(III)I"⟩
abbrev b_TL_arrears : ByteArray := prog_1_method_15_code
def y_TL_arrears : MethodName := ⟨"TombLane", "arrears", "(II)I"⟩
abbrev b_TL_worth : ByteArray := prog_1_method_16_code
def y_TL_worth : MethodName := ⟨"TombLane", "worth", "(III)Z"⟩
abbrev b_TL_debt : ByteArray := prog_1_method_17_code
def y_TL_debt : MethodName := ⟨"TombLane", "debt", "(IIIII)I"⟩
abbrev b_TL_pay : ByteArray := prog_1_method_18_code
def y_TL_pay : MethodName := ⟨"TombLane", "pay", "(II)Z"⟩
abbrev b_TL_balance : ByteArray := prog_1_method_19_code
def y_TL_balance : MethodName := ⟨"TombLane", "balance", "(II)I"⟩
abbrev b_TL_fewest : ByteArray := prog_1_method_20_code
def y_TL_fewest : MethodName := ⟨"TombLane", "fewest", "(I)I"⟩
abbrev b_TL_of : ByteArray := prog_1_method_21_code
def y_TL_of : MethodName := ⟨"TombLane", "of", "(II)I"⟩
abbrev b_TL_about : ByteArray := prog_1_method_22_code
def y_TL_about : MethodName := ⟨"TombLane", "about", "(I)I"⟩
abbrev b_TL_isBelow : ByteArray := prog_1_method_23_code
def y_TL_isBelow : MethodName := ⟨"TombLane", "isBelow", "(II)Z"⟩
abbrev b_TL_isLetter : ByteArray := prog_1_method_24_code
def y_TL_isLetter : MethodName := ⟨"TombLane", "isLetter", "(I)Z"⟩
abbrev b_TL_isDigit : ByteArray := prog_1_method_25_code
def y_TL_isDigit : MethodName := ⟨"TombLane", "isDigit", "(I)Z"⟩
abbrev b_TL_lettersOf : ByteArray := prog_1_method_26_code
def y_TL_lettersOf : MethodName := ⟨"TombLane", "lettersOf", "(J)I"⟩
abbrev b_TL_reasonOf : ByteArray := prog_1_method_27_code
def y_TL_reasonOf : MethodName := ⟨"TombLane", "reasonOf", "(J)I"⟩
abbrev b_TL_sideOf : ByteArray := prog_1_method_28_code
def y_TL_sideOf : MethodName := ⟨"TombLane", "sideOf", "(J)I"⟩
abbrev b_TL_isFree : ByteArray := prog_1_method_29_code
def y_TL_isFree : MethodName := ⟨"TombLane", "isFree", "(J)Z"⟩
abbrev b_Mo_isMan : ByteArray := prog_14_method_1_code
def y_Mo_isMan : MethodName := ⟨"TombLaneModel", "isMan", "(I)Z"⟩
abbrev b_Mo_isLetter : ByteArray := prog_14_method_2_code
def y_Mo_isLetter : MethodName := ⟨"TombLaneModel", "isLetter", "(I)Z"⟩
abbrev b_Mo_isDigit : ByteArray := prog_14_method_3_code
def y_Mo_isDigit : MethodName := ⟨"TombLaneModel", "isDigit", "(I)Z"⟩
abbrev b_Mo_reasonOf : ByteArray := prog_14_method_4_code
def y_Mo_reasonOf : MethodName := ⟨"TombLaneModel", "reasonOf", "(J)I"⟩
abbrev b_Mo_isKept : ByteArray := prog_14_method_5_code
def y_Mo_isKept : MethodName := ⟨"TombLaneModel", "isKept", "(J)Z"⟩
abbrev b_Mo_lettersOf : ByteArray := prog_14_method_6_code
def y_Mo_lettersOf : MethodName := ⟨"TombLaneModel", "lettersOf", "(J)I"⟩
abbrev b_Mo_isName : ByteArray := prog_14_method_7_code
def y_Mo_isName : MethodName := ⟨"TombLaneModel", "isName", "(J)Z"⟩
abbrev b_Mo_manOf : ByteArray := prog_14_method_8_code
def y_Mo_manOf : MethodName := ⟨"TombLaneModel", "manOf", "(J)I"⟩
abbrev b_Mo_man : ByteArray := prog_14_method_9_code
def y_Mo_man : MethodName := ⟨"TombLaneModel", "man", "(JII)I"⟩
abbrev b_Mo_of : ByteArray := prog_14_method_10_code
def y_Mo_of : MethodName := ⟨"TombLaneModel", "of", "(II)I"⟩
abbrev b_Mo_sign : ByteArray := prog_14_method_11_code
def y_Mo_sign : MethodName := ⟨"TombLaneModel", "sign", "(I)I"⟩
abbrev b_Mo_fails : ByteArray := prog_14_method_12_code
def y_Mo_fails : MethodName := ⟨"TombLaneModel", "fails", "(II)V"⟩
abbrev b_Mo_isGood : ByteArray := prog_14_method_13_code
def y_Mo_isGood : MethodName := ⟨"TombLaneModel", "isGood", "()Z"⟩
abbrev b_Mo_next : ByteArray := prog_14_method_14_code
def y_Mo_next : MethodName := ⟨"TombLaneModel", "next", "()V"⟩
abbrev b_Mo_is : ByteArray := prog_14_method_15_code
def y_Mo_is : MethodName := ⟨"TombLaneModel", "is", "(I)Z"⟩
abbrev b_Mo_isWord : ByteArray := prog_14_method_16_code
def y_Mo_isWord : MethodName := ⟨"TombLaneModel", "isWord", "(J)Z"⟩
abbrev b_Mo_wrong : ByteArray := prog_14_method_17_code
def y_Mo_wrong : MethodName := ⟨"TombLaneModel", "wrong", "()V"⟩
abbrev b_Mo_must : ByteArray := prog_14_method_18_code
def y_Mo_must : MethodName := ⟨"TombLaneModel", "must", "(Z)V"⟩
abbrev b_Mo_flake : ByteArray := prog_14_method_19_code
def y_Mo_flake : MethodName := ⟨"TombLaneModel", "flake", "()I"⟩
abbrev b_Mo_readLine : ByteArray := prog_14_method_20_code
def y_Mo_readLine : MethodName := ⟨"TombLaneModel", "readLine", "()V"⟩
abbrev b_Mo_readEntry : ByteArray := prog_14_method_21_code
def y_Mo_readEntry : MethodName := ⟨"TombLaneModel", "readEntry", "(I)V"⟩
abbrev b_Mo_readWicks : ByteArray := prog_14_method_22_code
def y_Mo_readWicks : MethodName := ⟨"TombLaneModel", "readWicks", "(I)V"⟩
abbrev b_Mo_fault : ByteArray := prog_14_method_23_code
def y_Mo_fault : MethodName := ⟨"TombLaneModel", "fault", "(I)I"⟩
abbrev b_Mo_giveUp : ByteArray := prog_14_method_24_code
def y_Mo_giveUp : MethodName := ⟨"TombLaneModel", "giveUp", "(I)Z"⟩
abbrev b_Mo_later : ByteArray := prog_14_method_25_code
def y_Mo_later : MethodName := ⟨"TombLaneModel", "later", "(I)I"⟩
abbrev b_Mo_counts : ByteArray := prog_14_method_26_code
def y_Mo_counts : MethodName := ⟨"TombLaneModel", "counts", "(II)Z"⟩
abbrev b_Mo_saysOf : ByteArray := prog_14_method_27_code
def y_Mo_saysOf : MethodName := ⟨"TombLaneModel", "saysOf", "(II)I"⟩
abbrev b_Mo_tellDay : ByteArray := prog_14_method_28_code
def y_Mo_tellDay : MethodName := ⟨"TombLaneModel", "tellDay", "(III)V"⟩
abbrev b_Mo_joined : ByteArray := prog_14_method_29_code
def y_Mo_joined : MethodName := ⟨"TombLaneModel", "joined", "(II)I"⟩
abbrev b_Mo_burn : ByteArray := prog_14_method_30_code
def y_Mo_burn : MethodName := ⟨"TombLaneModel", "burn", "(II)I"⟩
abbrev b_Mo_isDay : ByteArray := prog_14_method_31_code
def y_Mo_isDay : MethodName := ⟨"TombLaneModel", "isDay", "(I)Z"⟩
abbrev b_Mo_dayOf : ByteArray := prog_14_method_32_code
def y_Mo_dayOf : MethodName := ⟨"TombLaneModel", "dayOf", "(III)I"⟩
abbrev b_Mo_day : ByteArray := prog_14_method_33_code
def y_Mo_day : MethodName := ⟨"TombLaneModel", "day", "(III)I"⟩
abbrev b_Mo_wicks : ByteArray := prog_14_method_34_code
def y_Mo_wicks : MethodName := ⟨"TombLaneModel", "wicks", "(III)I"⟩
abbrev b_Mo_isMonth : ByteArray := prog_14_method_35_code
def y_Mo_isMonth : MethodName := ⟨"TombLaneModel", "isMonth", "(I)Z"⟩
abbrev b_Mo_span : ByteArray := prog_14_method_36_code
def y_Mo_span : MethodName := ⟨"TombLaneModel", "span", "(IIIZ)I"⟩
abbrev b_Mo_missed : ByteArray := prog_14_method_37_code
def y_Mo_missed : MethodName := ⟨"TombLaneModel", "missed", "(IIII)I"⟩
abbrev b_Mo_init : ByteArray := prog_14_method_38_code
def y_Mo_init : MethodName := ⟨"TombLaneModel", "<init>", "()V"⟩
abbrev b_Mo_ration : ByteArray := prog_14_method_39_code
def y_Mo_ration : MethodName := ⟨"TombLaneModel", "ration", "(II)Z"⟩
abbrev b_Mo_come : ByteArray := prog_14_method_40_code
def y_Mo_come : MethodName := ⟨"TombLaneModel", "come", "(III)I"⟩
abbrev b_Mo_arrears : ByteArray := prog_14_method_41_code
def y_Mo_arrears : MethodName := ⟨"TombLaneModel", "arrears", "(II)I"⟩
abbrev b_Mo_worth : ByteArray := prog_14_method_42_code
def y_Mo_worth : MethodName := ⟨"TombLaneModel", "worth", "(III)Z"⟩
abbrev b_Mo_debt : ByteArray := prog_14_method_43_code
def y_Mo_debt : MethodName := ⟨"TombLaneModel", "debt", "(IIIII)I"⟩
abbrev b_Mo_pay : ByteArray := prog_14_method_44_code
def y_Mo_pay : MethodName := ⟨"TombLaneModel", "pay", "(II)Z"⟩
abbrev b_Mo_balanceOf : ByteArray := prog_14_method_45_code
def y_Mo_balanceOf : MethodName := ⟨"TombLaneModel", "balanceOf", "(II)I"⟩
abbrev b_Mo_balance : ByteArray := prog_14_method_46_code
def y_Mo_balance : MethodName := ⟨"TombLaneModel", "balance", "(II)I"⟩
abbrev b_Mo_fewest : ByteArray := prog_14_method_47_code
def y_Mo_fewest : MethodName := ⟨"TombLaneModel", "fewest", "(I)I"⟩
abbrev b_Mo_about : ByteArray := prog_14_method_48_code
def y_Mo_about : MethodName := ⟨"TombLaneModel", "about", "(I)I"⟩
abbrev b_Mo_feed : ByteArray := prog_14_method_49_code
def y_Mo_feed : MethodName := ⟨"TombLaneModel", "feed", "(IIIII)I"⟩
abbrev b_Mo_end : ByteArray := prog_14_method_50_code
def y_Mo_end : MethodName := ⟨"TombLaneModel", "end", "(I)I"⟩
abbrev b_Ma_max : ByteArray := prog_18_method_65_code
def y_Ma_max : MethodName := ⟨"java/lang/Math", "max", "(II)I"⟩
abbrev b_Ma_min : ByteArray := prog_18_method_69_code
def y_Ma_min : MethodName := ⟨"java/lang/Math", "min", "(II)I"⟩
abbrev b_AbC_init : ByteArray := prog_20_method_1_code
def y_AbC_init : MethodName := ⟨"java/util/AbstractCollection", "<init>", "()V"⟩
abbrev b_AbL_init : ByteArray := prog_21_method_1_code
def y_AbL_init : MethodName := ⟨"java/util/AbstractList", "<init>", "()V"⟩
abbrev b_AL_init : ByteArray := prog_22_method_2_code
def y_AL_init : MethodName := ⟨"java/util/ArrayList", "<init>", "()V"⟩
abbrev b_AL_grow1 : ByteArray := prog_22_method_6_code
def y_AL_grow1 : MethodName := ⟨"java/util/ArrayList", "grow", "(I)[Ljava/lang/Object;"⟩
abbrev b_AL_grow0 : ByteArray := prog_22_method_7_code
def y_AL_grow0 : MethodName := ⟨"java/util/ArrayList", "grow", "()[Ljava/lang/Object;"⟩
abbrev b_AL_size : ByteArray := prog_22_method_8_code
def y_AL_size : MethodName := ⟨"java/util/ArrayList", "size", "()I"⟩
abbrev b_AL_elementData : ByteArray := prog_22_method_18_code
def y_AL_elementData : MethodName := ⟨"java/util/ArrayList", "elementData", "(I)Ljava/lang/Object;"⟩
abbrev b_AL_get : ByteArray := prog_22_method_20_code
def y_AL_get : MethodName := ⟨"java/util/ArrayList", "get", "(I)Ljava/lang/Object;"⟩
abbrev b_AL_add3 : ByteArray := prog_22_method_24_code
def y_AL_add3 : MethodName := ⟨"java/util/ArrayList", "add", "(Ljava/lang/Object;[Ljava/lang/Object;I)V"⟩
abbrev b_AL_add : ByteArray := prog_22_method_25_code
def y_AL_add : MethodName := ⟨"java/util/ArrayList", "add", "(Ljava/lang/Object;)Z"⟩
abbrev b_As_copyOf : ByteArray := prog_23_method_119_code
def y_As_copyOf : MethodName := ⟨"java/util/Arrays", "copyOf", "([Ljava/lang/Object;I)[Ljava/lang/Object;"⟩
abbrev b_As_copyOf3 : ByteArray := prog_23_method_120_code
def y_As_copyOf3 : MethodName := ⟨"java/util/Arrays", "copyOf", "([Ljava/lang/Object;ILjava/lang/Class;)[Ljava/lang/Object;"⟩
abbrev b_Ob_checkIndex : ByteArray := prog_26_method_17_code
def y_Ob_checkIndex : MethodName := ⟨"java/util/Objects", "checkIndex", "(II)I"⟩
abbrev b_Su_newLength : ByteArray := prog_29_method_27_code
def y_Su_newLength : MethodName := ⟨"jdk/internal/util/ArraysSupport", "newLength", "(III)I"⟩
abbrev b_Su_hugeLength : ByteArray := prog_29_method_28_code
def y_Su_hugeLength : MethodName := ⟨"jdk/internal/util/ArraysSupport", "hugeLength", "(II)I"⟩
abbrev b_Pr_checkIndex : ByteArray := prog_30_method_11_code
def y_Pr_checkIndex : MethodName := ⟨"jdk/internal/util/Preconditions", "checkIndex", "(IILjava/util/function/BiFunction;)I"⟩
abbrev b_La_law : ByteArray := code
def y_La_law : MethodName := ⟨"TombLaneLaw", "law", "([I)Z"⟩
def big : List Cond := lw_tbl.filter goodWord
theorem big_mem {w : Cond} (i : Nat) (h : lw_tbl[i]? = some w) (g : goodWord w = true) : w ∈ big := List.mem_filter.mpr ⟨List.mem_of_getElem? h, g⟩
def isN : Cond → Bool
  | .fieldLinkNest _ _ _ _ _ _ => true
  | .methodLinkNest _ _ _ _ => true
  | .castable _ _ => true
  | .declares _ => true
  | _ => false
def nn : List Cond := lw_tbl.filter isN
theorem nn_mem {w : Cond} (i : Nat) (h : lw_tbl[i]? = some w) (g : isN w = true) : w ∈ nn := List.mem_filter.mpr ⟨List.mem_of_getElem? h, g⟩
def dq (b : ByteArray) (pc : Nat) (i : Instr) (q : Nat) : Prop := ∃ n : Nat, decode b pc = .ok (i, n) ∧ pc + n = q
def dj (b : ByteArray) (pc : Nat) (i : Int → Instr) (q tgt : Nat) : Prop := ∃ off : Int, decode b pc = .ok (i off, 3) ∧ pc + 3 = q ∧ (pc : Int) + off = (tgt : Int)
theorem in_AL : ∀ w ∈ u_ws "java/util/ArrayList" T_AL 3, w ∈ big := by
  intro w hw
  have h : u_ws "java/util/ArrayList" T_AL 3 = [265, 261, 263].filterMap (fun i => lw_tbl[i]?) := by decide +kernel
  have g : (u_ws "java/util/ArrayList" T_AL 3).all goodWord = true := by decide +kernel
  refine List.mem_filter.mpr ⟨?_, List.all_eq_true.mp g w hw⟩
  rw [h] at hw
  obtain ⟨i, -, hi⟩ := List.mem_filterMap.mp hw
  exact List.mem_of_getElem? hi
theorem in_Dy : ∀ w ∈ u_ws "TombLane$DayBook" T_Dy 6, w ∈ big := by
  intro w hw
  have h : u_ws "TombLane$DayBook" T_Dy 6 = [285, 287, 289, 291, 293, 295].filterMap (fun i => lw_tbl[i]?) := by decide +kernel
  have g : (u_ws "TombLane$DayBook" T_Dy 6).all goodWord = true := by decide +kernel
  refine List.mem_filter.mpr ⟨?_, List.all_eq_true.mp g w hw⟩
  rw [h] at hw
  obtain ⟨i, -, hi⟩ := List.mem_filterMap.mp hw
  exact List.mem_of_getElem? hi
theorem in_De : ∀ w ∈ u_ws "TombLane$Debts" T_De 9, w ∈ big := by
  intro w hw
  have h : u_ws "TombLane$Debts" T_De 9 = [340, 342, 344, 346, 348, 350, 352, 354, 356].filterMap (fun i => lw_tbl[i]?) := by decide +kernel
  have g : (u_ws "TombLane$Debts" T_De 9).all goodWord = true := by decide +kernel
  refine List.mem_filter.mpr ⟨?_, List.all_eq_true.mp g w hw⟩
  rw [h] at hw
  obtain ⟨i, -, hi⟩ := List.mem_filterMap.mp hw
  exact List.mem_of_getElem? hi
theorem in_Fk : ∀ w ∈ u_ws "TombLane$Flake" T_Fk 4, w ∈ big := by
  intro w hw
  have h : u_ws "TombLane$Flake" T_Fk 4 = [488, 490, 492, 494].filterMap (fun i => lw_tbl[i]?) := by decide +kernel
  have g : (u_ws "TombLane$Flake" T_Fk 4).all goodWord = true := by decide +kernel
  refine List.mem_filter.mpr ⟨?_, List.all_eq_true.mp g w hw⟩
  rw [h] at hw
  obtain ⟨i, -, hi⟩ := List.mem_filterMap.mp hw
  exact List.mem_of_getElem? hi
theorem in_Re : ∀ w ∈ u_ws "TombLane$FlakeReader" T_Re 8, w ∈ big := by
  intro w hw
  have h : u_ws "TombLane$FlakeReader" T_Re 8 = [219, 221, 223, 225, 227, 229, 231, 233].filterMap (fun i => lw_tbl[i]?) := by decide +kernel
  have g : (u_ws "TombLane$FlakeReader" T_Re 8).all goodWord = true := by decide +kernel
  refine List.mem_filter.mpr ⟨?_, List.all_eq_true.mp g w hw⟩
  rw [h] at hw
  obtain ⟨i, -, hi⟩ := List.mem_filterMap.mp hw
  exact List.mem_of_getElem? hi
theorem in_Fs : ∀ w ∈ u_ws "TombLane$Flakes" T_Fs 1, w ∈ big := by
  intro w hw
  have h : u_ws "TombLane$Flakes" T_Fs 1 = [270].filterMap (fun i => lw_tbl[i]?) := by decide +kernel
  have g : (u_ws "TombLane$Flakes" T_Fs 1).all goodWord = true := by decide +kernel
  refine List.mem_filter.mpr ⟨?_, List.all_eq_true.mp g w hw⟩
  rw [h] at hw
  obtain ⟨i, -, hi⟩ := List.mem_filterMap.mp hw
  exact List.mem_of_getElem? hi
theorem in_Li : ∀ w ∈ u_ws "TombLane$Line" T_Li 5, w ∈ big := by
  intro w hw
  have h : u_ws "TombLane$Line" T_Li 5 = [173, 175, 177, 179, 181].filterMap (fun i => lw_tbl[i]?) := by decide +kernel
  have g : (u_ws "TombLane$Line" T_Li 5).all goodWord = true := by decide +kernel
  refine List.mem_filter.mpr ⟨?_, List.all_eq_true.mp g w hw⟩
  rw [h] at hw
  obtain ⟨i, -, hi⟩ := List.mem_filterMap.mp hw
  exact List.mem_of_getElem? hi
theorem in_Me : ∀ w ∈ u_ws "TombLane$Men" T_Me 4, w ∈ big := by
  intro w hw
  have h : u_ws "TombLane$Men" T_Me 4 = [124, 126, 128, 130].filterMap (fun i => lw_tbl[i]?) := by decide +kernel
  have g : (u_ws "TombLane$Men" T_Me 4).all goodWord = true := by decide +kernel
  refine List.mem_filter.mpr ⟨?_, List.all_eq_true.mp g w hw⟩
  rw [h] at hw
  obtain ⟨i, -, hi⟩ := List.mem_filterMap.mp hw
  exact List.mem_of_getElem? hi
theorem in_Ra : ∀ w ∈ u_ws "TombLane$Rations" T_Ra 6, w ∈ big := by
  intro w hw
  have h : u_ws "TombLane$Rations" T_Ra 6 = [311, 313, 315, 317, 319, 321].filterMap (fun i => lw_tbl[i]?) := by decide +kernel
  have g : (u_ws "TombLane$Rations" T_Ra 6).all goodWord = true := by decide +kernel
  refine List.mem_filter.mpr ⟨?_, List.all_eq_true.mp g w hw⟩
  rw [h] at hw
  obtain ⟨i, -, hi⟩ := List.mem_filterMap.mp hw
  exact List.mem_of_getElem? hi
theorem in_Se : ∀ w ∈ u_ws "TombLane$Settling" T_Se 2, w ∈ big := by
  intro w hw
  have h : u_ws "TombLane$Settling" T_Se 2 = [367, 369].filterMap (fun i => lw_tbl[i]?) := by decide +kernel
  have g : (u_ws "TombLane$Settling" T_Se 2).all goodWord = true := by decide +kernel
  refine List.mem_filter.mpr ⟨?_, List.all_eq_true.mp g w hw⟩
  rw [h] at hw
  obtain ⟨i, -, hi⟩ := List.mem_filterMap.mp hw
  exact List.mem_of_getElem? hi
theorem in_Ta : ∀ w ∈ u_ws "TombLane$Tape" T_Ta 2, w ∈ big := by
  intro w hw
  have h : u_ws "TombLane$Tape" T_Ta 2 = [145, 147].filterMap (fun i => lw_tbl[i]?) := by decide +kernel
  have g : (u_ws "TombLane$Tape" T_Ta 2).all goodWord = true := by decide +kernel
  refine List.mem_filter.mpr ⟨?_, List.all_eq_true.mp g w hw⟩
  rw [h] at hw
  obtain ⟨i, -, hi⟩ := List.mem_filterMap.mp hw
  exact List.mem_of_getElem? hi
theorem in_To : ∀ w ∈ u_ws "TombLane$Tokens" T_To 5, w ∈ big := by
  intro w hw
  have h : u_ws "TombLane$Tokens" T_To 5 = [198, 200, 202, 204, 206].filterMap (fun i => lw_tbl[i]?) := by decide +kernel
  have g : (u_ws "TombLane$Tokens" T_To 5).all goodWord = true := by decide +kernel
  refine List.mem_filter.mpr ⟨?_, List.all_eq_true.mp g w hw⟩
  rw [h] at hw
  obtain ⟨i, -, hi⟩ := List.mem_filterMap.mp hw
  exact List.mem_of_getElem? hi
theorem in_TL : ∀ w ∈ u_ws "TombLane" T_TL 9, w ∈ big := by
  intro w hw
  have h : u_ws "TombLane" T_TL 9 = [381, 383, 385, 387, 389, 391, 393, 395, 397].filterMap (fun i => lw_tbl[i]?) := by decide +kernel
  have g : (u_ws "TombLane" T_TL 9).all goodWord = true := by decide +kernel
  refine List.mem_filter.mpr ⟨?_, List.all_eq_true.mp g w hw⟩
  rw [h] at hw
  obtain ⟨i, -, hi⟩ := List.mem_filterMap.mp hw
  exact List.mem_of_getElem? hi
theorem in_Mo : ∀ w ∈ u_ws "TombLaneModel" T_Mo 42, w ∈ big := by
  intro w hw
  have h : u_ws "TombLaneModel" T_Mo 42 = [1062, 1064, 1066, 1068, 1070, 1072, 1074, 1076, 1078, 1080, 1082, 1084, 1086, 1088, 1090, 1092, 1094, 1096, 1098, 1100, 1102, 1104, 1106, 1108, 1110, 1112, 1114, 1116, 1118, 1120, 1122, 1124, 1126, 1128, 1130, 1132, 1134, 1136, 1138, 1140, 1142, 1144].filterMap (fun i => lw_tbl[i]?) := by decide +kernel
  have g : (u_ws "TombLaneModel" T_Mo 42).all goodWord = true := by decide +kernel
  refine List.mem_filter.mpr ⟨?_, List.all_eq_true.mp g w hw⟩
  rw [h] at hw
  obtain ⟨i, -, hi⟩ := List.mem_filterMap.mp hw
  exact List.mem_of_getElem? hi
