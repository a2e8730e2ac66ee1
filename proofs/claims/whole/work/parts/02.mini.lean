/-! The claim's classes, methods and links as rows (printed by a program out of the tables), and a small machine over rows of numbers: what it does, the given machine does (part 03). -/
abbrev mHp : Type := List (Nat × Nat) × (Nat → Nat → Int32) × (Nat → Nat → Int64) × (Nat → Nat → Option Nat)
abbrev mRow : Type := MethodName × ByteArray × Nat × Option FieldType × Nat × Nat × Bool
def mOwn : List String := ["FamilyGlass$Book", "FamilyGlass$Course", "FamilyGlass$Game", "FamilyGlass$History", "FamilyGlass$House", "FamilyGlass$Law", "FamilyGlass$Pairing", "FamilyGlass$Reader", "FamilyGlass$State", "FamilyGlass$Tape", "FamilyGlass$Tokens", "FamilyGlass", "FamilyGlassModel", "FamilyGlassLaw", "java/lang/String", "java/lang/StringLatin1", "jdk/internal/util/Preconditions", "java/lang/Math", "java/lang/Integer"]
/-- the fields of a class: declaring class, name, descriptor, final -/
def mFs : List (List (String × String × String × Bool)) := [[("FamilyGlass$Book", "toldHours", "[I", true), ("FamilyGlass$Book", "toldMarks", "[I", true), ("FamilyGlass$Book", "toldSo", "[Z", true), ("FamilyGlass$Book", "size", "I", false)],
  [("FamilyGlass$Course", "vars", "[I", true), ("FamilyGlass$Course", "waiting", "[I", true), ("FamilyGlass$Course", "drifted", "[I", true), ("FamilyGlass$Course", "house", "LFamilyGlass$House;", false)],
  [("FamilyGlass$Game", "states", "[LFamilyGlass$State;", true), ("FamilyGlass$Game", "much", "I", false), ("FamilyGlass$Game", "taps", "I", false)],
  [("FamilyGlass$History", "states", "[LFamilyGlass$State;", true), ("FamilyGlass$History", "next", "I", false), ("FamilyGlass$History", "size", "I", false)],
  [("FamilyGlass$House", "personNames", "[J", true), ("FamilyGlass$House", "firstMoods", "[I", true), ("FamilyGlass$House", "sways", "[I", true), ("FamilyGlass$House", "doingNames", "[J", true), ("FamilyGlass$House", "whose", "[I", true), ("FamilyGlass$House", "firstMarks", "[I", true), ("FamilyGlass$House", "lastMarks", "[I", true), ("FamilyGlass$House", "muches", "[I", true), ("FamilyGlass$House", "needle", "LFamilyGlass$Law;", true), ("FamilyGlass$House", "changes", "LFamilyGlass$Law;", true), ("FamilyGlass$House", "drifts", "LFamilyGlass$Law;", true), ("FamilyGlass$House", "jumps", "LFamilyGlass$Law;", true), ("FamilyGlass$House", "people", "I", false), ("FamilyGlass$House", "doings", "I", false), ("FamilyGlass$House", "slips", "I", false), ("FamilyGlass$House", "seed", "I", false)],
  [("FamilyGlass$Law", "steps", "[I", true), ("FamilyGlass$Law", "numbers", "[I", true), ("FamilyGlass$Law", "vars", "I", true), ("FamilyGlass$Law", "size", "I", false)],
  [("FamilyGlass$Pairing", "trial", "[I", true), ("FamilyGlass$Pairing", "partners", "[I", true), ("FamilyGlass$Pairing", "people", "I", false), ("FamilyGlass$Pairing", "least", "I", false)],
  [("FamilyGlass$Reader", "tokens", "LFamilyGlass$Tokens;", true), ("FamilyGlass$Reader", "house", "LFamilyGlass$House;", false), ("FamilyGlass$Reader", "at", "I", false), ("FamilyGlass$Reader", "fault", "I", false), ("FamilyGlass$Reader", "place", "I", false), ("FamilyGlass$Reader", "laterFault", "I", false), ("FamilyGlass$Reader", "laterPlace", "I", false)],
  [("FamilyGlass$State", "moods", "[I", true), ("FamilyGlass$State", "hour", "I", false), ("FamilyGlass$State", "taps", "I", false), ("FamilyGlass$State", "forbidden", "I", false)],
  [("FamilyGlass$Tape", "bytes", "[B", true), ("FamilyGlass$Tape", "length", "I", false)],
  [("FamilyGlass$Tokens", "words", "[J", true), ("FamilyGlass$Tokens", "kinds", "[I", true), ("FamilyGlass$Tokens", "values", "[J", true), ("FamilyGlass$Tokens", "places", "[I", true), ("FamilyGlass$Tokens", "size", "I", false)],
  [("FamilyGlass", "tape", "LFamilyGlass$Tape;", true), ("FamilyGlass", "reader", "LFamilyGlass$Reader;", true), ("FamilyGlass", "course", "LFamilyGlass$Course;", true), ("FamilyGlass", "book", "LFamilyGlass$Book;", true), ("FamilyGlass", "history", "LFamilyGlass$History;", true), ("FamilyGlass", "game", "LFamilyGlass$Game;", true), ("FamilyGlass", "pairing", "LFamilyGlass$Pairing;", true), ("FamilyGlass", "now", "LFamilyGlass$State;", true), ("FamilyGlass", "work", "LFamilyGlass$State;", true), ("FamilyGlass", "before", "LFamilyGlass$State;", true), ("FamilyGlass", "slots", "[LFamilyGlass$State;", true), ("FamilyGlass", "moodCodes", "[I", true), ("FamilyGlass", "times", "[I", true), ("FamilyGlass", "marksSeen", "[I", true), ("FamilyGlass", "leftIfSo", "[I", true), ("FamilyGlass", "house", "LFamilyGlass$House;", false), ("FamilyGlass", "heldSlots", "I", false), ("FamilyGlass", "place", "I", false)],
  [("FamilyGlassModel", "thrown", "I", false), ("FamilyGlassModel", "tape", "[B", true), ("FamilyGlassModel", "taped", "I", false), ("FamilyGlassModel", "text", "[B", true), ("FamilyGlassModel", "size", "I", false), ("FamilyGlassModel", "tKind", "[I", true), ("FamilyGlassModel", "tPlace", "[I", true), ("FamilyGlassModel", "tValue", "[I", true), ("FamilyGlassModel", "tName", "[J", true), ("FamilyGlassModel", "keys", "[J", true), ("FamilyGlassModel", "tokens", "I", false), ("FamilyGlassModel", "t", "I", false), ("FamilyGlassModel", "open", "I", false), ("FamilyGlassModel", "fault", "I", false), ("FamilyGlassModel", "faultPlace", "I", false), ("FamilyGlassModel", "worst", "I", false), ("FamilyGlassModel", "worstPlace", "I", false), ("FamilyGlassModel", "place", "I", false), ("FamilyGlassModel", "live", "I", false), ("FamilyGlassModel", "side", "I", false), ("FamilyGlassModel", "names", "I", false), ("FamilyGlassModel", "nameOf", "[J", true), ("FamilyGlassModel", "nameAt", "[I", true), ("FamilyGlassModel", "people", "[I", true), ("FamilyGlassModel", "moodTold", "[I", true), ("FamilyGlassModel", "swayOf", "[I", true), ("FamilyGlassModel", "doings", "[I", true), ("FamilyGlassModel", "whoseOf", "[I", true), ("FamilyGlassModel", "firstOf", "[I", true), ("FamilyGlassModel", "lastOf", "[I", true), ("FamilyGlassModel", "muchOf", "[I", true), ("FamilyGlassModel", "slips", "[I", true), ("FamilyGlassModel", "seed", "[I", true), ("FamilyGlassModel", "lawFirst", "[I", true), ("FamilyGlassModel", "lawLast", "[I", true), ("FamilyGlassModel", "branches", "I", false), ("FamilyGlassModel", "hasTest", "[Z", true), ("FamilyGlassModel", "testFrom", "[I", true), ("FamilyGlassModel", "testMid", "[I", true), ("FamilyGlassModel", "testTo", "[I", true), ("FamilyGlassModel", "termTo", "[I", true), ("FamilyGlassModel", "codes", "I", false), ("FamilyGlassModel", "code", "[I", true), ("FamilyGlassModel", "codeInt", "[I", true), ("FamilyGlassModel", "waits", "[I", true), ("FamilyGlassModel", "waiting", "I", false), ("FamilyGlassModel", "variables", "[I", true), ("FamilyGlassModel", "pile", "[I", true), ("FamilyGlassModel", "isBroken", "Z", false), ("FamilyGlassModel", "now", "[I", true), ("FamilyGlassModel", "row", "[I", true), ("FamilyGlassModel", "lots", "I", false), ("FamilyGlassModel", "isStill", "Z", false), ("FamilyGlassModel", "driftsNow", "[I", true), ("FamilyGlassModel", "undos", "I", false), ("FamilyGlassModel", "history", "[I", true), ("FamilyGlassModel", "moodBy", "[I", true), ("FamilyGlassModel", "doneBy", "[I", true), ("FamilyGlassModel", "pairedBy", "[I", true), ("FamilyGlassModel", "levelAt", "[I", true), ("FamilyGlassModel", "gameRows", "[I", true), ("FamilyGlassModel", "gameBy", "[I", true), ("FamilyGlassModel", "tolds", "I", false), ("FamilyGlassModel", "toldBehind", "[I", true), ("FamilyGlassModel", "toldBy", "[I", true), ("FamilyGlassModel", "toldSo", "[Z", true), ("FamilyGlassModel", "marksBy", "[I", true), ("FamilyGlassModel", "isHeld", "[Z", true), ("FamilyGlassModel", "heldRows", "[I", true)]]
/-- the kind of a field: 0 an int, 1 a boolean, 2 a reference -/
def mFk : List (List Nat) := [[2, 2, 2, 0], [2, 2, 2, 2], [2, 0, 0], [2, 0, 0], [2, 2, 2, 2, 2, 2, 2, 2, 2, 2, 2, 2, 0, 0, 0, 0], [2, 2, 0, 0], [2, 2, 0, 0], [2, 2, 0, 0, 0, 0, 0], [2, 0, 0, 0], [2, 0], [2, 2, 2, 2, 0], [2, 2, 2, 2, 2, 2, 2, 2, 2, 2, 2, 2, 2, 2, 2, 2, 0, 0], [0, 2, 0, 2, 0, 2, 2, 2, 2, 2, 0, 0, 0, 0, 0, 0, 0, 0, 0, 0, 0, 2, 2, 2, 2, 2, 2, 2, 2, 2, 2, 2, 2, 2, 2, 0, 2, 2, 2, 2, 2, 0, 2, 2, 2, 0, 2, 2, 1, 2, 2, 0, 1, 2, 0, 2, 2, 2, 2, 2, 2, 2, 0, 2, 2, 2, 2, 2, 2]]
def mFin : List (List Bool) := [[true, true, true, false], [true, true, true, false], [true, false, false], [true, false, false], [true, true, true, true, true, true, true, true, true, true, true, true, false, false, false, false], [true, true, true, false], [true, true, false, false], [true, false, false, false, false, false, false], [true, false, false, false], [true, false], [true, true, true, true, false], [true, true, true, true, true, true, true, true, true, true, true, true, true, true, true, false, false, false], [false, true, false, true, false, true, true, true, true, true, false, false, false, false, false, false, false, false, false, false, false, true, true, true, true, true, true, true, true, true, true, true, true, true, true, false, true, true, true, true, true, false, true, true, true, false, true, true, false, true, true, false, false, true, false, true, true, true, true, true, true, true, false, true, true, true, true, true, true]]
def mT (ci : Nat) : u_T := fun k => (mFs.getD ci []).getD k ("", "", "", false)
def mNf (ci : Nat) : Nat := (mFk.getD ci []).length
def mCls : List vw_C := [("FamilyGlass$Book", mT 0, 4), ("FamilyGlass$Course", mT 1, 4), ("FamilyGlass$Game", mT 2, 3), ("FamilyGlass$History", mT 3, 3), ("FamilyGlass$House", mT 4, 16), ("FamilyGlass$Law", mT 5, 4), ("FamilyGlass$Pairing", mT 6, 4), ("FamilyGlass$Reader", mT 7, 7), ("FamilyGlass$State", mT 8, 4), ("FamilyGlass$Tape", mT 9, 2), ("FamilyGlass$Tokens", mT 10, 5), ("FamilyGlass", mT 11, 18), ("FamilyGlassModel", mT 12, 69)]
def mRows_0 : List mRow := [(⟨"FamilyGlass$Book", "<init>", "()V"⟩, prog_2_method_1_code, 1, none, 0, 0, false),
  (⟨"FamilyGlass$Book", "write", "(IIZ)I"⟩, prog_2_method_2_code, 4, some .int, 0, 3, false),
  (⟨"FamilyGlass$Book", "agrees", "(I[I)Z"⟩, prog_2_method_3_code, 5, some .boolean, 0, 2, false),
  (⟨"FamilyGlass$Course", "<init>", "()V"⟩, prog_3_method_1_code, 1, none, 1, 0, false),
  (⟨"FamilyGlass$Course", "markOf", "(LFamilyGlass$State;)I"⟩, prog_3_method_4_code, 3, some .int, 1, 1, false),
  (⟨"FamilyGlass$Course", "jumpsOf", "(LFamilyGlass$State;)I"⟩, prog_3_method_3_code, 2, some .int, 1, 1, false),
  (⟨"FamilyGlass$Course", "see", "(LFamilyGlass$State;)V"⟩, prog_3_method_2_code, 6, none, 1, 1, false),
  (⟨"FamilyGlass$Course", "valueOf", "(LFamilyGlass$Law;)I"⟩, prog_3_method_15_code, 8, some .int, 1, 1, false),
  (⟨"FamilyGlass$Course", "held", "(II)I"⟩, prog_3_method_7_code, 2, some .int, 1, 2, true),
  (⟨"FamilyGlass$Course", "driftsTold", "(LFamilyGlass$State;II)I"⟩, prog_3_method_6_code, 4, some .int, 1, 3, false),
  (⟨"FamilyGlass$Course", "doneAt", "(LFamilyGlass$State;I)I"⟩, prog_3_method_8_code, 5, some .int, 1, 2, false),
  (⟨"FamilyGlass$Course", "changesTold", "(LFamilyGlass$State;II)I"⟩, prog_3_method_5_code, 5, some .int, 1, 3, false),
  (⟨"FamilyGlass$Course", "isSlip", "(II)Z"⟩, prog_3_method_12_code, 3, some .boolean, 1, 2, false),
  (⟨"FamilyGlass$Course", "lotOfHundred", "(II)I"⟩, prog_3_method_13_code, 3, some .int, 1, 2, true),
  (⟨"FamilyGlass$Course", "stirred", "(II)I"⟩, prog_3_method_14_code, 3, some .int, 1, 2, true),
  (⟨"FamilyGlass$Course", "markBehindSlips", "(LFamilyGlass$State;II)I"⟩, prog_3_method_11_code, 7, some .int, 1, 3, false),
  (⟨"FamilyGlass$Course", "passHour", "(LFamilyGlass$State;I)I"⟩, prog_3_method_9_code, 6, some .int, 1, 2, false),
  (⟨"FamilyGlass$Course", "markBehind", "(LFamilyGlass$State;I)I"⟩, prog_3_method_10_code, 5, some .int, 1, 2, false),
  (⟨"FamilyGlass$Game", "<init>", "()V"⟩, prog_4_method_1_code, 2, none, 2, 0, false),
  (⟨"FamilyGlass$Game", "play", "(LFamilyGlass$Course;LFamilyGlass$State;I)V"⟩, prog_4_method_2_code, 5, none, 2, 3, false),
  (⟨"FamilyGlass$Game", "auntsLeast", "(LFamilyGlass$Course;IIII)I"⟩, prog_4_method_4_code, 12, some .int, 2, 5, false),
  (⟨"FamilyGlass$Game", "boysMost", "(LFamilyGlass$Course;III)I"⟩, prog_4_method_3_code, 6, some .int, 2, 4, false),
  (⟨"FamilyGlass$History", "<init>", "()V"⟩, prog_5_method_1_code, 2, none, 3, 0, false),
  (⟨"FamilyGlass$History", "keep", "(LFamilyGlass$State;)V"⟩, prog_5_method_2_code, 2, none, 3, 1, false),
  (⟨"FamilyGlass$History", "takeBack", "(LFamilyGlass$State;)Z"⟩, prog_5_method_3_code, 2, some .boolean, 3, 1, false),
  (⟨"FamilyGlass$House", "<init>", "()V"⟩, prog_6_method_1_code, 1, none, 4, 0, false),
  (⟨"FamilyGlass$House", "clear", "()V"⟩, prog_6_method_2_code, 1, none, 4, 0, false),
  (⟨"FamilyGlass$House", "hasName", "(J)Z"⟩, prog_6_method_4_code, 4, some .boolean, 4, 1, false),
  (⟨"FamilyGlass$House", "personNamed", "(J)I"⟩, prog_6_method_3_code, 4, some .int, 4, 1, false),
  (⟨"FamilyGlass$Law", "<init>", "(I)V"⟩, prog_7_method_1_code, 2, none, 5, 1, false),
  (⟨"FamilyGlass$Law", "addVar", "(I)V"⟩, prog_7_method_3_code, 2, none, 5, 1, false),
  (⟨"FamilyGlass$Law", "add", "(II)V"⟩, prog_7_method_2_code, 3, none, 5, 2, false),
  (⟨"FamilyGlass$Law", "lead", "(I)V"⟩, prog_7_method_4_code, 2, none, 5, 1, false),
  (⟨"FamilyGlass$Pairing", "<init>", "()V"⟩, prog_8_method_1_code, 1, none, 6, 0, false),
  (⟨"FamilyGlass$Pairing", "find", "(LFamilyGlass$State;I)V"⟩, prog_8_method_2_code, 4, none, 6, 2, false),
  (⟨"FamilyGlass$Pairing", "pairFrom", "(LFamilyGlass$State;III)V"⟩, prog_8_method_3_code, 6, none, 6, 4, false),
  (⟨"FamilyGlass$Pairing", "keepIfLess", "(I)V"⟩, prog_8_method_4_code, 3, none, 6, 1, false),
  (⟨"FamilyGlass$Reader", "<init>", "()V"⟩, prog_9_method_1_code, 1, none, 7, 0, false),
  (⟨"FamilyGlass$Reader", "readText", "(LFamilyGlass$Tape;)I"⟩, prog_9_method_2_code, 3, some .int, 7, 1, false),
  (⟨"FamilyGlass$Reader", "kind", "()I"⟩, prog_9_method_10_code, 1, some .int, 7, 0, false)]
def mRows_1 : List mRow := [(⟨"FamilyGlass$Reader", "readTell", "()V"⟩, prog_9_method_3_code, 1, none, 7, 0, false),
  (⟨"FamilyGlass$Reader", "readPerson", "()V"⟩, prog_9_method_4_code, 2, none, 7, 0, false),
  (⟨"FamilyGlass$Reader", "fail", "(I)V"⟩, prog_9_method_17_code, 2, none, 7, 1, false),
  (⟨"FamilyGlass$Reader", "start", "()I"⟩, prog_9_method_12_code, 1, some .int, 7, 0, false),
  (⟨"FamilyGlass$Reader", "take", "(I)V"⟩, prog_9_method_13_code, 2, none, 7, 1, false),
  (⟨"FamilyGlass$Reader", "takeNewName", "()J"⟩, prog_9_method_14_code, 3, some .long, 7, 0, false),
  (⟨"FamilyGlass$Reader", "value", "()J"⟩, prog_9_method_11_code, 1, some .long, 7, 0, false),
  (⟨"FamilyGlass$Reader", "failLater", "(I)V"⟩, prog_9_method_18_code, 2, none, 7, 1, false),
  (⟨"FamilyGlass$Reader", "takeInt", "(I)I"⟩, prog_9_method_16_code, 3, some .int, 7, 1, false),
  (⟨"FamilyGlass$Reader", "readDoing", "()V"⟩, prog_9_method_5_code, 2, none, 7, 0, false),
  (⟨"FamilyGlass$Reader", "takePerson", "()I"⟩, prog_9_method_15_code, 2, some .int, 7, 0, false),
  (⟨"FamilyGlass$Reader", "readLaw", "(LFamilyGlass$Law;)V"⟩, prog_9_method_6_code, 4, none, 7, 1, false),
  (⟨"FamilyGlass$Reader", "readSum", "(LFamilyGlass$Law;I)V"⟩, prog_9_method_7_code, 5, none, 7, 2, false),
  (⟨"FamilyGlass$Reader", "readPart", "(LFamilyGlass$Law;I)V"⟩, prog_9_method_8_code, 5, none, 7, 2, false),
  (⟨"FamilyGlass$Reader", "readUnit", "(LFamilyGlass$Law;I)V"⟩, prog_9_method_9_code, 4, none, 7, 2, false),
  (⟨"FamilyGlass$State", "<init>", "()V"⟩, prog_10_method_1_code, 1, none, 8, 0, false),
  (⟨"FamilyGlass$State", "clearTo", "(LFamilyGlass$House;)V"⟩, prog_10_method_3_code, 3, none, 8, 1, false),
  (⟨"FamilyGlass$State", "total", "()I"⟩, prog_10_method_5_code, 3, some .int, 8, 0, false),
  (⟨"FamilyGlass$State", "greatest", "()I"⟩, prog_10_method_6_code, 3, some .int, 8, 0, false),
  (⟨"FamilyGlass$State", "takeFrom", "(LFamilyGlass$State;)V"⟩, prog_10_method_2_code, 3, none, 8, 1, false),
  (⟨"FamilyGlass$State", "hasMoodsOf", "(LFamilyGlass$State;)Z"⟩, prog_10_method_4_code, 3, some .boolean, 8, 1, false),
  (⟨"FamilyGlass$Tape", "<init>", "()V"⟩, prog_11_method_1_code, 1, none, 9, 0, false),
  (⟨"FamilyGlass$Tape", "addFour", "(I)V"⟩, prog_11_method_2_code, 3, none, 9, 1, false),
  (⟨"FamilyGlass$Tape", "isOneOfAt", "(Ljava/lang/String;I)Z"⟩, prog_11_method_6_code, 4, some .boolean, 9, 2, false),
  (⟨"FamilyGlass$Tape", "byteAt", "(I)I"⟩, prog_11_method_3_code, 2, some .int, 9, 1, false),
  (⟨"FamilyGlass$Tape", "isLetterAt", "(I)Z"⟩, prog_11_method_4_code, 3, some .boolean, 9, 1, false),
  (⟨"FamilyGlass$Tape", "isDigitAt", "(I)Z"⟩, prog_11_method_5_code, 3, some .boolean, 9, 1, false),
  (⟨"FamilyGlass$Tokens", "<init>", "()V"⟩, prog_12_method_1_code, 4, none, 10, 0, false),
  (⟨"FamilyGlass$Tokens", "withLetter", "(JI)J"⟩, prog_12_method_2_code, 3, some .long, 10, 2, true),
  (⟨"FamilyGlass$Tokens", "scan", "(LFamilyGlass$Tape;)V"⟩, prog_12_method_3_code, 5, none, 10, 1, false),
  (⟨"FamilyGlass$Tokens", "behindBlanks", "(LFamilyGlass$Tape;I)I"⟩, prog_12_method_4_code, 3, some .int, 10, 2, true),
  (⟨"FamilyGlass$Tokens", "scanOne", "(LFamilyGlass$Tape;I)I"⟩, prog_12_method_5_code, 3, some .int, 10, 2, false),
  (⟨"FamilyGlass$Tokens", "add", "(IJI)V"⟩, prog_12_method_9_code, 5, none, 10, 3, false),
  (⟨"FamilyGlass$Tokens", "scanWord", "(LFamilyGlass$Tape;I)I"⟩, prog_12_method_6_code, 6, some .int, 10, 2, false),
  (⟨"FamilyGlass$Tokens", "wordKind", "(J)I"⟩, prog_12_method_7_code, 4, some .int, 10, 1, false),
  (⟨"FamilyGlass$Tokens", "scanInt", "(LFamilyGlass$Tape;I)I"⟩, prog_12_method_8_code, 6, some .int, 10, 2, false),
  (⟨"FamilyGlass", "<init>", "()V"⟩, prog_1_method_1_code, 2, none, 11, 0, false),
  (⟨"FamilyGlass", "feed", "(IIIII)I"⟩, prog_1_method_2_code, 6, some .int, 11, 5, false),
  (⟨"FamilyGlass", "back", "(I)I"⟩, prog_1_method_3_code, 2, some .int, 11, 1, false),
  (⟨"FamilyGlass", "read", "()I"⟩, prog_1_method_4_code, 3, some .int, 11, 0, false)]
def mRows_2 : List mRow := [(⟨"FamilyGlass", "startAnew", "()V"⟩, prog_1_method_5_code, 1, none, 11, 0, false),
  (⟨"FamilyGlass", "place", "()I"⟩, prog_1_method_6_code, 1, some .int, 11, 0, false),
  (⟨"FamilyGlass", "person", "(II)I"⟩, prog_1_method_7_code, 3, some .int, 11, 2, false),
  (⟨"FamilyGlass", "isPerson", "(I)Z"⟩, prog_1_method_13_code, 2, some .boolean, 11, 1, false),
  (⟨"FamilyGlass", "doing", "(II)I"⟩, prog_1_method_8_code, 3, some .int, 11, 2, false),
  (⟨"FamilyGlass", "isDoing", "(I)Z"⟩, prog_1_method_14_code, 2, some .boolean, 11, 1, false),
  (⟨"FamilyGlass", "doneNow", "()I"⟩, prog_1_method_11_code, 1, some .int, 11, 0, false),
  (⟨"FamilyGlass", "mark", "()I"⟩, prog_1_method_9_code, 1, some .int, 11, 0, false),
  (⟨"FamilyGlass", "count", "(I)I"⟩, prog_1_method_10_code, 2, some .int, 11, 1, false),
  (⟨"FamilyGlass", "peopleOfMood", "(I)I"⟩, prog_1_method_12_code, 4, some .int, 11, 1, false),
  (⟨"FamilyGlass", "tap", "()I"⟩, prog_1_method_17_code, 1, some .int, 11, 0, false),
  (⟨"FamilyGlass", "let", "()I"⟩, prog_1_method_18_code, 2, some .int, 11, 0, false),
  (⟨"FamilyGlass", "forbid", "(IZ)Z"⟩, prog_1_method_19_code, 3, some .boolean, 11, 2, false),
  (⟨"FamilyGlass", "cheer", "(IZ)Z"⟩, prog_1_method_20_code, 3, some .boolean, 11, 2, false),
  (⟨"FamilyGlass", "hours", "(I)I"⟩, prog_1_method_21_code, 2, some .int, 11, 1, false),
  (⟨"FamilyGlass", "within", "(III)Z"⟩, prog_1_method_16_code, 3, some .boolean, 11, 3, true),
  (⟨"FamilyGlass", "undo", "()Z"⟩, prog_1_method_22_code, 1, some .boolean, 11, 0, false),
  (⟨"FamilyGlass", "hold", "(I)Z"⟩, prog_1_method_23_code, 2, some .boolean, 11, 1, false),
  (⟨"FamilyGlass", "restore", "(I)Z"⟩, prog_1_method_24_code, 2, some .boolean, 11, 1, false),
  (⟨"FamilyGlass", "comes", "(I)I"⟩, prog_1_method_25_code, 4, some .int, 11, 1, false),
  (⟨"FamilyGlass", "isMark", "(I)Z"⟩, prog_1_method_15_code, 1, some .boolean, 11, 1, true),
  (⟨"FamilyGlass", "round", "(I)I"⟩, prog_1_method_26_code, 4, some .int, 11, 1, false),
  (⟨"FamilyGlass", "codeMoods", "()V"⟩, prog_1_method_27_code, 4, none, 11, 0, false),
  (⟨"FamilyGlass", "settles", "()I"⟩, prog_1_method_28_code, 2, some .int, 11, 0, false),
  (⟨"FamilyGlass", "itself", "()I"⟩, prog_1_method_29_code, 3, some .int, 11, 0, false),
  (⟨"FamilyGlass", "often", "(II)I"⟩, prog_1_method_30_code, 6, some .int, 11, 2, false),
  (⟨"FamilyGlass", "quiet", "(I)I"⟩, prog_1_method_31_code, 4, some .int, 11, 1, false),
  (⟨"FamilyGlass", "busiest", "(II)I"⟩, prog_1_method_32_code, 5, some .int, 11, 2, false),
  (⟨"FamilyGlass", "countDoings", "(I)V"⟩, prog_1_method_33_code, 5, none, 11, 1, false),
  (⟨"FamilyGlass", "highest", "(II)I"⟩, prog_1_method_34_code, 7, some .int, 11, 2, false),
  (⟨"FamilyGlass", "forbids", "(III)I"⟩, prog_1_method_35_code, 8, some .int, 11, 3, false),
  (⟨"FamilyGlass", "keepsOff", "(III)Z"⟩, prog_1_method_36_code, 6, some .boolean, 11, 3, false),
  (⟨"FamilyGlass", "tapping", "(II)I"⟩, prog_1_method_37_code, 4, some .int, 11, 2, false),
  (⟨"FamilyGlass", "coax", "(III)I"⟩, prog_1_method_38_code, 7, some .int, 11, 3, false),
  (⟨"FamilyGlass", "coaxed", "(IIII)I"⟩, prog_1_method_39_code, 7, some .int, 11, 4, false),
  (⟨"FamilyGlass", "comesTo", "(IIII)Z"⟩, prog_1_method_40_code, 5, some .boolean, 11, 4, false),
  (⟨"FamilyGlass", "changed", "(II)I"⟩, prog_1_method_41_code, 5, some .int, 11, 2, false),
  (⟨"FamilyGlass", "worth", "(II)I"⟩, prog_1_method_42_code, 4, some .int, 11, 2, false),
  (⟨"FamilyGlass", "game", "(II)I"⟩, prog_1_method_43_code, 3, some .int, 11, 2, false),
  (⟨"FamilyGlass", "gloomiest", "(I)I"⟩, prog_1_method_44_code, 4, some .int, 11, 1, false)]
def mRows_3 : List mRow := [(⟨"FamilyGlass", "parts", "(II)I"⟩, prog_1_method_45_code, 6, some .int, 11, 2, false),
  (⟨"FamilyGlass", "totalOf", "(I)I"⟩, prog_1_method_46_code, 4, some .int, 11, 1, false),
  (⟨"FamilyGlass", "pairs", "(I)I"⟩, prog_1_method_47_code, 2, some .int, 11, 1, false),
  (⟨"FamilyGlass", "markIn", "(I)I"⟩, prog_1_method_48_code, 2, some .int, 11, 1, false),
  (⟨"FamilyGlass", "moodIn", "(II)I"⟩, prog_1_method_49_code, 3, some .int, 11, 2, false),
  (⟨"FamilyGlass", "year", "(III)I"⟩, prog_1_method_50_code, 6, some .int, 11, 3, false),
  (⟨"FamilyGlass", "tell", "(IIZ)I"⟩, prog_1_method_51_code, 4, some .int, 11, 3, false),
  (⟨"FamilyGlass", "forget", "()I"⟩, prog_1_method_52_code, 2, some .int, 11, 0, false),
  (⟨"FamilyGlass", "fits", "(III)I"⟩, prog_1_method_53_code, 7, some .int, 11, 3, false),
  (⟨"FamilyGlass", "moodFits", "(III)Z"⟩, prog_1_method_56_code, 6, some .boolean, 11, 3, false),
  (⟨"FamilyGlass", "look", "(III)I"⟩, prog_1_method_54_code, 9, some .int, 11, 3, false),
  (⟨"FamilyGlass", "countLeft", "(III)I"⟩, prog_1_method_55_code, 7, some .int, 11, 3, false),
  (⟨"FamilyGlassModel", "<init>", "()V"⟩, prog_14_method_2_code, 1, none, 12, 0, false),
  (⟨"FamilyGlassModel", "plain", "(I)V"⟩, prog_14_method_19_code, 3, none, 12, 1, false),
  (⟨"FamilyGlassModel", "letters", "(IIIIIII)J"⟩, prog_14_method_10_code, 7, some .long, 12, 7, true),
  (⟨"FamilyGlassModel", "appends", "(JI)J"⟩, prog_14_method_9_code, 3, some .long, 12, 2, true),
  (⟨"FamilyGlassModel", "begins", "()V"⟩, prog_14_method_44_code, 2, none, 12, 0, false),
  (⟨"FamilyGlassModel", "keepsRow", "()V"⟩, prog_14_method_45_code, 2, none, 12, 0, false),
  (⟨"FamilyGlassModel", "feed", "(IIIII)I"⟩, prog_14_method_3_code, 6, some .int, 12, 5, false),
  (⟨"FamilyGlassModel", "lays", "(I)V"⟩, prog_14_method_4_code, 3, none, 12, 1, false),
  (⟨"FamilyGlassModel", "back", "(I)I"⟩, prog_14_method_5_code, 2, some .int, 12, 1, false),
  (⟨"FamilyGlassModel", "read", "()I"⟩, prog_14_method_20_code, 2, some .int, 12, 0, false),
  (⟨"FamilyGlassModel", "cut", "()V"⟩, prog_14_method_12_code, 8, none, 12, 0, false),
  (⟨"FamilyGlassModel", "byteAt", "(I)I"⟩, prog_14_method_6_code, 2, some .int, 12, 1, false),
  (⟨"FamilyGlassModel", "token", "(IIIJ)V"⟩, prog_14_method_11_code, 6, none, 12, 4, false),
  (⟨"FamilyGlassModel", "isLetter", "(I)Z"⟩, prog_14_method_8_code, 1, some .boolean, 12, 1, true),
  (⟨"FamilyGlassModel", "isDigit", "(I)Z"⟩, prog_14_method_7_code, 1, some .boolean, 12, 1, true),
  (⟨"FamilyGlassModel", "sign", "(III)I"⟩, prog_14_method_13_code, 5, some .int, 12, 3, false),
  (⟨"FamilyGlassModel", "is", "(I)Z"⟩, prog_14_method_14_code, 2, some .boolean, 12, 1, false),
  (⟨"FamilyGlassModel", "tellOne", "()V"⟩, prog_14_method_24_code, 3, none, 12, 0, false),
  (⟨"FamilyGlassModel", "roomFor", "(II)V"⟩, prog_14_method_22_code, 3, none, 12, 2, false),
  (⟨"FamilyGlassModel", "fail", "(I)V"⟩, prog_14_method_15_code, 2, none, 12, 1, false),
  (⟨"FamilyGlassModel", "goesOn", "()V"⟩, prog_14_method_17_code, 1, none, 12, 0, false),
  (⟨"FamilyGlassModel", "named", "()I"⟩, prog_14_method_25_code, 3, some .int, 12, 0, false),
  (⟨"FamilyGlassModel", "must", "(I)V"⟩, prog_14_method_18_code, 2, none, 12, 1, false),
  (⟨"FamilyGlassModel", "wrong", "(II)V"⟩, prog_14_method_16_code, 4, none, 12, 2, false),
  (⟨"FamilyGlassModel", "bounded", "(I)I"⟩, prog_14_method_28_code, 3, some .int, 12, 1, false),
  (⟨"FamilyGlassModel", "endsName", "(II)V"⟩, prog_14_method_26_code, 3, none, 12, 2, false),
  (⟨"FamilyGlassModel", "tellDoing", "()V"⟩, prog_14_method_29_code, 3, none, 12, 0, false),
  (⟨"FamilyGlassModel", "known", "()I"⟩, prog_14_method_27_code, 3, some .int, 12, 0, false)]
def mRows_4 : List mRow := [(⟨"FamilyGlassModel", "toldInt", "(I)I"⟩, prog_14_method_23_code, 3, some .int, 12, 1, false),
  (⟨"FamilyGlassModel", "tellLaw", "(I)V"⟩, prog_14_method_30_code, 4, none, 12, 1, false),
  (⟨"FamilyGlassModel", "expression", "()V"⟩, prog_14_method_34_code, 3, none, 12, 0, false),
  (⟨"FamilyGlassModel", "unit", "()V"⟩, prog_14_method_35_code, 1, none, 12, 0, false),
  (⟨"FamilyGlassModel", "emit", "(II)V"⟩, prog_14_method_32_code, 3, none, 12, 2, false),
  (⟨"FamilyGlassModel", "comesOut", "(Z)V"⟩, prog_14_method_33_code, 3, none, 12, 1, false),
  (⟨"FamilyGlassModel", "term", "()V"⟩, prog_14_method_31_code, 1, none, 12, 0, false),
  (⟨"FamilyGlassModel", "place", "()I"⟩, prog_14_method_21_code, 1, some .int, 12, 0, false),
  (⟨"FamilyGlassModel", "person", "(II)I"⟩, prog_14_method_65_code, 3, some .int, 12, 2, false),
  (⟨"FamilyGlassModel", "isPerson", "(I)Z"⟩, prog_14_method_41_code, 2, some .boolean, 12, 1, false),
  (⟨"FamilyGlassModel", "in", "(III)Z"⟩, prog_14_method_37_code, 3, some .boolean, 12, 3, true),
  (⟨"FamilyGlassModel", "copies", "()V"⟩, prog_14_method_46_code, 2, none, 12, 0, false),
  (⟨"FamilyGlassModel", "markNow", "()I"⟩, prog_14_method_56_code, 1, some .int, 12, 0, false),
  (⟨"FamilyGlassModel", "needleRest", "()I"⟩, prog_14_method_54_code, 2, some .int, 12, 0, false),
  (⟨"FamilyGlassModel", "looks", "()V"⟩, prog_14_method_53_code, 2, none, 12, 0, false),
  (⟨"FamilyGlassModel", "moodSum", "()I"⟩, prog_14_method_50_code, 1, some .int, 12, 0, false),
  (⟨"FamilyGlassModel", "mostMood", "()I"⟩, prog_14_method_51_code, 3, some .int, 12, 0, false),
  (⟨"FamilyGlassModel", "lawTells", "(II)I"⟩, prog_14_method_52_code, 7, some .int, 12, 2, false),
  (⟨"FamilyGlassModel", "termOf", "(II)I"⟩, prog_14_method_36_code, 8, some .int, 12, 2, false),
  (⟨"FamilyGlassModel", "jumpsNow", "()I"⟩, prog_14_method_55_code, 2, some .int, 12, 0, false),
  (⟨"FamilyGlassModel", "within", "(III)I"⟩, prog_14_method_38_code, 3, some .int, 12, 3, true),
  (⟨"FamilyGlassModel", "driftsOf", "(II)I"⟩, prog_14_method_59_code, 3, some .int, 12, 2, false),
  (⟨"FamilyGlassModel", "looksBy", "(II)V"⟩, prog_14_method_57_code, 3, none, 12, 2, false),
  (⟨"FamilyGlassModel", "doing", "(II)I"⟩, prog_14_method_66_code, 4, some .int, 12, 2, false),
  (⟨"FamilyGlassModel", "isDoing", "(I)Z"⟩, prog_14_method_42_code, 2, some .boolean, 12, 1, false),
  (⟨"FamilyGlassModel", "isDoneAt", "(II)Z"⟩, prog_14_method_60_code, 3, some .boolean, 12, 2, false),
  (⟨"FamilyGlassModel", "changesOf", "(II)I"⟩, prog_14_method_58_code, 4, some .int, 12, 2, false),
  (⟨"FamilyGlassModel", "mark", "()I"⟩, prog_14_method_67_code, 1, some .int, 12, 0, false),
  (⟨"FamilyGlassModel", "tap", "()I"⟩, prog_14_method_70_code, 1, some .int, 12, 0, false),
  (⟨"FamilyGlassModel", "does", "(II)Z"⟩, prog_14_method_69_code, 3, some .boolean, 12, 2, false),
  (⟨"FamilyGlassModel", "records", "()V"⟩, prog_14_method_68_code, 2, none, 12, 0, false),
  (⟨"FamilyGlassModel", "let", "()I"⟩, prog_14_method_71_code, 2, some .int, 12, 0, false),
  (⟨"FamilyGlassModel", "forbid", "(IZ)Z"⟩, prog_14_method_72_code, 3, some .boolean, 12, 2, false),
  (⟨"FamilyGlassModel", "cheer", "(IZ)Z"⟩, prog_14_method_73_code, 3, some .boolean, 12, 2, false),
  (⟨"FamilyGlassModel", "hours", "(I)I"⟩, prog_14_method_75_code, 2, some .int, 12, 1, false),
  (⟨"FamilyGlassModel", "isLong", "(I)Z"⟩, prog_14_method_74_code, 1, some .boolean, 12, 1, true),
  (⟨"FamilyGlassModel", "goes", "(I)V"⟩, prog_14_method_64_code, 3, none, 12, 1, false),
  (⟨"FamilyGlassModel", "hourGoes", "()V"⟩, prog_14_method_63_code, 1, none, 12, 0, false),
  (⟨"FamilyGlassModel", "isSlip", "()Z"⟩, prog_14_method_49_code, 1, some .boolean, 12, 0, false),
  (⟨"FamilyGlassModel", "mixed", "(II)I"⟩, prog_14_method_48_code, 3, some .int, 12, 2, true)]
def mRows_5 : List mRow := [(⟨"FamilyGlassModel", "hourBy", "(I)V"⟩, prog_14_method_62_code, 3, none, 12, 1, false),
  (⟨"FamilyGlassModel", "undo", "()Z"⟩, prog_14_method_76_code, 2, some .boolean, 12, 0, false),
  (⟨"FamilyGlassModel", "comes", "(I)I"⟩, prog_14_method_77_code, 3, some .int, 12, 1, false),
  (⟨"FamilyGlassModel", "isMark", "(I)Z"⟩, prog_14_method_43_code, 1, some .boolean, 12, 1, true),
  (⟨"FamilyGlassModel", "copiesStill", "()V"⟩, prog_14_method_47_code, 1, none, 12, 0, false),
  (⟨"FamilyGlassModel", "round", "(I)I"⟩, prog_14_method_80_code, 4, some .int, 12, 1, false),
  (⟨"FamilyGlassModel", "fillsMoods", "(I)V"⟩, prog_14_method_78_code, 4, none, 12, 1, false),
  (⟨"FamilyGlassModel", "areAlike", "(II)Z"⟩, prog_14_method_79_code, 4, some .boolean, 12, 2, false),
  (⟨"FamilyGlassModel", "settles", "()I"⟩, prog_14_method_81_code, 2, some .int, 12, 0, false),
  (⟨"FamilyGlassModel", "itself", "()I"⟩, prog_14_method_82_code, 3, some .int, 12, 0, false),
  (⟨"FamilyGlassModel", "forbids", "(III)I"⟩, prog_14_method_86_code, 5, some .int, 12, 3, false),
  (⟨"FamilyGlassModel", "fewestForbidden", "(II)I"⟩, prog_14_method_85_code, 5, some .int, 12, 2, false),
  (⟨"FamilyGlassModel", "bits", "(I)I"⟩, prog_14_method_39_code, 3, some .int, 12, 1, true),
  (⟨"FamilyGlassModel", "marksIn", "(II)I"⟩, prog_14_method_84_code, 5, some .int, 12, 2, false),
  (⟨"FamilyGlassModel", "tapping", "(II)I"⟩, prog_14_method_88_code, 4, some .int, 12, 2, false),
  (⟨"FamilyGlassModel", "isSpan", "(I)Z"⟩, prog_14_method_83_code, 1, some .boolean, 12, 1, true),
  (⟨"FamilyGlassModel", "markBehind", "(I)I"⟩, prog_14_method_87_code, 2, some .int, 12, 1, false),
  (⟨"FamilyGlassModel", "often", "(II)I"⟩, prog_14_method_89_code, 4, some .int, 12, 2, false),
  (⟨"FamilyGlassModel", "quiet", "(I)I"⟩, prog_14_method_90_code, 4, some .int, 12, 1, false),
  (⟨"FamilyGlassModel", "doneBits", "(I)I"⟩, prog_14_method_61_code, 4, some .int, 12, 1, false),
  (⟨"FamilyGlassModel", "busiest", "(II)I"⟩, prog_14_method_91_code, 6, some .int, 12, 2, false),
  (⟨"FamilyGlassModel", "coax", "(III)I"⟩, prog_14_method_94_code, 5, some .int, 12, 3, false),
  (⟨"FamilyGlassModel", "coaxBy", "(II)I"⟩, prog_14_method_93_code, 5, some .int, 12, 2, false),
  (⟨"FamilyGlassModel", "isMarkWith", "(IIII)Z"⟩, prog_14_method_92_code, 5, some .boolean, 12, 4, false),
  (⟨"FamilyGlassModel", "changed", "(II)I"⟩, prog_14_method_95_code, 5, some .int, 12, 2, false),
  (⟨"FamilyGlassModel", "gloomiest", "(I)I"⟩, prog_14_method_96_code, 4, some .int, 12, 1, false),
  (⟨"FamilyGlassModel", "parts", "(II)I"⟩, prog_14_method_97_code, 8, some .int, 12, 2, false),
  (⟨"FamilyGlassModel", "pairs", "(I)I"⟩, prog_14_method_102_code, 5, some .int, 12, 1, false),
  (⟨"FamilyGlassModel", "fillsPaired", "()V"⟩, prog_14_method_100_code, 5, none, 12, 0, false),
  (⟨"FamilyGlassModel", "lowestOf", "(I)I"⟩, prog_14_method_98_code, 2, some .int, 12, 1, true),
  (⟨"FamilyGlassModel", "pairedWith", "(III)I"⟩, prog_14_method_99_code, 4, some .int, 12, 3, false),
  (⟨"FamilyGlassModel", "off", "(II)I"⟩, prog_14_method_40_code, 2, some .int, 12, 2, true),
  (⟨"FamilyGlassModel", "pairedOf", "(I)I"⟩, prog_14_method_101_code, 5, some .int, 12, 1, false),
  (⟨"FamilyGlassModel", "worth", "(II)I"⟩, prog_14_method_103_code, 4, some .int, 12, 2, false),
  (⟨"FamilyGlassModel", "highest", "(II)I"⟩, prog_14_method_104_code, 6, some .int, 12, 2, false),
  (⟨"FamilyGlassModel", "game", "(II)I"⟩, prog_14_method_111_code, 5, some .int, 12, 2, false),
  (⟨"FamilyGlassModel", "spreads", "(II)V"⟩, prog_14_method_108_code, 7, none, 12, 2, false),
  (⟨"FamilyGlassModel", "loads", "(I)V"⟩, prog_14_method_105_code, 3, none, 12, 1, false),
  (⟨"FamilyGlassModel", "plays", "(I)Z"⟩, prog_14_method_106_code, 5, some .boolean, 12, 1, false),
  (⟨"FamilyGlassModel", "childOf", "(III)I"⟩, prog_14_method_107_code, 4, some .int, 12, 3, false)]
def mRows_6 : List mRow := [(⟨"FamilyGlassModel", "leastBy", "(IIII)I"⟩, prog_14_method_109_code, 8, some .int, 12, 4, false),
  (⟨"FamilyGlassModel", "greater", "(II)I"⟩, prog_14_method_110_code, 3, some .int, 12, 2, false),
  (⟨"FamilyGlassModel", "markIn", "(I)I"⟩, prog_14_method_112_code, 2, some .int, 12, 1, false),
  (⟨"FamilyGlassModel", "moodIn", "(II)I"⟩, prog_14_method_113_code, 3, some .int, 12, 2, false),
  (⟨"FamilyGlassModel", "year", "(III)I"⟩, prog_14_method_114_code, 6, some .int, 12, 3, false),
  (⟨"FamilyGlassModel", "tell", "(IIZ)I"⟩, prog_14_method_115_code, 4, some .int, 12, 3, false),
  (⟨"FamilyGlassModel", "forget", "()I"⟩, prog_14_method_116_code, 2, some .int, 12, 0, false),
  (⟨"FamilyGlassModel", "fits", "(III)I"⟩, prog_14_method_119_code, 7, some .int, 12, 3, false),
  (⟨"FamilyGlassModel", "fillsMarks", "(I)V"⟩, prog_14_method_117_code, 4, none, 12, 1, false),
  (⟨"FamilyGlassModel", "doesFit", "(II)Z"⟩, prog_14_method_118_code, 4, some .boolean, 12, 2, false),
  (⟨"FamilyGlassModel", "look", "(III)I"⟩, prog_14_method_120_code, 10, some .int, 12, 3, false),
  (⟨"FamilyGlassModel", "hold", "(I)Z"⟩, prog_14_method_121_code, 3, some .boolean, 12, 1, false),
  (⟨"FamilyGlassModel", "restore", "(I)Z"⟩, prog_14_method_122_code, 3, some .boolean, 12, 1, false),
  (⟨"FamilyGlassModel", "count", "(I)I"⟩, prog_14_method_124_code, 2, some .int, 12, 1, false),
  (⟨"FamilyGlassModel", "moodBits", "(I)I"⟩, prog_14_method_123_code, 4, some .int, 12, 1, false),
  (⟨"java/lang/String", "charAt", "(I)C"⟩, prog_18_method_56_code, 2, some .char, 14, 1, false),
  (⟨"java/lang/String", "coder", "()B"⟩, prog_18_method_152_code, 1, some .byte, 14, 0, false),
  (⟨"java/lang/String", "indexOf", "(I)I"⟩, prog_18_method_79_code, 2, some .int, 14, 1, false),
  (⟨"java/lang/String", "indexOf", "(II)I"⟩, prog_18_method_80_code, 3, some .int, 14, 2, false),
  (⟨"java/lang/String", "isLatin1", "()Z"⟩, prog_18_method_154_code, 1, some .boolean, 14, 0, false),
  (⟨"java/lang/String", "length", "()I"⟩, prog_18_method_54_code, 1, some .int, 14, 0, false),
  (⟨"java/lang/String", "checkIndex", "(II)V"⟩, prog_18_method_155_code, 2, none, 14, 2, true),
  (⟨"java/lang/StringLatin1", "canEncode", "(I)Z"⟩, prog_19_method_4_code, 1, some .boolean, 15, 1, true),
  (⟨"java/lang/StringLatin1", "charAt", "([BI)C"⟩, prog_19_method_2_code, 2, some .char, 15, 2, true),
  (⟨"java/lang/StringLatin1", "indexOf", "([BIII)I"⟩, prog_19_method_22_code, 4, some .int, 15, 4, true),
  (⟨"java/lang/StringLatin1", "indexOfChar", "([BIII)I"⟩, prog_19_method_23_code, 6, some .int, 15, 4, true),
  (⟨"jdk/internal/util/Preconditions", "checkIndex", "(IILjava/util/function/BiFunction;)I"⟩, prog_21_method_11_code, 3, some .int, 16, 3, true),
  (⟨"java/lang/Integer", "bitCount", "(I)I"⟩, prog_16_method_49_code, 1, some .int, 18, 1, true)]
def mRowLaw : mRow := (⟨"FamilyGlassLaw", "law", "([I)Z"⟩, code, 4, ret, 13, 1, true)
def mRows : List mRow := mRows_0 ++ (mRows_1 ++ (mRows_2 ++ (mRows_3 ++ (mRows_4 ++ (mRows_5 ++ (mRows_6 ++ ([mRowLaw])))))))
/-- links of fields: whose pool, its entry, the class of the object, the field, by nest -/
def mFld : List (Nat × Nat × Nat × Nat × Bool) := [(9, 9, 9, 0, false), (11, 100, 9, 1, true), (9, 15, 9, 1, false), (10, 54, 9, 1, true), (10, 9, 10, 0, false), (10, 15, 10, 1, false), (7, 163, 10, 1, true), (10, 19, 10, 2, false), (7, 166, 10, 2, true), (10, 22, 10, 3, false), (7, 169, 10, 3, true), (10, 43, 10, 4, false), (7, 162, 10, 4, true), (5, 9, 5, 0, false), (1, 134, 5, 0, true), (5, 15, 5, 1, false), (1, 137, 5, 1, true), (5, 18, 5, 2, false), (5, 22, 5, 3, false), (4, 71, 5, 3, true), (7, 134, 5, 3, true), (1, 129, 5, 3, true), (4, 9, 4, 0, false), (7, 98, 4, 0, true), (4, 15, 4, 1, false), (8, 30, 4, 1, true), (7, 106, 4, 1, true), (11, 131, 4, 1, true), (4, 19, 4, 2, false), (7, 110, 4, 2, true), (1, 74, 4, 2, true), (11, 136, 4, 2, true), (4, 22, 4, 3, false), (7, 116, 4, 3, true), (4, 25, 4, 4, false), (1, 71, 4, 4, true), (7, 119, 4, 4, true), (11, 150, 4, 4, true), (4, 28, 4, 5, false), (7, 125, 4, 5, true), (1, 89, 4, 5, true), (11, 153, 4, 5, true), (4, 31, 4, 6, false), (7, 128, 4, 6, true), (1, 92, 4, 6, true), (11, 156, 4, 6, true), (4, 34, 4, 7, false), (1, 77, 4, 7, true), (7, 131, 4, 7, true), (11, 159, 4, 7, true), (4, 42, 4, 8, false), (1, 47, 4, 8, true), (7, 61, 4, 8, true), (4, 46, 4, 9, false), (7, 69, 4, 9, true), (1, 80, 4, 9, true), (4, 49, 4, 10, false), (7, 72, 4, 10, true), (1, 83, 4, 10, true), (4, 52, 4, 11, false), (1, 61, 4, 11, true), (7, 75, 4, 11, true), (4, 58, 4, 12, false), (1, 28, 4, 12, true), (8, 25, 4, 12, true), (7, 95, 4, 12, true), (11, 172, 4, 12, true), (4, 62, 4, 13, false), (7, 113, 4, 13, true), (1, 86, 4, 13, true), (11, 175, 4, 13, true), (4, 65, 4, 14, false), (7, 86, 4, 14, true), (1, 122, 4, 14, true), (4, 68, 4, 15, false), (7, 89, 4, 15, true), (11, 196, 4, 15, true), (7, 12, 7, 0, false), (7, 21, 7, 1, false), (11, 112, 7, 1, true), (7, 32, 7, 2, false), (7, 36, 7, 3, false), (7, 52, 7, 4, false), (11, 111, 7, 4, true), (7, 39, 7, 5, false), (7, 49, 7, 6, false), (1, 9, 1, 0, false), (1, 15, 1, 1, false), (1, 18, 1, 2, false), (1, 24, 1, 3, false), (11, 88, 1, 3, true), (0, 9, 0, 0, false), (0, 15, 0, 1, false), (0, 18, 0, 2, false), (0, 22, 0, 3, false), (11, 123, 0, 3, true), (8, 9, 8, 0, false), (1, 32, 8, 0, true), (6, 33, 8, 0, true), (11, 128, 8, 0, true), (8, 15, 8, 1, false), (1, 37, 8, 1, true), (11, 178, 8, 1, true), (8, 19, 8, 2, false), (2, 33, 8, 2, true), (1, 40, 8, 2, true), (11, 187, 8, 2, true), (8, 22, 8, 3, false), (2, 54, 8, 3, true), (1, 95, 8, 3, true), (11, 162, 8, 3, true), (3, 11, 3, 0, false), (3, 18, 3, 1, false), (3, 26, 3, 2, false), (11, 120, 3, 2, true), (2, 11, 2, 0, false), (2, 26, 2, 1, false), (11, 265, 2, 1, true), (2, 30, 2, 2, false), (11, 268, 2, 2, true), (6, 9, 6, 0, false), (6, 15, 6, 1, false), (11, 279, 6, 1, true), (6, 18, 6, 2, false), (6, 22, 6, 3, false), (11, 276, 6, 3, true), (11, 12, 11, 0, false), (11, 19, 11, 1, false), (11, 26, 11, 2, false), (11, 33, 11, 3, false), (11, 40, 11, 4, false), (11, 47, 11, 5, false), (11, 54, 11, 6, false), (11, 61, 11, 7, false), (11, 65, 11, 8, false), (11, 68, 11, 9, false), (11, 71, 11, 10, false), (11, 75, 11, 11, false), (11, 79, 11, 12, false), (11, 82, 11, 13, false), (11, 85, 11, 14, false), (11, 92, 11, 15, false), (11, 93, 11, 16, false), (11, 97, 11, 17, false), (12, 13, 12, 1, false), (12, 175, 12, 2, false), (12, 17, 12, 3, false), (12, 181, 12, 4, false), (12, 20, 12, 5, false), (12, 24, 12, 6, false), (12, 27, 12, 7, false), (12, 30, 12, 8, false), (12, 34, 12, 9, false), (12, 190, 12, 10, false), (12, 215, 12, 11, false), (12, 239, 12, 12, false), (12, 212, 12, 13, false), (12, 218, 12, 14, false), (12, 221, 12, 15, false), (12, 224, 12, 16, false), (12, 37, 12, 17, false), (12, 242, 12, 18, false), (12, 245, 12, 19, false), (12, 248, 12, 20, false), (12, 40, 12, 21, false), (12, 43, 12, 22, false), (12, 46, 12, 23, false), (12, 49, 12, 24, false), (12, 52, 12, 25, false), (12, 55, 12, 26, false), (12, 58, 12, 27, false), (12, 61, 12, 28, false), (12, 64, 12, 29, false), (12, 67, 12, 30, false), (12, 70, 12, 31, false), (12, 73, 12, 32, false), (12, 76, 12, 33, false), (12, 79, 12, 34, false), (12, 251, 12, 35, false), (12, 82, 12, 36, false), (12, 86, 12, 37, false), (12, 89, 12, 38, false), (12, 92, 12, 39, false), (12, 95, 12, 40, false), (12, 254, 12, 41, false), (12, 98, 12, 42, false), (12, 101, 12, 43, false), (12, 104, 12, 44, false), (12, 304, 12, 45, false), (12, 107, 12, 46, false), (12, 110, 12, 47, false), (12, 317, 12, 48, false), (12, 113, 12, 49, false), (12, 116, 12, 50, false), (12, 325, 12, 51, false), (12, 328, 12, 52, false), (12, 119, 12, 53, false), (12, 260, 12, 54, false), (12, 122, 12, 55, false), (12, 125, 12, 56, false), (12, 128, 12, 57, false), (12, 131, 12, 58, false), (12, 134, 12, 59, false), (12, 137, 12, 60, false), (12, 140, 12, 61, false), (12, 263, 12, 62, false), (12, 143, 12, 63, false), (12, 146, 12, 64, false), (12, 149, 12, 65, false), (12, 152, 12, 66, false), (12, 155, 12, 67, false), (12, 158, 12, 68, false)]
/-- links of methods: whose pool, its entry, the method (9999: Object.<init>, 9998, 9997, 9996: max, min, abs), by nest -/
def mMth : List (Nat × Nat × Nat × Bool) := [(13, 9, 76, false), (11, 3, 9999, false), (11, 11, 61, true), (9, 3, 9999, false), (11, 18, 37, true), (7, 3, 9999, false), (7, 11, 67, true), (10, 3, 9999, false), (10, 27, 260, false), (14, 335, 256, false), (10, 33, 255, false), (14, 492, 259, false), (14, 495, 263, false), (15, 9, 261, false), (14, 1059, 266, false), (10, 37, 68, false), (7, 20, 25, true), (4, 3, 9999, false), (4, 39, 29, true), (5, 3, 9999, false), (4, 55, 26, false), (4, 74, 30, true), (5, 25, 31, false), (4, 77, 31, true), (11, 25, 3, true), (1, 3, 9999, false), (1, 23, 25, true), (11, 32, 0, true), (0, 3, 9999, false), (11, 39, 22, true), (3, 3, 9999, false), (3, 17, 55, true), (8, 3, 9999, false), (11, 46, 18, true), (2, 3, 9999, false), (2, 17, 55, true), (11, 53, 33, true), (6, 3, 9999, false), (11, 60, 55, true), (13, 13, 77, false), (11, 103, 62, true), (13, 18, 78, false), (13, 23, 79, false), (11, 107, 38, true), (7, 25, 69, true), (10, 47, 70, false), (10, 60, 63, true), (9, 19, 64, false), (9, 23, 257, false), (14, 633, 258, false), (14, 505, 260, false), (14, 637, 264, false), (15, 88, 262, false), (15, 92, 9998, false), (15, 38, 9997, false), (15, 95, 265, false), (10, 51, 71, false), (10, 64, 72, false), (10, 68, 65, true), (10, 72, 73, false), (10, 83, 64, true), (10, 87, 74, false), (10, 75, 66, true), (10, 78, 75, false), (7, 29, 26, true), (7, 42, 39, false), (7, 46, 40, false), (7, 55, 41, false), (7, 92, 42, false), (7, 183, 43, false), (7, 78, 44, false), (7, 102, 45, false), (7, 156, 46, false), (7, 172, 27, true), (4, 81, 28, false), (7, 176, 47, false), (7, 82, 48, false), (7, 58, 49, false), (7, 122, 50, false), (7, 179, 28, true), (7, 65, 51, false), (7, 139, 52, false), (7, 150, 53, false), (7, 153, 54, false), (7, 143, 31, true), (7, 159, 30, true), (7, 147, 32, true), (11, 113, 80, false), (11, 116, 56, true), (13, 28, 81, false), (13, 32, 82, false), (11, 124, 83, false), (11, 139, 4, true), (1, 67, 5, false), (1, 43, 6, false), (1, 51, 7, false), (1, 55, 9998, false), (1, 64, 8, false), (11, 143, 9, true), (13, 37, 84, false), (11, 147, 85, false), (11, 165, 86, false), (11, 209, 10, true), (11, 169, 11, true), (13, 41, 87, false), (13, 178, 88, false), (11, 181, 57, true), (11, 184, 58, true), (8, 33, 9998, false), (11, 190, 267, false), (11, 199, 12, true), (1, 119, 13, false), (1, 125, 14, false), (11, 203, 5, true), (11, 206, 89, false), (13, 45, 90, false), (11, 213, 23, true), (3, 22, 59, true), (3, 29, 9997, false), (13, 49, 91, false), (13, 53, 92, false), (13, 58, 93, false), (13, 62, 94, false), (11, 217, 95, false), (11, 221, 15, true), (1, 109, 4, false), (1, 115, 12, false), (1, 112, 16, false), (1, 98, 10, false), (1, 102, 11, false), (1, 106, 9, false), (13, 66, 96, false), (11, 224, 24, true), (13, 169, 97, false), (11, 228, 59, true), (13, 174, 98, false), (13, 71, 99, false), (11, 231, 100, false), (11, 234, 16, true), (13, 75, 101, false), (11, 237, 102, false), (13, 79, 103, false), (11, 240, 60, true), (13, 83, 104, false), (13, 96, 105, false), (13, 100, 106, false), (13, 104, 107, false), (11, 243, 108, false), (13, 132, 109, false), (13, 87, 110, false), (11, 246, 111, false), (13, 92, 112, false), (11, 249, 17, true), (13, 108, 113, false), (11, 252, 114, false), (11, 256, 115, false), (13, 112, 116, false), (13, 128, 117, false), (13, 136, 118, false), (11, 261, 19, true), (2, 18, 59, true), (2, 22, 20, false), (2, 44, 4, true), (2, 50, 10, true), (2, 57, 16, true), (2, 60, 9997, false), (2, 63, 21, false), (2, 40, 57, true), (2, 34, 9998, false), (13, 116, 119, false), (13, 120, 120, false), (11, 269, 121, false), (13, 124, 122, false), (11, 272, 34, true), (6, 25, 35, false), (6, 29, 36, false), (6, 38, 9996, false), (13, 140, 123, false), (13, 144, 124, false), (13, 148, 125, false), (13, 152, 126, false), (11, 282, 1, true), (13, 157, 127, false), (13, 161, 128, false), (11, 286, 129, false), (11, 299, 2, true), (13, 165, 130, false), (11, 289, 131, false), (11, 293, 9998, false), (13, 12, 132, false), (12, 7, 9999, false), (12, 161, 133, false), (12, 165, 134, false), (12, 186, 135, false), (12, 169, 136, false), (12, 172, 137, false), (13, 17, 138, false), (12, 178, 139, false), (13, 22, 140, false), (13, 27, 141, false), (12, 236, 142, false), (12, 193, 143, false), (12, 197, 144, false), (12, 201, 145, false), (12, 205, 146, false), (12, 208, 147, false), (12, 230, 148, false), (12, 257, 149, false), (12, 272, 150, false), (12, 227, 151, false), (12, 233, 152, false), (12, 276, 153, false), (12, 269, 154, false), (12, 292, 155, false), (12, 266, 156, false), (12, 280, 157, false), (12, 283, 158, false), (12, 295, 159, false), (12, 286, 160, false), (12, 289, 161, false), (12, 298, 162, false), (12, 310, 163, false), (12, 307, 164, false), (12, 313, 165, false), (12, 301, 166, false), (13, 31, 167, false), (13, 36, 168, false), (12, 389, 169, false), (12, 321, 170, false), (12, 331, 171, false), (12, 380, 172, false), (12, 354, 173, false), (12, 348, 174, false), (12, 342, 175, false), (12, 345, 176, false), (12, 351, 177, false), (12, 339, 178, false), (12, 360, 179, false), (12, 357, 180, false), (12, 373, 181, false), (12, 363, 182, false), (13, 40, 183, false), (12, 392, 184, false), (12, 366, 185, false), (12, 370, 186, false), (13, 44, 187, false), (13, 48, 188, false), (12, 398, 189, false), (12, 395, 190, false), (13, 52, 191, false), (13, 57, 192, false), (13, 61, 193, false), (13, 65, 194, false), (12, 401, 195, false), (12, 404, 196, false), (12, 386, 197, false), (12, 376, 198, false), (12, 335, 199, false), (12, 383, 200, false), (13, 70, 201, false), (13, 74, 202, false), (12, 407, 203, false), (12, 410, 204, false), (13, 78, 205, false), (12, 413, 206, false), (12, 416, 207, false), (13, 82, 208, false), (13, 86, 209, false), (13, 91, 210, false), (12, 425, 211, false), (12, 419, 212, false), (12, 422, 213, false), (13, 95, 214, false), (12, 428, 215, false), (12, 431, 216, false), (13, 99, 217, false), (13, 103, 218, false), (12, 434, 219, false), (13, 107, 220, false), (13, 111, 221, false), (12, 441, 222, false), (12, 437, 223, false), (13, 115, 224, false), (13, 119, 225, false), (13, 123, 226, false), (13, 127, 227, false), (12, 453, 228, false), (12, 447, 229, false), (12, 450, 230, false), (12, 444, 231, false), (12, 456, 232, false), (13, 131, 233, false), (13, 135, 234, false), (13, 139, 235, false), (12, 469, 236, false), (12, 460, 237, false), (12, 463, 238, false), (12, 466, 239, false), (12, 472, 240, false), (12, 476, 241, false), (13, 143, 242, false), (13, 147, 243, false), (13, 151, 244, false), (13, 156, 245, false), (13, 160, 246, false), (13, 164, 247, false), (12, 479, 248, false), (12, 482, 249, false), (13, 168, 250, false), (13, 173, 251, false), (13, 177, 252, false), (13, 181, 253, false), (12, 485, 254, false)]
def mCln : List (Nat × Nat × Nat) := [(13, 7, 11), (11, 9, 9), (11, 16, 7), (7, 9, 10), (7, 18, 4), (4, 37, 5), (11, 23, 1), (1, 21, 4), (11, 30, 0), (11, 37, 3), (3, 9, 8), (11, 44, 2), (2, 9, 8), (11, 51, 6), (11, 58, 8), (13, 10, 12)]
def mKi : List (Nat × Nat × Int32) := [(18, 265, 1431655765), (18, 266, 858993459), (18, 267, 252645135), (1, 128, 1103515245), (11, 260, -100000), (12, 334, 1103515245), (12, 459, -100000)]
def mKl : List (Nat × Nat × Int64) := [(10, 41, 27), (10, 91, 10), (12, 184, 27)]
/-- links of texts: whose pool, its entry, which text -/
def mKs : List (Nat × Nat × Nat) := [(10, 25, 0), (10, 58, 1), (10, 81, 2)]
def mTx : List (List Int32) := [[112, 101, 114, 115, 111, 110, 32, 100, 111, 105, 110, 103, 32, 110, 101, 101, 100, 108, 101, 32, 99, 104, 97, 110, 103, 101, 115, 32, 100, 114, 105, 102, 116, 115, 32, 106, 117, 109, 112, 115, 32, 115, 108, 105, 112, 115, 32, 115, 101, 101, 100, 32, 105, 102, 32, 116, 104, 101, 110, 32, 101, 108, 115, 101, 32, 115, 117, 109, 32, 109, 111, 111, 100, 32, 115, 119, 97, 121, 32, 109, 97, 114, 107, 32, 104, 111, 117, 114, 32, 116, 97, 112, 115, 32, 119, 104, 105, 99, 104, 32, 109, 117, 99, 104, 32, 109, 111, 115, 116], [9, 10, 13, 32], [59, 61, 43, 45, 42, 47, 60, 40, 41]]
def mTxS (k : Nat) : String := ["person doing needle changes drifts jumps slips seed if then else sum mood sway mark hour taps which much most", "\t\n\r ", ";=+-*/<()"].getD k ""
def mTxL : List Nat := [109, 4, 9]
/-- a place of the locals that holds nothing -/
def mDum : Value := .retAddr 0
/-- one place of a row written -/
def mU {α : Type} (f : Nat → Nat → α) (a k : Nat) (v : α) : Nat → Nat → α := fun b => if b = a then (fun j => if j = k then v else f a j) else f b
/-- a fresh row -/
def mZr {α : Type} (f : Nat → Nat → α) (a : Nat) (v : α) : Nat → Nat → α := fun b => if b = a then (fun _ => v) else f b
def mFldOf (own ix : Nat) : Option (Nat × Nat × Nat × Nat × Bool) := mFld.find? (fun e => e.1 == own && e.2.1 == ix)
def mMthOf (own ix : Nat) : Option (Nat × Nat × Nat × Bool) := mMth.find? (fun e => e.1 == own && e.2.1 == ix)
def mClnOf (own ix : Nat) : Option (Nat × Nat × Nat) := mCln.find? (fun e => e.1 == own && e.2.1 == ix)
def mKiOf (own ix : Nat) : Option (Nat × Nat × Int32) := mKi.find? (fun e => e.1 == own && e.2.1 == ix)
def mKlOf (own ix : Nat) : Option (Nat × Nat × Int64) := mKl.find? (fun e => e.1 == own && e.2.1 == ix)
def mKsOf (own ix : Nat) : Option (Nat × Nat × Nat) := mKs.find? (fun e => e.1 == own && e.2.1 == ix)
/-- a long ahead of a place that is written is no more -/
def mKill (L : List Value) : Nat → List Value
  | 0 => L
  | j + 1 => match L[j]? with
    | some (.long _) => L.set j mDum
    | some (.double _) => L.set j mDum
    | _ => L
def mSt1 (L : List Value) (i : Nat) (v : Value) : Option (List Value) := if i < L.length then some ((mKill L i).set i v) else none
def mSt2 (L : List Value) (i : Nat) (v : Value) : Option (List Value) := if i + 1 < L.length then some (((mKill L i).set i v).set (i + 1) mDum) else none
def mTgt (pc : Nat) (off : Int) : Option Nat := if 0 ≤ (pc : Int) + off then some ((pc : Int) + off).toNat else none
abbrev mF3 : Type := Nat × List Value × List Value
/-- numbers and locals put on the stack -/
def mA (i : Instr) (len own pc : Nat) (L S : List Value) : Option mF3 :=
  match i, len with
  | .iconst n, 1 => some (pc + 1, L, .int (Int32.ofInt n) :: S)
  | .bipush n, 2 => some (pc + 2, L, .int (Int8.ofInt n).toInt32 :: S)
  | .sipush n, 3 => some (pc + 3, L, .int (Int16.ofInt n).toInt32 :: S)
  | .lconst n, 1 => some (pc + 1, L, .long (Int64.ofNat (n : Nat)) :: S)
  | .ldc ix, 2 => match mKiOf own ix with
    | some (_, _, v) => some (pc + 2, L, .int v :: S)
    | none => match mKsOf own ix with
      | some (_, _, k) => some (pc + 2, L, .ref k :: S)
      | none => none
  | .ldc_w ix, 3 => match mKiOf own ix with
    | some (_, _, v) => some (pc + 3, L, .int v :: S)
    | none => none
  | .ldc2_w ix, 3 => match mKlOf own ix with
    | some (_, _, v) => some (pc + 3, L, .long v :: S)
    | none => none
  | .iload k, 2 => match L[k]? with
    | some (.int x) => some (pc + 2, L, .int x :: S)
    | _ => none
  | .iload_n k, 1 => match L[(k : Nat)]? with
    | some (.int x) => some (pc + 1, L, .int x :: S)
    | _ => none
  | .lload k, 2 => match L[k]? with
    | some (.long x) => some (pc + 2, L, .long x :: S)
    | _ => none
  | .lload_n k, 1 => match L[(k : Nat)]? with
    | some (.long x) => some (pc + 1, L, .long x :: S)
    | _ => none
  | .aload k, 2 => match L[k]? with
    | some (.ref x) => some (pc + 2, L, .ref x :: S)
    | _ => none
  | .aload_n k, 1 => match L[(k : Nat)]? with
    | some (.ref x) => some (pc + 1, L, .ref x :: S)
    | _ => none
  | .getstatic ix, 3 => if own = 14 ∧ ix = 38 then some (pc + 3, L, .int 1 :: S) else if own = 14 ∧ ix = 1053 then some (pc + 3, L, .null :: S) else none
  | _, _ => none
/-- locals written; the stack -/
def mB (i : Instr) (len pc : Nat) (L S : List Value) : Option mF3 :=
  match i, len, S with
  | .istore k, 2, .int x :: S' => (mSt1 L k (.int x)).map fun L' => (pc + 2, L', S')
  | .istore_n k, 1, .int x :: S' => (mSt1 L k (.int x)).map fun L' => (pc + 1, L', S')
  | .lstore k, 2, .long x :: S' => (mSt2 L k (.long x)).map fun L' => (pc + 2, L', S')
  | .lstore_n k, 1, .long x :: S' => (mSt2 L k (.long x)).map fun L' => (pc + 1, L', S')
  | .astore k, 2, .ref x :: S' => (mSt1 L k (.ref x)).map fun L' => (pc + 2, L', S')
  | .astore_n k, 1, .ref x :: S' => (mSt1 L k (.ref x)).map fun L' => (pc + 1, L', S')
  | .iinc k n, 3, S' => match L[k]? with
    | some (.int x) => (mSt1 L k (.int (x + Int32.ofInt n))).map fun L' => (pc + 3, L', S')
    | _ => none
  | .dup, 1, .int x :: S' => some (pc + 1, L, .int x :: .int x :: S')
  | .dup, 1, .ref x :: S' => some (pc + 1, L, .ref x :: .ref x :: S')
  | .pop, 1, .int _ :: S' => some (pc + 1, L, S')
  | .dup2, 1, .int x :: .ref y :: S' => some (pc + 1, L, .int x :: .ref y :: .int x :: .ref y :: S')
  | _, _, _ => none
/-- arithmetic -/
def mC (i : Instr) (len pc : Nat) (L S : List Value) : Option mF3 :=
  match i, len, S with
  | .iadd, 1, .int y :: .int x :: S' => some (pc + 1, L, .int (x + y) :: S')
  | .isub, 1, .int y :: .int x :: S' => some (pc + 1, L, .int (x - y) :: S')
  | .imul, 1, .int y :: .int x :: S' => some (pc + 1, L, .int (x * y) :: S')
  | .iand, 1, .int y :: .int x :: S' => some (pc + 1, L, .int (x &&& y) :: S')
  | .ior, 1, .int y :: .int x :: S' => some (pc + 1, L, .int (x ||| y) :: S')
  | .ixor, 1, .int y :: .int x :: S' => some (pc + 1, L, .int (x ^^^ y) :: S')
  | .idiv, 1, .int y :: .int x :: S' => if y = 0 then none else some (pc + 1, L, .int (x / y) :: S')
  | .irem, 1, .int y :: .int x :: S' => if y = 0 then none else some (pc + 1, L, .int (x - x / y * y) :: S')
  | .ineg, 1, .int x :: S' => some (pc + 1, L, .int (-x) :: S')
  | .ishl, 1, .int y :: .int x :: S' => some (pc + 1, L, .int (x <<< (y &&& 31)) :: S')
  | .ishr, 1, .int y :: .int x :: S' => some (pc + 1, L, .int (x >>> (y &&& 31)) :: S')
  | .iushr, 1, .int y :: .int x :: S' => some (pc + 1, L, .int (x.toUInt32 >>> (y.toUInt32 &&& Int32.toUInt32 31)).toInt32 :: S')
  | .ladd, 1, .long y :: .long x :: S' => some (pc + 1, L, .long (x + y) :: S')
  | .lmul, 1, .long y :: .long x :: S' => some (pc + 1, L, .long (x * y) :: S')
  | .lcmp, 1, .long y :: .long x :: S' => some (pc + 1, L, .int (lg_cmp x y) :: S')
  | .i2l, 1, .int x :: S' => some (pc + 1, L, .long x.toInt64 :: S')
  | .l2i, 1, .long x :: S' => some (pc + 1, L, .int x.toInt32 :: S')
  | .i2b, 1, .int x :: S' => some (pc + 1, L, .int x.toInt8.toInt32 :: S')
  | .i2c, 1, .int x :: S' => some (pc + 1, L, .int (x.toUInt32 % 65536).toInt32 :: S')
  | _, _, _ => none
/-- jumps -/
def mJ (i : Instr) (len pc : Nat) (L S : List Value) : Option mF3 :=
  match i, len, S with
  | .goto off, 3, S' => (mTgt pc off).map fun t => (t, L, S')
  | .ifCond .eq off, 3, .int x :: S' => (mTgt pc off).map fun t => (if x = 0 then t else pc + 3, L, S')
  | .ifCond .ne off, 3, .int x :: S' => (mTgt pc off).map fun t => (if x ≠ 0 then t else pc + 3, L, S')
  | .ifCond .lt off, 3, .int x :: S' => (mTgt pc off).map fun t => (if x < 0 then t else pc + 3, L, S')
  | .ifCond .ge off, 3, .int x :: S' => (mTgt pc off).map fun t => (if 0 ≤ x then t else pc + 3, L, S')
  | .ifCond .gt off, 3, .int x :: S' => (mTgt pc off).map fun t => (if 0 < x then t else pc + 3, L, S')
  | .ifCond .le off, 3, .int x :: S' => (mTgt pc off).map fun t => (if x ≤ 0 then t else pc + 3, L, S')
  | .if_icmp .eq off, 3, .int y :: .int x :: S' => (mTgt pc off).map fun t => (if x = y then t else pc + 3, L, S')
  | .if_icmp .ne off, 3, .int y :: .int x :: S' => (mTgt pc off).map fun t => (if x ≠ y then t else pc + 3, L, S')
  | .if_icmp .lt off, 3, .int y :: .int x :: S' => (mTgt pc off).map fun t => (if x < y then t else pc + 3, L, S')
  | .if_icmp .ge off, 3, .int y :: .int x :: S' => (mTgt pc off).map fun t => (if y ≤ x then t else pc + 3, L, S')
  | .if_icmp .gt off, 3, .int y :: .int x :: S' => (mTgt pc off).map fun t => (if y < x then t else pc + 3, L, S')
  | .if_icmp .le off, 3, .int y :: .int x :: S' => (mTgt pc off).map fun t => (if x ≤ y then t else pc + 3, L, S')
  | .tableswitch dflt lo hi offs, _, .int x :: S' => if x.toInt < lo ∨ hi < x.toInt then (mTgt pc dflt).map fun t => (t, L, S') else (offs[(x.toInt - lo).toNat]?).bind fun off => (mTgt pc off).map fun t => (t, L, S')
  | _, _, _ => none
abbrev mF4 : Type := Nat × List Value × mHp
def mKd (ci k : Nat) : Nat := (mFk.getD ci []).getD k 9
def mFn (ci k : Nat) : Bool := (mFin.getD ci []).getD k true
/-- an index within -/
def mIn (i : Int32) (n : Nat) : Bool := decide (¬ i < 0) && decide (i.toNatClampNeg < n)
/-- reads -/
def mG (i : Instr) (len own pc : Nat) (S : List Value) (h : mHp) : Option mF4 :=
  match i, len, S with
  | .getfield ix, 3, .ref a :: S' => match mFldOf own ix with
    | some (_, _, ci, k, _) => if h.1[a]? = some (0, ci) ∧ k < mNf ci then (if mKd ci k = 2 then (match h.2.2.2 a k with
      | some b => some (pc + 3, .ref b :: S', h)
      | none => none) else some (pc + 3, .int (h.2.1 a k) :: S', h)) else none
    | none => if own = 14 ∧ ix = 9 ∧ a < 3 then some (pc + 3, .ref (3 + a) :: S', h) else if own = 14 ∧ ix = 15 ∧ a < 3 then some (pc + 3, .int 0 :: S', h) else none
  | .iaload, 1, .int i :: .ref a :: S' => match h.1[a]? with
    | some (1, n) => if mIn i n then some (pc + 1, .int (h.2.1 a i.toNatClampNeg) :: S', h) else none
    | some (8, n) => if a = 6 ∧ mIn i n then some (pc + 1, .int (h.2.1 a i.toNatClampNeg) :: S', h) else none
    | _ => none
  | .baload, 1, .int i :: .ref a :: S' => match h.1[a]? with
    | some (2, n) => if mIn i n then some (pc + 1, .int (h.2.1 a i.toNatClampNeg) :: S', h) else none
    | some (3, n) => if mIn i n then some (pc + 1, .int (h.2.1 a i.toNatClampNeg) :: S', h) else none
    | some (7, n) => if (3 ≤ a ∧ a < 6) ∧ mIn i n then some (pc + 1, .int (h.2.1 a i.toNatClampNeg) :: S', h) else none
    | _ => none
  | .laload, 1, .int i :: .ref a :: S' => match h.1[a]? with
    | some (4, n) => if mIn i n then some (pc + 1, .long (h.2.2.1 a i.toNatClampNeg) :: S', h) else none
    | _ => none
  | .aaload, 1, .int i :: .ref a :: S' => match h.1[a]? with
    | some (5, n) => if mIn i n then (match h.2.2.2 a i.toNatClampNeg with
      | some b => some (pc + 1, .ref b :: S', h)
      | none => none) else none
    | _ => none
  | .arraylength, 1, .ref a :: S' => match h.1[a]? with
    | some (1, n) => some (pc + 1, .int (Int32.ofNat n) :: S', h)
    | some (2, n) => some (pc + 1, .int (Int32.ofNat n) :: S', h)
    | some (3, n) => some (pc + 1, .int (Int32.ofNat n) :: S', h)
    | some (4, n) => some (pc + 1, .int (Int32.ofNat n) :: S', h)
    | some (5, n) => some (pc + 1, .int (Int32.ofNat n) :: S', h)
    | some (7, n) => if 3 ≤ a ∧ a < 6 then some (pc + 1, .int (Int32.ofNat n) :: S', h) else none
    | some (8, n) => if a = 6 then some (pc + 1, .int (Int32.ofNat n) :: S', h) else none
    | _ => none
  | _, _, _ => none
/-- writes, and what is made -/
def mW (i : Instr) (len own pc : Nat) (ini : Bool) (S : List Value) (h : mHp) : Option mF4 :=
  match i, len, S with
  | .putfield ix, 3, .int x :: .ref a :: S' => match mFldOf own ix with
    | some (_, _, ci, k, nest) => if h.1[a]? = some (0, ci) ∧ k < mNf ci ∧ (mKd ci k = 0 ∨ (mKd ci k = 1 ∧ (x = 0 ∨ x = 1))) ∧ (mFn ci k = false ∨ (ini = true ∧ own = ci ∧ nest = false)) then some (pc + 3, S', h.1, mU h.2.1 a k x, h.2.2.1, h.2.2.2) else none
    | none => none
  | .putfield ix, 3, .ref x :: .ref a :: S' => match mFldOf own ix with
    | some (_, _, ci, k, nest) => if h.1[a]? = some (0, ci) ∧ k < mNf ci ∧ mKd ci k = 2 ∧ (mFn ci k = false ∨ (ini = true ∧ own = ci ∧ nest = false)) then some (pc + 3, S', h.1, h.2.1, h.2.2.1, mU h.2.2.2 a k (some x)) else none
    | none => none
  | .iastore, 1, .int x :: .int i :: .ref a :: S' => match h.1[a]? with
    | some (1, n) => if mIn i n then some (pc + 1, S', h.1, mU h.2.1 a i.toNatClampNeg x, h.2.2.1, h.2.2.2) else none
    | _ => none
  | .bastore, 1, .int x :: .int i :: .ref a :: S' => match h.1[a]? with
    | some (2, n) => if mIn i n then some (pc + 1, S', h.1, mU h.2.1 a i.toNatClampNeg (vp_nar .byte x), h.2.2.1, h.2.2.2) else none
    | some (3, n) => if mIn i n then some (pc + 1, S', h.1, mU h.2.1 a i.toNatClampNeg (vp_nar .boolean x), h.2.2.1, h.2.2.2) else none
    | _ => none
  | .lastore, 1, .long x :: .int i :: .ref a :: S' => match h.1[a]? with
    | some (4, n) => if mIn i n then some (pc + 1, S', h.1, h.2.1, mU h.2.2.1 a i.toNatClampNeg x, h.2.2.2) else none
    | _ => none
  | .aastore, 1, .ref x :: .int i :: .ref a :: S' => match h.1[a]? with
    | some (5, n) => if mIn i n ∧ h.1[x]? = some (0, 8) then some (pc + 1, S', h.1, h.2.1, h.2.2.1, mU h.2.2.2 a i.toNatClampNeg (some x)) else none
    | _ => none
  | .new ix, 3, S' => match mClnOf own ix with
    | some (_, _, ci) => some (pc + 3, .ref h.1.length :: S', h.1 ++ [(0, ci)], mZr h.2.1 h.1.length 0, h.2.2.1, mZr h.2.2.2 h.1.length none)
    | none => none
  | .newarray .int, 2, .int n :: S' => if mIn n 1000000 then some (pc + 2, .ref h.1.length :: S', h.1 ++ [(1, n.toNatClampNeg)], mZr h.2.1 h.1.length 0, h.2.2.1, h.2.2.2) else none
  | .newarray .byte, 2, .int n :: S' => if mIn n 1000000 then some (pc + 2, .ref h.1.length :: S', h.1 ++ [(2, n.toNatClampNeg)], mZr h.2.1 h.1.length 0, h.2.2.1, h.2.2.2) else none
  | .newarray .boolean, 2, .int n :: S' => if mIn n 1000000 then some (pc + 2, .ref h.1.length :: S', h.1 ++ [(3, n.toNatClampNeg)], mZr h.2.1 h.1.length 0, h.2.2.1, h.2.2.2) else none
  | .newarray .long, 2, .int n :: S' => if mIn n 1000000 then some (pc + 2, .ref h.1.length :: S', h.1 ++ [(4, n.toNatClampNeg)], h.2.1, mZr h.2.2.1 h.1.length 0, h.2.2.2) else none
  | .anewarray ix, 3, .int n :: S' => match mClnOf own ix with
    | some (_, _, ci) => if ci = 8 ∧ mIn n 1000000 then some (pc + 3, .ref h.1.length :: S', h.1 ++ [(5, n.toNatClampNeg)], h.2.1, h.2.2.1, mZr h.2.2.2 h.1.length none) else none
    | none => none
  | _, _, _ => none
abbrev mF5 : Type := Nat × List Value × List Value × mHp
/-- one instruction that is no call and no return -/
def mNrm (i : Instr) (len own pc : Nat) (ini : Bool) (L S : List Value) (h : mHp) : Option mF5 :=
  match mA i len own pc L S with
  | some (pc', L', S') => some (pc', L', S', h)
  | none => match mB i len pc L S with
    | some (pc', L', S') => some (pc', L', S', h)
    | none => match mC i len pc L S with
      | some (pc', L', S') => some (pc', L', S', h)
      | none => match mJ i len pc L S with
        | some (pc', L', S') => some (pc', L', S', h)
        | none => match mG i len own pc S h with
          | some (pc', S', h') => some (pc', L, S', h')
          | none => match mW i len own pc ini S h with
            | some (pc', S', h') => some (pc', L, S', h')
            | none => none
/-- a return: what is answered -/
def mRet (i : Instr) (len : Nat) (ret : Option FieldType) (S : List Value) : Option (Option Value) :=
  match i, len, ret, S with
  | .ireturn, 1, some ty, [.int v] => if narrow ty (.int v) = .int v then some (some (.int v)) else none
  | .lreturn, 1, some .long, [.long v] => some (some (.long v))
  | .return_, 1, none, [] => some none
  | _, _, _, _ => none
def mWrd (S : List Value) : Nat := (S.map fun v => v.category).sum
/-- a call: which method, its arguments, what stays on the stack -/
def mCal (i : Instr) (len own : Nat) (S : List Value) (lay : List (Nat × Nat)) : Option (Nat × List Value × List Value) :=
  match i, len with
  | .invokevirtual ix, 3 => match mMthOf own ix with
    | some (_, _, z, _) => match mRows[z]? with
      | some r => match S.drop r.2.2.2.2.2.1 with
        | .ref b :: rest => if S.length = r.2.2.2.2.2.1 + 1 + rest.length ∧ r.2.2.2.2.2.2 = false ∧ r.1.name ≠ "<init>" ∧ (lay[b]? = some (0, r.2.2.2.2.1) ∨ (r.2.2.2.2.1 = 14 ∧ b < 3)) ∧ mWrd rest ≤ 8 then some (z, .ref b :: (S.take r.2.2.2.2.2.1).reverse, rest) else none
        | _ => none
      | none => none
    | none => none
  | .invokespecial ix, 3 => match mMthOf own ix with
    | some (_, _, z, _) => match mRows[z]? with
      | some r => match S.drop r.2.2.2.2.2.1 with
        | .ref b :: rest => if S.length = r.2.2.2.2.2.1 + 1 + rest.length ∧ r.2.2.2.2.2.2 = false ∧ r.1.name = "<init>" ∧ r.2.2.2.1 = none ∧ mWrd rest ≤ 8 then some (z, .ref b :: (S.take r.2.2.2.2.2.1).reverse, rest) else none
        | _ => none
      | none => none
    | none => none
  | .invokestatic ix, 3 => match mMthOf own ix with
    | some (_, _, z, _) => match mRows[z]? with
      | some r => if r.2.2.2.2.2.1 ≤ S.length ∧ r.2.2.2.2.2.2 = true ∧ mWrd (S.drop r.2.2.2.2.2.1) ≤ 8 then some (z, (S.take r.2.2.2.2.2.1).reverse, S.drop r.2.2.2.2.2.1) else none
      | none => none
    | none => none
  | _, _ => none
/-- the calls of Object.<init>, max, min, abs: what is on the stack then -/
def mPrm (i : Instr) (len own : Nat) (S : List Value) : Option (List Value) :=
  match i, len with
  | .invokespecial ix, 3 => match mMthOf own ix, S with
    | some (_, _, 9999, _), .ref _ :: S' => if mWrd S' ≤ 8 then some S' else none
    | _, _ => none
  | .invokestatic ix, 3 => match mMthOf own ix, S with
    | some (_, _, 9998, _), .int y :: .int x :: S' => if mWrd S' ≤ 8 then some (.int (if x < y then y else x) :: S') else none
    | some (_, _, 9997, _), .int y :: .int x :: S' => if mWrd S' ≤ 8 then some (.int (if y < x then y else x) :: S') else none
    | some (_, _, 9996, _), .int x :: S' => if mWrd S' ≤ 8 then some (.int (if 0 ≤ x then x else 0 - x) :: S') else none
    | _, _ => none
  | _, _ => none
/-- the locals at the start -/
def mArg (as : List Value) : List Value := as.flatMap fun v => if v.category = 2 then [v, mDum] else [v]
def mLoc (nL : Nat) (as : List Value) : List Value := mArg as ++ List.replicate (nL - (mArg as).length) mDum
/-- steps at most, calls open at most, the method, where it stands -/
def mExec : Nat → Nat → Nat → Nat → List Value → List Value → mHp → Option (Option Value × mHp)
  | 0, _, _, _, _, _, _ => none
  | n + 1, d, y, pc, L, S, h => match mRows[y]? with
    | none => none
    | some r => match decode r.2.1 pc with
      | .error _ => none
      | .ok (i, len) => match mRet i len r.2.2.2.1 S with
        | some v => some (v, h)
        | none => match mNrm i len r.2.2.2.2.1 pc (r.1.name == "<init>") L S h with
          | some (pc', L', S', h') => mExec n d y pc' L' S' h'
          | none => match d with
            | 0 => none
            | d' + 1 => match mPrm i len r.2.2.2.2.1 S with
              | some S' => mExec n (d' + 1) y (pc + 3) L S' h
              | none => match mCal i len r.2.2.2.2.1 S h.1 with
                | none => none
                | some (z, as, rest) => match mRows[z]? with
                  | none => none
                  | some rz => if (mArg as).length ≤ rz.2.2.1 then (match mExec n d' z 0 (mLoc rz.2.2.1 as) [] h with
                    | none => none
                    | some (v, h') => mExec n (d' + 1) y (pc + 3) L (v.toList ++ rest) h') else none
