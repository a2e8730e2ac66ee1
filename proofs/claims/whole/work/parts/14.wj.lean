theorem tx_at {xL a : Nat} (h : 3 ≤ a ∧ a < 6) : (mLy xL)[a]? = some (7, mTxL.getD (a - 3) 0) := by
  rcases (show a = 3 ∨ a = 4 ∨ a = 5 by omega) with rfl | rfl | rfl <;> rfl
theorem mRf_rc {rc rx rr b : Nat} : mU (mRf rc rx rr) 37 3 (some b) = mRf b rx rr := by
  funext a k
  simp only [mU, mRf]
  by_cases h1 : a = 37
  · by_cases h2 : k = 3 <;> simp [h1, h2]
  · simp [h1, mRf]
theorem mRf_rx {rc rx rr b : Nat} : mU (mRf rc rx rr) 7 15 (some b) = mRf rc b rr := by
  funext a k
  simp only [mU, mRf]
  by_cases h1 : a = 7
  · by_cases h2 : k = 15 <;> simp [h1, h2]
  · simp [h1, mRf]
theorem mRf_rr {rc rx rr b : Nat} : mU (mRf rc rx rr) 10 1 (some b) = mRf rc rx b := by
  funext a k
  simp only [mU, mRf]
  by_cases h1 : a = 10
  · by_cases h2 : k = 1 <;> simp [h1, h2]
  · simp [h1, mRf]
section WICALL
variable {d y pc z na ix a9 b9 b xL : Nat} {L S L2 as rest : List Value} {h : mHp} {I : Nat → Nat → Int32} {J : Nat → Nat → Int64} {R : Nat → Nat → Option Nat} {Q : Option Value → mHp → Prop} {r rz : mRow} {ns : Bool}
theorem wi_callV (hr : mRows[y]? = some r) (hd : decode r.2.1 pc = .ok (.invokevirtual ix, 3)) (hm : mMthOf r.2.2.2.2.1 ix = some (a9, b9, z, ns)) (hz : mRows[z]? = some rz) (hna : rz.2.2.2.2.2.1 = na) (hS : S.drop na = .ref b :: rest) (hlen : S.length = na + 1 + rest.length) (hst : rz.2.2.2.2.2.2 = false) (hn : rz.1.name ≠ "<init>") (hrc : (mLy xL)[b]? = some (0, rz.2.2.2.2.1) ∨ (rz.2.2.2.2.1 = 14 ∧ b < 3)) (hw : mWrd rest ≤ 8) (has : (S.take na).reverse = as) (harg : (mArg (.ref b :: as)).length ≤ rz.2.2.1) (hL2 : mLoc rz.2.2.1 (.ref b :: as) = L2) :
    WP (d + 1) y pc L S (mHh xL I J R) Q = WP d z 0 L2 [] (mHh xL I J R) (fun v h' => WP (d + 1) y (pc + 3) L (v.toList ++ rest) h' Q) := by
  subst hna has hL2
  exact wp_call hr hd rfl rfl rfl (by simp only [mCal, hm, hz, hS]; rw [if_pos ⟨hlen, hst, hn, hrc, hw⟩]) hz harg
theorem wi_callS (hr : mRows[y]? = some r) (hd : decode r.2.1 pc = .ok (.invokestatic ix, 3)) (hm : mMthOf r.2.2.2.2.1 ix = some (a9, b9, z, ns)) (hz : mRows[z]? = some rz) (hna : rz.2.2.2.2.2.1 = na) (hst : rz.2.2.2.2.2.2 = true) (hz9 : z < 9996) (hlen : na ≤ S.length) (hS : S.drop na = rest) (has : (S.take na).reverse = as) (hwa : mWrd rest ≤ 8 ∧ (mArg as).length ≤ rz.2.2.1) (hL2 : mLoc rz.2.2.1 as = L2) :
    WP (d + 1) y pc L S h Q = WP d z 0 L2 [] h (fun v h' => WP (d + 1) y (pc + 3) L (v.toList ++ rest) h' Q) := by
  subst hna has hL2 hS
  refine wp_call hr hd rfl rfl ?_ (by simp only [mCal, hm, hz]; rw [if_pos ⟨hlen, hst, hwa.1⟩]) hz hwa.2
  simp only [mPrm, hm]
  split <;> first | rfl | (rename_i h1; cases h1; exact absurd hz9 (by decide))
end WICALL
abbrev rw0 : mRow := (⟨"FamilyGlass$Book", "<init>", "()V"⟩, prog_2_method_1_code, 1, none, 0, 0, false)
theorem r0 : mRows[0]? = some rw0 := by rfl
abbrev rw1 : mRow := (⟨"FamilyGlass$Book", "write", "(IIZ)I"⟩, prog_2_method_2_code, 4, some .int, 0, 3, false)
theorem r1 : mRows[1]? = some rw1 := by rfl
abbrev rw2 : mRow := (⟨"FamilyGlass$Book", "agrees", "(I[I)Z"⟩, prog_2_method_3_code, 5, some .boolean, 0, 2, false)
theorem r2 : mRows[2]? = some rw2 := by rfl
abbrev rw3 : mRow := (⟨"FamilyGlass$Course", "<init>", "()V"⟩, prog_3_method_1_code, 1, none, 1, 0, false)
theorem r3 : mRows[3]? = some rw3 := by rfl
abbrev rw4 : mRow := (⟨"FamilyGlass$Course", "markOf", "(LFamilyGlass$State;)I"⟩, prog_3_method_4_code, 3, some .int, 1, 1, false)
theorem r4 : mRows[4]? = some rw4 := by rfl
abbrev rw5 : mRow := (⟨"FamilyGlass$Course", "jumpsOf", "(LFamilyGlass$State;)I"⟩, prog_3_method_3_code, 2, some .int, 1, 1, false)
theorem r5 : mRows[5]? = some rw5 := by rfl
abbrev rw6 : mRow := (⟨"FamilyGlass$Course", "see", "(LFamilyGlass$State;)V"⟩, prog_3_method_2_code, 6, none, 1, 1, false)
theorem r6 : mRows[6]? = some rw6 := by rfl
abbrev rw7 : mRow := (⟨"FamilyGlass$Course", "valueOf", "(LFamilyGlass$Law;)I"⟩, prog_3_method_15_code, 8, some .int, 1, 1, false)
theorem r7 : mRows[7]? = some rw7 := by rfl
abbrev rw8 : mRow := (⟨"FamilyGlass$Course", "held", "(II)I"⟩, prog_3_method_7_code, 2, some .int, 1, 2, true)
theorem r8 : mRows[8]? = some rw8 := by rfl
abbrev rw9 : mRow := (⟨"FamilyGlass$Course", "driftsTold", "(LFamilyGlass$State;II)I"⟩, prog_3_method_6_code, 4, some .int, 1, 3, false)
theorem r9 : mRows[9]? = some rw9 := by rfl
abbrev rw10 : mRow := (⟨"FamilyGlass$Course", "doneAt", "(LFamilyGlass$State;I)I"⟩, prog_3_method_8_code, 5, some .int, 1, 2, false)
theorem r10 : mRows[10]? = some rw10 := by rfl
abbrev rw11 : mRow := (⟨"FamilyGlass$Course", "changesTold", "(LFamilyGlass$State;II)I"⟩, prog_3_method_5_code, 5, some .int, 1, 3, false)
theorem r11 : mRows[11]? = some rw11 := by rfl
abbrev rw12 : mRow := (⟨"FamilyGlass$Course", "isSlip", "(II)Z"⟩, prog_3_method_12_code, 3, some .boolean, 1, 2, false)
theorem r12 : mRows[12]? = some rw12 := by rfl
abbrev rw13 : mRow := (⟨"FamilyGlass$Course", "lotOfHundred", "(II)I"⟩, prog_3_method_13_code, 3, some .int, 1, 2, true)
theorem r13 : mRows[13]? = some rw13 := by rfl
abbrev rw14 : mRow := (⟨"FamilyGlass$Course", "stirred", "(II)I"⟩, prog_3_method_14_code, 3, some .int, 1, 2, true)
theorem r14 : mRows[14]? = some rw14 := by rfl
abbrev rw15 : mRow := (⟨"FamilyGlass$Course", "markBehindSlips", "(LFamilyGlass$State;II)I"⟩, prog_3_method_11_code, 7, some .int, 1, 3, false)
theorem r15 : mRows[15]? = some rw15 := by rfl
abbrev rw16 : mRow := (⟨"FamilyGlass$Course", "passHour", "(LFamilyGlass$State;I)I"⟩, prog_3_method_9_code, 6, some .int, 1, 2, false)
theorem r16 : mRows[16]? = some rw16 := by rfl
abbrev rw17 : mRow := (⟨"FamilyGlass$Course", "markBehind", "(LFamilyGlass$State;I)I"⟩, prog_3_method_10_code, 5, some .int, 1, 2, false)
theorem r17 : mRows[17]? = some rw17 := by rfl
abbrev rw18 : mRow := (⟨"FamilyGlass$Game", "<init>", "()V"⟩, prog_4_method_1_code, 2, none, 2, 0, false)
theorem r18 : mRows[18]? = some rw18 := by rfl
abbrev rw19 : mRow := (⟨"FamilyGlass$Game", "play", "(LFamilyGlass$Course;LFamilyGlass$State;I)V"⟩, prog_4_method_2_code, 5, none, 2, 3, false)
theorem r19 : mRows[19]? = some rw19 := by rfl
abbrev rw20 : mRow := (⟨"FamilyGlass$Game", "auntsLeast", "(LFamilyGlass$Course;IIII)I"⟩, prog_4_method_4_code, 12, some .int, 2, 5, false)
theorem r20 : mRows[20]? = some rw20 := by rfl
abbrev rw21 : mRow := (⟨"FamilyGlass$Game", "boysMost", "(LFamilyGlass$Course;III)I"⟩, prog_4_method_3_code, 6, some .int, 2, 4, false)
theorem r21 : mRows[21]? = some rw21 := by rfl
abbrev rw22 : mRow := (⟨"FamilyGlass$History", "<init>", "()V"⟩, prog_5_method_1_code, 2, none, 3, 0, false)
theorem r22 : mRows[22]? = some rw22 := by rfl
abbrev rw23 : mRow := (⟨"FamilyGlass$History", "keep", "(LFamilyGlass$State;)V"⟩, prog_5_method_2_code, 2, none, 3, 1, false)
theorem r23 : mRows[23]? = some rw23 := by rfl
abbrev rw24 : mRow := (⟨"FamilyGlass$History", "takeBack", "(LFamilyGlass$State;)Z"⟩, prog_5_method_3_code, 2, some .boolean, 3, 1, false)
theorem r24 : mRows[24]? = some rw24 := by rfl
abbrev rw25 : mRow := (⟨"FamilyGlass$House", "<init>", "()V"⟩, prog_6_method_1_code, 1, none, 4, 0, false)
theorem r25 : mRows[25]? = some rw25 := by rfl
abbrev rw26 : mRow := (⟨"FamilyGlass$House", "clear", "()V"⟩, prog_6_method_2_code, 1, none, 4, 0, false)
theorem r26 : mRows[26]? = some rw26 := by rfl
abbrev rw27 : mRow := (⟨"FamilyGlass$House", "hasName", "(J)Z"⟩, prog_6_method_4_code, 4, some .boolean, 4, 1, false)
theorem r27 : mRows[27]? = some rw27 := by rfl
abbrev rw28 : mRow := (⟨"FamilyGlass$House", "personNamed", "(J)I"⟩, prog_6_method_3_code, 4, some .int, 4, 1, false)
theorem r28 : mRows[28]? = some rw28 := by rfl
abbrev rw29 : mRow := (⟨"FamilyGlass$Law", "<init>", "(I)V"⟩, prog_7_method_1_code, 2, none, 5, 1, false)
theorem r29 : mRows[29]? = some rw29 := by rfl
abbrev rw30 : mRow := (⟨"FamilyGlass$Law", "addVar", "(I)V"⟩, prog_7_method_3_code, 2, none, 5, 1, false)
theorem r30 : mRows[30]? = some rw30 := by rfl
abbrev rw31 : mRow := (⟨"FamilyGlass$Law", "add", "(II)V"⟩, prog_7_method_2_code, 3, none, 5, 2, false)
theorem r31 : mRows[31]? = some rw31 := by rfl
abbrev rw32 : mRow := (⟨"FamilyGlass$Law", "lead", "(I)V"⟩, prog_7_method_4_code, 2, none, 5, 1, false)
theorem r32 : mRows[32]? = some rw32 := by rfl
abbrev rw33 : mRow := (⟨"FamilyGlass$Pairing", "<init>", "()V"⟩, prog_8_method_1_code, 1, none, 6, 0, false)
theorem r33 : mRows[33]? = some rw33 := by rfl
abbrev rw34 : mRow := (⟨"FamilyGlass$Pairing", "find", "(LFamilyGlass$State;I)V"⟩, prog_8_method_2_code, 4, none, 6, 2, false)
theorem r34 : mRows[34]? = some rw34 := by rfl
abbrev rw35 : mRow := (⟨"FamilyGlass$Pairing", "pairFrom", "(LFamilyGlass$State;III)V"⟩, prog_8_method_3_code, 6, none, 6, 4, false)
theorem r35 : mRows[35]? = some rw35 := by rfl
abbrev rw36 : mRow := (⟨"FamilyGlass$Pairing", "keepIfLess", "(I)V"⟩, prog_8_method_4_code, 3, none, 6, 1, false)
theorem r36 : mRows[36]? = some rw36 := by rfl
abbrev rw37 : mRow := (⟨"FamilyGlass$Reader", "<init>", "()V"⟩, prog_9_method_1_code, 1, none, 7, 0, false)
theorem r37 : mRows[37]? = some rw37 := by rfl
abbrev rw38 : mRow := (⟨"FamilyGlass$Reader", "readText", "(LFamilyGlass$Tape;)I"⟩, prog_9_method_2_code, 3, some .int, 7, 1, false)
theorem r38 : mRows[38]? = some rw38 := by rfl
abbrev rw39 : mRow := (⟨"FamilyGlass$Reader", "kind", "()I"⟩, prog_9_method_10_code, 1, some .int, 7, 0, false)
theorem r39 : mRows[39]? = some rw39 := by rfl
abbrev rw40 : mRow := (⟨"FamilyGlass$Reader", "readTell", "()V"⟩, prog_9_method_3_code, 1, none, 7, 0, false)
theorem r40 : mRows[40]? = some rw40 := by rfl
abbrev rw41 : mRow := (⟨"FamilyGlass$Reader", "readPerson", "()V"⟩, prog_9_method_4_code, 2, none, 7, 0, false)
theorem r41 : mRows[41]? = some rw41 := by rfl
abbrev rw42 : mRow := (⟨"FamilyGlass$Reader", "fail", "(I)V"⟩, prog_9_method_17_code, 2, none, 7, 1, false)
theorem r42 : mRows[42]? = some rw42 := by rfl
abbrev rw43 : mRow := (⟨"FamilyGlass$Reader", "start", "()I"⟩, prog_9_method_12_code, 1, some .int, 7, 0, false)
theorem r43 : mRows[43]? = some rw43 := by rfl
abbrev rw44 : mRow := (⟨"FamilyGlass$Reader", "take", "(I)V"⟩, prog_9_method_13_code, 2, none, 7, 1, false)
theorem r44 : mRows[44]? = some rw44 := by rfl
abbrev rw45 : mRow := (⟨"FamilyGlass$Reader", "takeNewName", "()J"⟩, prog_9_method_14_code, 3, some .long, 7, 0, false)
theorem r45 : mRows[45]? = some rw45 := by rfl
abbrev rw46 : mRow := (⟨"FamilyGlass$Reader", "value", "()J"⟩, prog_9_method_11_code, 1, some .long, 7, 0, false)
theorem r46 : mRows[46]? = some rw46 := by rfl
abbrev rw47 : mRow := (⟨"FamilyGlass$Reader", "failLater", "(I)V"⟩, prog_9_method_18_code, 2, none, 7, 1, false)
theorem r47 : mRows[47]? = some rw47 := by rfl
abbrev rw48 : mRow := (⟨"FamilyGlass$Reader", "takeInt", "(I)I"⟩, prog_9_method_16_code, 3, some .int, 7, 1, false)
theorem r48 : mRows[48]? = some rw48 := by rfl
abbrev rw49 : mRow := (⟨"FamilyGlass$Reader", "readDoing", "()V"⟩, prog_9_method_5_code, 2, none, 7, 0, false)
theorem r49 : mRows[49]? = some rw49 := by rfl
abbrev rw50 : mRow := (⟨"FamilyGlass$Reader", "takePerson", "()I"⟩, prog_9_method_15_code, 2, some .int, 7, 0, false)
theorem r50 : mRows[50]? = some rw50 := by rfl
abbrev rw51 : mRow := (⟨"FamilyGlass$Reader", "readLaw", "(LFamilyGlass$Law;)V"⟩, prog_9_method_6_code, 4, none, 7, 1, false)
theorem r51 : mRows[51]? = some rw51 := by rfl
abbrev rw52 : mRow := (⟨"FamilyGlass$Reader", "readSum", "(LFamilyGlass$Law;I)V"⟩, prog_9_method_7_code, 5, none, 7, 2, false)
theorem r52 : mRows[52]? = some rw52 := by rfl
abbrev rw53 : mRow := (⟨"FamilyGlass$Reader", "readPart", "(LFamilyGlass$Law;I)V"⟩, prog_9_method_8_code, 5, none, 7, 2, false)
theorem r53 : mRows[53]? = some rw53 := by rfl
abbrev rw54 : mRow := (⟨"FamilyGlass$Reader", "readUnit", "(LFamilyGlass$Law;I)V"⟩, prog_9_method_9_code, 4, none, 7, 2, false)
theorem r54 : mRows[54]? = some rw54 := by rfl
abbrev rw55 : mRow := (⟨"FamilyGlass$State", "<init>", "()V"⟩, prog_10_method_1_code, 1, none, 8, 0, false)
theorem r55 : mRows[55]? = some rw55 := by rfl
abbrev rw56 : mRow := (⟨"FamilyGlass$State", "clearTo", "(LFamilyGlass$House;)V"⟩, prog_10_method_3_code, 3, none, 8, 1, false)
theorem r56 : mRows[56]? = some rw56 := by rfl
abbrev rw57 : mRow := (⟨"FamilyGlass$State", "total", "()I"⟩, prog_10_method_5_code, 3, some .int, 8, 0, false)
theorem r57 : mRows[57]? = some rw57 := by rfl
abbrev rw58 : mRow := (⟨"FamilyGlass$State", "greatest", "()I"⟩, prog_10_method_6_code, 3, some .int, 8, 0, false)
theorem r58 : mRows[58]? = some rw58 := by rfl
abbrev rw59 : mRow := (⟨"FamilyGlass$State", "takeFrom", "(LFamilyGlass$State;)V"⟩, prog_10_method_2_code, 3, none, 8, 1, false)
theorem r59 : mRows[59]? = some rw59 := by rfl
abbrev rw60 : mRow := (⟨"FamilyGlass$State", "hasMoodsOf", "(LFamilyGlass$State;)Z"⟩, prog_10_method_4_code, 3, some .boolean, 8, 1, false)
theorem r60 : mRows[60]? = some rw60 := by rfl
abbrev rw61 : mRow := (⟨"FamilyGlass$Tape", "<init>", "()V"⟩, prog_11_method_1_code, 1, none, 9, 0, false)
theorem r61 : mRows[61]? = some rw61 := by rfl
abbrev rw62 : mRow := (⟨"FamilyGlass$Tape", "addFour", "(I)V"⟩, prog_11_method_2_code, 3, none, 9, 1, false)
theorem r62 : mRows[62]? = some rw62 := by rfl
abbrev rw63 : mRow := (⟨"FamilyGlass$Tape", "isOneOfAt", "(Ljava/lang/String;I)Z"⟩, prog_11_method_6_code, 4, some .boolean, 9, 2, false)
theorem r63 : mRows[63]? = some rw63 := by rfl
abbrev rw64 : mRow := (⟨"FamilyGlass$Tape", "byteAt", "(I)I"⟩, prog_11_method_3_code, 2, some .int, 9, 1, false)
theorem r64 : mRows[64]? = some rw64 := by rfl
abbrev rw65 : mRow := (⟨"FamilyGlass$Tape", "isLetterAt", "(I)Z"⟩, prog_11_method_4_code, 3, some .boolean, 9, 1, false)
theorem r65 : mRows[65]? = some rw65 := by rfl
abbrev rw66 : mRow := (⟨"FamilyGlass$Tape", "isDigitAt", "(I)Z"⟩, prog_11_method_5_code, 3, some .boolean, 9, 1, false)
theorem r66 : mRows[66]? = some rw66 := by rfl
abbrev rw67 : mRow := (⟨"FamilyGlass$Tokens", "<init>", "()V"⟩, prog_12_method_1_code, 4, none, 10, 0, false)
theorem r67 : mRows[67]? = some rw67 := by rfl
abbrev rw68 : mRow := (⟨"FamilyGlass$Tokens", "withLetter", "(JI)J"⟩, prog_12_method_2_code, 3, some .long, 10, 2, true)
theorem r68 : mRows[68]? = some rw68 := by rfl
abbrev rw69 : mRow := (⟨"FamilyGlass$Tokens", "scan", "(LFamilyGlass$Tape;)V"⟩, prog_12_method_3_code, 5, none, 10, 1, false)
theorem r69 : mRows[69]? = some rw69 := by rfl
abbrev rw70 : mRow := (⟨"FamilyGlass$Tokens", "behindBlanks", "(LFamilyGlass$Tape;I)I"⟩, prog_12_method_4_code, 3, some .int, 10, 2, true)
theorem r70 : mRows[70]? = some rw70 := by rfl
abbrev rw71 : mRow := (⟨"FamilyGlass$Tokens", "scanOne", "(LFamilyGlass$Tape;I)I"⟩, prog_12_method_5_code, 3, some .int, 10, 2, false)
theorem r71 : mRows[71]? = some rw71 := by rfl
abbrev rw72 : mRow := (⟨"FamilyGlass$Tokens", "add", "(IJI)V"⟩, prog_12_method_9_code, 5, none, 10, 3, false)
theorem r72 : mRows[72]? = some rw72 := by rfl
abbrev rw73 : mRow := (⟨"FamilyGlass$Tokens", "scanWord", "(LFamilyGlass$Tape;I)I"⟩, prog_12_method_6_code, 6, some .int, 10, 2, false)
theorem r73 : mRows[73]? = some rw73 := by rfl
abbrev rw74 : mRow := (⟨"FamilyGlass$Tokens", "wordKind", "(J)I"⟩, prog_12_method_7_code, 4, some .int, 10, 1, false)
theorem r74 : mRows[74]? = some rw74 := by rfl
abbrev rw75 : mRow := (⟨"FamilyGlass$Tokens", "scanInt", "(LFamilyGlass$Tape;I)I"⟩, prog_12_method_8_code, 6, some .int, 10, 2, false)
theorem r75 : mRows[75]? = some rw75 := by rfl
abbrev rw76 : mRow := (⟨"FamilyGlass", "<init>", "()V"⟩, prog_1_method_1_code, 2, none, 11, 0, false)
theorem r76 : mRows[76]? = some rw76 := by rfl
abbrev rw77 : mRow := (⟨"FamilyGlass", "feed", "(IIIII)I"⟩, prog_1_method_2_code, 6, some .int, 11, 5, false)
theorem r77 : mRows[77]? = some rw77 := by rfl
abbrev rw78 : mRow := (⟨"FamilyGlass", "back", "(I)I"⟩, prog_1_method_3_code, 2, some .int, 11, 1, false)
theorem r78 : mRows[78]? = some rw78 := by rfl
abbrev rw79 : mRow := (⟨"FamilyGlass", "read", "()I"⟩, prog_1_method_4_code, 3, some .int, 11, 0, false)
theorem r79 : mRows[79]? = some rw79 := by rfl
abbrev rw80 : mRow := (⟨"FamilyGlass", "startAnew", "()V"⟩, prog_1_method_5_code, 1, none, 11, 0, false)
theorem r80 : mRows[80]? = some rw80 := by rfl
abbrev rw81 : mRow := (⟨"FamilyGlass", "place", "()I"⟩, prog_1_method_6_code, 1, some .int, 11, 0, false)
theorem r81 : mRows[81]? = some rw81 := by rfl
abbrev rw82 : mRow := (⟨"FamilyGlass", "person", "(II)I"⟩, prog_1_method_7_code, 3, some .int, 11, 2, false)
theorem r82 : mRows[82]? = some rw82 := by rfl
abbrev rw83 : mRow := (⟨"FamilyGlass", "isPerson", "(I)Z"⟩, prog_1_method_13_code, 2, some .boolean, 11, 1, false)
theorem r83 : mRows[83]? = some rw83 := by rfl
abbrev rw84 : mRow := (⟨"FamilyGlass", "doing", "(II)I"⟩, prog_1_method_8_code, 3, some .int, 11, 2, false)
theorem r84 : mRows[84]? = some rw84 := by rfl
abbrev rw85 : mRow := (⟨"FamilyGlass", "isDoing", "(I)Z"⟩, prog_1_method_14_code, 2, some .boolean, 11, 1, false)
theorem r85 : mRows[85]? = some rw85 := by rfl
abbrev rw86 : mRow := (⟨"FamilyGlass", "doneNow", "()I"⟩, prog_1_method_11_code, 1, some .int, 11, 0, false)
theorem r86 : mRows[86]? = some rw86 := by rfl
abbrev rw87 : mRow := (⟨"FamilyGlass", "mark", "()I"⟩, prog_1_method_9_code, 1, some .int, 11, 0, false)
theorem r87 : mRows[87]? = some rw87 := by rfl
abbrev rw88 : mRow := (⟨"FamilyGlass", "count", "(I)I"⟩, prog_1_method_10_code, 2, some .int, 11, 1, false)
theorem r88 : mRows[88]? = some rw88 := by rfl
abbrev rw89 : mRow := (⟨"FamilyGlass", "peopleOfMood", "(I)I"⟩, prog_1_method_12_code, 4, some .int, 11, 1, false)
theorem r89 : mRows[89]? = some rw89 := by rfl
abbrev rw90 : mRow := (⟨"FamilyGlass", "tap", "()I"⟩, prog_1_method_17_code, 1, some .int, 11, 0, false)
theorem r90 : mRows[90]? = some rw90 := by rfl
abbrev rw91 : mRow := (⟨"FamilyGlass", "let", "()I"⟩, prog_1_method_18_code, 2, some .int, 11, 0, false)
theorem r91 : mRows[91]? = some rw91 := by rfl
abbrev rw92 : mRow := (⟨"FamilyGlass", "forbid", "(IZ)Z"⟩, prog_1_method_19_code, 3, some .boolean, 11, 2, false)
theorem r92 : mRows[92]? = some rw92 := by rfl
abbrev rw93 : mRow := (⟨"FamilyGlass", "cheer", "(IZ)Z"⟩, prog_1_method_20_code, 3, some .boolean, 11, 2, false)
theorem r93 : mRows[93]? = some rw93 := by rfl
abbrev rw94 : mRow := (⟨"FamilyGlass", "hours", "(I)I"⟩, prog_1_method_21_code, 2, some .int, 11, 1, false)
theorem r94 : mRows[94]? = some rw94 := by rfl
abbrev rw95 : mRow := (⟨"FamilyGlass", "within", "(III)Z"⟩, prog_1_method_16_code, 3, some .boolean, 11, 3, true)
theorem r95 : mRows[95]? = some rw95 := by rfl
abbrev rw96 : mRow := (⟨"FamilyGlass", "undo", "()Z"⟩, prog_1_method_22_code, 1, some .boolean, 11, 0, false)
theorem r96 : mRows[96]? = some rw96 := by rfl
abbrev rw97 : mRow := (⟨"FamilyGlass", "hold", "(I)Z"⟩, prog_1_method_23_code, 2, some .boolean, 11, 1, false)
theorem r97 : mRows[97]? = some rw97 := by rfl
abbrev rw98 : mRow := (⟨"FamilyGlass", "restore", "(I)Z"⟩, prog_1_method_24_code, 2, some .boolean, 11, 1, false)
theorem r98 : mRows[98]? = some rw98 := by rfl
abbrev rw99 : mRow := (⟨"FamilyGlass", "comes", "(I)I"⟩, prog_1_method_25_code, 4, some .int, 11, 1, false)
theorem r99 : mRows[99]? = some rw99 := by rfl
abbrev rw100 : mRow := (⟨"FamilyGlass", "isMark", "(I)Z"⟩, prog_1_method_15_code, 1, some .boolean, 11, 1, true)
theorem r100 : mRows[100]? = some rw100 := by rfl
abbrev rw101 : mRow := (⟨"FamilyGlass", "round", "(I)I"⟩, prog_1_method_26_code, 4, some .int, 11, 1, false)
theorem r101 : mRows[101]? = some rw101 := by rfl
abbrev rw102 : mRow := (⟨"FamilyGlass", "codeMoods", "()V"⟩, prog_1_method_27_code, 4, none, 11, 0, false)
theorem r102 : mRows[102]? = some rw102 := by rfl
abbrev rw103 : mRow := (⟨"FamilyGlass", "settles", "()I"⟩, prog_1_method_28_code, 2, some .int, 11, 0, false)
theorem r103 : mRows[103]? = some rw103 := by rfl
abbrev rw104 : mRow := (⟨"FamilyGlass", "itself", "()I"⟩, prog_1_method_29_code, 3, some .int, 11, 0, false)
theorem r104 : mRows[104]? = some rw104 := by rfl
abbrev rw105 : mRow := (⟨"FamilyGlass", "often", "(II)I"⟩, prog_1_method_30_code, 6, some .int, 11, 2, false)
theorem r105 : mRows[105]? = some rw105 := by rfl
abbrev rw106 : mRow := (⟨"FamilyGlass", "quiet", "(I)I"⟩, prog_1_method_31_code, 4, some .int, 11, 1, false)
theorem r106 : mRows[106]? = some rw106 := by rfl
abbrev rw107 : mRow := (⟨"FamilyGlass", "busiest", "(II)I"⟩, prog_1_method_32_code, 5, some .int, 11, 2, false)
theorem r107 : mRows[107]? = some rw107 := by rfl
abbrev rw108 : mRow := (⟨"FamilyGlass", "countDoings", "(I)V"⟩, prog_1_method_33_code, 5, none, 11, 1, false)
theorem r108 : mRows[108]? = some rw108 := by rfl
abbrev rw109 : mRow := (⟨"FamilyGlass", "highest", "(II)I"⟩, prog_1_method_34_code, 7, some .int, 11, 2, false)
theorem r109 : mRows[109]? = some rw109 := by rfl
abbrev rw110 : mRow := (⟨"FamilyGlass", "forbids", "(III)I"⟩, prog_1_method_35_code, 8, some .int, 11, 3, false)
theorem r110 : mRows[110]? = some rw110 := by rfl
abbrev rw111 : mRow := (⟨"FamilyGlass", "keepsOff", "(III)Z"⟩, prog_1_method_36_code, 6, some .boolean, 11, 3, false)
theorem r111 : mRows[111]? = some rw111 := by rfl
abbrev rw112 : mRow := (⟨"FamilyGlass", "tapping", "(II)I"⟩, prog_1_method_37_code, 4, some .int, 11, 2, false)
theorem r112 : mRows[112]? = some rw112 := by rfl
abbrev rw113 : mRow := (⟨"FamilyGlass", "coax", "(III)I"⟩, prog_1_method_38_code, 7, some .int, 11, 3, false)
theorem r113 : mRows[113]? = some rw113 := by rfl
abbrev rw114 : mRow := (⟨"FamilyGlass", "coaxed", "(IIII)I"⟩, prog_1_method_39_code, 7, some .int, 11, 4, false)
theorem r114 : mRows[114]? = some rw114 := by rfl
abbrev rw115 : mRow := (⟨"FamilyGlass", "comesTo", "(IIII)Z"⟩, prog_1_method_40_code, 5, some .boolean, 11, 4, false)
theorem r115 : mRows[115]? = some rw115 := by rfl
abbrev rw116 : mRow := (⟨"FamilyGlass", "changed", "(II)I"⟩, prog_1_method_41_code, 5, some .int, 11, 2, false)
theorem r116 : mRows[116]? = some rw116 := by rfl
abbrev rw117 : mRow := (⟨"FamilyGlass", "worth", "(II)I"⟩, prog_1_method_42_code, 4, some .int, 11, 2, false)
theorem r117 : mRows[117]? = some rw117 := by rfl
abbrev rw118 : mRow := (⟨"FamilyGlass", "game", "(II)I"⟩, prog_1_method_43_code, 3, some .int, 11, 2, false)
theorem r118 : mRows[118]? = some rw118 := by rfl
abbrev rw119 : mRow := (⟨"FamilyGlass", "gloomiest", "(I)I"⟩, prog_1_method_44_code, 4, some .int, 11, 1, false)
theorem r119 : mRows[119]? = some rw119 := by rfl
abbrev rw120 : mRow := (⟨"FamilyGlass", "parts", "(II)I"⟩, prog_1_method_45_code, 6, some .int, 11, 2, false)
theorem r120 : mRows[120]? = some rw120 := by rfl
abbrev rw121 : mRow := (⟨"FamilyGlass", "totalOf", "(I)I"⟩, prog_1_method_46_code, 4, some .int, 11, 1, false)
theorem r121 : mRows[121]? = some rw121 := by rfl
abbrev rw122 : mRow := (⟨"FamilyGlass", "pairs", "(I)I"⟩, prog_1_method_47_code, 2, some .int, 11, 1, false)
theorem r122 : mRows[122]? = some rw122 := by rfl
abbrev rw123 : mRow := (⟨"FamilyGlass", "markIn", "(I)I"⟩, prog_1_method_48_code, 2, some .int, 11, 1, false)
theorem r123 : mRows[123]? = some rw123 := by rfl
abbrev rw124 : mRow := (⟨"FamilyGlass", "moodIn", "(II)I"⟩, prog_1_method_49_code, 3, some .int, 11, 2, false)
theorem r124 : mRows[124]? = some rw124 := by rfl
abbrev rw125 : mRow := (⟨"FamilyGlass", "year", "(III)I"⟩, prog_1_method_50_code, 6, some .int, 11, 3, false)
theorem r125 : mRows[125]? = some rw125 := by rfl
abbrev rw126 : mRow := (⟨"FamilyGlass", "tell", "(IIZ)I"⟩, prog_1_method_51_code, 4, some .int, 11, 3, false)
theorem r126 : mRows[126]? = some rw126 := by rfl
abbrev rw127 : mRow := (⟨"FamilyGlass", "forget", "()I"⟩, prog_1_method_52_code, 2, some .int, 11, 0, false)
theorem r127 : mRows[127]? = some rw127 := by rfl
abbrev rw128 : mRow := (⟨"FamilyGlass", "fits", "(III)I"⟩, prog_1_method_53_code, 7, some .int, 11, 3, false)
theorem r128 : mRows[128]? = some rw128 := by rfl
abbrev rw129 : mRow := (⟨"FamilyGlass", "moodFits", "(III)Z"⟩, prog_1_method_56_code, 6, some .boolean, 11, 3, false)
theorem r129 : mRows[129]? = some rw129 := by rfl
abbrev rw130 : mRow := (⟨"FamilyGlass", "look", "(III)I"⟩, prog_1_method_54_code, 9, some .int, 11, 3, false)
theorem r130 : mRows[130]? = some rw130 := by rfl
abbrev rw131 : mRow := (⟨"FamilyGlass", "countLeft", "(III)I"⟩, prog_1_method_55_code, 7, some .int, 11, 3, false)
theorem r131 : mRows[131]? = some rw131 := by rfl
abbrev rw132 : mRow := (⟨"FamilyGlassModel", "<init>", "()V"⟩, prog_14_method_2_code, 1, none, 12, 0, false)
theorem r132 : mRows[132]? = some rw132 := by rfl
abbrev rw133 : mRow := (⟨"FamilyGlassModel", "plain", "(I)V"⟩, prog_14_method_19_code, 3, none, 12, 1, false)
theorem r133 : mRows[133]? = some rw133 := by rfl
abbrev rw134 : mRow := (⟨"FamilyGlassModel", "letters", "(IIIIIII)J"⟩, prog_14_method_10_code, 7, some .long, 12, 7, true)
theorem r134 : mRows[134]? = some rw134 := by rfl
abbrev rw135 : mRow := (⟨"FamilyGlassModel", "appends", "(JI)J"⟩, prog_14_method_9_code, 3, some .long, 12, 2, true)
theorem r135 : mRows[135]? = some rw135 := by rfl
abbrev rw136 : mRow := (⟨"FamilyGlassModel", "begins", "()V"⟩, prog_14_method_44_code, 2, none, 12, 0, false)
theorem r136 : mRows[136]? = some rw136 := by rfl
abbrev rw137 : mRow := (⟨"FamilyGlassModel", "keepsRow", "()V"⟩, prog_14_method_45_code, 2, none, 12, 0, false)
theorem r137 : mRows[137]? = some rw137 := by rfl
abbrev rw138 : mRow := (⟨"FamilyGlassModel", "feed", "(IIIII)I"⟩, prog_14_method_3_code, 6, some .int, 12, 5, false)
theorem r138 : mRows[138]? = some rw138 := by rfl
abbrev rw139 : mRow := (⟨"FamilyGlassModel", "lays", "(I)V"⟩, prog_14_method_4_code, 3, none, 12, 1, false)
theorem r139 : mRows[139]? = some rw139 := by rfl
abbrev rw140 : mRow := (⟨"FamilyGlassModel", "back", "(I)I"⟩, prog_14_method_5_code, 2, some .int, 12, 1, false)
theorem r140 : mRows[140]? = some rw140 := by rfl
abbrev rw141 : mRow := (⟨"FamilyGlassModel", "read", "()I"⟩, prog_14_method_20_code, 2, some .int, 12, 0, false)
theorem r141 : mRows[141]? = some rw141 := by rfl
abbrev rw142 : mRow := (⟨"FamilyGlassModel", "cut", "()V"⟩, prog_14_method_12_code, 8, none, 12, 0, false)
theorem r142 : mRows[142]? = some rw142 := by rfl
abbrev rw143 : mRow := (⟨"FamilyGlassModel", "byteAt", "(I)I"⟩, prog_14_method_6_code, 2, some .int, 12, 1, false)
theorem r143 : mRows[143]? = some rw143 := by rfl
abbrev rw144 : mRow := (⟨"FamilyGlassModel", "token", "(IIIJ)V"⟩, prog_14_method_11_code, 6, none, 12, 4, false)
theorem r144 : mRows[144]? = some rw144 := by rfl
abbrev rw145 : mRow := (⟨"FamilyGlassModel", "isLetter", "(I)Z"⟩, prog_14_method_8_code, 1, some .boolean, 12, 1, true)
theorem r145 : mRows[145]? = some rw145 := by rfl
abbrev rw146 : mRow := (⟨"FamilyGlassModel", "isDigit", "(I)Z"⟩, prog_14_method_7_code, 1, some .boolean, 12, 1, true)
theorem r146 : mRows[146]? = some rw146 := by rfl
abbrev rw147 : mRow := (⟨"FamilyGlassModel", "sign", "(III)I"⟩, prog_14_method_13_code, 5, some .int, 12, 3, false)
theorem r147 : mRows[147]? = some rw147 := by rfl
abbrev rw148 : mRow := (⟨"FamilyGlassModel", "is", "(I)Z"⟩, prog_14_method_14_code, 2, some .boolean, 12, 1, false)
theorem r148 : mRows[148]? = some rw148 := by rfl
abbrev rw149 : mRow := (⟨"FamilyGlassModel", "tellOne", "()V"⟩, prog_14_method_24_code, 3, none, 12, 0, false)
theorem r149 : mRows[149]? = some rw149 := by rfl
abbrev rw150 : mRow := (⟨"FamilyGlassModel", "roomFor", "(II)V"⟩, prog_14_method_22_code, 3, none, 12, 2, false)
theorem r150 : mRows[150]? = some rw150 := by rfl
abbrev rw151 : mRow := (⟨"FamilyGlassModel", "fail", "(I)V"⟩, prog_14_method_15_code, 2, none, 12, 1, false)
theorem r151 : mRows[151]? = some rw151 := by rfl
abbrev rw152 : mRow := (⟨"FamilyGlassModel", "goesOn", "()V"⟩, prog_14_method_17_code, 1, none, 12, 0, false)
theorem r152 : mRows[152]? = some rw152 := by rfl
abbrev rw153 : mRow := (⟨"FamilyGlassModel", "named", "()I"⟩, prog_14_method_25_code, 3, some .int, 12, 0, false)
theorem r153 : mRows[153]? = some rw153 := by rfl
abbrev rw154 : mRow := (⟨"FamilyGlassModel", "must", "(I)V"⟩, prog_14_method_18_code, 2, none, 12, 1, false)
theorem r154 : mRows[154]? = some rw154 := by rfl
abbrev rw155 : mRow := (⟨"FamilyGlassModel", "wrong", "(II)V"⟩, prog_14_method_16_code, 4, none, 12, 2, false)
theorem r155 : mRows[155]? = some rw155 := by rfl
abbrev rw156 : mRow := (⟨"FamilyGlassModel", "bounded", "(I)I"⟩, prog_14_method_28_code, 3, some .int, 12, 1, false)
theorem r156 : mRows[156]? = some rw156 := by rfl
abbrev rw157 : mRow := (⟨"FamilyGlassModel", "endsName", "(II)V"⟩, prog_14_method_26_code, 3, none, 12, 2, false)
theorem r157 : mRows[157]? = some rw157 := by rfl
abbrev rw158 : mRow := (⟨"FamilyGlassModel", "tellDoing", "()V"⟩, prog_14_method_29_code, 3, none, 12, 0, false)
theorem r158 : mRows[158]? = some rw158 := by rfl
abbrev rw159 : mRow := (⟨"FamilyGlassModel", "known", "()I"⟩, prog_14_method_27_code, 3, some .int, 12, 0, false)
theorem r159 : mRows[159]? = some rw159 := by rfl
abbrev rw160 : mRow := (⟨"FamilyGlassModel", "toldInt", "(I)I"⟩, prog_14_method_23_code, 3, some .int, 12, 1, false)
theorem r160 : mRows[160]? = some rw160 := by rfl
abbrev rw161 : mRow := (⟨"FamilyGlassModel", "tellLaw", "(I)V"⟩, prog_14_method_30_code, 4, none, 12, 1, false)
theorem r161 : mRows[161]? = some rw161 := by rfl
abbrev rw162 : mRow := (⟨"FamilyGlassModel", "expression", "()V"⟩, prog_14_method_34_code, 3, none, 12, 0, false)
theorem r162 : mRows[162]? = some rw162 := by rfl
abbrev rw163 : mRow := (⟨"FamilyGlassModel", "unit", "()V"⟩, prog_14_method_35_code, 1, none, 12, 0, false)
theorem r163 : mRows[163]? = some rw163 := by rfl
abbrev rw164 : mRow := (⟨"FamilyGlassModel", "emit", "(II)V"⟩, prog_14_method_32_code, 3, none, 12, 2, false)
theorem r164 : mRows[164]? = some rw164 := by rfl
abbrev rw165 : mRow := (⟨"FamilyGlassModel", "comesOut", "(Z)V"⟩, prog_14_method_33_code, 3, none, 12, 1, false)
theorem r165 : mRows[165]? = some rw165 := by rfl
abbrev rw166 : mRow := (⟨"FamilyGlassModel", "term", "()V"⟩, prog_14_method_31_code, 1, none, 12, 0, false)
theorem r166 : mRows[166]? = some rw166 := by rfl
abbrev rw167 : mRow := (⟨"FamilyGlassModel", "place", "()I"⟩, prog_14_method_21_code, 1, some .int, 12, 0, false)
theorem r167 : mRows[167]? = some rw167 := by rfl
abbrev rw168 : mRow := (⟨"FamilyGlassModel", "person", "(II)I"⟩, prog_14_method_65_code, 3, some .int, 12, 2, false)
theorem r168 : mRows[168]? = some rw168 := by rfl
abbrev rw169 : mRow := (⟨"FamilyGlassModel", "isPerson", "(I)Z"⟩, prog_14_method_41_code, 2, some .boolean, 12, 1, false)
theorem r169 : mRows[169]? = some rw169 := by rfl
abbrev rw170 : mRow := (⟨"FamilyGlassModel", "in", "(III)Z"⟩, prog_14_method_37_code, 3, some .boolean, 12, 3, true)
theorem r170 : mRows[170]? = some rw170 := by rfl
abbrev rw171 : mRow := (⟨"FamilyGlassModel", "copies", "()V"⟩, prog_14_method_46_code, 2, none, 12, 0, false)
theorem r171 : mRows[171]? = some rw171 := by rfl
abbrev rw172 : mRow := (⟨"FamilyGlassModel", "markNow", "()I"⟩, prog_14_method_56_code, 1, some .int, 12, 0, false)
theorem r172 : mRows[172]? = some rw172 := by rfl
abbrev rw173 : mRow := (⟨"FamilyGlassModel", "needleRest", "()I"⟩, prog_14_method_54_code, 2, some .int, 12, 0, false)
theorem r173 : mRows[173]? = some rw173 := by rfl
abbrev rw174 : mRow := (⟨"FamilyGlassModel", "looks", "()V"⟩, prog_14_method_53_code, 2, none, 12, 0, false)
theorem r174 : mRows[174]? = some rw174 := by rfl
abbrev rw175 : mRow := (⟨"FamilyGlassModel", "moodSum", "()I"⟩, prog_14_method_50_code, 1, some .int, 12, 0, false)
theorem r175 : mRows[175]? = some rw175 := by rfl
abbrev rw176 : mRow := (⟨"FamilyGlassModel", "mostMood", "()I"⟩, prog_14_method_51_code, 3, some .int, 12, 0, false)
theorem r176 : mRows[176]? = some rw176 := by rfl
abbrev rw177 : mRow := (⟨"FamilyGlassModel", "lawTells", "(II)I"⟩, prog_14_method_52_code, 7, some .int, 12, 2, false)
theorem r177 : mRows[177]? = some rw177 := by rfl
abbrev rw178 : mRow := (⟨"FamilyGlassModel", "termOf", "(II)I"⟩, prog_14_method_36_code, 8, some .int, 12, 2, false)
theorem r178 : mRows[178]? = some rw178 := by rfl
abbrev rw179 : mRow := (⟨"FamilyGlassModel", "jumpsNow", "()I"⟩, prog_14_method_55_code, 2, some .int, 12, 0, false)
theorem r179 : mRows[179]? = some rw179 := by rfl
abbrev rw180 : mRow := (⟨"FamilyGlassModel", "within", "(III)I"⟩, prog_14_method_38_code, 3, some .int, 12, 3, true)
theorem r180 : mRows[180]? = some rw180 := by rfl
abbrev rw181 : mRow := (⟨"FamilyGlassModel", "driftsOf", "(II)I"⟩, prog_14_method_59_code, 3, some .int, 12, 2, false)
theorem r181 : mRows[181]? = some rw181 := by rfl
abbrev rw182 : mRow := (⟨"FamilyGlassModel", "looksBy", "(II)V"⟩, prog_14_method_57_code, 3, none, 12, 2, false)
theorem r182 : mRows[182]? = some rw182 := by rfl
abbrev rw183 : mRow := (⟨"FamilyGlassModel", "doing", "(II)I"⟩, prog_14_method_66_code, 4, some .int, 12, 2, false)
theorem r183 : mRows[183]? = some rw183 := by rfl
abbrev rw184 : mRow := (⟨"FamilyGlassModel", "isDoing", "(I)Z"⟩, prog_14_method_42_code, 2, some .boolean, 12, 1, false)
theorem r184 : mRows[184]? = some rw184 := by rfl
abbrev rw185 : mRow := (⟨"FamilyGlassModel", "isDoneAt", "(II)Z"⟩, prog_14_method_60_code, 3, some .boolean, 12, 2, false)
theorem r185 : mRows[185]? = some rw185 := by rfl
abbrev rw186 : mRow := (⟨"FamilyGlassModel", "changesOf", "(II)I"⟩, prog_14_method_58_code, 4, some .int, 12, 2, false)
theorem r186 : mRows[186]? = some rw186 := by rfl
abbrev rw187 : mRow := (⟨"FamilyGlassModel", "mark", "()I"⟩, prog_14_method_67_code, 1, some .int, 12, 0, false)
theorem r187 : mRows[187]? = some rw187 := by rfl
abbrev rw188 : mRow := (⟨"FamilyGlassModel", "tap", "()I"⟩, prog_14_method_70_code, 1, some .int, 12, 0, false)
theorem r188 : mRows[188]? = some rw188 := by rfl
abbrev rw189 : mRow := (⟨"FamilyGlassModel", "does", "(II)Z"⟩, prog_14_method_69_code, 3, some .boolean, 12, 2, false)
theorem r189 : mRows[189]? = some rw189 := by rfl
abbrev rw190 : mRow := (⟨"FamilyGlassModel", "records", "()V"⟩, prog_14_method_68_code, 2, none, 12, 0, false)
theorem r190 : mRows[190]? = some rw190 := by rfl
abbrev rw191 : mRow := (⟨"FamilyGlassModel", "let", "()I"⟩, prog_14_method_71_code, 2, some .int, 12, 0, false)
theorem r191 : mRows[191]? = some rw191 := by rfl
abbrev rw192 : mRow := (⟨"FamilyGlassModel", "forbid", "(IZ)Z"⟩, prog_14_method_72_code, 3, some .boolean, 12, 2, false)
theorem r192 : mRows[192]? = some rw192 := by rfl
abbrev rw193 : mRow := (⟨"FamilyGlassModel", "cheer", "(IZ)Z"⟩, prog_14_method_73_code, 3, some .boolean, 12, 2, false)
theorem r193 : mRows[193]? = some rw193 := by rfl
abbrev rw194 : mRow := (⟨"FamilyGlassModel", "hours", "(I)I"⟩, prog_14_method_75_code, 2, some .int, 12, 1, false)
theorem r194 : mRows[194]? = some rw194 := by rfl
abbrev rw195 : mRow := (⟨"FamilyGlassModel", "isLong", "(I)Z"⟩, prog_14_method_74_code, 1, some .boolean, 12, 1, true)
theorem r195 : mRows[195]? = some rw195 := by rfl
abbrev rw196 : mRow := (⟨"FamilyGlassModel", "goes", "(I)V"⟩, prog_14_method_64_code, 3, none, 12, 1, false)
theorem r196 : mRows[196]? = some rw196 := by rfl
abbrev rw197 : mRow := (⟨"FamilyGlassModel", "hourGoes", "()V"⟩, prog_14_method_63_code, 1, none, 12, 0, false)
theorem r197 : mRows[197]? = some rw197 := by rfl
abbrev rw198 : mRow := (⟨"FamilyGlassModel", "isSlip", "()Z"⟩, prog_14_method_49_code, 1, some .boolean, 12, 0, false)
theorem r198 : mRows[198]? = some rw198 := by rfl
abbrev rw199 : mRow := (⟨"FamilyGlassModel", "mixed", "(II)I"⟩, prog_14_method_48_code, 3, some .int, 12, 2, true)
theorem r199 : mRows[199]? = some rw199 := by rfl
abbrev rw200 : mRow := (⟨"FamilyGlassModel", "hourBy", "(I)V"⟩, prog_14_method_62_code, 3, none, 12, 1, false)
theorem r200 : mRows[200]? = some rw200 := by rfl
abbrev rw201 : mRow := (⟨"FamilyGlassModel", "undo", "()Z"⟩, prog_14_method_76_code, 2, some .boolean, 12, 0, false)
theorem r201 : mRows[201]? = some rw201 := by rfl
abbrev rw202 : mRow := (⟨"FamilyGlassModel", "comes", "(I)I"⟩, prog_14_method_77_code, 3, some .int, 12, 1, false)
theorem r202 : mRows[202]? = some rw202 := by rfl
abbrev rw203 : mRow := (⟨"FamilyGlassModel", "isMark", "(I)Z"⟩, prog_14_method_43_code, 1, some .boolean, 12, 1, true)
theorem r203 : mRows[203]? = some rw203 := by rfl
abbrev rw204 : mRow := (⟨"FamilyGlassModel", "copiesStill", "()V"⟩, prog_14_method_47_code, 1, none, 12, 0, false)
theorem r204 : mRows[204]? = some rw204 := by rfl
abbrev rw205 : mRow := (⟨"FamilyGlassModel", "round", "(I)I"⟩, prog_14_method_80_code, 4, some .int, 12, 1, false)
theorem r205 : mRows[205]? = some rw205 := by rfl
abbrev rw206 : mRow := (⟨"FamilyGlassModel", "fillsMoods", "(I)V"⟩, prog_14_method_78_code, 4, none, 12, 1, false)
theorem r206 : mRows[206]? = some rw206 := by rfl
abbrev rw207 : mRow := (⟨"FamilyGlassModel", "areAlike", "(II)Z"⟩, prog_14_method_79_code, 4, some .boolean, 12, 2, false)
theorem r207 : mRows[207]? = some rw207 := by rfl
abbrev rw208 : mRow := (⟨"FamilyGlassModel", "settles", "()I"⟩, prog_14_method_81_code, 2, some .int, 12, 0, false)
theorem r208 : mRows[208]? = some rw208 := by rfl
abbrev rw209 : mRow := (⟨"FamilyGlassModel", "itself", "()I"⟩, prog_14_method_82_code, 3, some .int, 12, 0, false)
theorem r209 : mRows[209]? = some rw209 := by rfl
abbrev rw210 : mRow := (⟨"FamilyGlassModel", "forbids", "(III)I"⟩, prog_14_method_86_code, 5, some .int, 12, 3, false)
theorem r210 : mRows[210]? = some rw210 := by rfl
abbrev rw211 : mRow := (⟨"FamilyGlassModel", "fewestForbidden", "(II)I"⟩, prog_14_method_85_code, 5, some .int, 12, 2, false)
theorem r211 : mRows[211]? = some rw211 := by rfl
abbrev rw212 : mRow := (⟨"FamilyGlassModel", "bits", "(I)I"⟩, prog_14_method_39_code, 3, some .int, 12, 1, true)
theorem r212 : mRows[212]? = some rw212 := by rfl
abbrev rw213 : mRow := (⟨"FamilyGlassModel", "marksIn", "(II)I"⟩, prog_14_method_84_code, 5, some .int, 12, 2, false)
theorem r213 : mRows[213]? = some rw213 := by rfl
abbrev rw214 : mRow := (⟨"FamilyGlassModel", "tapping", "(II)I"⟩, prog_14_method_88_code, 4, some .int, 12, 2, false)
theorem r214 : mRows[214]? = some rw214 := by rfl
abbrev rw215 : mRow := (⟨"FamilyGlassModel", "isSpan", "(I)Z"⟩, prog_14_method_83_code, 1, some .boolean, 12, 1, true)
theorem r215 : mRows[215]? = some rw215 := by rfl
abbrev rw216 : mRow := (⟨"FamilyGlassModel", "markBehind", "(I)I"⟩, prog_14_method_87_code, 2, some .int, 12, 1, false)
theorem r216 : mRows[216]? = some rw216 := by rfl
abbrev rw217 : mRow := (⟨"FamilyGlassModel", "often", "(II)I"⟩, prog_14_method_89_code, 4, some .int, 12, 2, false)
theorem r217 : mRows[217]? = some rw217 := by rfl
abbrev rw218 : mRow := (⟨"FamilyGlassModel", "quiet", "(I)I"⟩, prog_14_method_90_code, 4, some .int, 12, 1, false)
theorem r218 : mRows[218]? = some rw218 := by rfl
abbrev rw219 : mRow := (⟨"FamilyGlassModel", "doneBits", "(I)I"⟩, prog_14_method_61_code, 4, some .int, 12, 1, false)
theorem r219 : mRows[219]? = some rw219 := by rfl
abbrev rw220 : mRow := (⟨"FamilyGlassModel", "busiest", "(II)I"⟩, prog_14_method_91_code, 6, some .int, 12, 2, false)
theorem r220 : mRows[220]? = some rw220 := by rfl
abbrev rw221 : mRow := (⟨"FamilyGlassModel", "coax", "(III)I"⟩, prog_14_method_94_code, 5, some .int, 12, 3, false)
theorem r221 : mRows[221]? = some rw221 := by rfl
abbrev rw222 : mRow := (⟨"FamilyGlassModel", "coaxBy", "(II)I"⟩, prog_14_method_93_code, 5, some .int, 12, 2, false)
theorem r222 : mRows[222]? = some rw222 := by rfl
abbrev rw223 : mRow := (⟨"FamilyGlassModel", "isMarkWith", "(IIII)Z"⟩, prog_14_method_92_code, 5, some .boolean, 12, 4, false)
theorem r223 : mRows[223]? = some rw223 := by rfl
abbrev rw224 : mRow := (⟨"FamilyGlassModel", "changed", "(II)I"⟩, prog_14_method_95_code, 5, some .int, 12, 2, false)
theorem r224 : mRows[224]? = some rw224 := by rfl
abbrev rw225 : mRow := (⟨"FamilyGlassModel", "gloomiest", "(I)I"⟩, prog_14_method_96_code, 4, some .int, 12, 1, false)
theorem r225 : mRows[225]? = some rw225 := by rfl
abbrev rw226 : mRow := (⟨"FamilyGlassModel", "parts", "(II)I"⟩, prog_14_method_97_code, 8, some .int, 12, 2, false)
theorem r226 : mRows[226]? = some rw226 := by rfl
abbrev rw227 : mRow := (⟨"FamilyGlassModel", "pairs", "(I)I"⟩, prog_14_method_102_code, 5, some .int, 12, 1, false)
theorem r227 : mRows[227]? = some rw227 := by rfl
abbrev rw228 : mRow := (⟨"FamilyGlassModel", "fillsPaired", "()V"⟩, prog_14_method_100_code, 5, none, 12, 0, false)
theorem r228 : mRows[228]? = some rw228 := by rfl
abbrev rw229 : mRow := (⟨"FamilyGlassModel", "lowestOf", "(I)I"⟩, prog_14_method_98_code, 2, some .int, 12, 1, true)
theorem r229 : mRows[229]? = some rw229 := by rfl
abbrev rw230 : mRow := (⟨"FamilyGlassModel", "pairedWith", "(III)I"⟩, prog_14_method_99_code, 4, some .int, 12, 3, false)
theorem r230 : mRows[230]? = some rw230 := by rfl
abbrev rw231 : mRow := (⟨"FamilyGlassModel", "off", "(II)I"⟩, prog_14_method_40_code, 2, some .int, 12, 2, true)
theorem r231 : mRows[231]? = some rw231 := by rfl
abbrev rw232 : mRow := (⟨"FamilyGlassModel", "pairedOf", "(I)I"⟩, prog_14_method_101_code, 5, some .int, 12, 1, false)
theorem r232 : mRows[232]? = some rw232 := by rfl
abbrev rw233 : mRow := (⟨"FamilyGlassModel", "worth", "(II)I"⟩, prog_14_method_103_code, 4, some .int, 12, 2, false)
theorem r233 : mRows[233]? = some rw233 := by rfl
abbrev rw234 : mRow := (⟨"FamilyGlassModel", "highest", "(II)I"⟩, prog_14_method_104_code, 6, some .int, 12, 2, false)
theorem r234 : mRows[234]? = some rw234 := by rfl
abbrev rw235 : mRow := (⟨"FamilyGlassModel", "game", "(II)I"⟩, prog_14_method_111_code, 5, some .int, 12, 2, false)
theorem r235 : mRows[235]? = some rw235 := by rfl
abbrev rw236 : mRow := (⟨"FamilyGlassModel", "spreads", "(II)V"⟩, prog_14_method_108_code, 7, none, 12, 2, false)
theorem r236 : mRows[236]? = some rw236 := by rfl
abbrev rw237 : mRow := (⟨"FamilyGlassModel", "loads", "(I)V"⟩, prog_14_method_105_code, 3, none, 12, 1, false)
theorem r237 : mRows[237]? = some rw237 := by rfl
abbrev rw238 : mRow := (⟨"FamilyGlassModel", "plays", "(I)Z"⟩, prog_14_method_106_code, 5, some .boolean, 12, 1, false)
theorem r238 : mRows[238]? = some rw238 := by rfl
abbrev rw239 : mRow := (⟨"FamilyGlassModel", "childOf", "(III)I"⟩, prog_14_method_107_code, 4, some .int, 12, 3, false)
theorem r239 : mRows[239]? = some rw239 := by rfl
abbrev rw240 : mRow := (⟨"FamilyGlassModel", "leastBy", "(IIII)I"⟩, prog_14_method_109_code, 8, some .int, 12, 4, false)
theorem r240 : mRows[240]? = some rw240 := by rfl
abbrev rw241 : mRow := (⟨"FamilyGlassModel", "greater", "(II)I"⟩, prog_14_method_110_code, 3, some .int, 12, 2, false)
theorem r241 : mRows[241]? = some rw241 := by rfl
abbrev rw242 : mRow := (⟨"FamilyGlassModel", "markIn", "(I)I"⟩, prog_14_method_112_code, 2, some .int, 12, 1, false)
theorem r242 : mRows[242]? = some rw242 := by rfl
abbrev rw243 : mRow := (⟨"FamilyGlassModel", "moodIn", "(II)I"⟩, prog_14_method_113_code, 3, some .int, 12, 2, false)
theorem r243 : mRows[243]? = some rw243 := by rfl
abbrev rw244 : mRow := (⟨"FamilyGlassModel", "year", "(III)I"⟩, prog_14_method_114_code, 6, some .int, 12, 3, false)
theorem r244 : mRows[244]? = some rw244 := by rfl
abbrev rw245 : mRow := (⟨"FamilyGlassModel", "tell", "(IIZ)I"⟩, prog_14_method_115_code, 4, some .int, 12, 3, false)
theorem r245 : mRows[245]? = some rw245 := by rfl
abbrev rw246 : mRow := (⟨"FamilyGlassModel", "forget", "()I"⟩, prog_14_method_116_code, 2, some .int, 12, 0, false)
theorem r246 : mRows[246]? = some rw246 := by rfl
abbrev rw247 : mRow := (⟨"FamilyGlassModel", "fits", "(III)I"⟩, prog_14_method_119_code, 7, some .int, 12, 3, false)
theorem r247 : mRows[247]? = some rw247 := by rfl
abbrev rw248 : mRow := (⟨"FamilyGlassModel", "fillsMarks", "(I)V"⟩, prog_14_method_117_code, 4, none, 12, 1, false)
theorem r248 : mRows[248]? = some rw248 := by rfl
abbrev rw249 : mRow := (⟨"FamilyGlassModel", "doesFit", "(II)Z"⟩, prog_14_method_118_code, 4, some .boolean, 12, 2, false)
theorem r249 : mRows[249]? = some rw249 := by rfl
abbrev rw250 : mRow := (⟨"FamilyGlassModel", "look", "(III)I"⟩, prog_14_method_120_code, 10, some .int, 12, 3, false)
theorem r250 : mRows[250]? = some rw250 := by rfl
abbrev rw251 : mRow := (⟨"FamilyGlassModel", "hold", "(I)Z"⟩, prog_14_method_121_code, 3, some .boolean, 12, 1, false)
theorem r251 : mRows[251]? = some rw251 := by rfl
abbrev rw252 : mRow := (⟨"FamilyGlassModel", "restore", "(I)Z"⟩, prog_14_method_122_code, 3, some .boolean, 12, 1, false)
theorem r252 : mRows[252]? = some rw252 := by rfl
abbrev rw253 : mRow := (⟨"FamilyGlassModel", "count", "(I)I"⟩, prog_14_method_124_code, 2, some .int, 12, 1, false)
theorem r253 : mRows[253]? = some rw253 := by rfl
abbrev rw254 : mRow := (⟨"FamilyGlassModel", "moodBits", "(I)I"⟩, prog_14_method_123_code, 4, some .int, 12, 1, false)
theorem r254 : mRows[254]? = some rw254 := by rfl
abbrev rw255 : mRow := (⟨"java/lang/String", "charAt", "(I)C"⟩, prog_18_method_56_code, 2, some .char, 14, 1, false)
theorem r255 : mRows[255]? = some rw255 := by rfl
abbrev rw256 : mRow := (⟨"java/lang/String", "coder", "()B"⟩, prog_18_method_152_code, 1, some .byte, 14, 0, false)
theorem r256 : mRows[256]? = some rw256 := by rfl
abbrev rw257 : mRow := (⟨"java/lang/String", "indexOf", "(I)I"⟩, prog_18_method_79_code, 2, some .int, 14, 1, false)
theorem r257 : mRows[257]? = some rw257 := by rfl
abbrev rw258 : mRow := (⟨"java/lang/String", "indexOf", "(II)I"⟩, prog_18_method_80_code, 3, some .int, 14, 2, false)
theorem r258 : mRows[258]? = some rw258 := by rfl
abbrev rw259 : mRow := (⟨"java/lang/String", "isLatin1", "()Z"⟩, prog_18_method_154_code, 1, some .boolean, 14, 0, false)
theorem r259 : mRows[259]? = some rw259 := by rfl
abbrev rw260 : mRow := (⟨"java/lang/String", "length", "()I"⟩, prog_18_method_54_code, 1, some .int, 14, 0, false)
theorem r260 : mRows[260]? = some rw260 := by rfl
abbrev rw261 : mRow := (⟨"java/lang/String", "checkIndex", "(II)V"⟩, prog_18_method_155_code, 2, none, 14, 2, true)
theorem r261 : mRows[261]? = some rw261 := by rfl
abbrev rw262 : mRow := (⟨"java/lang/StringLatin1", "canEncode", "(I)Z"⟩, prog_19_method_4_code, 1, some .boolean, 15, 1, true)
theorem r262 : mRows[262]? = some rw262 := by rfl
abbrev rw263 : mRow := (⟨"java/lang/StringLatin1", "charAt", "([BI)C"⟩, prog_19_method_2_code, 2, some .char, 15, 2, true)
theorem r263 : mRows[263]? = some rw263 := by rfl
abbrev rw264 : mRow := (⟨"java/lang/StringLatin1", "indexOf", "([BIII)I"⟩, prog_19_method_22_code, 4, some .int, 15, 4, true)
theorem r264 : mRows[264]? = some rw264 := by rfl
abbrev rw265 : mRow := (⟨"java/lang/StringLatin1", "indexOfChar", "([BIII)I"⟩, prog_19_method_23_code, 6, some .int, 15, 4, true)
theorem r265 : mRows[265]? = some rw265 := by rfl
abbrev rw266 : mRow := (⟨"jdk/internal/util/Preconditions", "checkIndex", "(IILjava/util/function/BiFunction;)I"⟩, prog_21_method_11_code, 3, some .int, 16, 3, true)
theorem r266 : mRows[266]? = some rw266 := by rfl
abbrev rw267 : mRow := (⟨"java/lang/Integer", "bitCount", "(I)I"⟩, prog_16_method_49_code, 1, some .int, 18, 1, true)
theorem r267 : mRows[267]? = some rw267 := by rfl
abbrev rw268 : mRow := mRowLaw
theorem r268 : mRows[268]? = some rw268 := by rfl
theorem w255_0 (d : Nat) (x : Nat) (v1 : Value) (S : List Value) (h : mHp) (Q : Option Value → mHp → Prop) : WP d 255 0 [.ref x, v1] S h Q = WP d 255 1 [.ref x, v1] (.ref x :: S) h Q := wi_aload_n r255 (by decide +kernel : decode rw255.2.1 0 = .ok (.aload_n 0, 1)) rfl
theorem w255_1 (d : Nat) (b : Nat) (v0 v1 : Value) (xL : Nat) (I : Nat → Nat → Int32) (J : Nat → Nat → Int64) (rc rx rr : Nat) (Q : Option Value → mHp → Prop) (hb : b < 3) : WP (d + 1) 255 1 [v0, v1] (.ref b :: []) (mHh xL I J (mRf rc rx rr)) Q = WP d 259 0 [.ref b] [] (mHh xL I J (mRf rc rx rr)) (fun v h9 => WP (d + 1) 255 4 [v0, v1] (v.toList ++ []) h9 Q) := wi_callV (a9 := 14) (b9 := 492) (ns := false) (z := 259) (rz := rw259) r255 (by decide +kernel : decode rw255.2.1 1 = .ok (.invokevirtual 492, 3)) (by decide +kernel) r259 (na := 0) rfl rfl rfl rfl (by decide +kernel) (Or.inr ⟨rfl, hb⟩) (Nat.le_of_ble_eq_true rfl) rfl (Nat.le_of_ble_eq_true rfl) rfl
theorem w255_4 (d : Nat) (x : Int32) (v0 v1 : Value) (S : List Value) (h : mHp) (Q : Option Value → mHp → Prop) : WP d 255 4 [v0, v1] (.int x :: S) h Q = if x = 0 then WP d 255 16 [v0, v1] S h Q else WP d 255 7 [v0, v1] S h Q := wi_ifeq (t := 16) r255 (by decide +kernel : decode rw255.2.1 4 = .ok (.ifCond .eq 12, 3)) rfl rfl
theorem w255_7 (d : Nat) (x : Nat) (v1 : Value) (S : List Value) (h : mHp) (Q : Option Value → mHp → Prop) : WP d 255 7 [.ref x, v1] S h Q = WP d 255 8 [.ref x, v1] (.ref x :: S) h Q := wi_aload_n r255 (by decide +kernel : decode rw255.2.1 7 = .ok (.aload_n 0, 1)) rfl
theorem w255_8 (d : Nat) (a : Nat) (v0 v1 : Value) (S : List Value) (h : mHp) (Q : Option Value → mHp → Prop) (ha : a < 3) : WP d 255 8 [v0, v1] (.ref a :: S) h Q = WP d 255 11 [v0, v1] (.ref (3 + a) :: S) h Q := wi_getV r255 (by decide +kernel : decode rw255.2.1 8 = .ok (.getfield 9, 3)) (by decide +kernel) rfl ha
theorem w255_11 (d : Nat) (x : Int32) (v0 : Value) (S : List Value) (h : mHp) (Q : Option Value → mHp → Prop) : WP d 255 11 [v0, .int x] S h Q = WP d 255 12 [v0, .int x] (.int x :: S) h Q := wi_iload_n r255 (by decide +kernel : decode rw255.2.1 11 = .ok (.iload_n 1, 1)) rfl
theorem w255_12 (d : Nat) (x0 : Int32) (x1 : Nat) (v0 v1 : Value) (h : mHp) (Q : Option Value → mHp → Prop) : WP (d + 1) 255 12 [v0, v1] (.int x0 :: .ref x1 :: []) h Q = WP d 263 0 [.ref x1, .int x0] [] h (fun v h9 => WP (d + 1) 255 15 [v0, v1] (v.toList ++ []) h9 Q) := wi_callS (a9 := 14) (b9 := 495) (ns := false) (z := 263) (rz := rw263) r255 (by decide +kernel : decode rw255.2.1 12 = .ok (.invokestatic 495, 3)) (by decide +kernel) r263 (na := 2) rfl rfl (by decide) (Nat.le_of_ble_eq_true rfl) rfl rfl ⟨Nat.le_of_ble_eq_true rfl, Nat.le_of_ble_eq_true rfl⟩ rfl
theorem w255_15 (d : Nat) (x : Int32) (v0 v1 : Value) (h : mHp) (Q : Option Value → mHp → Prop) (hx : narrow .char (.int x) = .int x) : WP d 255 15 [v0, v1] [.int x] h Q = Q (some (.int x)) h := wi_iret (ty := .char) r255 (by decide +kernel : decode rw255.2.1 15 = .ok (.ireturn, 1)) rfl hx
theorem w255_16 (d : Nat) (x : Nat) (v1 : Value) (S : List Value) (h : mHp) (Q : Option Value → mHp → Prop) : WP d 255 16 [.ref x, v1] S h Q = WP d 255 17 [.ref x, v1] (.ref x :: S) h Q := wi_aload_n r255 (by decide +kernel : decode rw255.2.1 16 = .ok (.aload_n 0, 1)) rfl
theorem w255_17 (d : Nat) (a : Nat) (v0 v1 : Value) (S : List Value) (h : mHp) (Q : Option Value → mHp → Prop) (ha : a < 3) : WP d 255 17 [v0, v1] (.ref a :: S) h Q = WP d 255 20 [v0, v1] (.ref (3 + a) :: S) h Q := wi_getV r255 (by decide +kernel : decode rw255.2.1 17 = .ok (.getfield 9, 3)) (by decide +kernel) rfl ha
theorem w255_20 (d : Nat) (x : Int32) (v0 : Value) (S : List Value) (h : mHp) (Q : Option Value → mHp → Prop) : WP d 255 20 [v0, .int x] S h Q = WP d 255 21 [v0, .int x] (.int x :: S) h Q := wi_iload_n r255 (by decide +kernel : decode rw255.2.1 20 = .ok (.iload_n 1, 1)) rfl
theorem w256_0 (d : Nat) (v0 : Value) (S : List Value) (h : mHp) (Q : Option Value → mHp → Prop) : WP d 256 0 [v0] S h Q = WP d 256 3 [v0] (.int 1 :: S) h Q := wi_gets r256 (by decide +kernel : decode rw256.2.1 0 = .ok (.getstatic 38, 3)) rfl
theorem w256_3 (d : Nat) (v0 : Value) (S : List Value) (h : mHp) (Q : Option Value → mHp → Prop) : WP d 256 3 [v0] (.int 1 :: S) h Q = if (1 : Int32) = 0 then WP d 256 13 [v0] S h Q else WP d 256 6 [v0] S h Q := wi_ifeq (t := 13) r256 (by decide +kernel : decode rw256.2.1 3 = .ok (.ifCond .eq 10, 3)) rfl rfl
theorem w256_6 (d : Nat) (x : Nat) (S : List Value) (h : mHp) (Q : Option Value → mHp → Prop) : WP d 256 6 [.ref x] S h Q = WP d 256 7 [.ref x] (.ref x :: S) h Q := wi_aload_n r256 (by decide +kernel : decode rw256.2.1 6 = .ok (.aload_n 0, 1)) rfl
theorem w256_7 (d : Nat) (a : Nat) (v0 : Value) (S : List Value) (h : mHp) (Q : Option Value → mHp → Prop) (ha : a < 3) : WP d 256 7 [v0] (.ref a :: S) h Q = WP d 256 10 [v0] (.int 0 :: S) h Q := wi_getC r256 (by decide +kernel : decode rw256.2.1 7 = .ok (.getfield 15, 3)) (by decide +kernel) rfl ha
theorem w256_10 (d : Nat) (v0 : Value) (S : List Value) (h : mHp) (Q : Option Value → mHp → Prop) : WP d 256 10 [v0] S h Q = WP d 256 14 [v0] S h Q := wi_goto (t := 14) r256 (by decide +kernel : decode rw256.2.1 10 = .ok (.goto 4, 3)) rfl
theorem w256_13 (d : Nat) (v0 : Value) (S : List Value) (h : mHp) (Q : Option Value → mHp → Prop) : WP d 256 13 [v0] S h Q = WP d 256 14 [v0] (.int 1 :: S) h Q := wi_iconst r256 (by decide +kernel : decode rw256.2.1 13 = .ok (.iconst 1, 1)) (by decide)
theorem w256_14 (d : Nat) (x : Int32) (v0 : Value) (h : mHp) (Q : Option Value → mHp → Prop) (hx : narrow .byte (.int x) = .int x) : WP d 256 14 [v0] [.int x] h Q = Q (some (.int x)) h := wi_iret (ty := .byte) r256 (by decide +kernel : decode rw256.2.1 14 = .ok (.ireturn, 1)) rfl hx
theorem w257_0 (d : Nat) (x : Nat) (v1 : Value) (S : List Value) (h : mHp) (Q : Option Value → mHp → Prop) : WP d 257 0 [.ref x, v1] S h Q = WP d 257 1 [.ref x, v1] (.ref x :: S) h Q := wi_aload_n r257 (by decide +kernel : decode rw257.2.1 0 = .ok (.aload_n 0, 1)) rfl
theorem w257_1 (d : Nat) (x : Int32) (v0 : Value) (S : List Value) (h : mHp) (Q : Option Value → mHp → Prop) : WP d 257 1 [v0, .int x] S h Q = WP d 257 2 [v0, .int x] (.int x :: S) h Q := wi_iload_n r257 (by decide +kernel : decode rw257.2.1 1 = .ok (.iload_n 1, 1)) rfl
theorem w257_2 (d : Nat) (v0 v1 : Value) (S : List Value) (h : mHp) (Q : Option Value → mHp → Prop) : WP d 257 2 [v0, v1] S h Q = WP d 257 3 [v0, v1] (.int 0 :: S) h Q := wi_iconst r257 (by decide +kernel : decode rw257.2.1 2 = .ok (.iconst 0, 1)) (by decide)
theorem w257_3 (d : Nat) (x1 : Int32) (b : Nat) (v0 v1 : Value) (xL : Nat) (I : Nat → Nat → Int32) (J : Nat → Nat → Int64) (rc rx rr : Nat) (Q : Option Value → mHp → Prop) (hb : b < 3) : WP (d + 1) 257 3 [v0, v1] (.int 0 :: .int x1 :: .ref b :: []) (mHh xL I J (mRf rc rx rr)) Q = WP d 258 0 [.ref b, .int x1, .int 0] [] (mHh xL I J (mRf rc rx rr)) (fun v h9 => WP (d + 1) 257 6 [v0, v1] (v.toList ++ []) h9 Q) := wi_callV (a9 := 14) (b9 := 633) (ns := false) (z := 258) (rz := rw258) r257 (by decide +kernel : decode rw257.2.1 3 = .ok (.invokevirtual 633, 3)) (by decide +kernel) r258 (na := 2) rfl rfl rfl rfl (by decide +kernel) (Or.inr ⟨rfl, hb⟩) (Nat.le_of_ble_eq_true rfl) rfl (Nat.le_of_ble_eq_true rfl) rfl
theorem w257_6 (d : Nat) (x : Int32) (v0 v1 : Value) (h : mHp) (Q : Option Value → mHp → Prop) : WP d 257 6 [v0, v1] [.int x] h Q = Q (some (.int x)) h := wi_iret (ty := .int) r257 (by decide +kernel : decode rw257.2.1 6 = .ok (.ireturn, 1)) rfl rfl
theorem w258_0 (d : Nat) (x : Nat) (v1 v2 : Value) (S : List Value) (h : mHp) (Q : Option Value → mHp → Prop) : WP d 258 0 [.ref x, v1, v2] S h Q = WP d 258 1 [.ref x, v1, v2] (.ref x :: S) h Q := wi_aload_n r258 (by decide +kernel : decode rw258.2.1 0 = .ok (.aload_n 0, 1)) rfl
theorem w258_1 (d : Nat) (b : Nat) (v0 v1 v2 : Value) (xL : Nat) (I : Nat → Nat → Int32) (J : Nat → Nat → Int64) (rc rx rr : Nat) (Q : Option Value → mHp → Prop) (hb : b < 3) : WP (d + 1) 258 1 [v0, v1, v2] (.ref b :: []) (mHh xL I J (mRf rc rx rr)) Q = WP d 259 0 [.ref b] [] (mHh xL I J (mRf rc rx rr)) (fun v h9 => WP (d + 1) 258 4 [v0, v1, v2] (v.toList ++ []) h9 Q) := wi_callV (a9 := 14) (b9 := 492) (ns := false) (z := 259) (rz := rw259) r258 (by decide +kernel : decode rw258.2.1 1 = .ok (.invokevirtual 492, 3)) (by decide +kernel) r259 (na := 0) rfl rfl rfl rfl (by decide +kernel) (Or.inr ⟨rfl, hb⟩) (Nat.le_of_ble_eq_true rfl) rfl (Nat.le_of_ble_eq_true rfl) rfl
theorem w258_4 (d : Nat) (x : Int32) (v0 v1 v2 : Value) (S : List Value) (h : mHp) (Q : Option Value → mHp → Prop) : WP d 258 4 [v0, v1, v2] (.int x :: S) h Q = if x = 0 then WP d 258 23 [v0, v1, v2] S h Q else WP d 258 7 [v0, v1, v2] S h Q := wi_ifeq (t := 23) r258 (by decide +kernel : decode rw258.2.1 4 = .ok (.ifCond .eq 19, 3)) rfl rfl
theorem w258_7 (d : Nat) (x : Nat) (v1 v2 : Value) (S : List Value) (h : mHp) (Q : Option Value → mHp → Prop) : WP d 258 7 [.ref x, v1, v2] S h Q = WP d 258 8 [.ref x, v1, v2] (.ref x :: S) h Q := wi_aload_n r258 (by decide +kernel : decode rw258.2.1 7 = .ok (.aload_n 0, 1)) rfl
theorem w258_8 (d : Nat) (a : Nat) (v0 v1 v2 : Value) (S : List Value) (h : mHp) (Q : Option Value → mHp → Prop) (ha : a < 3) : WP d 258 8 [v0, v1, v2] (.ref a :: S) h Q = WP d 258 11 [v0, v1, v2] (.ref (3 + a) :: S) h Q := wi_getV r258 (by decide +kernel : decode rw258.2.1 8 = .ok (.getfield 9, 3)) (by decide +kernel) rfl ha
theorem w258_11 (d : Nat) (x : Int32) (v0 v2 : Value) (S : List Value) (h : mHp) (Q : Option Value → mHp → Prop) : WP d 258 11 [v0, .int x, v2] S h Q = WP d 258 12 [v0, .int x, v2] (.int x :: S) h Q := wi_iload_n r258 (by decide +kernel : decode rw258.2.1 11 = .ok (.iload_n 1, 1)) rfl
theorem w258_12 (d : Nat) (x : Int32) (v0 v1 : Value) (S : List Value) (h : mHp) (Q : Option Value → mHp → Prop) : WP d 258 12 [v0, v1, .int x] S h Q = WP d 258 13 [v0, v1, .int x] (.int x :: S) h Q := wi_iload_n r258 (by decide +kernel : decode rw258.2.1 12 = .ok (.iload_n 2, 1)) rfl
theorem w258_13 (d : Nat) (x : Nat) (v1 v2 : Value) (S : List Value) (h : mHp) (Q : Option Value → mHp → Prop) : WP d 258 13 [.ref x, v1, v2] S h Q = WP d 258 14 [.ref x, v1, v2] (.ref x :: S) h Q := wi_aload_n r258 (by decide +kernel : decode rw258.2.1 13 = .ok (.aload_n 0, 1)) rfl
theorem w258_14 (d : Nat) (b : Nat) (q1 : Int32) (q2 : Int32) (q3 : Nat) (v0 v1 v2 : Value) (xL : Nat) (I : Nat → Nat → Int32) (J : Nat → Nat → Int64) (rc rx rr : Nat) (Q : Option Value → mHp → Prop) (hb : b < 3) : WP (d + 1) 258 14 [v0, v1, v2] (.ref b :: [.int q1, .int q2, .ref q3]) (mHh xL I J (mRf rc rx rr)) Q = WP d 260 0 [.ref b] [] (mHh xL I J (mRf rc rx rr)) (fun v h9 => WP (d + 1) 258 17 [v0, v1, v2] (v.toList ++ [.int q1, .int q2, .ref q3]) h9 Q) := wi_callV (a9 := 14) (b9 := 505) (ns := false) (z := 260) (rz := rw260) r258 (by decide +kernel : decode rw258.2.1 14 = .ok (.invokevirtual 505, 3)) (by decide +kernel) r260 (na := 0) rfl rfl rfl rfl (by decide +kernel) (Or.inr ⟨rfl, hb⟩) (Nat.le_of_ble_eq_true rfl) rfl (Nat.le_of_ble_eq_true rfl) rfl
theorem w258_17 (d : Nat) (x0 : Int32) (x1 : Int32) (x2 : Int32) (x3 : Nat) (v0 v1 v2 : Value) (h : mHp) (Q : Option Value → mHp → Prop) : WP (d + 1) 258 17 [v0, v1, v2] (.int x0 :: .int x1 :: .int x2 :: .ref x3 :: []) h Q = WP d 264 0 [.ref x3, .int x2, .int x1, .int x0] [] h (fun v h9 => WP (d + 1) 258 20 [v0, v1, v2] (v.toList ++ []) h9 Q) := wi_callS (a9 := 14) (b9 := 637) (ns := false) (z := 264) (rz := rw264) r258 (by decide +kernel : decode rw258.2.1 17 = .ok (.invokestatic 637, 3)) (by decide +kernel) r264 (na := 4) rfl rfl (by decide) (Nat.le_of_ble_eq_true rfl) rfl rfl ⟨Nat.le_of_ble_eq_true rfl, Nat.le_of_ble_eq_true rfl⟩ rfl
theorem w258_20 (d : Nat) (v0 v1 v2 : Value) (S : List Value) (h : mHp) (Q : Option Value → mHp → Prop) : WP d 258 20 [v0, v1, v2] S h Q = WP d 258 36 [v0, v1, v2] S h Q := wi_goto (t := 36) r258 (by decide +kernel : decode rw258.2.1 20 = .ok (.goto 16, 3)) rfl
theorem w258_23 (d : Nat) (x : Nat) (v1 v2 : Value) (S : List Value) (h : mHp) (Q : Option Value → mHp → Prop) : WP d 258 23 [.ref x, v1, v2] S h Q = WP d 258 24 [.ref x, v1, v2] (.ref x :: S) h Q := wi_aload_n r258 (by decide +kernel : decode rw258.2.1 23 = .ok (.aload_n 0, 1)) rfl
theorem w258_24 (d : Nat) (a : Nat) (v0 v1 v2 : Value) (S : List Value) (h : mHp) (Q : Option Value → mHp → Prop) (ha : a < 3) : WP d 258 24 [v0, v1, v2] (.ref a :: S) h Q = WP d 258 27 [v0, v1, v2] (.ref (3 + a) :: S) h Q := wi_getV r258 (by decide +kernel : decode rw258.2.1 24 = .ok (.getfield 9, 3)) (by decide +kernel) rfl ha
theorem w258_27 (d : Nat) (x : Int32) (v0 v2 : Value) (S : List Value) (h : mHp) (Q : Option Value → mHp → Prop) : WP d 258 27 [v0, .int x, v2] S h Q = WP d 258 28 [v0, .int x, v2] (.int x :: S) h Q := wi_iload_n r258 (by decide +kernel : decode rw258.2.1 27 = .ok (.iload_n 1, 1)) rfl
theorem w258_28 (d : Nat) (x : Int32) (v0 v1 : Value) (S : List Value) (h : mHp) (Q : Option Value → mHp → Prop) : WP d 258 28 [v0, v1, .int x] S h Q = WP d 258 29 [v0, v1, .int x] (.int x :: S) h Q := wi_iload_n r258 (by decide +kernel : decode rw258.2.1 28 = .ok (.iload_n 2, 1)) rfl
theorem w258_29 (d : Nat) (x : Nat) (v1 v2 : Value) (S : List Value) (h : mHp) (Q : Option Value → mHp → Prop) : WP d 258 29 [.ref x, v1, v2] S h Q = WP d 258 30 [.ref x, v1, v2] (.ref x :: S) h Q := wi_aload_n r258 (by decide +kernel : decode rw258.2.1 29 = .ok (.aload_n 0, 1)) rfl
theorem w258_30 (d : Nat) (b : Nat) (q1 : Int32) (q2 : Int32) (q3 : Nat) (v0 v1 v2 : Value) (xL : Nat) (I : Nat → Nat → Int32) (J : Nat → Nat → Int64) (rc rx rr : Nat) (Q : Option Value → mHp → Prop) (hb : b < 3) : WP (d + 1) 258 30 [v0, v1, v2] (.ref b :: [.int q1, .int q2, .ref q3]) (mHh xL I J (mRf rc rx rr)) Q = WP d 260 0 [.ref b] [] (mHh xL I J (mRf rc rx rr)) (fun v h9 => WP (d + 1) 258 33 [v0, v1, v2] (v.toList ++ [.int q1, .int q2, .ref q3]) h9 Q) := wi_callV (a9 := 14) (b9 := 505) (ns := false) (z := 260) (rz := rw260) r258 (by decide +kernel : decode rw258.2.1 30 = .ok (.invokevirtual 505, 3)) (by decide +kernel) r260 (na := 0) rfl rfl rfl rfl (by decide +kernel) (Or.inr ⟨rfl, hb⟩) (Nat.le_of_ble_eq_true rfl) rfl (Nat.le_of_ble_eq_true rfl) rfl
theorem w258_36 (d : Nat) (x : Int32) (v0 v1 v2 : Value) (h : mHp) (Q : Option Value → mHp → Prop) : WP d 258 36 [v0, v1, v2] [.int x] h Q = Q (some (.int x)) h := wi_iret (ty := .int) r258 (by decide +kernel : decode rw258.2.1 36 = .ok (.ireturn, 1)) rfl rfl
theorem w259_0 (d : Nat) (v0 : Value) (S : List Value) (h : mHp) (Q : Option Value → mHp → Prop) : WP d 259 0 [v0] S h Q = WP d 259 3 [v0] (.int 1 :: S) h Q := wi_gets r259 (by decide +kernel : decode rw259.2.1 0 = .ok (.getstatic 38, 3)) rfl
theorem w259_3 (d : Nat) (v0 : Value) (S : List Value) (h : mHp) (Q : Option Value → mHp → Prop) : WP d 259 3 [v0] (.int 1 :: S) h Q = if (1 : Int32) = 0 then WP d 259 17 [v0] S h Q else WP d 259 6 [v0] S h Q := wi_ifeq (t := 17) r259 (by decide +kernel : decode rw259.2.1 3 = .ok (.ifCond .eq 14, 3)) rfl rfl
theorem w259_6 (d : Nat) (x : Nat) (S : List Value) (h : mHp) (Q : Option Value → mHp → Prop) : WP d 259 6 [.ref x] S h Q = WP d 259 7 [.ref x] (.ref x :: S) h Q := wi_aload_n r259 (by decide +kernel : decode rw259.2.1 6 = .ok (.aload_n 0, 1)) rfl
theorem w259_7 (d : Nat) (a : Nat) (v0 : Value) (S : List Value) (h : mHp) (Q : Option Value → mHp → Prop) (ha : a < 3) : WP d 259 7 [v0] (.ref a :: S) h Q = WP d 259 10 [v0] (.int 0 :: S) h Q := wi_getC r259 (by decide +kernel : decode rw259.2.1 7 = .ok (.getfield 15, 3)) (by decide +kernel) rfl ha
theorem w259_10 (d : Nat) (x : Int32) (v0 : Value) (S : List Value) (h : mHp) (Q : Option Value → mHp → Prop) : WP d 259 10 [v0] (.int x :: S) h Q = if x = 0 then WP d 259 13 [v0] S h Q else WP d 259 17 [v0] S h Q := wi_ifne (t := 17) r259 (by decide +kernel : decode rw259.2.1 10 = .ok (.ifCond .ne 7, 3)) rfl rfl
theorem w259_13 (d : Nat) (v0 : Value) (S : List Value) (h : mHp) (Q : Option Value → mHp → Prop) : WP d 259 13 [v0] S h Q = WP d 259 14 [v0] (.int 1 :: S) h Q := wi_iconst r259 (by decide +kernel : decode rw259.2.1 13 = .ok (.iconst 1, 1)) (by decide)
theorem w259_14 (d : Nat) (v0 : Value) (S : List Value) (h : mHp) (Q : Option Value → mHp → Prop) : WP d 259 14 [v0] S h Q = WP d 259 18 [v0] S h Q := wi_goto (t := 18) r259 (by decide +kernel : decode rw259.2.1 14 = .ok (.goto 4, 3)) rfl
theorem w259_17 (d : Nat) (v0 : Value) (S : List Value) (h : mHp) (Q : Option Value → mHp → Prop) : WP d 259 17 [v0] S h Q = WP d 259 18 [v0] (.int 0 :: S) h Q := wi_iconst r259 (by decide +kernel : decode rw259.2.1 17 = .ok (.iconst 0, 1)) (by decide)
theorem w259_18 (d : Nat) (x : Int32) (v0 : Value) (h : mHp) (Q : Option Value → mHp → Prop) (hx : narrow .boolean (.int x) = .int x) : WP d 259 18 [v0] [.int x] h Q = Q (some (.int x)) h := wi_iret (ty := .boolean) r259 (by decide +kernel : decode rw259.2.1 18 = .ok (.ireturn, 1)) rfl hx
theorem w260_0 (d : Nat) (x : Nat) (S : List Value) (h : mHp) (Q : Option Value → mHp → Prop) : WP d 260 0 [.ref x] S h Q = WP d 260 1 [.ref x] (.ref x :: S) h Q := wi_aload_n r260 (by decide +kernel : decode rw260.2.1 0 = .ok (.aload_n 0, 1)) rfl
theorem w260_1 (d : Nat) (a : Nat) (v0 : Value) (S : List Value) (h : mHp) (Q : Option Value → mHp → Prop) (ha : a < 3) : WP d 260 1 [v0] (.ref a :: S) h Q = WP d 260 4 [v0] (.ref (3 + a) :: S) h Q := wi_getV r260 (by decide +kernel : decode rw260.2.1 1 = .ok (.getfield 9, 3)) (by decide +kernel) rfl ha
theorem w260_4 (d : Nat) (a : Nat) (v0 : Value) (S : List Value) (xL : Nat) (I : Nat → Nat → Int32) (J : Nat → Nat → Int64) (rc rx rr : Nat) (Q : Option Value → mHp → Prop) (h3 : 3 ≤ a ∧ a < 6) : WP d 260 4 [v0] (.ref a :: S) (mHh xL I J (mRf rc rx rr)) Q = WP d 260 5 [v0] (.int (Int32.ofNat (mTxL.getD (a - 3) 0)) :: S) (mHh xL I J (mRf rc rx rr)) Q := wi_alen r260 (by decide +kernel : decode rw260.2.1 4 = .ok (.arraylength, 1)) (Or.inr (Or.inl ⟨tx_at h3, h3⟩)) rfl
theorem w260_5 (d : Nat) (x : Nat) (S : List Value) (h : mHp) (Q : Option Value → mHp → Prop) : WP d 260 5 [.ref x] S h Q = WP d 260 6 [.ref x] (.ref x :: S) h Q := wi_aload_n r260 (by decide +kernel : decode rw260.2.1 5 = .ok (.aload_n 0, 1)) rfl
theorem w260_6 (d : Nat) (b : Nat) (q1 : Int32) (v0 : Value) (xL : Nat) (I : Nat → Nat → Int32) (J : Nat → Nat → Int64) (rc rx rr : Nat) (Q : Option Value → mHp → Prop) (hb : b < 3) : WP (d + 1) 260 6 [v0] (.ref b :: [.int q1]) (mHh xL I J (mRf rc rx rr)) Q = WP d 256 0 [.ref b] [] (mHh xL I J (mRf rc rx rr)) (fun v h9 => WP (d + 1) 260 9 [v0] (v.toList ++ [.int q1]) h9 Q) := wi_callV (a9 := 14) (b9 := 335) (ns := false) (z := 256) (rz := rw256) r260 (by decide +kernel : decode rw260.2.1 6 = .ok (.invokevirtual 335, 3)) (by decide +kernel) r256 (na := 0) rfl rfl rfl rfl (by decide +kernel) (Or.inr ⟨rfl, hb⟩) (Nat.le_of_ble_eq_true rfl) rfl (Nat.le_of_ble_eq_true rfl) rfl
theorem w260_9 (d : Nat) (y : Int32) (x : Int32) (v0 : Value) (S : List Value) (h : mHp) (Q : Option Value → mHp → Prop) : WP d 260 9 [v0] (.int y :: .int x :: S) h Q = WP d 260 10 [v0] (.int (x >>> (y &&& 31)) :: S) h Q := wi_ishr r260 (by decide +kernel : decode rw260.2.1 9 = .ok (.ishr, 1))
theorem w260_10 (d : Nat) (x : Int32) (v0 : Value) (h : mHp) (Q : Option Value → mHp → Prop) : WP d 260 10 [v0] [.int x] h Q = Q (some (.int x)) h := wi_iret (ty := .int) r260 (by decide +kernel : decode rw260.2.1 10 = .ok (.ireturn, 1)) rfl rfl
theorem w261_0 (d : Nat) (x : Int32) (v1 : Value) (S : List Value) (h : mHp) (Q : Option Value → mHp → Prop) : WP d 261 0 [.int x, v1] S h Q = WP d 261 1 [.int x, v1] (.int x :: S) h Q := wi_iload_n r261 (by decide +kernel : decode rw261.2.1 0 = .ok (.iload_n 0, 1)) rfl
theorem w261_1 (d : Nat) (x : Int32) (v0 : Value) (S : List Value) (h : mHp) (Q : Option Value → mHp → Prop) : WP d 261 1 [v0, .int x] S h Q = WP d 261 2 [v0, .int x] (.int x :: S) h Q := wi_iload_n r261 (by decide +kernel : decode rw261.2.1 1 = .ok (.iload_n 1, 1)) rfl
theorem w261_2 (d : Nat) (v0 v1 : Value) (S : List Value) (h : mHp) (Q : Option Value → mHp → Prop) : WP d 261 2 [v0, v1] S h Q = WP d 261 5 [v0, v1] (.null :: S) h Q := wi_gets r261 (by decide +kernel : decode rw261.2.1 2 = .ok (.getstatic 1053, 3)) rfl
theorem w261_5 (d : Nat) (x0 : Nat) (x1 : Int32) (x2 : Int32) (v0 v1 : Value) (h : mHp) (Q : Option Value → mHp → Prop) : WP (d + 1) 261 5 [v0, v1] (.ref x0 :: .int x1 :: .int x2 :: []) h Q = WP d 266 0 [.int x2, .int x1, .ref x0] [] h (fun v h9 => WP (d + 1) 261 8 [v0, v1] (v.toList ++ []) h9 Q) := wi_callS (a9 := 14) (b9 := 1059) (ns := false) (z := 266) (rz := rw266) r261 (by decide +kernel : decode rw261.2.1 5 = .ok (.invokestatic 1059, 3)) (by decide +kernel) r266 (na := 3) rfl rfl (by decide) (Nat.le_of_ble_eq_true rfl) rfl rfl ⟨Nat.le_of_ble_eq_true rfl, Nat.le_of_ble_eq_true rfl⟩ rfl
theorem w261_8 (d : Nat) (x : Int32) (v0 v1 : Value) (S : List Value) (h : mHp) (Q : Option Value → mHp → Prop) : WP d 261 8 [v0, v1] (.int x :: S) h Q = WP d 261 9 [v0, v1] S h Q := wi_pop r261 (by decide +kernel : decode rw261.2.1 8 = .ok (.pop, 1))
theorem w261_9 (d : Nat) (v0 v1 : Value) (h : mHp) (Q : Option Value → mHp → Prop) : WP d 261 9 [v0, v1] [] h Q = Q none h := wi_vret r261 (by decide +kernel : decode rw261.2.1 9 = .ok (.return_, 1)) rfl
theorem w262_0 (d : Nat) (x : Int32) (S : List Value) (h : mHp) (Q : Option Value → mHp → Prop) : WP d 262 0 [.int x] S h Q = WP d 262 1 [.int x] (.int x :: S) h Q := wi_iload_n r262 (by decide +kernel : decode rw262.2.1 0 = .ok (.iload_n 0, 1)) rfl
theorem w262_1 (d : Nat) (x : Int32) (v0 : Value) (S : List Value) (h : mHp) (Q : Option Value → mHp → Prop) : WP d 262 1 [v0] (.int x :: S) h Q = if x < 0 then WP d 262 15 [v0] S h Q else WP d 262 4 [v0] S h Q := wi_iflt (t := 15) r262 (by decide +kernel : decode rw262.2.1 1 = .ok (.ifCond .lt 14, 3)) rfl rfl
theorem w262_4 (d : Nat) (x : Int32) (S : List Value) (h : mHp) (Q : Option Value → mHp → Prop) : WP d 262 4 [.int x] S h Q = WP d 262 5 [.int x] (.int x :: S) h Q := wi_iload_n r262 (by decide +kernel : decode rw262.2.1 4 = .ok (.iload_n 0, 1)) rfl
theorem w262_5 (d : Nat) (v0 : Value) (S : List Value) (h : mHp) (Q : Option Value → mHp → Prop) : WP d 262 5 [v0] S h Q = WP d 262 8 [v0] (.int 255 :: S) h Q := wi_sipush r262 (by decide +kernel : decode rw262.2.1 5 = .ok (.sipush 255, 3)) (by decide)
theorem w262_8 (d : Nat) (x : Int32) (v0 : Value) (S : List Value) (h : mHp) (Q : Option Value → mHp → Prop) : WP d 262 8 [v0] (.int 255 :: .int x :: S) h Q = if 255 < x then WP d 262 15 [v0] S h Q else WP d 262 11 [v0] S h Q := wi_icgt (t := 15) r262 (by decide +kernel : decode rw262.2.1 8 = .ok (.if_icmp .gt 7, 3)) rfl rfl
theorem w262_11 (d : Nat) (v0 : Value) (S : List Value) (h : mHp) (Q : Option Value → mHp → Prop) : WP d 262 11 [v0] S h Q = WP d 262 12 [v0] (.int 1 :: S) h Q := wi_iconst r262 (by decide +kernel : decode rw262.2.1 11 = .ok (.iconst 1, 1)) (by decide)
theorem w262_12 (d : Nat) (v0 : Value) (S : List Value) (h : mHp) (Q : Option Value → mHp → Prop) : WP d 262 12 [v0] S h Q = WP d 262 16 [v0] S h Q := wi_goto (t := 16) r262 (by decide +kernel : decode rw262.2.1 12 = .ok (.goto 4, 3)) rfl
theorem w262_15 (d : Nat) (v0 : Value) (S : List Value) (h : mHp) (Q : Option Value → mHp → Prop) : WP d 262 15 [v0] S h Q = WP d 262 16 [v0] (.int 0 :: S) h Q := wi_iconst r262 (by decide +kernel : decode rw262.2.1 15 = .ok (.iconst 0, 1)) (by decide)
theorem w262_16 (d : Nat) (x : Int32) (v0 : Value) (h : mHp) (Q : Option Value → mHp → Prop) (hx : narrow .boolean (.int x) = .int x) : WP d 262 16 [v0] [.int x] h Q = Q (some (.int x)) h := wi_iret (ty := .boolean) r262 (by decide +kernel : decode rw262.2.1 16 = .ok (.ireturn, 1)) rfl hx
theorem w263_0 (d : Nat) (x : Int32) (v0 : Value) (S : List Value) (h : mHp) (Q : Option Value → mHp → Prop) : WP d 263 0 [v0, .int x] S h Q = WP d 263 1 [v0, .int x] (.int x :: S) h Q := wi_iload_n r263 (by decide +kernel : decode rw263.2.1 0 = .ok (.iload_n 1, 1)) rfl
theorem w263_1 (d : Nat) (x : Nat) (v1 : Value) (S : List Value) (h : mHp) (Q : Option Value → mHp → Prop) : WP d 263 1 [.ref x, v1] S h Q = WP d 263 2 [.ref x, v1] (.ref x :: S) h Q := wi_aload_n r263 (by decide +kernel : decode rw263.2.1 1 = .ok (.aload_n 0, 1)) rfl
theorem w263_2 (d : Nat) (a : Nat) (v0 v1 : Value) (S : List Value) (xL : Nat) (I : Nat → Nat → Int32) (J : Nat → Nat → Int64) (rc rx rr : Nat) (Q : Option Value → mHp → Prop) (h3 : 3 ≤ a ∧ a < 6) : WP d 263 2 [v0, v1] (.ref a :: S) (mHh xL I J (mRf rc rx rr)) Q = WP d 263 3 [v0, v1] (.int (Int32.ofNat (mTxL.getD (a - 3) 0)) :: S) (mHh xL I J (mRf rc rx rr)) Q := wi_alen r263 (by decide +kernel : decode rw263.2.1 2 = .ok (.arraylength, 1)) (Or.inr (Or.inl ⟨tx_at h3, h3⟩)) rfl
theorem w263_3 (d : Nat) (x0 : Int32) (x1 : Int32) (v0 v1 : Value) (h : mHp) (Q : Option Value → mHp → Prop) : WP (d + 1) 263 3 [v0, v1] (.int x0 :: .int x1 :: []) h Q = WP d 261 0 [.int x1, .int x0] [] h (fun v h9 => WP (d + 1) 263 6 [v0, v1] (v.toList ++ []) h9 Q) := wi_callS (a9 := 15) (b9 := 9) (ns := false) (z := 261) (rz := rw261) r263 (by decide +kernel : decode rw263.2.1 3 = .ok (.invokestatic 9, 3)) (by decide +kernel) r261 (na := 2) rfl rfl (by decide) (Nat.le_of_ble_eq_true rfl) rfl rfl ⟨Nat.le_of_ble_eq_true rfl, Nat.le_of_ble_eq_true rfl⟩ rfl
theorem w263_6 (d : Nat) (x : Nat) (v1 : Value) (S : List Value) (h : mHp) (Q : Option Value → mHp → Prop) : WP d 263 6 [.ref x, v1] S h Q = WP d 263 7 [.ref x, v1] (.ref x :: S) h Q := wi_aload_n r263 (by decide +kernel : decode rw263.2.1 6 = .ok (.aload_n 0, 1)) rfl
theorem w263_7 (d : Nat) (x : Int32) (v0 : Value) (S : List Value) (h : mHp) (Q : Option Value → mHp → Prop) : WP d 263 7 [v0, .int x] S h Q = WP d 263 8 [v0, .int x] (.int x :: S) h Q := wi_iload_n r263 (by decide +kernel : decode rw263.2.1 7 = .ok (.iload_n 1, 1)) rfl
theorem w263_8 (d : Nat) (a : Nat) (i : Int32) (v0 v1 : Value) (S : List Value) (xL : Nat) (I : Nat → Nat → Int32) (J : Nat → Nat → Int64) (rc rx rr : Nat) (Q : Option Value → mHp → Prop) (h3 : 3 ≤ a ∧ a < 6) (hi : mIn i (mTxL.getD (a - 3) 0) = true) : WP d 263 8 [v0, v1] (.int i :: .ref a :: S) (mHh xL I J (mRf rc rx rr)) Q = WP d 263 9 [v0, v1] (.int (I a i.toNatClampNeg) :: S) (mHh xL I J (mRf rc rx rr)) Q := wi_tald r263 (by decide +kernel : decode rw263.2.1 8 = .ok (.baload, 1)) (tx_at h3) h3 hi
theorem w263_9 (d : Nat) (v0 v1 : Value) (S : List Value) (h : mHp) (Q : Option Value → mHp → Prop) : WP d 263 9 [v0, v1] S h Q = WP d 263 12 [v0, v1] (.int 255 :: S) h Q := wi_sipush r263 (by decide +kernel : decode rw263.2.1 9 = .ok (.sipush 255, 3)) (by decide)
theorem w263_12 (d : Nat) (x : Int32) (v0 v1 : Value) (S : List Value) (h : mHp) (Q : Option Value → mHp → Prop) : WP d 263 12 [v0, v1] (.int 255 :: .int x :: S) h Q = WP d 263 13 [v0, v1] (.int (x &&& 255) :: S) h Q := wi_iand r263 (by decide +kernel : decode rw263.2.1 12 = .ok (.iand, 1))
theorem w263_13 (d : Nat) (x : Int32) (v0 v1 : Value) (S : List Value) (h : mHp) (Q : Option Value → mHp → Prop) : WP d 263 13 [v0, v1] (.int x :: S) h Q = WP d 263 14 [v0, v1] (.int (Int32.toUInt32 x % 65536).toInt32 :: S) h Q := wi_i2c r263 (by decide +kernel : decode rw263.2.1 13 = .ok (.i2c, 1))
theorem w263_14 (d : Nat) (x : Int32) (v0 v1 : Value) (h : mHp) (Q : Option Value → mHp → Prop) (hx : narrow .char (.int x) = .int x) : WP d 263 14 [v0, v1] [.int x] h Q = Q (some (.int x)) h := wi_iret (ty := .char) r263 (by decide +kernel : decode rw263.2.1 14 = .ok (.ireturn, 1)) rfl hx
theorem w264_0 (d : Nat) (x : Int32) (v0 v2 v3 : Value) (S : List Value) (h : mHp) (Q : Option Value → mHp → Prop) : WP d 264 0 [v0, .int x, v2, v3] S h Q = WP d 264 1 [v0, .int x, v2, v3] (.int x :: S) h Q := wi_iload_n r264 (by decide +kernel : decode rw264.2.1 0 = .ok (.iload_n 1, 1)) rfl
theorem w264_1 (d : Nat) (x0 : Int32) (v0 v1 v2 v3 : Value) (h : mHp) (Q : Option Value → mHp → Prop) : WP (d + 1) 264 1 [v0, v1, v2, v3] (.int x0 :: []) h Q = WP d 262 0 [.int x0] [] h (fun v h9 => WP (d + 1) 264 4 [v0, v1, v2, v3] (v.toList ++ []) h9 Q) := wi_callS (a9 := 15) (b9 := 88) (ns := false) (z := 262) (rz := rw262) r264 (by decide +kernel : decode rw264.2.1 1 = .ok (.invokestatic 88, 3)) (by decide +kernel) r262 (na := 1) rfl rfl (by decide) (Nat.le_of_ble_eq_true rfl) rfl rfl ⟨Nat.le_of_ble_eq_true rfl, Nat.le_of_ble_eq_true rfl⟩ rfl
theorem w264_4 (d : Nat) (x : Int32) (v0 v1 v2 v3 : Value) (S : List Value) (h : mHp) (Q : Option Value → mHp → Prop) : WP d 264 4 [v0, v1, v2, v3] (.int x :: S) h Q = if x = 0 then WP d 264 7 [v0, v1, v2, v3] S h Q else WP d 264 9 [v0, v1, v2, v3] S h Q := wi_ifne (t := 9) r264 (by decide +kernel : decode rw264.2.1 4 = .ok (.ifCond .ne 5, 3)) rfl rfl
theorem w264_7 (d : Nat) (v0 v1 v2 v3 : Value) (S : List Value) (h : mHp) (Q : Option Value → mHp → Prop) : WP d 264 7 [v0, v1, v2, v3] S h Q = WP d 264 8 [v0, v1, v2, v3] (.int (-1) :: S) h Q := wi_iconst r264 (by decide +kernel : decode rw264.2.1 7 = .ok (.iconst (-1), 1)) (by decide)
theorem w264_8 (d : Nat) (x : Int32) (v0 v1 v2 v3 : Value) (h : mHp) (Q : Option Value → mHp → Prop) : WP d 264 8 [v0, v1, v2, v3] [.int x] h Q = Q (some (.int x)) h := wi_iret (ty := .int) r264 (by decide +kernel : decode rw264.2.1 8 = .ok (.ireturn, 1)) rfl rfl
theorem w264_9 (d : Nat) (x : Int32) (v0 v1 v3 : Value) (S : List Value) (h : mHp) (Q : Option Value → mHp → Prop) : WP d 264 9 [v0, v1, .int x, v3] S h Q = WP d 264 10 [v0, v1, .int x, v3] (.int x :: S) h Q := wi_iload_n r264 (by decide +kernel : decode rw264.2.1 9 = .ok (.iload_n 2, 1)) rfl
theorem w264_10 (d : Nat) (v0 v1 v2 v3 : Value) (S : List Value) (h : mHp) (Q : Option Value → mHp → Prop) : WP d 264 10 [v0, v1, v2, v3] S h Q = WP d 264 11 [v0, v1, v2, v3] (.int 0 :: S) h Q := wi_iconst r264 (by decide +kernel : decode rw264.2.1 10 = .ok (.iconst 0, 1)) (by decide)
theorem w264_11 (d : Nat) (y : Int32) (v0 v1 v2 v3 : Value) (h : mHp) (Q : Option Value → mHp → Prop) : WP (d + 1) 264 11 [v0, v1, v2, v3] (.int 0 :: .int y :: []) h Q = WP (d + 1) 264 14 [v0, v1, v2, v3] (.int (if y < 0 then 0 else y) :: []) h Q := wi_max (a9 := 15) (b9 := 92) (ns := false) r264 (by decide +kernel : decode rw264.2.1 11 = .ok (.invokestatic 92, 3)) (by decide +kernel) (Nat.le_of_ble_eq_true rfl)
theorem w264_14 (d : Nat) (x : Int32) (z1 : Int32) (v0 v2 v3 : Value) (S : List Value) (h : mHp) (Q : Option Value → mHp → Prop) : WP d 264 14 [v0, .int z1, v2, v3] (.int x :: S) h Q = WP d 264 15 [v0, .int z1, .int x, v3] S h Q := wi_istore_n r264 (by decide +kernel : decode rw264.2.1 14 = .ok (.istore_n 2, 1)) rfl
theorem w264_15 (d : Nat) (x : Int32) (v0 v1 v2 : Value) (S : List Value) (h : mHp) (Q : Option Value → mHp → Prop) : WP d 264 15 [v0, v1, v2, .int x] S h Q = WP d 264 16 [v0, v1, v2, .int x] (.int x :: S) h Q := wi_iload_n r264 (by decide +kernel : decode rw264.2.1 15 = .ok (.iload_n 3, 1)) rfl
theorem w264_16 (d : Nat) (x : Nat) (v1 v2 v3 : Value) (S : List Value) (h : mHp) (Q : Option Value → mHp → Prop) : WP d 264 16 [.ref x, v1, v2, v3] S h Q = WP d 264 17 [.ref x, v1, v2, v3] (.ref x :: S) h Q := wi_aload_n r264 (by decide +kernel : decode rw264.2.1 16 = .ok (.aload_n 0, 1)) rfl
theorem w264_17 (d : Nat) (a : Nat) (v0 v1 v2 v3 : Value) (S : List Value) (xL : Nat) (I : Nat → Nat → Int32) (J : Nat → Nat → Int64) (rc rx rr : Nat) (Q : Option Value → mHp → Prop) (h3 : 3 ≤ a ∧ a < 6) : WP d 264 17 [v0, v1, v2, v3] (.ref a :: S) (mHh xL I J (mRf rc rx rr)) Q = WP d 264 18 [v0, v1, v2, v3] (.int (Int32.ofNat (mTxL.getD (a - 3) 0)) :: S) (mHh xL I J (mRf rc rx rr)) Q := wi_alen r264 (by decide +kernel : decode rw264.2.1 17 = .ok (.arraylength, 1)) (Or.inr (Or.inl ⟨tx_at h3, h3⟩)) rfl
theorem w264_18 (d : Nat) (x : Int32) (y : Int32) (v0 v1 v2 v3 : Value) (h : mHp) (Q : Option Value → mHp → Prop) : WP (d + 1) 264 18 [v0, v1, v2, v3] (.int x :: .int y :: []) h Q = WP (d + 1) 264 21 [v0, v1, v2, v3] (.int (if x < y then x else y) :: []) h Q := wi_min (a9 := 15) (b9 := 38) (ns := false) r264 (by decide +kernel : decode rw264.2.1 18 = .ok (.invokestatic 38, 3)) (by decide +kernel) (Nat.le_of_ble_eq_true rfl)
theorem w264_21 (d : Nat) (x : Int32) (z2 : Int32) (v0 v1 v3 : Value) (S : List Value) (h : mHp) (Q : Option Value → mHp → Prop) : WP d 264 21 [v0, v1, .int z2, v3] (.int x :: S) h Q = WP d 264 22 [v0, v1, .int z2, .int x] S h Q := wi_istore_n r264 (by decide +kernel : decode rw264.2.1 21 = .ok (.istore_n 3, 1)) rfl
theorem w264_22 (d : Nat) (x : Int32) (v0 v1 v3 : Value) (S : List Value) (h : mHp) (Q : Option Value → mHp → Prop) : WP d 264 22 [v0, v1, .int x, v3] S h Q = WP d 264 23 [v0, v1, .int x, v3] (.int x :: S) h Q := wi_iload_n r264 (by decide +kernel : decode rw264.2.1 22 = .ok (.iload_n 2, 1)) rfl
theorem w264_23 (d : Nat) (x : Int32) (v0 v1 v2 : Value) (S : List Value) (h : mHp) (Q : Option Value → mHp → Prop) : WP d 264 23 [v0, v1, v2, .int x] S h Q = WP d 264 24 [v0, v1, v2, .int x] (.int x :: S) h Q := wi_iload_n r264 (by decide +kernel : decode rw264.2.1 23 = .ok (.iload_n 3, 1)) rfl
theorem w264_24 (d : Nat) (y : Int32) (x : Int32) (v0 v1 v2 v3 : Value) (S : List Value) (h : mHp) (Q : Option Value → mHp → Prop) : WP d 264 24 [v0, v1, v2, v3] (.int y :: .int x :: S) h Q = if x < y then WP d 264 29 [v0, v1, v2, v3] S h Q else WP d 264 27 [v0, v1, v2, v3] S h Q := wi_iclt (t := 29) r264 (by decide +kernel : decode rw264.2.1 24 = .ok (.if_icmp .lt 5, 3)) rfl rfl
theorem w264_27 (d : Nat) (v0 v1 v2 v3 : Value) (S : List Value) (h : mHp) (Q : Option Value → mHp → Prop) : WP d 264 27 [v0, v1, v2, v3] S h Q = WP d 264 28 [v0, v1, v2, v3] (.int (-1) :: S) h Q := wi_iconst r264 (by decide +kernel : decode rw264.2.1 27 = .ok (.iconst (-1), 1)) (by decide)
theorem w264_28 (d : Nat) (x : Int32) (v0 v1 v2 v3 : Value) (h : mHp) (Q : Option Value → mHp → Prop) : WP d 264 28 [v0, v1, v2, v3] [.int x] h Q = Q (some (.int x)) h := wi_iret (ty := .int) r264 (by decide +kernel : decode rw264.2.1 28 = .ok (.ireturn, 1)) rfl rfl
theorem w264_29 (d : Nat) (x : Nat) (v1 v2 v3 : Value) (S : List Value) (h : mHp) (Q : Option Value → mHp → Prop) : WP d 264 29 [.ref x, v1, v2, v3] S h Q = WP d 264 30 [.ref x, v1, v2, v3] (.ref x :: S) h Q := wi_aload_n r264 (by decide +kernel : decode rw264.2.1 29 = .ok (.aload_n 0, 1)) rfl
theorem w264_30 (d : Nat) (x : Int32) (v0 v2 v3 : Value) (S : List Value) (h : mHp) (Q : Option Value → mHp → Prop) : WP d 264 30 [v0, .int x, v2, v3] S h Q = WP d 264 31 [v0, .int x, v2, v3] (.int x :: S) h Q := wi_iload_n r264 (by decide +kernel : decode rw264.2.1 30 = .ok (.iload_n 1, 1)) rfl
theorem w264_31 (d : Nat) (x : Int32) (v0 v1 v3 : Value) (S : List Value) (h : mHp) (Q : Option Value → mHp → Prop) : WP d 264 31 [v0, v1, .int x, v3] S h Q = WP d 264 32 [v0, v1, .int x, v3] (.int x :: S) h Q := wi_iload_n r264 (by decide +kernel : decode rw264.2.1 31 = .ok (.iload_n 2, 1)) rfl
theorem w264_32 (d : Nat) (x : Int32) (v0 v1 v2 : Value) (S : List Value) (h : mHp) (Q : Option Value → mHp → Prop) : WP d 264 32 [v0, v1, v2, .int x] S h Q = WP d 264 33 [v0, v1, v2, .int x] (.int x :: S) h Q := wi_iload_n r264 (by decide +kernel : decode rw264.2.1 32 = .ok (.iload_n 3, 1)) rfl
theorem w264_33 (d : Nat) (x0 : Int32) (x1 : Int32) (x2 : Int32) (x3 : Nat) (v0 v1 v2 v3 : Value) (h : mHp) (Q : Option Value → mHp → Prop) : WP (d + 1) 264 33 [v0, v1, v2, v3] (.int x0 :: .int x1 :: .int x2 :: .ref x3 :: []) h Q = WP d 265 0 [.ref x3, .int x2, .int x1, .int x0, mDum, mDum] [] h (fun v h9 => WP (d + 1) 264 36 [v0, v1, v2, v3] (v.toList ++ []) h9 Q) := wi_callS (a9 := 15) (b9 := 95) (ns := false) (z := 265) (rz := rw265) r264 (by decide +kernel : decode rw264.2.1 33 = .ok (.invokestatic 95, 3)) (by decide +kernel) r265 (na := 4) rfl rfl (by decide) (Nat.le_of_ble_eq_true rfl) rfl rfl ⟨Nat.le_of_ble_eq_true rfl, Nat.le_of_ble_eq_true rfl⟩ rfl
theorem w264_36 (d : Nat) (x : Int32) (v0 v1 v2 v3 : Value) (h : mHp) (Q : Option Value → mHp → Prop) : WP d 264 36 [v0, v1, v2, v3] [.int x] h Q = Q (some (.int x)) h := wi_iret (ty := .int) r264 (by decide +kernel : decode rw264.2.1 36 = .ok (.ireturn, 1)) rfl rfl
theorem w265_0 (d : Nat) (x : Int32) (v0 v2 v3 v4 v5 : Value) (S : List Value) (h : mHp) (Q : Option Value → mHp → Prop) : WP d 265 0 [v0, .int x, v2, v3, v4, v5] S h Q = WP d 265 1 [v0, .int x, v2, v3, v4, v5] (.int x :: S) h Q := wi_iload_n r265 (by decide +kernel : decode rw265.2.1 0 = .ok (.iload_n 1, 1)) rfl
theorem w265_1 (d : Nat) (x : Int32) (v0 v1 v2 v3 v4 v5 : Value) (S : List Value) (h : mHp) (Q : Option Value → mHp → Prop) : WP d 265 1 [v0, v1, v2, v3, v4, v5] (.int x :: S) h Q = WP d 265 2 [v0, v1, v2, v3, v4, v5] (.int (Int32.toInt8 x).toInt32 :: S) h Q := wi_i2b r265 (by decide +kernel : decode rw265.2.1 1 = .ok (.i2b, 1))
theorem w265_2 (d : Nat) (x : Int32) (z3 : Int32) (v0 v1 v2 v4 v5 : Value) (S : List Value) (h : mHp) (Q : Option Value → mHp → Prop) : WP d 265 2 [v0, v1, v2, .int z3, v4, v5] (.int x :: S) h Q = WP d 265 4 [v0, v1, v2, .int z3, .int x, v5] S h Q := wi_istore r265 (by decide +kernel : decode rw265.2.1 2 = .ok (.istore 4, 2)) rfl
theorem w265_4 (d : Nat) (x : Int32) (v0 v1 v3 v4 v5 : Value) (S : List Value) (h : mHp) (Q : Option Value → mHp → Prop) : WP d 265 4 [v0, v1, .int x, v3, v4, v5] S h Q = WP d 265 5 [v0, v1, .int x, v3, v4, v5] (.int x :: S) h Q := wi_iload_n r265 (by decide +kernel : decode rw265.2.1 4 = .ok (.iload_n 2, 1)) rfl
theorem w265_5 (d : Nat) (x : Int32) (z4 : Int32) (v0 v1 v2 v3 v5 : Value) (S : List Value) (h : mHp) (Q : Option Value → mHp → Prop) : WP d 265 5 [v0, v1, v2, v3, .int z4, v5] (.int x :: S) h Q = WP d 265 7 [v0, v1, v2, v3, .int z4, .int x] S h Q := wi_istore r265 (by decide +kernel : decode rw265.2.1 5 = .ok (.istore 5, 2)) rfl
theorem w265_7 (d : Nat) (x : Int32) (v0 v1 v2 v3 v4 : Value) (S : List Value) (h : mHp) (Q : Option Value → mHp → Prop) : WP d 265 7 [v0, v1, v2, v3, v4, .int x] S h Q = WP d 265 9 [v0, v1, v2, v3, v4, .int x] (.int x :: S) h Q := wi_iload r265 (by decide +kernel : decode rw265.2.1 7 = .ok (.iload 5, 2)) rfl
theorem w265_9 (d : Nat) (x : Int32) (v0 v1 v2 v4 v5 : Value) (S : List Value) (h : mHp) (Q : Option Value → mHp → Prop) : WP d 265 9 [v0, v1, v2, .int x, v4, v5] S h Q = WP d 265 10 [v0, v1, v2, .int x, v4, v5] (.int x :: S) h Q := wi_iload_n r265 (by decide +kernel : decode rw265.2.1 9 = .ok (.iload_n 3, 1)) rfl
theorem w265_10 (d : Nat) (y : Int32) (x : Int32) (v0 v1 v2 v3 v4 v5 : Value) (S : List Value) (h : mHp) (Q : Option Value → mHp → Prop) : WP d 265 10 [v0, v1, v2, v3, v4, v5] (.int y :: .int x :: S) h Q = if y ≤ x then WP d 265 31 [v0, v1, v2, v3, v4, v5] S h Q else WP d 265 13 [v0, v1, v2, v3, v4, v5] S h Q := wi_icge (t := 31) r265 (by decide +kernel : decode rw265.2.1 10 = .ok (.if_icmp .ge 21, 3)) rfl rfl
theorem w265_13 (d : Nat) (x : Nat) (v1 v2 v3 v4 v5 : Value) (S : List Value) (h : mHp) (Q : Option Value → mHp → Prop) : WP d 265 13 [.ref x, v1, v2, v3, v4, v5] S h Q = WP d 265 14 [.ref x, v1, v2, v3, v4, v5] (.ref x :: S) h Q := wi_aload_n r265 (by decide +kernel : decode rw265.2.1 13 = .ok (.aload_n 0, 1)) rfl
theorem w265_14 (d : Nat) (x : Int32) (v0 v1 v2 v3 v4 : Value) (S : List Value) (h : mHp) (Q : Option Value → mHp → Prop) : WP d 265 14 [v0, v1, v2, v3, v4, .int x] S h Q = WP d 265 16 [v0, v1, v2, v3, v4, .int x] (.int x :: S) h Q := wi_iload r265 (by decide +kernel : decode rw265.2.1 14 = .ok (.iload 5, 2)) rfl
theorem w265_16 (d : Nat) (a : Nat) (i : Int32) (v0 v1 v2 v3 v4 v5 : Value) (S : List Value) (xL : Nat) (I : Nat → Nat → Int32) (J : Nat → Nat → Int64) (rc rx rr : Nat) (Q : Option Value → mHp → Prop) (h3 : 3 ≤ a ∧ a < 6) (hi : mIn i (mTxL.getD (a - 3) 0) = true) : WP d 265 16 [v0, v1, v2, v3, v4, v5] (.int i :: .ref a :: S) (mHh xL I J (mRf rc rx rr)) Q = WP d 265 17 [v0, v1, v2, v3, v4, v5] (.int (I a i.toNatClampNeg) :: S) (mHh xL I J (mRf rc rx rr)) Q := wi_tald r265 (by decide +kernel : decode rw265.2.1 16 = .ok (.baload, 1)) (tx_at h3) h3 hi
theorem w265_17 (d : Nat) (x : Int32) (v0 v1 v2 v3 v5 : Value) (S : List Value) (h : mHp) (Q : Option Value → mHp → Prop) : WP d 265 17 [v0, v1, v2, v3, .int x, v5] S h Q = WP d 265 19 [v0, v1, v2, v3, .int x, v5] (.int x :: S) h Q := wi_iload r265 (by decide +kernel : decode rw265.2.1 17 = .ok (.iload 4, 2)) rfl
theorem w265_19 (d : Nat) (y : Int32) (x : Int32) (v0 v1 v2 v3 v4 v5 : Value) (S : List Value) (h : mHp) (Q : Option Value → mHp → Prop) : WP d 265 19 [v0, v1, v2, v3, v4, v5] (.int y :: .int x :: S) h Q = if x = y then WP d 265 22 [v0, v1, v2, v3, v4, v5] S h Q else WP d 265 25 [v0, v1, v2, v3, v4, v5] S h Q := wi_icne (t := 25) r265 (by decide +kernel : decode rw265.2.1 19 = .ok (.if_icmp .ne 6, 3)) rfl rfl
theorem w265_22 (d : Nat) (x : Int32) (v0 v1 v2 v3 v4 : Value) (S : List Value) (h : mHp) (Q : Option Value → mHp → Prop) : WP d 265 22 [v0, v1, v2, v3, v4, .int x] S h Q = WP d 265 24 [v0, v1, v2, v3, v4, .int x] (.int x :: S) h Q := wi_iload r265 (by decide +kernel : decode rw265.2.1 22 = .ok (.iload 5, 2)) rfl
theorem w265_24 (d : Nat) (x : Int32) (v0 v1 v2 v3 v4 v5 : Value) (h : mHp) (Q : Option Value → mHp → Prop) : WP d 265 24 [v0, v1, v2, v3, v4, v5] [.int x] h Q = Q (some (.int x)) h := wi_iret (ty := .int) r265 (by decide +kernel : decode rw265.2.1 24 = .ok (.ireturn, 1)) rfl rfl
theorem w265_25 (d : Nat) (x : Int32) (z4 : Int32) (v0 v1 v2 v3 : Value) (S : List Value) (h : mHp) (Q : Option Value → mHp → Prop) : WP d 265 25 [v0, v1, v2, v3, .int z4, .int x] S h Q = WP d 265 28 [v0, v1, v2, v3, .int z4, .int (x + 1)] S h Q := wi_iinc (v := 1) r265 (by decide +kernel : decode rw265.2.1 25 = .ok (.iinc 5 1, 3)) rfl (by decide) rfl
theorem w265_28 (d : Nat) (v0 v1 v2 v3 v4 v5 : Value) (S : List Value) (h : mHp) (Q : Option Value → mHp → Prop) : WP d 265 28 [v0, v1, v2, v3, v4, v5] S h Q = WP d 265 7 [v0, v1, v2, v3, v4, v5] S h Q := wi_goto (t := 7) r265 (by decide +kernel : decode rw265.2.1 28 = .ok (.goto (-21), 3)) rfl
theorem w265_31 (d : Nat) (v0 v1 v2 v3 v4 v5 : Value) (S : List Value) (h : mHp) (Q : Option Value → mHp → Prop) : WP d 265 31 [v0, v1, v2, v3, v4, v5] S h Q = WP d 265 32 [v0, v1, v2, v3, v4, v5] (.int (-1) :: S) h Q := wi_iconst r265 (by decide +kernel : decode rw265.2.1 31 = .ok (.iconst (-1), 1)) (by decide)
theorem w265_32 (d : Nat) (x : Int32) (v0 v1 v2 v3 v4 v5 : Value) (h : mHp) (Q : Option Value → mHp → Prop) : WP d 265 32 [v0, v1, v2, v3, v4, v5] [.int x] h Q = Q (some (.int x)) h := wi_iret (ty := .int) r265 (by decide +kernel : decode rw265.2.1 32 = .ok (.ireturn, 1)) rfl rfl
theorem w266_0 (d : Nat) (x : Int32) (v1 v2 : Value) (S : List Value) (h : mHp) (Q : Option Value → mHp → Prop) : WP d 266 0 [.int x, v1, v2] S h Q = WP d 266 1 [.int x, v1, v2] (.int x :: S) h Q := wi_iload_n r266 (by decide +kernel : decode rw266.2.1 0 = .ok (.iload_n 0, 1)) rfl
theorem w266_1 (d : Nat) (x : Int32) (v0 v1 v2 : Value) (S : List Value) (h : mHp) (Q : Option Value → mHp → Prop) : WP d 266 1 [v0, v1, v2] (.int x :: S) h Q = if x < 0 then WP d 266 9 [v0, v1, v2] S h Q else WP d 266 4 [v0, v1, v2] S h Q := wi_iflt (t := 9) r266 (by decide +kernel : decode rw266.2.1 1 = .ok (.ifCond .lt 8, 3)) rfl rfl
theorem w266_4 (d : Nat) (x : Int32) (v1 v2 : Value) (S : List Value) (h : mHp) (Q : Option Value → mHp → Prop) : WP d 266 4 [.int x, v1, v2] S h Q = WP d 266 5 [.int x, v1, v2] (.int x :: S) h Q := wi_iload_n r266 (by decide +kernel : decode rw266.2.1 4 = .ok (.iload_n 0, 1)) rfl
theorem w266_5 (d : Nat) (x : Int32) (v0 v2 : Value) (S : List Value) (h : mHp) (Q : Option Value → mHp → Prop) : WP d 266 5 [v0, .int x, v2] S h Q = WP d 266 6 [v0, .int x, v2] (.int x :: S) h Q := wi_iload_n r266 (by decide +kernel : decode rw266.2.1 5 = .ok (.iload_n 1, 1)) rfl
theorem w266_6 (d : Nat) (y : Int32) (x : Int32) (v0 v1 v2 : Value) (S : List Value) (h : mHp) (Q : Option Value → mHp → Prop) : WP d 266 6 [v0, v1, v2] (.int y :: .int x :: S) h Q = if x < y then WP d 266 16 [v0, v1, v2] S h Q else WP d 266 9 [v0, v1, v2] S h Q := wi_iclt (t := 16) r266 (by decide +kernel : decode rw266.2.1 6 = .ok (.if_icmp .lt 10, 3)) rfl rfl
theorem w266_9 (d : Nat) (x : Nat) (v0 v1 : Value) (S : List Value) (h : mHp) (Q : Option Value → mHp → Prop) : WP d 266 9 [v0, v1, .ref x] S h Q = WP d 266 10 [v0, v1, .ref x] (.ref x :: S) h Q := wi_aload_n r266 (by decide +kernel : decode rw266.2.1 9 = .ok (.aload_n 2, 1)) rfl
theorem w266_10 (d : Nat) (x : Int32) (v1 v2 : Value) (S : List Value) (h : mHp) (Q : Option Value → mHp → Prop) : WP d 266 10 [.int x, v1, v2] S h Q = WP d 266 11 [.int x, v1, v2] (.int x :: S) h Q := wi_iload_n r266 (by decide +kernel : decode rw266.2.1 10 = .ok (.iload_n 0, 1)) rfl
theorem w266_11 (d : Nat) (x : Int32) (v0 v2 : Value) (S : List Value) (h : mHp) (Q : Option Value → mHp → Prop) : WP d 266 11 [v0, .int x, v2] S h Q = WP d 266 12 [v0, .int x, v2] (.int x :: S) h Q := wi_iload_n r266 (by decide +kernel : decode rw266.2.1 11 = .ok (.iload_n 1, 1)) rfl
theorem w266_16 (d : Nat) (x : Int32) (v1 v2 : Value) (S : List Value) (h : mHp) (Q : Option Value → mHp → Prop) : WP d 266 16 [.int x, v1, v2] S h Q = WP d 266 17 [.int x, v1, v2] (.int x :: S) h Q := wi_iload_n r266 (by decide +kernel : decode rw266.2.1 16 = .ok (.iload_n 0, 1)) rfl
theorem w266_17 (d : Nat) (x : Int32) (v0 v1 v2 : Value) (h : mHp) (Q : Option Value → mHp → Prop) : WP d 266 17 [v0, v1, v2] [.int x] h Q = Q (some (.int x)) h := wi_iret (ty := .int) r266 (by decide +kernel : decode rw266.2.1 17 = .ok (.ireturn, 1)) rfl rfl
theorem w267_0 (d : Nat) (x : Int32) (S : List Value) (h : mHp) (Q : Option Value → mHp → Prop) : WP d 267 0 [.int x] S h Q = WP d 267 1 [.int x] (.int x :: S) h Q := wi_iload_n r267 (by decide +kernel : decode rw267.2.1 0 = .ok (.iload_n 0, 1)) rfl
theorem w267_1 (d : Nat) (x : Int32) (S : List Value) (h : mHp) (Q : Option Value → mHp → Prop) : WP d 267 1 [.int x] S h Q = WP d 267 2 [.int x] (.int x :: S) h Q := wi_iload_n r267 (by decide +kernel : decode rw267.2.1 1 = .ok (.iload_n 0, 1)) rfl
theorem w267_2 (d : Nat) (v0 : Value) (S : List Value) (h : mHp) (Q : Option Value → mHp → Prop) : WP d 267 2 [v0] S h Q = WP d 267 3 [v0] (.int 1 :: S) h Q := wi_iconst r267 (by decide +kernel : decode rw267.2.1 2 = .ok (.iconst 1, 1)) (by decide)
theorem w267_3 (d : Nat) (x : Int32) (v0 : Value) (S : List Value) (h : mHp) (Q : Option Value → mHp → Prop) : WP d 267 3 [v0] (.int 1 :: .int x :: S) h Q = WP d 267 4 [v0] (.int ((Int32.toUInt32 x >>> (Int32.toUInt32 1 &&& Int32.toUInt32 31)).toInt32) :: S) h Q := wi_iushr r267 (by decide +kernel : decode rw267.2.1 3 = .ok (.iushr, 1))
theorem w267_4 (d : Nat) (v0 : Value) (S : List Value) (h : mHp) (Q : Option Value → mHp → Prop) : WP d 267 4 [v0] S h Q = WP d 267 7 [v0] (.int 1431655765 :: S) h Q := wi_ldcw r267 (by decide +kernel : decode rw267.2.1 4 = .ok (.ldc_w 265, 3)) (a := 18) (b := 265) (by decide +kernel)
theorem w267_7 (d : Nat) (x : Int32) (v0 : Value) (S : List Value) (h : mHp) (Q : Option Value → mHp → Prop) : WP d 267 7 [v0] (.int 1431655765 :: .int x :: S) h Q = WP d 267 8 [v0] (.int (x &&& 1431655765) :: S) h Q := wi_iand r267 (by decide +kernel : decode rw267.2.1 7 = .ok (.iand, 1))
theorem w267_8 (d : Nat) (y : Int32) (x : Int32) (v0 : Value) (S : List Value) (h : mHp) (Q : Option Value → mHp → Prop) : WP d 267 8 [v0] (.int y :: .int x :: S) h Q = WP d 267 9 [v0] (.int (x - y) :: S) h Q := wi_isub r267 (by decide +kernel : decode rw267.2.1 8 = .ok (.isub, 1))
theorem w267_9 (d : Nat) (x : Int32) (v0 : Value) (S : List Value) (h : mHp) (Q : Option Value → mHp → Prop) : WP d 267 9 [v0] (.int x :: S) h Q = WP d 267 10 [.int x] S h Q := wi_istore_n r267 (by decide +kernel : decode rw267.2.1 9 = .ok (.istore_n 0, 1)) rfl
theorem w267_10 (d : Nat) (x : Int32) (S : List Value) (h : mHp) (Q : Option Value → mHp → Prop) : WP d 267 10 [.int x] S h Q = WP d 267 11 [.int x] (.int x :: S) h Q := wi_iload_n r267 (by decide +kernel : decode rw267.2.1 10 = .ok (.iload_n 0, 1)) rfl
theorem w267_11 (d : Nat) (v0 : Value) (S : List Value) (h : mHp) (Q : Option Value → mHp → Prop) : WP d 267 11 [v0] S h Q = WP d 267 14 [v0] (.int 858993459 :: S) h Q := wi_ldcw r267 (by decide +kernel : decode rw267.2.1 11 = .ok (.ldc_w 266, 3)) (a := 18) (b := 266) (by decide +kernel)
theorem w267_14 (d : Nat) (x : Int32) (v0 : Value) (S : List Value) (h : mHp) (Q : Option Value → mHp → Prop) : WP d 267 14 [v0] (.int 858993459 :: .int x :: S) h Q = WP d 267 15 [v0] (.int (x &&& 858993459) :: S) h Q := wi_iand r267 (by decide +kernel : decode rw267.2.1 14 = .ok (.iand, 1))
theorem w267_15 (d : Nat) (x : Int32) (S : List Value) (h : mHp) (Q : Option Value → mHp → Prop) : WP d 267 15 [.int x] S h Q = WP d 267 16 [.int x] (.int x :: S) h Q := wi_iload_n r267 (by decide +kernel : decode rw267.2.1 15 = .ok (.iload_n 0, 1)) rfl
theorem w267_16 (d : Nat) (v0 : Value) (S : List Value) (h : mHp) (Q : Option Value → mHp → Prop) : WP d 267 16 [v0] S h Q = WP d 267 17 [v0] (.int 2 :: S) h Q := wi_iconst r267 (by decide +kernel : decode rw267.2.1 16 = .ok (.iconst 2, 1)) (by decide)
theorem w267_17 (d : Nat) (x : Int32) (v0 : Value) (S : List Value) (h : mHp) (Q : Option Value → mHp → Prop) : WP d 267 17 [v0] (.int 2 :: .int x :: S) h Q = WP d 267 18 [v0] (.int ((Int32.toUInt32 x >>> (Int32.toUInt32 2 &&& Int32.toUInt32 31)).toInt32) :: S) h Q := wi_iushr r267 (by decide +kernel : decode rw267.2.1 17 = .ok (.iushr, 1))
theorem w267_18 (d : Nat) (v0 : Value) (S : List Value) (h : mHp) (Q : Option Value → mHp → Prop) : WP d 267 18 [v0] S h Q = WP d 267 21 [v0] (.int 858993459 :: S) h Q := wi_ldcw r267 (by decide +kernel : decode rw267.2.1 18 = .ok (.ldc_w 266, 3)) (a := 18) (b := 266) (by decide +kernel)
theorem w267_21 (d : Nat) (x : Int32) (v0 : Value) (S : List Value) (h : mHp) (Q : Option Value → mHp → Prop) : WP d 267 21 [v0] (.int 858993459 :: .int x :: S) h Q = WP d 267 22 [v0] (.int (x &&& 858993459) :: S) h Q := wi_iand r267 (by decide +kernel : decode rw267.2.1 21 = .ok (.iand, 1))
theorem w267_22 (d : Nat) (y : Int32) (x : Int32) (v0 : Value) (S : List Value) (h : mHp) (Q : Option Value → mHp → Prop) : WP d 267 22 [v0] (.int y :: .int x :: S) h Q = WP d 267 23 [v0] (.int (x + y) :: S) h Q := wi_iadd r267 (by decide +kernel : decode rw267.2.1 22 = .ok (.iadd, 1))
theorem w267_23 (d : Nat) (x : Int32) (v0 : Value) (S : List Value) (h : mHp) (Q : Option Value → mHp → Prop) : WP d 267 23 [v0] (.int x :: S) h Q = WP d 267 24 [.int x] S h Q := wi_istore_n r267 (by decide +kernel : decode rw267.2.1 23 = .ok (.istore_n 0, 1)) rfl
theorem w267_24 (d : Nat) (x : Int32) (S : List Value) (h : mHp) (Q : Option Value → mHp → Prop) : WP d 267 24 [.int x] S h Q = WP d 267 25 [.int x] (.int x :: S) h Q := wi_iload_n r267 (by decide +kernel : decode rw267.2.1 24 = .ok (.iload_n 0, 1)) rfl
theorem w267_25 (d : Nat) (x : Int32) (S : List Value) (h : mHp) (Q : Option Value → mHp → Prop) : WP d 267 25 [.int x] S h Q = WP d 267 26 [.int x] (.int x :: S) h Q := wi_iload_n r267 (by decide +kernel : decode rw267.2.1 25 = .ok (.iload_n 0, 1)) rfl
theorem w267_26 (d : Nat) (v0 : Value) (S : List Value) (h : mHp) (Q : Option Value → mHp → Prop) : WP d 267 26 [v0] S h Q = WP d 267 27 [v0] (.int 4 :: S) h Q := wi_iconst r267 (by decide +kernel : decode rw267.2.1 26 = .ok (.iconst 4, 1)) (by decide)
theorem w267_27 (d : Nat) (x : Int32) (v0 : Value) (S : List Value) (h : mHp) (Q : Option Value → mHp → Prop) : WP d 267 27 [v0] (.int 4 :: .int x :: S) h Q = WP d 267 28 [v0] (.int ((Int32.toUInt32 x >>> (Int32.toUInt32 4 &&& Int32.toUInt32 31)).toInt32) :: S) h Q := wi_iushr r267 (by decide +kernel : decode rw267.2.1 27 = .ok (.iushr, 1))
theorem w267_28 (d : Nat) (y : Int32) (x : Int32) (v0 : Value) (S : List Value) (h : mHp) (Q : Option Value → mHp → Prop) : WP d 267 28 [v0] (.int y :: .int x :: S) h Q = WP d 267 29 [v0] (.int (x + y) :: S) h Q := wi_iadd r267 (by decide +kernel : decode rw267.2.1 28 = .ok (.iadd, 1))
theorem w267_29 (d : Nat) (v0 : Value) (S : List Value) (h : mHp) (Q : Option Value → mHp → Prop) : WP d 267 29 [v0] S h Q = WP d 267 32 [v0] (.int 252645135 :: S) h Q := wi_ldcw r267 (by decide +kernel : decode rw267.2.1 29 = .ok (.ldc_w 267, 3)) (a := 18) (b := 267) (by decide +kernel)
theorem w267_32 (d : Nat) (x : Int32) (v0 : Value) (S : List Value) (h : mHp) (Q : Option Value → mHp → Prop) : WP d 267 32 [v0] (.int 252645135 :: .int x :: S) h Q = WP d 267 33 [v0] (.int (x &&& 252645135) :: S) h Q := wi_iand r267 (by decide +kernel : decode rw267.2.1 32 = .ok (.iand, 1))
theorem w267_33 (d : Nat) (x : Int32) (v0 : Value) (S : List Value) (h : mHp) (Q : Option Value → mHp → Prop) : WP d 267 33 [v0] (.int x :: S) h Q = WP d 267 34 [.int x] S h Q := wi_istore_n r267 (by decide +kernel : decode rw267.2.1 33 = .ok (.istore_n 0, 1)) rfl
theorem w267_34 (d : Nat) (x : Int32) (S : List Value) (h : mHp) (Q : Option Value → mHp → Prop) : WP d 267 34 [.int x] S h Q = WP d 267 35 [.int x] (.int x :: S) h Q := wi_iload_n r267 (by decide +kernel : decode rw267.2.1 34 = .ok (.iload_n 0, 1)) rfl
theorem w267_35 (d : Nat) (x : Int32) (S : List Value) (h : mHp) (Q : Option Value → mHp → Prop) : WP d 267 35 [.int x] S h Q = WP d 267 36 [.int x] (.int x :: S) h Q := wi_iload_n r267 (by decide +kernel : decode rw267.2.1 35 = .ok (.iload_n 0, 1)) rfl
theorem w267_36 (d : Nat) (v0 : Value) (S : List Value) (h : mHp) (Q : Option Value → mHp → Prop) : WP d 267 36 [v0] S h Q = WP d 267 38 [v0] (.int 8 :: S) h Q := wi_bipush r267 (by decide +kernel : decode rw267.2.1 36 = .ok (.bipush 8, 2)) (by decide)
theorem w267_38 (d : Nat) (x : Int32) (v0 : Value) (S : List Value) (h : mHp) (Q : Option Value → mHp → Prop) : WP d 267 38 [v0] (.int 8 :: .int x :: S) h Q = WP d 267 39 [v0] (.int ((Int32.toUInt32 x >>> (Int32.toUInt32 8 &&& Int32.toUInt32 31)).toInt32) :: S) h Q := wi_iushr r267 (by decide +kernel : decode rw267.2.1 38 = .ok (.iushr, 1))
theorem w267_39 (d : Nat) (y : Int32) (x : Int32) (v0 : Value) (S : List Value) (h : mHp) (Q : Option Value → mHp → Prop) : WP d 267 39 [v0] (.int y :: .int x :: S) h Q = WP d 267 40 [v0] (.int (x + y) :: S) h Q := wi_iadd r267 (by decide +kernel : decode rw267.2.1 39 = .ok (.iadd, 1))
theorem w267_40 (d : Nat) (x : Int32) (v0 : Value) (S : List Value) (h : mHp) (Q : Option Value → mHp → Prop) : WP d 267 40 [v0] (.int x :: S) h Q = WP d 267 41 [.int x] S h Q := wi_istore_n r267 (by decide +kernel : decode rw267.2.1 40 = .ok (.istore_n 0, 1)) rfl
theorem w267_41 (d : Nat) (x : Int32) (S : List Value) (h : mHp) (Q : Option Value → mHp → Prop) : WP d 267 41 [.int x] S h Q = WP d 267 42 [.int x] (.int x :: S) h Q := wi_iload_n r267 (by decide +kernel : decode rw267.2.1 41 = .ok (.iload_n 0, 1)) rfl
theorem w267_42 (d : Nat) (x : Int32) (S : List Value) (h : mHp) (Q : Option Value → mHp → Prop) : WP d 267 42 [.int x] S h Q = WP d 267 43 [.int x] (.int x :: S) h Q := wi_iload_n r267 (by decide +kernel : decode rw267.2.1 42 = .ok (.iload_n 0, 1)) rfl
theorem w267_43 (d : Nat) (v0 : Value) (S : List Value) (h : mHp) (Q : Option Value → mHp → Prop) : WP d 267 43 [v0] S h Q = WP d 267 45 [v0] (.int 16 :: S) h Q := wi_bipush r267 (by decide +kernel : decode rw267.2.1 43 = .ok (.bipush 16, 2)) (by decide)
theorem w267_45 (d : Nat) (x : Int32) (v0 : Value) (S : List Value) (h : mHp) (Q : Option Value → mHp → Prop) : WP d 267 45 [v0] (.int 16 :: .int x :: S) h Q = WP d 267 46 [v0] (.int ((Int32.toUInt32 x >>> (Int32.toUInt32 16 &&& Int32.toUInt32 31)).toInt32) :: S) h Q := wi_iushr r267 (by decide +kernel : decode rw267.2.1 45 = .ok (.iushr, 1))
theorem w267_46 (d : Nat) (y : Int32) (x : Int32) (v0 : Value) (S : List Value) (h : mHp) (Q : Option Value → mHp → Prop) : WP d 267 46 [v0] (.int y :: .int x :: S) h Q = WP d 267 47 [v0] (.int (x + y) :: S) h Q := wi_iadd r267 (by decide +kernel : decode rw267.2.1 46 = .ok (.iadd, 1))
theorem w267_47 (d : Nat) (x : Int32) (v0 : Value) (S : List Value) (h : mHp) (Q : Option Value → mHp → Prop) : WP d 267 47 [v0] (.int x :: S) h Q = WP d 267 48 [.int x] S h Q := wi_istore_n r267 (by decide +kernel : decode rw267.2.1 47 = .ok (.istore_n 0, 1)) rfl
theorem w267_48 (d : Nat) (x : Int32) (S : List Value) (h : mHp) (Q : Option Value → mHp → Prop) : WP d 267 48 [.int x] S h Q = WP d 267 49 [.int x] (.int x :: S) h Q := wi_iload_n r267 (by decide +kernel : decode rw267.2.1 48 = .ok (.iload_n 0, 1)) rfl
theorem w267_49 (d : Nat) (v0 : Value) (S : List Value) (h : mHp) (Q : Option Value → mHp → Prop) : WP d 267 49 [v0] S h Q = WP d 267 51 [v0] (.int 63 :: S) h Q := wi_bipush r267 (by decide +kernel : decode rw267.2.1 49 = .ok (.bipush 63, 2)) (by decide)
theorem w267_51 (d : Nat) (x : Int32) (v0 : Value) (S : List Value) (h : mHp) (Q : Option Value → mHp → Prop) : WP d 267 51 [v0] (.int 63 :: .int x :: S) h Q = WP d 267 52 [v0] (.int (x &&& 63) :: S) h Q := wi_iand r267 (by decide +kernel : decode rw267.2.1 51 = .ok (.iand, 1))
theorem w267_52 (d : Nat) (x : Int32) (v0 : Value) (h : mHp) (Q : Option Value → mHp → Prop) : WP d 267 52 [v0] [.int x] h Q = Q (some (.int x)) h := wi_iret (ty := .int) r267 (by decide +kernel : decode rw267.2.1 52 = .ok (.ireturn, 1)) rfl rfl
