/-! The cells behind the two constructors (printed), and a general row for each instruction. -/
def mLyt : List (Nat × Nat) := [(0, 11), (0, 9), (2, 2000), (0, 7), (0, 10), (4, 20), (1, 401), (4, 401), (1, 401), (0, 4), (4, 5), (1, 5), (1, 5), (4, 6), (1, 6), (1, 6), (1, 6), (1, 6), (0, 5), (1, 400), (1, 400), (0, 5), (1, 400), (1, 400), (0, 5), (1, 400), (1, 400), (0, 5), (1, 400), (1, 400), (0, 1), (1, 9), (1, 16), (1, 5), (0, 4), (4, 5), (1, 5), (1, 5), (4, 6), (1, 6), (1, 6), (1, 6), (1, 6), (0, 5), (1, 400), (1, 400), (0, 5), (1, 400), (1, 400), (0, 5), (1, 400), (1, 400), (0, 5), (1, 400), (1, 400), (0, 0), (1, 20), (1, 20), (3, 20), (0, 3), (5, 40), (0, 8), (1, 5), (0, 8), (1, 5), (0, 8), (1, 5), (0, 8), (1, 5), (0, 8), (1, 5), (0, 8), (1, 5), (0, 8), (1, 5), (0, 8), (1, 5), (0, 8), (1, 5), (0, 8), (1, 5), (0, 8), (1, 5), (0, 8), (1, 5), (0, 8), (1, 5), (0, 8), (1, 5), (0, 8), (1, 5), (0, 8), (1, 5), (0, 8), (1, 5), (0, 8), (1, 5), (0, 8), (1, 5), (0, 8), (1, 5), (0, 8), (1, 5), (0, 8), (1, 5), (0, 8), (1, 5), (0, 8), (1, 5), (0, 8), (1, 5), (0, 8), (1, 5), (0, 8), (1, 5), (0, 8), (1, 5), (0, 8), (1, 5), (0, 8), (1, 5), (0, 8), (1, 5), (0, 8), (1, 5), (0, 8), (1, 5), (0, 8), (1, 5), (0, 8), (1, 5), (0, 8), (1, 5), (0, 8), (1, 5), (0, 8), (1, 5), (0, 8), (1, 5), (0, 8), (1, 5), (0, 2), (5, 5), (0, 8), (1, 5), (0, 8), (1, 5), (0, 8), (1, 5), (0, 8), (1, 5), (0, 8), (1, 5), (0, 6), (1, 5), (1, 5), (0, 8), (1, 5), (0, 8), (1, 5), (0, 8), (1, 5), (5, 3), (1, 301), (1, 6), (1, 25), (1, 25), (0, 8), (1, 5), (0, 8), (1, 5), (0, 8), (1, 5), (0, 12), (2, 2000), (2, 2000), (1, 403), (1, 403), (1, 403), (4, 403), (4, 20), (4, 11), (1, 11), (1, 2), (1, 10), (1, 10), (1, 2), (1, 12), (1, 12), (1, 12), (1, 12), (1, 2), (1, 2), (1, 8), (1, 8), (3, 260), (1, 260), (1, 260), (1, 260), (1, 260), (1, 840), (1, 840), (1, 64), (1, 9), (1, 400), (1, 8), (1, 8), (1, 5), (1, 320), (1, 1505), (1, 6), (1, 32), (1, 5), (1, 23640), (1, 2955), (1, 20), (1, 20), (3, 20), (1, 525), (3, 3), (1, 24)]
def mLy (L : Nat) : List (Nat × Nat) := mRo L ++ mLyt
def lyK (a : Nat) : Nat := if a < 7 then 9 else (mLyt.getD (a - 7) (9, 0)).1
def lyN (a : Nat) : Nat := (mLyt.getD (a - 7) (9, 0)).2
def mRl : List (Nat × Nat × Nat) := [(7, 0, 8), (7, 1, 10), (7, 2, 37), (7, 3, 62), (7, 4, 66), (7, 5, 148), (7, 6, 160), (7, 7, 163), (7, 8, 165), (7, 9, 167), (7, 10, 169), (7, 11, 170), (7, 12, 171), (7, 13, 172), (7, 14, 173), (8, 0, 9), (10, 0, 11), (11, 0, 12), (11, 1, 13), (11, 2, 14), (11, 3, 15), (16, 0, 17), (16, 1, 18), (16, 2, 19), (16, 3, 20), (16, 4, 21), (16, 5, 22), (16, 6, 23), (16, 7, 24), (16, 8, 25), (16, 9, 28), (16, 10, 31), (16, 11, 34), (25, 0, 26), (25, 1, 27), (28, 0, 29), (28, 1, 30), (31, 0, 32), (31, 1, 33), (34, 0, 35), (34, 1, 36), (37, 0, 38), (37, 1, 39), (37, 2, 40), (41, 0, 42), (41, 1, 43), (41, 2, 44), (41, 3, 45), (41, 4, 46), (41, 5, 47), (41, 6, 48), (41, 7, 49), (41, 8, 50), (41, 9, 53), (41, 10, 56), (41, 11, 59), (50, 0, 51), (50, 1, 52), (53, 0, 54), (53, 1, 55), (56, 0, 57), (56, 1, 58), (59, 0, 60), (59, 1, 61), (62, 0, 63), (62, 1, 64), (62, 2, 65), (66, 0, 67), (67, 0, 68), (67, 1, 70), (67, 2, 72), (67, 3, 74), (67, 4, 76), (67, 5, 78), (67, 6, 80), (67, 7, 82), (67, 8, 84), (67, 9, 86), (67, 10, 88), (67, 11, 90), (67, 12, 92), (67, 13, 94), (67, 14, 96), (67, 15, 98), (67, 16, 100), (67, 17, 102), (67, 18, 104), (67, 19, 106), (67, 20, 108), (67, 21, 110), (67, 22, 112), (67, 23, 114), (67, 24, 116), (67, 25, 118), (67, 26, 120), (67, 27, 122), (67, 28, 124), (67, 29, 126), (67, 30, 128), (67, 31, 130), (67, 32, 132), (67, 33, 134), (67, 34, 136), (67, 35, 138), (67, 36, 140), (67, 37, 142), (67, 38, 144), (67, 39, 146), (68, 0, 69), (70, 0, 71), (72, 0, 73), (74, 0, 75), (76, 0, 77), (78, 0, 79), (80, 0, 81), (82, 0, 83), (84, 0, 85), (86, 0, 87), (88, 0, 89), (90, 0, 91), (92, 0, 93), (94, 0, 95), (96, 0, 97), (98, 0, 99), (100, 0, 101), (102, 0, 103), (104, 0, 105), (106, 0, 107), (108, 0, 109), (110, 0, 111), (112, 0, 113), (114, 0, 115), (116, 0, 117), (118, 0, 119), (120, 0, 121), (122, 0, 123), (124, 0, 125), (126, 0, 127), (128, 0, 129), (130, 0, 131), (132, 0, 133), (134, 0, 135), (136, 0, 137), (138, 0, 139), (140, 0, 141), (142, 0, 143), (144, 0, 145), (146, 0, 147), (148, 0, 149), (149, 0, 150), (149, 1, 152), (149, 2, 154), (149, 3, 156), (149, 4, 158), (150, 0, 151), (152, 0, 153), (154, 0, 155), (156, 0, 157), (158, 0, 159), (160, 0, 161), (160, 1, 162), (163, 0, 164), (165, 0, 166), (167, 0, 168), (169, 0, 174), (169, 1, 176), (169, 2, 178), (174, 0, 175), (176, 0, 177), (178, 0, 179), (180, 1, 181), (180, 3, 182), (180, 5, 183), (180, 6, 184), (180, 7, 185), (180, 8, 186), (180, 9, 187), (180, 21, 188), (180, 22, 189), (180, 23, 190), (180, 24, 191), (180, 25, 192), (180, 26, 193), (180, 27, 194), (180, 28, 195), (180, 29, 196), (180, 30, 197), (180, 31, 198), (180, 32, 199), (180, 33, 200), (180, 34, 201), (180, 36, 202), (180, 37, 203), (180, 38, 204), (180, 39, 205), (180, 40, 206), (180, 42, 207), (180, 43, 208), (180, 44, 209), (180, 46, 210), (180, 47, 211), (180, 49, 212), (180, 50, 213), (180, 53, 214), (180, 55, 215), (180, 56, 216), (180, 57, 217), (180, 58, 218), (180, 59, 219), (180, 60, 220), (180, 61, 221), (180, 63, 222), (180, 64, 223), (180, 65, 224), (180, 66, 225), (180, 67, 226), (180, 68, 227)]
def mRc (a k : Nat) : Option Nat := (mRl.find? (fun e => e.1 == a && e.2.1 == k)).map (fun e => e.2.2)
/-- the references: three of them change: the house of the course, of the glass, of the reader -/
def mRf (rc rx rr : Nat) : Nat → Nat → Option Nat := fun a k => if a = 37 ∧ k = 3 then some rc else if a = 7 ∧ k = 15 then some rx else if a = 10 ∧ k = 1 then some rr else mRc a k
def mStL : List Nat := [68, 70, 72, 74, 76, 78, 80, 82, 84, 86, 88, 90, 92, 94, 96, 98, 100, 102, 104, 106, 108, 110, 112, 114, 116, 118, 120, 122, 124, 126, 128, 130, 132, 134, 136, 138, 140, 142, 144, 146, 150, 152, 154, 156, 158, 163, 165, 167, 174, 176, 178]
def mSt (s : Nat) : Prop := s ∈ mStL
def mHo (o : Nat) : Prop := o = 16 ∨ o = 41
def mLaL : List Nat := [25, 28, 31, 34, 50, 53, 56, 59]
def mLa (l : Nat) : Prop := l ∈ mLaL
abbrev mHh (xL : Nat) (I : Nat → Nat → Int32) (J : Nat → Nat → Int64) (R : Nat → Nat → Option Nat) : mHp := (mLy xL, I, J, R)
theorem ly_at {xL a : Nat} (h : lyK a ≠ 9) : (mLy xL)[a]? = some (lyK a, lyN a) := by
  have ha : ¬ a < 7 := fun z => h (if_pos z)
  rw [lyK, if_neg ha] at h ⊢
  rw [lyN]
  have e7 : (mRo xL).length = 7 := rfl
  rw [mLy, List.getElem?_append_right (by omega), e7]
  cases hx : mLyt[a - 7]? with
  | none => rw [List.getD_eq_getElem?_getD, hx] at h; exact absurd rfl h
  | some x => rw [List.getD_eq_getElem?_getD, hx]; rfl
theorem ly_k {xL a k : Nat} (h : lyK a = k) (hk : k ≠ 9) : (mLy xL)[a]? = some (k, lyN a) := by rw [← h]; exact ly_at (by rw [h]; exact hk)
theorem st_all : mStL.all (fun s => decide (lyK s = 0) && (decide (lyN s = 8) && (decide (lyK (s + 1) = 1) && (decide (lyN (s + 1) = 5) && (decide (mRc s 0 = some (s + 1)) && decide (¬ s = 37 ∧ ¬ s = 7 ∧ ¬ s = 10)))))) = true := by decide +kernel
theorem st_k {s : Nat} (h : mSt s) : lyK s = 0 ∧ lyN s = 8 ∧ lyK (s + 1) = 1 ∧ lyN (s + 1) = 5 ∧ mRc s 0 = some (s + 1) ∧ ¬ s = 37 ∧ ¬ s = 7 ∧ ¬ s = 10 := by
  have h1 := List.all_eq_true.mp st_all s h
  simp only [Bool.and_eq_true, decide_eq_true_eq] at h1
  exact h1
theorem la_all : mLaL.all (fun s => decide (lyK s = 0) && (decide (lyN s = 5) && (decide (lyK (s + 1) = 1) && (decide (lyN (s + 1) = 400) && (decide (lyK (s + 2) = 1) && (decide (lyN (s + 2) = 400) && (decide (mRc s 0 = some (s + 1)) && (decide (mRc s 1 = some (s + 2)) && decide (¬ s = 37 ∧ ¬ s = 7 ∧ ¬ s = 10))))))))) = true := by decide +kernel
theorem la_k {s : Nat} (h : mLa s) : lyK s = 0 ∧ lyN s = 5 ∧ lyK (s + 1) = 1 ∧ lyN (s + 1) = 400 ∧ lyK (s + 2) = 1 ∧ lyN (s + 2) = 400 ∧ mRc s 0 = some (s + 1) ∧ mRc s 1 = some (s + 2) ∧ ¬ s = 37 ∧ ¬ s = 7 ∧ ¬ s = 10 := by
  have h1 := List.all_eq_true.mp la_all s h
  simp only [Bool.and_eq_true, decide_eq_true_eq] at h1
  exact h1
theorem st_r {rc rx rr s : Nat} (h : mSt s) : mRf rc rx rr s 0 = some (s + 1) := by
  obtain ⟨-, -, -, -, h5, h6, h7, h8⟩ := st_k h
  rw [mRf, if_neg (fun z => h6 z.1), if_neg (fun z => h7 z.1), if_neg (fun z => h8 z.1)]
  exact h5
theorem la_r {rc rx rr s : Nat} (h : mLa s) : mRf rc rx rr s 0 = some (s + 1) ∧ mRf rc rx rr s 1 = some (s + 2) := by
  obtain ⟨-, -, -, -, -, -, h5, h5', h6, h7, h8⟩ := la_k h
  refine ⟨?_, ?_⟩
  · rw [mRf, if_neg (fun z => h6 z.1), if_neg (fun z => h7 z.1), if_neg (fun z => h8 z.1)]
    exact h5
  · rw [mRf, if_neg (fun z => h6 z.1), if_neg (fun z => h7 z.1), if_neg (fun z => h8 z.1)]
    exact h5'
section WG
variable {d y pc : Nat} {L S : List Value} {h : mHp} {Q : Option Value → mHp → Prop} {r : mRow}
theorem wg_const {i : Instr} {len : Nat} {v : Value} (hr : mRows[y]? = some r) (hd : decode r.2.1 pc = .ok (i, len)) (h1 : mRet i len r.2.2.2.1 S = none) (h2 : mA i len r.2.2.2.2.1 pc L S = some (pc + len, L, v :: S)) : WP d y pc L S h Q = WP d y (pc + len) L (v :: S) h Q := wp_nrm hr hd h1 (by rw [mNrm, h2])
theorem wg_B {i : Instr} {len pc' : Nat} {L' S' : List Value} (hr : mRows[y]? = some r) (hd : decode r.2.1 pc = .ok (i, len)) (h1 : mRet i len r.2.2.2.1 S = none) (h0 : mA i len r.2.2.2.2.1 pc L S = none) (h2 : mB i len pc L S = some (pc', L', S')) : WP d y pc L S h Q = WP d y pc' L' S' h Q := wp_nrm hr hd h1 (by rw [mNrm, h0]; dsimp only; rw [h2])
theorem wg_C {i : Instr} {len pc' : Nat} {L' S' : List Value} (hr : mRows[y]? = some r) (hd : decode r.2.1 pc = .ok (i, len)) (h1 : mRet i len r.2.2.2.1 S = none) (h0 : mA i len r.2.2.2.2.1 pc L S = none) (h3 : mB i len pc L S = none) (h2 : mC i len pc L S = some (pc', L', S')) : WP d y pc L S h Q = WP d y pc' L' S' h Q := wp_nrm hr hd h1 (by rw [mNrm, h0]; dsimp only; rw [h3]; dsimp only; rw [h2])
theorem wg_J {i : Instr} {len pc' : Nat} {L' S' : List Value} (hr : mRows[y]? = some r) (hd : decode r.2.1 pc = .ok (i, len)) (h1 : mRet i len r.2.2.2.1 S = none) (h0 : mA i len r.2.2.2.2.1 pc L S = none) (h3 : mB i len pc L S = none) (h4 : mC i len pc L S = none) (h2 : mJ i len pc L S = some (pc', L', S')) : WP d y pc L S h Q = WP d y pc' L' S' h Q := wp_nrm hr hd h1 (by rw [mNrm, h0]; dsimp only; rw [h3]; dsimp only; rw [h4]; dsimp only; rw [h2])
theorem wg_G {i : Instr} {len pc' : Nat} {S' : List Value} (hr : mRows[y]? = some r) (hd : decode r.2.1 pc = .ok (i, len)) (h1 : mRet i len r.2.2.2.1 S = none) (h0 : mA i len r.2.2.2.2.1 pc L S = none) (h3 : mB i len pc L S = none) (h4 : mC i len pc L S = none) (h5 : mJ i len pc L S = none) (h2 : mG i len r.2.2.2.2.1 pc S h = some (pc', S', h)) : WP d y pc L S h Q = WP d y pc' L S' h Q := wp_nrm hr hd h1 (by rw [mNrm, h0]; dsimp only; rw [h3]; dsimp only; rw [h4]; dsimp only; rw [h5]; dsimp only; rw [h2])
theorem wg_W {i : Instr} {len pc' : Nat} {S' : List Value} {h' : mHp} (hr : mRows[y]? = some r) (hd : decode r.2.1 pc = .ok (i, len)) (h1 : mRet i len r.2.2.2.1 S = none) (h0 : mA i len r.2.2.2.2.1 pc L S = none) (h3 : mB i len pc L S = none) (h4 : mC i len pc L S = none) (h5 : mJ i len pc L S = none) (h6 : mG i len r.2.2.2.2.1 pc S h = none) (h2 : mW i len r.2.2.2.2.1 pc (r.1.name == "<init>") S h = some (pc', S', h')) : WP d y pc L S h Q = WP d y pc' L S' h' Q := wp_nrm hr hd h1 (by rw [mNrm, h0]; dsimp only; rw [h3]; dsimp only; rw [h4]; dsimp only; rw [h5]; dsimp only; rw [h6]; dsimp only; rw [h2])
end WG
section WI
variable {d y pc : Nat} {L S : List Value} {h : mHp} {Q : Option Value → mHp → Prop} {r : mRow} {xL : Nat} {I : Nat → Nat → Int32} {J : Nat → Nat → Int64} {R : Nat → Nat → Option Nat}
theorem wi_iconst {n : Int} {v : Int32} (hr : mRows[y]? = some r) (hd : decode r.2.1 pc = .ok (.iconst n, 1)) (hv : Int32.ofInt n = v) : WP d y pc L S h Q = WP d y (pc + 1) L (.int v :: S) h Q := by subst hv; exact wg_const hr hd rfl rfl
theorem wi_bipush {n : Int} {v : Int32} (hr : mRows[y]? = some r) (hd : decode r.2.1 pc = .ok (.bipush n, 2)) (hv : (Int8.ofInt n).toInt32 = v) : WP d y pc L S h Q = WP d y (pc + 2) L (.int v :: S) h Q := by subst hv; exact wg_const hr hd rfl rfl
theorem wi_sipush {n : Int} {v : Int32} (hr : mRows[y]? = some r) (hd : decode r.2.1 pc = .ok (.sipush n, 3)) (hv : (Int16.ofInt n).toInt32 = v) : WP d y pc L S h Q = WP d y (pc + 3) L (.int v :: S) h Q := by subst hv; exact wg_const hr hd rfl rfl
theorem wi_lconst {n : Fin 2} {v : Int64} (hr : mRows[y]? = some r) (hd : decode r.2.1 pc = .ok (.lconst n, 1)) (hv : Int64.ofNat (n : Nat) = v) : WP d y pc L S h Q = WP d y (pc + 1) L (.long v :: S) h Q := by subst hv; exact wg_const hr hd rfl rfl
theorem wi_ldc {ix a b : Nat} {v : Int32} (hr : mRows[y]? = some r) (hd : decode r.2.1 pc = .ok (.ldc ix, 2)) (hk : mKiOf r.2.2.2.2.1 ix = some (a, b, v)) : WP d y pc L S h Q = WP d y (pc + 2) L (.int v :: S) h Q := wg_const hr hd rfl (by simp only [mA, hk])
theorem wi_ldcs {ix a b k : Nat} (hr : mRows[y]? = some r) (hd : decode r.2.1 pc = .ok (.ldc ix, 2)) (hn : mKiOf r.2.2.2.2.1 ix = none) (hk : mKsOf r.2.2.2.2.1 ix = some (a, b, k)) : WP d y pc L S h Q = WP d y (pc + 2) L (.ref k :: S) h Q := wg_const hr hd rfl (by simp only [mA, hn, hk])
theorem wi_ldcw {ix a b : Nat} {v : Int32} (hr : mRows[y]? = some r) (hd : decode r.2.1 pc = .ok (.ldc_w ix, 3)) (hk : mKiOf r.2.2.2.2.1 ix = some (a, b, v)) : WP d y pc L S h Q = WP d y (pc + 3) L (.int v :: S) h Q := wg_const hr hd rfl (by simp only [mA, hk])
theorem wi_ldc2 {ix a b : Nat} {v : Int64} (hr : mRows[y]? = some r) (hd : decode r.2.1 pc = .ok (.ldc2_w ix, 3)) (hk : mKlOf r.2.2.2.2.1 ix = some (a, b, v)) : WP d y pc L S h Q = WP d y (pc + 3) L (.long v :: S) h Q := wg_const hr hd rfl (by simp only [mA, hk])
theorem wi_iload {k : Nat} {x : Int32} (hr : mRows[y]? = some r) (hd : decode r.2.1 pc = .ok (.iload k, 2)) (hl : L[k]? = some (.int x)) : WP d y pc L S h Q = WP d y (pc + 2) L (.int x :: S) h Q := wg_const hr hd rfl (by simp only [mA, hl])
theorem wi_iload_n {k : Fin 4} {x : Int32} (hr : mRows[y]? = some r) (hd : decode r.2.1 pc = .ok (.iload_n k, 1)) (hl : L[(k : Nat)]? = some (.int x)) : WP d y pc L S h Q = WP d y (pc + 1) L (.int x :: S) h Q := wg_const hr hd rfl (by simp only [mA, hl])
theorem wi_lload {k : Nat} {x : Int64} (hr : mRows[y]? = some r) (hd : decode r.2.1 pc = .ok (.lload k, 2)) (hl : L[k]? = some (.long x)) : WP d y pc L S h Q = WP d y (pc + 2) L (.long x :: S) h Q := wg_const hr hd rfl (by simp only [mA, hl])
theorem wi_lload_n {k : Fin 4} {x : Int64} (hr : mRows[y]? = some r) (hd : decode r.2.1 pc = .ok (.lload_n k, 1)) (hl : L[(k : Nat)]? = some (.long x)) : WP d y pc L S h Q = WP d y (pc + 1) L (.long x :: S) h Q := wg_const hr hd rfl (by simp only [mA, hl])
theorem wi_aload {k : Nat} {x : Nat} (hr : mRows[y]? = some r) (hd : decode r.2.1 pc = .ok (.aload k, 2)) (hl : L[k]? = some (.ref x)) : WP d y pc L S h Q = WP d y (pc + 2) L (.ref x :: S) h Q := wg_const hr hd rfl (by simp only [mA, hl])
theorem wi_aload_n {k : Fin 4} {x : Nat} (hr : mRows[y]? = some r) (hd : decode r.2.1 pc = .ok (.aload_n k, 1)) (hl : L[(k : Nat)]? = some (.ref x)) : WP d y pc L S h Q = WP d y (pc + 1) L (.ref x :: S) h Q := wg_const hr hd rfl (by simp only [mA, hl])
theorem wi_gets {ix : Nat} {v : Value} (hr : mRows[y]? = some r) (hd : decode r.2.1 pc = .ok (.getstatic ix, 3)) (hv : (if r.2.2.2.2.1 = 14 ∧ ix = 38 then some (Value.int 1) else if r.2.2.2.2.1 = 14 ∧ ix = 1053 then some Value.null else none) = some v) : WP d y pc L S h Q = WP d y (pc + 3) L (v :: S) h Q := by
  refine wg_const hr hd rfl ?_
  simp only [mA]
  split at hv
  · rename_i e; rw [if_pos e]; cases hv; rfl
  · rename_i e
    rw [if_neg e]
    split at hv
    · rename_i e2; rw [if_pos e2]; cases hv; rfl
    · cases hv
theorem wi_istore {k : Nat} {x : Int32} {L2 : List Value} (hr : mRows[y]? = some r) (hd : decode r.2.1 pc = .ok (.istore k, 2)) (hl : mSt1 L k (.int x) = some L2) : WP d y pc L (.int x :: S) h Q = WP d y (pc + 2) L2 S h Q := wg_B hr hd rfl rfl (by simp only [mB, hl, Option.map_some])
theorem wi_istore_n {k : Fin 4} {x : Int32} {L2 : List Value} (hr : mRows[y]? = some r) (hd : decode r.2.1 pc = .ok (.istore_n k, 1)) (hl : mSt1 L (k : Nat) (.int x) = some L2) : WP d y pc L (.int x :: S) h Q = WP d y (pc + 1) L2 S h Q := wg_B hr hd rfl rfl (by simp only [mB, hl, Option.map_some])
theorem wi_lstore {k : Nat} {x : Int64} {L2 : List Value} (hr : mRows[y]? = some r) (hd : decode r.2.1 pc = .ok (.lstore k, 2)) (hl : mSt2 L k (.long x) = some L2) : WP d y pc L (.long x :: S) h Q = WP d y (pc + 2) L2 S h Q := wg_B hr hd rfl rfl (by simp only [mB, hl, Option.map_some])
theorem wi_lstore_n {k : Fin 4} {x : Int64} {L2 : List Value} (hr : mRows[y]? = some r) (hd : decode r.2.1 pc = .ok (.lstore_n k, 1)) (hl : mSt2 L (k : Nat) (.long x) = some L2) : WP d y pc L (.long x :: S) h Q = WP d y (pc + 1) L2 S h Q := wg_B hr hd rfl rfl (by simp only [mB, hl, Option.map_some])
theorem wi_astore {k : Nat} {x : Nat} {L2 : List Value} (hr : mRows[y]? = some r) (hd : decode r.2.1 pc = .ok (.astore k, 2)) (hl : mSt1 L k (.ref x) = some L2) : WP d y pc L (.ref x :: S) h Q = WP d y (pc + 2) L2 S h Q := wg_B hr hd rfl rfl (by simp only [mB, hl, Option.map_some])
theorem wi_astore_n {k : Fin 4} {x : Nat} {L2 : List Value} (hr : mRows[y]? = some r) (hd : decode r.2.1 pc = .ok (.astore_n k, 1)) (hl : mSt1 L (k : Nat) (.ref x) = some L2) : WP d y pc L (.ref x :: S) h Q = WP d y (pc + 1) L2 S h Q := wg_B hr hd rfl rfl (by simp only [mB, hl, Option.map_some])
theorem wi_iinc {k : Nat} {n : Int} {x v : Int32} {L2 : List Value} (hr : mRows[y]? = some r) (hd : decode r.2.1 pc = .ok (.iinc k n, 3)) (hk : L[k]? = some (.int x)) (hv : Int32.ofInt n = v) (hl : mSt1 L k (.int (x + v)) = some L2) : WP d y pc L S h Q = WP d y (pc + 3) L2 S h Q := by subst hv; exact wg_B hr hd rfl rfl (by simp only [mB, hk, hl, Option.map_some])
theorem wi_dupi {x : Int32} (hr : mRows[y]? = some r) (hd : decode r.2.1 pc = .ok (.dup, 1))  : WP d y pc L (.int x :: S) h Q = WP d y (pc + 1) L (.int x :: .int x :: S) h Q := wg_B hr hd rfl rfl rfl
theorem wi_dupr {x : Nat} (hr : mRows[y]? = some r) (hd : decode r.2.1 pc = .ok (.dup, 1))  : WP d y pc L (.ref x :: S) h Q = WP d y (pc + 1) L (.ref x :: .ref x :: S) h Q := wg_B hr hd rfl rfl rfl
theorem wi_pop {x : Int32} (hr : mRows[y]? = some r) (hd : decode r.2.1 pc = .ok (.pop, 1))  : WP d y pc L (.int x :: S) h Q = WP d y (pc + 1) L S h Q := wg_B hr hd rfl rfl rfl
theorem wi_dup2 {x : Int32} {a : Nat} (hr : mRows[y]? = some r) (hd : decode r.2.1 pc = .ok (.dup2, 1))  : WP d y pc L (.int x :: .ref a :: S) h Q = WP d y (pc + 1) L (.int x :: .ref a :: .int x :: .ref a :: S) h Q := wg_B hr hd rfl rfl rfl
theorem wi_iadd {x y9 : Int32} (hr : mRows[y]? = some r) (hd : decode r.2.1 pc = .ok (.iadd, 1))  : WP d y pc L (.int y9 :: .int x :: S) h Q = WP d y (pc + 1) L (.int (x + y9) :: S) h Q := wg_C hr hd rfl rfl rfl rfl
theorem wi_isub {x y9 : Int32} (hr : mRows[y]? = some r) (hd : decode r.2.1 pc = .ok (.isub, 1))  : WP d y pc L (.int y9 :: .int x :: S) h Q = WP d y (pc + 1) L (.int (x - y9) :: S) h Q := wg_C hr hd rfl rfl rfl rfl
theorem wi_imul {x y9 : Int32} (hr : mRows[y]? = some r) (hd : decode r.2.1 pc = .ok (.imul, 1))  : WP d y pc L (.int y9 :: .int x :: S) h Q = WP d y (pc + 1) L (.int (x * y9) :: S) h Q := wg_C hr hd rfl rfl rfl rfl
theorem wi_iand {x y9 : Int32} (hr : mRows[y]? = some r) (hd : decode r.2.1 pc = .ok (.iand, 1))  : WP d y pc L (.int y9 :: .int x :: S) h Q = WP d y (pc + 1) L (.int (x &&& y9) :: S) h Q := wg_C hr hd rfl rfl rfl rfl
theorem wi_ior {x y9 : Int32} (hr : mRows[y]? = some r) (hd : decode r.2.1 pc = .ok (.ior, 1))  : WP d y pc L (.int y9 :: .int x :: S) h Q = WP d y (pc + 1) L (.int (x ||| y9) :: S) h Q := wg_C hr hd rfl rfl rfl rfl
theorem wi_ixor {x y9 : Int32} (hr : mRows[y]? = some r) (hd : decode r.2.1 pc = .ok (.ixor, 1))  : WP d y pc L (.int y9 :: .int x :: S) h Q = WP d y (pc + 1) L (.int (x ^^^ y9) :: S) h Q := wg_C hr hd rfl rfl rfl rfl
theorem wi_ishl {x y9 : Int32} (hr : mRows[y]? = some r) (hd : decode r.2.1 pc = .ok (.ishl, 1))  : WP d y pc L (.int y9 :: .int x :: S) h Q = WP d y (pc + 1) L (.int (x <<< (y9 &&& 31)) :: S) h Q := wg_C hr hd rfl rfl rfl rfl
theorem wi_ishr {x y9 : Int32} (hr : mRows[y]? = some r) (hd : decode r.2.1 pc = .ok (.ishr, 1))  : WP d y pc L (.int y9 :: .int x :: S) h Q = WP d y (pc + 1) L (.int (x >>> (y9 &&& 31)) :: S) h Q := wg_C hr hd rfl rfl rfl rfl
theorem wi_iushr {x y9 : Int32} (hr : mRows[y]? = some r) (hd : decode r.2.1 pc = .ok (.iushr, 1))  : WP d y pc L (.int y9 :: .int x :: S) h Q = WP d y (pc + 1) L (.int ((x.toUInt32 >>> (y9.toUInt32 &&& Int32.toUInt32 31)).toInt32) :: S) h Q := wg_C hr hd rfl rfl rfl rfl
theorem wi_idiv {x y9 : Int32} (hr : mRows[y]? = some r) (hd : decode r.2.1 pc = .ok (.idiv, 1)) (hy : ¬ y9 = 0) : WP d y pc L (.int y9 :: .int x :: S) h Q = WP d y (pc + 1) L (.int (x / y9) :: S) h Q := wg_C hr hd rfl rfl rfl (by simp only [mC, if_neg hy])
theorem wi_irem {x y9 : Int32} (hr : mRows[y]? = some r) (hd : decode r.2.1 pc = .ok (.irem, 1)) (hy : ¬ y9 = 0) : WP d y pc L (.int y9 :: .int x :: S) h Q = WP d y (pc + 1) L (.int (x - x / y9 * y9) :: S) h Q := wg_C hr hd rfl rfl rfl (by simp only [mC, if_neg hy])
theorem wi_ineg {x : Int32} (hr : mRows[y]? = some r) (hd : decode r.2.1 pc = .ok (.ineg, 1))  : WP d y pc L (.int x :: S) h Q = WP d y (pc + 1) L (.int (-x) :: S) h Q := wg_C hr hd rfl rfl rfl rfl
theorem wi_ladd {x y9 : Int64} (hr : mRows[y]? = some r) (hd : decode r.2.1 pc = .ok (.ladd, 1))  : WP d y pc L (.long y9 :: .long x :: S) h Q = WP d y (pc + 1) L (.long (x + y9) :: S) h Q := wg_C hr hd rfl rfl rfl rfl
theorem wi_lmul {x y9 : Int64} (hr : mRows[y]? = some r) (hd : decode r.2.1 pc = .ok (.lmul, 1))  : WP d y pc L (.long y9 :: .long x :: S) h Q = WP d y (pc + 1) L (.long (x * y9) :: S) h Q := wg_C hr hd rfl rfl rfl rfl
theorem wi_lcmp {x y9 : Int64} (hr : mRows[y]? = some r) (hd : decode r.2.1 pc = .ok (.lcmp, 1))  : WP d y pc L (.long y9 :: .long x :: S) h Q = WP d y (pc + 1) L (.int (lg_cmp x y9) :: S) h Q := wg_C hr hd rfl rfl rfl rfl
theorem wi_i2l {x : Int32} (hr : mRows[y]? = some r) (hd : decode r.2.1 pc = .ok (.i2l, 1))  : WP d y pc L (.int x :: S) h Q = WP d y (pc + 1) L (.long x.toInt64 :: S) h Q := wg_C hr hd rfl rfl rfl rfl
theorem wi_l2i {x : Int64} (hr : mRows[y]? = some r) (hd : decode r.2.1 pc = .ok (.l2i, 1))  : WP d y pc L (.long x :: S) h Q = WP d y (pc + 1) L (.int x.toInt32 :: S) h Q := wg_C hr hd rfl rfl rfl rfl
theorem wi_i2b {x : Int32} (hr : mRows[y]? = some r) (hd : decode r.2.1 pc = .ok (.i2b, 1))  : WP d y pc L (.int x :: S) h Q = WP d y (pc + 1) L (.int x.toInt8.toInt32 :: S) h Q := wg_C hr hd rfl rfl rfl rfl
theorem wi_i2c {x : Int32} (hr : mRows[y]? = some r) (hd : decode r.2.1 pc = .ok (.i2c, 1))  : WP d y pc L (.int x :: S) h Q = WP d y (pc + 1) L (.int (x.toUInt32 % 65536).toInt32 :: S) h Q := wg_C hr hd rfl rfl rfl rfl
theorem wi_goto {off : Int} {t : Nat} (hr : mRows[y]? = some r) (hd : decode r.2.1 pc = .ok (.goto off, 3)) (ht : mTgt pc off = some t) : WP d y pc L S h Q = WP d y t L S h Q := wg_J hr hd rfl rfl rfl rfl (by simp only [mJ, ht, Option.map_some])
theorem wi_ifeq {x : Int32} {off : Int} {t pc2 : Nat} (hr : mRows[y]? = some r) (hd : decode r.2.1 pc = .ok (.ifCond .eq off, 3)) (ht : mTgt pc off = some t) (hp : pc + 3 = pc2) : WP d y pc L (.int x :: S) h Q = if x = 0 then WP d y t L S h Q else WP d y pc2 L S h Q := by
  subst hp
  rw [wg_J (pc' := if x = 0 then t else pc + 3) (L' := L) (S' := S) hr hd rfl rfl rfl rfl (by simp only [mJ, ht, Option.map_some])]
  by_cases e : x = 0
  · rw [if_pos e, if_pos e]
  · rw [if_neg e, if_neg e]
theorem wi_ifne {x : Int32} {off : Int} {t pc2 : Nat} (hr : mRows[y]? = some r) (hd : decode r.2.1 pc = .ok (.ifCond .ne off, 3)) (ht : mTgt pc off = some t) (hp : pc + 3 = pc2) : WP d y pc L (.int x :: S) h Q = if x = 0 then WP d y pc2 L S h Q else WP d y t L S h Q := by
  subst hp
  rw [wg_J (pc' := if x ≠ 0 then t else pc + 3) (L' := L) (S' := S) hr hd rfl rfl rfl rfl (by simp only [mJ, ht, Option.map_some])]
  by_cases e : x = 0
  · rw [if_neg (fun z => z e), if_pos e]
  · rw [if_pos e, if_neg e]
theorem wi_iflt {x : Int32} {off : Int} {t pc2 : Nat} (hr : mRows[y]? = some r) (hd : decode r.2.1 pc = .ok (.ifCond .lt off, 3)) (ht : mTgt pc off = some t) (hp : pc + 3 = pc2) : WP d y pc L (.int x :: S) h Q = if x < 0 then WP d y t L S h Q else WP d y pc2 L S h Q := by
  subst hp
  rw [wg_J (pc' := if x < 0 then t else pc + 3) (L' := L) (S' := S) hr hd rfl rfl rfl rfl (by simp only [mJ, ht, Option.map_some])]
  by_cases e : x < 0
  · rw [if_pos e, if_pos e]
  · rw [if_neg e, if_neg e]
theorem wi_ifge {x : Int32} {off : Int} {t pc2 : Nat} (hr : mRows[y]? = some r) (hd : decode r.2.1 pc = .ok (.ifCond .ge off, 3)) (ht : mTgt pc off = some t) (hp : pc + 3 = pc2) : WP d y pc L (.int x :: S) h Q = if 0 ≤ x then WP d y t L S h Q else WP d y pc2 L S h Q := by
  subst hp
  rw [wg_J (pc' := if 0 ≤ x then t else pc + 3) (L' := L) (S' := S) hr hd rfl rfl rfl rfl (by simp only [mJ, ht, Option.map_some])]
  by_cases e : 0 ≤ x
  · rw [if_pos e, if_pos e]
  · rw [if_neg e, if_neg e]
theorem wi_ifgt {x : Int32} {off : Int} {t pc2 : Nat} (hr : mRows[y]? = some r) (hd : decode r.2.1 pc = .ok (.ifCond .gt off, 3)) (ht : mTgt pc off = some t) (hp : pc + 3 = pc2) : WP d y pc L (.int x :: S) h Q = if 0 < x then WP d y t L S h Q else WP d y pc2 L S h Q := by
  subst hp
  rw [wg_J (pc' := if 0 < x then t else pc + 3) (L' := L) (S' := S) hr hd rfl rfl rfl rfl (by simp only [mJ, ht, Option.map_some])]
  by_cases e : 0 < x
  · rw [if_pos e, if_pos e]
  · rw [if_neg e, if_neg e]
theorem wi_ifle {x : Int32} {off : Int} {t pc2 : Nat} (hr : mRows[y]? = some r) (hd : decode r.2.1 pc = .ok (.ifCond .le off, 3)) (ht : mTgt pc off = some t) (hp : pc + 3 = pc2) : WP d y pc L (.int x :: S) h Q = if x ≤ 0 then WP d y t L S h Q else WP d y pc2 L S h Q := by
  subst hp
  rw [wg_J (pc' := if x ≤ 0 then t else pc + 3) (L' := L) (S' := S) hr hd rfl rfl rfl rfl (by simp only [mJ, ht, Option.map_some])]
  by_cases e : x ≤ 0
  · rw [if_pos e, if_pos e]
  · rw [if_neg e, if_neg e]
theorem wi_iceq {x y9 : Int32} {off : Int} {t pc2 : Nat} (hr : mRows[y]? = some r) (hd : decode r.2.1 pc = .ok (.if_icmp .eq off, 3)) (ht : mTgt pc off = some t) (hp : pc + 3 = pc2) : WP d y pc L (.int y9 :: .int x :: S) h Q = if x = y9 then WP d y t L S h Q else WP d y pc2 L S h Q := by
  subst hp
  rw [wg_J (pc' := if x = y9 then t else pc + 3) (L' := L) (S' := S) hr hd rfl rfl rfl rfl (by simp only [mJ, ht, Option.map_some])]
  by_cases e : x = y9
  · rw [if_pos e, if_pos e]
  · rw [if_neg e, if_neg e]
theorem wi_icne {x y9 : Int32} {off : Int} {t pc2 : Nat} (hr : mRows[y]? = some r) (hd : decode r.2.1 pc = .ok (.if_icmp .ne off, 3)) (ht : mTgt pc off = some t) (hp : pc + 3 = pc2) : WP d y pc L (.int y9 :: .int x :: S) h Q = if x = y9 then WP d y pc2 L S h Q else WP d y t L S h Q := by
  subst hp
  rw [wg_J (pc' := if x ≠ y9 then t else pc + 3) (L' := L) (S' := S) hr hd rfl rfl rfl rfl (by simp only [mJ, ht, Option.map_some])]
  by_cases e : x = y9
  · rw [if_neg (fun z => z e), if_pos e]
  · rw [if_pos e, if_neg e]
theorem wi_iclt {x y9 : Int32} {off : Int} {t pc2 : Nat} (hr : mRows[y]? = some r) (hd : decode r.2.1 pc = .ok (.if_icmp .lt off, 3)) (ht : mTgt pc off = some t) (hp : pc + 3 = pc2) : WP d y pc L (.int y9 :: .int x :: S) h Q = if x < y9 then WP d y t L S h Q else WP d y pc2 L S h Q := by
  subst hp
  rw [wg_J (pc' := if x < y9 then t else pc + 3) (L' := L) (S' := S) hr hd rfl rfl rfl rfl (by simp only [mJ, ht, Option.map_some])]
  by_cases e : x < y9
  · rw [if_pos e, if_pos e]
  · rw [if_neg e, if_neg e]
theorem wi_icge {x y9 : Int32} {off : Int} {t pc2 : Nat} (hr : mRows[y]? = some r) (hd : decode r.2.1 pc = .ok (.if_icmp .ge off, 3)) (ht : mTgt pc off = some t) (hp : pc + 3 = pc2) : WP d y pc L (.int y9 :: .int x :: S) h Q = if y9 ≤ x then WP d y t L S h Q else WP d y pc2 L S h Q := by
  subst hp
  rw [wg_J (pc' := if y9 ≤ x then t else pc + 3) (L' := L) (S' := S) hr hd rfl rfl rfl rfl (by simp only [mJ, ht, Option.map_some])]
  by_cases e : y9 ≤ x
  · rw [if_pos e, if_pos e]
  · rw [if_neg e, if_neg e]
theorem wi_icgt {x y9 : Int32} {off : Int} {t pc2 : Nat} (hr : mRows[y]? = some r) (hd : decode r.2.1 pc = .ok (.if_icmp .gt off, 3)) (ht : mTgt pc off = some t) (hp : pc + 3 = pc2) : WP d y pc L (.int y9 :: .int x :: S) h Q = if y9 < x then WP d y t L S h Q else WP d y pc2 L S h Q := by
  subst hp
  rw [wg_J (pc' := if y9 < x then t else pc + 3) (L' := L) (S' := S) hr hd rfl rfl rfl rfl (by simp only [mJ, ht, Option.map_some])]
  by_cases e : y9 < x
  · rw [if_pos e, if_pos e]
  · rw [if_neg e, if_neg e]
theorem wi_icle {x y9 : Int32} {off : Int} {t pc2 : Nat} (hr : mRows[y]? = some r) (hd : decode r.2.1 pc = .ok (.if_icmp .le off, 3)) (ht : mTgt pc off = some t) (hp : pc + 3 = pc2) : WP d y pc L (.int y9 :: .int x :: S) h Q = if x ≤ y9 then WP d y t L S h Q else WP d y pc2 L S h Q := by
  subst hp
  rw [wg_J (pc' := if x ≤ y9 then t else pc + 3) (L' := L) (S' := S) hr hd rfl rfl rfl rfl (by simp only [mJ, ht, Option.map_some])]
  by_cases e : x ≤ y9
  · rw [if_pos e, if_pos e]
  · rw [if_neg e, if_neg e]
theorem wi_swOut {x : Int32} {dflt lo hi : Int} {offs : Array Int} {len t : Nat} (hr : mRows[y]? = some r) (hd : decode r.2.1 pc = .ok (.tableswitch dflt lo hi offs, len)) (hx : x.toInt < lo ∨ hi < x.toInt) (ht : mTgt pc dflt = some t) : WP d y pc L (.int x :: S) h Q = WP d y t L S h Q := wg_J hr hd rfl rfl rfl rfl (by simp only [mJ, if_pos hx, ht, Option.map_some])
theorem wi_swIn {x : Int32} {dflt lo hi off : Int} {offs : Array Int} {len t : Nat} (hr : mRows[y]? = some r) (hd : decode r.2.1 pc = .ok (.tableswitch dflt lo hi offs, len)) (hx : ¬ (x.toInt < lo ∨ hi < x.toInt)) (ho : offs[(x.toInt - lo).toNat]? = some off) (ht : mTgt pc off = some t) : WP d y pc L (.int x :: S) h Q = WP d y t L S h Q := wg_J hr hd rfl rfl rfl rfl (by simp only [mJ, if_neg hx, ho, ht, Option.bind_some, Option.map_some])
theorem wi_getI {ix a o9 j9 ci k : Nat} {ns : Bool} (hr : mRows[y]? = some r) (hd : decode r.2.1 pc = .ok (.getfield ix, 3)) (hf : mFldOf r.2.2.2.2.1 ix = some (o9, j9, ci, k, ns)) (ha : (mLy xL)[a]? = some (0, ci)) (hk : k < mNf ci) (hkd : mKd ci k ≠ 2) : WP d y pc L (.ref a :: S) (mHh xL I J R) Q = WP d y (pc + 3) L (.int (I a k) :: S) (mHh xL I J R) Q := wg_G hr hd rfl rfl rfl rfl rfl (by simp only [mG, hf, ha, hk, true_and, and_self, if_true, if_neg hkd])
theorem wi_getR {ix a o9 j9 ci k b : Nat} {ns : Bool} (hr : mRows[y]? = some r) (hd : decode r.2.1 pc = .ok (.getfield ix, 3)) (hf : mFldOf r.2.2.2.2.1 ix = some (o9, j9, ci, k, ns)) (ha : (mLy xL)[a]? = some (0, ci)) (hk : k < mNf ci) (hkd : mKd ci k = 2) (hb : R a k = some b) : WP d y pc L (.ref a :: S) (mHh xL I J R) Q = WP d y (pc + 3) L (.ref b :: S) (mHh xL I J R) Q := wg_G hr hd rfl rfl rfl rfl rfl (by simp only [mG, hf, ha, hk, true_and, and_self, if_true, hkd, hb])
theorem wi_getV {a : Nat} (hr : mRows[y]? = some r) (hd : decode r.2.1 pc = .ok (.getfield 9, 3)) (hf : mFldOf r.2.2.2.2.1 9 = none) (ho : r.2.2.2.2.1 = 14) (ha : a < 3) : WP d y pc L (.ref a :: S) h Q = WP d y (pc + 3) L (.ref (3 + a) :: S) h Q := by rw [ho] at hf; exact wg_G hr hd rfl rfl rfl rfl rfl (by simp [mG, hf, ho, ha])
theorem wi_getC {a : Nat} (hr : mRows[y]? = some r) (hd : decode r.2.1 pc = .ok (.getfield 15, 3)) (hf : mFldOf r.2.2.2.2.1 15 = none) (ho : r.2.2.2.2.1 = 14) (ha : a < 3) : WP d y pc L (.ref a :: S) h Q = WP d y (pc + 3) L (.int 0 :: S) h Q := by rw [ho] at hf; exact wg_G hr hd rfl rfl rfl rfl rfl (by simp [mG, hf, ho, ha])
theorem wi_iald {a n : Nat} {i : Int32} (hr : mRows[y]? = some r) (hd : decode r.2.1 pc = .ok (.iaload, 1)) (ha : (mLy xL)[a]? = some (1, n)) (hi : mIn i n = true) : WP d y pc L (.int i :: .ref a :: S) (mHh xL I J R) Q = WP d y (pc + 1) L (.int (I a i.toNatClampNeg) :: S) (mHh xL I J R) Q := wg_G hr hd rfl rfl rfl rfl rfl (by simp only [mG, ha, hi, if_true])
theorem wi_sald {i : Int32} (hr : mRows[y]? = some r) (hd : decode r.2.1 pc = .ok (.iaload, 1)) (hi : mIn i xL = true) : WP d y pc L (.int i :: .ref 6 :: S) (mHh xL I J R) Q = WP d y (pc + 1) L (.int (I 6 i.toNatClampNeg) :: S) (mHh xL I J R) Q := wg_G hr hd rfl rfl rfl rfl rfl (by simp only [mG, show (mLy xL)[6]? = some (8, xL) from rfl, hi, and_self, if_true])
theorem wi_bald {a n : Nat} {i : Int32} (hr : mRows[y]? = some r) (hd : decode r.2.1 pc = .ok (.baload, 1)) (ha : (mLy xL)[a]? = some (2, n) ∨ (mLy xL)[a]? = some (3, n)) (hi : mIn i n = true) : WP d y pc L (.int i :: .ref a :: S) (mHh xL I J R) Q = WP d y (pc + 1) L (.int (I a i.toNatClampNeg) :: S) (mHh xL I J R) Q := by rcases ha with ha | ha <;> exact wg_G hr hd rfl rfl rfl rfl rfl (by simp only [mG, ha, hi, if_true])
theorem wi_tald {a n : Nat} {i : Int32} (hr : mRows[y]? = some r) (hd : decode r.2.1 pc = .ok (.baload, 1)) (ha : (mLy xL)[a]? = some (7, n)) (h3 : 3 ≤ a ∧ a < 6) (hi : mIn i n = true) : WP d y pc L (.int i :: .ref a :: S) (mHh xL I J R) Q = WP d y (pc + 1) L (.int (I a i.toNatClampNeg) :: S) (mHh xL I J R) Q := wg_G hr hd rfl rfl rfl rfl rfl (by simp only [mG, ha, h3, hi, and_self, if_true])
theorem wi_lald {a n : Nat} {i : Int32} (hr : mRows[y]? = some r) (hd : decode r.2.1 pc = .ok (.laload, 1)) (ha : (mLy xL)[a]? = some (4, n)) (hi : mIn i n = true) : WP d y pc L (.int i :: .ref a :: S) (mHh xL I J R) Q = WP d y (pc + 1) L (.long (J a i.toNatClampNeg) :: S) (mHh xL I J R) Q := wg_G hr hd rfl rfl rfl rfl rfl (by simp only [mG, ha, hi, if_true])
theorem wi_aald {a n b : Nat} {i : Int32} (hr : mRows[y]? = some r) (hd : decode r.2.1 pc = .ok (.aaload, 1)) (ha : (mLy xL)[a]? = some (5, n)) (hi : mIn i n = true) (hb : R a i.toNatClampNeg = some b) : WP d y pc L (.int i :: .ref a :: S) (mHh xL I J R) Q = WP d y (pc + 1) L (.ref b :: S) (mHh xL I J R) Q := wg_G hr hd rfl rfl rfl rfl rfl (by simp only [mG, ha, hi, if_true, hb])
theorem wi_alen {a n : Nat} {v : Int32} (hr : mRows[y]? = some r) (hd : decode r.2.1 pc = .ok (.arraylength, 1)) (ha : (mLy xL)[a]? = some (1, n) ∨ ((mLy xL)[a]? = some (7, n) ∧ 3 ≤ a ∧ a < 6) ∨ (a = 6 ∧ n = xL)) (hv : Int32.ofNat n = v) : WP d y pc L (.ref a :: S) (mHh xL I J R) Q = WP d y (pc + 1) L (.int v :: S) (mHh xL I J R) Q := by
  subst hv
  rcases ha with ha | ⟨ha, h3⟩ | ⟨rfl, rfl⟩
  · exact wg_G hr hd rfl rfl rfl rfl rfl (by simp only [mG, ha])
  · exact wg_G hr hd rfl rfl rfl rfl rfl (by simp only [mG, ha, h3, and_self, if_true])
  · exact wg_G hr hd rfl rfl rfl rfl rfl (by simp only [mG, show (mLy n)[6]? = some (8, n) from rfl, if_true])
theorem wi_putI {ix a o9 j9 ci k : Nat} {ns : Bool} {x : Int32} (hr : mRows[y]? = some r) (hd : decode r.2.1 pc = .ok (.putfield ix, 3)) (hf : mFldOf r.2.2.2.2.1 ix = some (o9, j9, ci, k, ns)) (ha : (mLy xL)[a]? = some (0, ci)) (hk : k < mNf ci) (hkd : mKd ci k = 0 ∨ (mKd ci k = 1 ∧ (x = 0 ∨ x = 1))) (hfn : mFn ci k = false ∨ ((r.1.name == "<init>") = true ∧ r.2.2.2.2.1 = ci ∧ ns = false)) : WP d y pc L (.int x :: .ref a :: S) (mHh xL I J R) Q = WP d y (pc + 3) L S (mHh xL (mU I a k x) J R) Q := wg_W hr hd rfl rfl rfl rfl rfl rfl (by simp only [mW, hf]; rw [if_pos ⟨ha, hk, hkd, hfn⟩])
theorem wi_putR {ix a o9 j9 ci k b : Nat} {ns : Bool} (hr : mRows[y]? = some r) (hd : decode r.2.1 pc = .ok (.putfield ix, 3)) (hf : mFldOf r.2.2.2.2.1 ix = some (o9, j9, ci, k, ns)) (ha : (mLy xL)[a]? = some (0, ci)) (hk : k < mNf ci) (hkd : mKd ci k = 2) (hfn : mFn ci k = false ∨ ((r.1.name == "<init>") = true ∧ r.2.2.2.2.1 = ci ∧ ns = false)) : WP d y pc L (.ref b :: .ref a :: S) (mHh xL I J R) Q = WP d y (pc + 3) L S (mHh xL I J (mU R a k (some b))) Q := wg_W hr hd rfl rfl rfl rfl rfl rfl (by simp only [mW, hf]; rw [if_pos ⟨ha, hk, hkd, hfn⟩])
theorem wi_iast {a n : Nat} {i x : Int32} (hr : mRows[y]? = some r) (hd : decode r.2.1 pc = .ok (.iastore, 1)) (ha : (mLy xL)[a]? = some (1, n)) (hi : mIn i n = true) : WP d y pc L (.int x :: .int i :: .ref a :: S) (mHh xL I J R) Q = WP d y (pc + 1) L S (mHh xL (mU I a i.toNatClampNeg x) J R) Q := wg_W hr hd rfl rfl rfl rfl rfl rfl (by simp only [mW, ha, hi, if_true])
theorem wi_bast {a n : Nat} {i x : Int32} (hr : mRows[y]? = some r) (hd : decode r.2.1 pc = .ok (.bastore, 1)) (ha : (mLy xL)[a]? = some (2, n)) (hi : mIn i n = true) : WP d y pc L (.int x :: .int i :: .ref a :: S) (mHh xL I J R) Q = WP d y (pc + 1) L S (mHh xL (mU I a i.toNatClampNeg (vp_nar .byte x)) J R) Q := wg_W hr hd rfl rfl rfl rfl rfl rfl (by simp only [mW, ha, hi, if_true])
theorem wi_zast {a n : Nat} {i x : Int32} (hr : mRows[y]? = some r) (hd : decode r.2.1 pc = .ok (.bastore, 1)) (ha : (mLy xL)[a]? = some (3, n)) (hi : mIn i n = true) : WP d y pc L (.int x :: .int i :: .ref a :: S) (mHh xL I J R) Q = WP d y (pc + 1) L S (mHh xL (mU I a i.toNatClampNeg (vp_nar .boolean x)) J R) Q := wg_W hr hd rfl rfl rfl rfl rfl rfl (by simp only [mW, ha, hi, if_true])
theorem wi_last {a n : Nat} {i : Int32} {x : Int64} (hr : mRows[y]? = some r) (hd : decode r.2.1 pc = .ok (.lastore, 1)) (ha : (mLy xL)[a]? = some (4, n)) (hi : mIn i n = true) : WP d y pc L (.long x :: .int i :: .ref a :: S) (mHh xL I J R) Q = WP d y (pc + 1) L S (mHh xL I (mU J a i.toNatClampNeg x) R) Q := wg_W hr hd rfl rfl rfl rfl rfl rfl (by simp only [mW, ha, hi, if_true])
theorem wi_iret {v : Int32} {ty : FieldType} (hr : mRows[y]? = some r) (hd : decode r.2.1 pc = .ok (.ireturn, 1)) (ht : r.2.2.2.1 = some ty) (hn : narrow ty (.int v) = .int v) : WP d y pc L [.int v] h Q = Q (some (.int v)) h := wp_ret hr hd (by rw [ht]; simp only [mRet, hn, if_true])
theorem wi_lret {v : Int64} (hr : mRows[y]? = some r) (hd : decode r.2.1 pc = .ok (.lreturn, 1)) (ht : r.2.2.2.1 = some .long) : WP d y pc L [.long v] h Q = Q (some (.long v)) h := wp_ret hr hd (by rw [ht]; rfl)
theorem wi_vret (hr : mRows[y]? = some r) (hd : decode r.2.1 pc = .ok (.return_, 1)) (ht : r.2.2.2.1 = none) : WP d y pc L [] h Q = Q none h := wp_ret hr hd (by rw [ht]; rfl)
theorem wi_max {ix a9 b9 : Nat} {ns : Bool} {x y9 : Int32} (hr : mRows[y]? = some r) (hd : decode r.2.1 pc = .ok (.invokestatic ix, 3)) (hm : mMthOf r.2.2.2.2.1 ix = some (a9, b9, 9998, ns)) (hw : mWrd S ≤ 8) : WP (d + 1) y pc L (.int y9 :: .int x :: S) h Q = WP (d + 1) y (pc + 3) L (.int (if x < y9 then y9 else x) :: S) h Q := wp_prm hr hd rfl rfl (by simp only [mPrm, hm, if_pos hw])
theorem wi_min {ix a9 b9 : Nat} {ns : Bool} {x y9 : Int32} (hr : mRows[y]? = some r) (hd : decode r.2.1 pc = .ok (.invokestatic ix, 3)) (hm : mMthOf r.2.2.2.2.1 ix = some (a9, b9, 9997, ns)) (hw : mWrd S ≤ 8) : WP (d + 1) y pc L (.int y9 :: .int x :: S) h Q = WP (d + 1) y (pc + 3) L (.int (if y9 < x then y9 else x) :: S) h Q := wp_prm hr hd rfl rfl (by simp only [mPrm, hm, if_pos hw])
theorem wi_abs {ix a9 b9 : Nat} {ns : Bool} {x : Int32} (hr : mRows[y]? = some r) (hd : decode r.2.1 pc = .ok (.invokestatic ix, 3)) (hm : mMthOf r.2.2.2.2.1 ix = some (a9, b9, 9996, ns)) (hw : mWrd S ≤ 8) : WP (d + 1) y pc L (.int x :: S) h Q = WP (d + 1) y (pc + 3) L (.int (if 0 ≤ x then x else 0 - x) :: S) h Q := wp_prm hr hd rfl rfl (by simp only [mPrm, hm, if_pos hw])
theorem wi_obj {ix a9 b9 : Nat} {ns : Bool} {a : Nat} (hr : mRows[y]? = some r) (hd : decode r.2.1 pc = .ok (.invokespecial ix, 3)) (hm : mMthOf r.2.2.2.2.1 ix = some (a9, b9, 9999, ns)) (hw : mWrd S ≤ 8) : WP (d + 1) y pc L (.ref a :: S) h Q = WP (d + 1) y (pc + 3) L S h Q := wp_prm hr hd rfl rfl (by simp only [mPrm, hm, if_pos hw])
end WI
