/-! The glass's bytes and signs. -/
theorem f_b8 : ∀ c, c < 256 → ((((9 : Int32) = (nI c).toInt8.toInt32 ↔ c = 9) ∧ ((10 : Int32) = (nI c).toInt8.toInt32 ↔ c = 10)) ∧ (((13 : Int32) = (nI c).toInt8.toInt32 ↔ c = 13) ∧ ((32 : Int32) = (nI c).toInt8.toInt32 ↔ c = 32))) ∧ (((((59 : Int32) = (nI c).toInt8.toInt32 ↔ c = 59) ∧ ((61 : Int32) = (nI c).toInt8.toInt32 ↔ c = 61)) ∧ (((43 : Int32) = (nI c).toInt8.toInt32 ↔ c = 43) ∧ ((45 : Int32) = (nI c).toInt8.toInt32 ↔ c = 45))) ∧ ((((42 : Int32) = (nI c).toInt8.toInt32 ↔ c = 42) ∧ ((47 : Int32) = (nI c).toInt8.toInt32 ↔ c = 47)) ∧ (((60 : Int32) = (nI c).toInt8.toInt32 ↔ c = 60) ∧ (((40 : Int32) = (nI c).toInt8.toInt32 ↔ c = 40) ∧ ((41 : Int32) = (nI c).toInt8.toInt32 ↔ c = 41))))) := by decide +kernel
theorem f_c16 : ∀ c, c < 256 → ((nI c).toUInt32 % 65536).toInt32 = nI c := by decide +kernel
def isSg (c : Nat) : Bool := !decide (sgK c = 3)
theorem sg_iff : ∀ c, c < 256 → (isSg c = true ↔ (c = 59 ∨ c = 61 ∨ c = 43 ∨ c = 45 ∨ c = 42 ∨ c = 47 ∨ c = 60 ∨ c = 40 ∨ c = 41)) := by decide +kernel
section LXA
variable {d : Nat} {xL : Nat} {I : Nat → Nat → Int32} {J : Nat → Nat → Int64} {rc rx rr : Nat} {Q : Option Value → mHp → Prop} {L : Nat} {W : Nat → Int32}
theorem c265a (hI : kI I) {c : Nat} (hc : c < 256) : WP d 265 0 [.ref 4, .int (nI c), .int 0, .int 4, mDum, mDum] [] (mHh xL I J (mRf rc rx rr)) Q = Q (some (.int (if c = 9 then 0 else if c = 10 then 1 else if c = 13 then 2 else if c = 32 then 3 else -1))) (mHh xL I J (mRf rc rx rr)) := by
  obtain ⟨⟨i0, i1, i2, i3⟩, -, -⟩ := hI
  obtain ⟨⟨⟨f0, f1⟩, f2, f3⟩, -⟩ := f_b8 c hc
  have m3 : 3 ≤ 4 ∧ 4 < 6 := by decide
  have l4 : mTxL.getD (4 - 3) 0 = 4 := rfl
  have b0 : mIn 0 4 = true := by decide
  have b1 : mIn 1 4 = true := by decide
  have b2 : mIn 2 4 = true := by decide
  have b3 : mIn 3 4 = true := by decide
  simp only [w265_0, w265_1, w265_2, w265_4, w265_5, w265_7, w265_9, w265_10, w265_13, w265_14, w265_16, w265_17, w265_19, w265_22, w265_24, w265_25, w265_28, w265_31, w265_32, m3, l4, b0, b1, b2, b3, i0, i1, i2, i3, ↓reduceIte, Option.toList_some, Option.toList_none, List.cons_append, List.nil_append, Int32.reduceAdd, Int32.reduceLT, Int32.reduceLE, Int32.reduceToNatClampNeg, f0, f1, f2, f3, and_self]
  by_cases h0 : c = 9
  · simp only [h0, ↓reduceIte]
  · by_cases h1 : c = 10
    · simp only [h1, ↓reduceIte, (by decide : ¬ 10 = 9)]
    · by_cases h2 : c = 13
      · simp only [h2, ↓reduceIte, (by decide : ¬ 13 = 9), (by decide : ¬ 13 = 10)]
      · by_cases h3 : c = 32
        · simp only [h3, ↓reduceIte, (by decide : ¬ 32 = 9), (by decide : ¬ 32 = 10), (by decide : ¬ 32 = 13)]
        · simp only [h0, h1, h2, h3, ↓reduceIte]
theorem c265b (hI : kI I) {c : Nat} (hc : c < 256) : WP d 265 0 [.ref 5, .int (nI c), .int 0, .int 9, mDum, mDum] [] (mHh xL I J (mRf rc rx rr)) Q = Q (some (.int (if c = 59 then 0 else if c = 61 then 1 else if c = 43 then 2 else if c = 45 then 3 else if c = 42 then 4 else if c = 47 then 5 else if c = 60 then 6 else if c = 40 then 7 else if c = 41 then 8 else -1))) (mHh xL I J (mRf rc rx rr)) := by
  obtain ⟨-, ⟨i0, i1, i2, i3, i4, i5, i6, i7, i8⟩, -⟩ := hI
  obtain ⟨-, ⟨⟨f0, f1⟩, f2, f3⟩, ⟨f4, f5⟩, f6, f7, f8⟩ := f_b8 c hc
  have m3 : 3 ≤ 5 ∧ 5 < 6 := by decide
  have l4 : mTxL.getD (5 - 3) 0 = 9 := rfl
  have b0 : mIn 0 9 = true := by decide
  have b1 : mIn 1 9 = true := by decide
  have b2 : mIn 2 9 = true := by decide
  have b3 : mIn 3 9 = true := by decide
  have b4 : mIn 4 9 = true := by decide
  have b5 : mIn 5 9 = true := by decide
  have b6 : mIn 6 9 = true := by decide
  have b7 : mIn 7 9 = true := by decide
  have b8 : mIn 8 9 = true := by decide
  simp only [w265_0, w265_1, w265_2, w265_4, w265_5, w265_7, w265_9, w265_10, w265_13, w265_14, w265_16, w265_17, w265_19, w265_22, w265_24, w265_25, w265_28, w265_31, w265_32, m3, l4, b0, b1, b2, b3, b4, b5, b6, b7, b8, i0, i1, i2, i3, i4, i5, i6, i7, i8, ↓reduceIte, Option.toList_some, Option.toList_none, List.cons_append, List.nil_append, Int32.reduceAdd, Int32.reduceLT, Int32.reduceLE, Int32.reduceToNatClampNeg, f0, f1, f2, f3, f4, f5, f6, f7, f8, and_self]
  by_cases h0 : c = 59
  · simp only [if_pos h0]
  · simp only [if_neg h0]
    by_cases h1 : c = 61
    · simp only [if_pos h1]
    · simp only [if_neg h1]
      by_cases h2 : c = 43
      · simp only [if_pos h2]
      · simp only [if_neg h2]
        by_cases h3 : c = 45
        · simp only [if_pos h3]
        · simp only [if_neg h3]
          by_cases h4 : c = 42
          · simp only [if_pos h4]
          · simp only [if_neg h4]
            by_cases h5 : c = 47
            · simp only [if_pos h5]
            · simp only [if_neg h5]
              by_cases h6 : c = 60
              · simp only [if_pos h6]
              · simp only [if_neg h6]
                by_cases h7 : c = 40
                · simp only [if_pos h7]
                · simp only [if_neg h7]
                  by_cases h8 : c = 41
                  · simp only [if_pos h8]
                  · simp only [if_neg h8]
theorem c258x {b n : Nat} (hb : b = 1 ∧ n = 4 ∨ b = 2 ∧ n = 9) {c : Nat} (hc : c < 256) {x : Int32} (h265 : ∀ Q' : Option Value → mHp → Prop, WP (d + 1) 265 0 [.ref (3 + b), .int (nI c), .int 0, .int (nI n), mDum, mDum] [] (mHh xL I J (mRf rc rx rr)) Q' = Q' (some (.int x)) (mHh xL I J (mRf rc rx rr))) : WP (d + 4) 257 0 [.ref b, .int (nI c)] [] (mHh xL I J (mRf rc rx rr)) Q = Q (some (.int x)) (mHh xL I J (mRf rc rx rr)) := by
  have hb3 : b < 3 := by omega
  have h36 : 3 ≤ 3 + b ∧ 3 + b < 6 := by omega
  have el : Int32.ofNat (mTxL.getD (3 + b - 3) 0) = nI n := by
    rcases hb with ⟨rfl, rfl⟩ | ⟨rfl, rfl⟩ <;> rfl
  have e5 : nI n >>> (0 &&& 31) = nI n := by
    rcases hb with ⟨rfl, rfl⟩ | ⟨rfl, rfl⟩ <;> decide
  have g0 : ¬ nI c < 0 := nI_pos (by omega)
  have g1 : ¬ 255 < nI c := i_le ((in_le 255 (by decide) (by omega)).2 (by omega))
  have em : (if (0 : Int32) < 0 then (0 : Int32) else 0) = 0 := by decide
  have em2 : (if nI n < nI n then nI n else nI n) = nI n := by split <;> rfl
  have gn : (0 : Int32) < nI n := by rcases hb with ⟨rfl, rfl⟩ | ⟨rfl, rfl⟩ <;> decide
  have nby : narrow .byte (.int 0) = .int 0 := by decide
  simp only [w257_0, w257_1, w257_2, hb3, w257_3, w258_0, w258_1, w259_0, w259_3, o01, ↓reduceIte, w259_6, w259_7, w259_10, w259_13, w259_14, w259_18, nb1, ↓reduceIte, Option.toList_some, Option.toList_none, List.cons_append, List.nil_append, Int32.reduceAdd, Int32.reduceLT, Int32.reduceLE, Int32.reduceToNatClampNeg, w258_4, w258_7, w258_8, w258_11, w258_12, w258_13, w258_14, w260_0, w260_1, h36, w260_4, el, w260_5, w260_6, w256_0, w256_3, w256_6, w256_7, w256_10, w256_14, nby, w260_9, e5, w260_10, w258_17, w264_0, w264_1, w262_0, w262_1, g0, w262_4, w262_5, w262_8, g1, w262_11, w262_12, w262_16, w264_4, w264_9, w264_10, w264_11, em, w264_14, w264_15, w264_16, w264_17, w264_18, em2, w264_21, w264_22, w264_23, w264_24, gn, w264_29, w264_30, w264_31, w264_32, w264_33, h265, w264_36, w258_20, w258_36, w257_6, and_self]
theorem c64 (h : xTp I L W) {i : Nat} (hi : i < 2 ^ 31) : WP d 64 0 [.ref 8, .int (nI i)] [] (mHh xL I J (mRf rc rx rr)) Q = Q (some (.int (if i < L then nI (bt W i) else -1))) (mHh xL I J (mRf rc rx rr)) := by
  obtain ⟨h1, h2, h3⟩ := h
  have g1 : ¬ nI i < 0 := nI_pos hi
  by_cases hl : i < L
  · have g2 : ¬ nI L ≤ nI i := nI_ge hl (by omega)
    have g3 : ¬ 2000 ≤ nI i := by rw [ni_le 2000 (by decide) hi]; omega
    have a1 : mIn (nI i) 2000 = true := mIn_nI (by omega) (by omega)
    have a2 : (nI i).toNatClampNeg = i := nI_clamp hi
    rw [if_pos hl]
    simp only [w64_0, w64_1, g1, ↓reduceIte, w64_4, w64_5, w64_6, h2, w64_9, g2, w64_12, w64_13, w64_16, g3, w64_19, w64_20, w64_23, w64_24, a1, a2, h3 i hl, w64_25, w64_28, bt_and, w64_29, w64_33]
  · have g2 : nI L ≤ nI i := nI_le (by omega) hi
    rw [if_neg hl]
    simp only [w64_0, w64_1, g1, ↓reduceIte, w64_4, w64_5, w64_6, h2, w64_9, g2, w64_32, w64_33]
theorem c65 (h : xTp I L W) {i : Nat} (hi : i < 2 ^ 31) : WP (d + 1) 65 0 [.ref 8, .int (nI i), mDum] [] (mHh xL I J (mRf rc rx rr)) Q = Q (some (.int (sB01 (pAt isLt W L i)))) (mHh xL I J (mRf rc rx rr)) := by
  simp only [w65_0, w65_1, w65_2, c64 h hi, ↓reduceIte, Option.toList_some, Option.toList_none, List.cons_append, List.nil_append, Int32.reduceAdd, Int32.reduceLT, Int32.reduceLE, Int32.reduceToNatClampNeg, w65_5, w65_6, w65_7]
  by_cases hl : i < L
  · have hb := bt_lt W i
    rw [if_pos hl, pAt, decide_eq_true hl, Bool.true_and, isLt]
    have g1 : (nI (bt W i) < 97) ↔ ¬ 97 ≤ bt W i := by rw [in_lt 97 (by decide) (by omega)]; omega
    have g2 : (122 < nI (bt W i)) ↔ ¬ bt W i ≤ 122 := by rw [ni_lt 122 (by decide) (by omega)]; omega
    simp only [w65_9, g1]
    by_cases h1 : 97 ≤ bt W i
    · simp only [h1, not_true_eq_false, ↓reduceIte, w65_12, w65_13, w65_15, g2]
      by_cases h2 : bt W i ≤ 122
      · simp only [h2, not_true_eq_false, ↓reduceIte, w65_18, w65_19, w65_23, nb1]; rfl
      · simp only [h2, not_false_eq_true, ↓reduceIte, w65_22, w65_23, nb0]; rfl
    · simp only [h1, not_false_eq_true, ↓reduceIte, w65_22, w65_23, nb0]; rfl
  · have g1 : ((-1 : Int32) < 97) = True := by simp
    rw [if_neg hl, pAt, decide_eq_false hl, Bool.false_and]
    simp only [w65_9, g1, ↓reduceIte, w65_22, w65_23, nb0]; rfl
theorem c66 (h : xTp I L W) {i : Nat} (hi : i < 2 ^ 31) : WP (d + 1) 66 0 [.ref 8, .int (nI i), mDum] [] (mHh xL I J (mRf rc rx rr)) Q = Q (some (.int (sB01 (pAt isDg W L i)))) (mHh xL I J (mRf rc rx rr)) := by
  simp only [w66_0, w66_1, w66_2, c64 h hi, ↓reduceIte, Option.toList_some, Option.toList_none, List.cons_append, List.nil_append, Int32.reduceAdd, Int32.reduceLT, Int32.reduceLE, Int32.reduceToNatClampNeg, w66_5, w66_6, w66_7]
  by_cases hl : i < L
  · have hb := bt_lt W i
    rw [if_pos hl, pAt, decide_eq_true hl, Bool.true_and, isDg]
    have g1 : (nI (bt W i) < 48) ↔ ¬ 48 ≤ bt W i := by rw [in_lt 48 (by decide) (by omega)]; omega
    have g2 : (57 < nI (bt W i)) ↔ ¬ bt W i ≤ 57 := by rw [ni_lt 57 (by decide) (by omega)]; omega
    simp only [w66_9, g1]
    by_cases h1 : 48 ≤ bt W i
    · simp only [h1, not_true_eq_false, ↓reduceIte, w66_12, w66_13, w66_15, g2]
      by_cases h2 : bt W i ≤ 57
      · simp only [h2, not_true_eq_false, ↓reduceIte, w66_18, w66_19, w66_23, nb1]; rfl
      · simp only [h2, not_false_eq_true, ↓reduceIte, w66_22, w66_23, nb0]; rfl
    · simp only [h1, not_false_eq_true, ↓reduceIte, w66_22, w66_23, nb0]; rfl
  · have g1 : ((-1 : Int32) < 48) = True := by simp
    rw [if_neg hl, pAt, decide_eq_false hl, Bool.false_and]
    simp only [w66_9, g1, ↓reduceIte, w66_22, w66_23, nb0]; rfl
theorem c63 (hI : kI I) (h : xTp I L W) {b : Nat} {f : Nat → Bool} (hb : b = 1 ∧ f = isBl ∨ b = 2 ∧ f = isSg) {i : Nat} (hi : i < 2 ^ 31) : WP (d + 5) 63 0 [.ref 8, .ref b, .int (nI i), mDum] [] (mHh xL I J (mRf rc rx rr)) Q = Q (some (.int (sB01 (pAt f W L i)))) (mHh xL I J (mRf rc rx rr)) := by
  have hb3 : b < 3 := by omega
  simp only [w63_0, w63_1, w63_2, c64 h hi, ↓reduceIte, Option.toList_some, Option.toList_none, List.cons_append, List.nil_append, Int32.reduceAdd, Int32.reduceLT, Int32.reduceLE, Int32.reduceToNatClampNeg, w63_5, w63_6, w63_7]
  by_cases hl : i < L
  · have hc := bt_lt W i
    have n1 : ¬ nI (bt W i) = -1 := by
      intro z
      have := nI_pos (n := bt W i) (by omega)
      rw [z] at this
      exact this (by decide)
    have fin : ∀ x : Int32, (x < 0 ↔ f (bt W i) = false) → WP (d + 5) 63 17 [.ref 8, .ref b, .int (nI i), .int (nI (bt W i))] [.int x] (mHh xL I J (mRf rc rx rr)) Q = Q (some (.int (sB01 (pAt f W L i)))) (mHh xL I J (mRf rc rx rr)) := by
      intro x hx
      rw [pAt, decide_eq_true hl, Bool.true_and]
      simp only [w63_17, hx]
      cases hf : f (bt W i) with
      | true => simp only [Bool.true_eq_false, ↓reduceIte, w63_20, w63_21, w63_25, nb1]; rfl
      | false => simp only [↓reduceIte, w63_24, w63_25, nb0]; rfl
    rw [if_pos hl]
    simp only [w63_8, n1, ↓reduceIte, w63_11, w63_12, w63_13, f_c16 _ hc, hb3, w63_14]
    rcases hb with ⟨rfl, rfl⟩ | ⟨rfl, rfl⟩
    · rw [c258x (n := 4) (Or.inl ⟨rfl, rfl⟩) hc (fun Q' => c265a hI hc)]
      simp only [↓reduceIte, Option.toList_some, Option.toList_none, List.cons_append, List.nil_append, Int32.reduceAdd, Int32.reduceLT, Int32.reduceLE, Int32.reduceToNatClampNeg]
      refine fin _ ?_
      rw [isBl]
      by_cases h0 : bt W i = 9
      · rw [h0]; decide
      · by_cases h1 : bt W i = 10
        · rw [h1]; decide
        · by_cases h2 : bt W i = 13
          · rw [h2]; decide
          · by_cases h3 : bt W i = 32
            · rw [h3]; decide
            · rw [if_neg h0, if_neg h1, if_neg h2, if_neg h3, decide_eq_false h0, decide_eq_false h1, decide_eq_false h2, decide_eq_false h3]; decide
    · rw [c258x (n := 9) (Or.inr ⟨rfl, rfl⟩) hc (fun Q' => c265b hI hc)]
      simp only [↓reduceIte, Option.toList_some, Option.toList_none, List.cons_append, List.nil_append, Int32.reduceAdd, Int32.reduceLT, Int32.reduceLE, Int32.reduceToNatClampNeg]
      refine fin _ ?_
      generalize bt W i = c at hc
      revert hc
      revert c
      have : ∀ c, c < 256 → ((if c = 59 then (0 : Int32) else if c = 61 then 1 else if c = 43 then 2 else if c = 45 then 3 else if c = 42 then 4 else if c = 47 then 5 else if c = 60 then 6 else if c = 40 then 7 else if c = 41 then 8 else -1) < 0 ↔ isSg c = false) := by decide +kernel
      exact this
  · rw [if_neg hl, pAt, decide_eq_false hl, Bool.false_and]
    simp only [w63_8, ↓reduceIte, w63_24, w63_25, nb0]; rfl
theorem c70 (hI : kI I) (h : xTp I L W) {i : Nat} (hi : i ≤ L) : WP (d + 6) 70 0 [.ref 8, .int (nI i), mDum] [] (mHh xL I J (mRf rc rx rr)) Q = Q (some (.int (nI (sk W L i)))) (mHh xL I J (mRf rc rx rr)) := by
  have hL := h.1
  simp only [w70_0, w70_1]
  have key : ∀ n j, j + n = L → WP (d + 6) 70 2 [.ref 8, .int (nI i), .int (nI j)] [] (mHh xL I J (mRf rc rx rr)) Q = Q (some (.int (nI (rE (pAt isBl W L) n j)))) (mHh xL I J (mRf rc rx rr)) := by
    intro n
    induction n with
    | zero =>
      intro j hj
      have g1 : nI L ≤ nI j := nI_le (by omega) (by omega)
      rw [w70_2, rE]
      simp only [w70_3, w70_4, h.2.1, w70_7, g1, ↓reduceIte, w70_26, w70_27]
    | succ n ih =>
      intro j hj
      have g1 : ¬ nI L ≤ nI j := nI_ge (by omega) (by omega)
      rw [w70_2, rE]
      simp only [w70_3, w70_4, h.2.1, w70_7, g1, ↓reduceIte, w70_10, w70_11, w70_13, w70_14, c63 hI h (Or.inl ⟨rfl, rfl⟩) (show j < 2 ^ 31 by omega), ↓reduceIte, Option.toList_some, Option.toList_none, List.cons_append, List.nil_append, Int32.reduceAdd, Int32.reduceLT, Int32.reduceLE, Int32.reduceToNatClampNeg, w70_17]
      by_cases hp : pAt isBl W L j = true
      · simp only [hp, sB_t, o01, ↓reduceIte, w70_20, w70_23, nI_1]
        exact ih (j + 1) (by omega)
      · have hp2 : pAt isBl W L j = false := by simpa using hp
        simp only [hp2, sB_f, ↓reduceIte, Bool.false_eq_true, w70_26, w70_27]
  have := key (L - i) i (by omega)
  exact this
end LXA
