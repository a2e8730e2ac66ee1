/-! The glass's tokens. -/
def gk (k : Nat) : Nat := if k = 0 then 1 else if k = 1 then 3 else if k = 2 then 4 else if k = 3 then 2 else if k = 4 then 59 else if k = 5 then 61 else if k = 6 then 40 else if k = 7 then 41 else if k = 8 then 43 else if k = 9 then 45 else if k = 10 then 42 else if k = 15 then 47 else if k = 13 then 60 else 80 + k
theorem gk_12 : ∀ k, k < 40 → (nI (gk k) = 1 ↔ k = 0) ∧ (nI (gk k) = 2 ↔ k = 3) := by decide +kernel
theorem gk_sg : ∀ c, c < 256 → gk (sgK c) = if isSg c = true then c else 2 := by decide +kernel
theorem nI_sbx {a b : Nat} (h : b ≤ a) : nI a - nI b = nI (a - b) := by
  have e : nI a = nI (a - b) + nI b := by rw [nI_add, Nat.sub_add_cancel h]
  rw [e, Int32.add_sub_cancel]
theorem f_lt : ∀ c, c < 256 → 97 ≤ c → (nI c - 97 + 1).toInt64 = lN (c - 96) := by decide +kernel
theorem f_dg : ∀ c, c < 256 → 48 ≤ c → (nI c - 48).toInt64 = lN (c - 48) := by decide +kernel
theorem kidx_lt {x : Int64} {i : Nat} (h : kidx x = some i) : i < 20 := by
  have := fnd_some 20 0 h
  omega
theorem wdK_lt (x : Int64) : wdK x < 40 := by
  rw [wdK]
  cases h : kidx x with
  | none => exact (by decide)
  | some i => have := kidx_lt h; show 20 + i < 40; omega
theorem sgK_lt : ∀ c, c < 256 → sgK c < 40 := by decide +kernel
theorem tKd_lt (W : Nat → Int32) (L i : Nat) : tKd W L i < 40 := by
  have h1 := wdK_lt (lN (wN W (tEnd W L i - i) i 0))
  have h2 := sgK_lt _ (bt_lt W i)
  rw [tKd]
  split
  · decide
  · split
    · split
      · decide
      · exact h1
    · split
      · split <;> decide
      · exact h2
def tkW (W : Nat → Int32) (L i : Nat) : Int64 := if L ≤ i then 0 else if isLt (bt W i) then lN (wN W (tEnd W L i - i) i 0) else if isDg (bt W i) then lN (dN' W (tEnd W L i - i) i 0) else 0
def tkI (I : Nat → Nat → Int32) (n : Nat) (g p : Int32) : Nat → Nat → Int32 := mU (mU (mU I 13 n g) 15 n p) 11 4 (nI (n + 1))
section LXB
variable {d : Nat} {xL : Nat} {I : Nat → Nat → Int32} {J : Nat → Nat → Int64} {rc rx rr : Nat} {Q : Option Value → mHp → Prop} {L : Nat} {W : Nat → Int32}
theorem c68 {a c : Nat} (hc : c < 256) (h9 : 97 ≤ c) {h : mHp} : WP d 68 0 [.long (lN a), mDum, .int (nI c)] [] h Q = Q (some (.long (lN (a * 27 + (c - 96))))) h := by
  have e : lN a * 27 + (nI c - 97 + 1).toInt64 = lN (a * 27 + (c - 96)) := by
    rw [f_lt c hc h9, ← lN_add, ← lN_mul]; rfl
  simp only [w68_0, w68_1, w68_4, w68_5, w68_6, w68_8, w68_9, w68_10, w68_11, w68_12, w68_13, e]
theorem c74 (hJ : kJ J) {x : Int64} : WP d 74 0 [.ref 11, .long x, mDum, mDum] [] (mHh xL I J (mRf rc rx rr)) Q = Q (some (.int (nI (gk (wdK x))))) (mHh xL I J (mRf rc rx rr)) := by
  have key : ∀ n j, j + n = 20 → WP d 74 2 [.ref 11, .long x, mDum, .int (nI j)] [] (mHh xL I J (mRf rc rx rr)) Q = Q (some (.int (match fnd (fun i => decide (kw i = x)) n j with | some i => nI (100 + i) | none => 3))) (mHh xL I J (mRf rc rx rr)) := by
    intro n
    induction n with
    | zero =>
      intro j hj
      have e : j = 20 := by omega
      subst e
      have g : (20 : Int32) ≤ nI 20 := by decide
      rw [w74_2, fnd]
      simp only [w74_3, w74_5, g, ↓reduceIte, w74_30, w74_31]
    | succ n ih =>
      intro j hj
      have g : ¬ (20 : Int32) ≤ nI j := by rw [ni_le 20 (by decide) (by omega)]; omega
      have a1 : mIn (nI j) 20 = true := mIn_nI (by omega) (by omega)
      have a2 : (nI j).toNatClampNeg = j := nI_clamp (by omega)
      rw [w74_2, fnd]
      simp only [w74_3, w74_5, g, ↓reduceIte, w74_8, w74_9, w74_12, w74_13, a1, a2, (hJ j (by omega)).1, w74_14, w74_15, w74_16, lg_cmp_eq]
      by_cases hk : kw j = x
      · have e : (100 : Int32) + nI j = nI (100 + j) := nI_add 100 j
        simp only [hk, decide_true, ↓reduceIte, w74_19, w74_21, w74_22, w74_23, e]
      · simp only [hk, decide_false, ↓reduceIte, w74_24, w74_27, nI_1, Bool.false_eq_true]
        exact ih (j + 1) (by omega)
  have k0 := key 20 0 rfl
  simp only [w74_0, w74_1]
  refine Eq.trans k0 ?_
  rw [wdK]
  show Q (some (.int (match kidx x with | some i => nI (100 + i) | none => 3))) _ = _
  cases h : kidx x with
  | none => rfl
  | some i =>
    have hi := kidx_lt h
    have e : ∀ i, i < 20 → nI (100 + i) = nI (gk (20 + i)) := by decide +kernel
    show Q (some (.int (nI (100 + i)))) _ = _
    rw [e i hi]
theorem c72 {n : Nat} (h4 : I 11 4 = nI n) (hn : n ≤ 400) {g p : Int32} {w : Int64} : WP d 72 0 [.ref 11, .int g, .long w, mDum, .int p] [] (mHh xL I J (mRf rc rx rr)) Q = Q none (mHh xL (tkI I n g p) (mU J 14 n w) (mRf rc rx rr)) := by
  have a0 : ¬ 400 < nI n := by rw [ni_lt 400 (by decide) (by omega)]; omega
  have a1 : mIn (nI n) 401 = true := mIn_nI (by omega) (by omega)
  have a2 : (nI n).toNatClampNeg = n := nI_clamp (by omega)
  have b1 : mU I 13 n g 11 4 = nI n := by rw [mU_a (by decide)]; exact h4
  have b2 : mU (mU I 13 n g) 15 n p 11 4 = nI n := by rw [mU_a (by decide)]; exact b1
  simp only [w72_0, w72_1, w72_4, w72_7, w72_10, w72_11, w72_14, w72_15, w72_18, w72_19, w72_20, w72_21, w72_24, w72_25, w72_28, w72_29, w72_30, w72_31, w72_34, w72_35, w72_38, w72_40, w72_41, w72_42, w72_43, w72_46, w72_47, w72_48, w72_51, h4, a0, a1, a2, b1, b2, ↓reduceIte, nI_1]
  rfl
theorem c73 (h : xTp I L W) (hJ : kJ J) {n : Nat} (h4 : I 11 4 = nI n) (hn : n ≤ 400) {i : Nat} (hi : i < L) : WP (d + 2) 73 0 [.ref 11, .ref 8, .int (nI i), mDum, mDum, mDum] [] (mHh xL I J (mRf rc rx rr)) Q = Q (some (.int (nI (rE (pAt isLt W L) (L - i) i)))) (mHh xL (tkI I n (nI (if 8 < rE (pAt isLt W L) (L - i) i - i then 2 else gk (wdK (lN (wN W (rE (pAt isLt W L) (L - i) i - i) i 0))))) (nI i)) (mU J 14 n (lN (wN W (rE (pAt isLt W L) (L - i) i - i) i 0))) (mRf rc rx rr)) := by
  have hL := h.1
  have key : ∀ n j a, j + n = L → WP (d + 2) 73 5 [.ref 11, .ref 8, .int (nI i), .long (lN a), mDum, .int (nI j)] [] (mHh xL I J (mRf rc rx rr)) Q = WP (d + 2) 73 40 [.ref 11, .ref 8, .int (nI i), .long (lN (wN W (rE (pAt isLt W L) n j - j) j a)), mDum, .int (nI (rE (pAt isLt W L) n j))] [] (mHh xL I J (mRf rc rx rr)) Q := by
    intro n
    induction n with
    | zero =>
      intro j a hj
      have g1 : nI L ≤ nI j := nI_le (by omega) (by omega)
      rw [w73_5, rE, Nat.sub_self, wN]
      simp only [w73_7, w73_8, h.2.1, w73_11, g1, ↓reduceIte]
    | succ n ih =>
      intro j a hj
      have g1 : ¬ nI L ≤ nI j := nI_ge (by omega) (by omega)
      have e1 := c65 (d := d) (Q := fun v h9 => WP (d + 2) 73 20 [.ref 11, .ref 8, .int (nI i), .long (lN a), mDum, .int (nI j)] (v.toList ++ []) h9 Q) (xL := xL) (J := J) (rc := rc) (rx := rx) (rr := rr) h (show j < 2 ^ 31 by omega)
      rw [w73_5, rE]
      simp only [w73_7, w73_8, h.2.1, w73_11, g1, ↓reduceIte, w73_14, w73_15, w73_17, e1, ↓reduceIte, Option.toList_some, Option.toList_none, List.cons_append, List.nil_append, Int32.reduceAdd, Int32.reduceLT, Int32.reduceLE, Int32.reduceToNatClampNeg, w73_20]
      by_cases hp : pAt isLt W L j = true
      · have hb : isLt (bt W j) = true := by
          rw [pAt] at hp
          exact (Bool.and_eq_true_iff.1 hp).2
        have h9 : 97 ≤ bt W j := by
          rw [isLt] at hb
          exact of_decide_eq_true (Bool.and_eq_true_iff.1 hb).1
        have e2 : rE (pAt isLt W L) n (j + 1) - j = (rE (pAt isLt W L) n (j + 1) - (j + 1)) + 1 := by
          have := (rE_ge (pAt isLt W L) n (j + 1)).1
          omega
        simp only [hp, sB_t, o01, ↓reduceIte, w73_23, w73_24, w73_25, w73_27, c64 h (show j < 2 ^ 31 by omega), if_pos (show j < L by omega), ↓reduceIte, Option.toList_some, Option.toList_none, List.cons_append, List.nil_append, Int32.reduceAdd, Int32.reduceLT, Int32.reduceLE, Int32.reduceToNatClampNeg, w73_30, c68 (bt_lt W j) h9, w73_33, w73_34, w73_37, nI_1, e2, wN]
        exact ih (j + 1) _ (by omega)
      · have hp2 : pAt isLt W L j = false := by simpa using hp
        simp only [hp2, sB_f, ↓reduceIte, Bool.false_eq_true, Nat.sub_self, wN]
  have k0 := key (L - i) i 0 (by omega)
  simp only [w73_0, w73_1, w73_2, w73_3]
  refine Eq.trans k0 ?_
  have he := rE_ge (pAt isLt W L) (L - i) i
  generalize rE (pAt isLt W L) (L - i) i = e at he ⊢
  have es : nI e - nI i = nI (e - i) := nI_sbx (by omega)
  have g8 : (nI (e - i) ≤ 8) ↔ ¬ 8 < e - i := by rw [in_le 8 (by decide) (by omega)]; omega
  simp only [w73_40, w73_41, w73_43, w73_44, es, w73_45, w73_47, g8]
  by_cases hg : 8 < e - i
  · simp only [hg, not_true_eq_false, ↓reduceIte, w73_50, w73_51, w73_59, w73_60, w73_61, c72 h4 hn, ↓reduceIte, Option.toList_some, Option.toList_none, List.cons_append, List.nil_append, Int32.reduceAdd, Int32.reduceLT, Int32.reduceLE, Int32.reduceToNatClampNeg, w73_64, w73_66]
    rfl
  · simp only [hg, not_false_eq_true, ↓reduceIte, w73_54, w73_55, w73_56, c74 hJ, ↓reduceIte, Option.toList_some, Option.toList_none, List.cons_append, List.nil_append, Int32.reduceAdd, Int32.reduceLT, Int32.reduceLE, Int32.reduceToNatClampNeg, w73_59, w73_60, w73_61, c72 h4 hn, w73_64, w73_66]
theorem c75 (h : xTp I L W) {n : Nat} (h4 : I 11 4 = nI n) (hn : n ≤ 400) {i : Nat} (hi : i < L) : WP (d + 2) 75 0 [.ref 11, .ref 8, .int (nI i), mDum, mDum, mDum] [] (mHh xL I J (mRf rc rx rr)) Q = Q (some (.int (nI (rE (pAt isDg W L) (L - i) i)))) (mHh xL (tkI I n (nI (if 4 < rE (pAt isDg W L) (L - i) i - i then 2 else 4)) (nI i)) (mU J 14 n (lN (dN' W (rE (pAt isDg W L) (L - i) i - i) i 0))) (mRf rc rx rr)) := by
  have hL := h.1
  have key : ∀ n j a, j + n = L → WP (d + 2) 75 5 [.ref 11, .ref 8, .int (nI i), .long (lN a), mDum, .int (nI j)] [] (mHh xL I J (mRf rc rx rr)) Q = WP (d + 2) 75 46 [.ref 11, .ref 8, .int (nI i), .long (lN (dN' W (rE (pAt isDg W L) n j - j) j a)), mDum, .int (nI (rE (pAt isDg W L) n j))] [] (mHh xL I J (mRf rc rx rr)) Q := by
    intro n
    induction n with
    | zero =>
      intro j a hj
      have g1 : nI L ≤ nI j := nI_le (by omega) (by omega)
      rw [w75_5, rE, Nat.sub_self, dN']
      simp only [w75_7, w75_8, h.2.1, w75_11, g1, ↓reduceIte]
    | succ n ih =>
      intro j a hj
      have g1 : ¬ nI L ≤ nI j := nI_ge (by omega) (by omega)
      have e1 := c66 (d := d) (Q := fun v h9 => WP (d + 2) 75 20 [.ref 11, .ref 8, .int (nI i), .long (lN a), mDum, .int (nI j)] (v.toList ++ []) h9 Q) (xL := xL) (J := J) (rc := rc) (rx := rx) (rr := rr) h (show j < 2 ^ 31 by omega)
      rw [w75_5, rE]
      simp only [w75_7, w75_8, h.2.1, w75_11, g1, ↓reduceIte, w75_14, w75_15, w75_17, e1, ↓reduceIte, Option.toList_some, Option.toList_none, List.cons_append, List.nil_append, Int32.reduceAdd, Int32.reduceLT, Int32.reduceLE, Int32.reduceToNatClampNeg, w75_20]
      by_cases hp : pAt isDg W L j = true
      · have hb : isDg (bt W j) = true := by
          rw [pAt] at hp
          exact (Bool.and_eq_true_iff.1 hp).2
        have h9 : 48 ≤ bt W j := by
          rw [isDg] at hb
          exact of_decide_eq_true (Bool.and_eq_true_iff.1 hb).1
        have e2 : rE (pAt isDg W L) n (j + 1) - j = (rE (pAt isDg W L) n (j + 1) - (j + 1)) + 1 := by
          have := (rE_ge (pAt isDg W L) n (j + 1)).1
          omega
        have e3 : lN a * 10 + (nI (bt W j) - 48).toInt64 = lN (a * 10 + (bt W j - 48)) := by
          rw [f_dg _ (bt_lt W j) h9, ← lN_add, ← lN_mul]; rfl
        simp only [hp, sB_t, o01, ↓reduceIte, w75_23, w75_24, w75_27, w75_28, w75_29, w75_31, c64 h (show j < 2 ^ 31 by omega), if_pos (show j < L by omega), ↓reduceIte, Option.toList_some, Option.toList_none, List.cons_append, List.nil_append, Int32.reduceAdd, Int32.reduceLT, Int32.reduceLE, Int32.reduceToNatClampNeg, w75_34, w75_36, w75_37, w75_38, e3, w75_39, w75_40, w75_43, nI_1, e2, dN']
        exact ih (j + 1) _ (by omega)
      · have hp2 : pAt isDg W L j = false := by simpa using hp
        simp only [hp2, sB_f, ↓reduceIte, Bool.false_eq_true, Nat.sub_self, dN']
  have k0 := key (L - i) i 0 (by omega)
  simp only [w75_0, w75_1, w75_2, w75_3]
  refine Eq.trans k0 ?_
  have he := rE_ge (pAt isDg W L) (L - i) i
  generalize rE (pAt isDg W L) (L - i) i = e at he ⊢
  have es : nI e - nI i = nI (e - i) := nI_sbx (by omega)
  have g8 : (nI (e - i) ≤ 4) ↔ ¬ 4 < e - i := by rw [in_le 4 (by decide) (by omega)]; omega
  simp only [w75_46, w75_47, w75_49, w75_50, es, w75_51, w75_52, g8]
  by_cases hg : 4 < e - i
  · simp only [hg, not_true_eq_false, ↓reduceIte, w75_55, w75_56, w75_60, w75_61, w75_62, c72 h4 hn, ↓reduceIte, Option.toList_some, Option.toList_none, List.cons_append, List.nil_append, Int32.reduceAdd, Int32.reduceLT, Int32.reduceLE, Int32.reduceToNatClampNeg, w75_65, w75_67]
    rfl
  · simp only [hg, not_false_eq_true, ↓reduceIte, w75_59, w75_60, w75_61, w75_62, c72 h4 hn, ↓reduceIte, Option.toList_some, Option.toList_none, List.cons_append, List.nil_append, Int32.reduceAdd, Int32.reduceLT, Int32.reduceLE, Int32.reduceToNatClampNeg, w75_65, w75_67]
    rfl
theorem c71 (hI : kI I) (h : xTp I L W) (hJ : kJ J) {n : Nat} (h4 : I 11 4 = nI n) (hn : n ≤ 400) {i : Nat} (hi : i ≤ L) : WP (d + 6) 71 0 [.ref 11, .ref 8, .int (nI i)] [] (mHh xL I J (mRf rc rx rr)) Q = Q (some (.int (nI (if i < L then tEnd W L i else i)))) (mHh xL (tkI I n (nI (gk (tKd W L i))) (nI i)) (mU J 14 n (tkW W L i)) (mRf rc rx rr)) := by
  have hL := h.1
  by_cases hl : i < L
  · have g1 : nI i < nI L := (nI_ltI (by omega) (by omega)).2 hl
    have e1 := c65 (d := d + 4) (Q := fun v h9 => WP (d + 6) 71 22 [.ref 11, .ref 8, .int (nI i)] (v.toList ++ []) h9 Q) (xL := xL) (J := J) (rc := rc) (rx := rx) (rr := rr) h (show i < 2 ^ 31 by omega)
    have e2 := c66 (d := d + 4) (Q := fun v h9 => WP (d + 6) 71 37 [.ref 11, .ref 8, .int (nI i)] (v.toList ++ []) h9 Q) (xL := xL) (J := J) (rc := rc) (rx := rx) (rr := rr) h (show i < 2 ^ 31 by omega)
    have hp : ∀ f, pAt f W L i = f (bt W i) := by intro f; rw [pAt, decide_eq_true hl, Bool.true_and]
    rw [if_pos hl, tKd, tkW, if_neg (show ¬ L ≤ i by omega), if_neg (show ¬ L ≤ i by omega)]
    simp only [w71_0, w71_1, w71_2, h.2.1, w71_5, g1, ↓reduceIte, w71_17, w71_18, w71_19, e1, ↓reduceIte, Option.toList_some, Option.toList_none, List.cons_append, List.nil_append, Int32.reduceAdd, Int32.reduceLT, Int32.reduceLE, Int32.reduceToNatClampNeg, w71_22, hp]
    by_cases h1 : isLt (bt W i) = true
    · have ht : tEnd W L i = rE (pAt isLt W L) (L - i) i := by rw [tEnd, if_pos h1]
      simp only [h1, sB_t, o01, ↓reduceIte, w71_25, w71_26, w71_27, w71_28, c73 (d := d + 3) h hJ h4 hn hl, ↓reduceIte, Option.toList_some, Option.toList_none, List.cons_append, List.nil_append, Int32.reduceAdd, Int32.reduceLT, Int32.reduceLE, Int32.reduceToNatClampNeg, w71_31, ht]
      by_cases h8 : 8 < rE (pAt isLt W L) (L - i) i - i
      · rw [if_pos h8, if_pos h8]; rfl
      · rw [if_neg h8, if_neg h8]
    · have h1' : isLt (bt W i) = false := by simpa using h1
      simp only [h1', sB_f, ↓reduceIte, Bool.false_eq_true, w71_32, w71_33, w71_34, e2, ↓reduceIte, Option.toList_some, Option.toList_none, List.cons_append, List.nil_append, Int32.reduceAdd, Int32.reduceLT, Int32.reduceLE, Int32.reduceToNatClampNeg, w71_37, hp]
      by_cases h2 : isDg (bt W i) = true
      · have ht : tEnd W L i = rE (pAt isDg W L) (L - i) i := by rw [tEnd, if_neg h1, if_pos h2]
        simp only [h2, sB_t, o01, ↓reduceIte, w71_40, w71_41, w71_42, w71_43, c75 (d := d + 3) h h4 hn hl, ↓reduceIte, Option.toList_some, Option.toList_none, List.cons_append, List.nil_append, Int32.reduceAdd, Int32.reduceLT, Int32.reduceLE, Int32.reduceToNatClampNeg, w71_46, ht]
        by_cases h8 : 4 < rE (pAt isDg W L) (L - i) i - i
        · rw [if_pos h8, if_pos h8]; rfl
        · rw [if_neg h8, if_neg h8]; rfl
      · have h2' : isDg (bt W i) = false := by simpa using h2
        have ht : tEnd W L i = i + 1 := by rw [tEnd, if_neg h1, if_neg h2]
        have e3 := c63 (d := d) (f := isSg) (b := 2) (Q := fun v h9 => WP (d + 6) 71 55 [.ref 11, .ref 8, .int (nI i)] (v.toList ++ [.ref 11]) h9 Q) (xL := xL) (J := J) (rc := rc) (rx := rx) (rr := rr) hI h (Or.inr ⟨rfl, rfl⟩) (show i < 2 ^ 31 by omega)
        simp only [h2', sB_f, ↓reduceIte, Bool.false_eq_true, w71_47, w71_48, w71_49, w71_51, w71_52, e3, ↓reduceIte, Option.toList_some, Option.toList_none, List.cons_append, List.nil_append, Int32.reduceAdd, Int32.reduceLT, Int32.reduceLE, Int32.reduceToNatClampNeg, w71_55, hp, gk_sg _ (bt_lt W i), ht]
        by_cases h3 : isSg (bt W i) = true
        · simp only [h3, sB_t, o01, ↓reduceIte, w71_58, w71_59, w71_60, c64 h (show i < 2 ^ 31 by omega), if_pos hl, ↓reduceIte, Option.toList_some, Option.toList_none, List.cons_append, List.nil_append, Int32.reduceAdd, Int32.reduceLT, Int32.reduceLE, Int32.reduceToNatClampNeg, w71_63, w71_67, w71_68, w71_69, c72 h4 hn, w71_72, w71_73, w71_74, nI_1, w71_75]
        · have h3' : isSg (bt W i) = false := by simpa using h3
          simp only [h3', sB_f, ↓reduceIte, Bool.false_eq_true, w71_66, w71_67, w71_68, w71_69, c72 h4 hn, ↓reduceIte, Option.toList_some, Option.toList_none, List.cons_append, List.nil_append, Int32.reduceAdd, Int32.reduceLT, Int32.reduceLE, Int32.reduceToNatClampNeg, w71_72, w71_73, w71_74, nI_1, w71_75]
          rfl
  · have e : i = L := by omega
    subst e
    have g1 : ¬ nI i < nI i := by rw [nI_ltI (by omega) (by omega)]; omega
    rw [if_neg hl, tKd, tkW, if_pos (Nat.le_refl _), if_pos (Nat.le_refl _)]
    simp only [w71_0, w71_1, w71_2, h.2.1, w71_5, g1, ↓reduceIte, w71_8, w71_9, w71_10, w71_11, w71_12, c72 h4 hn, ↓reduceIte, Option.toList_some, Option.toList_none, List.cons_append, List.nil_append, Int32.reduceAdd, Int32.reduceLT, Int32.reduceLE, Int32.reduceToNatClampNeg, w71_15, w71_16]
    rfl
end LXB
