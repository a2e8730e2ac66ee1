/-! Bounds asked for; the first queries of both. -/
def sW (v l m : Int32) : Bool := decide (l ≤ v) && decide (v ≤ m)
theorem i_nlt {x y : Int32} (h : ¬ x < y) : y ≤ x := by rw [Int32.le_iff_toInt_le]; rw [Int32.lt_iff_toInt_lt] at h; omega
theorem i_nle {x y : Int32} (h : ¬ x ≤ y) : y < x := by rw [Int32.lt_iff_toInt_lt]; rw [Int32.le_iff_toInt_le] at h; omega
theorem i_le {x y : Int32} (h : x ≤ y) : ¬ y < x := by rw [Int32.lt_iff_toInt_lt]; rw [Int32.le_iff_toInt_le] at h; omega
theorem i_lt {x y : Int32} (h : x < y) : ¬ y ≤ x := by rw [Int32.le_iff_toInt_le]; rw [Int32.lt_iff_toInt_lt] at h; omega
theorem nb1 : narrow .boolean (.int 1) = .int 1 := by decide
theorem nb0 : narrow .boolean (.int 0) = .int 0 := by decide
def isM (v : Int32) : Bool := sW v 0 11
def isP (η : mHs) (p : Int32) : Bool := decide (0 ≤ p) && decide (p < nI η.1)
def isD (η : mHs) (p : Int32) : Bool := decide (0 ≤ p) && decide (p < nI η.2.1)
theorem sB_t {b : Bool} (h : b = true) : sB01 b = 1 := by subst h; rfl
theorem sB_f {b : Bool} (h : b = false) : sB01 b = 0 := by subst h; rfl
theorem isM_iff {v : Int32} : isM v = true ↔ ∃ n, n < 12 ∧ v = nI n := by
  constructor
  · intro h
    simp only [isM, sW, Bool.and_eq_true, decide_eq_true_eq] at h
    obtain ⟨j, hj, rfl⟩ := nI_of (i_le h.1)
    have := (in_le 11 (by decide) hj).1 h.2
    exact ⟨j, by omega, rfl⟩
  · rintro ⟨n, hn, rfl⟩
    simp only [isM, sW, Bool.and_eq_true, decide_eq_true_eq]
    exact ⟨nI_pos' (by omega), (in_le 11 (by decide) (by omega)).2 (by omega)⟩
theorem sW_iff {v l m : Int32} {a b : Nat} (hl : l.toInt = a) (hm : m.toInt = b) : sW v l m = true ↔ ∃ n, a ≤ n ∧ n ≤ b ∧ v = nI n := by
  have hb : b < 2 ^ 31 := by have := Int32.toInt_lt m; omega
  constructor
  · intro h
    simp only [sW, Bool.and_eq_true, decide_eq_true_eq] at h
    have h0 : ¬ v < 0 := by
      rw [Int32.lt_iff_toInt_lt, show (0 : Int32).toInt = 0 from rfl]
      have := h.1
      rw [Int32.le_iff_toInt_le, hl] at this
      omega
    obtain ⟨j, hj, rfl⟩ := nI_of h0
    exact ⟨j, (ni_le a hl hj).1 h.1, (in_le b hm hj).1 h.2, rfl⟩
  · rintro ⟨n, h1, h2, rfl⟩
    simp only [sW, Bool.and_eq_true, decide_eq_true_eq]
    exact ⟨(ni_le a hl (by omega)).2 h1, (in_le b hm (by omega)).2 h2⟩
theorem isP_iff {η : mHs} (hk : hOk η) {p : Int32} : isP η p = true ↔ ∃ n, n < η.1 ∧ p = nI n := by
  have hn := hk.1
  constructor
  · intro h
    simp only [isP, Bool.and_eq_true, decide_eq_true_eq] at h
    obtain ⟨j, hj, rfl⟩ := nI_of (i_le h.1)
    exact ⟨j, (nI_ltI hj (by omega)).1 h.2, rfl⟩
  · rintro ⟨n, hn, rfl⟩
    simp only [isP, Bool.and_eq_true, decide_eq_true_eq]
    exact ⟨nI_pos' (by omega), nI_lt hn (by omega)⟩
theorem isD_iff {η : mHs} (hk : hOk η) {p : Int32} : isD η p = true ↔ ∃ n, n < η.2.1 ∧ p = nI n := by
  have hn := hk.2.1
  constructor
  · intro h
    simp only [isD, Bool.and_eq_true, decide_eq_true_eq] at h
    obtain ⟨j, hj, rfl⟩ := nI_of (i_le h.1)
    exact ⟨j, (nI_ltI hj (by omega)).1 h.2, rfl⟩
  · rintro ⟨n, hn, rfl⟩
    simp only [isD, Bool.and_eq_true, decide_eq_true_eq]
    exact ⟨nI_pos' (by omega), nI_lt hn (by omega)⟩
section QRY
variable {d : Nat} {xL : Nat} {I : Nat → Nat → Int32} {J : Nat → Nat → Int64} {rc rx rr : Nat} {Q : Option Value → mHp → Prop} {s o : Nat} {η : mHs} {ρ : Nat → Int32}
theorem c95 (v l m : Int32) {h : mHp} : WP d 95 0 [.int v, .int l, .int m] [] h Q = Q (some (.int (sB01 (sW v l m)))) h := by
  simp only [w95_0, w95_1, w95_2, sW]
  by_cases h1 : l ≤ v
  · have h2 := i_le h1
    by_cases h3 : v ≤ m
    · have h4 := i_le h3
      simp only [w95_0, w95_1, w95_2, w95_5, w95_6, w95_7, w95_10, w95_11, w95_14, w95_15, h1, h2, h3, h4, ↓reduceIte, nb1]; rfl
    · have h4 := i_nle h3
      simp only [w95_0, w95_1, w95_2, w95_5, w95_6, w95_7, w95_10, w95_11, w95_14, w95_15, h1, h2, h3, h4, ↓reduceIte, nb0]; rfl
  · have h2 := i_nle h1
    simp only [w95_0, w95_1, w95_2, w95_5, w95_6, w95_7, w95_10, w95_11, w95_14, w95_15, h1, h2, ↓reduceIte, nb0]; rfl
theorem c100 (v : Int32) {h : mHp} : WP d 100 0 [.int v] [] h Q = Q (some (.int (sB01 (isM v)))) h := by
  have e : ∀ v : Int32, v ≤ 11 ↔ v < 12 := fun v => by
    rw [Int32.le_iff_toInt_le, Int32.lt_iff_toInt_lt, show (11 : Int32).toInt = 11 from rfl, show (12 : Int32).toInt = 12 from rfl]; omega
  simp only [isM, sW]
  by_cases h1 : 0 ≤ v
  · have h2 := i_le h1
    by_cases h3 : v ≤ 11
    · have h4 := i_lt ((e v).1 h3)
      simp only [w100_0, w100_1, w100_4, w100_5, w100_7, w100_10, w100_11, w100_14, w100_15, h1, h2, h3, h4, ↓reduceIte, nb1]; rfl
    · have h4 : 12 ≤ v := i_nlt (fun z => h3 ((e v).2 z))
      simp only [w100_0, w100_1, w100_4, w100_5, w100_7, w100_10, w100_11, w100_14, w100_15, h1, h2, h3, h4, ↓reduceIte, nb0]; rfl
  · have h2 := i_nle h1
    simp only [w100_0, w100_1, w100_4, w100_5, w100_7, w100_10, w100_11, w100_14, w100_15, h1, h2, ↓reduceIte, nb0]; rfl
theorem c83 (hh : mXh I rx η) (v : Int32) : WP d 83 0 [.ref 7, .int v] [] (mHh xL I J (mRf rc rx rr)) Q = Q (some (.int (sB01 (isP η v)))) (mHh xL I J (mRf rc rx rr)) := by
  have hHo := hh.1
  simp only [isP]
  by_cases h1 : 0 ≤ v
  · have h2 := i_le h1
    by_cases h3 : v < nI η.1
    · have h4 := i_lt h3
      simp only [w83_0, w83_1, w83_4, w83_5, w83_6, w83_9, w83_12, w83_15, w83_16, w83_19, w83_20, hHo, hh.2.1, h1, h2, h3, h4, ↓reduceIte, nb1]; rfl
    · have h4 := i_nlt h3
      simp only [w83_0, w83_1, w83_4, w83_5, w83_6, w83_9, w83_12, w83_15, w83_16, w83_19, w83_20, hHo, hh.2.1, h1, h2, h3, h4, ↓reduceIte, nb0]; rfl
  · have h2 := i_nle h1
    simp only [w83_0, w83_1, w83_4, w83_5, w83_6, w83_9, w83_12, w83_15, w83_16, w83_19, w83_20, h1, h2, ↓reduceIte, nb0]; rfl
theorem c85 (hh : mXh I rx η) (v : Int32) : WP d 85 0 [.ref 7, .int v] [] (mHh xL I J (mRf rc rx rr)) Q = Q (some (.int (sB01 (isD η v)))) (mHh xL I J (mRf rc rx rr)) := by
  have hHo := hh.1
  simp only [isD]
  by_cases h1 : 0 ≤ v
  · have h2 := i_le h1
    by_cases h3 : v < nI η.2.1
    · have h4 := i_lt h3
      simp only [w85_0, w85_1, w85_4, w85_5, w85_6, w85_9, w85_12, w85_15, w85_16, w85_19, w85_20, hHo, hh.2.2.1, h1, h2, h3, h4, ↓reduceIte, nb1]; rfl
    · have h4 := i_nlt h3
      simp only [w85_0, w85_1, w85_4, w85_5, w85_6, w85_9, w85_12, w85_15, w85_16, w85_19, w85_20, hHo, hh.2.2.1, h1, h2, h3, h4, ↓reduceIte, nb0]; rfl
  · have h2 := i_nle h1
    simp only [w85_0, w85_1, w85_4, w85_5, w85_6, w85_9, w85_12, w85_15, w85_16, w85_19, w85_20, h1, h2, ↓reduceIte, nb0]; rfl
theorem sB_nb (b : Bool) : narrow .boolean (.int (sB01 b)) = .int (sB01 b) := by cases b <;> decide
theorem c203 (v : Int32) {h : mHp} : WP (d + 1) 203 0 [.int v] [] h Q = Q (some (.int (sB01 (isM v)))) h := by
  simp only [w203_0, w203_1, w203_2, w203_4, w203_7, c170, ↓reduceIte, Option.toList_some, Option.toList_none, List.cons_append, List.nil_append, Int32.reduceAdd, Int32.reduceLT, Int32.reduceLE, Int32.reduceToNatClampNeg, isM, sW, sB_nb]
theorem c195 (v : Int32) {h : mHp} : WP (d + 1) 195 0 [.int v] [] h Q = Q (some (.int (sB01 (sW v 0 200)))) h := by
  simp only [w195_0, w195_1, w195_2, w195_5, w195_8, c170, ↓reduceIte, Option.toList_some, Option.toList_none, List.cons_append, List.nil_append, Int32.reduceAdd, Int32.reduceLT, Int32.reduceLE, Int32.reduceToNatClampNeg, sW, sB_nb]
theorem c215 (v : Int32) {h : mHp} : WP (d + 1) 215 0 [.int v] [] h Q = Q (some (.int (sB01 (sW v 0 60)))) h := by
  simp only [w215_0, w215_1, w215_2, w215_4, w215_7, c170, ↓reduceIte, Option.toList_some, Option.toList_none, List.cons_append, List.nil_append, Int32.reduceAdd, Int32.reduceLT, Int32.reduceLE, Int32.reduceToNatClampNeg, sW, sB_nb]
theorem le_pred {n : Nat} (hn : n ≤ 100) (v : Int32) : decide (v ≤ nI n - 1) = decide (v < nI n) := by
  have e : (nI n - 1).toInt = (n : Int) - 1 := pk_sub_toInt (a := n) (b := 1) (by omega) (by omega)
  apply decide_eq_decide.2
  rw [Int32.le_iff_toInt_le, Int32.lt_iff_toInt_lt, e, nI_toInt (by omega)]; omega
theorem c169 (hh : mMh I s η) (hk : hOk η) (v : Int32) : WP (d + 1) 169 0 [.ref 180, .int v] [] (mHh xL I J (mRf rc rx rr)) Q = Q (some (.int (sB01 (isP η v)))) (mHh xL I J (mRf rc rx rr)) := by
  have hs := hh.1
  have hn := hk.1
  have s1 : mIn (nI s) 2 = true := mIn_nI (by omega) (by omega)
  have s2 : (nI s).toNatClampNeg = s := nI_clamp (by omega)
  simp only [w169_0, w169_1, w169_2, w169_3, w169_6, w169_7, w169_10, w169_11, w169_12, w169_13, w169_16, hh.2.1, s1, s2, hh.2.2.1, c170, ↓reduceIte, Option.toList_some, Option.toList_none, List.cons_append, List.nil_append, Int32.reduceAdd, Int32.reduceLT, Int32.reduceLE, Int32.reduceToNatClampNeg, isP, sB_nb, le_pred (show η.1 ≤ 100 by omega)]
theorem c184 (hh : mMh I s η) (hk : hOk η) (v : Int32) : WP (d + 1) 184 0 [.ref 180, .int v] [] (mHh xL I J (mRf rc rx rr)) Q = Q (some (.int (sB01 (isD η v)))) (mHh xL I J (mRf rc rx rr)) := by
  have hs := hh.1
  have hn := hk.2.1
  have s1 : mIn (nI s) 2 = true := mIn_nI (by omega) (by omega)
  have s2 : (nI s).toNatClampNeg = s := nI_clamp (by omega)
  simp only [w184_0, w184_1, w184_2, w184_3, w184_6, w184_7, w184_10, w184_11, w184_12, w184_13, w184_16, hh.2.1, s1, s2, hh.2.2.2.1, c170, ↓reduceIte, Option.toList_some, Option.toList_none, List.cons_append, List.nil_append, Int32.reduceAdd, Int32.reduceLT, Int32.reduceLE, Int32.reduceToNatClampNeg, isD, sB_nb, le_pred (show η.2.1 ≤ 100 by omega)]
end QRY
