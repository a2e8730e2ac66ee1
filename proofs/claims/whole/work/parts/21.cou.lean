/-! The house and what the course tells by it. -/
/-- people, doings, the tables (0 first moods, 1 sways, 2 whose, 3 first, 4 last marks, 5 how much), slips, seed, the laws -/
abbrev mHs := Nat × Nat × (Nat → Nat → Int32) × Int32 × Int32 × (Nat → Option (List mIf × mCod))
def hT (η : mHs) (k i : Nat) : Int32 := η.2.2.1 k i
def hL (η : mHs) (k : Nat) : Option (List mIf × mCod) := η.2.2.2.2.2 k
/-- the laws where none is told -/
def mDf (k : Nat) : List mIf × mCod := if k = 0 then ([], [(1, 0)]) else if k = 1 then ([], [(1, 1), (1, 7), (2, 0)]) else if k = 2 then ([], [(1, 1)]) else ([], [(0, 1)])
def hW (η : mHs) (k : Nat) : List mIf × mCod := (hL η k).getD (mDf k)
def mMs (k : Nat) (i : Nat) : Bool := (if k = 0 then [0, 4, 5, 8] else if k = 1 then [0, 1, 2, 3, 4, 5, 6, 7, 8] else if k = 2 then [0, 1, 2, 3, 4, 5, 6, 8] else [0, 3, 4, 5, 8]).contains i
def hOk (η : mHs) : Prop := η.1 ≤ 5 ∧ η.2.1 ≤ 6 ∧ (∀ p, p < η.1 → ∃ n, n ≤ 20 ∧ hT η 0 p = nI n) ∧ (∀ i, i < η.2.1 → ∃ n, n < η.1 ∧ hT η 2 i = nI n) ∧ (∀ k, k < 4 → mLo (hW η k).1 (hW η k).2)
def mXh (I : Nat → Nat → Int32) (o : Nat) (η : mHs) : Prop := mHo o ∧ I o 12 = nI η.1 ∧ I o 13 = nI η.2.1 ∧ I o 14 = η.2.2.2.1 ∧ I o 15 = η.2.2.2.2.1 ∧ (∀ p, p < η.1 → I (o + 2) p = hT η 0 p ∧ I (o + 3) p = hT η 1 p) ∧ (∀ i, i < η.2.1 → I (o + 5) i = hT η 2 i ∧ I (o + 6) i = hT η 3 i ∧ I (o + 7) i = hT η 4 i ∧ I (o + 8) i = hT η 5 i) ∧ (∀ k, k < 4 → mXw I (o + 9 + 3 * k) (mMs k) (hW η k).1 (hW η k).2)
/-- a row: moods of 0 .. 20, 0 for nobody; the hour; the taps; what is forbidden -/
def rOk (η : mHs) (ρ : Nat → Int32) : Prop := (∀ p, p < 5 → ∃ n, n ≤ 20 ∧ ρ p = nI n) ∧ (∀ p, η.1 ≤ p → p < 5 → ρ p = 0) ∧ (∃ n, n ≤ 2 ^ 30 ∧ ρ 5 = nI n) ∧ (∃ n, n ≤ 9 ∧ ρ 6 = nI n) ∧ (∃ n, n < 2 ^ η.2.1 ∧ ρ 7 = nI n) ∧ (∀ k, 8 ≤ k → ρ k = 0)
def rS (ρ : Nat → Int32) : Int32 := ρ 0 + ρ 1 + ρ 2 + ρ 3 + ρ 4
def rM (ρ : Nat → Int32) : Int32 := mMx (mMx (mMx (mMx (mMx 0 (ρ 0)) (ρ 1)) (ρ 2)) (ρ 3)) (ρ 4)
def rH (ρ : Nat → Int32) : Int32 := ρ 5 - ρ 5 / 24 * 24
/-- what is told for all laws -/
def rV (ρ : Nat → Int32) (i : Nat) : Int32 := if i = 0 then rS ρ else if i = 8 then rM ρ else if i = 4 then rH ρ else if i = 5 then ρ 6 else 0
def sL (η : mHs) (k : Nat) (V : Nat → Int32) : Int32 := mLe V (hW η k).1 (hW η k).2
def sHd (v m : Int32) : Int32 := if v < 0 then 0 else if m < v then m else v
def sR12 (v : Int32) : Int32 := v - v / 12 * 12
def sRest (η : mHs) (ρ : Nat → Int32) : Int32 := if sL η 0 (rV ρ) < 0 then 0 else sR12 (sL η 0 (rV ρ))
def sJmp (η : mHs) (ρ : Nat → Int32) : Int32 := sHd (sL η 3 (fun i => if i = 3 then sRest η ρ else rV ρ i)) 11
def sMrk (η : mHs) (ρ : Nat → Int32) : Int32 := sR12 (sRest η ρ + sJmp η ρ * ρ 6)
def sDft (η : mHs) (ρ : Nat → Int32) (p : Nat) (v : Int32) : Int32 := sHd (sL η 2 (fun i => if i = 1 then ρ p else if i = 2 then hT η 1 p else if i = 3 then v else if i = 6 then nI p else rV ρ i)) 20
def sChg (η : mHs) (ρ : Nat → Int32) (i : Nat) (v : Int32) : Int32 := sHd (sL η 1 (fun j => if j = 1 then ρ (hT η 2 i).toNatClampNeg else if j = 2 then hT η 1 (hT η 2 i).toNatClampNeg else if j = 3 then v else if j = 6 then nI i else if j = 7 then hT η 5 i else rV ρ j)) 20
def sMix (h v : Int32) : Int32 := ((h ^^^ v) * 1103515245 + 12345) ^^^ (((h ^^^ v) * 1103515245 + 12345).toUInt32 >>> (Int32.toUInt32 15 &&& Int32.toUInt32 31)).toInt32
def sLot (s w : Int32) : Int32 := ((sMix (sMix s 193) w).toUInt32 >>> (Int32.toUInt32 1 &&& Int32.toUInt32 31)).toInt32
def sSlp (η : mHs) (ρ : Nat → Int32) (s : Int32) : Bool := decide (sLot s (4 * ρ 5) - sLot s (4 * ρ 5) / 100 * 100 < η.2.2.2.1)
section COU
variable {d : Nat} {xL : Nat} {I : Nat → Nat → Int32} {J : Nat → Nat → Int64} {rc rx rr : Nat} {Q : Option Value → mHp → Prop} {a o : Nat} {η : mHs} {ρ : Nat → Int32}
theorem c8 (v m : Int32) {h : mHp} : WP d 8 0 [.int v, .int m] [] h Q = Q (some (.int (sHd v m))) h := by
  simp only [w8_0, w8_1, sHd]
  by_cases h1 : v < 0
  · have h2 : ¬ 0 ≤ v := by rw [Int32.le_iff_toInt_le]; rw [Int32.lt_iff_toInt_lt] at h1; omega
    simp only [h1, h2, ↓reduceIte, w8_4, w8_5, w8_18]
  · have h2 : 0 ≤ v := by rw [Int32.le_iff_toInt_le]; rw [Int32.lt_iff_toInt_lt] at h1; omega
    simp only [h1, h2, ↓reduceIte, w8_8, w8_9, w8_10]
    by_cases h3 : m < v
    · have h4 : ¬ v ≤ m := by rw [Int32.le_iff_toInt_le]; rw [Int32.lt_iff_toInt_lt] at h3; omega
      simp only [h3, h4, ↓reduceIte, w8_13, w8_14, w8_18]
    · have h4 : v ≤ m := by rw [Int32.le_iff_toInt_le]; rw [Int32.lt_iff_toInt_lt] at h3; omega
      simp only [h3, h4, ↓reduceIte, w8_17, w8_18]
theorem c14 (x v : Int32) {h : mHp} : WP d 14 0 [.int x, .int v, mDum] [] h Q = Q (some (.int (sMix x v))) h := by
  simp only [w14_0, w14_1, w14_2, w14_3, w14_5, w14_6, w14_9, w14_10, w14_11, w14_12, w14_13, w14_15, w14_16, w14_17, sMix]
theorem c13 (s w : Int32) : WP (d + 1) 13 0 [.int s, .int w, mDum] [] (mHh xL I J (mRf rc rx rr)) Q = Q (some (.int (sLot s w - sLot s w / 100 * 100))) (mHh xL I J (mRf rc rx rr)) := by
  simp only [w13_0, w13_1, w13_4, w13_7, w13_8, w13_11, w13_12, w13_13, w13_14, w13_15, w13_17, w13_18, c14, ↓reduceIte, Option.toList_some, Option.toList_none, List.cons_append, List.nil_append, Int32.reduceAdd, Int32.reduceLT, Int32.reduceLE, Int32.reduceToNatClampNeg, sLot]
theorem mRw_5 {I : Nat → Nat → Int32} {a : Nat} (h : mRw I a = ρ) : I a 1 = ρ 5 ∧ I a 2 = ρ 6 ∧ I a 3 = ρ 7 := by
  subst h; exact ⟨rfl, rfl, rfl⟩
theorem mRw_p {I : Nat → Nat → Int32} {a : Nat} (h : mRw I a = ρ) {p : Nat} (hp : p < 5) : I (a + 1) p = ρ p := by
  subst h; rw [mRw, if_pos hp]
theorem c12 (hh : mXh I rc η) (s : Int32) (hr : mRw I a = ρ) {x : Int32} (hx : x = ρ 5) : WP (d + 2) 12 0 [.ref 37, .int x, .int s] [] (mHh xL I J (mRf rc rx rr)) Q = Q (some (.int (if sSlp η ρ s then 1 else 0))) (mHh xL I J (mRf rc rx rr)) := by
  obtain ⟨ho, -, -, h3, -⟩ := hh
  have nb1 : narrow .boolean (.int 1) = .int 1 := by decide
  have nb0 : narrow .boolean (.int 0) = .int 0 := by decide
  subst hx
  simp only [w12_0, w12_1, w12_2, w12_3, w12_4, w12_7, w12_8, w12_11, w12_14, w12_17, w12_18, w12_21, w12_22, c13, ↓reduceIte, Option.toList_some, Option.toList_none, List.cons_append, List.nil_append, Int32.reduceAdd, Int32.reduceLT, Int32.reduceLE, Int32.reduceToNatClampNeg, h3, sSlp, ho, decide_eq_true_eq, nb1, nb0]
  by_cases h1 : sLot s (4 * ρ 5) - sLot s (4 * ρ 5) / 100 * 100 < η.2.2.2.1
  · have h4 : ¬ η.2.2.2.1 ≤ sLot s (4 * ρ 5) - sLot s (4 * ρ 5) / 100 * 100 := by rw [Int32.le_iff_toInt_le]; rw [Int32.lt_iff_toInt_lt] at h1; omega
    simp only [h1, h4, ↓reduceIte]
  · have h4 : η.2.2.2.1 ≤ sLot s (4 * ρ 5) - sLot s (4 * ρ 5) / 100 * 100 := by rw [Int32.le_iff_toInt_le]; rw [Int32.lt_iff_toInt_lt] at h1; omega
    simp only [h1, h4, ↓reduceIte]
def pS (ρ : Nat → Int32) : Nat → Int32
  | 0 => 0
  | k + 1 => pS ρ k + ρ k
def pM (ρ : Nat → Int32) : Nat → Int32
  | 0 => 0
  | k + 1 => mMx (pM ρ k) (ρ k)
theorem mMx_z {x : Int32} (h : ¬ x < 0) : mMx x 0 = x := by rw [mMx, if_neg h]
theorem mMx_p {x y : Int32} (h : ¬ x < 0) : ¬ mMx x y < 0 := by
  rw [mMx]; split
  · rename_i h1
    rw [Int32.lt_iff_toInt_lt] at *
    have : (0 : Int32).toInt = 0 := rfl
    omega
  · exact h
theorem pM_p {ρ : Nat → Int32} : ∀ k, ¬ pM ρ k < 0 := by
  intro k
  induction k with
  | zero => exact (by decide : ¬ (0 : Int32) < 0)
  | succ k ih => exact mMx_p ih
theorem pS_all {η : mHs} {ρ : Nat → Int32} (h : rOk η ρ) (hn : η.1 ≤ 5) : pS ρ η.1 = rS ρ ∧ pM ρ η.1 = rM ρ := by
  have z := h.2.1
  have e5 : pS ρ 5 = rS ρ ∧ pM ρ 5 = rM ρ := ⟨by simp only [pS, rS, Int32.zero_add], rfl⟩
  have st : ∀ j, η.1 + j ≤ 5 → pS ρ (η.1 + j) = pS ρ η.1 ∧ pM ρ (η.1 + j) = pM ρ η.1 := by
    intro j
    induction j with
    | zero => intro _; exact ⟨rfl, rfl⟩
    | succ j ih =>
      intro hj
      obtain ⟨i1, i2⟩ := ih (by omega)
      have z1 := z (η.1 + j) (by omega) (by omega)
      rw [← Nat.add_assoc, pS, pM, z1, Int32.add_zero, mMx_z (pM_p _)]
      exact ⟨i1, i2⟩
  have := st (5 - η.1) (by omega)
  rw [show η.1 + (5 - η.1) = 5 by omega] at this
  exact ⟨by rw [← this.1]; exact e5.1, by rw [← this.2]; exact e5.2⟩
def mSee (I : Nat → Nat → Int32) (ρ : Nat → Int32) : Prop := I 38 0 = rS ρ ∧ I 38 8 = rM ρ ∧ I 38 4 = rH ρ ∧ I 38 5 = ρ 6
theorem st_big {a : Nat} (ha : mSt a) : 60 < a := by
  have h1 : mStL.all (fun s => decide (60 < s)) = true := by decide +kernel
  have h2 := List.all_eq_true.mp h1 a ha
  simpa using h2
theorem c6 (ha : mSt a) (hk : hOk η) (hh : mXh I rc η) (hr : mRw I a = ρ) (ho : rOk η ρ) (hQ : ∀ I' : Nat → Nat → Int32, (∀ b, b ≠ 38 → I' b = I b) → (∀ k, k ≠ 0 → k ≠ 8 → k ≠ 4 → k ≠ 5 → I' 38 k = I 38 k) → mSee I' ρ → Q none (mHh xL I' J (mRf rc rx rr))) :
    WP d 6 0 [.ref 37, .ref a, mDum, mDum, mDum, mDum] [] (mHh xL I J (mRf rc rx rr)) Q := by
  obtain ⟨-, -, k3, k4, -⟩ := st_k ha
  obtain ⟨hHo, hP, -⟩ := hh
  have hn : η.1 ≤ 5 := hk.1
  obtain ⟨r5, r6, -⟩ := mRw_5 hr
  have big := st_big ha
  have n38 : a ≠ 38 := by omega
  simp only [w6_0, w6_1, w6_2, w6_3, w6_4, w6_5]
  have key : ∀ k, k ≤ η.1 → ∀ v5, WP d 6 7 [.ref 37, .ref a, .int (pS ρ k), .int (pM ρ k), .int (nI k), v5] [] (mHh xL I J (mRf rc rx rr)) Q := by
    refine iter_dn ?_ ?_
    · intro k hk1 ih v5
      have h1 : ¬ nI η.1 ≤ nI k := nI_ge hk1 (by omega)
      have h2 : mIn (nI k) 5 = true := mIn_nI (by omega) (by omega)
      have h3 : (nI k).toNatClampNeg = k := nI_clamp (by omega)
      have h4 : I (a + 1) k = ρ k := mRw_p hr (by omega)
      simp only [w6_7, w6_9, w6_10, w6_13, hHo, w6_16, hP, h1, ↓reduceIte, w6_19, w6_20, ha, w6_23, w6_25, k3, k4, h2, h3, h4, w6_26, w6_28, w6_29, w6_31, w6_32, w6_33, w6_35, w6_36]
      have e : ∀ c : Prop, ∀ [Decidable c], c = (ρ k ≤ pM ρ k) → (if ρ k ≤ pM ρ k then WP d 6 44 [.ref 37, .ref a, .int (pS ρ k + ρ k), .int (pM ρ k), .int (nI k), .int (ρ k)] [] (mHh xL I J (mRf rc rx rr)) Q else WP d 6 39 [.ref 37, .ref a, .int (pS ρ k + ρ k), .int (pM ρ k), .int (nI k), .int (ρ k)] [] (mHh xL I J (mRf rc rx rr)) Q) := by
        intro c _ _
        have := ih (.int (ρ k))
        rw [pS, pM, mMx] at this
        split
        · rename_i h5
          have h6 : ¬ pM ρ k < ρ k := by rw [Int32.lt_iff_toInt_lt]; rw [Int32.le_iff_toInt_le] at h5; omega
          rw [if_neg h6] at this
          simp only [w6_44, w6_45, w6_46, w6_49, nI_1]
          exact this
        · rename_i h5
          have h6 : pM ρ k < ρ k := by rw [Int32.lt_iff_toInt_lt]; rw [Int32.le_iff_toInt_le] at h5; omega
          rw [if_pos h6] at this
          simp only [w6_39, w6_41, w6_45, w6_46, w6_49, nI_1]
          exact this
      exact e _ rfl
    · intro v5
      have h1 : nI η.1 ≤ nI η.1 := nI_le (Nat.le_refl _) (by omega)
      obtain ⟨e1, e2⟩ := pS_all ho hn
      simp only [w6_7, w6_9, w6_10, w6_13, hHo, w6_16, hP, h1, ↓reduceIte, w6_52, w6_53, w6_56, w6_57, w6_58, w6_59, w6_60, w6_63, w6_65, w6_66, w6_67, w6_68, w6_71, w6_72, w6_73, ha, w6_76, w6_78, w6_79, w6_80, w6_81, w6_84, w6_85, w6_86, w6_89, w6_90, mU_a n38]
      refine hQ _ ?_ ?_ ?_
      · intro b hb
        rw [mU_f hb, mU_f hb, mU_f hb, mU_f hb]
      · intro k q0 q8 q4 q5
        rw [mU_k q5, mU_k q4, mU_k q8, mU_k q0]
      · refine ⟨?_, ?_, ?_, ?_⟩
        · rw [mU_k (by decide), mU_k (by decide), mU_k (by decide), mU_s, e1]
        · rw [mU_k (by decide), mU_k (by decide), mU_s, e2]
        · rw [mU_k (by decide), mU_s, r5]; rfl
        · rw [mU_s, r6]
  exact key 0 (by omega) _
def fX (I I' : Nat → Nat → Int32) : Prop := ∀ b, b ≠ 38 → b ≠ 39 → b ≠ 40 → I' b = I b
theorem fX_t {I I1 I2 : Nat → Nat → Int32} (h1 : fX I I1) (h2 : fX I1 I2) : fX I I2 := fun b x y z => by rw [h2 b x y z, h1 b x y z]
theorem mXw_keep {I I' : Nat → Nat → Int32} {l : Nat} {ms : Nat → Bool} {is : List mIf} {e : mCod} (h0 : I' l = I l) (h1 : I' (l + 1) = I (l + 1)) (h2 : I' (l + 2) = I (l + 2)) (h : mXw I l ms is e) : mXw I' l ms is e := by
  obtain ⟨w1, w2, w3, w4⟩ := h
  exact ⟨w1, w2, by rw [h0]; exact w3, by rw [h1, h2]; exact w4⟩
theorem mXh_keep {I I' : Nat → Nat → Int32} {o : Nat} {η : mHs} (hk : ∀ b, b < 37 ∨ (41 ≤ b ∧ b < 62) → I' b = I b) (h : mXh I o η) : mXh I' o η := by
  obtain ⟨ho, h1, h2, h3, h4, h5, h6, h7⟩ := h
  have q : ∀ j, j < 21 → (o + j < 37 ∨ (41 ≤ o + j ∧ o + j < 62)) := by
    intro j hj
    rcases ho with rfl | rfl <;> omega
  have q0 := hk o (q 0 (by omega))
  refine ⟨ho, by rw [q0]; exact h1, by rw [q0]; exact h2, by rw [q0]; exact h3, by rw [q0]; exact h4, ?_, ?_, ?_⟩
  · rw [hk _ (q 2 (by omega)), hk _ (q 3 (by omega))]; exact h5
  · rw [hk _ (q 5 (by omega)), hk _ (q 6 (by omega)), hk _ (q 7 (by omega)), hk _ (q 8 (by omega))]; exact h6
  · intro k hk4
    exact mXw_keep (hk _ (by have := q (9 + 3 * k) (by omega); rw [← Nat.add_assoc] at this; exact this)) (hk _ (by have := q (9 + 3 * k + 1) (by omega); rw [← Nat.add_assoc, ← Nat.add_assoc] at this; exact this)) (hk _ (by have := q (9 + 3 * k + 2) (by omega); rw [← Nat.add_assoc, ← Nat.add_assoc] at this; exact this)) (h7 k hk4)
theorem fX_h {I I' : Nat → Nat → Int32} {o : Nat} {η : mHs} (hf : fX I I') (h : mXh I o η) : mXh I' o η := mXh_keep (fun b hb => hf b (by omega) (by omega) (by omega)) h
theorem mRw_keep {I I' : Nat → Nat → Int32} {a : Nat} {ρ : Nat → Int32} (h0 : I' a = I a) (h1 : I' (a + 1) = I (a + 1)) (h : mRw I a = ρ) : mRw I' a = ρ := by
  rw [← h]; funext k; simp only [mRw, h0, h1]
theorem fX_r {I I' : Nat → Nat → Int32} {a : Nat} {ρ : Nat → Int32} (ha : mSt a) (hf : fX I I') (h : mRw I a = ρ) : mRw I' a = ρ := by
  have := st_big ha
  exact mRw_keep (hf a (by omega) (by omega) (by omega)) (hf _ (by omega) (by omega) (by omega)) h
theorem mHo_la {o : Nat} (h : mHo o) : mLa (o + 9) ∧ mLa (o + 12) ∧ mLa (o + 15) ∧ mLa (o + 18) := by
  rcases h with rfl | rfl <;> (unfold mLa; decide)
theorem i9 {P : Nat → Prop} (h0 : P 0) (h1 : P 1) (h2 : P 2) (h3 : P 3) (h4 : P 4) (h5 : P 5) (h6 : P 6) (h7 : P 7) (h8 : P 8) : ∀ i, i < 9 → P i := by
  intro i hi
  have : i = 0 ∨ i = 1 ∨ i = 2 ∨ i = 3 ∨ i = 4 ∨ i = 5 ∨ i = 6 ∨ i = 7 ∨ i = 8 := by omega
  rcases this with rfl | rfl | rfl | rfl | rfl | rfl | rfl | rfl | rfl <;> assumption
theorem rV_0 (ρ : Nat → Int32) (i : Nat) (h : mMs 0 i = false) : rV ρ i = 0 := by
  have h1 : ¬ i = 0 := by rintro rfl; exact absurd h (by decide)
  have h2 : ¬ i = 4 := by rintro rfl; exact absurd h (by decide)
  have h3 : ¬ i = 5 := by rintro rfl; exact absurd h (by decide)
  have h4 : ¬ i = 8 := by rintro rfl; exact absurd h (by decide)
  rw [rV, if_neg h1, if_neg h4, if_neg h2, if_neg h3]
theorem rV_3 (ρ : Nat → Int32) (x : Int32) (i : Nat) (h : mMs 3 i = false) : (if i = 3 then x else rV ρ i) = 0 := by
  have h1 : ¬ i = 0 := by rintro rfl; exact absurd h (by decide)
  have h2 : ¬ i = 4 := by rintro rfl; exact absurd h (by decide)
  have h3 : ¬ i = 5 := by rintro rfl; exact absurd h (by decide)
  have h4 : ¬ i = 8 := by rintro rfl; exact absurd h (by decide)
  have h5 : ¬ i = 3 := by rintro rfl; exact absurd h (by decide)
  rw [if_neg h5, rV, if_neg h1, if_neg h4, if_neg h2, if_neg h3]
theorem rV_2 (ρ : Nat → Int32) (x y z w : Int32) (i : Nat) (h : mMs 2 i = false) : (if i = 1 then x else if i = 2 then y else if i = 3 then z else if i = 6 then w else rV ρ i) = 0 := by
  have h1 : ¬ i = 0 := by rintro rfl; exact absurd h (by decide)
  have h2 : ¬ i = 4 := by rintro rfl; exact absurd h (by decide)
  have h3 : ¬ i = 5 := by rintro rfl; exact absurd h (by decide)
  have h4 : ¬ i = 8 := by rintro rfl; exact absurd h (by decide)
  have h5 : ¬ i = 3 := by rintro rfl; exact absurd h (by decide)
  have h6 : ¬ i = 1 := by rintro rfl; exact absurd h (by decide)
  have h7 : ¬ i = 2 := by rintro rfl; exact absurd h (by decide)
  have h8 : ¬ i = 6 := by rintro rfl; exact absurd h (by decide)
  rw [if_neg h6, if_neg h7, if_neg h5, if_neg h8, rV, if_neg h1, if_neg h4, if_neg h2, if_neg h3]
theorem rV_1 (ρ : Nat → Int32) (x y z w u : Int32) (i : Nat) (h : mMs 1 i = false) : (if i = 1 then x else if i = 2 then y else if i = 3 then z else if i = 6 then w else if i = 7 then u else rV ρ i) = 0 := by
  have h1 : ¬ i = 0 := by rintro rfl; exact absurd h (by decide)
  have h2 : ¬ i = 4 := by rintro rfl; exact absurd h (by decide)
  have h3 : ¬ i = 5 := by rintro rfl; exact absurd h (by decide)
  have h4 : ¬ i = 8 := by rintro rfl; exact absurd h (by decide)
  have h5 : ¬ i = 3 := by rintro rfl; exact absurd h (by decide)
  have h6 : ¬ i = 1 := by rintro rfl; exact absurd h (by decide)
  have h7 : ¬ i = 2 := by rintro rfl; exact absurd h (by decide)
  have h8 : ¬ i = 6 := by rintro rfl; exact absurd h (by decide)
  have h9 : ¬ i = 7 := by rintro rfl; exact absurd h (by decide)
  rw [if_neg h6, if_neg h7, if_neg h5, if_neg h8, if_neg h9, rV, if_neg h1, if_neg h4, if_neg h2, if_neg h3]
theorem sR_x (x : Int32) : (if 0 < x then x else 0) - (if 0 < x then x else 0) / 12 * 12 = if x < 0 then 0 else sR12 x := by
  by_cases h : 0 < x
  · have h2 : ¬ x < 0 := by rw [Int32.lt_iff_toInt_lt] at *; omega
    rw [if_pos h, if_neg h2]; rfl
  · rw [if_neg h]
    by_cases h2 : x < 0
    · rw [if_pos h2]; rfl
    · have h3 : x = 0 := by
        rw [Int32.lt_iff_toInt_lt] at *
        rw [← Int32.toInt_inj]
        have : (0 : Int32).toInt = 0 := rfl
        omega
      subst h3; rfl
theorem rV0 (ρ : Nat → Int32) : rV ρ 0 = rS ρ := if_pos rfl
theorem rV8 (ρ : Nat → Int32) : rV ρ 8 = rM ρ := by rw [rV, if_neg (by decide), if_pos rfl]
theorem rV4 (ρ : Nat → Int32) : rV ρ 4 = rH ρ := by rw [rV, if_neg (by decide), if_neg (by decide), if_pos rfl]
theorem rV5 (ρ : Nat → Int32) : rV ρ 5 = ρ 6 := by rw [rV, if_neg (by decide), if_neg (by decide), if_neg (by decide), if_pos rfl]
theorem hh_l {I : Nat → Nat → Int32} {o : Nat} {η : mHs} (h : mXh I o η) : mXw I (o + 9) (mMs 0) (hW η 0).1 (hW η 0).2 ∧ mXw I (o + 12) (mMs 1) (hW η 1).1 (hW η 1).2 ∧ mXw I (o + 15) (mMs 2) (hW η 2).1 (hW η 2).2 ∧ mXw I (o + 18) (mMs 3) (hW η 3).1 (hW η 3).2 := by
  have h7 := h.2.2.2.2.2.2.2
  have a0 := h7 0 (by omega)
  have a1 := h7 1 (by omega)
  have a2 := h7 2 (by omega)
  have a3 := h7 3 (by omega)
  rw [show o + 9 + 3 * 0 = o + 9 by omega] at a0
  rw [show o + 9 + 3 * 1 = o + 12 by omega] at a1
  rw [show o + 9 + 3 * 2 = o + 15 by omega] at a2
  rw [show o + 9 + 3 * 3 = o + 18 by omega] at a3
  exact ⟨a0, a1, a2, a3⟩
theorem c5 (ha : mSt a) (hk : hOk η) (hh : mXh I rc η) (hr : mRw I a = ρ) (ho : rOk η ρ) (hQ : ∀ I' : Nat → Nat → Int32, fX I I' → mSee I' ρ → I' 38 3 = sRest η ρ → Q (some (.int (sJmp η ρ))) (mHh xL I' J (mRf rc rx rr))) :
    WP (d + 2) 5 0 [.ref 37, .ref a] [] (mHh xL I J (mRf rc rx rr)) Q := by
  have hHo := hh.1
  obtain ⟨l0, -, -, l3⟩ := mHo_la hHo
  simp only [w5_0, w5_1, w5_2]
  refine c6 ha hk hh hr ho ?_
  intro I1 f1 g1 s1
  have hh1 : mXh I1 rc η := fX_h (fun b h8 _ _ => f1 b h8) hh
  simp only [↓reduceIte, Option.toList_some, Option.toList_none, List.cons_append, List.nil_append, Int32.reduceAdd, Int32.reduceLT, Int32.reduceLE, Int32.reduceToNatClampNeg, w5_5, w5_6, w5_9, w5_10, w5_11, w5_12, w5_13, w5_16, hHo, w5_19]
  refine c7 l0 (V := rV ρ) (rV_0 ρ) (hh_l hh1).1 (i9 (fun _ => by rw [rV0]; exact s1.1) (fun z => absurd z (by decide)) (fun z => absurd z (by decide)) (fun z => absurd z (by decide)) (fun _ => by rw [rV4]; exact s1.2.2.1) (fun _ => by rw [rV5]; exact s1.2.2.2) (fun z => absurd z (by decide)) (fun z => absurd z (by decide)) (fun _ => by rw [rV8]; exact s1.2.1)) ?_
  intro I2 f2
  have e0 : mLe (rV ρ) (hW η 0).1 (hW η 0).2 = sL η 0 (rV ρ) := rfl
  simp only [↓reduceIte, Option.toList_some, Option.toList_none, List.cons_append, List.nil_append, Int32.reduceAdd, Int32.reduceLT, Int32.reduceLE, Int32.reduceToNatClampNeg, w5_22, w5_25, w5_27, w5_28, w5_29, w5_30, w5_31, w5_34, hHo, w5_37, e0, sR_x]
  have e1 : (if sL η 0 (rV ρ) < 0 then 0 else sR12 (sL η 0 (rV ρ))) = sRest η ρ := rfl
  rw [e1]
  have hh2 : mXh (mU I2 38 3 (sRest η ρ)) rc η := fX_h (I := I1) (fun b h8 h9 _ => by rw [mU_f h8, f2 b h9]) hh1
  have s2 : mSee (mU I2 38 3 (sRest η ρ)) ρ := by
    refine ⟨?_, ?_, ?_, ?_⟩
    · rw [mU_k (by decide), f2 38 (by decide)]; exact s1.1
    · rw [mU_k (by decide), f2 38 (by decide)]; exact s1.2.1
    · rw [mU_k (by decide), f2 38 (by decide)]; exact s1.2.2.1
    · rw [mU_k (by decide), f2 38 (by decide)]; exact s1.2.2.2
  refine c7 l3 (V := fun i => if i = 3 then sRest η ρ else rV ρ i) (rV_3 ρ _) (hh_l hh2).2.2.2 (i9 (fun _ => by rw [if_neg (by decide), rV0]; exact s2.1) (fun z => absurd z (by decide)) (fun z => absurd z (by decide)) (fun _ => by rw [if_pos rfl]; exact mU_s _ _ _ _) (fun _ => by rw [if_neg (by decide), rV4]; exact s2.2.2.1) (fun _ => by rw [if_neg (by decide), rV5]; exact s2.2.2.2) (fun z => absurd z (by decide)) (fun z => absurd z (by decide)) (fun _ => by rw [if_neg (by decide), rV8]; exact s2.2.1)) ?_
  intro I3 f3
  simp only [↓reduceIte, Option.toList_some, Option.toList_none, List.cons_append, List.nil_append, Int32.reduceAdd, Int32.reduceLT, Int32.reduceLE, Int32.reduceToNatClampNeg, w5_40, w5_42, c8, w5_45]
  refine hQ I3 ?_ ?_ ?_
  · intro b h8 h9 _
    rw [f3 b h9, mU_f h8, f2 b h9, f1 b h8]
  · obtain ⟨q1, q2, q3, q4⟩ := s2
    exact ⟨by rw [f3 38 (by decide)]; exact q1, by rw [f3 38 (by decide)]; exact q2, by rw [f3 38 (by decide)]; exact q3, by rw [f3 38 (by decide)]; exact q4⟩
  · rw [f3 38 (by decide), mU_s]
theorem c4 (ha : mSt a) (hk : hOk η) (hh : mXh I rc η) (hr : mRw I a = ρ) (ho : rOk η ρ) (hQ : ∀ I' : Nat → Nat → Int32, fX I I' → mSee I' ρ → Q (some (.int (sMrk η ρ))) (mHh xL I' J (mRf rc rx rr))) :
    WP (d + 3) 4 0 [.ref 37, .ref a, mDum] [] (mHh xL I J (mRf rc rx rr)) Q := by
  simp only [w4_0, w4_1, w4_2]
  refine c5 ha hk hh hr ho ?_
  intro I1 f1 s1 e1
  obtain ⟨-, r6, -⟩ := mRw_5 (fX_r ha f1 hr)
  simp only [↓reduceIte, Option.toList_some, Option.toList_none, List.cons_append, List.nil_append, Int32.reduceAdd, Int32.reduceLT, Int32.reduceLE, Int32.reduceToNatClampNeg, w4_5, w4_6, w4_7, w4_10, w4_11, w4_12, w4_13, w4_14, ha, w4_17, w4_18, w4_19, w4_21, w4_22, e1, r6]
  exact hQ I1 f1 s1
end COU
