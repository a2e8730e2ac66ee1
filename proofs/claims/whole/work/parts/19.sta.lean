/-! First things: counters, places written, the states and what their methods do to the rows. -/
theorem iter_dn {A : Nat → Prop} {n : Nat} (h : ∀ k, k < n → A (k + 1) → A k) (hn : A n) : ∀ k, k ≤ n → A k := by
  intro k hk
  obtain ⟨j, rfl⟩ : ∃ j, n = k + j := ⟨n - k, by omega⟩
  induction j generalizing k with
  | zero => exact hn
  | succ j ih => exact h k (by omega) (ih (k + 1) (fun m hm => h m (by omega)) (by rw [Nat.add_right_comm]; exact hn) (by omega))
theorem ni_le {k : Nat} {x : Int32} (a : Nat) (hx : x.toInt = a) (hk : k < 2 ^ 31) : x ≤ nI k ↔ a ≤ k := by
  rw [Int32.le_iff_toInt_le, hx, nI_toInt hk]; omega
theorem ni_lt {k : Nat} {x : Int32} (a : Nat) (hx : x.toInt = a) (hk : k < 2 ^ 31) : x < nI k ↔ a < k := by
  rw [Int32.lt_iff_toInt_lt, hx, nI_toInt hk]; omega
theorem in_le {k : Nat} {x : Int32} (a : Nat) (hx : x.toInt = a) (hk : k < 2 ^ 31) : nI k ≤ x ↔ k ≤ a := by
  rw [Int32.le_iff_toInt_le, hx, nI_toInt hk]; omega
theorem in_lt {k : Nat} {x : Int32} (a : Nat) (hx : x.toInt = a) (hk : k < 2 ^ 31) : nI k < x ↔ k < a := by
  rw [Int32.lt_iff_toInt_lt, hx, nI_toInt hk]; omega
theorem in_eq {k : Nat} {x : Int32} (a : Nat) (hx : x.toInt = a) (hk : k < 2 ^ 31) : nI k = x ↔ k = a := by
  rw [← Int32.toInt_inj, hx, nI_toInt hk]; omega
theorem mIn_nI {k n : Nat} (h : k < n) (hn : n < 2 ^ 31) : mIn (nI k) n = true := by
  have h1 := nI_pos (n := k) (by omega)
  rw [mIn, nI_clamp (by omega)]
  simp [h1, h]
theorem mIn_of {x : Int32} {n : Nat} (h : mIn x n = true) : ∃ k, k < n ∧ x = nI k := by
  simp only [mIn, Bool.and_eq_true, decide_eq_true_eq] at h
  obtain ⟨j, hj, rfl⟩ := nI_of h.1
  rw [nI_clamp hj] at h
  exact ⟨j, h.2, rfl⟩
theorem mU_s {α : Type} (f : Nat → Nat → α) (a k : Nat) (v : α) : mU f a k v a k = v := by rw [mU, if_pos rfl, if_pos rfl]
theorem mU_k {α : Type} {f : Nat → Nat → α} {a k j : Nat} {v : α} (h : j ≠ k) : mU f a k v a j = f a j := by rw [mU, if_pos rfl, if_neg h]
theorem mU_a {α : Type} {f : Nat → Nat → α} {a k b j : Nat} {v : α} (h : b ≠ a) : mU f a k v b j = f b j := by rw [mU, if_neg h]
theorem mU_e {α : Type} (f : Nat → Nat → α) (a k b j : Nat) (v : α) : mU f a k v b j = if b = a ∧ j = k then v else f b j := by
  by_cases h : b = a
  · subst h
    by_cases h2 : j = k
    · subst h2; rw [mU_s, if_pos ⟨rfl, rfl⟩]
    · rw [mU_k h2, if_neg (fun z => h2 z.2)]
  · rw [mU_a h, if_neg (fun z => h z.1)]
theorem mIn_0_5 : mIn 0 5 = true := by decide
theorem mIn_1_5 : mIn 1 5 = true := by decide
theorem mIn_2_5 : mIn 2 5 = true := by decide
theorem mIn_3_5 : mIn 3 5 = true := by decide
theorem mIn_4_5 : mIn 4 5 = true := by decide
theorem st_all2 : mStL.all (fun s => mStL.all (fun t => decide (s + 1 ≠ t))) = true := by decide +kernel
theorem st_pq {a b : Nat} (ha : mSt a) (hb : mSt b) : a + 1 ≠ b := by
  have h1 := List.all_eq_true.mp (List.all_eq_true.mp st_all2 a ha) b hb
  simpa using h1
section STA
variable {d : Nat} {xL : Nat} {I : Nat → Nat → Int32} {J : Nat → Nat → Int64} {rc rx rr : Nat} {Q : Option Value → mHp → Prop}
def mT5 (I : Nat → Nat → Int32) (a : Nat) : Int32 := I (a + 1) 0 + I (a + 1) 1 + I (a + 1) 2 + I (a + 1) 3 + I (a + 1) 4
theorem c57 {a : Nat} (ha : mSt a) : WP d 57 0 [.ref a, mDum, mDum] [] (mHh xL I J (mRf rc rx rr)) Q = Q (some (.int (mT5 I a))) (mHh xL I J (mRf rc rx rr)) := by
  obtain ⟨-, -, k3, k4, -⟩ := st_k ha
  simp only [w57_0, w57_1, w57_2, w57_3, w57_4, w57_5, w57_6, w57_9, w57_10, w57_11, w57_14, w57_15, w57_16, w57_17, w57_18, w57_21, w57_24, w57_25, ha, k3, k4, mIn_0_5, mIn_1_5, mIn_2_5, mIn_3_5, mIn_4_5, ↓reduceIte, Option.toList_some, Option.toList_none, List.cons_append, List.nil_append, Int32.reduceAdd, Int32.reduceLT, Int32.reduceLE, Int32.reduceToNatClampNeg, mT5, Int32.zero_add]
/-- a state written over another -/
def mCp (a b : Nat) (I : Nat → Nat → Int32) : Nat → Nat → Int32 := fun i k => if i = a + 1 ∧ k < 5 then I (b + 1) k else if i = a ∧ (k = 1 ∨ k = 2 ∨ k = 3) then I b k else I i k
theorem c59 {a b : Nat} (ha : mSt a) (hb : mSt b) : WP d 59 0 [.ref a, .ref b, mDum] [] (mHh xL I J (mRf rc rx rr)) Q = Q none (mHh xL (mCp a b I) J (mRf rc rx rr)) := by
  obtain ⟨-, -, k3, k4, -⟩ := st_k ha
  obtain ⟨-, -, k5, k6, -⟩ := st_k hb
  have n1 := st_pq ha hb
  have n2 := st_pq hb ha
  simp only [w59_0, w59_1, w59_2, w59_3, w59_4, w59_7, w59_8, w59_11, w59_12, w59_13, w59_16, w59_17, w59_18, w59_19, w59_22, w59_25, w59_26, w59_27, w59_30, w59_33, w59_34, w59_35, w59_38, w59_41, w59_42, w59_43, w59_46, w59_49, ha, hb, k3, k4, k5, k6, mIn_0_5, mIn_1_5, mIn_2_5, mIn_3_5, mIn_4_5, ↓reduceIte, Option.toList_some, Option.toList_none, List.cons_append, List.nil_append, Int32.reduceAdd, Int32.reduceLT, Int32.reduceLE, Int32.reduceToNatClampNeg]
  congr 2
  funext i k
  simp only [mU_e, mCp]
  have n3 : ¬ a + 1 = a := by omega
  have n3' : ¬ a = a + 1 := by omega
  have n4 : ¬ b = a + 1 := fun z => n1 z.symm
  have n5 : ¬ b + 1 = a := n2
  have hk : k = 0 ∨ k = 1 ∨ k = 2 ∨ k = 3 ∨ k = 4 ∨ ((¬ k = 0 ∧ ¬ k = 1 ∧ ¬ k = 2 ∧ ¬ k = 3 ∧ ¬ k = 4) ∧ ¬ k < 5) := by omega
  by_cases h1 : i = a + 1
  · subst h1
    by_cases h2 : b = a
    · subst h2
      rcases hk with rfl | rfl | rfl | rfl | rfl | ⟨⟨q0, q1, q2, q3, q4⟩, q5⟩ <;> simp [*]
    · rcases hk with rfl | rfl | rfl | rfl | rfl | ⟨⟨q0, q1, q2, q3, q4⟩, q5⟩ <;> simp [*]
  · by_cases h2 : i = a
    · subst h2
      by_cases h3 : b = i
      · subst h3
        rcases hk with rfl | rfl | rfl | rfl | rfl | ⟨⟨q0, q1, q2, q3, q4⟩, q5⟩ <;> simp [*]
      · rcases hk with rfl | rfl | rfl | rfl | rfl | ⟨⟨q0, q1, q2, q3, q4⟩, q5⟩ <;> simp [*]
    · simp [h1, h2]
def mMx (y x : Int32) : Int32 := if y < x then x else y
def mG5 (I : Nat → Nat → Int32) (a : Nat) : Int32 := mMx (mMx (mMx (mMx (mMx 0 (I (a + 1) 0)) (I (a + 1) 1)) (I (a + 1) 2)) (I (a + 1) 3)) (I (a + 1) 4)
theorem c58 {a : Nat} (ha : mSt a) : WP (d + 1) 58 0 [.ref a, mDum, mDum] [] (mHh xL I J (mRf rc rx rr)) Q = Q (some (.int (mG5 I a))) (mHh xL I J (mRf rc rx rr)) := by
  obtain ⟨-, -, k3, k4, -⟩ := st_k ha
  have e : ∀ x y : Int32, (if y < x then x else y) = mMx y x := fun _ _ => rfl
  simp only [w58_0, w58_1, w58_2, w58_3, w58_4, w58_5, w58_6, w58_9, w58_10, w58_11, w58_14, w58_15, w58_16, w58_19, w58_20, w58_23, w58_26, w58_27, ha, k3, k4, mIn_0_5, mIn_1_5, mIn_2_5, mIn_3_5, mIn_4_5, ↓reduceIte, Option.toList_some, Option.toList_none, List.cons_append, List.nil_append, Int32.reduceAdd, Int32.reduceLT, Int32.reduceLE, Int32.reduceToNatClampNeg, mG5, e]
/-- a state made anew -/
def mClr (a : Nat) (f : Nat → Int32) (I : Nat → Nat → Int32) : Nat → Nat → Int32 := fun i k => if i = a + 1 ∧ k < 5 then f k else if i = a ∧ (k = 1 ∨ k = 2 ∨ k = 3) then 0 else I i k
theorem mHo_k {o : Nat} (h : mHo o) : lyK (o + 1) = 4 ∧ lyK (o + 2) = 1 ∧ lyK (o + 3) = 1 ∧ lyK (o + 4) = 4 ∧ lyK (o + 5) = 1 ∧ lyK (o + 6) = 1 ∧ lyK (o + 7) = 1 ∧ lyK (o + 8) = 1 ∧ lyN (o + 1) = 5 ∧ lyN (o + 2) = 5 ∧ lyN (o + 3) = 5 ∧ lyN (o + 4) = 6 ∧ lyN (o + 5) = 6 ∧ lyN (o + 6) = 6 ∧ lyN (o + 7) = 6 ∧ lyN (o + 8) = 6 := by
  rcases h with rfl | rfl <;> decide +kernel
theorem mHo_st {o a : Nat} (h : mHo o) (ha : mSt a) : o + 2 ≠ a ∧ o + 2 ≠ a + 1 ∧ o ≠ a ∧ o ≠ a + 1 := by
  have h1 : mStL.all (fun s => decide (60 < s)) = true := by decide +kernel
  have h2 := List.all_eq_true.mp h1 a ha
  have h3 : 60 < a := by simpa using h2
  rcases h with rfl | rfl <;> omega
theorem c56 {a o : Nat} (ha : mSt a) (ho : mHo o) : WP d 56 0 [.ref a, .ref o, mDum] [] (mHh xL I J (mRf rc rx rr)) Q = Q none (mHh xL (mClr a (fun k => if I o 12 ≤ nI k then 0 else I (o + 2) k) I) J (mRf rc rx rr)) := by
  obtain ⟨-, -, k3, k4, -⟩ := st_k ha
  obtain ⟨-, k5, -, -, -, -, -, -, -, k6, -⟩ := mHo_k ho
  obtain ⟨n1, n2, n3, n4⟩ := mHo_st ho ha
  have e0 : nI 0 = 0 := rfl
  have e1 : nI 1 = 1 := rfl
  have e2 : nI 2 = 2 := rfl
  have e3 : nI 3 = 3 := rfl
  have e4 : nI 4 = 4 := rfl
  have n5 : ¬ a + 1 = a := by omega
  have key : ∀ (x y i : Int32) (S : List Value) (I : Nat → Nat → Int32), mIn i 5 = true → WP d 56 17 [.ref a, .ref o, .int i] (.int y :: .int x :: S) (mHh xL I J (mRf rc rx rr)) Q = WP d 56 30 [.ref a, .ref o, .int i] (.int (if y ≤ x then 0 else I (o + 2) i.toNatClampNeg) :: S) (mHh xL I J (mRf rc rx rr)) Q := by
    intro x y i S I hi
    rw [w56_17]
    split
    · simp only [w56_29]
    · simp only [w56_20, w56_21, w56_24, w56_25, w56_26, ho, k5, k6, hi]
  simp only [w56_0, w56_1, w56_2, w56_3, w56_4, w56_7, w56_8, w56_11, w56_12, w56_13, w56_14, key, w56_30, w56_31, w56_34, w56_37, w56_38, w56_39, w56_42, w56_43, w56_44, w56_47, w56_48, w56_49, w56_52, ha, ho, k3, k4, mIn_0_5, mIn_1_5, mIn_2_5, mIn_3_5, mIn_4_5, ↓reduceIte, Option.toList_some, Option.toList_none, List.cons_append, List.nil_append, Int32.reduceAdd, Int32.reduceLT, Int32.reduceLE, Int32.reduceToNatClampNeg, mU_a n1, mU_a n2, mU_a n3, mU_a n4]
  congr 2
  funext i k
  simp only [mU_e, mClr]
  have hk : k = 0 ∨ k = 1 ∨ k = 2 ∨ k = 3 ∨ k = 4 ∨ ((¬ k = 0 ∧ ¬ k = 1 ∧ ¬ k = 2 ∧ ¬ k = 3 ∧ ¬ k = 4) ∧ ¬ k < 5) := by omega
  by_cases h1 : i = a + 1
  · subst h1
    rcases hk with rfl | rfl | rfl | rfl | rfl | ⟨⟨q0, q1, q2, q3, q4⟩, q5⟩ <;> simp [*]
  · by_cases h2 : i = a
    · subst h2
      rcases hk with rfl | rfl | rfl | rfl | rfl | ⟨⟨q0, q1, q2, q3, q4⟩, q5⟩ <;> simp [*]
    · simp [h1, h2]
/-- a state's row: five moods, the hour, the taps, what is forbidden -/
def mRw (I : Nat → Nat → Int32) (a : Nat) : Nat → Int32 := fun k => if k < 5 then I (a + 1) k else if k = 5 then I a 1 else if k = 6 then I a 2 else if k = 7 then I a 3 else 0
theorem mRw_cp {a b : Nat} (ha : mSt a) (hb : mSt b) : mRw (mCp a b I) a = mRw I b := by
  funext k
  have n : ¬ a = a + 1 := by omega
  simp only [mRw, mCp]
  by_cases h5 : k < 5
  · simp [h5]
  · simp only [h5, n, ↓reduceIte, false_and, and_false, true_and]
    by_cases h6 : k = 5
    · subst h6; simp
    · by_cases h7 : k = 6
      · subst h7; simp
      · by_cases h8 : k = 7
        · subst h8; simp
        · simp only [h6, h7, h8, ↓reduceIte]
theorem mCp_o {a b i : Nat} (h1 : i ≠ a) (h2 : i ≠ a + 1) : mCp a b I i = I i := by
  funext k; simp [mCp, h1, h2]
theorem mCp_0 {a b : Nat} : mCp a b I a 0 = I a 0 := by
  simp [mCp]
theorem c60 {a b : Nat} (ha : mSt a) (hb : mSt b) : WP d 60 0 [.ref a, .ref b, mDum] [] (mHh xL I J (mRf rc rx rr)) Q = Q (some (.int (if I (a + 1) 0 = I (b + 1) 0 ∧ I (a + 1) 1 = I (b + 1) 1 ∧ I (a + 1) 2 = I (b + 1) 2 ∧ I (a + 1) 3 = I (b + 1) 3 ∧ I (a + 1) 4 = I (b + 1) 4 then 1 else 0))) (mHh xL I J (mRf rc rx rr)) := by
  obtain ⟨-, -, k3, k4, -⟩ := st_k ha
  obtain ⟨-, -, k5, k6, -⟩ := st_k hb
  have nb1 : narrow .boolean (.int 1) = .int 1 := by decide
  have nb0 : narrow .boolean (.int 0) = .int 0 := by decide
  simp only [w60_0, w60_1, w60_2, w60_3, w60_4, w60_7, w60_8, w60_11, w60_12, w60_13, w60_14, w60_17, w60_18, w60_19, w60_22, w60_23, w60_24, w60_27, w60_30, w60_31, ha, hb, k3, k4, k5, k6, mIn_0_5, mIn_1_5, mIn_2_5, mIn_3_5, mIn_4_5, ↓reduceIte, Option.toList_some, Option.toList_none, List.cons_append, List.nil_append, Int32.reduceAdd, Int32.reduceLT, Int32.reduceLE, Int32.reduceToNatClampNeg, nb1, nb0]
  by_cases h0 : I (a + 1) 0 = I (b + 1) 0 <;> by_cases h1 : I (a + 1) 1 = I (b + 1) 1 <;> by_cases h2 : I (a + 1) 2 = I (b + 1) 2 <;> by_cases h3 : I (a + 1) 3 = I (b + 1) 3 <;> by_cases h4 : I (a + 1) 4 = I (b + 1) 4 <;> simp only [h0, h1, h2, h3, h4, true_and, and_true, false_and, and_false, ↓reduceIte]
end STA
