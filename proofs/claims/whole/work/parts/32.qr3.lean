/-! Queries: how often, how quiet; what is done, as bits. -/
def cnt (p : Nat → Bool) : Nat → Int32
  | 0 => 0
  | k + 1 => cnt p k + sB01 (p k)
theorem cnt_s (p : Nat → Bool) : ∀ n, cnt p (n + 1) = sB01 (p 0) + cnt (fun k => p (k + 1)) n := by
  intro n
  induction n with
  | zero => show (0 : Int32) + sB01 (p 0) = sB01 (p 0) + 0; rw [Int32.zero_add, Int32.add_zero]
  | succ n ih => rw [cnt, ih, cnt, Int32.add_assoc]
def dN (η : mHs) (ρ : Nat → Int32) (v : Int32) : Nat → Nat
  | 0 => 0
  | k + 1 => if dn η ρ v k then dN η ρ v k ||| 2 ^ k else dN η ρ v k
theorem dN_lt (η : mHs) (ρ : Nat → Int32) (v : Int32) : ∀ k, dN η ρ v k < 2 ^ k := by
  intro k
  induction k with
  | zero => exact (by decide : 0 < 2 ^ 0)
  | succ k ih =>
    have h2 : 2 ^ (k + 1) = 2 * 2 ^ k := by rw [Nat.pow_succ, Nat.mul_comm]
    rw [dN]; split
    · exact Nat.or_lt_two_pow (by omega) (by have := Nat.two_pow_pos k; omega)
    · omega
theorem dN_bit (η : mHs) (ρ : Nat → Int32) (v : Int32) : ∀ n k, k < n → (dN η ρ v n).testBit k = dn η ρ v k := by
  intro n
  induction n with
  | zero => intro k h; omega
  | succ n ih =>
    intro k hk
    rw [dN]
    by_cases h : k = n
    · subst h
      have h1 : (dN η ρ v k).testBit k = false := Nat.testBit_lt_two_pow (dN_lt η ρ v k)
      split
      · rename_i h2
        rw [Nat.testBit_or, h1, Nat.testBit_two_pow_self, h2]; rfl
      · rename_i h2
        rw [h1]; simpa using h2
    · have h1 := ih k (by omega)
      split
      · rw [Nat.testBit_or, h1, Nat.testBit_two_pow_of_ne (fun z => h z.symm), Bool.or_false]
      · exact h1
theorem dN_eq {η : mHs} {ρ : Nat → Int32} (hk : hOk η) (ho : rOk η ρ) (v : Int32) : sDn η ρ v = nI (dN η ρ v η.2.1) := by
  obtain ⟨f, hf, e7⟩ := ho.2.2.2.2.1
  have hn := hk.2.1
  have h64 := pow6 hn
  have h1 := pN_lt η v η.2.1
  have h2 := dN_lt η ρ v η.2.1
  rw [sDn, e7, pD_nI _ _ _ hn, bB2 _ (by omega) _ (by omega)]
  congr 1
  apply Nat.eq_of_testBit_eq
  intro i
  by_cases hi : i < η.2.1
  · have h3 : (63 : Nat).testBit i = true := by
      have : i = 0 ∨ i = 1 ∨ i = 2 ∨ i = 3 ∨ i = 4 ∨ i = 5 := by omega
      rcases this with rfl | rfl | rfl | rfl | rfl | rfl <;> decide
    rw [Nat.testBit_and, pN_bit η v _ _ hi, dN_bit η ρ v _ _ hi, Nat.testBit_xor, h3, dn, e7, bB1 _ (by omega) _ (by omega)]
    cases sIn η v i <;> cases f.testBit i <;> decide
  · have h4 : 2 ^ η.2.1 ≤ 2 ^ i := Nat.pow_le_pow_right (by decide) (by omega)
    rw [Nat.testBit_and, Nat.testBit_lt_two_pow (show pN η v η.2.1 < 2 ^ i by omega), Bool.false_and, Nat.testBit_lt_two_pow (show dN η ρ v η.2.1 < 2 ^ i by omega)]
section QR3
variable {d : Nat} {xL : Nat} {I : Nat → Nat → Int32} {J : Nat → Nat → Int64} {rc rx rr : Nat} {Q : Option Value → mHp → Prop} {s o : Nat} {η : mHs} {ρ : Nat → Int32}
theorem c219 (hh : mMh I s η) (hk : hOk η) (hr : mRr I ρ) (ho : rOk η ρ) (v : Int32) : WP (d + 2) 219 0 [.ref 180, .int v, mDum, mDum] [] (mHh xL I J (mRf rc rx rr)) Q = Q (some (.int (sDn η ρ v))) (mHh xL I J (mRf rc rx rr)) := by
  have hs := hh.1
  have hn := hk.2.1
  have s1 : mIn (nI s) 2 = true := mIn_nI (by omega) (by omega)
  have s2 : (nI s).toNatClampNeg = s := nI_clamp (by omega)
  simp only [w219_0, w219_1, w219_2, w219_3]
  have key : ∀ k, k ≤ η.2.1 → WP (d + 2) 219 4 [.ref 180, .int v, .int (nI (dN η ρ v k)), .int (nI k)] [] (mHh xL I J (mRf rc rx rr)) Q = Q (some (.int (sDn η ρ v))) (mHh xL I J (mRf rc rx rr)) := by
    refine iter_dn ?_ ?_
    · intro k hk1 ih
      have h1 : ¬ nI η.2.1 ≤ nI k := nI_ge hk1 (by omega)
      have h2 := dN_lt η ρ v k
      have h64 := pow6 (k := k) (by omega)
      rw [← ih, dN, w219_4]
      simp only [w219_0, w219_1, w219_2, w219_3, w219_5, w219_6, w219_9, w219_10, w219_13, w219_14, w219_17, w219_18, w219_19, w219_20, w219_23, w219_26, w219_27, w219_28, w219_29, w219_30, w219_31, w219_32, w219_35, w219_38, w219_39, hh.2.1, s1, s2, hh.2.2.2.1, h1, ↓reduceIte, c185 hh hk hr hk1, ↓reduceIte, Option.toList_some, Option.toList_none, List.cons_append, List.nil_append, Int32.reduceAdd, Int32.reduceLT, Int32.reduceLE, Int32.reduceToNatClampNeg]
      by_cases hd : dn η ρ v k = true
      · simp only [hd, sB_t, o01, ↓reduceIte, w219_0, w219_1, w219_2, w219_3, w219_5, w219_6, w219_9, w219_10, w219_13, w219_14, w219_17, w219_18, w219_19, w219_20, w219_23, w219_26, w219_27, w219_28, w219_29, w219_30, w219_31, w219_32, w219_35, w219_38, w219_39, bB3 _ (show dN η ρ v k < 64 by omega) k (show k < 6 by omega), nI_1]
      · have hd' : dn η ρ v k = false := by simpa using hd
        simp only [hd', sB_f, Bool.false_eq_true, ↓reduceIte, w219_0, w219_1, w219_2, w219_3, w219_5, w219_6, w219_9, w219_10, w219_13, w219_14, w219_17, w219_18, w219_19, w219_20, w219_23, w219_26, w219_27, w219_28, w219_29, w219_30, w219_31, w219_32, w219_35, w219_38, w219_39, nI_1]
    · have h1 : nI η.2.1 ≤ nI η.2.1 := nI_le (Nat.le_refl _) (by omega)
      rw [w219_4]
      simp only [w219_0, w219_1, w219_2, w219_3, w219_5, w219_6, w219_9, w219_10, w219_13, w219_14, w219_17, w219_18, w219_19, w219_20, w219_23, w219_26, w219_27, w219_28, w219_29, w219_30, w219_31, w219_32, w219_35, w219_38, w219_39, hh.2.1, s1, s2, hh.2.2.2.1, h1, ↓reduceIte, dN_eq hk ho]
  exact key 0 (by omega)
theorem c213 (hh : mMh I s η) (hk : hOk η) (hr : mRr I ρ) (ho : rOk η ρ) (h2 : I 180 52 = 1) (v : Int32) {m n : Nat} (h5 : ρ 5 = nI m) (hm : m + n ≤ 2 ^ 30) (hQ : ∀ I' : Nat → Nat → Int32, fH I I' → mRr I' (sB η ρ n) → Q (some (.int (cnt (fun k => decide (sMrk η (sB η ρ (k + 1)) = v)) n))) (mHh xL I' J (mRf rc rx rr))) :
    WP (d + 6) 213 0 [.ref 180, .int v, .int (nI n), mDum, mDum] [] (mHh xL I J (mRf rc rx rr)) Q := by
  simp only [w213_0, w213_1, w213_2, w213_3]
  have L : ∀ k, k ≤ n → ∀ (I' : Nat → Nat → Int32), fH I I' → mRr I' (sB η ρ k) → WP (d + 6) 213 5 [.ref 180, .int v, .int (nI n), .int (cnt (fun k => decide (sMrk η (sB η ρ (k + 1)) = v)) k), .int (nI k)] [] (mHh xL I' J (mRf rc rx rr)) Q := by
    refine iter_dn ?_ ?_
    · intro k hk1 ih I' f r
      have h1 : ¬ nI n ≤ nI k := nI_ge hk1 (by omega)
      obtain ⟨ok, -⟩ := sB_ok hk ho h5 k (by omega)
      rw [w213_5]
      simp only [w213_0, w213_1, w213_2, w213_3, w213_7, w213_8, w213_11, w213_12, w213_15, w213_16, w213_19, w213_20, w213_23, w213_26, w213_29, w213_32, w213_33, h1, ↓reduceIte]
      refine c197s (fH_h f hh) hk r ok (by rw [(fH_5 f).2]; exact h2) ?_
      intro I2 f2 r2
      simp only [↓reduceIte, Option.toList_some, Option.toList_none, List.cons_append, List.nil_append, Int32.reduceAdd, Int32.reduceLT, Int32.reduceLE, Int32.reduceToNatClampNeg, w213_0, w213_1, w213_2, w213_3, w213_7, w213_8, w213_11, w213_12, w213_15, w213_16, w213_19, w213_20, w213_23, w213_26, w213_29, w213_32, w213_33]
      refine c172 (fH_h (fH_t f f2) hh) r2 ?_
      intro I3 f3
      have := ih I3 (fH_t (fH_t f f2) (fM_H f3)) (fM_r f3 r2)
      rw [cnt] at this
      simp only [↓reduceIte, Option.toList_some, Option.toList_none, List.cons_append, List.nil_append, Int32.reduceAdd, Int32.reduceLT, Int32.reduceLE, Int32.reduceToNatClampNeg, w213_0, w213_1, w213_2, w213_3, w213_7, w213_8, w213_11, w213_12, w213_15, w213_16, w213_19, w213_20, w213_23, w213_26, w213_29, w213_32, w213_33]
      by_cases hc : sMrk η (sHr η (sB η ρ k) (sMrk η (sB η ρ k))) = v
      · have e : sB01 (decide (sMrk η (sB η ρ (k + 1)) = v)) = 1 := sB_t (decide_eq_true hc)
        rw [e] at this
        simp only [hc, ↓reduceIte, w213_0, w213_1, w213_2, w213_3, w213_7, w213_8, w213_11, w213_12, w213_15, w213_16, w213_19, w213_20, w213_23, w213_26, w213_29, w213_32, w213_33, nI_1]
        exact this
      · have e : sB01 (decide (sMrk η (sB η ρ (k + 1)) = v)) = 0 := sB_f (decide_eq_false hc)
        rw [e, Int32.add_zero] at this
        simp only [hc, ↓reduceIte, w213_0, w213_1, w213_2, w213_3, w213_7, w213_8, w213_11, w213_12, w213_15, w213_16, w213_19, w213_20, w213_23, w213_26, w213_29, w213_32, w213_33, nI_1]
        exact this
    · intro I' f r
      have h1 : nI n ≤ nI n := nI_le (Nat.le_refl _) (by omega)
      rw [w213_5]
      simp only [w213_0, w213_1, w213_2, w213_3, w213_7, w213_8, w213_11, w213_12, w213_15, w213_16, w213_19, w213_20, w213_23, w213_26, w213_29, w213_32, w213_33, h1, ↓reduceIte]
      exact hQ I' f r
  exact L 0 (by omega) I fH_0 hr
end QR3
