/-! The law's loop. -/
section LLP
variable {d : Nat} {xL : Nat} {Q : Option Value → mHp → Prop} {xs : Nat → Int32}
theorem lIx_s {n : Nat} {I : Nat → Nat → Int32} {J : Nat → Nat → Int64} {o o' : Nat} (h : lIx xL xs n I J o o') : lIx xL xs (n + 1) I J o o' := by
  obtain ⟨ho, b, s, η, ρ, u, H, g, K, t, τ, L, W, pl, hx, hz, c⟩ := h
  exact ⟨ho, b, s, η, ρ, u, H, g, K, t, τ, L, W, pl, hx, hz, lCo_q c⟩
theorem lStep {n : Nat} (hn : n < 512) (hx6 : 6 * n + 6 ≤ xL) (hxL : xL ≤ 3072) {I : Nat → Nat → Int32} {J : Nat → Nat → Int64} {o o' : Nat} (hI : lIx xL xs n I J o o') (ih : ∀ I' J' o1 o2, lIx xL xs (n + 1) I' J' o1 o2 → WP (d + 40) 268 1376 [.ref 6, .ref 7, .ref 180, .int (nI (6 * n))] [] (mHh xL I' J' (mRf o1 o1 o2)) Q) (y : Int32) : WP (d + 40) 268 33 [.ref 6, .ref 7, .ref 180, .int (nI (6 * n))] [.int y] (mHh xL I J (mRf o o o')) Q := by
  by_cases h : y.toInt < 0 ∨ 39 < y.toInt
  · rw [w268_33_o (hx := h)]
    exact ih I J o o' (lIx_s hI)
  · have h0 : ¬ y < 0 := by rw [Int32.lt_iff_toInt_lt, show (0 : Int32).toInt = 0 from rfl]; omega
    obtain ⟨k, hk, rfl⟩ := nI_of h0
    rw [nI_toInt hk] at h
    have hk40 : k < 40 := by omega
    have hc : k = 0 ∨ k = 1 ∨ k = 2 ∨ k = 3 ∨ k = 4 ∨ k = 5 ∨ k = 6 ∨ k = 7 ∨ k = 8 ∨ k = 9 ∨ k = 10 ∨ k = 11 ∨ k = 12 ∨ k = 13 ∨ k = 14 ∨ k = 15 ∨ k = 16 ∨ k = 17 ∨ k = 18 ∨ k = 19 ∨ k = 20 ∨ k = 21 ∨ k = 22 ∨ k = 23 ∨ k = 24 ∨ k = 25 ∨ k = 26 ∨ k = 27 ∨ k = 28 ∨ k = 29 ∨ k = 30 ∨ k = 31 ∨ k = 32 ∨ k = 33 ∨ k = 34 ∨ k = 35 ∨ k = 36 ∨ k = 37 ∨ k = 38 ∨ k = 39 := by omega
    rcases hc with rfl | rfl | rfl | rfl | rfl | rfl | rfl | rfl | rfl | rfl | rfl | rfl | rfl | rfl | rfl | rfl | rfl | rfl | rfl | rfl | rfl | rfl | rfl | rfl | rfl | rfl | rfl | rfl | rfl | rfl | rfl | rfl | rfl | rfl | rfl | rfl | rfl | rfl | rfl | rfl
    · rw [show nI 0 = 0 from rfl, w268_33_0]; exact l_0 hn hx6 hxL hI ih
    · rw [show nI 1 = 1 from rfl, w268_33_1]; exact l_1 hn hx6 hxL hI ih
    · rw [show nI 2 = 2 from rfl, w268_33_2]; exact l_2 hn hx6 hxL hI ih
    · rw [show nI 3 = 3 from rfl, w268_33_3]; exact l_3 hn hx6 hxL hI ih
    · rw [show nI 4 = 4 from rfl, w268_33_4]; exact l_4 hn hx6 hxL hI ih
    · rw [show nI 5 = 5 from rfl, w268_33_5]; exact l_5 hn hx6 hxL hI ih
    · rw [show nI 6 = 6 from rfl, w268_33_6]; exact l_6 hn hx6 hxL hI ih
    · rw [show nI 7 = 7 from rfl, w268_33_7]; exact l_7 hn hx6 hxL hI ih
    · rw [show nI 8 = 8 from rfl, w268_33_8]; exact l_8 hn hx6 hxL hI ih
    · rw [show nI 9 = 9 from rfl, w268_33_9]; exact l_9 hn hx6 hxL hI ih
    · rw [show nI 10 = 10 from rfl, w268_33_10]; exact l_10 hn hx6 hxL hI ih
    · rw [show nI 11 = 11 from rfl, w268_33_11]; exact l_11 hn hx6 hxL hI ih
    · rw [show nI 12 = 12 from rfl, w268_33_12]; exact l_12 hn hx6 hxL hI ih
    · rw [show nI 13 = 13 from rfl, w268_33_13]; exact l_13 hn hx6 hxL hI ih
    · rw [show nI 14 = 14 from rfl, w268_33_14]; exact l_14 hn hx6 hxL hI ih
    · rw [show nI 15 = 15 from rfl, w268_33_15]; exact l_15 hn hx6 hxL hI ih
    · rw [show nI 16 = 16 from rfl, w268_33_16]; exact l_16 hn hx6 hxL hI ih
    · rw [show nI 17 = 17 from rfl, w268_33_17]; exact l_17 hn hx6 hxL hI ih
    · rw [show nI 18 = 18 from rfl, w268_33_18]; exact l_18 hn hx6 hxL hI ih
    · rw [show nI 19 = 19 from rfl, w268_33_19]; exact l_19 hn hx6 hxL hI ih
    · rw [show nI 20 = 20 from rfl, w268_33_20]; exact l_20 hn hx6 hxL hI ih
    · rw [show nI 21 = 21 from rfl, w268_33_21]; exact l_21 hn hx6 hxL hI ih
    · rw [show nI 22 = 22 from rfl, w268_33_22]; exact l_22 hn hx6 hxL hI ih
    · rw [show nI 23 = 23 from rfl, w268_33_23]; exact l_23 hn hx6 hxL hI ih
    · rw [show nI 24 = 24 from rfl, w268_33_24]; exact l_24 hn hx6 hxL hI ih
    · rw [show nI 25 = 25 from rfl, w268_33_25]; exact l_25 hn hx6 hxL hI ih
    · rw [show nI 26 = 26 from rfl, w268_33_26]; exact l_26 hn hx6 hxL hI ih
    · rw [show nI 27 = 27 from rfl, w268_33_27]; exact l_27 hn hx6 hxL hI ih
    · rw [show nI 28 = 28 from rfl, w268_33_28]; exact l_28 hn hx6 hxL hI ih
    · rw [show nI 29 = 29 from rfl, w268_33_29]; exact l_29 hn hx6 hxL hI ih
    · rw [show nI 30 = 30 from rfl, w268_33_30]; exact l_30 hn hx6 hxL hI ih
    · rw [show nI 31 = 31 from rfl, w268_33_31]; exact l_31 hn hx6 hxL hI ih
    · rw [show nI 32 = 32 from rfl, w268_33_32]; exact l_32 hn hx6 hxL hI ih
    · rw [show nI 33 = 33 from rfl, w268_33_33]; exact l_33 hn hx6 hxL hI ih
    · rw [show nI 34 = 34 from rfl, w268_33_34]; exact l_34 hn hx6 hxL hI ih
    · rw [show nI 35 = 35 from rfl, w268_33_35]; exact l_35 hn hx6 hxL hI ih
    · rw [show nI 36 = 36 from rfl, w268_33_36]; exact l_36 hn hx6 hxL hI ih
    · rw [show nI 37 = 37 from rfl, w268_33_37]; exact l_37 hn hx6 hxL hI ih
    · rw [show nI 38 = 38 from rfl, w268_33_38]; exact l_38 hn hx6 hxL hI ih
    · rw [show nI 39 = 39 from rfl, w268_33_39]; exact l_39 hn hx6 hxL hI ih
theorem lLoop (hxL : xL ≤ 3072) (hQ : ∀ I J o o', Q (some (.int 1)) (mHh xL I J (mRf o o o'))) : ∀ n, n ≤ xL / 6 → ∀ I J o o', lIx xL xs n I J o o' → WP (d + 40) 268 18 [.ref 6, .ref 7, .ref 180, .int (nI (6 * n))] [] (mHh xL I J (mRf o o o')) Q := by
  refine iter_dn ?_ ?_
  · intro n hn ih I J o o' hI
    have hx6 : 6 * n + 6 ≤ xL := by omega
    have e6 : Int32.ofNat xL - 6 = nI (xL - 6) := nI_sbx (a := xL) (b := 6) (by omega)
    have g : ¬ nI (xL - 6) < nI (6 * n) := fun z => by have := (nI_ltI (by omega) (by omega)).1 z; omega
    have a0 : mIn (nI (6 * n)) xL = true := mIn_nI (by omega) (by omega)
    have c0 : (nI (6 * n)).toNatClampNeg = 6 * n := nI_clamp (by omega)
    have e7 : nI (6 * n) + 6 = nI (6 * (n + 1)) := nI_add (6 * n) 6
    rw [w268_18]
    simp only [w268_19, w268_20, w268_21, w268_23, e6, w268_24, g, ↓reduceIte, w268_27, w268_28, u268_29 (hi := a0), c0, w268_30, w268_32]
    refine lStep (by omega) hx6 hxL hI (fun I' J' o1 o2 h' => ?_) _
    simp only [w268_1376, w268_1379, e7]
    exact ih I' J' o1 o2 h'
  · intro I J o o' _
    have g : Int32.ofNat xL - 6 < nI (6 * (xL / 6)) := by
      by_cases c : 6 ≤ xL
      · rw [show Int32.ofNat xL - 6 = nI (xL - 6) from nI_sbx (a := xL) (b := 6) c]
        exact (nI_ltI (by omega) (by omega)).2 (by omega)
      · have h : xL = 0 ∨ xL = 1 ∨ xL = 2 ∨ xL = 3 ∨ xL = 4 ∨ xL = 5 := by omega
        rcases h with rfl | rfl | rfl | rfl | rfl | rfl <;> decide
    rw [w268_18]
    simp only [w268_19, w268_20, w268_21, w268_23, w268_24, g, ↓reduceIte, w268_1382, w268_1383 (x := 1) (hx := by decide)]
    exact hQ I J o o'
end LLP
