/-! The glass's scan. -/
def gTk (I : Nat → Nat → Int32) (J : Nat → Nat → Int64) (W : Nat → Int32) (L n : Nat) : Prop := (n ≤ 401 ∧ 0 < n ∧ I 11 4 = nI n) ∧ (∀ k, k < n → I 13 k = nI (gk (kk W L k)) ∧ I 15 k = nI (tp W L k) ∧ J 14 k = tkW W L (tp W L k)) ∧ (∀ k, k + 1 < n → kk W L k ≠ 0 ∧ kk W L k ≠ 3) ∧ (n = 401 ∨ kk W L (n - 1) = 0 ∨ kk W L (n - 1) = 3)
def fTk (I I' : Nat → Nat → Int32) : Prop := (∀ a, a ≠ 11 → a ≠ 13 → a ≠ 15 → I' a = I a) ∧ ∀ j, j ≠ 4 → I' 11 j = I 11 j
def fTj (J J' : Nat → Nat → Int64) : Prop := ∀ a, a ≠ 14 → J' a = J a
section LXC
variable {d : Nat} {xL : Nat} {I : Nat → Nat → Int32} {J : Nat → Nat → Int64} {rc rx rr : Nat} {Q : Option Value → mHp → Prop} {L : Nat} {W : Nat → Int32}
theorem fTk_I {I' : Nat → Nat → Int32} (f : fTk I I') (hI : kI I) : kI I' := by
  have e : ∀ a, a ≠ 11 → a ≠ 13 → a ≠ 15 → I' a = I a := f.1
  rw [kI, lvI] at hI ⊢
  simp only [e 4 (by decide) (by decide) (by decide), e 5 (by decide) (by decide) (by decide), e 219 (by decide) (by decide) (by decide)]
  exact hI
theorem fTk_T {I' : Nat → Nat → Int32} (f : fTk I I') (h : xTp I L W) : xTp I' L W := by
  rw [xTp, f.1 8 (by decide) (by decide) (by decide), f.1 9 (by decide) (by decide) (by decide)]
  exact h
theorem fTj_J {J' : Nat → Nat → Int64} (f : fTj J J') (h : kJ J) : kJ J' := by
  intro i hi
  rw [f 12 (by decide), f 187 (by decide)]
  exact h i hi
theorem c69 (hI : kI I) (h : xTp I L W) (hJ : kJ J) (hQ : ∀ I' J' n, fTk I I' → fTj J J' → gTk I' J' W L n → Q none (mHh xL I' J' (mRf rc rx rr))) : WP (d + 7) 69 0 [.ref 11, .ref 8, mDum, mDum, mDum] [] (mHh xL I J (mRf rc rx rr)) Q := by
  have hL := h.1
  have fin : ∀ I' J' n p, fTk I I' → fTj J J' → gTk I' J' W L n → WP (d + 7) 69 12 [.ref 11, .ref 8, .int p, .int 0, .int (nI n)] [] (mHh xL I' J' (mRf rc rx rr)) Q := by
    intro I' J' n p f1 f2 g
    rw [w69_12]
    by_cases hn : (400 : Int32) < nI n
    · simp only [w69_14, w69_17, hn, ↓reduceIte, w69_71]; exact hQ I' J' n f1 f2 g
    · simp only [w69_14, w69_17, hn, ↓reduceIte, w69_20, w69_21, w69_71]; exact hQ I' J' n f1 f2 g
  have main := iter_dn (n := 401) (A := fun k => ∀ I' J' p, fTk I I' → fTj J J' → I' 11 4 = nI k → (∀ j, j < k → (I' 13 j = nI (gk (kk W L j)) ∧ I' 15 j = nI (tp W L j) ∧ J' 14 j = tkW W L (tp W L j)) ∧ (kk W L j ≠ 0 ∧ kk W L j ≠ 3)) → p ≤ L ∧ sk W L p = tp W L k → WP (d + 7) 69 12 [.ref 11, .ref 8, .int (nI p), .int 1, .int (nI k)] [] (mHh xL I' J' (mRf rc rx rr)) Q) ?_ ?_ 0 (by decide)
  · have b1 : fTk I (mU I 11 4 0) := by
      refine ⟨fun a h1 _ _ => mU_f h1, fun j hj => mU_k hj⟩
    simp only [w69_0, w69_1, w69_2, w69_5, w69_6, w69_7, w69_8, w69_9, w69_10]
    exact main (mU I 11 4 0) J 0 b1 (fun _ _ => rfl) (mU_s _ _ _ _) (fun j hj => absurd hj (by omega)) ⟨Nat.zero_le _, rfl⟩
  · intro k hk ih I' J' p f1 f2 h4 hr hp
    have g0 : ¬ (400 : Int32) < nI k := by rw [ni_lt 400 (by decide) (by omega)]; omega
    have h' := fTk_T f1 h
    have e0 := c70 (d := d) (Q := fun v h9 => WP (d + 7) 69 29 [.ref 11, .ref 8, .int (nI p), .int 1, .int (nI k)] (v.toList ++ []) h9 Q) (xL := xL) (J := J') (rc := rc) (rx := rx) (rr := rr) (fTk_I f1 hI) h' hp.1
    have e1 := fun p' => c71 (d := d) (Q := fun v h9 => WP (d + 7) 69 36 [.ref 11, .ref 8, .int (nI p'), .int 1, .int (nI k)] (v.toList ++ []) h9 Q) (xL := xL) (rc := rc) (rx := rx) (rr := rr) (fTk_I f1 hI) h' (fTj_J f2 hJ) h4 (by omega) (tp_le W L k)
    have a1 : mIn (nI k) 401 = true := mIn_nI (by omega) (by omega)
    have a2 : (nI k).toNatClampNeg = k := nI_clamp (by omega)
    have k13 : tkI I' k (nI (gk (tKd W L (tp W L k)))) (nI (tp W L k)) 13 k = nI (gk (kk W L k)) := by
      rw [tkI, mU_a (by decide), mU_a (by decide), mU_s]; rfl
    have q1 : fTk I (tkI I' k (nI (gk (tKd W L (tp W L k)))) (nI (tp W L k))) := by
      refine ⟨fun a x y z => ?_, fun j hj => ?_⟩
      · rw [tkI, mU_f x, mU_f z, mU_f y, f1.1 a x y z]
      · rw [tkI, mU_k hj, mU_a (by decide), mU_a (by decide), f1.2 j hj]
    have q2 : fTj J (mU J' 14 k (tkW W L (tp W L k))) := fun a x => by rw [mU_f x, f2 a x]
    have q3 : ∀ j, j < k + 1 → tkI I' k (nI (gk (tKd W L (tp W L k)))) (nI (tp W L k)) 13 j = nI (gk (kk W L j)) ∧ tkI I' k (nI (gk (tKd W L (tp W L k)))) (nI (tp W L k)) 15 j = nI (tp W L j) ∧ mU J' 14 k (tkW W L (tp W L k)) 14 j = tkW W L (tp W L j) := by
      intro j hj
      by_cases e : j = k
      · subst e
        refine ⟨k13, ?_, mU_s _ _ _ _⟩
        rw [tkI, mU_a (by decide), mU_s]
      · have := (hr j (by omega)).1
        refine ⟨?_, ?_, ?_⟩
        · rw [tkI, mU_a (by decide), mU_a (by decide), mU_k e]; exact this.1
        · rw [tkI, mU_a (by decide), mU_k e, mU_a (by decide)]; exact this.2.1
        · rw [mU_k e]; exact this.2.2
    have q4 : tkI I' k (nI (gk (tKd W L (tp W L k)))) (nI (tp W L k)) 11 4 = nI (k + 1) := mU_s _ _ _ _
    have gg := gk_12 (kk W L k) (tKd_lt W L (tp W L k))
    rw [w69_12]
    simp only [w69_14, w69_17, g0, ↓reduceIte, w69_20, w69_21, o01, w69_24, w69_25, w69_26, e0, hp.2, ↓reduceIte, Option.toList_some, Option.toList_none, List.cons_append, List.nil_append, Int32.reduceAdd, Int32.reduceLT, Int32.reduceLE, Int32.reduceToNatClampNeg, w69_29, w69_30, w69_31, w69_32, w69_33, e1, w69_36, w69_37, w69_38, w69_41, w69_43, a1, a2, k13, w69_44, w69_45, gg.1]
    by_cases h0 : kk W L k = 0
    · simp only [h0, ↓reduceIte, w69_63, w69_64, w69_65, w69_68, nI_1]
      exact fin _ _ (k + 1) _ q1 q2 ⟨⟨by omega, by omega, q4⟩, q3, fun j hj => (hr j (by omega)).2, Or.inr (Or.inl h0)⟩
    · simp only [h0, ↓reduceIte, w69_48, w69_49, w69_52, w69_54, a1, a2, k13, w69_55, w69_56, gg.2]
      by_cases h3 : kk W L k = 3
      · simp only [h3, ↓reduceIte, w69_63, w69_64, w69_65, w69_68, nI_1]
        exact fin _ _ (k + 1) _ q1 q2 ⟨⟨by omega, by omega, q4⟩, q3, fun j hj => (hr j (by omega)).2, Or.inr (Or.inr h3)⟩
      · simp only [h3, ↓reduceIte, w69_59, w69_60, w69_64, w69_65, w69_68, nI_1]
        have hlt : tp W L k < L := by
          rcases Nat.lt_or_ge (tp W L k) L with x | x
          · exact x
          · exact absurd ((kk_0 W L k).2 x) h0
        rw [if_pos hlt]
        refine ih _ _ _ q1 q2 q4 (fun j hj => ⟨q3 j hj, ?_⟩) ⟨(tEnd_b W hlt).2, ?_⟩
        · by_cases e : j = k
          · subst e; exact ⟨h0, h3⟩
          · exact (hr j (by omega)).2
        · rw [tp, if_pos hlt]
  · intro I' J' p f1 f2 h4 hr hp
    have hn : (400 : Int32) < nI 401 := by decide
    rw [w69_12]
    simp only [w69_14, w69_17, hn, ↓reduceIte, w69_71]
    exact hQ I' J' 401 f1 f2 ⟨⟨Nat.le_refl _, by omega, h4⟩, fun j hj => (hr j hj).1, fun j hj => (hr j (by omega)).2, Or.inl rfl⟩
end LXC
