/-! Queries: round of the model. -/
section QRM
variable {d : Nat} {xL : Nat} {I : Nat → Nat → Int32} {J : Nat → Nat → Int64} {rr : Nat} {Q : Option Value → mHp → Prop} {s o : Nat} {η : mHs} {ρ : Nat → Int32}
theorem c205 (hb : zB I s η ρ) {rc rx : Nat} (w : Int32) (hQ : ∀ I', fB I I' → Q (some (.int (q_round η ρ w))) (mHh xL I' J (mRf rc rx rr))) : WP (d + 7) 205 0 [.ref 180, .int w, mDum, mDum] [] (mHh xL I J (mRf rc rx rr)) Q := by
  have e9 : (decide ((0 : Int32) ≤ w) && decide (w ≤ 1)) = sW w 0 1 := rfl
  simp only [w205_0, w205_1, w205_2, w205_3, c170, e9, ↓reduceIte, Option.toList_some, Option.toList_none, List.cons_append, List.nil_append, Int32.reduceAdd, Int32.reduceLT, Int32.reduceLE, Int32.reduceToNatClampNeg, w205_6]
  by_cases h : sW w 0 1 = true
  · rw [q_round, if_pos h] at hQ
    have e300 : (300 : Int32) = nI 300 := rfl
    simp only [sB_t h, o01, ↓reduceIte, w205_11, w205_12, w205_15]
    rw [e300]
    refine c206 (n := 300) hb (by omega) ?_
    intro I1 f1 t
    simp only [↓reduceIte, Option.toList_some, Option.toList_none, List.cons_append, List.nil_append, Int32.reduceAdd, Int32.reduceLT, Int32.reduceLE, Int32.reduceToNatClampNeg, w205_18, w205_19]
    have L : ∀ k, k ≤ 300 → Q (some (.int (fin3 (fo (rdI η ρ w) (300 - k) k)))) (mHh xL I1 J (mRf rc rx rr)) → ∀ v3, WP (d + 7) 205 20 [.ref 180, .int w, .int (nI k), v3] [] (mHh xL I1 J (mRf rc rx rr)) Q := by
      refine iter_dn ?_ ?_
      · intro k hk1 ih hF v3
        have h1 : ¬ 300 < nI k := i_le ((in_le 300 (by decide) (by omega)).2 (by omega))
        rw [show 300 - k = (300 - (k + 1)) + 1 by omega, fo] at hF
        rw [w205_20]
        simp only [w205_21, w205_24, h1, ↓reduceIte, w205_27, w205_29]
        have e24 : (24 : Int32) = nI (24 * (0 + 1)) := rfl
        rw [e24]
        have M : ∀ j, j ≤ (300 - k) / 24 → Q (some (.int (fin3 (match (fnd (fun j => al (sB η ρ k) (sB η ρ (k + 24 * (j + 1)))) ((300 - k) / 24 - j) j).map (fun j => if w = 0 then nI k else nI (24 * (j + 1))) with | some x => some x | none => fo (rdI η ρ w) (300 - (k + 1)) (k + 1))))) (mHh xL I1 J (mRf rc rx rr)) → WP (d + 7) 205 30 [.ref 180, .int w, .int (nI k), .int (nI (24 * (j + 1)))] [] (mHh xL I1 J (mRf rc rx rr)) Q := by
          refine iter_dn ?_ ?_
          · intro j hj ih2 hF2
            have hb2 : k + 24 * (j + 1) ≤ 300 := by omega
            have g1 : ¬ 300 < nI (k + 24 * (j + 1)) := i_le ((in_le 300 (by decide) (by omega)).2 (by omega))
            rw [show (300 - k) / 24 - j = ((300 - k) / 24 - (j + 1)) + 1 by omega, fnd] at hF2
            rw [w205_30]
            simp only [w205_0, w205_1, w205_2, w205_3, w205_6, w205_9, w205_10, w205_11, w205_12, w205_15, w205_18, w205_19, w205_21, w205_24, w205_27, w205_29, w205_31, w205_32, w205_33, w205_36, w205_39, w205_40, w205_41, w205_42, w205_43, w205_44, w205_47, w205_50, w205_51, w205_54, w205_55, w205_58, w205_59, w205_60, w205_63, w205_66, w205_69, w205_72, w205_74, nI_add, g1, ↓reduceIte, c207 (i := k) (j := k + 24 * (j + 1)) (by omega) hb2 (t k (by omega)) (t (k + 24 * (j + 1)) hb2), ↓reduceIte, Option.toList_some, Option.toList_none, List.cons_append, List.nil_append, Int32.reduceAdd, Int32.reduceLT, Int32.reduceLE, Int32.reduceToNatClampNeg]
            by_cases hc : al (sB η ρ k) (sB η ρ (k + 24 * (j + 1))) = true
            · rw [if_pos hc] at hF2
              simp only [sB_t hc, o01, ↓reduceIte, w205_0, w205_1, w205_2, w205_3, w205_6, w205_9, w205_10, w205_11, w205_12, w205_15, w205_18, w205_19, w205_21, w205_24, w205_27, w205_29, w205_31, w205_32, w205_33, w205_36, w205_39, w205_40, w205_41, w205_42, w205_43, w205_44, w205_47, w205_50, w205_51, w205_54, w205_55, w205_58, w205_59, w205_60, w205_63, w205_66, w205_69, w205_72, w205_74]
              by_cases hw : w = 0
              · subst hw
                simp only [↓reduceIte, w205_0, w205_1, w205_2, w205_3, w205_6, w205_9, w205_10, w205_11, w205_12, w205_15, w205_18, w205_19, w205_21, w205_24, w205_27, w205_29, w205_31, w205_32, w205_33, w205_36, w205_39, w205_40, w205_41, w205_42, w205_43, w205_44, w205_47, w205_50, w205_51, w205_54, w205_55, w205_58, w205_59, w205_60, w205_63, w205_66, w205_69, w205_72, w205_74]
                exact hF2
              · simp only [Option.map_some, hw, ↓reduceIte] at hF2 ⊢
                try simp only [w205_0, w205_1, w205_2, w205_3, w205_6, w205_9, w205_10, w205_11, w205_12, w205_15, w205_18, w205_19, w205_21, w205_24, w205_27, w205_29, w205_31, w205_32, w205_33, w205_36, w205_39, w205_40, w205_41, w205_42, w205_43, w205_44, w205_47, w205_50, w205_51, w205_54, w205_55, w205_58, w205_59, w205_60, w205_63, w205_66, w205_69, w205_72, w205_74]
                exact hF2
            · rw [if_neg hc] at hF2
              have hc' : al (sB η ρ k) (sB η ρ (k + 24 * (j + 1))) = false := by simpa using hc
              simp only [sB_f hc', ↓reduceIte, w205_0, w205_1, w205_2, w205_3, w205_6, w205_9, w205_10, w205_11, w205_12, w205_15, w205_18, w205_19, w205_21, w205_24, w205_27, w205_29, w205_31, w205_32, w205_33, w205_36, w205_39, w205_40, w205_41, w205_42, w205_43, w205_44, w205_47, w205_50, w205_51, w205_54, w205_55, w205_58, w205_59, w205_60, w205_63, w205_66, w205_69, w205_72, w205_74, nI_24]
              exact ih2 hF2
          · intro hF2
            have g1 : 300 < nI (k + 24 * ((300 - k) / 24 + 1)) := i_nle (fun z => by rw [in_le 300 (by decide) (by omega)] at z; omega)
            rw [Nat.sub_self, fnd] at hF2
            rw [w205_30]
            simp only [w205_0, w205_1, w205_2, w205_3, w205_6, w205_9, w205_10, w205_11, w205_12, w205_15, w205_18, w205_19, w205_21, w205_24, w205_27, w205_29, w205_31, w205_32, w205_33, w205_36, w205_39, w205_40, w205_41, w205_42, w205_43, w205_44, w205_47, w205_50, w205_51, w205_54, w205_55, w205_58, w205_59, w205_60, w205_63, w205_66, w205_69, w205_72, w205_74, nI_add, g1, ↓reduceIte, nI_1]
            exact ih hF2 _
        exact M 0 (by omega) hF
      · intro hF v3
        have h1 : ¬ 300 < nI 300 := by decide
        have h2 : 300 < nI (300 + 24) := by decide
        have h3 : 300 < nI (300 + 1) := by decide
        rw [w205_20]
        simp only [w205_21, w205_24, h1, ↓reduceIte, w205_27, w205_29]
        rw [w205_30]
        simp only [w205_31, w205_32, w205_33, nI_24, w205_36, h2, ↓reduceIte, w205_66, w205_69, nI_1]
        rw [w205_20]
        simp only [w205_21, w205_24, h3, ↓reduceIte, w205_72, w205_74]
        exact hF
    exact L 0 (by omega) (hQ I1 f1) _
  · rw [q_round, if_neg h] at hQ
    have h2 : sW w 0 1 = false := by simpa using h
    simp only [sB_f h2, ↓reduceIte, w205_9, w205_10]
    exact hQ I fB_0
end QRM
