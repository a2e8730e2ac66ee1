/-! Queries: highest of the model. -/
section QRA
variable {d : Nat} {xL : Nat} {I : Nat → Nat → Int32} {J : Nat → Nat → Int64} {rr : Nat} {Q : Option Value → mHp → Prop} {s o : Nat} {η : mHs} {ρ : Nat → Int32}
theorem c234 (hb : zB I s η ρ) {rc rx : Nat} (n w : Int32) (hQ : ∀ I', fB I I' → Q (some (.int (q_highest η ρ n w))) (mHh xL I' J (mRf rc rx rr))) : WP (d + 6) 234 0 [.ref 180, .int n, .int w, mDum, mDum, mDum] [] (mHh xL I J (mRf rc rx rr)) Q := by
  have hb0 := hb
  obtain ⟨hk, hh, hn, ho, m, hm, e5⟩ := hb
  have e9 : ∀ (x l m : Int32), (decide (l ≤ x) && decide (x ≤ m)) = sW x l m := fun _ _ _ => rfl
  simp only [w234_0, w234_1, c215, ↓reduceIte, Option.toList_some, Option.toList_none, List.cons_append, List.nil_append, Int32.reduceAdd, Int32.reduceLT, Int32.reduceLE, Int32.reduceToNatClampNeg, w234_4, q_highest] at hQ ⊢
  by_cases h : sW n 0 60 = true
  · by_cases h' : sW w 0 1 = true
    · rw [h, h'] at hQ
      obtain ⟨n, -, hn', rfl⟩ := (sW_iff (a := 0) (b := 60) rfl rfl).1 h
      have ec : (nI n).toNatClampNeg = n := nI_clamp (by omega)
      rw [ec] at hQ
      simp only [sB_t h, o01, ↓reduceIte, w234_0, w234_1, w234_4, w234_7, w234_8, w234_9, w234_10, w234_13, w234_16, w234_17, w234_18, w234_19, w234_22, w234_23, w234_26, w234_27, w234_28, w234_30, w234_31, w234_35, w234_36, w234_39, w234_40, w234_43, w234_44, w234_47, w234_48, w234_51, w234_54, w234_55, w234_58, w234_59, w234_61, w234_63, w234_66, w234_69, w234_70, w234_73, w234_74, w234_77, w234_79, c170, e9, sB_t h', ↓reduceIte, Option.toList_some, Option.toList_none, List.cons_append, List.nil_append, Int32.reduceAdd, Int32.reduceLT, Int32.reduceLE, Int32.reduceToNatClampNeg]
      refine c204 hh hn ?_
      intro I1 f1 r1 l1
      simp only [↓reduceIte, Option.toList_some, Option.toList_none, List.cons_append, List.nil_append, Int32.reduceAdd, Int32.reduceLT, Int32.reduceLE, Int32.reduceToNatClampNeg, w234_0, w234_1, w234_4, w234_7, w234_8, w234_9, w234_10, w234_13, w234_16, w234_17, w234_18, w234_19, w234_22, w234_23, w234_26, w234_27, w234_28, w234_30, w234_31, w234_35, w234_36, w234_39, w234_40, w234_43, w234_44, w234_47, w234_48, w234_51, w234_54, w234_55, w234_58, w234_59, w234_61, w234_63, w234_66, w234_69, w234_70, w234_73, w234_74, w234_77, w234_79, c175 r1]
      have L : ∀ k, k ≤ n → ∀ (I' : Nat → Nat → Int32), fB I I' → mRr I' (sB η ρ k) → I' 180 52 = 1 → WP (d + 6) 234 33 [.ref 180, .int (nI n), .int w, .int (hM η ρ k).1, .int (hM η ρ k).2, .int (nI (k + 1))] [] (mHh xL I' J (mRf rc rx rr)) Q := by
        refine iter_dn ?_ ?_
        · intro k hk1 ih I' f r l
          have h1 : ¬ nI n < nI (k + 1) := nI_nlt (by omega) (by omega)
          obtain ⟨ok, -⟩ := sB_ok hk ho e5 k (by omega)
          rw [w234_33]
          simp only [w234_35, w234_36, h1, ↓reduceIte, w234_39, w234_40]
          refine c197s (fB_h f hh) hk r ok l ?_
          intro I3 f3 r3
          have := ih I3 (fB_t f (fH_B f3)) r3 (by rw [(fH_5 f3).2]; exact l)
          rw [hM] at this
          have r3' : mRr I3 (sB η ρ (k + 1)) := r3
          simp only [↓reduceIte, Option.toList_some, Option.toList_none, List.cons_append, List.nil_append, Int32.reduceAdd, Int32.reduceLT, Int32.reduceLE, Int32.reduceToNatClampNeg, w234_43, w234_44, c175 r3', w234_47, w234_48]
          by_cases hc : (hM η ρ k).1 < rS (sB η ρ (k + 1))
          · rw [if_pos hc] at this
            simp only [hc, ↓reduceIte, w234_54, w234_55, c175 r3', ↓reduceIte, Option.toList_some, Option.toList_none, List.cons_append, List.nil_append, Int32.reduceAdd, Int32.reduceLT, Int32.reduceLE, Int32.reduceToNatClampNeg, w234_58, w234_59, w234_61, w234_63, w234_66, nI_1]
            exact this
          · rw [if_neg hc] at this
            simp only [hc, ↓reduceIte, w234_51, w234_63, w234_66, nI_1]
            exact this
        · intro I' f r l
          have h1 : nI n < nI (n + 1) := nI_lt (by omega) (by omega)
          have := hQ I' f
          rw [w234_33]
          simp only [w234_0, w234_1, w234_4, w234_7, w234_8, w234_9, w234_10, w234_13, w234_16, w234_17, w234_18, w234_19, w234_22, w234_23, w234_26, w234_27, w234_28, w234_30, w234_31, w234_35, w234_36, w234_39, w234_40, w234_43, w234_44, w234_47, w234_48, w234_51, w234_54, w234_55, w234_58, w234_59, w234_61, w234_63, w234_66, w234_69, w234_70, w234_73, w234_74, w234_77, w234_79, h1, ↓reduceIte]
          by_cases hw : w = 0
          · simp only [hw, ↓reduceIte, Bool.and_self] at this ⊢
            exact this
          · simp only [hw, ↓reduceIte, Bool.and_self] at this ⊢
            exact this
      exact L 0 (by omega) _ (fC_B f1) r1 l1
    · have h2 : sW w 0 1 = false := by simpa using h'
      rw [h2, Bool.and_false] at hQ
      simp only [sB_t h, o01, ↓reduceIte, w234_0, w234_1, w234_4, w234_7, w234_8, w234_9, w234_10, w234_13, w234_16, w234_17, w234_18, w234_19, w234_22, w234_23, w234_26, w234_27, w234_28, w234_30, w234_31, w234_35, w234_36, w234_39, w234_40, w234_43, w234_44, w234_47, w234_48, w234_51, w234_54, w234_55, w234_58, w234_59, w234_61, w234_63, w234_66, w234_69, w234_70, w234_73, w234_74, w234_77, w234_79, c170, e9, sB_f h2, ↓reduceIte, Option.toList_some, Option.toList_none, List.cons_append, List.nil_append, Int32.reduceAdd, Int32.reduceLT, Int32.reduceLE, Int32.reduceToNatClampNeg]
      exact hQ I fB_0
  · have h2 : sW n 0 60 = false := by simpa using h
    rw [h2, Bool.false_and] at hQ
    simp only [sB_f h2, ↓reduceIte, w234_0, w234_1, w234_4, w234_7, w234_8, w234_9, w234_10, w234_13, w234_16, w234_17, w234_18, w234_19, w234_22, w234_23, w234_26, w234_27, w234_28, w234_30, w234_31, w234_35, w234_36, w234_39, w234_40, w234_43, w234_44, w234_47, w234_48, w234_51, w234_54, w234_55, w234_58, w234_59, w234_61, w234_63, w234_66, w234_69, w234_70, w234_73, w234_74, w234_77, w234_79]
    exact hQ I fB_0
end QRA
