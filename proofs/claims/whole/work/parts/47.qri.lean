/-! Queries: a person of the model. -/
section QRI
variable {d : Nat} {xL : Nat} {I : Nat → Nat → Int32} {J : Nat → Nat → Int64} {rr : Nat} {Q : Option Value → mHp → Prop} {s o : Nat} {η : mHs} {ρ : Nat → Int32}
theorem c168 (hb : zB I s η ρ) {rc rx : Nat} (p w : Int32) (hQ : ∀ I', fB I I' → Q (some (.int (q_person η ρ p w))) (mHh xL I' J (mRf rc rx rr))) : WP (d + 5) 168 0 [.ref 180, .int p, .int w] [] (mHh xL I J (mRf rc rx rr)) Q := by
  obtain ⟨hk, hh, hn, ho, -⟩ := hb
  have hn5 := hk.1
  have hs := hh.1
  simp only [w168_0, w168_1, w168_2, c169 hh hk, ↓reduceIte, Option.toList_some, Option.toList_none, List.cons_append, List.nil_append, Int32.reduceAdd, Int32.reduceLT, Int32.reduceLE, Int32.reduceToNatClampNeg, w168_5, q_person] at hQ ⊢
  by_cases hp : isP η p = true
  · rw [if_pos hp] at hQ
    obtain ⟨q, hq, rfl⟩ := (isP_iff hk).1 hp
    have a1 : mIn (nI q) 8 = true := mIn_nI (by omega) (by omega)
    have a2 : (nI q).toNatClampNeg = q := nI_clamp (by omega)
    have a3 : 5 * nI s = nI (5 * s) := pk_mul 5 s
    have a4 : mIn (nI (5 * s + q)) 10 = true := mIn_nI (by omega) (by omega)
    have a5 : (nI (5 * s + q)).toNatClampNeg = 5 * s + q := nI_clamp (by omega)
    rw [a2] at hQ
    simp only [sB_t hp, o01, ↓reduceIte, w168_10, w168_11]
    refine c171 hh hn ?_
    intro I1 f1 r1 _ _
    have hh1 := fC_h f1 hh
    have g1 := fC_B f1
    simp only [↓reduceIte, Option.toList_some, Option.toList_none, List.cons_append, List.nil_append, Int32.reduceAdd, Int32.reduceLT, Int32.reduceLE, Int32.reduceToNatClampNeg, w168_14]
    by_cases w0 : w = 0
    · subst w0
      rw [if_pos rfl] at hQ
      simp only [w168_0, w168_1, w168_2, w168_5, w168_8, w168_9, w168_10, w168_11, w168_14, w168_15_0, w168_15_1, w168_15_2, w168_15_3, w168_15_o, w168_44, w168_45, w168_48, w168_49, w168_50, w168_51, w168_52, w168_55, w168_56, w168_57, w168_60, w168_61, w168_62, w168_63, w168_64, w168_65, w168_66, w168_69, w168_70, w168_71, w168_74, w168_75, w168_76, w168_77, w168_78, w168_79, w168_80, w168_81, w168_82, w168_85, w168_88, w168_89, w168_90, a1, a2, mRr_at r1 (show q < 8 by omega)]
      exact hQ I1 g1
    · rw [if_neg w0] at hQ
      by_cases w1 : w = 1
      · subst w1
        rw [if_pos rfl] at hQ
        simp only [w168_0, w168_1, w168_2, w168_5, w168_8, w168_9, w168_10, w168_11, w168_14, w168_15_0, w168_15_1, w168_15_2, w168_15_3, w168_15_o, w168_44, w168_45, w168_48, w168_49, w168_50, w168_51, w168_52, w168_55, w168_56, w168_57, w168_60, w168_61, w168_62, w168_63, w168_64, w168_65, w168_66, w168_69, w168_70, w168_71, w168_74, w168_75, w168_76, w168_77, w168_78, w168_79, w168_80, w168_81, w168_82, w168_85, w168_88, w168_89, w168_90, hh1.2.1, a3, nI_add, a4, a5, (hh1.2.2.2.2.2.2.1 q hq).1]
        exact hQ I1 g1
      · rw [if_neg w1] at hQ
        by_cases w2 : w = 2
        · subst w2
          rw [if_pos rfl] at hQ
          simp only [w168_0, w168_1, w168_2, w168_5, w168_8, w168_9, w168_10, w168_11, w168_14, w168_15_0, w168_15_1, w168_15_2, w168_15_3, w168_15_o, w168_44, w168_45, w168_48, w168_49, w168_50, w168_51, w168_52, w168_55, w168_56, w168_57, w168_60, w168_61, w168_62, w168_63, w168_64, w168_65, w168_66, w168_69, w168_70, w168_71, w168_74, w168_75, w168_76, w168_77, w168_78, w168_79, w168_80, w168_81, w168_82, w168_85, w168_88, w168_89, w168_90, hh1.2.1, a3, nI_add, a4, a5, (hh1.2.2.2.2.2.2.1 q hq).2]
          exact hQ I1 g1
        · rw [if_neg w2] at hQ
          by_cases w3 : w = 3
          · subst w3
            rw [if_pos rfl] at hQ
            simp only [w168_0, w168_1, w168_2, w168_5, w168_8, w168_9, w168_10, w168_11, w168_14, w168_15_0, w168_15_1, w168_15_2, w168_15_3, w168_15_o, w168_44, w168_45, w168_48, w168_49, w168_50, w168_51, w168_52, w168_55, w168_56, w168_57, w168_60, w168_61, w168_62, w168_63, w168_64, w168_65, w168_66, w168_69, w168_70, w168_71, w168_74, w168_75, w168_76, w168_77, w168_78, w168_79, w168_80, w168_81, w168_82, w168_85, w168_88, w168_89, w168_90]
            refine c172 hh1 r1 ?_
            intro I2 f2
            simp only [↓reduceIte, Option.toList_some, Option.toList_none, List.cons_append, List.nil_append, Int32.reduceAdd, Int32.reduceLT, Int32.reduceLE, Int32.reduceToNatClampNeg, w168_0, w168_1, w168_2, w168_5, w168_8, w168_9, w168_10, w168_11, w168_14, w168_15_0, w168_15_1, w168_15_2, w168_15_3, w168_15_o, w168_44, w168_45, w168_48, w168_49, w168_50, w168_51, w168_52, w168_55, w168_56, w168_57, w168_60, w168_61, w168_62, w168_63, w168_64, w168_65, w168_66, w168_69, w168_70, w168_71, w168_74, w168_75, w168_76, w168_77, w168_78, w168_79, w168_80, w168_81, w168_82, w168_85, w168_88, w168_89, w168_90]
            refine c181 (fM_h f2 hh1) hk (fM_r f2 r1) hq _ ?_
            intro I3 f3
            simp only [↓reduceIte, Option.toList_some, Option.toList_none, List.cons_append, List.nil_append, Int32.reduceAdd, Int32.reduceLT, Int32.reduceLE, Int32.reduceToNatClampNeg, w168_0, w168_1, w168_2, w168_5, w168_8, w168_9, w168_10, w168_11, w168_14, w168_15_0, w168_15_1, w168_15_2, w168_15_3, w168_15_o, w168_44, w168_45, w168_48, w168_49, w168_50, w168_51, w168_52, w168_55, w168_56, w168_57, w168_60, w168_61, w168_62, w168_63, w168_64, w168_65, w168_66, w168_69, w168_70, w168_71, w168_74, w168_75, w168_76, w168_77, w168_78, w168_79, w168_80, w168_81, w168_82, w168_85, w168_88, w168_89, w168_90]
            exact hQ I3 (fB_t g1 (fB_t (fM_B f2) (fM_B f3)))
          · rw [if_neg w3] at hQ
            have z0 := i_ne (n := 0) w0 rfl
            have z1 := i_ne (n := 1) w1 rfl
            have z2 := i_ne (n := 2) w2 rfl
            have z3 := i_ne (n := 3) w3 rfl
            have hx : w.toInt < 0 ∨ 3 < w.toInt := by omega
            simp only [w168_15_o (hx := hx), w168_89, w168_90]
            exact hQ I1 g1
  · rw [if_neg hp] at hQ
    have h' : isP η p = false := by simpa using hp
    simp only [sB_f h', ↓reduceIte, w168_0, w168_1, w168_2, w168_5, w168_8, w168_9, w168_10, w168_11, w168_14, w168_15_0, w168_15_1, w168_15_2, w168_15_3, w168_15_o, w168_44, w168_45, w168_48, w168_49, w168_50, w168_51, w168_52, w168_55, w168_56, w168_57, w168_60, w168_61, w168_62, w168_63, w168_64, w168_65, w168_66, w168_69, w168_70, w168_71, w168_74, w168_75, w168_76, w168_77, w168_78, w168_79, w168_80, w168_81, w168_82, w168_85, w168_88, w168_89, w168_90]
    exact hQ I fB_0
end QRI
