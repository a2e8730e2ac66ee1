/-! Queries: year. -/
section QR7
variable {d : Nat} {xL : Nat} {I : Nat → Nat → Int32} {J : Nat → Nat → Int64} {rr : Nat} {Q : Option Value → mHp → Prop} {s o : Nat} {η : mHs} {ρ : Nat → Int32}
theorem c125 (hb : xB I o η ρ) (v n c : Int32) (hQ : ∀ I', fQ I I' → Q (some (.int (q_year η ρ v n c))) (mHh xL I' J (mRf o o rr))) : WP (d + 5) 125 0 [.ref 7, .int v, .int n, .int c, mDum, mDum] [] (mHh xL I J (mRf o o rr)) Q := by
  have hb0 := hb
  obtain ⟨hk, hh, hr, ho, m, hm, e5⟩ := hb
  simp only [w125_0, w125_1, c100, ↓reduceIte, Option.toList_some, Option.toList_none, List.cons_append, List.nil_append, Int32.reduceAdd, Int32.reduceLT, Int32.reduceLE, Int32.reduceToNatClampNeg, w125_4, q_year] at hQ ⊢
  by_cases hv : isM v = true
  · by_cases h : sW n 0 200 = true
    · by_cases h' : sW c 1 20 = true
      · rw [hv, h, h'] at hQ
        obtain ⟨n, -, hn, rfl⟩ := (sW_iff (a := 0) (b := 200) rfl rfl).1 h
        obtain ⟨c, -, hc20, rfl⟩ := (sW_iff (a := 1) (b := 20) rfl rfl).1 h'
        have ec : (nI n).toNatClampNeg = n := nI_clamp (by omega)
        have ecc : (nI c).toNatClampNeg = c := nI_clamp (by omega)
        rw [ec, ecc] at hQ
        simp only [sB_t hv, sB_t h, sB_t h', o01, ↓reduceIte, w125_0, w125_1, w125_4, w125_7, w125_8, w125_9, w125_12, w125_15, w125_18, w125_19, w125_20, w125_22, w125_25, w125_28, w125_29, w125_30, w125_31, w125_33, w125_34, w125_38, w125_39, w125_42, w125_43, w125_46, w125_47, w125_50, w125_53, w125_54, w125_57, w125_58, w125_61, w125_62, w125_63, w125_66, w125_69, w125_71, w125_72, w125_75, w125_76, w125_79, w125_82, w125_85, w125_88, w125_90, c95, ↓reduceIte, Option.toList_some, Option.toList_none, List.cons_append, List.nil_append, Int32.reduceAdd, Int32.reduceLT, Int32.reduceLE, Int32.reduceToNatClampNeg]
        have L : ∀ k, k ≤ c → ∀ (I' : Nat → Nat → Int32), fQ I I' → WP (d + 5) 125 36 [.ref 7, .int v, .int (nI n), .int (nI c), .int (cnt (fun k => decide (sMrk η (sP η (η.2.2.2.2.1 + nI k) ρ n) = v)) k), .int (nI k)] [] (mHh xL I' J (mRf o o rr)) Q := by
          refine iter_dn ?_ ?_
          · intro k hk1 ih I' f
            have b1 := fQ_B f hb0
            have h1 : ¬ nI c ≤ nI k := nI_ge hk1 (by omega)
            have q1 : fQ I (mCp 165 163 I') := fQ_t f fCp_q
            have es : mCp 165 163 I' o 15 = η.2.2.2.2.1 := (fQ_B q1 hb0).2.1.2.2.2.2.1
            rw [w125_36]
            simp only [w125_0, w125_1, w125_4, w125_7, w125_8, w125_9, w125_12, w125_15, w125_18, w125_19, w125_20, w125_22, w125_25, w125_28, w125_29, w125_30, w125_31, w125_33, w125_34, w125_38, w125_39, w125_42, w125_43, w125_46, w125_47, w125_50, w125_53, w125_54, w125_57, w125_58, w125_61, w125_62, w125_63, w125_66, w125_69, w125_71, w125_72, w125_75, w125_76, w125_79, w125_82, w125_85, w125_88, w125_90, h1, ↓reduceIte, s163, s165, c59 s165 s163, ↓reduceIte, Option.toList_some, Option.toList_none, List.cons_append, List.nil_append, Int32.reduceAdd, Int32.reduceLT, Int32.reduceLE, Int32.reduceToNatClampNeg, hh.1, es]
            refine c15 s165 hk (fQ_B q1 hb0).2.1 (by rw [mRw_cp s165 s163]; exact b1.2.2.1) ho _ e5 (by omega) ?_
            intro I2 f2 _
            have := ih I2 (fQ_t q1 (fA_q f2))
            rw [cnt] at this
            simp only [↓reduceIte, Option.toList_some, Option.toList_none, List.cons_append, List.nil_append, Int32.reduceAdd, Int32.reduceLT, Int32.reduceLE, Int32.reduceToNatClampNeg, w125_75, w125_76]
            by_cases hc : sMrk η (sP η (η.2.2.2.2.1 + nI k) ρ n) = v
            · rw [sB_t (decide_eq_true hc)] at this
              simp only [hc, ↓reduceIte, w125_0, w125_1, w125_4, w125_7, w125_8, w125_9, w125_12, w125_15, w125_18, w125_19, w125_20, w125_22, w125_25, w125_28, w125_29, w125_30, w125_31, w125_33, w125_34, w125_38, w125_39, w125_42, w125_43, w125_46, w125_47, w125_50, w125_53, w125_54, w125_57, w125_58, w125_61, w125_62, w125_63, w125_66, w125_69, w125_71, w125_72, w125_75, w125_76, w125_79, w125_82, w125_85, w125_88, w125_90, nI_1]
              exact this
            · rw [sB_f (decide_eq_false hc), Int32.add_zero] at this
              simp only [hc, ↓reduceIte, w125_0, w125_1, w125_4, w125_7, w125_8, w125_9, w125_12, w125_15, w125_18, w125_19, w125_20, w125_22, w125_25, w125_28, w125_29, w125_30, w125_31, w125_33, w125_34, w125_38, w125_39, w125_42, w125_43, w125_46, w125_47, w125_50, w125_53, w125_54, w125_57, w125_58, w125_61, w125_62, w125_63, w125_66, w125_69, w125_71, w125_72, w125_75, w125_76, w125_79, w125_82, w125_85, w125_88, w125_90, nI_1]
              exact this
          · intro I' f
            have h1 : nI c ≤ nI c := nI_le (Nat.le_refl _) (by omega)
            rw [w125_36]
            simp only [w125_0, w125_1, w125_4, w125_7, w125_8, w125_9, w125_12, w125_15, w125_18, w125_19, w125_20, w125_22, w125_25, w125_28, w125_29, w125_30, w125_31, w125_33, w125_34, w125_38, w125_39, w125_42, w125_43, w125_46, w125_47, w125_50, w125_53, w125_54, w125_57, w125_58, w125_61, w125_62, w125_63, w125_66, w125_69, w125_71, w125_72, w125_75, w125_76, w125_79, w125_82, w125_85, w125_88, w125_90, h1, ↓reduceIte]
            exact hQ I' f
        exact L 0 (by omega) _ fQ_0
      · have h2 : sW c 1 20 = false := by simpa using h'
        rw [h2, Bool.and_false, Bool.and_false] at hQ
        simp only [sB_t hv, sB_t h, sB_f h2, o01, ↓reduceIte, w125_0, w125_1, w125_4, w125_7, w125_8, w125_9, w125_12, w125_15, w125_18, w125_19, w125_20, w125_22, w125_25, w125_28, w125_29, w125_30, w125_31, w125_33, w125_34, w125_38, w125_39, w125_42, w125_43, w125_46, w125_47, w125_50, w125_53, w125_54, w125_57, w125_58, w125_61, w125_62, w125_63, w125_66, w125_69, w125_71, w125_72, w125_75, w125_76, w125_79, w125_82, w125_85, w125_88, w125_90, c95, ↓reduceIte, Option.toList_some, Option.toList_none, List.cons_append, List.nil_append, Int32.reduceAdd, Int32.reduceLT, Int32.reduceLE, Int32.reduceToNatClampNeg]
        exact hQ I fQ_0
    · have h2 : sW n 0 200 = false := by simpa using h
      rw [h2, Bool.false_and, Bool.and_false] at hQ
      simp only [sB_t hv, sB_f h2, o01, ↓reduceIte, w125_0, w125_1, w125_4, w125_7, w125_8, w125_9, w125_12, w125_15, w125_18, w125_19, w125_20, w125_22, w125_25, w125_28, w125_29, w125_30, w125_31, w125_33, w125_34, w125_38, w125_39, w125_42, w125_43, w125_46, w125_47, w125_50, w125_53, w125_54, w125_57, w125_58, w125_61, w125_62, w125_63, w125_66, w125_69, w125_71, w125_72, w125_75, w125_76, w125_79, w125_82, w125_85, w125_88, w125_90, c95, ↓reduceIte, Option.toList_some, Option.toList_none, List.cons_append, List.nil_append, Int32.reduceAdd, Int32.reduceLT, Int32.reduceLE, Int32.reduceToNatClampNeg]
      exact hQ I fQ_0
  · have h' : isM v = false := by simpa using hv
    rw [h', Bool.false_and] at hQ
    simp only [sB_f h', ↓reduceIte, w125_0, w125_1, w125_4, w125_7, w125_8, w125_9, w125_12, w125_15, w125_18, w125_19, w125_20, w125_22, w125_25, w125_28, w125_29, w125_30, w125_31, w125_33, w125_34, w125_38, w125_39, w125_42, w125_43, w125_46, w125_47, w125_50, w125_53, w125_54, w125_57, w125_58, w125_61, w125_62, w125_63, w125_66, w125_69, w125_71, w125_72, w125_75, w125_76, w125_79, w125_82, w125_85, w125_88, w125_90]
    exact hQ I fQ_0
theorem c244 (hb : zB I s η ρ) {rc rx : Nat} (v n c : Int32) (hQ : ∀ I', fB I I' → Q (some (.int (q_year η ρ v n c))) (mHh xL I' J (mRf rc rx rr))) : WP (d + 8) 244 0 [.ref 180, .int v, .int n, .int c, mDum, mDum] [] (mHh xL I J (mRf rc rx rr)) Q := by
  have hb0 := hb
  obtain ⟨hk, hh, hn, ho, m, hm, e5⟩ := hb
  have e9 : ∀ (x l m : Int32), (decide (l ≤ x) && decide (x ≤ m)) = sW x l m := fun _ _ _ => rfl
  simp only [w244_0, w244_1, c203, ↓reduceIte, Option.toList_some, Option.toList_none, List.cons_append, List.nil_append, Int32.reduceAdd, Int32.reduceLT, Int32.reduceLE, Int32.reduceToNatClampNeg, w244_4, q_year] at hQ ⊢
  by_cases hv : isM v = true
  · by_cases h : sW n 0 200 = true
    · by_cases h' : sW c 1 20 = true
      · rw [hv, h, h'] at hQ
        obtain ⟨n, -, hn', rfl⟩ := (sW_iff (a := 0) (b := 200) rfl rfl).1 h
        obtain ⟨c, -, hc20, rfl⟩ := (sW_iff (a := 1) (b := 20) rfl rfl).1 h'
        have ec : (nI n).toNatClampNeg = n := nI_clamp (by omega)
        have ecc : (nI c).toNatClampNeg = c := nI_clamp (by omega)
        rw [ec, ecc] at hQ
        simp only [sB_t hv, sB_t h, o01, ↓reduceIte, w244_0, w244_1, w244_4, w244_7, w244_8, w244_11, w244_14, w244_15, w244_16, w244_18, w244_21, w244_24, w244_25, w244_26, w244_27, w244_29, w244_30, w244_34, w244_35, w244_38, w244_39, w244_42, w244_43, w244_44, w244_47, w244_49, w244_50, w244_53, w244_54, w244_55, w244_58, w244_59, w244_62, w244_65, w244_68, w244_71, w244_73, c195, c170, e9, sB_t h', ↓reduceIte, Option.toList_some, Option.toList_none, List.cons_append, List.nil_append, Int32.reduceAdd, Int32.reduceLT, Int32.reduceLE, Int32.reduceToNatClampNeg]
        have L : ∀ k, k ≤ c → ∀ (I' : Nat → Nat → Int32), fB I I' → WP (d + 8) 244 32 [.ref 180, .int v, .int (nI n), .int (nI c), .int (cnt (fun k => decide (sMrk η (sP η (η.2.2.2.2.1 + nI k) ρ n) = v)) k), .int (nI k)] [] (mHh xL I' J (mRf rc rx rr)) Q := by
          refine iter_dn ?_ ?_
          · intro k hk1 ih I' f
            have b1 := fB_B f hb0
            have h1 : ¬ nI c ≤ nI k := nI_ge hk1 (by omega)
            rw [w244_32]
            simp only [w244_0, w244_1, w244_4, w244_7, w244_8, w244_11, w244_14, w244_15, w244_16, w244_18, w244_21, w244_24, w244_25, w244_26, w244_27, w244_29, w244_30, w244_34, w244_35, w244_38, w244_39, w244_42, w244_43, w244_44, w244_47, w244_49, w244_50, w244_53, w244_54, w244_55, w244_58, w244_59, w244_62, w244_65, w244_68, w244_71, w244_73, h1, ↓reduceIte]
            refine c171 b1.2.1 b1.2.2.1 ?_
            intro I1 f1 r1 l1 l2
            have g1 : fC I1 (mU I1 180 51 (η.2.2.2.2.1 + nI k)) := ⟨fun a x y z u w => by rw [mU_f w], fun k x y z => by rw [mU_k y]⟩
            have g2 : fB I (mU I1 180 51 (η.2.2.2.2.1 + nI k)) := fB_t f (fC_B (fC_t f1 g1))
            simp only [↓reduceIte, Option.toList_some, Option.toList_none, List.cons_append, List.nil_append, Int32.reduceAdd, Int32.reduceLT, Int32.reduceLE, Int32.reduceToNatClampNeg, w244_0, w244_1, w244_4, w244_7, w244_8, w244_11, w244_14, w244_15, w244_16, w244_18, w244_21, w244_24, w244_25, w244_26, w244_27, w244_29, w244_30, w244_34, w244_35, w244_38, w244_39, w244_42, w244_43, w244_44, w244_47, w244_49, w244_50, w244_53, w244_54, w244_55, w244_58, w244_59, w244_62, w244_65, w244_68, w244_71, w244_73, l1]
            refine c216n (fB_h g2 hh) hk (mRr_o (mU_f (by decide)) r1) ho (by rw [mU_k (by decide)]; exact l2) (mU_s _ _ _ _) e5 (by omega) ?_
            intro I2 f2 _
            have := ih I2 (fB_t g2 (fH_B f2))
            rw [cnt] at this
            simp only [↓reduceIte, Option.toList_some, Option.toList_none, List.cons_append, List.nil_append, Int32.reduceAdd, Int32.reduceLT, Int32.reduceLE, Int32.reduceToNatClampNeg, w244_58, w244_59]
            by_cases hc : sMrk η (sP η (η.2.2.2.2.1 + nI k) ρ n) = v
            · rw [sB_t (decide_eq_true hc)] at this
              simp only [hc, ↓reduceIte, w244_0, w244_1, w244_4, w244_7, w244_8, w244_11, w244_14, w244_15, w244_16, w244_18, w244_21, w244_24, w244_25, w244_26, w244_27, w244_29, w244_30, w244_34, w244_35, w244_38, w244_39, w244_42, w244_43, w244_44, w244_47, w244_49, w244_50, w244_53, w244_54, w244_55, w244_58, w244_59, w244_62, w244_65, w244_68, w244_71, w244_73, nI_1]
              exact this
            · rw [sB_f (decide_eq_false hc), Int32.add_zero] at this
              simp only [hc, ↓reduceIte, w244_0, w244_1, w244_4, w244_7, w244_8, w244_11, w244_14, w244_15, w244_16, w244_18, w244_21, w244_24, w244_25, w244_26, w244_27, w244_29, w244_30, w244_34, w244_35, w244_38, w244_39, w244_42, w244_43, w244_44, w244_47, w244_49, w244_50, w244_53, w244_54, w244_55, w244_58, w244_59, w244_62, w244_65, w244_68, w244_71, w244_73, nI_1]
              exact this
          · intro I' f
            have h1 : nI c ≤ nI c := nI_le (Nat.le_refl _) (by omega)
            rw [w244_32]
            simp only [w244_0, w244_1, w244_4, w244_7, w244_8, w244_11, w244_14, w244_15, w244_16, w244_18, w244_21, w244_24, w244_25, w244_26, w244_27, w244_29, w244_30, w244_34, w244_35, w244_38, w244_39, w244_42, w244_43, w244_44, w244_47, w244_49, w244_50, w244_53, w244_54, w244_55, w244_58, w244_59, w244_62, w244_65, w244_68, w244_71, w244_73, h1, ↓reduceIte]
            exact hQ I' f
        exact L 0 (by omega) _ fB_0
      · have h2 : sW c 1 20 = false := by simpa using h'
        rw [h2, Bool.and_false, Bool.and_false] at hQ
        simp only [sB_t hv, sB_t h, o01, ↓reduceIte, w244_0, w244_1, w244_4, w244_7, w244_8, w244_11, w244_14, w244_15, w244_16, w244_18, w244_21, w244_24, w244_25, w244_26, w244_27, w244_29, w244_30, w244_34, w244_35, w244_38, w244_39, w244_42, w244_43, w244_44, w244_47, w244_49, w244_50, w244_53, w244_54, w244_55, w244_58, w244_59, w244_62, w244_65, w244_68, w244_71, w244_73, c195, c170, e9, sB_f h2, ↓reduceIte, Option.toList_some, Option.toList_none, List.cons_append, List.nil_append, Int32.reduceAdd, Int32.reduceLT, Int32.reduceLE, Int32.reduceToNatClampNeg]
        exact hQ I fB_0
    · have h2 : sW n 0 200 = false := by simpa using h
      rw [h2, Bool.false_and, Bool.and_false] at hQ
      simp only [sB_t hv, sB_f h2, o01, ↓reduceIte, w244_0, w244_1, w244_4, w244_7, w244_8, w244_11, w244_14, w244_15, w244_16, w244_18, w244_21, w244_24, w244_25, w244_26, w244_27, w244_29, w244_30, w244_34, w244_35, w244_38, w244_39, w244_42, w244_43, w244_44, w244_47, w244_49, w244_50, w244_53, w244_54, w244_55, w244_58, w244_59, w244_62, w244_65, w244_68, w244_71, w244_73, c195, ↓reduceIte, Option.toList_some, Option.toList_none, List.cons_append, List.nil_append, Int32.reduceAdd, Int32.reduceLT, Int32.reduceLE, Int32.reduceToNatClampNeg]
      exact hQ I fB_0
  · have h' : isM v = false := by simpa using hv
    rw [h', Bool.false_and] at hQ
    simp only [sB_f h', ↓reduceIte, w244_0, w244_1, w244_4, w244_7, w244_8, w244_11, w244_14, w244_15, w244_16, w244_18, w244_21, w244_24, w244_25, w244_26, w244_27, w244_29, w244_30, w244_34, w244_35, w244_38, w244_39, w244_42, w244_43, w244_44, w244_47, w244_49, w244_50, w244_53, w244_54, w244_55, w244_58, w244_59, w244_62, w244_65, w244_68, w244_71, w244_73]
    exact hQ I fB_0
end QR7
