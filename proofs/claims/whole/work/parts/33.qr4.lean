/-! Queries: often, quiet. -/
def q_often (η : mHs) (ρ : Nat → Int32) (v n : Int32) : Int32 := if isM v && sW n 0 200 then cnt (fun k => decide (sMrk η (sB η ρ k) = v)) (n.toNatClampNeg + 1) else -1
def q_quiet (η : mHs) (ρ : Nat → Int32) (n : Int32) : Int32 := if sW n 0 200 then cnt (fun k => decide (sDn η (sB η ρ k) (sMrk η (sB η ρ k)) = 0)) n.toNatClampNeg else -1
section QR4
variable {d : Nat} {xL : Nat} {I : Nat → Nat → Int32} {J : Nat → Nat → Int64} {rr : Nat} {Q : Option Value → mHp → Prop} {s o : Nat} {η : mHs} {ρ : Nat → Int32}
theorem c105 (hb : xB I o η ρ) (v n : Int32) (hQ : ∀ I', fQ I I' → Q (some (.int (q_often η ρ v n))) (mHh xL I' J (mRf o o rr))) : WP (d + 5) 105 0 [.ref 7, .int v, .int n, mDum, mDum, mDum] [] (mHh xL I J (mRf o o rr)) Q := by
  have hb0 := hb
  obtain ⟨hk, hh, hr, ho, m, hm, e5⟩ := hb
  simp only [w105_0, w105_1, c100, ↓reduceIte, Option.toList_some, Option.toList_none, List.cons_append, List.nil_append, Int32.reduceAdd, Int32.reduceLT, Int32.reduceLE, Int32.reduceToNatClampNeg, w105_4, q_often] at hQ ⊢
  by_cases hv : isM v = true
  · by_cases h : sW n 0 200 = true
    · rw [hv, h] at hQ
      obtain ⟨n, -, hn, rfl⟩ := (sW_iff (a := 0) (b := 200) rfl rfl).1 h
      have ec : (nI n).toNatClampNeg = n := nI_clamp (by omega)
      rw [ec] at hQ
      simp only [sB_t hv, sB_t h, o01, ↓reduceIte, w105_0, w105_1, w105_4, w105_7, w105_8, w105_9, w105_12, w105_15, w105_18, w105_19, w105_20, w105_21, w105_24, w105_25, w105_28, w105_31, w105_32, w105_33, w105_34, w105_38, w105_39, w105_42, w105_43, w105_46, w105_47, w105_50, w105_53, w105_55, w105_57, w105_58, w105_61, w105_64, w105_65, w105_68, w105_69, w105_72, w105_74, w105_77, w105_78, w105_81, w105_84, w105_85, c95, c59 s165 s163, s165, s163, ↓reduceIte, Option.toList_some, Option.toList_none, List.cons_append, List.nil_append, Int32.reduceAdd, Int32.reduceLT, Int32.reduceLE, Int32.reduceToNatClampNeg]
      have L : ∀ k, k ≤ n + 1 → ∀ (I' : Nat → Nat → Int32) (v5 : Value), fQ I I' → mRw I' 165 = sB η ρ k → WP (d + 5) 105 36 [.ref 7, .int v, .int (nI n), .int (cnt (fun k => decide (sMrk η (sB η ρ k) = v)) k), .int (nI k), v5] [] (mHh xL I' J (mRf o o rr)) Q := by
        refine iter_dn ?_ ?_
        · intro k hk1 ih I' v5 f r
          have h1 : ¬ nI n < nI k := nI_nlt (by omega) (by omega)
          obtain ⟨ok, -⟩ := sB_ok hk ho e5 k (by omega)
          rw [w105_36]
          simp only [w105_0, w105_1, w105_4, w105_7, w105_8, w105_9, w105_12, w105_15, w105_18, w105_19, w105_20, w105_21, w105_24, w105_25, w105_28, w105_31, w105_32, w105_33, w105_34, w105_38, w105_39, w105_42, w105_43, w105_46, w105_47, w105_50, w105_53, w105_55, w105_57, w105_58, w105_61, w105_64, w105_65, w105_68, w105_69, w105_72, w105_74, w105_77, w105_78, w105_81, w105_84, w105_85, h1, ↓reduceIte]
          refine c4 s165 hk (fQ_B f hb0).2.1 r ok ?_
          intro I2 f2 _
          have go : ∀ x : Int32, x = cnt (fun k => decide (sMrk η (sB η ρ k) = v)) (k + 1) → WP (d + 5) 105 64 [.ref 7, .int v, .int (nI n), .int x, .int (nI k), .int (sMrk η (sB η ρ k))] [] (mHh xL I2 J (mRf o o rr)) Q := by
            intro x hx
            simp only [w105_0, w105_1, w105_4, w105_7, w105_8, w105_9, w105_12, w105_15, w105_18, w105_19, w105_20, w105_21, w105_24, w105_25, w105_28, w105_31, w105_32, w105_33, w105_34, w105_38, w105_39, w105_42, w105_43, w105_46, w105_47, w105_50, w105_53, w105_55, w105_57, w105_58, w105_61, w105_64, w105_65, w105_68, w105_69, w105_72, w105_74, w105_77, w105_78, w105_81, w105_84, w105_85]
            refine c16 s165 hk (fQ_B (fQ_t f (fX_q f2)) hb0).2.1 (fX_r s165 f2 r) ok _ ?_
            intro I3 f3 r3
            simp only [↓reduceIte, Option.toList_some, Option.toList_none, List.cons_append, List.nil_append, Int32.reduceAdd, Int32.reduceLT, Int32.reduceLE, Int32.reduceToNatClampNeg, w105_0, w105_1, w105_4, w105_7, w105_8, w105_9, w105_12, w105_15, w105_18, w105_19, w105_20, w105_21, w105_24, w105_25, w105_28, w105_31, w105_32, w105_33, w105_34, w105_38, w105_39, w105_42, w105_43, w105_46, w105_47, w105_50, w105_53, w105_55, w105_57, w105_58, w105_61, w105_64, w105_65, w105_68, w105_69, w105_72, w105_74, w105_77, w105_78, w105_81, w105_84, w105_85, nI_1, hx]
            exact ih I3 _ (fQ_t (fQ_t f (fX_q f2)) (fA_q f3)) r3
          simp only [↓reduceIte, Option.toList_some, Option.toList_none, List.cons_append, List.nil_append, Int32.reduceAdd, Int32.reduceLT, Int32.reduceLE, Int32.reduceToNatClampNeg, w105_53, w105_55, w105_57, w105_58]
          by_cases hc : sMrk η (sB η ρ k) = v
          · have e : sB01 (decide (sMrk η (sB η ρ k) = v)) = 1 := sB_t (decide_eq_true hc)
            rw [if_pos hc, w105_61]
            exact go _ (by rw [cnt, e])
          · have e : sB01 (decide (sMrk η (sB η ρ k) = v)) = 0 := sB_f (decide_eq_false hc)
            rw [if_neg hc]
            exact go _ (by rw [cnt, e, Int32.add_zero])
        · intro I' v5 f r
          have h1 : nI n < nI (n + 1) := nI_lt (by omega) (by omega)
          rw [w105_36]
          simp only [w105_0, w105_1, w105_4, w105_7, w105_8, w105_9, w105_12, w105_15, w105_18, w105_19, w105_20, w105_21, w105_24, w105_25, w105_28, w105_31, w105_32, w105_33, w105_34, w105_38, w105_39, w105_42, w105_43, w105_46, w105_47, w105_50, w105_53, w105_55, w105_57, w105_58, w105_61, w105_64, w105_65, w105_68, w105_69, w105_72, w105_74, w105_77, w105_78, w105_81, w105_84, w105_85, h1, ↓reduceIte]
          exact hQ I' f
      exact L 0 (by omega) _ _ fCp_q (by rw [mRw_cp s165 s163]; exact hr)
    · have h' : sW n 0 200 = false := by simpa using h
      rw [h', Bool.and_false] at hQ
      simp only [sB_t hv, sB_f h', o01, ↓reduceIte, w105_0, w105_1, w105_4, w105_7, w105_8, w105_9, w105_12, w105_15, w105_18, w105_19, w105_20, w105_21, w105_24, w105_25, w105_28, w105_31, w105_32, w105_33, w105_34, w105_38, w105_39, w105_42, w105_43, w105_46, w105_47, w105_50, w105_53, w105_55, w105_57, w105_58, w105_61, w105_64, w105_65, w105_68, w105_69, w105_72, w105_74, w105_77, w105_78, w105_81, w105_84, w105_85, c95, ↓reduceIte, Option.toList_some, Option.toList_none, List.cons_append, List.nil_append, Int32.reduceAdd, Int32.reduceLT, Int32.reduceLE, Int32.reduceToNatClampNeg]
      exact hQ I fQ_0
  · have h' : isM v = false := by simpa using hv
    rw [h', Bool.false_and] at hQ
    simp only [sB_f h', ↓reduceIte, w105_0, w105_1, w105_4, w105_7, w105_8, w105_9, w105_12, w105_15, w105_18, w105_19, w105_20, w105_21, w105_24, w105_25, w105_28, w105_31, w105_32, w105_33, w105_34, w105_38, w105_39, w105_42, w105_43, w105_46, w105_47, w105_50, w105_53, w105_55, w105_57, w105_58, w105_61, w105_64, w105_65, w105_68, w105_69, w105_72, w105_74, w105_77, w105_78, w105_81, w105_84, w105_85]
    exact hQ I fQ_0
theorem c217 (hb : zB I s η ρ) {rc rx : Nat} (v n : Int32) (hQ : ∀ I', fB I I' → Q (some (.int (q_often η ρ v n))) (mHh xL I' J (mRf rc rx rr))) : WP (d + 7) 217 0 [.ref 180, .int v, .int n, mDum] [] (mHh xL I J (mRf rc rx rr)) Q := by
  obtain ⟨hk, hh, hn, ho, m, hm, e5⟩ := hb
  simp only [w217_0, w217_1, c203, ↓reduceIte, Option.toList_some, Option.toList_none, List.cons_append, List.nil_append, Int32.reduceAdd, Int32.reduceLT, Int32.reduceLE, Int32.reduceToNatClampNeg, w217_4, q_often] at hQ ⊢
  by_cases hv : isM v = true
  · by_cases h : sW n 0 200 = true
    · rw [hv, h] at hQ
      obtain ⟨n, -, hn', rfl⟩ := (sW_iff (a := 0) (b := 200) rfl rfl).1 h
      have ec : (nI n).toNatClampNeg = n := nI_clamp (by omega)
      rw [ec, cnt_s] at hQ
      simp only [sB_t hv, sB_t h, o01, ↓reduceIte, w217_0, w217_1, w217_4, w217_7, w217_8, w217_11, w217_14, w217_15, w217_16, w217_17, w217_20, w217_21, w217_24, w217_25, w217_28, w217_29, w217_32, w217_33, w217_34, w217_35, w217_36, w217_37, w217_38, w217_41, w217_42, c195, ↓reduceIte, Option.toList_some, Option.toList_none, List.cons_append, List.nil_append, Int32.reduceAdd, Int32.reduceLT, Int32.reduceLE, Int32.reduceToNatClampNeg]
      refine c204 hh hn ?_
      intro I1 f1 r1 l1
      simp only [↓reduceIte, Option.toList_some, Option.toList_none, List.cons_append, List.nil_append, Int32.reduceAdd, Int32.reduceLT, Int32.reduceLE, Int32.reduceToNatClampNeg, w217_0, w217_1, w217_4, w217_7, w217_8, w217_11, w217_14, w217_15, w217_16, w217_17, w217_20, w217_21, w217_24, w217_25, w217_28, w217_29, w217_32, w217_33, w217_34, w217_35, w217_36, w217_37, w217_38, w217_41, w217_42]
      refine c172 (fC_h f1 hh) r1 ?_
      intro I2 f2
      have l2 : I2 180 52 = 1 := by rw [f2.2 52 (by decide)]; exact l1
      have go : ∀ x : Int32, x = sB01 (decide (sMrk η (sB η ρ 0) = v)) → WP (d + 7) 217 33 [.ref 180, .int v, .int (nI n), mDum] [.int x] (mHh xL I2 J (mRf rc rx rr)) Q := by
        intro x hx
        simp only [w217_0, w217_1, w217_4, w217_7, w217_8, w217_11, w217_14, w217_15, w217_16, w217_17, w217_20, w217_21, w217_24, w217_25, w217_28, w217_29, w217_32, w217_33, w217_34, w217_35, w217_36, w217_37, w217_38, w217_41, w217_42]
        refine c213 (fM_h f2 (fC_h f1 hh)) hk (fM_r f2 r1) ho l2 v e5 (by omega) ?_
        intro I3 f3 r3
        simp only [↓reduceIte, Option.toList_some, Option.toList_none, List.cons_append, List.nil_append, Int32.reduceAdd, Int32.reduceLT, Int32.reduceLE, Int32.reduceToNatClampNeg, w217_0, w217_1, w217_4, w217_7, w217_8, w217_11, w217_14, w217_15, w217_16, w217_17, w217_20, w217_21, w217_24, w217_25, w217_28, w217_29, w217_32, w217_33, w217_34, w217_35, w217_36, w217_37, w217_38, w217_41, w217_42, hx]
        exact hQ I3 (fB_t (fB_t (fC_B f1) (fM_B f2)) (fH_B f3))
      simp only [↓reduceIte, Option.toList_some, Option.toList_none, List.cons_append, List.nil_append, Int32.reduceAdd, Int32.reduceLT, Int32.reduceLE, Int32.reduceToNatClampNeg, w217_24, w217_25]
      by_cases hc : sMrk η ρ = v
      · rw [if_pos hc]
        simp only [w217_28, w217_29]
        exact go 1 (sB_t (decide_eq_true (p := sMrk η (sB η ρ 0) = v) hc)).symm
      · rw [if_neg hc]
        simp only [w217_32]
        exact go 0 (sB_f (decide_eq_false (p := sMrk η (sB η ρ 0) = v) hc)).symm
    · have h' : sW n 0 200 = false := by simpa using h
      rw [h', Bool.and_false] at hQ
      simp only [sB_t hv, sB_f h', o01, ↓reduceIte, w217_0, w217_1, w217_4, w217_7, w217_8, w217_11, w217_14, w217_15, w217_16, w217_17, w217_20, w217_21, w217_24, w217_25, w217_28, w217_29, w217_32, w217_33, w217_34, w217_35, w217_36, w217_37, w217_38, w217_41, w217_42, c195, ↓reduceIte, Option.toList_some, Option.toList_none, List.cons_append, List.nil_append, Int32.reduceAdd, Int32.reduceLT, Int32.reduceLE, Int32.reduceToNatClampNeg]
      exact hQ I fB_0
  · have h' : isM v = false := by simpa using hv
    rw [h', Bool.false_and] at hQ
    simp only [sB_f h', ↓reduceIte, w217_0, w217_1, w217_4, w217_7, w217_8, w217_11, w217_14, w217_15, w217_16, w217_17, w217_20, w217_21, w217_24, w217_25, w217_28, w217_29, w217_32, w217_33, w217_34, w217_35, w217_36, w217_37, w217_38, w217_41, w217_42]
    exact hQ I fB_0
end QR4
