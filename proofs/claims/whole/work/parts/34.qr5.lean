/-! Queries: quiet, tapping, year. -/
def rT (ρ : Nat → Int32) (k : Nat) : Nat → Int32 := rU ρ 6 (ρ 6 + nI k)
def q_tapping (η : mHs) (ρ : Nat → Int32) (v n : Int32) : Int32 := if isM v && sW n 0 60 then fin2 (fnd (fun k => decide (sMrk η (sB η (rT ρ k) n.toNatClampNeg) = v)) (10 - (ρ 6).toNatClampNeg) 0) else -1
def q_year (η : mHs) (ρ : Nat → Int32) (v n c : Int32) : Int32 := if isM v && (sW n 0 200 && sW c 1 20) then cnt (fun k => decide (sMrk η (sP η (η.2.2.2.2.1 + nI k) ρ n.toNatClampNeg) = v)) c.toNatClampNeg else -1
section QR5
variable {d : Nat} {xL : Nat} {I : Nat → Nat → Int32} {J : Nat → Nat → Int64} {rr : Nat} {Q : Option Value → mHp → Prop} {s o : Nat} {η : mHs} {ρ : Nat → Int32}
theorem c106 (hb : xB I o η ρ) (n : Int32) (hQ : ∀ I', fQ I I' → Q (some (.int (q_quiet η ρ n))) (mHh xL I' J (mRf o o rr))) : WP (d + 5) 106 0 [.ref 7, .int n, mDum, mDum] [] (mHh xL I J (mRf o o rr)) Q := by
  have hb0 := hb
  obtain ⟨hk, hh, hr, ho, m, hm, e5⟩ := hb
  simp only [w106_0, w106_1, w106_2, w106_5, c95, ↓reduceIte, Option.toList_some, Option.toList_none, List.cons_append, List.nil_append, Int32.reduceAdd, Int32.reduceLT, Int32.reduceLE, Int32.reduceToNatClampNeg, w106_8, q_quiet] at hQ ⊢
  by_cases h : sW n 0 200 = true
  · rw [if_pos h] at hQ
    obtain ⟨n, -, hn, rfl⟩ := (sW_iff (a := 0) (b := 200) rfl rfl).1 h
    have ec : (nI n).toNatClampNeg = n := nI_clamp (by omega)
    rw [ec] at hQ
    simp only [sB_t h, o01, ↓reduceIte, w106_0, w106_1, w106_2, w106_5, w106_8, w106_11, w106_12, w106_13, w106_14, w106_17, w106_18, w106_21, w106_24, w106_25, w106_26, w106_27, w106_29, w106_30, w106_33, w106_34, w106_37, w106_38, w106_41, w106_42, w106_45, w106_46, w106_49, w106_52, w106_55, w106_58, w106_61, w106_64, w106_67, w106_68, c59 s165 s163, s165, s163, ↓reduceIte, Option.toList_some, Option.toList_none, List.cons_append, List.nil_append, Int32.reduceAdd, Int32.reduceLT, Int32.reduceLE, Int32.reduceToNatClampNeg]
    have L : ∀ k, k ≤ n → ∀ (I' : Nat → Nat → Int32), fQ I I' → mRw I' 165 = sB η ρ k → WP (d + 5) 106 28 [.ref 7, .int (nI n), .int (cnt (fun k => decide (sDn η (sB η ρ k) (sMrk η (sB η ρ k)) = 0)) k), .int (nI k)] [] (mHh xL I' J (mRf o o rr)) Q := by
      refine iter_dn ?_ ?_
      · intro k hk1 ih I' f r
        have h1 : ¬ nI n ≤ nI k := nI_ge hk1 (by omega)
        obtain ⟨ok, -⟩ := sB_ok hk ho e5 k (by omega)
        rw [w106_28]
        simp only [w106_0, w106_1, w106_2, w106_5, w106_8, w106_11, w106_12, w106_13, w106_14, w106_17, w106_18, w106_21, w106_24, w106_25, w106_26, w106_27, w106_29, w106_30, w106_33, w106_34, w106_37, w106_38, w106_41, w106_42, w106_45, w106_46, w106_49, w106_52, w106_55, w106_58, w106_61, w106_64, w106_67, w106_68, h1, ↓reduceIte]
        refine c4 s165 hk (fQ_B f hb0).2.1 r ok ?_
        intro I2 f2 _
        simp only [↓reduceIte, Option.toList_some, Option.toList_none, List.cons_append, List.nil_append, Int32.reduceAdd, Int32.reduceLT, Int32.reduceLE, Int32.reduceToNatClampNeg, w106_0, w106_1, w106_2, w106_5, w106_8, w106_11, w106_12, w106_13, w106_14, w106_17, w106_18, w106_21, w106_24, w106_25, w106_26, w106_27, w106_29, w106_30, w106_33, w106_34, w106_37, w106_38, w106_41, w106_42, w106_45, w106_46, w106_49, w106_52, w106_55, w106_58, w106_61, w106_64, w106_67, w106_68]
        refine c16 s165 hk (fQ_B (fQ_t f (fX_q f2)) hb0).2.1 (fX_r s165 f2 r) ok _ ?_
        intro I3 f3 r3
        have := ih I3 (fQ_t (fQ_t f (fX_q f2)) (fA_q f3)) r3
        rw [cnt] at this
        simp only [↓reduceIte, Option.toList_some, Option.toList_none, List.cons_append, List.nil_append, Int32.reduceAdd, Int32.reduceLT, Int32.reduceLE, Int32.reduceToNatClampNeg, w106_0, w106_1, w106_2, w106_5, w106_8, w106_11, w106_12, w106_13, w106_14, w106_17, w106_18, w106_21, w106_24, w106_25, w106_26, w106_27, w106_29, w106_30, w106_33, w106_34, w106_37, w106_38, w106_41, w106_42, w106_45, w106_46, w106_49, w106_52, w106_55, w106_58, w106_61, w106_64, w106_67, w106_68]
        by_cases hc : sDn η (sB η ρ k) (sMrk η (sB η ρ k)) = 0
        · rw [sB_t (decide_eq_true hc)] at this
          simp only [hc, ↓reduceIte, w106_0, w106_1, w106_2, w106_5, w106_8, w106_11, w106_12, w106_13, w106_14, w106_17, w106_18, w106_21, w106_24, w106_25, w106_26, w106_27, w106_29, w106_30, w106_33, w106_34, w106_37, w106_38, w106_41, w106_42, w106_45, w106_46, w106_49, w106_52, w106_55, w106_58, w106_61, w106_64, w106_67, w106_68, nI_1]
          exact this
        · rw [sB_f (decide_eq_false hc), Int32.add_zero] at this
          simp only [hc, ↓reduceIte, w106_0, w106_1, w106_2, w106_5, w106_8, w106_11, w106_12, w106_13, w106_14, w106_17, w106_18, w106_21, w106_24, w106_25, w106_26, w106_27, w106_29, w106_30, w106_33, w106_34, w106_37, w106_38, w106_41, w106_42, w106_45, w106_46, w106_49, w106_52, w106_55, w106_58, w106_61, w106_64, w106_67, w106_68, nI_1]
          exact this
      · intro I' f r
        have h1 : nI n ≤ nI n := nI_le (Nat.le_refl _) (by omega)
        rw [w106_28]
        simp only [w106_0, w106_1, w106_2, w106_5, w106_8, w106_11, w106_12, w106_13, w106_14, w106_17, w106_18, w106_21, w106_24, w106_25, w106_26, w106_27, w106_29, w106_30, w106_33, w106_34, w106_37, w106_38, w106_41, w106_42, w106_45, w106_46, w106_49, w106_52, w106_55, w106_58, w106_61, w106_64, w106_67, w106_68, h1, ↓reduceIte]
        exact hQ I' f
    exact L 0 (by omega) _ fCp_q (by rw [mRw_cp s165 s163]; exact hr)
  · have h' : sW n 0 200 = false := by simpa using h
    rw [if_neg h] at hQ
    simp only [sB_f h', ↓reduceIte, w106_0, w106_1, w106_2, w106_5, w106_8, w106_11, w106_12, w106_13, w106_14, w106_17, w106_18, w106_21, w106_24, w106_25, w106_26, w106_27, w106_29, w106_30, w106_33, w106_34, w106_37, w106_38, w106_41, w106_42, w106_45, w106_46, w106_49, w106_52, w106_55, w106_58, w106_61, w106_64, w106_67, w106_68]
    exact hQ I fQ_0
theorem c218 (hb : zB I s η ρ) {rc rx : Nat} (n : Int32) (hQ : ∀ I', fB I I' → Q (some (.int (q_quiet η ρ n))) (mHh xL I' J (mRf rc rx rr))) : WP (d + 6) 218 0 [.ref 180, .int n, mDum, mDum] [] (mHh xL I J (mRf rc rx rr)) Q := by
  obtain ⟨hk, hh, hn, ho, m, hm, e5⟩ := hb
  simp only [w218_0, w218_1, c195, ↓reduceIte, Option.toList_some, Option.toList_none, List.cons_append, List.nil_append, Int32.reduceAdd, Int32.reduceLT, Int32.reduceLE, Int32.reduceToNatClampNeg, w218_4, q_quiet] at hQ ⊢
  by_cases h : sW n 0 200 = true
  · rw [if_pos h] at hQ
    obtain ⟨n, -, hn', rfl⟩ := (sW_iff (a := 0) (b := 200) rfl rfl).1 h
    have ec : (nI n).toNatClampNeg = n := nI_clamp (by omega)
    rw [ec] at hQ
    simp only [sB_t h, o01, ↓reduceIte, w218_0, w218_1, w218_4, w218_7, w218_8, w218_9, w218_10, w218_13, w218_14, w218_15, w218_16, w218_18, w218_19, w218_22, w218_23, w218_24, w218_27, w218_30, w218_33, w218_36, w218_37, w218_40, w218_43, w218_46, w218_47]
    refine c204 hh hn ?_
    intro I1 f1 r1 l1
    simp only [↓reduceIte, Option.toList_some, Option.toList_none, List.cons_append, List.nil_append, Int32.reduceAdd, Int32.reduceLT, Int32.reduceLE, Int32.reduceToNatClampNeg, w218_0, w218_1, w218_4, w218_7, w218_8, w218_9, w218_10, w218_13, w218_14, w218_15, w218_16, w218_18, w218_19, w218_22, w218_23, w218_24, w218_27, w218_30, w218_33, w218_36, w218_37, w218_40, w218_43, w218_46, w218_47]
    have L : ∀ k, k ≤ n → ∀ (I' : Nat → Nat → Int32), fB I I' → mRr I' (sB η ρ k) → I' 180 52 = 1 → WP (d + 6) 218 17 [.ref 180, .int (nI n), .int (cnt (fun k => decide (sDn η (sB η ρ k) (sMrk η (sB η ρ k)) = 0)) k), .int (nI k)] [] (mHh xL I' J (mRf rc rx rr)) Q := by
      refine iter_dn ?_ ?_
      · intro k hk1 ih I' f r l
        have h1 : ¬ nI n ≤ nI k := nI_ge hk1 (by omega)
        obtain ⟨ok, -⟩ := sB_ok hk ho e5 k (by omega)
        rw [w218_17]
        simp only [w218_0, w218_1, w218_4, w218_7, w218_8, w218_9, w218_10, w218_13, w218_14, w218_15, w218_16, w218_18, w218_19, w218_22, w218_23, w218_24, w218_27, w218_30, w218_33, w218_36, w218_37, w218_40, w218_43, w218_46, w218_47, h1, ↓reduceIte]
        refine c172 (fB_h f hh) r ?_
        intro I2 f2
        have l2 : I2 180 52 = 1 := by rw [f2.2 52 (by decide)]; exact l
        have g2 : fB I I2 := fB_t f (fM_B f2)
        simp only [↓reduceIte, Option.toList_some, Option.toList_none, List.cons_append, List.nil_append, Int32.reduceAdd, Int32.reduceLT, Int32.reduceLE, Int32.reduceToNatClampNeg, w218_27, w218_30, c219 (fB_h g2 hh) hk (fM_r f2 r) ok]
        have go : ∀ x : Int32, x = cnt (fun k => decide (sDn η (sB η ρ k) (sMrk η (sB η ρ k)) = 0)) (k + 1) → WP (d + 6) 218 36 [.ref 180, .int (nI n), .int x, .int (nI k)] [] (mHh xL I2 J (mRf rc rx rr)) Q := by
          intro x hx
          simp only [w218_0, w218_1, w218_4, w218_7, w218_8, w218_9, w218_10, w218_13, w218_14, w218_15, w218_16, w218_18, w218_19, w218_22, w218_23, w218_24, w218_27, w218_30, w218_33, w218_36, w218_37, w218_40, w218_43, w218_46, w218_47]
          refine c197s (fB_h g2 hh) hk (fM_r f2 r) ok l2 ?_
          intro I3 f3 r3
          simp only [↓reduceIte, Option.toList_some, Option.toList_none, List.cons_append, List.nil_append, Int32.reduceAdd, Int32.reduceLT, Int32.reduceLE, Int32.reduceToNatClampNeg, nI_1, hx]
          exact ih I3 (fB_t g2 (fH_B f3)) r3 (by rw [(fH_5 f3).2]; exact l2)
        by_cases hc : sDn η (sB η ρ k) (sMrk η (sB η ρ k)) = 0
        · rw [if_pos hc, w218_33]
          exact go _ (by rw [cnt, sB_t (decide_eq_true hc)])
        · rw [if_neg hc]
          exact go _ (by rw [cnt, sB_f (decide_eq_false hc), Int32.add_zero])
      · intro I' f r l
        have h1 : nI n ≤ nI n := nI_le (Nat.le_refl _) (by omega)
        rw [w218_17]
        simp only [w218_0, w218_1, w218_4, w218_7, w218_8, w218_9, w218_10, w218_13, w218_14, w218_15, w218_16, w218_18, w218_19, w218_22, w218_23, w218_24, w218_27, w218_30, w218_33, w218_36, w218_37, w218_40, w218_43, w218_46, w218_47, h1, ↓reduceIte]
        exact hQ I' f
    exact L 0 (by omega) _ (fC_B f1) r1 l1
  · have h' : sW n 0 200 = false := by simpa using h
    rw [if_neg h] at hQ
    simp only [sB_f h', ↓reduceIte, w218_0, w218_1, w218_4, w218_7, w218_8, w218_9, w218_10, w218_13, w218_14, w218_15, w218_16, w218_18, w218_19, w218_22, w218_23, w218_24, w218_27, w218_30, w218_33, w218_36, w218_37, w218_40, w218_43, w218_46, w218_47]
    exact hQ I fB_0
end QR5
