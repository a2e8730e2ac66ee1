/-! Queries: quiet, tapping, year. -/
def rT (ρ : Nat → Int32) (k : Nat) : Nat → Int32 := rU ρ 6 (ρ 6 + nI k)
def q_tapping (η : mHs) (ρ : Nat → Int32) (v n : Int32) : Int32 := if isM v && sW n 0 60 then fin2 (fnd (fun k => decide (sMrk η (sB η (rT ρ k) n.toNatClampNeg) = v)) (10 - (ρ 6).toNatClampNeg) 0) else -1
def q_year (η : mHs) (ρ : Nat → Int32) (v n c : Int32) : Int32 := if isM v && (sW n 0 200 && sW c 1 20) then cnt (fun k => decide (sMrk η (sP η (η.2.2.2.2.1 + nI k) ρ n.toNatClampNeg) = v)) c.toNatClampNeg else -1
section QR5
variable {d : Nat} {xL : Nat} {I : Nat → Nat → Int32} {J : Nat → Nat → Int64} {rr : Nat} {Q : Option Value → mHp → Prop} {s o : Nat} {η : mHs} {ρ : Nat → Int32}
theorem c106 (hb : xB I o η ρ) (n : Int32) (hQ : ∀ I', fQ I I' → Q (some (.int (q_quiet η ρ n))) (mHh xL I' J (mRf o o rr))) : WP (d + 5) 106 0 [.ref 7, .int n, mDum, mDum] [] (mHh xL I J (mRf o o rr)) Q := by
  have hb0 := hb
  obtain ⟨hk, hh, hr, ho, m, hm, e5⟩ := hb
  simp only [w106_0, w106_1, w106_2, w106_5, c95, ↓reduceIte, Option.toList_some, Option.toList_none, List.cons_append, List.nil_append, Int32.reduceAdd, Int32.reduceLT, Int32.reduceLE, Int32.reduceToNatClampNeg, w106_8, q_quiet] at hQ ⊢
  by_cases h : sW n 0 200 = true
  · rw [if_pos h] at hQ
    obtain ⟨n, -, hn, rfl⟩ := (sW_iff (a := 0) (b := 200) rfl rfl).1 h
    have ec : (nI n).toNatClampNeg = n := nI_clamp (by omega)
    rw [ec] at hQ
    simp only [sB_t h, o01, ↓reduceIte, w106_0, w106_1, w106_2, w106_5, w106_8, w106_11, w106_12, w106_13, w106_14, w106_17, w106_18, w106_21, w106_24, w106_25, w106_26, w106_27, w106_29, w106_30, w106_33, w106_34, w106_37, w106_38, w106_41, w106_42, w106_45, w106_46, w106_49, w106_52, w106_55, w106_58, w106_61, w106_64, w106_67, w106_68, c59 s165 s163, s165, s163, ↓reduceIte, Option.toList_some, Option.toList_none, List.cons_append, List.nil_append, Int32.reduceAdd, Int32.reduceLT, Int32.reduceLE, Int32.reduceToNatClampNeg]
    have L : ∀ k, k ≤ n → ∀ (I' : Nat → Nat → Int32), fQ I I' → mRw I' 165 = sB η ρ k → WP (d + 5) 106 28 [.ref 7, .int (nI n), .int (cnt (fun k => decide (sDn η (sB η ρ k) (sMrk η (sB η ρ k)) = 0)) k), .int (nI k)] [] (mHh xL I' J (mRf o o rr)) Q := by
      refine iter_dn ?_ ?_
      · intro k hk1 ih I' f r
        have h1 : ¬ nI n ≤ nI k := nI_ge hk1 (by omega)
        obtain ⟨ok, -⟩ := sB_ok hk ho e5 k (by omega)
        rw [w106_28]
        simp only [w106_0, w106_1, w106_2, w106_5, w106_8, w106_11, w106_12, w106_13, w106_14, w106_17, w106_18, w106_21, w106_24, w106_25, w106_26, w106_27, w106_29, w106_30, w106_33, w106_34, w106_37, w106_38, w106_41, w106_42, w106_45, w106_46, w106_49, w106_52, w106_55, w106_58, w106_61, w106_64, w106_67, w106_68, h1, ↓reduceIte]
        refine c4 s165 hk (fQ_B f hb0).2.1 r ok ?_
        intro I2 f2 _
        simp only [↓reduceIte, Option.toList_some, Option.toList_none, List.cons_append, List.nil_append, Int32.reduceAdd, Int32.reduceLT, Int32.reduceLE, Int32.reduceToNatClampNeg, w106_0, w106_1, w106_2, w106_5, w106_8, w106_11, w106_12, w106_13, w106_14, w106_17, w106_18, w106_21, w106_24, w106_25, w106_26, w106_27, w106_29, w106_30, w106_33, w106_34, w106_37, w106_38, w106_41, w106_42, w106_45, w106_46, w106_49, w106_52, w106_55, w106_58, w106_61, w106_64, w106_67, w106_68]
        refine c16 s165 hk (fQ_B (fQ_t f (fX_q f2)) hb0).2.1 (fX_r s165 f2 r) ok _ ?_
        intro I3 f3 r3
        have := ih I3 (fQ_t (fQ_t f (fX_q f2)) (fA_q f3)) r3
        rw [cnt] at this
        simp only [↓reduceIte, Option.toList_some, Option.toList_none, List.cons_append, List.nil_append, Int32.reduceAdd, Int32.reduceLT, Int32.reduceLE, Int32.reduceToNatClampNeg, w106_0, w106_1, w106_2, w106_5, w106_8, w106_11, w106_12, w106_13, w106_14, w106_17, w106_18, w106_21, w106_24, w106_25, w106_26, w106_27, w106_29, w106_30, w106_33, w106_34, w106_37, w106_38, w106_41, w106_42, w106_45, w106_46, w106_49, w106_52, w106_55, w106_58, w106_61, w106_64, w106_67, w106_68]
        by_cases hc : sDn η (sB η ρ k) (sMrk η (sB η ρ k)) = 0
        · rw [sB_t (decide_eq_true hc)] at this
          simp only [hc, ↓reduceIte, w106_0, w106_1, w106_2, w106_5, w106_8, w106_11, w106_12, w106_13, w106_14, w106_17, w106_18, w106_21, w106_24, w106_25, w106_26, w106_27, w106_29, w106_30, w106_33, w106_34, w106_37, w106_38, w106_41, w106_42, w106_45, w106_46, w106_49, w106_52, w106_55, w106_58, w106_61, w106_64, w106_67, w106_68, nI_1]
          exact this
        · rw [sB_f (decide_eq_false hc), Int32.add_zero] at this
          simp only [hc, ↓reduceIte, w106_0, w106_1, w106_2, w106_5, w106_8, w106_11, w106_12, w106_13, w106_14, w106_17, w106_18, w106_21, w106_24, w106_25, w106_26, w106_27, w106_29, w106_30, w106_33, w106_34, w106_37, w106_38, w106_41, w106_42, w106_45, w106_46, w106_49, w106_52, w106_55, w106_58, w106_61, w106_64, w106_67, w106_68, nI_1]
          exact this
      · intro I' f r
        have h1 : nI n ≤ nI n := nI_le (Nat.le_refl _) (by omega)
        rw [w106_28]
        simp only [w106_0, w106_1, w106_2, w106_5, w106_8, w106_11, w106_12, w106_13, w106_14, w106_17, w106_18, w106_21, w106_24, w106_25, w106_26, w106_27, w106_29, w106_30, w106_33, w106_34, w106_37, w106_38, w106_41, w106_42, w106_45, w106_46, w106_49, w106_52, w106_55, w106_58, w106_61, w106_64, w106_67, w106_68, h1, ↓reduceIte]
        exact hQ I' f
    exact L 0 (by omega) _ fCp_q (by rw [mRw_cp s165 s163]; exact hr)
  · have h' : sW n 0 200 = false := by simpa using h
    rw [if_neg h] at hQ
    simp only [sB_f h', ↓reduceIte, w106_0, w106_1, w106_2, w106_5, w106_8, w106_11, w106_12, w106_13, w106_14, w106_17, w106_18, w106_21, w106_24, w106_25, w106_26, w106_27, w106_29, w106_30, w106_33, w106_34, w106_37, w106_38, w106_41, w106_42, w106_45, w106_46, w106_49, w106_52, w106_55, w106_58, w106_61, w106_64, w106_67, w106_68]
    exact hQ I fQ_0
theorem c218 (hb : zB I s η ρ) {rc rx : Nat} (n : Int32) (hQ : ∀ I', fB I I' → Q (some (.int (q_quiet η ρ n))) (mHh xL I' J (mRf rc rx rr))) : WP (d + 6) 218 0 [.ref 180, .int n, mDum, mDum] [] (mHh xL I J (mRf rc rx rr)) Q := by
  obtain ⟨hk, hh, hn, ho, m, hm, e5⟩ := hb
  simp only [w218_0, w218_1, c195, ↓reduceIte, Option.toList_some, Option.toList_none, List.cons_append, List.nil_append, Int32.reduceAdd, Int32.reduceLT, Int32.reduceLE, Int32.reduceToNatClampNeg, w218_4, q_quiet] at hQ ⊢
  by_cases h : sW n 0 200 = true
  · rw [if_pos h] at hQ
    obtain ⟨n, -, hn', rfl⟩ := (sW_iff (a := 0) (b := 200) rfl rfl).1 h
    have ec : (nI n).toNatClampNeg = n := nI_clamp (by omega)
    rw [ec] at hQ
    simp only [sB_t h, o01, ↓reduceIte, w218_0, w218_1, w218_4, w218_7, w218_8, w218_9, w218_10, w218_13, w218_14, w218_15, w218_16, w218_18, w218_19, w218_22, w218_23, w218_24, w218_27, w218_30, w218_33, w218_36, w218_37, w218_40, w218_43, w218_46, w218_47]
    refine c204 hh hn ?_
    intro I1 f1 r1 l1
    simp only [↓reduceIte, Option.toList_some, Option.toList_none, List.cons_append, List.nil_append, Int32.reduceAdd, Int32.reduceLT, Int32.reduceLE, Int32.reduceToNatClampNeg, w218_0, w218_1, w218_4, w218_7, w218_8, w218_9, w218_10, w218_13, w218_14, w218_15, w218_16, w218_18, w218_19, w218_22, w218_23, w218_24, w218_27, w218_30, w218_33, w218_36, w218_37, w218_40, w218_43, w218_46, w218_47]
    have L : ∀ k, k ≤ n → ∀ (I' : Nat → Nat → Int32), fB I I' → mRr I' (sB η ρ k) → I' 180 52 = 1 → WP (d + 6) 218 17 [.ref 180, .int (nI n), .int (cnt (fun k => decide (sDn η (sB η ρ k) (sMrk η (sB η ρ k)) = 0)) k), .int (nI k)] [] (mHh xL I' J (mRf rc rx rr)) Q := by
      refine iter_dn ?_ ?_
      · intro k hk1 ih I' f r l
        have h1 : ¬ nI n ≤ nI k := nI_ge hk1 (by omega)
        obtain ⟨ok, -⟩ := sB_ok hk ho e5 k (by omega)
        rw [w218_17]
        simp only [w218_0, w218_1, w218_4, w218_7, w218_8, w218_9, w218_10, w218_13, w218_14, w218_15, w218_16, w218_18, w218_19, w218_22, w218_23, w218_24, w218_27, w218_30, w218_33, w218_36, w218_37, w218_40, w218_43, w218_46, w218_47, h1, ↓reduceIte]
        refine c172 (fB_h f hh) r ?_
        intro I2 f2
        have l2 : I2 180 52 = 1 := by rw [f2.2 52 (by decide)]; exact l
        have g2 : fB I I2 := fB_t f (fM_B f2)
        simp only [↓reduceIte, Option.toList_some, Option.toList_none, List.cons_append, List.nil_append, Int32.reduceAdd, Int32.reduceLT, Int32.reduceLE, Int32.reduceToNatClampNeg, w218_27, w218_30, c219 (fB_h g2 hh) hk (fM_r f2 r) ok]
        have go : ∀ x : Int32, x = cnt (fun k => decide (sDn η (sB η ρ k) (sMrk η (sB η ρ k)) = 0)) (k + 1) → WP (d + 6) 218 36 [.ref 180, .int (nI n), .int x, .int (nI k)] [] (mHh xL I2 J (mRf rc rx rr)) Q := by
          intro x hx
          simp only [w218_0, w218_1, w218_4, w218_7, w218_8, w218_9, w218_10, w218_13, w218_14, w218_15, w218_16, w218_18, w218_19, w218_22, w218_23, w218_24, w218_27, w218_30, w218_33, w218_36, w218_37, w218_40, w218_43, w218_46, w218_47]
          refine c197s (fB_h g2 hh) hk (fM_r f2 r) ok l2 ?_
          intro I3 f3 r3
          simp only [↓reduceIte, Option.toList_some, Option.toList_none, List.cons_append, List.nil_append, Int32.reduceAdd, Int32.reduceLT, Int32.reduceLE, Int32.reduceToNatClampNeg, nI_1, hx]
          exact ih I3 (fB_t g2 (fH_B f3)) r3 (by rw [(fH_5 f3).2]; exact l2)
        by_cases hc : sDn η (sB η ρ k) (sMrk η (sB η ρ k)) = 0
        · rw [if_pos hc, w218_33]
          exact go _ (by rw [cnt, sB_t (decide_eq_true hc)])
        · rw [if_neg hc]
          exact go _ (by rw [cnt, sB_f (decide_eq_false hc), Int32.add_zero])
      · intro I' f r l
        have h1 : nI n ≤ nI n := nI_le (Nat.le_refl _) (by omega)
        rw [w218_17]
        simp only [w218_0, w218_1, w218_4, w218_7, w218_8, w218_9, w218_10, w218_13, w218_14, w218_15, w218_16, w218_18, w218_19, w218_22, w218_23, w218_24, w218_27, w218_30, w218_33, w218_36, w218_37, w218_40, w218_43, w218_46, w218_47, h1, ↓reduceIte]
        exact hQ I' f
    exact L 0 (by omega) _ (fC_B f1) r1 l1
  · have h' : sW n 0 200 = false := by simpa using h
    rw [if_neg h] at hQ
    simp only [sB_f h', ↓reduceIte, w218_0, w218_1, w218_4, w218_7, w218_8, w218_9, w218_10, w218_13, w218_14, w218_15, w218_16, w218_18, w218_19, w218_22, w218_23, w218_24, w218_27, w218_30, w218_33, w218_36, w218_37, w218_40, w218_43, w218_46, w218_47]
    exact hQ I fB_0
theorem mRw_t {a : Nat} {I : Nat → Nat → Int32} {ρ : Nat → Int32} {x : Int32} (hr : mRw I a = ρ) : mRw (mU I a 2 x) a = rU ρ 6 x := by
  subst hr; funext q
  have n1 : ¬ a + 1 = a := by omega
  simp only [mRw, rU, mU_e, n1, false_and, true_and, ↓reduceIte]
  by_cases h : q = 6
  · subst h; simp
  · simp only [h, ↓reduceIte]
    split
    · rfl
    · simp
theorem rT_ok (ho : rOk η ρ) {t k : Nat} (ht : ρ 6 = nI t) (h : t + k ≤ 9) : rOk η (rT ρ k) ∧ rT ρ k 5 = ρ 5 := by
  obtain ⟨h1, h2, h3, h4, h6, h7⟩ := ho
  refine ⟨⟨?_, ?_, ?_, ⟨t + k, h, ?_⟩, ?_, ?_⟩, ?_⟩
  · intro p hp; rw [rT, rU, if_neg (by omega)]; exact h1 p hp
  · intro p hp hp5; rw [rT, rU, if_neg (by omega)]; exact h2 p hp hp5
  · rw [rT, rU, if_neg (by omega)]; exact h3
  · rw [rT, rU, if_pos rfl, ht, nI_add]
  · rw [rT, rU, if_neg (by omega)]; exact h6
  · intro k hk; rw [rT, rU, if_neg (by omega)]; exact h7 k hk
  · rw [rT, rU, if_neg (by omega)]
theorem c112 (hb : xB I o η ρ) (v n : Int32) (hQ : ∀ I', fQ I I' → Q (some (.int (q_tapping η ρ v n))) (mHh xL I' J (mRf o o rr))) : WP (d + 5) 112 0 [.ref 7, .int v, .int n, mDum] [] (mHh xL I J (mRf o o rr)) Q := by
  have hb0 := hb
  obtain ⟨hk, hh, hr, ho, m, hm, e5⟩ := hb
  obtain ⟨t, ht, et⟩ := ho.2.2.2.1
  simp only [w112_0, w112_1, c100, ↓reduceIte, Option.toList_some, Option.toList_none, List.cons_append, List.nil_append, Int32.reduceAdd, Int32.reduceLT, Int32.reduceLE, Int32.reduceToNatClampNeg, w112_4, q_tapping] at hQ ⊢
  by_cases hv : isM v = true
  · by_cases h : sW n 0 60 = true
    · rw [hv, h] at hQ
      obtain ⟨n, -, hn, rfl⟩ := (sW_iff (a := 0) (b := 60) rfl rfl).1 h
      have ec : (nI n).toNatClampNeg = n := nI_clamp (by omega)
      have ect : (nI t).toNatClampNeg = t := nI_clamp (by omega)
      rw [ec, et, ect] at hQ
      simp only [sB_t hv, sB_t h, o01, ↓reduceIte, w112_0, w112_1, w112_4, w112_7, w112_8, w112_9, w112_11, w112_14, w112_17, w112_18, w112_19, w112_20, w112_22, w112_25, w112_28, w112_29, w112_30, w112_32, w112_35, w112_36, w112_39, w112_40, w112_43, w112_46, w112_47, w112_50, w112_51, w112_54, w112_55, w112_56, w112_59, w112_60, w112_63, w112_64, w112_67, w112_68, w112_71, w112_72, w112_75, w112_76, w112_77, w112_80, w112_83, w112_85, c95, ↓reduceIte, Option.toList_some, Option.toList_none, List.cons_append, List.nil_append, Int32.reduceAdd, Int32.reduceLT, Int32.reduceLE, Int32.reduceToNatClampNeg]
      have L : ∀ k, k ≤ 10 - t → (∀ I', fQ I I' → Q (some (.int (fin2 (fnd (fun k => decide (sMrk η (sB η (rT ρ k) n) = v)) (10 - t - k) k)))) (mHh xL I' J (mRf o o rr))) → ∀ (I' : Nat → Nat → Int32), fQ I I' → WP (d + 5) 112 21 [.ref 7, .int v, .int (nI n), .int (nI k)] [] (mHh xL I' J (mRf o o rr)) Q := by
        refine iter_dn ?_ ?_
        · intro k hk1 ih hF I' f
          have b1 := fQ_B f hb0
          have r2 : I' 163 2 = nI t := by rw [(mRw_5 b1.2.2.1).2.1, et]
          have h1 : ¬ 9 < nI (t + k) := i_le ((in_le 9 (by decide) (by omega)).2 (by omega))
          obtain ⟨ok, e5'⟩ := rT_ok (k := k) ho et (by omega)
          rw [show 10 - t - k = (10 - t - (k + 1)) + 1 by omega, fnd] at hF
          have e6 : mCp 165 163 I' 165 2 = ρ 6 := (mRw_5 (show mRw (mCp 165 163 I') 165 = ρ by rw [mRw_cp s165 s163]; exact b1.2.2.1)).2.1
          rw [w112_21]
          simp only [w112_0, w112_1, w112_4, w112_7, w112_8, w112_9, w112_11, w112_14, w112_17, w112_18, w112_19, w112_20, w112_22, w112_25, w112_28, w112_29, w112_30, w112_32, w112_35, w112_36, w112_39, w112_40, w112_43, w112_46, w112_47, w112_50, w112_51, w112_54, w112_55, w112_56, w112_59, w112_60, w112_63, w112_64, w112_67, w112_68, w112_71, w112_72, w112_75, w112_76, w112_77, w112_80, w112_83, w112_85, s163, s165, r2, nI_add, h1, ↓reduceIte, c59 s165 s163, ↓reduceIte, Option.toList_some, Option.toList_none, List.cons_append, List.nil_append, Int32.reduceAdd, Int32.reduceLT, Int32.reduceLE, Int32.reduceToNatClampNeg, e6]
          have q1 : fQ I (mU (mCp 165 163 I') 165 2 (ρ 6 + nI k)) := fQ_t f (fun a x => by rw [mU_f (by omega)]; exact fCp_q a x)
          refine c17 s165 hk (fQ_B q1 hb0).2.1 (ρ := rT ρ k) (mRw_t (by rw [mRw_cp s165 s163]; exact b1.2.2.1)) ok (by rw [e5']; exact e5) (by omega) ?_
          intro I2 f2 _
          simp only [↓reduceIte, Option.toList_some, Option.toList_none, List.cons_append, List.nil_append, Int32.reduceAdd, Int32.reduceLT, Int32.reduceLE, Int32.reduceToNatClampNeg, w112_71, w112_72]
          by_cases hc : sMrk η (sB η (rT ρ k) n) = v
          · rw [if_pos (decide_eq_true hc)] at hF
            simp only [hc, ↓reduceIte, w112_0, w112_1, w112_4, w112_7, w112_8, w112_9, w112_11, w112_14, w112_17, w112_18, w112_19, w112_20, w112_22, w112_25, w112_28, w112_29, w112_30, w112_32, w112_35, w112_36, w112_39, w112_40, w112_43, w112_46, w112_47, w112_50, w112_51, w112_54, w112_55, w112_56, w112_59, w112_60, w112_63, w112_64, w112_67, w112_68, w112_71, w112_72, w112_75, w112_76, w112_77, w112_80, w112_83, w112_85]
            exact hF I2 (fQ_t q1 (fA_q f2))
          · have hc' : ¬ (decide (sMrk η (sB η (rT ρ k) n) = v) = true) := by simpa using hc
            rw [if_neg hc'] at hF
            simp only [hc, ↓reduceIte, w112_0, w112_1, w112_4, w112_7, w112_8, w112_9, w112_11, w112_14, w112_17, w112_18, w112_19, w112_20, w112_22, w112_25, w112_28, w112_29, w112_30, w112_32, w112_35, w112_36, w112_39, w112_40, w112_43, w112_46, w112_47, w112_50, w112_51, w112_54, w112_55, w112_56, w112_59, w112_60, w112_63, w112_64, w112_67, w112_68, w112_71, w112_72, w112_75, w112_76, w112_77, w112_80, w112_83, w112_85, nI_1]
            exact ih hF I2 (fQ_t q1 (fA_q f2))
        · intro hF I' f
          have b1 := fQ_B f hb0
          have r2 : I' 163 2 = nI t := by rw [(mRw_5 b1.2.2.1).2.1, et]
          have h1 : 9 < nI (t + (10 - t)) := (ni_lt 9 (by decide) (by omega)).2 (by omega)
          rw [show 10 - t - (10 - t) = 0 by omega] at hF
          rw [w112_21]
          simp only [w112_0, w112_1, w112_4, w112_7, w112_8, w112_9, w112_11, w112_14, w112_17, w112_18, w112_19, w112_20, w112_22, w112_25, w112_28, w112_29, w112_30, w112_32, w112_35, w112_36, w112_39, w112_40, w112_43, w112_46, w112_47, w112_50, w112_51, w112_54, w112_55, w112_56, w112_59, w112_60, w112_63, w112_64, w112_67, w112_68, w112_71, w112_72, w112_75, w112_76, w112_77, w112_80, w112_83, w112_85, s163, r2, nI_add, h1, ↓reduceIte]
          exact hF I' f
      exact L 0 (by omega) hQ _ fQ_0
    · have h' : sW n 0 60 = false := by simpa using h
      rw [h', Bool.and_false] at hQ
      simp only [sB_t hv, sB_f h', o01, ↓reduceIte, w112_0, w112_1, w112_4, w112_7, w112_8, w112_9, w112_11, w112_14, w112_17, w112_18, w112_19, w112_20, w112_22, w112_25, w112_28, w112_29, w112_30, w112_32, w112_35, w112_36, w112_39, w112_40, w112_43, w112_46, w112_47, w112_50, w112_51, w112_54, w112_55, w112_56, w112_59, w112_60, w112_63, w112_64, w112_67, w112_68, w112_71, w112_72, w112_75, w112_76, w112_77, w112_80, w112_83, w112_85, c95, ↓reduceIte, Option.toList_some, Option.toList_none, List.cons_append, List.nil_append, Int32.reduceAdd, Int32.reduceLT, Int32.reduceLE, Int32.reduceToNatClampNeg]
      exact hQ I fQ_0
  · have h' : isM v = false := by simpa using hv
    rw [h', Bool.false_and] at hQ
    simp only [sB_f h', ↓reduceIte, w112_0, w112_1, w112_4, w112_7, w112_8, w112_9, w112_11, w112_14, w112_17, w112_18, w112_19, w112_20, w112_22, w112_25, w112_28, w112_29, w112_30, w112_32, w112_35, w112_36, w112_39, w112_40, w112_43, w112_46, w112_47, w112_50, w112_51, w112_54, w112_55, w112_56, w112_59, w112_60, w112_63, w112_64, w112_67, w112_68, w112_71, w112_72, w112_75, w112_76, w112_77, w112_80, w112_83, w112_85]
    exact hQ I fQ_0
end QR5
