/-! Queries: worth, tapping, comes. -/
def fnd (p : Nat → Bool) : Nat → Nat → Option Nat
  | 0, _ => none
  | n + 1, k => if p k then some k else fnd p n (k + 1)
def fin2 : Option Nat → Int32
  | some k => nI k
  | none => -2
def q_comes (η : mHs) (ρ : Nat → Int32) (v : Int32) : Int32 := if isM v then fin2 (fnd (fun k => decide (sMrk η (sB η ρ k) = v)) 201 0) else -1
theorem o01 : ((1 : Int32) = 0) = False := by simp
section QR2
variable {d : Nat} {xL : Nat} {I : Nat → Nat → Int32} {J : Nat → Nat → Int64} {rr : Nat} {Q : Option Value → mHp → Prop} {s o : Nat} {η : mHs} {ρ : Nat → Int32}
theorem c117 (hb : xB I o η ρ) (p v : Int32) (hQ : ∀ I', fQ I I' → Q (some (.int (q_worth η ρ p v))) (mHh xL I' J (mRf o o rr))) : WP (d + 5) 117 0 [.ref 7, .int p, .int v, mDum] [] (mHh xL I J (mRf o o rr)) Q := by
  obtain ⟨hk, hh, hr, ho, m, hm, e5⟩ := hb
  have hn5 := hk.1
  simp only [w117_0, w117_1, w117_2, c83 hh, ↓reduceIte, Option.toList_some, Option.toList_none, List.cons_append, List.nil_append, Int32.reduceAdd, Int32.reduceLT, Int32.reduceLE, Int32.reduceToNatClampNeg, w117_5, q_worth] at hQ ⊢
  by_cases hp : isP η p = true
  · by_cases h : sW v 0 60 = true
    · rw [hp, h] at hQ
      obtain ⟨n, -, hn, rfl⟩ := (sW_iff (a := 0) (b := 60) rfl rfl).1 h
      obtain ⟨q, hq, rfl⟩ := (isP_iff hk).1 hp
      have ec : (nI n).toNatClampNeg = n := nI_clamp (by omega)
      have eq : (nI q).toNatClampNeg = q := nI_clamp (by omega)
      have e2 : mIn (nI q) 5 = true := mIn_nI (by omega) (by omega)
      rw [ec, eq] at hQ
      obtain ⟨-, -, k3, k4, -⟩ := st_k s165
      simp only [sB_t hp, sB_t h, o01, ↓reduceIte, w117_0, w117_1, w117_2, w117_5, w117_8, w117_9, w117_10, w117_12, w117_15, w117_18, w117_21, w117_22, w117_23, w117_26, w117_27, w117_30, w117_33, w117_34, w117_37, w117_38, w117_41, w117_42, w117_45, w117_46, w117_47, w117_50, w117_53, w117_54, w117_55, w117_58, w117_59, w117_62, w117_65, w117_66, w117_69, w117_72, w117_73, w117_74, w117_75, w117_76, w117_79, w117_80, w117_83, w117_84, w117_87, w117_88, w117_89, w117_90, w117_93, w117_96, w117_97, c95, c59 s165 s163, s165, s163, ↓reduceIte, Option.toList_some, Option.toList_none, List.cons_append, List.nil_append, Int32.reduceAdd, Int32.reduceLT, Int32.reduceLE, Int32.reduceToNatClampNeg]
      have hh1 : mXh (mCp 165 163 I) o η := mXh_keep (fun b hb => mCp_o (by omega) (by omega)) hh
      have hr1 : mRw (mCp 165 163 I) 165 = ρ := by rw [mRw_cp s165 s163]; exact hr
      refine c17 s165 hk hh1 hr1 ho e5 (by omega) ?_
      intro I2 f2 r2
      have q2 : fQ I I2 := fQ_t fCp_q (fA_q f2)
      have b2 : xB I2 o η ρ := fQ_B q2 ⟨hk, hh, hr, ho, m, hm, e5⟩
      simp only [↓reduceIte, Option.toList_some, Option.toList_none, List.cons_append, List.nil_append, Int32.reduceAdd, Int32.reduceLT, Int32.reduceLE, Int32.reduceToNatClampNeg, w117_0, w117_1, w117_2, w117_5, w117_8, w117_9, w117_10, w117_12, w117_15, w117_18, w117_21, w117_22, w117_23, w117_26, w117_27, w117_30, w117_33, w117_34, w117_37, w117_38, w117_41, w117_42, w117_45, w117_46, w117_47, w117_50, w117_53, w117_54, w117_55, w117_58, w117_59, w117_62, w117_65, w117_66, w117_69, w117_72, w117_73, w117_74, w117_75, w117_76, w117_79, w117_80, w117_83, w117_84, w117_87, w117_88, w117_89, w117_90, w117_93, w117_96, w117_97, s165, s163, c57 s165, c59 s165 s163, k3, k4, e2, eq, mT5_r r2]
      have r3 : mRw (mU (mCp 165 163 I2) (165 + 1) q 0) 165 = rU ρ q 0 := mRw_u (by omega) (by rw [mRw_cp s165 s163]; exact b2.2.2.1)
      have q3 : fQ I (mU (mCp 165 163 I2) (165 + 1) q 0) := fQ_t q2 (fun a x => by rw [mU_f (by omega)]; exact fCp_q a x)
      refine c17 s165 hk (fQ_B q3 ⟨hk, hh, hr, ho, m, hm, e5⟩).2.1 r3 (rU_B (n := 0) ho hq hn5 (by omega)) (by rw [rU_5 (by omega)]; exact e5) (by omega) ?_
      intro I4 f4 r4
      simp only [↓reduceIte, Option.toList_some, Option.toList_none, List.cons_append, List.nil_append, Int32.reduceAdd, Int32.reduceLT, Int32.reduceLE, Int32.reduceToNatClampNeg, w117_0, w117_1, w117_2, w117_5, w117_8, w117_9, w117_10, w117_12, w117_15, w117_18, w117_21, w117_22, w117_23, w117_26, w117_27, w117_30, w117_33, w117_34, w117_37, w117_38, w117_41, w117_42, w117_45, w117_46, w117_47, w117_50, w117_53, w117_54, w117_55, w117_58, w117_59, w117_62, w117_65, w117_66, w117_69, w117_72, w117_73, w117_74, w117_75, w117_76, w117_79, w117_80, w117_83, w117_84, w117_87, w117_88, w117_89, w117_90, w117_93, w117_96, w117_97, s165, c57 s165, mT5_r r4]
      exact hQ I4 (fQ_t q3 (fA_q f4))
    · have h' : sW v 0 60 = false := by simpa using h
      rw [h', Bool.and_false] at hQ
      simp only [sB_t hp, sB_f h', o01, ↓reduceIte, w117_0, w117_1, w117_2, w117_5, w117_8, w117_9, w117_10, w117_12, w117_15, w117_18, w117_21, w117_22, w117_23, w117_26, w117_27, w117_30, w117_33, w117_34, w117_37, w117_38, w117_41, w117_42, w117_45, w117_46, w117_47, w117_50, w117_53, w117_54, w117_55, w117_58, w117_59, w117_62, w117_65, w117_66, w117_69, w117_72, w117_73, w117_74, w117_75, w117_76, w117_79, w117_80, w117_83, w117_84, w117_87, w117_88, w117_89, w117_90, w117_93, w117_96, w117_97, c95, ↓reduceIte, Option.toList_some, Option.toList_none, List.cons_append, List.nil_append, Int32.reduceAdd, Int32.reduceLT, Int32.reduceLE, Int32.reduceToNatClampNeg]
      exact hQ I fQ_0
  · have h' : isP η p = false := by simpa using hp
    rw [h', Bool.false_and] at hQ
    simp only [sB_f h', ↓reduceIte, w117_0, w117_1, w117_2, w117_5, w117_8, w117_9, w117_10, w117_12, w117_15, w117_18, w117_21, w117_22, w117_23, w117_26, w117_27, w117_30, w117_33, w117_34, w117_37, w117_38, w117_41, w117_42, w117_45, w117_46, w117_47, w117_50, w117_53, w117_54, w117_55, w117_58, w117_59, w117_62, w117_65, w117_66, w117_69, w117_72, w117_73, w117_74, w117_75, w117_76, w117_79, w117_80, w117_83, w117_84, w117_87, w117_88, w117_89, w117_90, w117_93, w117_96, w117_97]
    exact hQ I fQ_0
theorem c233 (hb : zB I s η ρ) {rc rx : Nat} (p v : Int32) (hQ : ∀ I', fB I I' → Q (some (.int (q_worth η ρ p v))) (mHh xL I' J (mRf rc rx rr))) : WP (d + 8) 233 0 [.ref 180, .int p, .int v, mDum] [] (mHh xL I J (mRf rc rx rr)) Q := by
  obtain ⟨hk, hh, hn, ho, m, hm, e5⟩ := hb
  have hn5 := hk.1
  simp only [w233_0, w233_1, w233_2, c169 hh hk, ↓reduceIte, Option.toList_some, Option.toList_none, List.cons_append, List.nil_append, Int32.reduceAdd, Int32.reduceLT, Int32.reduceLE, Int32.reduceToNatClampNeg, w233_5, q_worth] at hQ ⊢
  by_cases hp : isP η p = true
  · by_cases h : sW v 0 60 = true
    · rw [hp, h] at hQ
      obtain ⟨n, -, hn', rfl⟩ := (sW_iff (a := 0) (b := 60) rfl rfl).1 h
      obtain ⟨q, hq, rfl⟩ := (isP_iff hk).1 hp
      have ec : (nI n).toNatClampNeg = n := nI_clamp (by omega)
      have eq : (nI q).toNatClampNeg = q := nI_clamp (by omega)
      have e2 : mIn (nI q) 8 = true := mIn_nI (by omega) (by omega)
      rw [ec, eq] at hQ
      simp only [sB_t hp, sB_t h, o01, ↓reduceIte, w233_0, w233_1, w233_2, w233_5, w233_8, w233_9, w233_12, w233_15, w233_18, w233_19, w233_20, w233_23, w233_24, w233_25, w233_28, w233_29, w233_32, w233_33, w233_34, w233_37, w233_38, w233_41, w233_42, w233_43, w233_44, w233_45, w233_46, w233_49, w233_50, w233_51, w233_54, w233_55, c215, ↓reduceIte, Option.toList_some, Option.toList_none, List.cons_append, List.nil_append, Int32.reduceAdd, Int32.reduceLT, Int32.reduceLE, Int32.reduceToNatClampNeg]
      refine c204 hh hn ?_
      intro I1 f1 r1 l1
      simp only [↓reduceIte, Option.toList_some, Option.toList_none, List.cons_append, List.nil_append, Int32.reduceAdd, Int32.reduceLT, Int32.reduceLE, Int32.reduceToNatClampNeg, w233_0, w233_1, w233_2, w233_5, w233_8, w233_9, w233_12, w233_15, w233_18, w233_19, w233_20, w233_23, w233_24, w233_25, w233_28, w233_29, w233_32, w233_33, w233_34, w233_37, w233_38, w233_41, w233_42, w233_43, w233_44, w233_45, w233_46, w233_49, w233_50, w233_51, w233_54, w233_55]
      refine c196s (fC_h f1 hh) hk r1 ho l1 e5 (by omega) ?_
      intro I2 f2 r2
      have g2 : fB I I2 := fB_t (fC_B f1) (fH_B f2)
      simp only [↓reduceIte, Option.toList_some, Option.toList_none, List.cons_append, List.nil_append, Int32.reduceAdd, Int32.reduceLT, Int32.reduceLE, Int32.reduceToNatClampNeg, w233_0, w233_1, w233_2, w233_5, w233_8, w233_9, w233_12, w233_15, w233_18, w233_19, w233_20, w233_23, w233_24, w233_25, w233_28, w233_29, w233_32, w233_33, w233_34, w233_37, w233_38, w233_41, w233_42, w233_43, w233_44, w233_45, w233_46, w233_49, w233_50, w233_51, w233_54, w233_55, c175 r2]
      refine c204 (fB_h g2 hh) (fB_n g2 hn) ?_
      intro I3 f3 r3 l3
      have n80 : ∀ x, mU I3 213 q x 180 = I3 180 := fun x => mU_f (by decide)
      simp only [↓reduceIte, Option.toList_some, Option.toList_none, List.cons_append, List.nil_append, Int32.reduceAdd, Int32.reduceLT, Int32.reduceLE, Int32.reduceToNatClampNeg, w233_0, w233_1, w233_2, w233_5, w233_8, w233_9, w233_12, w233_15, w233_18, w233_19, w233_20, w233_23, w233_24, w233_25, w233_28, w233_29, w233_32, w233_33, w233_34, w233_37, w233_38, w233_41, w233_42, w233_43, w233_44, w233_45, w233_46, w233_49, w233_50, w233_51, w233_54, w233_55, e2, eq]
      refine c196s (fB_h (fB_w (fB_t g2 (fC_B f3))) hh) hk (mRr_u (by omega) r3) (rU_B (n := 0) ho hq hn5 (by omega)) (by rw [n80]; exact l3) (by rw [rU_5 (by omega)]; exact e5) (by omega) ?_
      intro I4 f4 r4
      simp only [↓reduceIte, Option.toList_some, Option.toList_none, List.cons_append, List.nil_append, Int32.reduceAdd, Int32.reduceLT, Int32.reduceLE, Int32.reduceToNatClampNeg, w233_0, w233_1, w233_2, w233_5, w233_8, w233_9, w233_12, w233_15, w233_18, w233_19, w233_20, w233_23, w233_24, w233_25, w233_28, w233_29, w233_32, w233_33, w233_34, w233_37, w233_38, w233_41, w233_42, w233_43, w233_44, w233_45, w233_46, w233_49, w233_50, w233_51, w233_54, w233_55, c175 r4]
      exact hQ I4 (fB_t (fB_w (fB_t g2 (fC_B f3))) (fH_B f4))
    · have h' : sW v 0 60 = false := by simpa using h
      rw [h', Bool.and_false] at hQ
      simp only [sB_t hp, sB_f h', o01, ↓reduceIte, w233_0, w233_1, w233_2, w233_5, w233_8, w233_9, w233_12, w233_15, w233_18, w233_19, w233_20, w233_23, w233_24, w233_25, w233_28, w233_29, w233_32, w233_33, w233_34, w233_37, w233_38, w233_41, w233_42, w233_43, w233_44, w233_45, w233_46, w233_49, w233_50, w233_51, w233_54, w233_55, c215, ↓reduceIte, Option.toList_some, Option.toList_none, List.cons_append, List.nil_append, Int32.reduceAdd, Int32.reduceLT, Int32.reduceLE, Int32.reduceToNatClampNeg]
      exact hQ I fB_0
  · have h' : isP η p = false := by simpa using hp
    rw [h', Bool.false_and] at hQ
    simp only [sB_f h', ↓reduceIte, w233_0, w233_1, w233_2, w233_5, w233_8, w233_9, w233_12, w233_15, w233_18, w233_19, w233_20, w233_23, w233_24, w233_25, w233_28, w233_29, w233_32, w233_33, w233_34, w233_37, w233_38, w233_41, w233_42, w233_43, w233_44, w233_45, w233_46, w233_49, w233_50, w233_51, w233_54, w233_55]
    exact hQ I fB_0
theorem c99 (hb : xB I o η ρ) (v : Int32) (hQ : ∀ I', fQ I I' → Q (some (.int (q_comes η ρ v))) (mHh xL I' J (mRf o o rr))) : WP (d + 5) 99 0 [.ref 7, .int v, mDum, mDum] [] (mHh xL I J (mRf o o rr)) Q := by
  have hb0 := hb
  obtain ⟨hk, hh, hr, ho, m, hm, e5⟩ := hb
  simp only [w99_0, w99_1, c100, ↓reduceIte, Option.toList_some, Option.toList_none, List.cons_append, List.nil_append, Int32.reduceAdd, Int32.reduceLT, Int32.reduceLE, Int32.reduceToNatClampNeg, w99_4, q_comes] at hQ ⊢
  by_cases h : isM v = true
  · rw [if_pos h] at hQ
    simp only [sB_t h, o01, ↓reduceIte, w99_0, w99_1, w99_4, w99_7, w99_8, w99_9, w99_10, w99_13, w99_14, w99_17, w99_20, w99_21, w99_23, w99_26, w99_29, w99_30, w99_33, w99_34, w99_37, w99_40, w99_41, w99_42, w99_43, w99_46, w99_47, w99_48, w99_49, w99_52, w99_53, w99_56, w99_57, w99_60, w99_61, w99_64, w99_67, w99_69, c59 s165 s163, s165, s163, ↓reduceIte, Option.toList_some, Option.toList_none, List.cons_append, List.nil_append, Int32.reduceAdd, Int32.reduceLT, Int32.reduceLE, Int32.reduceToNatClampNeg]
    have L : ∀ k, k ≤ 201 → (∀ I', fQ I I' → Q (some (.int (fin2 (fnd (fun k => decide (sMrk η (sB η ρ k) = v)) (201 - k) k)))) (mHh xL I' J (mRf o o rr))) → ∀ (I' : Nat → Nat → Int32) (v3 : Value), fQ I I' → mRw I' 165 = sB η ρ k → WP (d + 5) 99 22 [.ref 7, .int v, .int (nI k), v3] [] (mHh xL I' J (mRf o o rr)) Q := by
      refine iter_dn ?_ ?_
      · intro k hk1 ih hF I' v3 f r
        have h1 : ¬ 200 < nI k := i_le ((in_le 200 (by decide) (by omega)).2 (by omega))
        obtain ⟨ok, -⟩ := sB_ok hk ho e5 k (by omega)
        rw [show 201 - k = (200 - k) + 1 by omega, fnd] at hF
        rw [w99_22]
        simp only [w99_0, w99_1, w99_4, w99_7, w99_8, w99_9, w99_10, w99_13, w99_14, w99_17, w99_20, w99_21, w99_23, w99_26, w99_29, w99_30, w99_33, w99_34, w99_37, w99_40, w99_41, w99_42, w99_43, w99_46, w99_47, w99_48, w99_49, w99_52, w99_53, w99_56, w99_57, w99_60, w99_61, w99_64, w99_67, w99_69, h1, ↓reduceIte]
        refine c4 s165 hk (fQ_B f hb0).2.1 r ok ?_
        intro I2 f2 _
        simp only [↓reduceIte, Option.toList_some, Option.toList_none, List.cons_append, List.nil_append, Int32.reduceAdd, Int32.reduceLT, Int32.reduceLE, Int32.reduceToNatClampNeg, w99_0, w99_1, w99_4, w99_7, w99_8, w99_9, w99_10, w99_13, w99_14, w99_17, w99_20, w99_21, w99_23, w99_26, w99_29, w99_30, w99_33, w99_34, w99_37, w99_40, w99_41, w99_42, w99_43, w99_46, w99_47, w99_48, w99_49, w99_52, w99_53, w99_56, w99_57, w99_60, w99_61, w99_64, w99_67, w99_69]
        by_cases hc : sMrk η (sB η ρ k) = v
        · rw [if_pos (decide_eq_true hc)] at hF
          simp only [hc, ↓reduceIte]
          exact hF I2 (fQ_t f (fX_q f2))
        · have hc' : ¬ (decide (sMrk η (sB η ρ k) = v) = true) := by simpa using hc
          rw [if_neg hc'] at hF
          simp only [hc, ↓reduceIte, w99_0, w99_1, w99_4, w99_7, w99_8, w99_9, w99_10, w99_13, w99_14, w99_17, w99_20, w99_21, w99_23, w99_26, w99_29, w99_30, w99_33, w99_34, w99_37, w99_40, w99_41, w99_42, w99_43, w99_46, w99_47, w99_48, w99_49, w99_52, w99_53, w99_56, w99_57, w99_60, w99_61, w99_64, w99_67, w99_69]
          refine c16 s165 hk (fQ_B (fQ_t f (fX_q f2)) hb0).2.1 (fX_r s165 f2 r) ok _ ?_
          intro I3 f3 r3
          simp only [↓reduceIte, Option.toList_some, Option.toList_none, List.cons_append, List.nil_append, Int32.reduceAdd, Int32.reduceLT, Int32.reduceLE, Int32.reduceToNatClampNeg, w99_0, w99_1, w99_4, w99_7, w99_8, w99_9, w99_10, w99_13, w99_14, w99_17, w99_20, w99_21, w99_23, w99_26, w99_29, w99_30, w99_33, w99_34, w99_37, w99_40, w99_41, w99_42, w99_43, w99_46, w99_47, w99_48, w99_49, w99_52, w99_53, w99_56, w99_57, w99_60, w99_61, w99_64, w99_67, w99_69, nI_1]
          exact ih (by rw [show 201 - (k + 1) = 200 - k by omega]; exact hF) I3 _ (fQ_t (fQ_t f (fX_q f2)) (fA_q f3)) r3
      · intro hF I' v3 f r
        have h1 : 200 < nI 201 := by decide
        rw [w99_22]
        simp only [w99_0, w99_1, w99_4, w99_7, w99_8, w99_9, w99_10, w99_13, w99_14, w99_17, w99_20, w99_21, w99_23, w99_26, w99_29, w99_30, w99_33, w99_34, w99_37, w99_40, w99_41, w99_42, w99_43, w99_46, w99_47, w99_48, w99_49, w99_52, w99_53, w99_56, w99_57, w99_60, w99_61, w99_64, w99_67, w99_69, h1, ↓reduceIte]
        exact hF I' f
    exact L 0 (by omega) hQ _ _ fCp_q (by rw [mRw_cp s165 s163]; exact hr)
  · have h' : isM v = false := by simpa using h
    rw [if_neg h] at hQ
    simp only [sB_f h', ↓reduceIte, w99_0, w99_1, w99_4, w99_7, w99_8, w99_9, w99_10, w99_13, w99_14, w99_17, w99_20, w99_21, w99_23, w99_26, w99_29, w99_30, w99_33, w99_34, w99_37, w99_40, w99_41, w99_42, w99_43, w99_46, w99_47, w99_48, w99_49, w99_52, w99_53, w99_56, w99_57, w99_60, w99_61, w99_64, w99_67, w99_69]
    exact hQ I fQ_0
theorem c202 (hb : zB I s η ρ) {rc rx : Nat} (v : Int32) (hQ : ∀ I', fB I I' → Q (some (.int (q_comes η ρ v))) (mHh xL I' J (mRf rc rx rr))) : WP (d + 6) 202 0 [.ref 180, .int v, mDum] [] (mHh xL I J (mRf rc rx rr)) Q := by
  obtain ⟨hk, hh, hn, ho, m, hm, e5⟩ := hb
  simp only [w202_0, w202_1, c203, ↓reduceIte, Option.toList_some, Option.toList_none, List.cons_append, List.nil_append, Int32.reduceAdd, Int32.reduceLT, Int32.reduceLE, Int32.reduceToNatClampNeg, w202_4, q_comes] at hQ ⊢
  by_cases h : isM v = true
  · rw [if_pos h] at hQ
    simp only [sB_t h, o01, ↓reduceIte, w202_0, w202_1, w202_4, w202_7, w202_8, w202_9, w202_10, w202_13, w202_14, w202_16, w202_19, w202_22, w202_23, w202_26, w202_27, w202_30, w202_31, w202_32, w202_33, w202_36, w202_39, w202_42, w202_44]
    refine c204 hh hn ?_
    intro I1 f1 r1 l1
    simp only [↓reduceIte, Option.toList_some, Option.toList_none, List.cons_append, List.nil_append, Int32.reduceAdd, Int32.reduceLT, Int32.reduceLE, Int32.reduceToNatClampNeg, w202_0, w202_1, w202_4, w202_7, w202_8, w202_9, w202_10, w202_13, w202_14, w202_16, w202_19, w202_22, w202_23, w202_26, w202_27, w202_30, w202_31, w202_32, w202_33, w202_36, w202_39, w202_42, w202_44]
    have L : ∀ k, k ≤ 201 → (∀ I', fB I I' → Q (some (.int (fin2 (fnd (fun k => decide (sMrk η (sB η ρ k) = v)) (201 - k) k)))) (mHh xL I' J (mRf rc rx rr))) → ∀ (I' : Nat → Nat → Int32), fB I I' → mRr I' (sB η ρ k) → I' 180 52 = 1 → WP (d + 6) 202 15 [.ref 180, .int v, .int (nI k)] [] (mHh xL I' J (mRf rc rx rr)) Q := by
      refine iter_dn ?_ ?_
      · intro k hk1 ih hF I' f r l
        have h1 : ¬ 200 < nI k := i_le ((in_le 200 (by decide) (by omega)).2 (by omega))
        obtain ⟨ok, -⟩ := sB_ok hk ho e5 k (by omega)
        rw [show 201 - k = (200 - k) + 1 by omega, fnd] at hF
        rw [w202_15]
        simp only [w202_0, w202_1, w202_4, w202_7, w202_8, w202_9, w202_10, w202_13, w202_14, w202_16, w202_19, w202_22, w202_23, w202_26, w202_27, w202_30, w202_31, w202_32, w202_33, w202_36, w202_39, w202_42, w202_44, h1, ↓reduceIte]
        refine c172 (fB_h f hh) r ?_
        intro I2 f2
        have l2 : I2 180 52 = 1 := by rw [f2.2 52 (by decide)]; exact l
        simp only [↓reduceIte, Option.toList_some, Option.toList_none, List.cons_append, List.nil_append, Int32.reduceAdd, Int32.reduceLT, Int32.reduceLE, Int32.reduceToNatClampNeg, w202_0, w202_1, w202_4, w202_7, w202_8, w202_9, w202_10, w202_13, w202_14, w202_16, w202_19, w202_22, w202_23, w202_26, w202_27, w202_30, w202_31, w202_32, w202_33, w202_36, w202_39, w202_42, w202_44]
        by_cases hc : sMrk η (sB η ρ k) = v
        · rw [if_pos (decide_eq_true hc)] at hF
          simp only [hc, ↓reduceIte]
          exact hF I2 (fB_t f (fM_B f2))
        · have hc' : ¬ (decide (sMrk η (sB η ρ k) = v) = true) := by simpa using hc
          rw [if_neg hc'] at hF
          simp only [hc, ↓reduceIte, w202_0, w202_1, w202_4, w202_7, w202_8, w202_9, w202_10, w202_13, w202_14, w202_16, w202_19, w202_22, w202_23, w202_26, w202_27, w202_30, w202_31, w202_32, w202_33, w202_36, w202_39, w202_42, w202_44]
          refine c197s (fB_h (fB_t f (fM_B f2)) hh) hk (fM_r f2 r) ok l2 ?_
          intro I3 f3 r3
          simp only [↓reduceIte, Option.toList_some, Option.toList_none, List.cons_append, List.nil_append, Int32.reduceAdd, Int32.reduceLT, Int32.reduceLE, Int32.reduceToNatClampNeg, w202_0, w202_1, w202_4, w202_7, w202_8, w202_9, w202_10, w202_13, w202_14, w202_16, w202_19, w202_22, w202_23, w202_26, w202_27, w202_30, w202_31, w202_32, w202_33, w202_36, w202_39, w202_42, w202_44, nI_1]
          exact ih (by rw [show 201 - (k + 1) = 200 - k by omega]; exact hF) I3 (fB_t (fB_t f (fM_B f2)) (fH_B f3)) r3 (by rw [(fH_5 f3).2]; exact l2)
      · intro hF I' f r l
        have h1 : 200 < nI 201 := by decide
        rw [w202_15]
        simp only [w202_0, w202_1, w202_4, w202_7, w202_8, w202_9, w202_10, w202_13, w202_14, w202_16, w202_19, w202_22, w202_23, w202_26, w202_27, w202_30, w202_31, w202_32, w202_33, w202_36, w202_39, w202_42, w202_44, h1, ↓reduceIte]
        exact hF I' f
    exact L 0 (by omega) hQ _ (fC_B f1) r1 l1
  · have h' : isM v = false := by simpa using h
    rw [if_neg h] at hQ
    simp only [sB_f h', ↓reduceIte, w202_0, w202_1, w202_4, w202_7, w202_8, w202_9, w202_10, w202_13, w202_14, w202_16, w202_19, w202_22, w202_23, w202_26, w202_27, w202_30, w202_31, w202_32, w202_33, w202_36, w202_39, w202_42, w202_44]
    exact hQ I fB_0
end QR2
