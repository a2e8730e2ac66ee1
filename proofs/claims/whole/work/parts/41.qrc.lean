/-! Queries: settles. -/
def al (ρ σ : Nat → Int32) : Bool := decide (ρ 0 = σ 0 ∧ ρ 1 = σ 1 ∧ ρ 2 = σ 2 ∧ ρ 3 = σ 3 ∧ ρ 4 = σ 4)
def q_settles (η : mHs) (ρ : Nat → Int32) : Int32 := fin2 (fnd (fun k => al (sB η ρ (k + 1)) (sB η ρ k)) 201 0)
section QRC
variable {d : Nat} {xL : Nat} {I : Nat → Nat → Int32} {J : Nat → Nat → Int64} {rr : Nat} {Q : Option Value → mHp → Prop} {s o : Nat} {η : mHs} {ρ : Nat → Int32}
theorem c103 (hb : xB I o η ρ) (hQ : ∀ I', fQ I I' → Q (some (.int (q_settles η ρ))) (mHh xL I' J (mRf o o rr))) : WP (d + 5) 103 0 [.ref 7, mDum] [] (mHh xL I J (mRf o o rr)) Q := by
  have hb0 := hb
  obtain ⟨hk, hh, hr, ho, m, hm, e5⟩ := hb
  simp only [w103_0, w103_1, w103_4, w103_5, w103_8, w103_11, w103_12, w103_14, w103_17, w103_20, w103_21, w103_24, w103_25, w103_28, w103_31, w103_32, w103_35, w103_36, w103_39, w103_40, w103_43, w103_44, w103_47, w103_50, w103_53, w103_54, w103_55, w103_58, w103_59, w103_62, w103_65, w103_68, w103_69, w103_70, w103_73, w103_76, w103_78, c59 s165 s163, s165, s163, ↓reduceIte, Option.toList_some, Option.toList_none, List.cons_append, List.nil_append, Int32.reduceAdd, Int32.reduceLT, Int32.reduceLE, Int32.reduceToNatClampNeg]
  have L : ∀ k, k ≤ 201 → (∀ I', fQ I I' → Q (some (.int (fin2 (fnd (fun k => al (sB η ρ (k + 1)) (sB η ρ k)) (201 - k) k)))) (mHh xL I' J (mRf o o rr))) → ∀ (I' : Nat → Nat → Int32), fQ I I' → mRw I' 165 = sB η ρ k → WP (d + 5) 103 13 [.ref 7, .int (nI k)] [] (mHh xL I' J (mRf o o rr)) Q := by
    refine iter_dn ?_ ?_
    · intro k hk1 ih hF I' f r
      have h1 : ¬ 200 < nI k := i_le ((in_le 200 (by decide) (by omega)).2 (by omega))
      obtain ⟨ok, -⟩ := sB_ok hk ho e5 k (by omega)
      rw [show 201 - k = (200 - k) + 1 by omega, fnd] at hF
      have q1 : fQ I (mCp 167 165 I') := fQ_t f (fun a x => mCp_o (by omega) (by omega))
      have r1 : mRw (mCp 167 165 I') 165 = sB η ρ k := mRw_keep (mCp_o (by decide) (by decide)) (mCp_o (by decide) (by decide)) r
      have r7 : mRw (mCp 167 165 I') 167 = sB η ρ k := by rw [mRw_cp s167 s165]; exact r
      rw [w103_13]
      simp only [w103_0, w103_1, w103_4, w103_5, w103_8, w103_11, w103_12, w103_14, w103_17, w103_20, w103_21, w103_24, w103_25, w103_28, w103_31, w103_32, w103_35, w103_36, w103_39, w103_40, w103_43, w103_44, w103_47, w103_50, w103_53, w103_54, w103_55, w103_58, w103_59, w103_62, w103_65, w103_68, w103_69, w103_70, w103_73, w103_76, w103_78, h1, ↓reduceIte, s165, s167, c59 s167 s165, ↓reduceIte, Option.toList_some, Option.toList_none, List.cons_append, List.nil_append, Int32.reduceAdd, Int32.reduceLT, Int32.reduceLE, Int32.reduceToNatClampNeg]
      refine c4 s165 hk (fQ_B q1 hb0).2.1 r1 ok ?_
      intro I2 f2 _
      simp only [↓reduceIte, Option.toList_some, Option.toList_none, List.cons_append, List.nil_append, Int32.reduceAdd, Int32.reduceLT, Int32.reduceLE, Int32.reduceToNatClampNeg, w103_0, w103_1, w103_4, w103_5, w103_8, w103_11, w103_12, w103_14, w103_17, w103_20, w103_21, w103_24, w103_25, w103_28, w103_31, w103_32, w103_35, w103_36, w103_39, w103_40, w103_43, w103_44, w103_47, w103_50, w103_53, w103_54, w103_55, w103_58, w103_59, w103_62, w103_65, w103_68, w103_69, w103_70, w103_73, w103_76, w103_78]
      refine c16 s165 hk (fQ_B (fQ_t q1 (fX_q f2)) hb0).2.1 (fX_r s165 f2 r1) ok _ ?_
      intro I3 f3 r3
      have r3' : mRw I3 165 = sB η ρ (k + 1) := r3
      have q3 := fQ_t (fQ_t q1 (fX_q f2)) (fA_q f3)
      have r73 : mRw I3 167 = sB η ρ k := mRw_keep (f3 167 (by decide) (by decide) (by decide) (by decide) (by decide)) (f3 168 (by decide) (by decide) (by decide) (by decide) (by decide)) (fX_r s167 f2 r7)
      simp only [↓reduceIte, Option.toList_some, Option.toList_none, List.cons_append, List.nil_append, Int32.reduceAdd, Int32.reduceLT, Int32.reduceLE, Int32.reduceToNatClampNeg, w103_0, w103_1, w103_4, w103_5, w103_8, w103_11, w103_12, w103_14, w103_17, w103_20, w103_21, w103_24, w103_25, w103_28, w103_31, w103_32, w103_35, w103_36, w103_39, w103_40, w103_43, w103_44, w103_47, w103_50, w103_53, w103_54, w103_55, w103_58, w103_59, w103_62, w103_65, w103_68, w103_69, w103_70, w103_73, w103_76, w103_78, s165, s167, c60 s165 s167, mRw_p r3' (show 0 < 5 by decide), mRw_p r3' (show 1 < 5 by decide), mRw_p r3' (show 2 < 5 by decide), mRw_p r3' (show 3 < 5 by decide), mRw_p r3' (show 4 < 5 by decide), mRw_p r73 (show 0 < 5 by decide), mRw_p r73 (show 1 < 5 by decide), mRw_p r73 (show 2 < 5 by decide), mRw_p r73 (show 3 < 5 by decide), mRw_p r73 (show 4 < 5 by decide)]
      by_cases hc : al (sB η ρ (k + 1)) (sB η ρ k) = true
      · rw [if_pos hc] at hF
        simp only [al, decide_eq_true_eq] at hc
        rw [if_pos hc]
        simp only [o01, ↓reduceIte, w103_0, w103_1, w103_4, w103_5, w103_8, w103_11, w103_12, w103_14, w103_17, w103_20, w103_21, w103_24, w103_25, w103_28, w103_31, w103_32, w103_35, w103_36, w103_39, w103_40, w103_43, w103_44, w103_47, w103_50, w103_53, w103_54, w103_55, w103_58, w103_59, w103_62, w103_65, w103_68, w103_69, w103_70, w103_73, w103_76, w103_78]
        exact hF I3 q3
      · rw [if_neg hc] at hF
        simp only [al, decide_eq_true_eq] at hc
        rw [if_neg hc]
        simp only [↓reduceIte, w103_0, w103_1, w103_4, w103_5, w103_8, w103_11, w103_12, w103_14, w103_17, w103_20, w103_21, w103_24, w103_25, w103_28, w103_31, w103_32, w103_35, w103_36, w103_39, w103_40, w103_43, w103_44, w103_47, w103_50, w103_53, w103_54, w103_55, w103_58, w103_59, w103_62, w103_65, w103_68, w103_69, w103_70, w103_73, w103_76, w103_78, nI_1]
        exact ih (by rw [show 201 - (k + 1) = 200 - k by omega]; exact hF) I3 q3 r3'
    · intro hF I' f r
      have h1 : 200 < nI 201 := by decide
      rw [w103_13]
      simp only [w103_0, w103_1, w103_4, w103_5, w103_8, w103_11, w103_12, w103_14, w103_17, w103_20, w103_21, w103_24, w103_25, w103_28, w103_31, w103_32, w103_35, w103_36, w103_39, w103_40, w103_43, w103_44, w103_47, w103_50, w103_53, w103_54, w103_55, w103_58, w103_59, w103_62, w103_65, w103_68, w103_69, w103_70, w103_73, w103_76, w103_78, h1, ↓reduceIte]
      exact hF I' f
  exact L 0 (by omega) hQ _ fCp_q (by rw [mRw_cp s165 s163]; exact hr)
end QRC
