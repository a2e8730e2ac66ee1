/-! Queries: itself. -/
def bA (p : Nat → Bool) : Nat → Int32
  | 0 => 0
  | k + 1 => if p k then bA p k ||| (1 <<< (nI k &&& 31)) else bA p k
def q_itself (η : mHs) (ρ : Nat → Int32) : Int32 := bA (fun k => decide (sMrk η (sHr η ρ (nI k)) = nI k)) 12
section QR8
variable {d : Nat} {xL : Nat} {I : Nat → Nat → Int32} {J : Nat → Nat → Int64} {rr : Nat} {Q : Option Value → mHp → Prop} {s o : Nat} {η : mHs} {ρ : Nat → Int32}
theorem c104 (hb : xB I o η ρ) (hQ : ∀ I', fQ I I' → Q (some (.int (q_itself η ρ))) (mHh xL I' J (mRf o o rr))) : WP (d + 5) 104 0 [.ref 7, mDum, mDum] [] (mHh xL I J (mRf o o rr)) Q := by
  have hb0 := hb
  obtain ⟨hk, hh, hr, ho, m, hm, e5⟩ := hb
  simp only [w104_0, w104_1, w104_2, w104_3]
  have L : ∀ k, k ≤ 12 → ∀ (I' : Nat → Nat → Int32), fQ I I' → WP (d + 5) 104 4 [.ref 7, .int (bA (fun k => decide (sMrk η (sHr η ρ (nI k)) = nI k)) k), .int (nI k)] [] (mHh xL I' J (mRf o o rr)) Q := by
    refine iter_dn ?_ ?_
    · intro k hk1 ih I' f
      have b1 := fQ_B f hb0
      have h1 : ¬ 12 ≤ nI k := by rw [ni_le 12 (by decide) (by omega)]; omega
      have q1 : fQ I (mCp 165 163 I') := fQ_t f fCp_q
      rw [w104_4]
      simp only [w104_0, w104_1, w104_2, w104_3, w104_5, w104_7, w104_10, w104_11, w104_14, w104_15, w104_18, w104_21, w104_22, w104_25, w104_26, w104_29, w104_30, w104_33, w104_34, w104_35, w104_38, w104_39, w104_42, w104_45, w104_46, w104_49, w104_50, w104_51, w104_52, w104_53, w104_54, w104_55, w104_58, w104_61, w104_62, h1, ↓reduceIte, s163, s165, c59 s165 s163, ↓reduceIte, Option.toList_some, Option.toList_none, List.cons_append, List.nil_append, Int32.reduceAdd, Int32.reduceLT, Int32.reduceLE, Int32.reduceToNatClampNeg]
      refine c16 s165 hk (fQ_B q1 hb0).2.1 (by rw [mRw_cp s165 s163]; exact b1.2.2.1) ho _ ?_
      intro I2 f2 r2
      simp only [↓reduceIte, Option.toList_some, Option.toList_none, List.cons_append, List.nil_append, Int32.reduceAdd, Int32.reduceLT, Int32.reduceLE, Int32.reduceToNatClampNeg, w104_0, w104_1, w104_2, w104_3, w104_5, w104_7, w104_10, w104_11, w104_14, w104_15, w104_18, w104_21, w104_22, w104_25, w104_26, w104_29, w104_30, w104_33, w104_34, w104_35, w104_38, w104_39, w104_42, w104_45, w104_46, w104_49, w104_50, w104_51, w104_52, w104_53, w104_54, w104_55, w104_58, w104_61, w104_62]
      refine c4 s165 hk (fQ_B (fQ_t q1 (fA_q f2)) hb0).2.1 r2 (sHr_ok hk ho _ ⟨m, by omega, e5⟩) ?_
      intro I3 f3 _
      have := ih I3 (fQ_t (fQ_t q1 (fA_q f2)) (fX_q f3))
      rw [bA] at this
      simp only [↓reduceIte, Option.toList_some, Option.toList_none, List.cons_append, List.nil_append, Int32.reduceAdd, Int32.reduceLT, Int32.reduceLE, Int32.reduceToNatClampNeg, w104_0, w104_1, w104_2, w104_3, w104_5, w104_7, w104_10, w104_11, w104_14, w104_15, w104_18, w104_21, w104_22, w104_25, w104_26, w104_29, w104_30, w104_33, w104_34, w104_35, w104_38, w104_39, w104_42, w104_45, w104_46, w104_49, w104_50, w104_51, w104_52, w104_53, w104_54, w104_55, w104_58, w104_61, w104_62]
      by_cases hc : sMrk η (sHr η ρ (nI k)) = nI k
      · rw [if_pos (decide_eq_true hc)] at this
        simp only [hc, ↓reduceIte, w104_0, w104_1, w104_2, w104_3, w104_5, w104_7, w104_10, w104_11, w104_14, w104_15, w104_18, w104_21, w104_22, w104_25, w104_26, w104_29, w104_30, w104_33, w104_34, w104_35, w104_38, w104_39, w104_42, w104_45, w104_46, w104_49, w104_50, w104_51, w104_52, w104_53, w104_54, w104_55, w104_58, w104_61, w104_62, nI_1]
        exact this
      · rw [if_neg (by simpa using hc)] at this
        simp only [hc, ↓reduceIte, w104_0, w104_1, w104_2, w104_3, w104_5, w104_7, w104_10, w104_11, w104_14, w104_15, w104_18, w104_21, w104_22, w104_25, w104_26, w104_29, w104_30, w104_33, w104_34, w104_35, w104_38, w104_39, w104_42, w104_45, w104_46, w104_49, w104_50, w104_51, w104_52, w104_53, w104_54, w104_55, w104_58, w104_61, w104_62, nI_1]
        exact this
    · intro I' f
      have h1 : 12 ≤ nI 12 := by decide
      rw [w104_4]
      simp only [w104_0, w104_1, w104_2, w104_3, w104_5, w104_7, w104_10, w104_11, w104_14, w104_15, w104_18, w104_21, w104_22, w104_25, w104_26, w104_29, w104_30, w104_33, w104_34, w104_35, w104_38, w104_39, w104_42, w104_45, w104_46, w104_49, w104_50, w104_51, w104_52, w104_53, w104_54, w104_55, w104_58, w104_61, w104_62, h1, ↓reduceIte]
      exact hQ I' f
  exact L 0 (by omega) _ fQ_0
theorem c209 (hb : zB I s η ρ) {rc rx : Nat} (hQ : ∀ I', fB I I' → Q (some (.int (q_itself η ρ))) (mHh xL I' J (mRf rc rx rr))) : WP (d + 6) 209 0 [.ref 180, mDum, mDum] [] (mHh xL I J (mRf rc rx rr)) Q := by
  have hb0 := hb
  obtain ⟨hk, hh, hn, ho, m, hm, e5⟩ := hb
  simp only [w209_0, w209_1, w209_2, w209_3]
  have L : ∀ k, k ≤ 12 → ∀ (I' : Nat → Nat → Int32), fB I I' → WP (d + 6) 209 4 [.ref 180, .int (bA (fun k => decide (sMrk η (sHr η ρ (nI k)) = nI k)) k), .int (nI k)] [] (mHh xL I' J (mRf rc rx rr)) Q := by
    refine iter_dn ?_ ?_
    · intro k hk1 ih I' f
      have b1 := fB_B f hb0
      have h1 : ¬ 12 ≤ nI k := by rw [ni_le 12 (by decide) (by omega)]; omega
      rw [w209_4]
      simp only [w209_0, w209_1, w209_2, w209_3, w209_5, w209_7, w209_10, w209_11, w209_14, w209_15, w209_16, w209_19, w209_20, w209_23, w209_24, w209_27, w209_28, w209_29, w209_30, w209_31, w209_32, w209_33, w209_36, w209_39, w209_40, h1, ↓reduceIte]
      refine c204 b1.2.1 b1.2.2.1 ?_
      intro I1 f1 r1 _
      simp only [↓reduceIte, Option.toList_some, Option.toList_none, List.cons_append, List.nil_append, Int32.reduceAdd, Int32.reduceLT, Int32.reduceLE, Int32.reduceToNatClampNeg, w209_0, w209_1, w209_2, w209_3, w209_5, w209_7, w209_10, w209_11, w209_14, w209_15, w209_16, w209_19, w209_20, w209_23, w209_24, w209_27, w209_28, w209_29, w209_30, w209_31, w209_32, w209_33, w209_36, w209_39, w209_40]
      refine c200 (fC_h f1 b1.2.1) hk r1 ho _ ?_
      intro I2 f2 r2
      simp only [↓reduceIte, Option.toList_some, Option.toList_none, List.cons_append, List.nil_append, Int32.reduceAdd, Int32.reduceLT, Int32.reduceLE, Int32.reduceToNatClampNeg, w209_0, w209_1, w209_2, w209_3, w209_5, w209_7, w209_10, w209_11, w209_14, w209_15, w209_16, w209_19, w209_20, w209_23, w209_24, w209_27, w209_28, w209_29, w209_30, w209_31, w209_32, w209_33, w209_36, w209_39, w209_40]
      refine c172 (fH_h f2 (fC_h f1 b1.2.1)) r2 ?_
      intro I3 f3
      have := ih I3 (fB_t f (fB_t (fC_B f1) (fB_t (fH_B f2) (fM_B f3))))
      rw [bA] at this
      simp only [↓reduceIte, Option.toList_some, Option.toList_none, List.cons_append, List.nil_append, Int32.reduceAdd, Int32.reduceLT, Int32.reduceLE, Int32.reduceToNatClampNeg, w209_0, w209_1, w209_2, w209_3, w209_5, w209_7, w209_10, w209_11, w209_14, w209_15, w209_16, w209_19, w209_20, w209_23, w209_24, w209_27, w209_28, w209_29, w209_30, w209_31, w209_32, w209_33, w209_36, w209_39, w209_40]
      by_cases hc : sMrk η (sHr η ρ (nI k)) = nI k
      · rw [if_pos (decide_eq_true hc)] at this
        simp only [hc, ↓reduceIte, w209_0, w209_1, w209_2, w209_3, w209_5, w209_7, w209_10, w209_11, w209_14, w209_15, w209_16, w209_19, w209_20, w209_23, w209_24, w209_27, w209_28, w209_29, w209_30, w209_31, w209_32, w209_33, w209_36, w209_39, w209_40, nI_1]
        exact this
      · rw [if_neg (by simpa using hc)] at this
        simp only [hc, ↓reduceIte, w209_0, w209_1, w209_2, w209_3, w209_5, w209_7, w209_10, w209_11, w209_14, w209_15, w209_16, w209_19, w209_20, w209_23, w209_24, w209_27, w209_28, w209_29, w209_30, w209_31, w209_32, w209_33, w209_36, w209_39, w209_40, nI_1]
        exact this
    · intro I' f
      have h1 : 12 ≤ nI 12 := by decide
      rw [w209_4]
      simp only [w209_0, w209_1, w209_2, w209_3, w209_5, w209_7, w209_10, w209_11, w209_14, w209_15, w209_16, w209_19, w209_20, w209_23, w209_24, w209_27, w209_28, w209_29, w209_30, w209_31, w209_32, w209_33, w209_36, w209_39, w209_40, h1, ↓reduceIte]
      exact hQ I' f
  exact L 0 (by omega) _ fB_0
end QR8
