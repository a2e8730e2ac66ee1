/-! Queries: highest. -/
def hM (η : mHs) (ρ : Nat → Int32) : Nat → Int32 × Int32
  | 0 => (rS ρ, 0)
  | k + 1 => if (hM η ρ k).1 < rS (sB η ρ (k + 1)) then (rS (sB η ρ (k + 1)), nI (k + 1)) else hM η ρ k
def q_highest (η : mHs) (ρ : Nat → Int32) (n w : Int32) : Int32 := if sW n 0 60 && sW w 0 1 then (if w = 0 then (hM η ρ n.toNatClampNeg).1 else (hM η ρ n.toNatClampNeg).2) else -1
section QR9
variable {d : Nat} {xL : Nat} {I : Nat → Nat → Int32} {J : Nat → Nat → Int64} {rr : Nat} {Q : Option Value → mHp → Prop} {s o : Nat} {η : mHs} {ρ : Nat → Int32}
theorem c109 (hb : xB I o η ρ) (n w : Int32) (hQ : ∀ I', fQ I I' → Q (some (.int (q_highest η ρ n w))) (mHh xL I' J (mRf o o rr))) : WP (d + 5) 109 0 [.ref 7, .int n, .int w, mDum, mDum, mDum, mDum] [] (mHh xL I J (mRf o o rr)) Q := by
  have hb0 := hb
  obtain ⟨hk, hh, hr, ho, m, hm, e5⟩ := hb
  simp only [w109_0, w109_1, w109_2, w109_4, c95, ↓reduceIte, Option.toList_some, Option.toList_none, List.cons_append, List.nil_append, Int32.reduceAdd, Int32.reduceLT, Int32.reduceLE, Int32.reduceToNatClampNeg, w109_7, q_highest] at hQ ⊢
  by_cases h : sW n 0 60 = true
  · by_cases h' : sW w 0 1 = true
    · rw [h, h'] at hQ
      obtain ⟨n, -, hn, rfl⟩ := (sW_iff (a := 0) (b := 60) rfl rfl).1 h
      have ec : (nI n).toNatClampNeg = n := nI_clamp (by omega)
      have r1 : mRw (mCp 165 163 I) 165 = ρ := by rw [mRw_cp s165 s163]; exact hr
      rw [ec] at hQ
      simp only [sB_t h, sB_t h', o01, ↓reduceIte, w109_0, w109_1, w109_2, w109_4, w109_7, w109_10, w109_11, w109_12, w109_13, w109_16, w109_19, w109_20, w109_21, w109_22, w109_25, w109_26, w109_29, w109_32, w109_33, w109_36, w109_39, w109_40, w109_41, w109_43, w109_44, w109_48, w109_49, w109_52, w109_53, w109_56, w109_57, w109_60, w109_61, w109_64, w109_65, w109_68, w109_71, w109_74, w109_75, w109_76, w109_79, w109_82, w109_84, w109_86, w109_87, w109_90, w109_92, w109_93, w109_95, w109_97, w109_100, w109_103, w109_104, w109_107, w109_108, w109_111, w109_113, c95, c59 s165 s163, s165, s163, ↓reduceIte, Option.toList_some, Option.toList_none, List.cons_append, List.nil_append, Int32.reduceAdd, Int32.reduceLT, Int32.reduceLE, Int32.reduceToNatClampNeg, c57 s165, mT5_r r1]
      have L : ∀ k, k ≤ n → ∀ (I' : Nat → Nat → Int32) (v6 : Value), fQ I I' → mRw I' 165 = sB η ρ k → WP (d + 5) 109 46 [.ref 7, .int (nI n), .int w, .int (hM η ρ k).1, .int (hM η ρ k).2, .int (nI (k + 1)), v6] [] (mHh xL I' J (mRf o o rr)) Q := by
        refine iter_dn ?_ ?_
        · intro k hk1 ih I' v6 f r
          have h1 : ¬ nI n < nI (k + 1) := nI_nlt (by omega) (by omega)
          obtain ⟨ok, -⟩ := sB_ok hk ho e5 k (by omega)
          rw [w109_46]
          simp only [w109_0, w109_1, w109_2, w109_4, w109_7, w109_10, w109_11, w109_12, w109_13, w109_16, w109_19, w109_20, w109_21, w109_22, w109_25, w109_26, w109_29, w109_32, w109_33, w109_36, w109_39, w109_40, w109_41, w109_43, w109_44, w109_48, w109_49, w109_52, w109_53, w109_56, w109_57, w109_60, w109_61, w109_64, w109_65, w109_68, w109_71, w109_74, w109_75, w109_76, w109_79, w109_82, w109_84, w109_86, w109_87, w109_90, w109_92, w109_93, w109_95, w109_97, w109_100, w109_103, w109_104, w109_107, w109_108, w109_111, w109_113, h1, ↓reduceIte]
          refine c4 s165 hk (fQ_B f hb0).2.1 r ok ?_
          intro I2 f2 _
          simp only [↓reduceIte, Option.toList_some, Option.toList_none, List.cons_append, List.nil_append, Int32.reduceAdd, Int32.reduceLT, Int32.reduceLE, Int32.reduceToNatClampNeg, w109_0, w109_1, w109_2, w109_4, w109_7, w109_10, w109_11, w109_12, w109_13, w109_16, w109_19, w109_20, w109_21, w109_22, w109_25, w109_26, w109_29, w109_32, w109_33, w109_36, w109_39, w109_40, w109_41, w109_43, w109_44, w109_48, w109_49, w109_52, w109_53, w109_56, w109_57, w109_60, w109_61, w109_64, w109_65, w109_68, w109_71, w109_74, w109_75, w109_76, w109_79, w109_82, w109_84, w109_86, w109_87, w109_90, w109_92, w109_93, w109_95, w109_97, w109_100, w109_103, w109_104, w109_107, w109_108, w109_111, w109_113]
          refine c16 s165 hk (fQ_B (fQ_t f (fX_q f2)) hb0).2.1 (fX_r s165 f2 r) ok _ ?_
          intro I3 f3 r3
          have := ih I3 (.int (rS (sB η ρ (k + 1)))) (fQ_t (fQ_t f (fX_q f2)) (fA_q f3)) r3
          rw [hM] at this
          have e : mT5 I3 165 = rS (sB η ρ (k + 1)) := mT5_r r3
          simp only [↓reduceIte, Option.toList_some, Option.toList_none, List.cons_append, List.nil_append, Int32.reduceAdd, Int32.reduceLT, Int32.reduceLE, Int32.reduceToNatClampNeg, w109_74, w109_75, w109_76, w109_79, s165, c57 s165, e, w109_82, w109_84, w109_86, w109_87]
          by_cases hc : (hM η ρ k).1 < rS (sB η ρ (k + 1))
          · rw [if_pos hc] at this
            simp only [i_lt hc, ↓reduceIte, w109_0, w109_1, w109_2, w109_4, w109_7, w109_10, w109_11, w109_12, w109_13, w109_16, w109_19, w109_20, w109_21, w109_22, w109_25, w109_26, w109_29, w109_32, w109_33, w109_36, w109_39, w109_40, w109_41, w109_43, w109_44, w109_48, w109_49, w109_52, w109_53, w109_56, w109_57, w109_60, w109_61, w109_64, w109_65, w109_68, w109_71, w109_74, w109_75, w109_76, w109_79, w109_82, w109_84, w109_86, w109_87, w109_90, w109_92, w109_93, w109_95, w109_97, w109_100, w109_103, w109_104, w109_107, w109_108, w109_111, w109_113, nI_1]
            exact this
          · rw [if_neg hc] at this
            simp only [i_nlt hc, ↓reduceIte, w109_0, w109_1, w109_2, w109_4, w109_7, w109_10, w109_11, w109_12, w109_13, w109_16, w109_19, w109_20, w109_21, w109_22, w109_25, w109_26, w109_29, w109_32, w109_33, w109_36, w109_39, w109_40, w109_41, w109_43, w109_44, w109_48, w109_49, w109_52, w109_53, w109_56, w109_57, w109_60, w109_61, w109_64, w109_65, w109_68, w109_71, w109_74, w109_75, w109_76, w109_79, w109_82, w109_84, w109_86, w109_87, w109_90, w109_92, w109_93, w109_95, w109_97, w109_100, w109_103, w109_104, w109_107, w109_108, w109_111, w109_113, nI_1]
            exact this
        · intro I' v6 f r
          have h1 : nI n < nI (n + 1) := nI_lt (by omega) (by omega)
          have := hQ I' f
          rw [w109_46]
          simp only [w109_0, w109_1, w109_2, w109_4, w109_7, w109_10, w109_11, w109_12, w109_13, w109_16, w109_19, w109_20, w109_21, w109_22, w109_25, w109_26, w109_29, w109_32, w109_33, w109_36, w109_39, w109_40, w109_41, w109_43, w109_44, w109_48, w109_49, w109_52, w109_53, w109_56, w109_57, w109_60, w109_61, w109_64, w109_65, w109_68, w109_71, w109_74, w109_75, w109_76, w109_79, w109_82, w109_84, w109_86, w109_87, w109_90, w109_92, w109_93, w109_95, w109_97, w109_100, w109_103, w109_104, w109_107, w109_108, w109_111, w109_113, h1, ↓reduceIte]
          by_cases hw : w = 0
          · simp only [hw, ↓reduceIte, Bool.and_self] at this ⊢
            exact this
          · simp only [hw, ↓reduceIte, Bool.and_self] at this ⊢
            exact this
      exact L 0 (by omega) _ _ fCp_q r1
    · have h2 : sW w 0 1 = false := by simpa using h'
      rw [h2, Bool.and_false] at hQ
      simp only [sB_t h, sB_f h2, o01, ↓reduceIte, w109_0, w109_1, w109_2, w109_4, w109_7, w109_10, w109_11, w109_12, w109_13, w109_16, w109_19, w109_20, w109_21, w109_22, w109_25, w109_26, w109_29, w109_32, w109_33, w109_36, w109_39, w109_40, w109_41, w109_43, w109_44, w109_48, w109_49, w109_52, w109_53, w109_56, w109_57, w109_60, w109_61, w109_64, w109_65, w109_68, w109_71, w109_74, w109_75, w109_76, w109_79, w109_82, w109_84, w109_86, w109_87, w109_90, w109_92, w109_93, w109_95, w109_97, w109_100, w109_103, w109_104, w109_107, w109_108, w109_111, w109_113, c95, ↓reduceIte, Option.toList_some, Option.toList_none, List.cons_append, List.nil_append, Int32.reduceAdd, Int32.reduceLT, Int32.reduceLE, Int32.reduceToNatClampNeg]
      exact hQ I fQ_0
  · have h2 : sW n 0 60 = false := by simpa using h
    rw [h2, Bool.false_and] at hQ
    simp only [sB_f h2, ↓reduceIte, w109_0, w109_1, w109_2, w109_4, w109_7, w109_10, w109_11, w109_12, w109_13, w109_16, w109_19, w109_20, w109_21, w109_22, w109_25, w109_26, w109_29, w109_32, w109_33, w109_36, w109_39, w109_40, w109_41, w109_43, w109_44, w109_48, w109_49, w109_52, w109_53, w109_56, w109_57, w109_60, w109_61, w109_64, w109_65, w109_68, w109_71, w109_74, w109_75, w109_76, w109_79, w109_82, w109_84, w109_86, w109_87, w109_90, w109_92, w109_93, w109_95, w109_97, w109_100, w109_103, w109_104, w109_107, w109_108, w109_111, w109_113]
    exact hQ I fQ_0
end QR9
