/-! Queries: busiest. -/
def bC (η : mHs) (ρ : Nat → Int32) (n j : Nat) : Int32 := cnt (fun k => dn η (sB η ρ k) (sMrk η (sB η ρ k)) j) n
def tW (f : Nat → Int32) : Nat → Nat
  | 0 => 0
  | k + 1 => if f (tW f k) < f (k + 1) then k + 1 else tW f k
theorem tW_le (f : Nat → Int32) : ∀ k, tW f k ≤ k := by
  intro k
  induction k with
  | zero => exact Nat.le_refl _
  | succ k ih => rw [tW]; split <;> omega
def q_busiest (η : mHs) (ρ : Nat → Int32) (n w : Int32) : Int32 := if sW n 0 200 && sW w 0 1 then (if η.2.1 = 0 then -2 else if w = 0 then nI (tW (bC η ρ n.toNatClampNeg) (η.2.1 - 1)) else bC η ρ n.toNatClampNeg (tW (bC η ρ n.toNatClampNeg) (η.2.1 - 1))) else -1
section QRN
variable {d : Nat} {xL : Nat} {I : Nat → Nat → Int32} {J : Nat → Nat → Int64} {rr : Nat} {Q : Option Value → mHp → Prop} {s o : Nat} {η : mHs} {ρ : Nat → Int32}
theorem c108 (hb : xB I o η ρ) {n : Nat} (hn : n ≤ 200) (hQ : ∀ I', fQ I I' → (∀ j, j < η.2.1 → I' 171 j = bC η ρ n j) → Q none (mHh xL I' J (mRf o o rr))) : WP (d + 5) 108 0 [.ref 7, .int (nI n), mDum, mDum, mDum] [] (mHh xL I J (mRf o o rr)) Q := by
  have hb0 := hb
  obtain ⟨hk, hh, hr, ho, m, hm, e5⟩ := hb
  have hn6 := hk.2.1
  have hHo := hh.1
  simp only [w108_0, w108_1]
  have Z : ∀ j, j ≤ 6 → ∀ (I' : Nat → Nat → Int32), fQ I I' → (∀ i, i < j → I' 171 i = 0) → WP (d + 5) 108 2 [.ref 7, .int (nI n), .int (nI j), mDum, mDum] [] (mHh xL I' J (mRf o o rr)) Q := by
    refine iter_dn ?_ ?_
    · intro j hj ih I' f t
      have g1 : ¬ 6 ≤ nI j := by rw [ni_le 6 (by decide) (by omega)]; omega
      have a1 : mIn (nI j) 6 = true := mIn_nI (by omega) (by omega)
      have a2 : (nI j).toNatClampNeg = j := nI_clamp (by omega)
      rw [w108_2]
      simp only [w108_3, w108_5, g1, ↓reduceIte, w108_8, w108_9, w108_12, w108_13, w108_14, a1, a2, w108_15, w108_18, nI_1]
      refine ih _ (fQ_t f (fun a x => by rw [mU_f (by omega)])) ?_
      intro i hi
      by_cases e : i = j
      · subst e; exact mU_s _ _ _ _
      · rw [mU_k e]; exact t i (by omega)
    · intro I' f t
      have g1 : 6 ≤ nI 6 := by decide
      rw [w108_2]
      simp only [w108_3, w108_5, g1, ↓reduceIte, w108_21, w108_22, w108_25, w108_26, w108_29, s165, c59 s165 s163, ↓reduceIte, Option.toList_some, Option.toList_none, List.cons_append, List.nil_append, Int32.reduceAdd, Int32.reduceLT, Int32.reduceLE, Int32.reduceToNatClampNeg, w108_32, w108_33]
      have L : ∀ k, k ≤ n → ∀ (I' : Nat → Nat → Int32) (v3 v4 : Value), fQ I I' → mRw I' 165 = sB η ρ k → (∀ j, j < η.2.1 → I' 171 j = bC η ρ k j) → WP (d + 5) 108 34 [.ref 7, .int (nI n), .int (nI k), v3, v4] [] (mHh xL I' J (mRf o o rr)) Q := by
        refine iter_dn ?_ ?_
        · intro k hk1 ih I' v3 v4 f r t
          have h1 : ¬ nI n ≤ nI k := nI_ge hk1 (by omega)
          obtain ⟨ok, -⟩ := sB_ok hk ho e5 k (by omega)
          rw [w108_34]
          simp only [w108_35, w108_36, h1, ↓reduceIte, w108_39, w108_40, w108_43, w108_44, w108_47, w108_48, w108_51, w108_52, w108_55]
          refine c4 s165 hk (fQ_B f hb0).2.1 r ok ?_
          intro I2 f2 _
          simp only [↓reduceIte, Option.toList_some, Option.toList_none, List.cons_append, List.nil_append, Int32.reduceAdd, Int32.reduceLT, Int32.reduceLE, Int32.reduceToNatClampNeg, w108_58]
          refine c16 s165 hk (fQ_B (fQ_t f (fX_q f2)) hb0).2.1 (fX_r s165 f2 r) ok _ ?_
          intro I3 f3 r3
          simp only [↓reduceIte, Option.toList_some, Option.toList_none, List.cons_append, List.nil_append, Int32.reduceAdd, Int32.reduceLT, Int32.reduceLE, Int32.reduceToNatClampNeg, w108_61, w108_62, w108_63]
          have e171 : I3 171 = I' 171 := by rw [f3 171 (by decide) (by decide) (by decide) (by decide) (by decide), f2 171 (by decide) (by decide) (by decide)]
          have M : ∀ j, j ≤ η.2.1 → ∀ (I' : Nat → Nat → Int32), fQ I I' → mRw I' 165 = sB η ρ (k + 1) → (∀ i, i < η.2.1 → I' 171 i = bC η ρ (if i < j then k + 1 else k) i) → WP (d + 5) 108 65 [.ref 7, .int (nI n), .int (nI k), .int (sDn η (sB η ρ k) (sMrk η (sB η ρ k))), .int (nI j)] [] (mHh xL I' J (mRf o o rr)) Q := by
            refine iter_dn ?_ ?_
            · intro j hj ih2 I' f r t
              have g1 : ¬ nI η.2.1 ≤ nI j := nI_ge hj (by omega)
              have a1 : mIn (nI j) 6 = true := mIn_nI (by omega) (by omega)
              have a2 : (nI j).toNatClampNeg = j := nI_clamp (by omega)
              have e0 : I' 171 j = bC η ρ k j := by rw [t j hj, if_neg (by omega)]
              rw [w108_65]
              simp only [w108_67, w108_68, w108_71, hHo, (fQ_B f hb0).2.1.2.2.1, w108_74, g1, ↓reduceIte, w108_77, w108_78, w108_81, w108_83, w108_84, w108_85, w108_86, w108_88, w108_89, w108_90, w108_91, w108_92, a1, a2, e0, dn_val hk ok _ hj, w108_93, w108_96, nI_1]
              refine ih2 _ (fQ_t f (fun a x => by rw [mU_f (by omega)])) (mRw_keep (mU_f (by decide)) (mU_f (by decide)) r) ?_
              intro i hi
              by_cases e : i = j
              · subst e; rw [mU_s, if_pos (by omega)]; rfl
              · rw [mU_k e, t i hi]
                by_cases e2 : i < j
                · rw [if_pos e2, if_pos (by omega)]
                · rw [if_neg e2, if_neg (by omega)]
            · intro I' f r t
              have g1 : nI η.2.1 ≤ nI η.2.1 := nI_le (Nat.le_refl _) (by omega)
              rw [w108_65]
              simp only [w108_67, w108_68, w108_71, hHo, (fQ_B f hb0).2.1.2.2.1, w108_74, g1, ↓reduceIte, w108_99, w108_102, nI_1]
              exact ih I' _ _ f r (fun i hi => by rw [t i hi, if_pos hi])
          exact M 0 (by omega) I3 (fQ_t (fQ_t f (fX_q f2)) (fA_q f3)) r3 (fun i hi => by rw [e171, t i hi, if_neg (by omega)])
        · intro I' v3 v4 f r t
          have h1 : nI n ≤ nI n := nI_le (Nat.le_refl _) (by omega)
          rw [w108_34]
          simp only [w108_35, w108_36, h1, ↓reduceIte, w108_105]
          exact hQ I' f t
      exact L 0 (by omega) _ _ _ (fQ_t f fCp_q) (by rw [mRw_cp s165 s163]; exact (fQ_B f hb0).2.2.1) (fun j hj => by rw [mCp_o (by decide) (by decide)]; exact t j (by omega))
  exact Z 0 (by omega) I fQ_0 (fun i hi => absurd hi (by omega))
theorem c107 (hb : xB I o η ρ) (n w : Int32) (hQ : ∀ I', fQ I I' → Q (some (.int (q_busiest η ρ n w))) (mHh xL I' J (mRf o o rr))) : WP (d + 6) 107 0 [.ref 7, .int n, .int w, mDum, mDum] [] (mHh xL I J (mRf o o rr)) Q := by
  have hb0 := hb
  obtain ⟨hk, hh, hr, ho, m, hm, e5⟩ := hb
  have hn6 := hk.2.1
  have hHo := hh.1
  simp only [w107_0, w107_1, w107_2, w107_5, c95, ↓reduceIte, Option.toList_some, Option.toList_none, List.cons_append, List.nil_append, Int32.reduceAdd, Int32.reduceLT, Int32.reduceLE, Int32.reduceToNatClampNeg, w107_8, q_busiest] at hQ ⊢
  by_cases h : sW n 0 200 = true
  · by_cases h' : sW w 0 1 = true
    · rw [h, h'] at hQ
      obtain ⟨n, -, hn, rfl⟩ := (sW_iff (a := 0) (b := 200) rfl rfl).1 h
      have ec : (nI n).toNatClampNeg = n := nI_clamp (by omega)
      rw [ec] at hQ
      simp only [sB_t h, sB_t h', o01, ↓reduceIte, w107_11, w107_12, w107_13, w107_14, c95, ↓reduceIte, Option.toList_some, Option.toList_none, List.cons_append, List.nil_append, Int32.reduceAdd, Int32.reduceLT, Int32.reduceLE, Int32.reduceToNatClampNeg, w107_17, w107_22, w107_23, w107_26, hHo, hh.2.2.1, w107_29, Bool.and_self] at hQ ⊢
      by_cases h0 : η.2.1 = 0
      · have e : nI η.2.1 = 0 := by rw [h0]; rfl
        rw [if_pos h0] at hQ
        simp only [e, ↓reduceIte, w107_32, w107_34]
        exact hQ I fQ_0
      · have e : ¬ nI η.2.1 = 0 := nI_ne0 (by omega) (by omega)
        rw [if_neg h0] at hQ
        simp only [e, ↓reduceIte, w107_35, w107_36, w107_37]
        refine c108 hb0 hn ?_
        intro I1 f1 t
        have hD := (fQ_B f1 hb0).2.1.2.2.1
        simp only [↓reduceIte, Option.toList_some, Option.toList_none, List.cons_append, List.nil_append, Int32.reduceAdd, Int32.reduceLT, Int32.reduceLE, Int32.reduceToNatClampNeg, w107_40, w107_41, w107_42, w107_43]
        have key : ∀ k, k ≤ η.2.1 - 1 → WP (d + 6) 107 45 [.ref 7, .int (nI n), .int w, .int (nI (tW (bC η ρ n) k)), .int (nI (k + 1))] [] (mHh xL I1 J (mRf o o rr)) Q := by
          refine iter_dn ?_ ?_
          · intro k hk1 ih
            have g := tW_le (bC η ρ n) k
            have h1 : ¬ nI η.2.1 ≤ nI (k + 1) := nI_ge (by omega) (by omega)
            have h2 : mIn (nI (k + 1)) 6 = true := mIn_nI (by omega) (by omega)
            have h3 : (nI (k + 1)).toNatClampNeg = k + 1 := nI_clamp (by omega)
            have h4 : mIn (nI (tW (bC η ρ n) k)) 6 = true := mIn_nI (by omega) (by omega)
            have h5 : (nI (tW (bC η ρ n) k)).toNatClampNeg = tW (bC η ρ n) k := nI_clamp (by omega)
            rw [tW] at ih
            rw [w107_45]
            simp only [w107_0, w107_1, w107_2, w107_5, w107_8, w107_11, w107_12, w107_13, w107_14, w107_17, w107_20, w107_21, w107_22, w107_23, w107_26, w107_29, w107_32, w107_34, w107_35, w107_36, w107_37, w107_40, w107_41, w107_42, w107_43, w107_47, w107_48, w107_51, w107_54, w107_57, w107_58, w107_61, w107_63, w107_64, w107_65, w107_68, w107_69, w107_70, w107_73, w107_75, w107_76, w107_79, w107_82, w107_83, w107_86, w107_87, w107_90, w107_91, w107_94, w107_95, w107_96, hHo, hD, h1, h2, h3, h4, h5, t _ (show k + 1 < η.2.1 by omega), t _ (show tW (bC η ρ n) k < η.2.1 by omega), ↓reduceIte]
            by_cases hc : bC η ρ n (tW (bC η ρ n) k) < bC η ρ n (k + 1)
            · rw [if_pos hc] at ih
              simp only [i_lt hc, ↓reduceIte, w107_0, w107_1, w107_2, w107_5, w107_8, w107_11, w107_12, w107_13, w107_14, w107_17, w107_20, w107_21, w107_22, w107_23, w107_26, w107_29, w107_32, w107_34, w107_35, w107_36, w107_37, w107_40, w107_41, w107_42, w107_43, w107_47, w107_48, w107_51, w107_54, w107_57, w107_58, w107_61, w107_63, w107_64, w107_65, w107_68, w107_69, w107_70, w107_73, w107_75, w107_76, w107_79, w107_82, w107_83, w107_86, w107_87, w107_90, w107_91, w107_94, w107_95, w107_96, nI_1]
              exact ih
            · rw [if_neg hc] at ih
              simp only [i_nlt hc, ↓reduceIte, w107_0, w107_1, w107_2, w107_5, w107_8, w107_11, w107_12, w107_13, w107_14, w107_17, w107_20, w107_21, w107_22, w107_23, w107_26, w107_29, w107_32, w107_34, w107_35, w107_36, w107_37, w107_40, w107_41, w107_42, w107_43, w107_47, w107_48, w107_51, w107_54, w107_57, w107_58, w107_61, w107_63, w107_64, w107_65, w107_68, w107_69, w107_70, w107_73, w107_75, w107_76, w107_79, w107_82, w107_83, w107_86, w107_87, w107_90, w107_91, w107_94, w107_95, w107_96, nI_1]
              exact ih
          · have g := tW_le (bC η ρ n) (η.2.1 - 1)
            have h1 : nI η.2.1 ≤ nI (η.2.1 - 1 + 1) := nI_le (by omega) (by omega)
            have h4 : mIn (nI (tW (bC η ρ n) (η.2.1 - 1))) 6 = true := mIn_nI (by omega) (by omega)
            have h5 : (nI (tW (bC η ρ n) (η.2.1 - 1))).toNatClampNeg = tW (bC η ρ n) (η.2.1 - 1) := nI_clamp (by omega)
            rw [w107_45]
            simp only [w107_0, w107_1, w107_2, w107_5, w107_8, w107_11, w107_12, w107_13, w107_14, w107_17, w107_20, w107_21, w107_22, w107_23, w107_26, w107_29, w107_32, w107_34, w107_35, w107_36, w107_37, w107_40, w107_41, w107_42, w107_43, w107_47, w107_48, w107_51, w107_54, w107_57, w107_58, w107_61, w107_63, w107_64, w107_65, w107_68, w107_69, w107_70, w107_73, w107_75, w107_76, w107_79, w107_82, w107_83, w107_86, w107_87, w107_90, w107_91, w107_94, w107_95, w107_96, hHo, hD, h1, h4, h5, t _ (show tW (bC η ρ n) (η.2.1 - 1) < η.2.1 by omega), ↓reduceIte]
            by_cases hw : w = 0
            · rw [if_pos hw] at hQ
              simp only [hw, ↓reduceIte]
              exact hQ I1 f1
            · rw [if_neg hw] at hQ
              simp only [hw, ↓reduceIte]
              exact hQ I1 f1
        exact key 0 (by omega)
    · have h2 : sW w 0 1 = false := by simpa using h'
      rw [h2, Bool.and_false] at hQ
      simp only [sB_t h, sB_f h2, o01, ↓reduceIte, w107_11, w107_12, w107_13, w107_14, c95, ↓reduceIte, Option.toList_some, Option.toList_none, List.cons_append, List.nil_append, Int32.reduceAdd, Int32.reduceLT, Int32.reduceLE, Int32.reduceToNatClampNeg, w107_17, w107_20, w107_21]
      exact hQ I fQ_0
  · have h2 : sW n 0 200 = false := by simpa using h
    rw [h2, Bool.false_and] at hQ
    simp only [sB_f h2, ↓reduceIte, w107_20, w107_21]
    exact hQ I fQ_0
end QRN
