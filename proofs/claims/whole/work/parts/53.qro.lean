/-! Queries: busiest of the model. -/
section QRO
variable {d : Nat} {xL : Nat} {I : Nat → Nat → Int32} {J : Nat → Nat → Int64} {rr : Nat} {Q : Option Value → mHp → Prop} {s o : Nat} {η : mHs} {ρ : Nat → Int32}
theorem fB_d {I I' : Nat → Nat → Int32} {w : Nat} {x : Int32} (h : fB I I') : fB I (mU I' 217 w x) := ⟨fun a p => by rw [mU_f (by omega), h.1 a p], fun k x y z => by rw [mU_f (by decide), h.2 k x y z]⟩
theorem c220 (hb : zB I s η ρ) {rc rx : Nat} (n w : Int32) (hQ : ∀ I', fB I I' → Q (some (.int (q_busiest η ρ n w))) (mHh xL I' J (mRf rc rx rr))) : WP (d + 6) 220 0 [.ref 180, .int n, .int w, mDum, mDum, mDum] [] (mHh xL I J (mRf rc rx rr)) Q := by
  have hb0 := hb
  obtain ⟨hk, hh, hr, ho, m, hm, e5⟩ := hb
  have hn6 := hk.2.1
  have hs := hh.1
  have s1 : mIn (nI s) 2 = true := mIn_nI (by omega) (by omega)
  have s2 : (nI s).toNatClampNeg = s := nI_clamp (by omega)
  have e9 : (decide ((0 : Int32) ≤ w) && decide (w ≤ 1)) = sW w 0 1 := rfl
  have m2 : ((-2 : Int32) < 0) = True := by simp
  simp only [w220_0, w220_1, c195, ↓reduceIte, Option.toList_some, Option.toList_none, List.cons_append, List.nil_append, Int32.reduceAdd, Int32.reduceLT, Int32.reduceLE, Int32.reduceToNatClampNeg, w220_4, q_busiest] at hQ ⊢
  by_cases h : sW n 0 200 = true
  · by_cases h' : sW w 0 1 = true
    · rw [h, h'] at hQ
      obtain ⟨n, -, hn, rfl⟩ := (sW_iff (a := 0) (b := 200) rfl rfl).1 h
      have ec : (nI n).toNatClampNeg = n := nI_clamp (by omega)
      rw [ec] at hQ
      simp only [sB_t h, sB_t h', o01, ↓reduceIte, w220_7, w220_8, w220_9, w220_10, c170, e9, ↓reduceIte, Option.toList_some, Option.toList_none, List.cons_append, List.nil_append, Int32.reduceAdd, Int32.reduceLT, Int32.reduceLE, Int32.reduceToNatClampNeg, w220_13, w220_18, w220_19, Bool.and_self] at hQ ⊢
      refine c204 hh hr ?_
      intro I1 f1 r1 l1
      simp only [↓reduceIte, Option.toList_some, Option.toList_none, List.cons_append, List.nil_append, Int32.reduceAdd, Int32.reduceLT, Int32.reduceLE, Int32.reduceToNatClampNeg, w220_22, w220_23]
      have Z : ∀ j, j ≤ 6 → ∀ (I' : Nat → Nat → Int32), fB I I' → mRr I' ρ → I' 180 52 = 1 → (∀ i, i < j → I' 217 i = 0) → WP (d + 6) 220 24 [.ref 180, .int (nI n), .int w, .int (nI j), mDum, mDum] [] (mHh xL I' J (mRf rc rx rr)) Q := by
        refine iter_dn ?_ ?_
        · intro j hj ih I' f r l t
          have g1 : ¬ 6 ≤ nI j := by rw [ni_le 6 (by decide) (by omega)]; omega
          have a1 : mIn (nI j) 6 = true := mIn_nI (by omega) (by omega)
          have a2 : (nI j).toNatClampNeg = j := nI_clamp (by omega)
          rw [w220_24]
          simp only [w220_25, w220_27, g1, ↓reduceIte, w220_30, w220_31, w220_34, w220_35, w220_36, a1, a2, w220_37, w220_40, nI_1]
          refine ih _ (fB_d f) (mRr_o (mU_f (by decide)) r) (by rw [mU_f (by decide)]; exact l) ?_
          intro i hi
          by_cases e : i = j
          · subst e; exact mU_s _ _ _ _
          · rw [mU_k e]; exact t i (by omega)
        · intro I' f r l t
          have g1 : 6 ≤ nI 6 := by decide
          rw [w220_24]
          simp only [w220_25, w220_27, g1, ↓reduceIte, w220_43, w220_44]
          have L : ∀ k, k ≤ n → ∀ (I' : Nat → Nat → Int32) (v4 v5 : Value), fB I I' → mRr I' (sB η ρ k) → I' 180 52 = 1 → (∀ j, j < η.2.1 → I' 217 j = bC η ρ k j) → WP (d + 6) 220 45 [.ref 180, .int (nI n), .int w, .int (nI k), v4, v5] [] (mHh xL I' J (mRf rc rx rr)) Q := by
            refine iter_dn ?_ ?_
            · intro k hk1 ih I' v4 v5 f r l t
              have h1 : ¬ nI n ≤ nI k := nI_ge hk1 (by omega)
              obtain ⟨ok, -⟩ := sB_ok hk ho e5 k (by omega)
              rw [w220_45]
              simp only [w220_46, w220_47, h1, ↓reduceIte, w220_50, w220_51, w220_52]
              refine c172 (fB_h f hh) r ?_
              intro I2 f2
              have l2 : I2 180 52 = 1 := by rw [f2.2 52 (by decide)]; exact l
              have e217 : I2 217 = I' 217 := f2.1 217 (by decide) (by decide) (by decide)
              simp only [↓reduceIte, Option.toList_some, Option.toList_none, List.cons_append, List.nil_append, Int32.reduceAdd, Int32.reduceLT, Int32.reduceLE, Int32.reduceToNatClampNeg, w220_55, c219 (fM_h f2 (fB_h f hh)) hk (fM_r f2 r) ok, w220_58, w220_60, w220_61]
              have M : ∀ j, j ≤ 6 → ∀ (I' : Nat → Nat → Int32), fB I I' → mRr I' (sB η ρ k) → I' 180 52 = 1 → (∀ i, i < η.2.1 → I' 217 i = bC η ρ (if i < j then k + 1 else k) i) → WP (d + 6) 220 63 [.ref 180, .int (nI n), .int w, .int (nI k), .int (sDn η (sB η ρ k) (sMrk η (sB η ρ k))), .int (nI j)] [] (mHh xL I' J (mRf rc rx rr)) Q := by
                refine iter_dn ?_ ?_
                · intro j hj ih2 I' f r l t
                  have g1 : ¬ 6 ≤ nI j := by rw [ni_le 6 (by decide) (by omega)]; omega
                  have a1 : mIn (nI j) 6 = true := mIn_nI (by omega) (by omega)
                  have a2 : (nI j).toNatClampNeg = j := nI_clamp (by omega)
                  rw [w220_63]
                  simp only [w220_65, w220_67, g1, ↓reduceIte, w220_70, w220_71, w220_74, w220_76, w220_77, w220_78, w220_80, w220_82, w220_83, w220_84, w220_85, w220_86, a1, a2, w220_87, w220_90, nI_1]
                  refine ih2 _ (fB_d f) (mRr_o (mU_f (by decide)) r) (by rw [mU_f (by decide)]; exact l) ?_
                  intro i hi
                  by_cases e : i = j
                  · subst e; rw [mU_s, if_pos (by omega), dn_val hk ok _ hi, t i hi, if_neg (by omega)]; rfl
                  · rw [mU_k e, t i hi]
                    by_cases e2 : i < j
                    · rw [if_pos e2, if_pos (by omega)]
                    · rw [if_neg e2, if_neg (by omega)]
                · intro I' f r l t
                  have g1 : 6 ≤ nI 6 := by decide
                  rw [w220_63]
                  simp only [w220_65, w220_67, g1, ↓reduceIte, w220_93, w220_94]
                  refine c197s (fB_h f hh) hk r ok l ?_
                  intro I3 f3 r3
                  have e2 : I3 217 = I' 217 := f3.1 217 (by decide) (by decide) (by decide) (by decide) (by decide)
                  simp only [↓reduceIte, Option.toList_some, Option.toList_none, List.cons_append, List.nil_append, Int32.reduceAdd, Int32.reduceLT, Int32.reduceLE, Int32.reduceToNatClampNeg, w220_97, w220_100, nI_1]
                  exact ih I3 _ _ (fB_t f (fH_B f3)) r3 (by rw [(fH_5 f3).2]; exact l) (fun i hi => by rw [e2, t i hi, if_pos (by omega)])
              exact M 0 (by omega) I2 (fB_t f (fM_B f2)) (fM_r f2 r) l2 (fun i hi => by rw [e217, t i hi, if_neg (by omega)])
            · intro I1 v4 v5 f1 r l t
              have h1 : nI n ≤ nI n := nI_le (Nat.le_refl _) (by omega)
              have hh1 := fB_h f1 hh
              rw [w220_45]
              simp only [w220_46, w220_47, h1, ↓reduceIte, w220_103, w220_105, w220_106, w220_107]
              have key : ∀ k, k ≤ η.2.1 - 1 → 0 < η.2.1 → WP (d + 6) 220 109 [.ref 180, .int (nI n), .int w, .int (nI (tW (bC η ρ n) k)), .int (nI (k + 1)), v5] [] (mHh xL I1 J (mRf rc rx rr)) Q := by
                refine iter_dn ?_ ?_
                · intro k hk1 ih hp
                  have g := tW_le (bC η ρ n) k
                  have h1 : ¬ nI η.2.1 ≤ nI (k + 1) := nI_ge (by omega) (by omega)
                  have h2 : mIn (nI (k + 1)) 6 = true := mIn_nI (by omega) (by omega)
                  have h3 : (nI (k + 1)).toNatClampNeg = k + 1 := nI_clamp (by omega)
                  have h4 : mIn (nI (tW (bC η ρ n) k)) 6 = true := mIn_nI (by omega) (by omega)
                  have h5 : (nI (tW (bC η ρ n) k)).toNatClampNeg = tW (bC η ρ n) k := nI_clamp (by omega)
                  have h6 : ¬ nI (tW (bC η ρ n) k) < 0 := nI_pos (by omega)
                  have ih := ih hp
                  rw [tW] at ih
                  rw [w220_109]
                  simp only [w220_0, w220_1, w220_4, w220_7, w220_8, w220_9, w220_10, w220_13, w220_16, w220_17, w220_18, w220_19, w220_22, w220_23, w220_25, w220_27, w220_30, w220_31, w220_34, w220_35, w220_36, w220_37, w220_40, w220_43, w220_44, w220_46, w220_47, w220_50, w220_51, w220_52, w220_55, w220_58, w220_60, w220_61, w220_65, w220_67, w220_70, w220_71, w220_74, w220_76, w220_77, w220_78, w220_80, w220_82, w220_83, w220_84, w220_85, w220_86, w220_87, w220_90, w220_93, w220_94, w220_97, w220_100, w220_103, w220_105, w220_106, w220_107, w220_111, w220_112, w220_115, w220_116, w220_119, w220_120, w220_123, w220_124, w220_127, w220_128, w220_131, w220_133, w220_134, w220_135, w220_138, w220_139, w220_140, w220_143, w220_145, w220_146, w220_149, w220_152, w220_153, w220_156, w220_157, w220_160, w220_161, w220_164, w220_165, w220_168, w220_169, w220_170, hh1.2.1, s1, s2, hh1.2.2.2.1, h1, h2, h3, h4, h5, h6, t _ (show k + 1 < η.2.1 by omega), t _ (show tW (bC η ρ n) k < η.2.1 by omega), ↓reduceIte]
                  by_cases hc : bC η ρ n (tW (bC η ρ n) k) < bC η ρ n (k + 1)
                  · rw [if_pos hc] at ih
                    simp only [i_lt hc, ↓reduceIte, w220_0, w220_1, w220_4, w220_7, w220_8, w220_9, w220_10, w220_13, w220_16, w220_17, w220_18, w220_19, w220_22, w220_23, w220_25, w220_27, w220_30, w220_31, w220_34, w220_35, w220_36, w220_37, w220_40, w220_43, w220_44, w220_46, w220_47, w220_50, w220_51, w220_52, w220_55, w220_58, w220_60, w220_61, w220_65, w220_67, w220_70, w220_71, w220_74, w220_76, w220_77, w220_78, w220_80, w220_82, w220_83, w220_84, w220_85, w220_86, w220_87, w220_90, w220_93, w220_94, w220_97, w220_100, w220_103, w220_105, w220_106, w220_107, w220_111, w220_112, w220_115, w220_116, w220_119, w220_120, w220_123, w220_124, w220_127, w220_128, w220_131, w220_133, w220_134, w220_135, w220_138, w220_139, w220_140, w220_143, w220_145, w220_146, w220_149, w220_152, w220_153, w220_156, w220_157, w220_160, w220_161, w220_164, w220_165, w220_168, w220_169, w220_170, nI_1]
                    exact ih
                  · rw [if_neg hc] at ih
                    simp only [i_nlt hc, ↓reduceIte, w220_0, w220_1, w220_4, w220_7, w220_8, w220_9, w220_10, w220_13, w220_16, w220_17, w220_18, w220_19, w220_22, w220_23, w220_25, w220_27, w220_30, w220_31, w220_34, w220_35, w220_36, w220_37, w220_40, w220_43, w220_44, w220_46, w220_47, w220_50, w220_51, w220_52, w220_55, w220_58, w220_60, w220_61, w220_65, w220_67, w220_70, w220_71, w220_74, w220_76, w220_77, w220_78, w220_80, w220_82, w220_83, w220_84, w220_85, w220_86, w220_87, w220_90, w220_93, w220_94, w220_97, w220_100, w220_103, w220_105, w220_106, w220_107, w220_111, w220_112, w220_115, w220_116, w220_119, w220_120, w220_123, w220_124, w220_127, w220_128, w220_131, w220_133, w220_134, w220_135, w220_138, w220_139, w220_140, w220_143, w220_145, w220_146, w220_149, w220_152, w220_153, w220_156, w220_157, w220_160, w220_161, w220_164, w220_165, w220_168, w220_169, w220_170, nI_1]
                    exact ih
                · intro hp
                  have g := tW_le (bC η ρ n) (η.2.1 - 1)
                  have h1 : nI η.2.1 ≤ nI (η.2.1 - 1 + 1) := nI_le (by omega) (by omega)
                  have h4 : mIn (nI (tW (bC η ρ n) (η.2.1 - 1))) 6 = true := mIn_nI (by omega) (by omega)
                  have h5 : (nI (tW (bC η ρ n) (η.2.1 - 1))).toNatClampNeg = tW (bC η ρ n) (η.2.1 - 1) := nI_clamp (by omega)
                  have h6 : ¬ nI (tW (bC η ρ n) (η.2.1 - 1)) < 0 := nI_pos (by omega)
                  have h0 : ¬ η.2.1 = 0 := by omega
                  rw [if_neg h0] at hQ
                  rw [w220_109]
                  simp only [w220_0, w220_1, w220_4, w220_7, w220_8, w220_9, w220_10, w220_13, w220_16, w220_17, w220_18, w220_19, w220_22, w220_23, w220_25, w220_27, w220_30, w220_31, w220_34, w220_35, w220_36, w220_37, w220_40, w220_43, w220_44, w220_46, w220_47, w220_50, w220_51, w220_52, w220_55, w220_58, w220_60, w220_61, w220_65, w220_67, w220_70, w220_71, w220_74, w220_76, w220_77, w220_78, w220_80, w220_82, w220_83, w220_84, w220_85, w220_86, w220_87, w220_90, w220_93, w220_94, w220_97, w220_100, w220_103, w220_105, w220_106, w220_107, w220_111, w220_112, w220_115, w220_116, w220_119, w220_120, w220_123, w220_124, w220_127, w220_128, w220_131, w220_133, w220_134, w220_135, w220_138, w220_139, w220_140, w220_143, w220_145, w220_146, w220_149, w220_152, w220_153, w220_156, w220_157, w220_160, w220_161, w220_164, w220_165, w220_168, w220_169, w220_170, hh1.2.1, s1, s2, hh1.2.2.2.1, h1, h4, h5, h6, t _ (show tW (bC η ρ n) (η.2.1 - 1) < η.2.1 by omega), ↓reduceIte]
                  by_cases hw : w = 0
                  · rw [if_pos hw] at hQ
                    simp only [hw, ↓reduceIte]
                    exact hQ I1 f1
                  · rw [if_neg hw] at hQ
                    simp only [hw, ↓reduceIte]
                    exact hQ I1 f1
              rw [w220_109]
              by_cases h0 : η.2.1 = 0
              · have e : nI 0 ≤ 0 := by decide
                rw [if_pos h0] at hQ
                simp only [w220_0, w220_1, w220_4, w220_7, w220_8, w220_9, w220_10, w220_13, w220_16, w220_17, w220_18, w220_19, w220_22, w220_23, w220_25, w220_27, w220_30, w220_31, w220_34, w220_35, w220_36, w220_37, w220_40, w220_43, w220_44, w220_46, w220_47, w220_50, w220_51, w220_52, w220_55, w220_58, w220_60, w220_61, w220_65, w220_67, w220_70, w220_71, w220_74, w220_76, w220_77, w220_78, w220_80, w220_82, w220_83, w220_84, w220_85, w220_86, w220_87, w220_90, w220_93, w220_94, w220_97, w220_100, w220_103, w220_105, w220_106, w220_107, w220_111, w220_112, w220_115, w220_116, w220_119, w220_120, w220_123, w220_124, w220_127, w220_128, w220_131, w220_133, w220_134, w220_135, w220_138, w220_139, w220_140, w220_143, w220_145, w220_146, w220_149, w220_152, w220_153, w220_156, w220_157, w220_160, w220_161, w220_164, w220_165, w220_168, w220_169, w220_170, hh1.2.1, s1, s2, hh1.2.2.2.1, h0, e, m2, ↓reduceIte]
                exact hQ I1 f1
              · have e : ¬ nI η.2.1 ≤ 0 := nI_nle (by omega) (by omega)
                have e1 : (0 : Int32) + 1 = nI (0 + 1) := rfl
                simp only [w220_111, w220_112, w220_115, w220_116, w220_119, w220_120, hh1.2.1, s1, s2, hh1.2.2.2.1, e, m2, ↓reduceIte, w220_123, w220_124, w220_143, w220_145, w220_146, w220_149, e1]
                exact key 0 (by omega) (by omega)
          exact L 0 (by omega) I' _ _ f r l (fun j hj => t j (by omega))
      exact Z 0 (by omega) I1 (fC_B f1) r1 l1 (fun i hi => absurd hi (by omega))
    · have h2 : sW w 0 1 = false := by simpa using h'
      rw [h2, Bool.and_false] at hQ
      simp only [sB_t h, sB_f h2, o01, ↓reduceIte, w220_7, w220_8, w220_9, w220_10, c170, e9, ↓reduceIte, Option.toList_some, Option.toList_none, List.cons_append, List.nil_append, Int32.reduceAdd, Int32.reduceLT, Int32.reduceLE, Int32.reduceToNatClampNeg, w220_13, w220_16, w220_17]
      exact hQ I fB_0
  · have h2 : sW n 0 200 = false := by simpa using h
    rw [h2, Bool.false_and] at hQ
    simp only [sB_f h2, ↓reduceIte, w220_16, w220_17]
    exact hQ I fB_0
end QRO
