/-! Queries: changed of the model. -/
section QRG
variable {d : Nat} {xL : Nat} {I : Nat → Nat → Int32} {J : Nat → Nat → Int64} {rr : Nat} {Q : Option Value → mHp → Prop} {s o : Nat} {η : mHs} {ρ : Nat → Int32}
theorem c224 (hb : zB I s η ρ) {rc rx : Nat} (v n : Int32) (hQ : ∀ I', fB I I' → Q (some (.int (q_changed η ρ v n))) (mHh xL I' J (mRf rc rx rr))) : WP (d + 8) 224 0 [.ref 180, .int v, .int n, mDum, mDum] [] (mHh xL I J (mRf rc rx rr)) Q := by
  have hb0 := hb
  obtain ⟨hk, hh, hn, ho, m, hm, e5⟩ := hb
  have hn5 := hk.1
  have hs := hh.1
  have s1 : mIn (nI s) 2 = true := mIn_nI (by omega) (by omega)
  have s2 : (nI s).toNatClampNeg = s := nI_clamp (by omega)
  simp only [w224_0, w224_1, c203, ↓reduceIte, Option.toList_some, Option.toList_none, List.cons_append, List.nil_append, Int32.reduceAdd, Int32.reduceLT, Int32.reduceLE, Int32.reduceToNatClampNeg, w224_4, q_changed] at hQ ⊢
  by_cases hv : isM v = true
  · by_cases h : sW n 0 60 = true
    · rw [hv, h] at hQ
      obtain ⟨n, -, hn', rfl⟩ := (sW_iff (a := 0) (b := 60) rfl rfl).1 h
      have ec : (nI n).toNatClampNeg = n := nI_clamp (by omega)
      rw [ec] at hQ
      simp only [sB_t hv, sB_t h, o01, ↓reduceIte, w224_0, w224_1, w224_4, w224_7, w224_8, w224_11, w224_14, w224_15, w224_16, w224_17, w224_19, w224_20, w224_23, w224_24, w224_27, w224_28, w224_31, w224_32, w224_33, w224_34, w224_38, w224_39, w224_42, w224_43, w224_46, w224_47, w224_50, w224_51, w224_54, w224_55, w224_58, w224_59, w224_60, w224_63, w224_65, w224_66, w224_67, w224_68, w224_71, w224_73, w224_74, w224_77, w224_78, w224_79, w224_80, w224_81, w224_82, w224_85, w224_86, w224_89, w224_91, w224_92, w224_93, w224_95, w224_96, w224_97, w224_100, w224_103, w224_106, w224_109, w224_111, c215, ↓reduceIte, Option.toList_some, Option.toList_none, List.cons_append, List.nil_append, Int32.reduceAdd, Int32.reduceLT, Int32.reduceLE, Int32.reduceToNatClampNeg]
      have L : ∀ p, p ≤ η.1 → (∀ I', fB I I' → Q (some (.int (fin3 (fo (cI η ρ v n) (η.1 - p) p)))) (mHh xL I' J (mRf rc rx rr))) → ∀ (I' : Nat → Nat → Int32) (v4 : Value), fB I I' → WP (d + 8) 224 18 [.ref 180, .int v, .int (nI n), .int (nI p), v4] [] (mHh xL I' J (mRf rc rx rr)) Q := by
        refine iter_dn ?_ ?_
        · intro p hp ih hF I' v4 f
          have b1 := fB_B f hb0
          have h1 : ¬ nI η.1 ≤ nI p := nI_ge hp (by omega)
          rw [show η.1 - p = (η.1 - (p + 1)) + 1 by omega, fo] at hF
          rw [w224_18]
          simp only [w224_0, w224_1, w224_4, w224_7, w224_8, w224_11, w224_14, w224_15, w224_16, w224_17, w224_19, w224_20, w224_23, w224_24, w224_27, w224_28, w224_31, w224_32, w224_33, w224_34, w224_38, w224_39, w224_42, w224_43, w224_46, w224_47, w224_50, w224_51, w224_54, w224_55, w224_58, w224_59, w224_60, w224_63, w224_65, w224_66, w224_67, w224_68, w224_71, w224_73, w224_74, w224_77, w224_78, w224_79, w224_80, w224_81, w224_82, w224_85, w224_86, w224_89, w224_91, w224_92, w224_93, w224_95, w224_96, w224_97, w224_100, w224_103, w224_106, w224_109, w224_111, b1.2.1.2.1, s1, s2, b1.2.1.2.2.1, h1, ↓reduceIte, nI_1]
          have M : ∀ q, q ≤ η.1 → p < q → (∀ I', fB I I' → Q (some (.int (fin3 (match (fnd (cP η ρ v n p) (η.1 - q) q).map (fun q => 10 * nI p + nI q) with | some x => some x | none => fo (cI η ρ v n) (η.1 - (p + 1)) (p + 1))))) (mHh xL I' J (mRf rc rx rr))) → ∀ (I' : Nat → Nat → Int32), fB I I' → WP (d + 8) 224 36 [.ref 180, .int v, .int (nI n), .int (nI p), .int (nI q)] [] (mHh xL I' J (mRf rc rx rr)) Q := by
            refine iter_dn ?_ ?_
            · intro q hq ih2 hpq hF2 I' f
              have b1 := fB_B f hb0
              have g1 : ¬ nI η.1 ≤ nI q := nI_ge hq (by omega)
              have a1 : mIn (nI p) 8 = true := mIn_nI (by omega) (by omega)
              have a2 : (nI p).toNatClampNeg = p := nI_clamp (by omega)
              have a3 : mIn (nI q) 8 = true := mIn_nI (by omega) (by omega)
              have a4 : (nI q).toNatClampNeg = q := nI_clamp (by omega)
              obtain ⟨ok, e5'⟩ := rX_ok ho hn5 hp hq
              rw [show η.1 - q = (η.1 - (q + 1)) + 1 by omega, fnd] at hF2
              rw [w224_36]
              simp only [w224_0, w224_1, w224_4, w224_7, w224_8, w224_11, w224_14, w224_15, w224_16, w224_17, w224_19, w224_20, w224_23, w224_24, w224_27, w224_28, w224_31, w224_32, w224_33, w224_34, w224_38, w224_39, w224_42, w224_43, w224_46, w224_47, w224_50, w224_51, w224_54, w224_55, w224_58, w224_59, w224_60, w224_63, w224_65, w224_66, w224_67, w224_68, w224_71, w224_73, w224_74, w224_77, w224_78, w224_79, w224_80, w224_81, w224_82, w224_85, w224_86, w224_89, w224_91, w224_92, w224_93, w224_95, w224_96, w224_97, w224_100, w224_103, w224_106, w224_109, w224_111, b1.2.1.2.1, s1, s2, b1.2.1.2.2.1, g1, ↓reduceIte]
              refine c204 b1.2.1 b1.2.2.1 ?_
              intro I1 f1 r1 l1
              have n1 : mNw I1 ρ := fC_n f1 b1.2.2.1
              have e1 : I1 212 q = ρ q := mNw_at n1 (by omega)
              have e2 : ∀ x, mU I1 213 p x 212 p = ρ p := fun x => by rw [mU_a (by decide)]; exact mNw_at n1 (by omega)
              have q2 : fB I (mU (mU I1 213 p (ρ q)) 213 q (ρ p)) := fB_w (fB_w (fB_t f (fC_B f1)))
              simp only [↓reduceIte, Option.toList_some, Option.toList_none, List.cons_append, List.nil_append, Int32.reduceAdd, Int32.reduceLT, Int32.reduceLE, Int32.reduceToNatClampNeg, w224_0, w224_1, w224_4, w224_7, w224_8, w224_11, w224_14, w224_15, w224_16, w224_17, w224_19, w224_20, w224_23, w224_24, w224_27, w224_28, w224_31, w224_32, w224_33, w224_34, w224_38, w224_39, w224_42, w224_43, w224_46, w224_47, w224_50, w224_51, w224_54, w224_55, w224_58, w224_59, w224_60, w224_63, w224_65, w224_66, w224_67, w224_68, w224_71, w224_73, w224_74, w224_77, w224_78, w224_79, w224_80, w224_81, w224_82, w224_85, w224_86, w224_89, w224_91, w224_92, w224_93, w224_95, w224_96, w224_97, w224_100, w224_103, w224_106, w224_109, w224_111, a1, a2, a3, a4, e1, e2]
              refine c216s (fB_h q2 hh) hk (ρ := rX ρ p q) (mRr_u (by omega) (mRr_u (by omega) r1)) ok (by rw [mU_f (by decide), mU_f (by decide)]; exact l1) (by rw [e5']; exact e5) (by omega) ?_
              intro I2 f2 _
              have q3 := fB_t q2 (fH_B f2)
              simp only [↓reduceIte, Option.toList_some, Option.toList_none, List.cons_append, List.nil_append, Int32.reduceAdd, Int32.reduceLT, Int32.reduceLE, Int32.reduceToNatClampNeg, w224_0, w224_1, w224_4, w224_7, w224_8, w224_11, w224_14, w224_15, w224_16, w224_17, w224_19, w224_20, w224_23, w224_24, w224_27, w224_28, w224_31, w224_32, w224_33, w224_34, w224_38, w224_39, w224_42, w224_43, w224_46, w224_47, w224_50, w224_51, w224_54, w224_55, w224_58, w224_59, w224_60, w224_63, w224_65, w224_66, w224_67, w224_68, w224_71, w224_73, w224_74, w224_77, w224_78, w224_79, w224_80, w224_81, w224_82, w224_85, w224_86, w224_89, w224_91, w224_92, w224_93, w224_95, w224_96, w224_97, w224_100, w224_103, w224_106, w224_109, w224_111]
              by_cases hc : sMrk η (sB η (rX ρ p q) n) = v
              · have hc' : cP η ρ v n p q = true := decide_eq_true hc
                rw [if_pos hc'] at hF2
                simp only [hc, ↓reduceIte, w224_0, w224_1, w224_4, w224_7, w224_8, w224_11, w224_14, w224_15, w224_16, w224_17, w224_19, w224_20, w224_23, w224_24, w224_27, w224_28, w224_31, w224_32, w224_33, w224_34, w224_38, w224_39, w224_42, w224_43, w224_46, w224_47, w224_50, w224_51, w224_54, w224_55, w224_58, w224_59, w224_60, w224_63, w224_65, w224_66, w224_67, w224_68, w224_71, w224_73, w224_74, w224_77, w224_78, w224_79, w224_80, w224_81, w224_82, w224_85, w224_86, w224_89, w224_91, w224_92, w224_93, w224_95, w224_96, w224_97, w224_100, w224_103, w224_106, w224_109, w224_111]
                exact hF2 I2 q3
              · have hc' : ¬ cP η ρ v n p q = true := by rw [cP, decide_eq_true_eq]; exact hc
                rw [if_neg hc'] at hF2
                simp only [hc, ↓reduceIte, w224_0, w224_1, w224_4, w224_7, w224_8, w224_11, w224_14, w224_15, w224_16, w224_17, w224_19, w224_20, w224_23, w224_24, w224_27, w224_28, w224_31, w224_32, w224_33, w224_34, w224_38, w224_39, w224_42, w224_43, w224_46, w224_47, w224_50, w224_51, w224_54, w224_55, w224_58, w224_59, w224_60, w224_63, w224_65, w224_66, w224_67, w224_68, w224_71, w224_73, w224_74, w224_77, w224_78, w224_79, w224_80, w224_81, w224_82, w224_85, w224_86, w224_89, w224_91, w224_92, w224_93, w224_95, w224_96, w224_97, w224_100, w224_103, w224_106, w224_109, w224_111, nI_1]
                exact ih2 (by omega) hF2 I2 q3
            · intro hpq hF2 I' f
              have b1 := fB_B f hb0
              have g1 : nI η.1 ≤ nI η.1 := nI_le (Nat.le_refl _) (by omega)
              rw [Nat.sub_self, fnd] at hF2
              rw [w224_36]
              simp only [w224_0, w224_1, w224_4, w224_7, w224_8, w224_11, w224_14, w224_15, w224_16, w224_17, w224_19, w224_20, w224_23, w224_24, w224_27, w224_28, w224_31, w224_32, w224_33, w224_34, w224_38, w224_39, w224_42, w224_43, w224_46, w224_47, w224_50, w224_51, w224_54, w224_55, w224_58, w224_59, w224_60, w224_63, w224_65, w224_66, w224_67, w224_68, w224_71, w224_73, w224_74, w224_77, w224_78, w224_79, w224_80, w224_81, w224_82, w224_85, w224_86, w224_89, w224_91, w224_92, w224_93, w224_95, w224_96, w224_97, w224_100, w224_103, w224_106, w224_109, w224_111, b1.2.1.2.1, s1, s2, b1.2.1.2.2.1, g1, ↓reduceIte, nI_1]
              exact ih hF2 I' _ f
          exact M (p + 1) (by omega) (by omega) hF I' f
        · intro hF I' v4 f
          have b1 := fB_B f hb0
          have h1 : nI η.1 ≤ nI η.1 := nI_le (Nat.le_refl _) (by omega)
          rw [Nat.sub_self] at hF
          rw [w224_18]
          simp only [w224_0, w224_1, w224_4, w224_7, w224_8, w224_11, w224_14, w224_15, w224_16, w224_17, w224_19, w224_20, w224_23, w224_24, w224_27, w224_28, w224_31, w224_32, w224_33, w224_34, w224_38, w224_39, w224_42, w224_43, w224_46, w224_47, w224_50, w224_51, w224_54, w224_55, w224_58, w224_59, w224_60, w224_63, w224_65, w224_66, w224_67, w224_68, w224_71, w224_73, w224_74, w224_77, w224_78, w224_79, w224_80, w224_81, w224_82, w224_85, w224_86, w224_89, w224_91, w224_92, w224_93, w224_95, w224_96, w224_97, w224_100, w224_103, w224_106, w224_109, w224_111, b1.2.1.2.1, s1, s2, b1.2.1.2.2.1, h1, ↓reduceIte]
          exact hF I' f
      exact L 0 (by omega) hQ I _ fB_0
    · have h' : sW n 0 60 = false := by simpa using h
      rw [h', Bool.and_false] at hQ
      simp only [sB_t hv, sB_f h', o01, ↓reduceIte, w224_0, w224_1, w224_4, w224_7, w224_8, w224_11, w224_14, w224_15, w224_16, w224_17, w224_19, w224_20, w224_23, w224_24, w224_27, w224_28, w224_31, w224_32, w224_33, w224_34, w224_38, w224_39, w224_42, w224_43, w224_46, w224_47, w224_50, w224_51, w224_54, w224_55, w224_58, w224_59, w224_60, w224_63, w224_65, w224_66, w224_67, w224_68, w224_71, w224_73, w224_74, w224_77, w224_78, w224_79, w224_80, w224_81, w224_82, w224_85, w224_86, w224_89, w224_91, w224_92, w224_93, w224_95, w224_96, w224_97, w224_100, w224_103, w224_106, w224_109, w224_111, c215, ↓reduceIte, Option.toList_some, Option.toList_none, List.cons_append, List.nil_append, Int32.reduceAdd, Int32.reduceLT, Int32.reduceLE, Int32.reduceToNatClampNeg]
      exact hQ I fB_0
  · have h' : isM v = false := by simpa using hv
    rw [h', Bool.false_and] at hQ
    simp only [sB_f h', ↓reduceIte, w224_0, w224_1, w224_4, w224_7, w224_8, w224_11, w224_14, w224_15, w224_16, w224_17, w224_19, w224_20, w224_23, w224_24, w224_27, w224_28, w224_31, w224_32, w224_33, w224_34, w224_38, w224_39, w224_42, w224_43, w224_46, w224_47, w224_50, w224_51, w224_54, w224_55, w224_58, w224_59, w224_60, w224_63, w224_65, w224_66, w224_67, w224_68, w224_71, w224_73, w224_74, w224_77, w224_78, w224_79, w224_80, w224_81, w224_82, w224_85, w224_86, w224_89, w224_91, w224_92, w224_93, w224_95, w224_96, w224_97, w224_100, w224_103, w224_106, w224_109, w224_111]
    exact hQ I fB_0
end QRG
