/-! Queries: a person. -/
def q_person (η : mHs) (ρ : Nat → Int32) (p w : Int32) : Int32 := if isP η p then (if w = 0 then ρ p.toNatClampNeg else if w = 1 then hT η 0 p.toNatClampNeg else if w = 2 then hT η 1 p.toNatClampNeg else if w = 3 then sDft η ρ p.toNatClampNeg (sMrk η ρ) else -1) else -1
theorem i_ne {x y : Int32} {n : Int} (h : ¬ x = y) (e : y.toInt = n) : x.toInt ≠ n := fun z => h (Int32.toInt_inj.1 (z.trans e.symm))
section QRH
variable {d : Nat} {xL : Nat} {I : Nat → Nat → Int32} {J : Nat → Nat → Int64} {rr : Nat} {Q : Option Value → mHp → Prop} {s o : Nat} {η : mHs} {ρ : Nat → Int32}
theorem c82 (hb : xB I o η ρ) (p w : Int32) (hQ : ∀ I', fQ I I' → Q (some (.int (q_person η ρ p w))) (mHh xL I' J (mRf o o rr))) : WP (d + 4) 82 0 [.ref 7, .int p, .int w] [] (mHh xL I J (mRf o o rr)) Q := by
  obtain ⟨hk, hh, hr, ho, -⟩ := hb
  have hn5 := hk.1
  have hHo := hh.1
  obtain ⟨-, -, k3, k4, -⟩ := st_k s163
  obtain ⟨-, k5, k7, -, -, -, -, -, -, k6, k8, -⟩ := mHo_k hHo
  simp only [w82_0, w82_1, w82_2, c83 hh, ↓reduceIte, Option.toList_some, Option.toList_none, List.cons_append, List.nil_append, Int32.reduceAdd, Int32.reduceLT, Int32.reduceLE, Int32.reduceToNatClampNeg, w82_5, q_person] at hQ ⊢
  by_cases hp : isP η p = true
  · rw [if_pos hp] at hQ
    obtain ⟨q, hq, rfl⟩ := (isP_iff hk).1 hp
    have a1 : mIn (nI q) 5 = true := mIn_nI (by omega) (by omega)
    have a2 : (nI q).toNatClampNeg = q := nI_clamp (by omega)
    rw [a2] at hQ
    simp only [sB_t hp, o01, ↓reduceIte, w82_10]
    by_cases w0 : w = 0
    · subst w0
      rw [if_pos rfl] at hQ
      simp only [w82_0, w82_1, w82_2, w82_5, w82_8, w82_9, w82_10, w82_11_0, w82_11_1, w82_11_2, w82_11_3, w82_11_o, w82_40, w82_41, w82_44, w82_47, w82_48, w82_49, w82_50, w82_51, w82_54, w82_57, w82_58, w82_59, w82_60, w82_61, w82_64, w82_67, w82_68, w82_69, w82_70, w82_71, w82_74, w82_75, w82_78, w82_79, w82_80, w82_83, w82_84, w82_87, w82_90, w82_93, w82_94, w82_95, s163, k3, k4, a1, a2, mRw_p hr (show q < 5 by omega)]
      exact hQ I fQ_0
    · rw [if_neg w0] at hQ
      by_cases w1 : w = 1
      · subst w1
        rw [if_pos rfl] at hQ
        simp only [w82_0, w82_1, w82_2, w82_5, w82_8, w82_9, w82_10, w82_11_0, w82_11_1, w82_11_2, w82_11_3, w82_11_o, w82_40, w82_41, w82_44, w82_47, w82_48, w82_49, w82_50, w82_51, w82_54, w82_57, w82_58, w82_59, w82_60, w82_61, w82_64, w82_67, w82_68, w82_69, w82_70, w82_71, w82_74, w82_75, w82_78, w82_79, w82_80, w82_83, w82_84, w82_87, w82_90, w82_93, w82_94, w82_95, hHo, k5, k6, a1, a2, (hh.2.2.2.2.2.1 q hq).1]
        exact hQ I fQ_0
      · rw [if_neg w1] at hQ
        by_cases w2 : w = 2
        · subst w2
          rw [if_pos rfl] at hQ
          simp only [w82_0, w82_1, w82_2, w82_5, w82_8, w82_9, w82_10, w82_11_0, w82_11_1, w82_11_2, w82_11_3, w82_11_o, w82_40, w82_41, w82_44, w82_47, w82_48, w82_49, w82_50, w82_51, w82_54, w82_57, w82_58, w82_59, w82_60, w82_61, w82_64, w82_67, w82_68, w82_69, w82_70, w82_71, w82_74, w82_75, w82_78, w82_79, w82_80, w82_83, w82_84, w82_87, w82_90, w82_93, w82_94, w82_95, hHo, k7, k8, a1, a2, (hh.2.2.2.2.2.1 q hq).2]
          exact hQ I fQ_0
        · rw [if_neg w2] at hQ
          by_cases w3 : w = 3
          · subst w3
            rw [if_pos rfl] at hQ
            simp only [w82_0, w82_1, w82_2, w82_5, w82_8, w82_9, w82_10, w82_11_0, w82_11_1, w82_11_2, w82_11_3, w82_11_o, w82_40, w82_41, w82_44, w82_47, w82_48, w82_49, w82_50, w82_51, w82_54, w82_57, w82_58, w82_59, w82_60, w82_61, w82_64, w82_67, w82_68, w82_69, w82_70, w82_71, w82_74, w82_75, w82_78, w82_79, w82_80, w82_83, w82_84, w82_87, w82_90, w82_93, w82_94, w82_95]
            refine c4 s163 hk hh hr ho ?_
            intro I1 f1 s1
            simp only [↓reduceIte, Option.toList_some, Option.toList_none, List.cons_append, List.nil_append, Int32.reduceAdd, Int32.reduceLT, Int32.reduceLE, Int32.reduceToNatClampNeg, w82_0, w82_1, w82_2, w82_5, w82_8, w82_9, w82_10, w82_11_0, w82_11_1, w82_11_2, w82_11_3, w82_11_o, w82_40, w82_41, w82_44, w82_47, w82_48, w82_49, w82_50, w82_51, w82_54, w82_57, w82_58, w82_59, w82_60, w82_61, w82_64, w82_67, w82_68, w82_69, w82_70, w82_71, w82_74, w82_75, w82_78, w82_79, w82_80, w82_83, w82_84, w82_87, w82_90, w82_93, w82_94, w82_95]
            refine c9 s163 hk (fX_h f1 hh) (fX_r s163 f1 hr) s1 hq _ ?_
            intro I2 f2 _
            simp only [↓reduceIte, Option.toList_some, Option.toList_none, List.cons_append, List.nil_append, Int32.reduceAdd, Int32.reduceLT, Int32.reduceLE, Int32.reduceToNatClampNeg, w82_0, w82_1, w82_2, w82_5, w82_8, w82_9, w82_10, w82_11_0, w82_11_1, w82_11_2, w82_11_3, w82_11_o, w82_40, w82_41, w82_44, w82_47, w82_48, w82_49, w82_50, w82_51, w82_54, w82_57, w82_58, w82_59, w82_60, w82_61, w82_64, w82_67, w82_68, w82_69, w82_70, w82_71, w82_74, w82_75, w82_78, w82_79, w82_80, w82_83, w82_84, w82_87, w82_90, w82_93, w82_94, w82_95]
            exact hQ I2 (fQ_t (fX_q f1) (fX_q (fY_x f2)))
          · rw [if_neg w3] at hQ
            have z0 := i_ne (n := 0) w0 rfl
            have z1 := i_ne (n := 1) w1 rfl
            have z2 := i_ne (n := 2) w2 rfl
            have z3 := i_ne (n := 3) w3 rfl
            have hx : w.toInt < 0 ∨ 3 < w.toInt := by omega
            simp only [w82_11_o (hx := hx), w82_94, w82_95]
            exact hQ I fQ_0
  · rw [if_neg hp] at hQ
    have h' : isP η p = false := by simpa using hp
    simp only [sB_f h', ↓reduceIte, w82_0, w82_1, w82_2, w82_5, w82_8, w82_9, w82_10, w82_11_0, w82_11_1, w82_11_2, w82_11_3, w82_11_o, w82_40, w82_41, w82_44, w82_47, w82_48, w82_49, w82_50, w82_51, w82_54, w82_57, w82_58, w82_59, w82_60, w82_61, w82_64, w82_67, w82_68, w82_69, w82_70, w82_71, w82_74, w82_75, w82_78, w82_79, w82_80, w82_83, w82_84, w82_87, w82_90, w82_93, w82_94, w82_95]
    exact hQ I fQ_0
end QRH
