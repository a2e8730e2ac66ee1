/-! Queries: a doing. -/
theorem dn_val {η : mHs} {ρ : Nat → Int32} (hk : hOk η) (ho : rOk η ρ) (v : Int32) {k : Nat} (h : k < η.2.1) : ((sDn η ρ v >>> (nI k &&& 31)) &&& 1) = sB01 (dn η ρ v k) := by
  have hn := hk.2.1
  have h1 := dN_lt η ρ v η.2.1
  have h64 := pow6 hn
  rw [dN_eq hk ho, bB1 _ (by omega) _ (by omega), dN_bit η ρ v _ _ h]
  cases dn η ρ v k <;> rfl
def q_doing (η : mHs) (ρ : Nat → Int32) (i w : Int32) : Int32 := if isD η i then (if w = 0 then hT η 2 i.toNatClampNeg else if w = 1 then hT η 3 i.toNatClampNeg else if w = 2 then hT η 4 i.toNatClampNeg else if w = 3 then hT η 5 i.toNatClampNeg else if w = 4 then (ρ 7 >>> (i &&& 31)) &&& 1 else if w = 5 then sB01 (dn η ρ (sMrk η ρ) i.toNatClampNeg) else if w = 6 then sChg η ρ i.toNatClampNeg (sMrk η ρ) else -1) else -1
section QRJ
variable {d : Nat} {xL : Nat} {I : Nat → Nat → Int32} {J : Nat → Nat → Int64} {rr : Nat} {Q : Option Value → mHp → Prop} {s o : Nat} {η : mHs} {ρ : Nat → Int32}
theorem c86 (hb : xB I o η ρ) (hQ : ∀ I', fQ I I' → Q (some (.int (sDn η ρ (sMrk η ρ)))) (mHh xL I' J (mRf o o rr))) : WP (d + 4) 86 0 [.ref 7] [] (mHh xL I J (mRf o o rr)) Q := by
  obtain ⟨hk, hh, hr, ho, -⟩ := hb
  simp only [w86_0, w86_1, w86_4, w86_5, w86_8, w86_9, w86_12, w86_13, w86_16, w86_19, w86_22]
  refine c4 s163 hk hh hr ho ?_
  intro I1 f1 _
  simp only [↓reduceIte, Option.toList_some, Option.toList_none, List.cons_append, List.nil_append, Int32.reduceAdd, Int32.reduceLT, Int32.reduceLE, Int32.reduceToNatClampNeg, w86_0, w86_1, w86_4, w86_5, w86_8, w86_9, w86_12, w86_13, w86_16, w86_19, w86_22, c10 s163 hk (fX_h f1 hh) (fX_r s163 f1 hr)]
  exact hQ I1 (fX_q f1)
theorem c84 (hb : xB I o η ρ) (i w : Int32) (hQ : ∀ I', fQ I I' → Q (some (.int (q_doing η ρ i w))) (mHh xL I' J (mRf o o rr))) : WP (d + 5) 84 0 [.ref 7, .int i, .int w] [] (mHh xL I J (mRf o o rr)) Q := by
  have hb0 := hb
  obtain ⟨hk, hh, hr, ho, -⟩ := hb
  have hn5 := hk.2.1
  have hHo := hh.1
  obtain ⟨-, -, -, -, k1, k2, k3, k4, -, -, -, -, k5, k6, k7, k8⟩ := mHo_k hHo
  simp only [w84_0, w84_1, w84_2, c85 hh, ↓reduceIte, Option.toList_some, Option.toList_none, List.cons_append, List.nil_append, Int32.reduceAdd, Int32.reduceLT, Int32.reduceLE, Int32.reduceToNatClampNeg, w84_5, q_doing] at hQ ⊢
  by_cases hp : isD η i = true
  · rw [if_pos hp] at hQ
    obtain ⟨q, hq, rfl⟩ := (isD_iff hk).1 hp
    have a1 : mIn (nI q) 6 = true := mIn_nI (by omega) (by omega)
    have a2 : (nI q).toNatClampNeg = q := nI_clamp (by omega)
    obtain ⟨t0, t1, t2, t3⟩ := hh.2.2.2.2.2.2.1 q hq
    rw [a2] at hQ
    simp only [sB_t hp, o01, ↓reduceIte, w84_10]
    by_cases w0 : w = 0
    · subst w0
      rw [if_pos rfl] at hQ
      simp only [w84_0, w84_1, w84_2, w84_5, w84_8, w84_9, w84_10, w84_11_0, w84_11_1, w84_11_2, w84_11_3, w84_11_4, w84_11_5, w84_11_6, w84_11_o, w84_52, w84_53, w84_56, w84_59, w84_60, w84_61, w84_62, w84_63, w84_66, w84_69, w84_70, w84_71, w84_72, w84_73, w84_76, w84_79, w84_80, w84_81, w84_82, w84_83, w84_86, w84_89, w84_90, w84_91, w84_92, w84_93, w84_96, w84_99, w84_100, w84_101, w84_102, w84_103, w84_104, w84_105, w84_108, w84_109, w84_110, w84_111, w84_112, w84_113, w84_114, w84_117, w84_118, w84_121, w84_122, w84_123, w84_126, w84_127, w84_130, w84_133, w84_136, w84_137, w84_138, hHo, k1, k5, a1, a2, t0]
      exact hQ I fQ_0
    · rw [if_neg w0] at hQ
      by_cases w1 : w = 1
      · subst w1
        rw [if_pos rfl] at hQ
        simp only [w84_0, w84_1, w84_2, w84_5, w84_8, w84_9, w84_10, w84_11_0, w84_11_1, w84_11_2, w84_11_3, w84_11_4, w84_11_5, w84_11_6, w84_11_o, w84_52, w84_53, w84_56, w84_59, w84_60, w84_61, w84_62, w84_63, w84_66, w84_69, w84_70, w84_71, w84_72, w84_73, w84_76, w84_79, w84_80, w84_81, w84_82, w84_83, w84_86, w84_89, w84_90, w84_91, w84_92, w84_93, w84_96, w84_99, w84_100, w84_101, w84_102, w84_103, w84_104, w84_105, w84_108, w84_109, w84_110, w84_111, w84_112, w84_113, w84_114, w84_117, w84_118, w84_121, w84_122, w84_123, w84_126, w84_127, w84_130, w84_133, w84_136, w84_137, w84_138, hHo, k2, k6, a1, a2, t1]
        exact hQ I fQ_0
      · rw [if_neg w1] at hQ
        by_cases w2 : w = 2
        · subst w2
          rw [if_pos rfl] at hQ
          simp only [w84_0, w84_1, w84_2, w84_5, w84_8, w84_9, w84_10, w84_11_0, w84_11_1, w84_11_2, w84_11_3, w84_11_4, w84_11_5, w84_11_6, w84_11_o, w84_52, w84_53, w84_56, w84_59, w84_60, w84_61, w84_62, w84_63, w84_66, w84_69, w84_70, w84_71, w84_72, w84_73, w84_76, w84_79, w84_80, w84_81, w84_82, w84_83, w84_86, w84_89, w84_90, w84_91, w84_92, w84_93, w84_96, w84_99, w84_100, w84_101, w84_102, w84_103, w84_104, w84_105, w84_108, w84_109, w84_110, w84_111, w84_112, w84_113, w84_114, w84_117, w84_118, w84_121, w84_122, w84_123, w84_126, w84_127, w84_130, w84_133, w84_136, w84_137, w84_138, hHo, k3, k7, a1, a2, t2]
          exact hQ I fQ_0
        · rw [if_neg w2] at hQ
          by_cases w3 : w = 3
          · subst w3
            rw [if_pos rfl] at hQ
            simp only [w84_0, w84_1, w84_2, w84_5, w84_8, w84_9, w84_10, w84_11_0, w84_11_1, w84_11_2, w84_11_3, w84_11_4, w84_11_5, w84_11_6, w84_11_o, w84_52, w84_53, w84_56, w84_59, w84_60, w84_61, w84_62, w84_63, w84_66, w84_69, w84_70, w84_71, w84_72, w84_73, w84_76, w84_79, w84_80, w84_81, w84_82, w84_83, w84_86, w84_89, w84_90, w84_91, w84_92, w84_93, w84_96, w84_99, w84_100, w84_101, w84_102, w84_103, w84_104, w84_105, w84_108, w84_109, w84_110, w84_111, w84_112, w84_113, w84_114, w84_117, w84_118, w84_121, w84_122, w84_123, w84_126, w84_127, w84_130, w84_133, w84_136, w84_137, w84_138, hHo, k4, k8, a1, a2, t3]
            exact hQ I fQ_0
          · rw [if_neg w3] at hQ
            by_cases w4 : w = 4
            · subst w4
              rw [if_pos rfl] at hQ
              simp only [w84_0, w84_1, w84_2, w84_5, w84_8, w84_9, w84_10, w84_11_0, w84_11_1, w84_11_2, w84_11_3, w84_11_4, w84_11_5, w84_11_6, w84_11_o, w84_52, w84_53, w84_56, w84_59, w84_60, w84_61, w84_62, w84_63, w84_66, w84_69, w84_70, w84_71, w84_72, w84_73, w84_76, w84_79, w84_80, w84_81, w84_82, w84_83, w84_86, w84_89, w84_90, w84_91, w84_92, w84_93, w84_96, w84_99, w84_100, w84_101, w84_102, w84_103, w84_104, w84_105, w84_108, w84_109, w84_110, w84_111, w84_112, w84_113, w84_114, w84_117, w84_118, w84_121, w84_122, w84_123, w84_126, w84_127, w84_130, w84_133, w84_136, w84_137, w84_138, s163, (mRw_5 hr).2.2]
              exact hQ I fQ_0
            · rw [if_neg w4] at hQ
              by_cases w5 : w = 5
              · subst w5
                rw [if_pos rfl] at hQ
                simp only [w84_0, w84_1, w84_2, w84_5, w84_8, w84_9, w84_10, w84_11_0, w84_11_1, w84_11_2, w84_11_3, w84_11_4, w84_11_5, w84_11_6, w84_11_o, w84_52, w84_53, w84_56, w84_59, w84_60, w84_61, w84_62, w84_63, w84_66, w84_69, w84_70, w84_71, w84_72, w84_73, w84_76, w84_79, w84_80, w84_81, w84_82, w84_83, w84_86, w84_89, w84_90, w84_91, w84_92, w84_93, w84_96, w84_99, w84_100, w84_101, w84_102, w84_103, w84_104, w84_105, w84_108, w84_109, w84_110, w84_111, w84_112, w84_113, w84_114, w84_117, w84_118, w84_121, w84_122, w84_123, w84_126, w84_127, w84_130, w84_133, w84_136, w84_137, w84_138]
                refine c86 hb0 ?_
                intro I1 f1
                simp only [↓reduceIte, Option.toList_some, Option.toList_none, List.cons_append, List.nil_append, Int32.reduceAdd, Int32.reduceLT, Int32.reduceLE, Int32.reduceToNatClampNeg, w84_0, w84_1, w84_2, w84_5, w84_8, w84_9, w84_10, w84_11_0, w84_11_1, w84_11_2, w84_11_3, w84_11_4, w84_11_5, w84_11_6, w84_11_o, w84_52, w84_53, w84_56, w84_59, w84_60, w84_61, w84_62, w84_63, w84_66, w84_69, w84_70, w84_71, w84_72, w84_73, w84_76, w84_79, w84_80, w84_81, w84_82, w84_83, w84_86, w84_89, w84_90, w84_91, w84_92, w84_93, w84_96, w84_99, w84_100, w84_101, w84_102, w84_103, w84_104, w84_105, w84_108, w84_109, w84_110, w84_111, w84_112, w84_113, w84_114, w84_117, w84_118, w84_121, w84_122, w84_123, w84_126, w84_127, w84_130, w84_133, w84_136, w84_137, w84_138, dn_val hk ho _ hq]
                exact hQ I1 f1
              · rw [if_neg w5] at hQ
                by_cases w6 : w = 6
                · subst w6
                  rw [if_pos rfl] at hQ
                  simp only [w84_0, w84_1, w84_2, w84_5, w84_8, w84_9, w84_10, w84_11_0, w84_11_1, w84_11_2, w84_11_3, w84_11_4, w84_11_5, w84_11_6, w84_11_o, w84_52, w84_53, w84_56, w84_59, w84_60, w84_61, w84_62, w84_63, w84_66, w84_69, w84_70, w84_71, w84_72, w84_73, w84_76, w84_79, w84_80, w84_81, w84_82, w84_83, w84_86, w84_89, w84_90, w84_91, w84_92, w84_93, w84_96, w84_99, w84_100, w84_101, w84_102, w84_103, w84_104, w84_105, w84_108, w84_109, w84_110, w84_111, w84_112, w84_113, w84_114, w84_117, w84_118, w84_121, w84_122, w84_123, w84_126, w84_127, w84_130, w84_133, w84_136, w84_137, w84_138]
                  refine c4 s163 hk hh hr ho ?_
                  intro I1 f1 s1
                  simp only [↓reduceIte, Option.toList_some, Option.toList_none, List.cons_append, List.nil_append, Int32.reduceAdd, Int32.reduceLT, Int32.reduceLE, Int32.reduceToNatClampNeg, w84_0, w84_1, w84_2, w84_5, w84_8, w84_9, w84_10, w84_11_0, w84_11_1, w84_11_2, w84_11_3, w84_11_4, w84_11_5, w84_11_6, w84_11_o, w84_52, w84_53, w84_56, w84_59, w84_60, w84_61, w84_62, w84_63, w84_66, w84_69, w84_70, w84_71, w84_72, w84_73, w84_76, w84_79, w84_80, w84_81, w84_82, w84_83, w84_86, w84_89, w84_90, w84_91, w84_92, w84_93, w84_96, w84_99, w84_100, w84_101, w84_102, w84_103, w84_104, w84_105, w84_108, w84_109, w84_110, w84_111, w84_112, w84_113, w84_114, w84_117, w84_118, w84_121, w84_122, w84_123, w84_126, w84_127, w84_130, w84_133, w84_136, w84_137, w84_138]
                  refine c11 s163 hk (fX_h f1 hh) (fX_r s163 f1 hr) s1 hq _ ?_
                  intro I2 f2 _
                  simp only [↓reduceIte, Option.toList_some, Option.toList_none, List.cons_append, List.nil_append, Int32.reduceAdd, Int32.reduceLT, Int32.reduceLE, Int32.reduceToNatClampNeg, w84_0, w84_1, w84_2, w84_5, w84_8, w84_9, w84_10, w84_11_0, w84_11_1, w84_11_2, w84_11_3, w84_11_4, w84_11_5, w84_11_6, w84_11_o, w84_52, w84_53, w84_56, w84_59, w84_60, w84_61, w84_62, w84_63, w84_66, w84_69, w84_70, w84_71, w84_72, w84_73, w84_76, w84_79, w84_80, w84_81, w84_82, w84_83, w84_86, w84_89, w84_90, w84_91, w84_92, w84_93, w84_96, w84_99, w84_100, w84_101, w84_102, w84_103, w84_104, w84_105, w84_108, w84_109, w84_110, w84_111, w84_112, w84_113, w84_114, w84_117, w84_118, w84_121, w84_122, w84_123, w84_126, w84_127, w84_130, w84_133, w84_136, w84_137, w84_138]
                  exact hQ I2 (fQ_t (fX_q f1) (fX_q (fY_x f2)))
                · rw [if_neg w6] at hQ
                  have z0 := i_ne (n := 0) w0 rfl
                  have z1 := i_ne (n := 1) w1 rfl
                  have z2 := i_ne (n := 2) w2 rfl
                  have z3 := i_ne (n := 3) w3 rfl
                  have z4 := i_ne (n := 4) w4 rfl
                  have z5 := i_ne (n := 5) w5 rfl
                  have z6 := i_ne (n := 6) w6 rfl
                  have hx : w.toInt < 0 ∨ 6 < w.toInt := by omega
                  simp only [w84_11_o (hx := hx), w84_0, w84_1, w84_2, w84_5, w84_8, w84_9, w84_10, w84_11_0, w84_11_1, w84_11_2, w84_11_3, w84_11_4, w84_11_5, w84_11_6, w84_11_o, w84_52, w84_53, w84_56, w84_59, w84_60, w84_61, w84_62, w84_63, w84_66, w84_69, w84_70, w84_71, w84_72, w84_73, w84_76, w84_79, w84_80, w84_81, w84_82, w84_83, w84_86, w84_89, w84_90, w84_91, w84_92, w84_93, w84_96, w84_99, w84_100, w84_101, w84_102, w84_103, w84_104, w84_105, w84_108, w84_109, w84_110, w84_111, w84_112, w84_113, w84_114, w84_117, w84_118, w84_121, w84_122, w84_123, w84_126, w84_127, w84_130, w84_133, w84_136, w84_137, w84_138]
                  exact hQ I fQ_0
  · rw [if_neg hp] at hQ
    have h' : isD η i = false := by simpa using hp
    simp only [sB_f h', ↓reduceIte, w84_0, w84_1, w84_2, w84_5, w84_8, w84_9, w84_10, w84_11_0, w84_11_1, w84_11_2, w84_11_3, w84_11_4, w84_11_5, w84_11_6, w84_11_o, w84_52, w84_53, w84_56, w84_59, w84_60, w84_61, w84_62, w84_63, w84_66, w84_69, w84_70, w84_71, w84_72, w84_73, w84_76, w84_79, w84_80, w84_81, w84_82, w84_83, w84_86, w84_89, w84_90, w84_91, w84_92, w84_93, w84_96, w84_99, w84_100, w84_101, w84_102, w84_103, w84_104, w84_105, w84_108, w84_109, w84_110, w84_111, w84_112, w84_113, w84_114, w84_117, w84_118, w84_121, w84_122, w84_123, w84_126, w84_127, w84_130, w84_133, w84_136, w84_137, w84_138]
    exact hQ I fQ_0
end QRJ
