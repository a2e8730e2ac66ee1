/-! Queries: count. -/
def q_cnt (η : mHs) (ρ : Nat → Int32) (u t L hb : Nat) : Nat → Int32
  | 0 => nI η.1
  | 1 => nI η.2.1
  | 2 => ρ 5
  | 3 => rS ρ
  | 4 => rM ρ
  | 5 => ρ 6
  | 6 => ρ 7
  | 7 => sDn η ρ (sMrk η ρ)
  | 8 => nI L
  | 9 => nI u
  | 10 => nI t
  | 11 => nI (bn hb)
  | 12 => sB01 (sSlp η ρ η.2.2.2.2.1)
  | 13 => sJmp η ρ
  | 14 => rH ρ
  | 15 => bA (fun p => decide (ρ p = 0)) η.1
  | 16 => bA (fun p => decide (ρ p = 20)) η.1
  | _ => -1
def q_count (η : mHs) (ρ : Nat → Int32) (u t L hb : Nat) (w : Int32) : Int32 := if sW w 0 16 then q_cnt η ρ u t L hb w.toNatClampNeg else -1
theorem i17 {j : Nat} (h : j ≤ 16) : j = 0 ∨ j = 1 ∨ j = 2 ∨ j = 3 ∨ j = 4 ∨ j = 5 ∨ j = 6 ∨ j = 7 ∨ j = 8 ∨ j = 9 ∨ j = 10 ∨ j = 11 ∨ j = 12 ∨ j = 13 ∨ j = 14 ∨ j = 15 ∨ j = 16 := by omega
theorem mG5_r {I : Nat → Nat → Int32} {a : Nat} {ρ : Nat → Int32} (h : mRw I a = ρ) : mG5 I a = rM ρ := by
  rw [mG5, rM, mRw_p h (by decide : 0 < 5), mRw_p h (by decide : 1 < 5), mRw_p h (by decide : 2 < 5), mRw_p h (by decide : 3 < 5), mRw_p h (by decide : 4 < 5)]
theorem sW_out {w : Int32} {l m : Int32} {a b : Nat} (hl : l.toInt = a) (hm : m.toInt = b) (h : ¬ sW w l m = true) : w.toInt < a ∨ (b : Int) < w.toInt := by
  rw [sW, Bool.and_eq_true, decide_eq_true_eq, decide_eq_true_eq, Int32.le_iff_toInt_le, Int32.le_iff_toInt_le] at h
  omega
theorem h3s : ∀ hb, hb < 8 → nI (hb.testBit 0).toNat + nI (hb.testBit 1).toNat + nI (hb.testBit 2).toNat = nI (bn hb) := by decide +kernel
theorem sB_n (b : Bool) : sB01 b = nI b.toNat := by cases b <;> rfl
section QRT
variable {d : Nat} {xL : Nat} {I : Nat → Nat → Int32} {J : Nat → Nat → Int64} {rr : Nat} {Q : Option Value → mHp → Prop} {s o : Nat} {η : mHs} {ρ : Nat → Int32}
theorem c89 (hb : xB I o η ρ) (x : Int32) : WP (d + 1) 89 0 [.ref 7, .int x, mDum, mDum] [] (mHh xL I J (mRf o o rr)) Q = Q (some (.int (bA (fun p => decide (ρ p = x)) η.1))) (mHh xL I J (mRf o o rr)) := by
  obtain ⟨hk, hh, hr, ho, -⟩ := hb
  have hn5 := hk.1
  have hHo := hh.1
  obtain ⟨-, -, k3, k4, -⟩ := st_k s163
  simp only [w89_0, w89_1, w89_2, w89_3]
  have key : ∀ k, k ≤ η.1 → WP (d + 1) 89 4 [.ref 7, .int x, .int (bA (fun p => decide (ρ p = x)) k), .int (nI k)] [] (mHh xL I J (mRf o o rr)) Q = Q (some (.int (bA (fun p => decide (ρ p = x)) η.1))) (mHh xL I J (mRf o o rr)) := by
    refine iter_dn ?_ ?_
    · intro k hk1 ih
      have g1 : ¬ nI η.1 ≤ nI k := nI_ge hk1 (by omega)
      have a1 : mIn (nI k) 5 = true := mIn_nI (by omega) (by omega)
      have a2 : (nI k).toNatClampNeg = k := nI_clamp (by omega)
      have e1 : I (163 + 1) k = ρ k := mRw_p hr (by omega)
      rw [← ih, bA, w89_4]
      simp only [w89_5, w89_6, w89_9, hHo, hh.2.1, w89_12, g1, ↓reduceIte, w89_15, w89_16, w89_19, s163, w89_22, w89_23, k3, k4, a1, a2, e1, w89_24, w89_25]
      by_cases hc : ρ k = x
      · simp only [hc, decide_true, ↓reduceIte, w89_0, w89_1, w89_2, w89_3, w89_5, w89_6, w89_9, w89_12, w89_15, w89_16, w89_19, w89_22, w89_23, w89_24, w89_25, w89_28, w89_29, w89_30, w89_31, w89_32, w89_33, w89_34, w89_37, w89_40, w89_41, nI_1]
      · simp only [hc, decide_false, Bool.false_eq_true, ↓reduceIte, w89_0, w89_1, w89_2, w89_3, w89_5, w89_6, w89_9, w89_12, w89_15, w89_16, w89_19, w89_22, w89_23, w89_24, w89_25, w89_28, w89_29, w89_30, w89_31, w89_32, w89_33, w89_34, w89_37, w89_40, w89_41, nI_1]
    · have g1 : nI η.1 ≤ nI η.1 := nI_le (Nat.le_refl _) (by omega)
      rw [w89_4]
      simp only [w89_0, w89_1, w89_2, w89_3, w89_5, w89_6, w89_9, w89_12, w89_15, w89_16, w89_19, w89_22, w89_23, w89_24, w89_25, w89_28, w89_29, w89_30, w89_31, w89_32, w89_33, w89_34, w89_37, w89_40, w89_41, hHo, hh.2.1, g1, ↓reduceIte]
  exact key 0 (by omega)
theorem c254 (hb : zB I s η ρ) {rc rx : Nat} (x : Int32) : WP (d + 1) 254 0 [.ref 180, .int x, mDum, mDum] [] (mHh xL I J (mRf rc rx rr)) Q = Q (some (.int (bA (fun p => decide (ρ p = x)) η.1))) (mHh xL I J (mRf rc rx rr)) := by
  obtain ⟨hk, hh, hr, ho, -⟩ := hb
  have hn5 := hk.1
  have hs := hh.1
  have s1 : mIn (nI s) 2 = true := mIn_nI (by omega) (by omega)
  have s2 : (nI s).toNatClampNeg = s := nI_clamp (by omega)
  simp only [w254_0, w254_1, w254_2, w254_3]
  have key : ∀ k, k ≤ η.1 → WP (d + 1) 254 4 [.ref 180, .int x, .int (bA (fun p => decide (ρ p = x)) k), .int (nI k)] [] (mHh xL I J (mRf rc rx rr)) Q = Q (some (.int (bA (fun p => decide (ρ p = x)) η.1))) (mHh xL I J (mRf rc rx rr)) := by
    refine iter_dn ?_ ?_
    · intro k hk1 ih
      have g1 : ¬ nI η.1 ≤ nI k := nI_ge hk1 (by omega)
      have a1 : mIn (nI k) 8 = true := mIn_nI (by omega) (by omega)
      have a2 : (nI k).toNatClampNeg = k := nI_clamp (by omega)
      have e1 : I 212 k = ρ k := mNw_at hr (by omega)
      rw [← ih, bA, w254_4]
      simp only [w254_5, w254_6, w254_9, w254_10, w254_13, hh.2.1, s1, s2, hh.2.2.1, w254_14, g1, ↓reduceIte, w254_17, w254_18, w254_21, w254_22, a1, a2, e1, w254_23, w254_24]
      by_cases hc : ρ k = x
      · simp only [hc, decide_true, ↓reduceIte, w254_0, w254_1, w254_2, w254_3, w254_5, w254_6, w254_9, w254_10, w254_13, w254_14, w254_17, w254_18, w254_21, w254_22, w254_23, w254_24, w254_27, w254_28, w254_29, w254_30, w254_31, w254_32, w254_33, w254_36, w254_39, w254_40, nI_1]
      · simp only [hc, decide_false, Bool.false_eq_true, ↓reduceIte, w254_0, w254_1, w254_2, w254_3, w254_5, w254_6, w254_9, w254_10, w254_13, w254_14, w254_17, w254_18, w254_21, w254_22, w254_23, w254_24, w254_27, w254_28, w254_29, w254_30, w254_31, w254_32, w254_33, w254_36, w254_39, w254_40, nI_1]
    · have g1 : nI η.1 ≤ nI η.1 := nI_le (Nat.le_refl _) (by omega)
      rw [w254_4]
      simp only [w254_0, w254_1, w254_2, w254_3, w254_5, w254_6, w254_9, w254_10, w254_13, w254_14, w254_17, w254_18, w254_21, w254_22, w254_23, w254_24, w254_27, w254_28, w254_29, w254_30, w254_31, w254_32, w254_33, w254_36, w254_39, w254_40, hh.2.1, s1, s2, hh.2.2.1, g1, ↓reduceIte]
  exact key 0 (by omega)
theorem c88 (hb : xB I o η ρ) {u t L g : Nat} (hg : g < 8) (h1 : I 66 2 = nI u) (h2 : I 62 3 = nI t) (h3 : I 8 1 = nI L) (h4 : I 7 16 = nI g) (w : Int32) (hQ : ∀ I', fQ I I' → Q (some (.int (q_count η ρ u t L g w))) (mHh xL I' J (mRf o o rr))) : WP (d + 5) 88 0 [.ref 7, .int w] [] (mHh xL I J (mRf o o rr)) Q := by
  have hb0 := hb
  obtain ⟨hk, hh, hr, ho, -⟩ := hb
  have hHo := hh.1
  obtain ⟨r5, r6, r7⟩ := mRw_5 hr
  rw [w88_0]
  by_cases h : sW w 0 16 = true
  · rw [q_count, if_pos h] at hQ
    obtain ⟨j, -, hj, rfl⟩ := (sW_iff (a := 0) (b := 16) rfl rfl).1 h
    rw [nI_clamp (by omega)] at hQ
    rcases i17 hj with rfl | rfl | rfl | rfl | rfl | rfl | rfl | rfl | rfl | rfl | rfl | rfl | rfl | rfl | rfl | rfl | rfl
    · rw [show nI 0 = 0 from rfl]
      simp only [w88_1_0, w88_84, w88_85, hHo, w88_88, w88_91, hh.2.1]
      exact hQ I fQ_0
    · rw [show nI 1 = 1 from rfl]
      simp only [w88_1_1, w88_92, w88_93, hHo, w88_96, w88_99, hh.2.2.1]
      exact hQ I fQ_0
    · rw [show nI 2 = 2 from rfl]
      simp only [w88_1_2, w88_100, w88_101, s163, w88_104, w88_107, r5]
      exact hQ I fQ_0
    · rw [show nI 3 = 3 from rfl]
      simp only [w88_1_3, w88_108, w88_109, s163, w88_112, c57 s163, ↓reduceIte, Option.toList_some, Option.toList_none, List.cons_append, List.nil_append, Int32.reduceAdd, Int32.reduceLT, Int32.reduceLE, Int32.reduceToNatClampNeg, w88_115, mT5_r hr]
      exact hQ I fQ_0
    · rw [show nI 4 = 4 from rfl]
      simp only [w88_1_4, w88_116, w88_117, s163, w88_120, c58 s163, ↓reduceIte, Option.toList_some, Option.toList_none, List.cons_append, List.nil_append, Int32.reduceAdd, Int32.reduceLT, Int32.reduceLE, Int32.reduceToNatClampNeg, w88_123, mG5_r hr]
      exact hQ I fQ_0
    · rw [show nI 5 = 5 from rfl]
      simp only [w88_1_5, w88_124, w88_125, s163, w88_128, w88_131, r6]
      exact hQ I fQ_0
    · rw [show nI 6 = 6 from rfl]
      simp only [w88_1_6, w88_132, w88_133, s163, w88_136, w88_139, r7]
      exact hQ I fQ_0
    · rw [show nI 7 = 7 from rfl]
      simp only [w88_1_7, w88_140, w88_141]
      refine c86 hb0 ?_
      intro I1 f1
      simp only [↓reduceIte, Option.toList_some, Option.toList_none, List.cons_append, List.nil_append, Int32.reduceAdd, Int32.reduceLT, Int32.reduceLE, Int32.reduceToNatClampNeg, w88_144]
      exact hQ I1 f1
    · rw [show nI 8 = 8 from rfl]
      simp only [w88_1_8, w88_145, w88_146, w88_149, w88_152, h3]
      exact hQ I fQ_0
    · rw [show nI 9 = 9 from rfl]
      simp only [w88_1_9, w88_153, w88_154, w88_157, w88_160, h1]
      exact hQ I fQ_0
    · rw [show nI 10 = 10 from rfl]
      simp only [w88_1_10, w88_161, w88_162, w88_165, w88_168, h2]
      exact hQ I fQ_0
    · rw [show nI 11 = 11 from rfl]
      simp only [w88_1_11, w88_169, w88_170, h4, w88_173, c267 (show g < 64 by omega), ↓reduceIte, Option.toList_some, Option.toList_none, List.cons_append, List.nil_append, Int32.reduceAdd, Int32.reduceLT, Int32.reduceLE, Int32.reduceToNatClampNeg, w88_176]
      exact hQ I fQ_0
    · have es : I o 15 = η.2.2.2.2.1 := hh.2.2.2.2.1
      have hF := hQ I fQ_0
      rw [q_cnt] at hF
      rw [show nI 12 = 12 from rfl]
      simp only [w88_1_12, w88_177, w88_178, w88_181, w88_182, s163, w88_185, w88_188, w88_189, hHo, w88_192, es, w88_195, c12 hh _ hr r5, ↓reduceIte, Option.toList_some, Option.toList_none, List.cons_append, List.nil_append, Int32.reduceAdd, Int32.reduceLT, Int32.reduceLE, Int32.reduceToNatClampNeg, w88_198]
      by_cases hc : sSlp η ρ η.2.2.2.2.1 = true
      · rw [sB_t hc] at hF
        simp only [hc, o01, ↓reduceIte, w88_201, w88_202, w88_206]
        exact hF
      · have hc' : sSlp η ρ η.2.2.2.2.1 = false := by simpa using hc
        rw [sB_f hc'] at hF
        simp only [hc', Bool.false_eq_true, ↓reduceIte, w88_205, w88_206]
        exact hF
    · rw [show nI 13 = 13 from rfl]
      simp only [w88_1_13, w88_207, w88_208, w88_211, w88_212, w88_215]
      refine c5 s163 hk hh hr ho ?_
      intro I1 f1 _ _
      simp only [↓reduceIte, Option.toList_some, Option.toList_none, List.cons_append, List.nil_append, Int32.reduceAdd, Int32.reduceLT, Int32.reduceLE, Int32.reduceToNatClampNeg, w88_218]
      exact hQ I1 (fX_q f1)
    · rw [show nI 14 = 14 from rfl]
      simp only [w88_1_14, w88_219, w88_220, s163, w88_223, r5, w88_226, w88_228, w88_229]
      exact hQ I fQ_0
    · rw [show nI 15 = 15 from rfl]
      simp only [w88_1_15, w88_230, w88_231, w88_232, c89 hb0, ↓reduceIte, Option.toList_some, Option.toList_none, List.cons_append, List.nil_append, Int32.reduceAdd, Int32.reduceLT, Int32.reduceLE, Int32.reduceToNatClampNeg, w88_235]
      exact hQ I fQ_0
    · rw [show nI 16 = 16 from rfl]
      simp only [w88_1_16, w88_236, w88_237, w88_239, c89 hb0, ↓reduceIte, Option.toList_some, Option.toList_none, List.cons_append, List.nil_append, Int32.reduceAdd, Int32.reduceLT, Int32.reduceLE, Int32.reduceToNatClampNeg, w88_242]
      exact hQ I fQ_0
  · rw [q_count, if_neg h] at hQ
    have hx := sW_out (a := 0) (b := 16) rfl rfl h
    rw [w88_1_o (hx := hx)]
    simp only [w88_243, w88_244]
    exact hQ I fQ_0
theorem c253 (hb : zB I s η ρ) {rc rx : Nat} {u t L g : Nat} (hg : g < 8) (h1 : I 180 54 = nI u) (h2 : I 180 62 = nI t) (h3 : I 180 2 = nI L) (h4 : ∀ k, k < 3 → I 226 k = sB01 (g.testBit k)) (w : Int32) (hQ : ∀ I', fB I I' → Q (some (.int (q_count η ρ u t L g w))) (mHh xL I' J (mRf rc rx rr))) : WP (d + 5) 253 0 [.ref 180, .int w] [] (mHh xL I J (mRf rc rx rr)) Q := by
  obtain ⟨hk, hh, hr, ho, hm⟩ := hb
  have hs := hh.1
  have s1 : mIn (nI s) 2 = true := mIn_nI (by omega) (by omega)
  have s2 : (nI s).toNatClampNeg = s := nI_clamp (by omega)
  have a5 : mIn 5 8 = true := by decide
  have a6 : mIn 6 8 = true := by decide
  have a7 : mIn 7 8 = true := by decide
  have b5 : (5 : Int32).toNatClampNeg = 5 := rfl
  have b6 : (6 : Int32).toNatClampNeg = 6 := rfl
  have b7 : (7 : Int32).toNatClampNeg = 7 := rfl
  simp only [w253_0, w253_1]
  refine c171 hh hr ?_
  intro I1 f1 r1 l1 l2
  have hh1 := fC_h f1 hh
  have F1 := fC_B f1
  have k1 : I1 180 54 = nI u := by rw [f1.2 54 (by decide) (by decide) (by decide)]; exact h1
  have k2 : I1 180 62 = nI t := by rw [f1.2 62 (by decide) (by decide) (by decide)]; exact h2
  have k3 : I1 180 2 = nI L := by rw [f1.2 2 (by decide) (by decide) (by decide)]; exact h3
  have k4 : ∀ k, k < 3 → I1 226 k = sB01 (g.testBit k) := fun k hk => by rw [f1.1 226 (by decide) (by decide) (by decide) (by decide) (by decide)]; exact h4 k hk
  have hb1 : zB I1 s η ρ := ⟨hk, hh1, fC_n f1 hr, ho, hm⟩
  simp only [↓reduceIte, Option.toList_some, Option.toList_none, List.cons_append, List.nil_append, Int32.reduceAdd, Int32.reduceLT, Int32.reduceLE, Int32.reduceToNatClampNeg, w253_4]
  by_cases h : sW w 0 16 = true
  · rw [q_count, if_pos h] at hQ
    obtain ⟨j, -, hj, rfl⟩ := (sW_iff (a := 0) (b := 16) rfl rfl).1 h
    rw [nI_clamp (by omega)] at hQ
    have hF := hQ I1 F1
    rcases i17 hj with rfl | rfl | rfl | rfl | rfl | rfl | rfl | rfl | rfl | rfl | rfl | rfl | rfl | rfl | rfl | rfl | rfl
    · rw [show nI 0 = 0 from rfl]
      simp only [w253_5_0, w253_88, w253_89, w253_92, w253_93, w253_96, w253_97, hh1.2.1, s1, s2, hh1.2.2.1]
      exact hF
    · rw [show nI 1 = 1 from rfl]
      simp only [w253_5_1, w253_98, w253_99, w253_102, w253_103, w253_106, w253_107, hh1.2.1, s1, s2, hh1.2.2.2.1]
      exact hF
    · rw [show nI 2 = 2 from rfl]
      simp only [w253_5_2, w253_108, w253_109, w253_112, w253_113, w253_114, a5, b5, mRr_at r1 (show 5 < 8 by decide)]
      exact hF
    · rw [show nI 3 = 3 from rfl]
      simp only [w253_5_3, w253_115, w253_116, c175 r1, ↓reduceIte, Option.toList_some, Option.toList_none, List.cons_append, List.nil_append, Int32.reduceAdd, Int32.reduceLT, Int32.reduceLE, Int32.reduceToNatClampNeg, w253_119]
      exact hF
    · rw [show nI 4 = 4 from rfl]
      simp only [w253_5_4, w253_120, w253_121, c176 r1, ↓reduceIte, Option.toList_some, Option.toList_none, List.cons_append, List.nil_append, Int32.reduceAdd, Int32.reduceLT, Int32.reduceLE, Int32.reduceToNatClampNeg, w253_124]
      exact hF
    · rw [show nI 5 = 5 from rfl]
      simp only [w253_5_5, w253_125, w253_126, w253_129, w253_131, w253_132, a6, b6, mRr_at r1 (show 6 < 8 by decide)]
      exact hF
    · rw [show nI 6 = 6 from rfl]
      simp only [w253_5_6, w253_133, w253_134, w253_137, w253_139, w253_140, a7, b7, mRr_at r1 (show 7 < 8 by decide)]
      exact hF
    · rw [show nI 7 = 7 from rfl]
      simp only [w253_5_7, w253_141, w253_142, w253_143]
      refine c172 hh1 r1 ?_
      intro I2 f2
      simp only [↓reduceIte, Option.toList_some, Option.toList_none, List.cons_append, List.nil_append, Int32.reduceAdd, Int32.reduceLT, Int32.reduceLE, Int32.reduceToNatClampNeg, w253_146, c219 (fM_h f2 hh1) hk (fM_r f2 r1) ho, w253_149]
      exact hQ I2 (fB_t F1 (fM_B f2))
    · rw [show nI 8 = 8 from rfl]
      simp only [w253_5_8, w253_150, w253_151, w253_154, k3]
      exact hF
    · rw [show nI 9 = 9 from rfl]
      simp only [w253_5_9, w253_155, w253_156, w253_159, k1]
      exact hF
    · rw [show nI 10 = 10 from rfl]
      simp only [w253_5_10, w253_160, w253_161, w253_164, k2]
      exact hF
    · have z0 : mIn 0 3 = true := by decide
      have z1 : mIn 1 3 = true := by decide
      have z2 : mIn 2 3 = true := by decide
      have y1 : (1 : Int32).toNatClampNeg = 1 := rfl
      have y2 : (2 : Int32).toNatClampNeg = 2 := rfl
      have y0 : (0 : Int32).toNatClampNeg = 0 := rfl
      have q0 := k4 0 (by decide)
      have q1 := k4 1 (by decide)
      have q2 := k4 2 (by decide)
      rw [q_cnt, ← h3s g hg, ← sB_n, ← sB_n, ← sB_n] at hF
      rw [show nI 11 = 11 from rfl]
      have t0 : ∀ b, WP (d + 5) 253 171 [.ref 180, .int 11] [.int (sB01 b)] (mHh xL I1 J (mRf rc rx rr)) Q = WP (d + 5) 253 179 [.ref 180, .int 11] [.int (sB01 b)] (mHh xL I1 J (mRf rc rx rr)) Q := by
        intro b
        cases b
        · simp only [sB_f, ↓reduceIte, w253_171, w253_178]
        · simp only [sB_t, o01, ↓reduceIte, w253_171, w253_174, w253_175]
      have t1 : ∀ b x, WP (d + 5) 253 185 [.ref 180, .int 11] [.int (sB01 b), .int x] (mHh xL I1 J (mRf rc rx rr)) Q = WP (d + 5) 253 193 [.ref 180, .int 11] [.int (sB01 b), .int x] (mHh xL I1 J (mRf rc rx rr)) Q := by
        intro b x
        cases b
        · simp only [sB_f, ↓reduceIte, w253_185, w253_192]
        · simp only [sB_t, o01, ↓reduceIte, w253_185, w253_188, w253_189]
      have t2 : ∀ b x, WP (d + 5) 253 200 [.ref 180, .int 11] [.int (sB01 b), .int x] (mHh xL I1 J (mRf rc rx rr)) Q = WP (d + 5) 253 208 [.ref 180, .int 11] [.int (sB01 b), .int x] (mHh xL I1 J (mRf rc rx rr)) Q := by
        intro b x
        cases b
        · simp only [sB_f, ↓reduceIte, w253_200, w253_207]
        · simp only [sB_t, o01, ↓reduceIte, w253_200, w253_203, w253_204]
      simp only [w253_5_11, w253_165, w253_166, w253_169, w253_170, z0, y0, q0, t0, w253_179, w253_180, w253_183, w253_184, z1, y1, q1, t1, w253_193, w253_194, w253_195, w253_198, w253_199, z2, y2, q2, t2, w253_208, w253_209]
      exact hF
    · have hF2 := hF
      rw [q_cnt] at hF2
      rw [show nI 12 = 12 from rfl]
      simp only [w253_5_12, w253_210, w253_211, c198 hh1 r1 l1, ↓reduceIte, Option.toList_some, Option.toList_none, List.cons_append, List.nil_append, Int32.reduceAdd, Int32.reduceLT, Int32.reduceLE, Int32.reduceToNatClampNeg, w253_214]
      by_cases hc : sSlp η ρ η.2.2.2.2.1 = true
      · rw [sB_t hc] at hF2 ⊢
        simp only [o01, ↓reduceIte, w253_217, w253_218, w253_222]
        exact hF2
      · have hc' : sSlp η ρ η.2.2.2.2.1 = false := by simpa using hc
        rw [sB_f hc'] at hF2 ⊢
        simp only [↓reduceIte, w253_221, w253_222]
        exact hF2
    · rw [show nI 13 = 13 from rfl]
      simp only [w253_5_13, w253_223, w253_224]
      refine c179 hh1 r1 ?_
      intro I2 f2
      simp only [↓reduceIte, Option.toList_some, Option.toList_none, List.cons_append, List.nil_append, Int32.reduceAdd, Int32.reduceLT, Int32.reduceLE, Int32.reduceToNatClampNeg, w253_227]
      exact hQ I2 (fB_t F1 (fM_B f2))
    · rw [show nI 14 = 14 from rfl]
      simp only [w253_5_14, w253_228, w253_229, w253_232, w253_233, a5, b5, mRr_at r1 (show 5 < 8 by decide), w253_234, w253_236, w253_237]
      exact hF
    · rw [show nI 15 = 15 from rfl]
      simp only [w253_5_15, w253_238, w253_239, w253_240, c254 hb1, ↓reduceIte, Option.toList_some, Option.toList_none, List.cons_append, List.nil_append, Int32.reduceAdd, Int32.reduceLT, Int32.reduceLE, Int32.reduceToNatClampNeg, w253_243]
      exact hF
    · rw [show nI 16 = 16 from rfl]
      simp only [w253_5_16, w253_244, w253_245, w253_247, c254 hb1, ↓reduceIte, Option.toList_some, Option.toList_none, List.cons_append, List.nil_append, Int32.reduceAdd, Int32.reduceLT, Int32.reduceLE, Int32.reduceToNatClampNeg, w253_250]
      exact hF
  · rw [q_count, if_neg h] at hQ
    have hx := sW_out (a := 0) (b := 16) rfl rfl h
    rw [w253_5_o (hx := hx)]
    simp only [w253_251, w253_252]
    exact hQ I1 F1
end QRT
