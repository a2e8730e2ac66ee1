/-! An hour, as the model has it go by. -/
def fH (I I' : Nat → Nat → Int32) : Prop := (∀ a, a ≠ 210 → a ≠ 211 → a ≠ 213 → a ≠ 214 → a ≠ 180 → I' a = I a) ∧ ∀ k, k ≠ 48 → I' 180 k = I 180 k
theorem fH_t {I I1 I2 : Nat → Nat → Int32} (h1 : fH I I1) (h2 : fH I1 I2) : fH I I2 := ⟨fun a x y z u w => by rw [h2.1 a x y z u w, h1.1 a x y z u w], fun k x => by rw [h2.2 k x, h1.2 k x]⟩
theorem fM_H {I I' : Nat → Nat → Int32} (h : fM I I') : fH I I' := ⟨fun a x y _ _ w => h.1 a x y w, h.2⟩
theorem fH_0 {I : Nat → Nat → Int32} : fH I I := ⟨fun _ _ _ _ _ _ => rfl, fun _ _ => rfl⟩
theorem fH_h {I I' : Nat → Nat → Int32} {s : Nat} {η : mHs} (h : fH I I') (hh : mMh I s η) : mMh I' s η := mMh_keep (fun a p q => h.1 a (by omega) (by omega) (by omega) (by omega) (by omega)) (h.2 18 (by decide)) hh
theorem fH_w {I I' : Nat → Nat → Int32} {w : Nat} {x : Int32} (h : fH I I') : fH I (mU I' 213 w x) := ⟨fun a p q r t u => by rw [mU_f r, h.1 a p q r t u], fun k hk => by rw [mU_f (by decide), h.2 k hk]⟩
theorem fH_d {I I' : Nat → Nat → Int32} {w : Nat} {x : Int32} (h : fH I I') : fH I (mU I' 214 w x) := ⟨fun a p q r t u => by rw [mU_f t, h.1 a p q r t u], fun k hk => by rw [mU_f (by decide), h.2 k hk]⟩
theorem mRr_u {I : Nat → Nat → Int32} {ρ : Nat → Int32} {w : Nat} {x : Int32} (hw : w < 8) (hr : mRr I ρ) : mRr (mU I 213 w x) (rU ρ w x) := by
  unfold mRr at *
  subst hr
  funext q
  simp only [mR8, rU, Nat.zero_add]
  by_cases h : q = w
  · subst h; rw [if_pos hw, if_pos rfl, mU_s]
  · rw [if_neg h, mU_k h]
theorem mRr_o {I I' : Nat → Nat → Int32} {ρ : Nat → Int32} (h : I' 213 = I 213) (hr : mRr I ρ) : mRr I' ρ := by
  unfold mRr mR8 at *
  rw [h]; exact hr
section MHO
variable {d : Nat} {xL : Nat} {I : Nat → Nat → Int32} {J : Nat → Nat → Int64} {rc rx rr : Nat} {Q : Option Value → mHp → Prop} {s : Nat} {η : mHs} {ρ : Nat → Int32}
theorem c199 (x v : Int32) {h : mHp} : WP d 199 0 [.int x, .int v, mDum] [] h Q = Q (some (.int (sMix x v))) h := by
  simp only [w199_0, w199_1, w199_2, w199_3, w199_6, w199_7, w199_10, w199_11, w199_12, w199_13, w199_14, w199_16, w199_17, w199_18, sMix]
theorem c198 (hh : mMh I s η) (hr : mRr I ρ) {z : Int32} (hl : I 180 51 = z) : WP (d + 1) 198 0 [.ref 180] [] (mHh xL I J (mRf rc rx rr)) Q = Q (some (.int (sB01 (sSlp η ρ z)))) (mHh xL I J (mRf rc rx rr)) := by
  have hs := hh.1
  have nb1 : narrow .boolean (.int 1) = .int 1 := by decide
  have nb0 : narrow .boolean (.int 0) = .int 0 := by decide
  have h3 : mIn (nI s) 2 = true := mIn_nI (by omega) (by omega)
  have h4 : (nI s).toNatClampNeg = s := nI_clamp (by omega)
  have e : ∀ w, (Int32.toUInt32 (sMix (sMix z 193) w) >>> (Int32.toUInt32 1 &&& Int32.toUInt32 31)).toInt32 = sLot z w := fun _ => rfl
  simp only [w198_0, w198_1, w198_4, w198_7, w198_10, w198_11, w198_12, w198_15, w198_16, w198_17, w198_18, w198_21, w198_22, w198_23, w198_25, w198_26, w198_27, w198_30, w198_31, w198_34, w198_35, w198_38, w198_39, w198_42, w198_43, c199, ↓reduceIte, Option.toList_some, Option.toList_none, List.cons_append, List.nil_append, Int32.reduceAdd, Int32.reduceLT, Int32.reduceLE, Int32.reduceToNatClampNeg, hl, mRr_at hr (show 5 < 8 by decide), hh.2.1, h3, h4, hh.2.2.2.2.1, sSlp, e]
  by_cases h1 : (sLot z (4 * ρ 5) - sLot z (4 * ρ 5) / 100 * 100) < η.2.2.2.1
  · have h4 : ¬ η.2.2.2.1 ≤ (sLot z (4 * ρ 5) - sLot z (4 * ρ 5) / 100 * 100) := by rw [Int32.le_iff_toInt_le]; rw [Int32.lt_iff_toInt_lt] at h1; omega
    rw [decide_eq_true h1]
    simp (config := { decide := true }) only [h4, ↓reduceIte, w198_0, w198_1, w198_4, w198_7, w198_10, w198_11, w198_12, w198_15, w198_16, w198_17, w198_18, w198_21, w198_22, w198_23, w198_25, w198_26, w198_27, w198_30, w198_31, w198_34, w198_35, w198_38, w198_39, w198_42, w198_43, nb1, sB01]
  · have h4 : η.2.2.2.1 ≤ (sLot z (4 * ρ 5) - sLot z (4 * ρ 5) / 100 * 100) := by rw [Int32.le_iff_toInt_le]; rw [Int32.lt_iff_toInt_lt] at h1; omega
    rw [decide_eq_false h1]
    simp (config := { decide := true }) only [h4, ↓reduceIte, w198_0, w198_1, w198_4, w198_7, w198_10, w198_11, w198_12, w198_15, w198_16, w198_17, w198_18, w198_21, w198_22, w198_23, w198_25, w198_26, w198_27, w198_30, w198_31, w198_34, w198_35, w198_38, w198_39, w198_42, w198_43, nb0, sB01]
theorem c200 (hh : mMh I s η) (hk : hOk η) (hr : mRr I ρ) (ho : rOk η ρ) (v : Int32) (hQ : ∀ I' : Nat → Nat → Int32, fH I I' → mRr I' (sHr η ρ v) → Q none (mHh xL I' J (mRf rc rx rr))) :
    WP (d + 4) 200 0 [.ref 180, .int v, mDum] [] (mHh xL I J (mRf rc rx rr)) Q := by
  have hn := hk.1
  have hn2 := hk.2.1
  have hs := hh.1
  have s1 : mIn (nI s) 2 = true := mIn_nI (by omega) (by omega)
  have s2 : (nI s).toNatClampNeg = s := nI_clamp (by omega)
  have a3 : 6 * nI s = nI (6 * s) := pk_mul 6 s
  simp only [w200_0, w200_1]
  have L3 : ∀ p, p ≤ η.1 → ∀ (I' : Nat → Nat → Int32), fH I I' → mRr I' (fun q => if q < p then sDft η (sH1 η v ρ η.2.1) q v else sH1 η v ρ η.2.1 q) → (∀ j, j < η.1 → I' 214 j = sDft η (sH1 η v ρ η.2.1) j v) → WP (d + 4) 200 90 [.ref 180, .int v, .int (nI p)] [] (mHh xL I' J (mRf rc rx rr)) Q := by
    refine iter_dn ?_ ?_
    · intro p hp ih I' f1 r1 t1
      have hh1 := fH_h f1 hh
      have h1 : ¬ nI η.1 ≤ nI p := nI_ge hp (by omega)
      have h2 : mIn (nI p) 5 = true := mIn_nI (by omega) (by omega)
      have h2' : mIn (nI p) 8 = true := mIn_nI (by omega) (by omega)
      have h3 : (nI p).toNatClampNeg = p := nI_clamp (by omega)
      rw [w200_90]
      simp only [w200_0, w200_1, w200_3, w200_4, w200_7, w200_8, w200_11, w200_12, w200_15, w200_16, w200_17, w200_18, w200_21, w200_24, w200_25, w200_28, w200_29, w200_32, w200_34, w200_35, w200_38, w200_39, w200_40, w200_41, w200_42, w200_43, w200_44, w200_45, w200_48, w200_49, w200_52, w200_55, w200_56, w200_58, w200_59, w200_62, w200_63, w200_66, w200_67, w200_70, w200_71, w200_74, w200_75, w200_76, w200_77, w200_78, w200_81, w200_82, w200_85, w200_88, w200_89, w200_91, w200_92, w200_95, w200_96, w200_99, w200_100, w200_103, w200_104, w200_107, w200_108, w200_109, w200_112, w200_113, w200_114, w200_115, w200_118, w200_121, w200_122, w200_125, w200_126, w200_127, w200_128, w200_129, w200_130, w200_131, hh1.2.1, s1, s2, hh1.2.2.1, h1, h2, h2', h3, t1 p hp, ↓reduceIte, nI_1]
      refine ih _ (fH_w f1) ?_ ?_
      · have := mRr_u (w := p) (x := sDft η (sH1 η v ρ η.2.1) p v) (by omega) r1
        refine Eq.mp ?_ this
        congr 1
        funext q
        rw [rU]
        by_cases e : q = p
        · subst e; rw [if_pos rfl, if_pos (by omega)]
        · rw [if_neg e]
          by_cases e2 : q < p
          · rw [if_pos e2, if_pos (by omega)]
          · rw [if_neg e2, if_neg (by omega)]
      · intro j hj
        rw [mU_a (by decide)]; exact t1 j hj
    · intro I' f1 r1 t1
      have hh1 := fH_h f1 hh
      have h1 : nI η.1 ≤ nI η.1 := nI_le (Nat.le_refl _) (by omega)
      have r5 := mRr_at r1 (show 5 < 8 by decide)
      obtain ⟨-, e5, -, -⟩ := sH1_ok hk ho v η.2.1 (Nat.le_refl _)
      rw [w200_90]
      simp only [w200_0, w200_1, w200_3, w200_4, w200_7, w200_8, w200_11, w200_12, w200_15, w200_16, w200_17, w200_18, w200_21, w200_24, w200_25, w200_28, w200_29, w200_32, w200_34, w200_35, w200_38, w200_39, w200_40, w200_41, w200_42, w200_43, w200_44, w200_45, w200_48, w200_49, w200_52, w200_55, w200_56, w200_58, w200_59, w200_62, w200_63, w200_66, w200_67, w200_70, w200_71, w200_74, w200_75, w200_76, w200_77, w200_78, w200_81, w200_82, w200_85, w200_88, w200_89, w200_91, w200_92, w200_95, w200_96, w200_99, w200_100, w200_103, w200_104, w200_107, w200_108, w200_109, w200_112, w200_113, w200_114, w200_115, w200_118, w200_121, w200_122, w200_125, w200_126, w200_127, w200_128, w200_129, w200_130, w200_131, hh1.2.1, s1, s2, hh1.2.2.1, h1, r5, ↓reduceIte]
      refine hQ _ (fH_w f1) ?_
      have := mRr_u (w := 5) (x := (if 5 < η.1 then sDft η (sH1 η v ρ η.2.1) 5 v else sH1 η v ρ η.2.1 5) + 1) (by omega) r1
      refine Eq.mp ?_ this
      congr 1
      funext q
      rw [rU, sHr]
      by_cases e : q = 5
      · subst e
        rw [if_pos rfl, if_neg (by omega), if_neg (by omega), if_pos rfl, e5]
      · rw [if_neg e, if_neg e]
  have L2 : ∀ p, p ≤ η.1 → ∀ (I' : Nat → Nat → Int32), fH I I' → mRr I' (sH1 η v ρ η.2.1) → (∀ j, j < p → I' 214 j = sDft η (sH1 η v ρ η.2.1) j v) → WP (d + 4) 200 57 [.ref 180, .int v, .int (nI p)] [] (mHh xL I' J (mRf rc rx rr)) Q := by
    refine iter_dn ?_ ?_
    · intro p hp ih I' f1 r1 t1
      have hh1 := fH_h f1 hh
      have h1 : ¬ nI η.1 ≤ nI p := nI_ge hp (by omega)
      have h2 : mIn (nI p) 5 = true := mIn_nI (by omega) (by omega)
      have h3 : (nI p).toNatClampNeg = p := nI_clamp (by omega)
      rw [w200_57]
      simp only [w200_0, w200_1, w200_3, w200_4, w200_7, w200_8, w200_11, w200_12, w200_15, w200_16, w200_17, w200_18, w200_21, w200_24, w200_25, w200_28, w200_29, w200_32, w200_34, w200_35, w200_38, w200_39, w200_40, w200_41, w200_42, w200_43, w200_44, w200_45, w200_48, w200_49, w200_52, w200_55, w200_56, w200_58, w200_59, w200_62, w200_63, w200_66, w200_67, w200_70, w200_71, w200_74, w200_75, w200_76, w200_77, w200_78, w200_81, w200_82, w200_85, w200_88, w200_89, w200_91, w200_92, w200_95, w200_96, w200_99, w200_100, w200_103, w200_104, w200_107, w200_108, w200_109, w200_112, w200_113, w200_114, w200_115, w200_118, w200_121, w200_122, w200_125, w200_126, w200_127, w200_128, w200_129, w200_130, w200_131, hh1.2.1, s1, s2, hh1.2.2.1, h1, ↓reduceIte]
      refine c181 hh1 hk r1 hp v ?_
      intro I2 f2
      simp only [↓reduceIte, Option.toList_some, Option.toList_none, List.cons_append, List.nil_append, Int32.reduceAdd, Int32.reduceLT, Int32.reduceLE, Int32.reduceToNatClampNeg, w200_0, w200_1, w200_3, w200_4, w200_7, w200_8, w200_11, w200_12, w200_15, w200_16, w200_17, w200_18, w200_21, w200_24, w200_25, w200_28, w200_29, w200_32, w200_34, w200_35, w200_38, w200_39, w200_40, w200_41, w200_42, w200_43, w200_44, w200_45, w200_48, w200_49, w200_52, w200_55, w200_56, w200_58, w200_59, w200_62, w200_63, w200_66, w200_67, w200_70, w200_71, w200_74, w200_75, w200_76, w200_77, w200_78, w200_81, w200_82, w200_85, w200_88, w200_89, w200_91, w200_92, w200_95, w200_96, w200_99, w200_100, w200_103, w200_104, w200_107, w200_108, w200_109, w200_112, w200_113, w200_114, w200_115, w200_118, w200_121, w200_122, w200_125, w200_126, w200_127, w200_128, w200_129, w200_130, w200_131, h2, h3, nI_1]
      refine ih _ (fH_d (fH_t f1 (fM_H f2))) ?_ ?_
      · exact mRr_o (mU_f (by decide)) (fM_r f2 r1)
      · intro j hj
        by_cases e : j = p
        · subst e; rw [mU_s]
        · rw [mU_k e, f2.1 214 (by decide) (by decide) (by decide)]; exact t1 j (by omega)
    · intro I' f1 r1 t1
      have hh1 := fH_h f1 hh
      have h1 : nI η.1 ≤ nI η.1 := nI_le (Nat.le_refl _) (by omega)
      rw [w200_57]
      simp only [w200_0, w200_1, w200_3, w200_4, w200_7, w200_8, w200_11, w200_12, w200_15, w200_16, w200_17, w200_18, w200_21, w200_24, w200_25, w200_28, w200_29, w200_32, w200_34, w200_35, w200_38, w200_39, w200_40, w200_41, w200_42, w200_43, w200_44, w200_45, w200_48, w200_49, w200_52, w200_55, w200_56, w200_58, w200_59, w200_62, w200_63, w200_66, w200_67, w200_70, w200_71, w200_74, w200_75, w200_76, w200_77, w200_78, w200_81, w200_82, w200_85, w200_88, w200_89, w200_91, w200_92, w200_95, w200_96, w200_99, w200_100, w200_103, w200_104, w200_107, w200_108, w200_109, w200_112, w200_113, w200_114, w200_115, w200_118, w200_121, w200_122, w200_125, w200_126, w200_127, w200_128, w200_129, w200_130, w200_131, hh1.2.1, s1, s2, hh1.2.2.1, h1, ↓reduceIte]
      refine L3 0 (by omega) I' f1 ?_ t1
      refine Eq.mp ?_ r1
      congr 1
  have L1 : ∀ k, k ≤ η.2.1 → ∀ (I' : Nat → Nat → Int32), fH I I' → mRr I' (sH1 η v ρ k) → WP (d + 4) 200 2 [.ref 180, .int v, .int (nI k)] [] (mHh xL I' J (mRf rc rx rr)) Q := by
    refine iter_dn ?_ ?_
    · intro k hk1 ih I' f1 r1
      have hh1 := fH_h f1 hh
      obtain ⟨w, hw, ew⟩ := hk.2.2.2.1 k hk1
      have h1 : ¬ nI η.2.1 ≤ nI k := nI_ge hk1 (by omega)
      have h2 : mIn (nI (6 * s + k)) 12 = true := mIn_nI (by omega) (by omega)
      have h3 : (nI (6 * s + k)).toNatClampNeg = 6 * s + k := nI_clamp (by omega)
      have h1' : mIn (nI w) 8 = true := mIn_nI (by omega) (by omega)
      have h2' : (nI w).toNatClampNeg = w := nI_clamp (by omega)
      have h5 : I' 194 (6 * s + k) = nI w := by rw [← ew]; exact (hh1.2.2.2.2.2.2.2.1 k hk1).1
      obtain ⟨ok, -, -, e7⟩ := sH1_ok hk ho v k (by omega)
      have ed : dn η (sH1 η v ρ k) v k = dn η ρ v k := by rw [dn, dn, e7]
      rw [w200_2]
      simp only [w200_0, w200_1, w200_3, w200_4, w200_7, w200_8, w200_11, w200_12, w200_15, w200_16, w200_17, w200_18, w200_21, w200_24, w200_25, w200_28, w200_29, w200_32, w200_34, w200_35, w200_38, w200_39, w200_40, w200_41, w200_42, w200_43, w200_44, w200_45, w200_48, w200_49, w200_52, w200_55, w200_56, w200_58, w200_59, w200_62, w200_63, w200_66, w200_67, w200_70, w200_71, w200_74, w200_75, w200_76, w200_77, w200_78, w200_81, w200_82, w200_85, w200_88, w200_89, w200_91, w200_92, w200_95, w200_96, w200_99, w200_100, w200_103, w200_104, w200_107, w200_108, w200_109, w200_112, w200_113, w200_114, w200_115, w200_118, w200_121, w200_122, w200_125, w200_126, w200_127, w200_128, w200_129, w200_130, w200_131, hh1.2.1, s1, s2, hh1.2.2.2.1, h1, ↓reduceIte, c185 hh1 hk r1 hk1, ↓reduceIte, Option.toList_some, Option.toList_none, List.cons_append, List.nil_append, Int32.reduceAdd, Int32.reduceLT, Int32.reduceLE, Int32.reduceToNatClampNeg, ed]
      by_cases hd : dn η ρ v k = true
      · have e : ¬ sB01 (dn η ρ v k) = 0 := by rw [hd]; decide
        simp only [e, ↓reduceIte, w200_0, w200_1, w200_3, w200_4, w200_7, w200_8, w200_11, w200_12, w200_15, w200_16, w200_17, w200_18, w200_21, w200_24, w200_25, w200_28, w200_29, w200_32, w200_34, w200_35, w200_38, w200_39, w200_40, w200_41, w200_42, w200_43, w200_44, w200_45, w200_48, w200_49, w200_52, w200_55, w200_56, w200_58, w200_59, w200_62, w200_63, w200_66, w200_67, w200_70, w200_71, w200_74, w200_75, w200_76, w200_77, w200_78, w200_81, w200_82, w200_85, w200_88, w200_89, w200_91, w200_92, w200_95, w200_96, w200_99, w200_100, w200_103, w200_104, w200_107, w200_108, w200_109, w200_112, w200_113, w200_114, w200_115, w200_118, w200_121, w200_122, w200_125, w200_126, w200_127, w200_128, w200_129, w200_130, w200_131, hh1.2.1, a3, nI_add, h2, h3, h5]
        refine c186 hh1 hk r1 hk1 v ?_
        intro I2 f2
        simp only [↓reduceIte, Option.toList_some, Option.toList_none, List.cons_append, List.nil_append, Int32.reduceAdd, Int32.reduceLT, Int32.reduceLE, Int32.reduceToNatClampNeg, w200_0, w200_1, w200_3, w200_4, w200_7, w200_8, w200_11, w200_12, w200_15, w200_16, w200_17, w200_18, w200_21, w200_24, w200_25, w200_28, w200_29, w200_32, w200_34, w200_35, w200_38, w200_39, w200_40, w200_41, w200_42, w200_43, w200_44, w200_45, w200_48, w200_49, w200_52, w200_55, w200_56, w200_58, w200_59, w200_62, w200_63, w200_66, w200_67, w200_70, w200_71, w200_74, w200_75, w200_76, w200_77, w200_78, w200_81, w200_82, w200_85, w200_88, w200_89, w200_91, w200_92, w200_95, w200_96, w200_99, w200_100, w200_103, w200_104, w200_107, w200_108, w200_109, w200_112, w200_113, w200_114, w200_115, w200_118, w200_121, w200_122, w200_125, w200_126, w200_127, w200_128, w200_129, w200_130, w200_131, h1', h2', nI_1]
        refine ih _ (fH_w (fH_t f1 (fM_H f2))) ?_
        have := mRr_u (w := w) (x := sChg η (sH1 η v ρ k) k v) (by omega) (fM_r f2 r1)
        rw [sH1, if_pos hd, ew, h2']
        exact this
      · have hd' : dn η ρ v k = false := by simpa using hd
        have e : sB01 (dn η ρ v k) = 0 := by rw [hd']; rfl
        simp only [e, ↓reduceIte, w200_0, w200_1, w200_3, w200_4, w200_7, w200_8, w200_11, w200_12, w200_15, w200_16, w200_17, w200_18, w200_21, w200_24, w200_25, w200_28, w200_29, w200_32, w200_34, w200_35, w200_38, w200_39, w200_40, w200_41, w200_42, w200_43, w200_44, w200_45, w200_48, w200_49, w200_52, w200_55, w200_56, w200_58, w200_59, w200_62, w200_63, w200_66, w200_67, w200_70, w200_71, w200_74, w200_75, w200_76, w200_77, w200_78, w200_81, w200_82, w200_85, w200_88, w200_89, w200_91, w200_92, w200_95, w200_96, w200_99, w200_100, w200_103, w200_104, w200_107, w200_108, w200_109, w200_112, w200_113, w200_114, w200_115, w200_118, w200_121, w200_122, w200_125, w200_126, w200_127, w200_128, w200_129, w200_130, w200_131, nI_1]
        refine ih _ f1 ?_
        rw [sH1, if_neg hd]; exact r1
    · intro I' f1 r1
      have hh1 := fH_h f1 hh
      have h1 : nI η.2.1 ≤ nI η.2.1 := nI_le (Nat.le_refl _) (by omega)
      rw [w200_2]
      simp only [w200_0, w200_1, w200_3, w200_4, w200_7, w200_8, w200_11, w200_12, w200_15, w200_16, w200_17, w200_18, w200_21, w200_24, w200_25, w200_28, w200_29, w200_32, w200_34, w200_35, w200_38, w200_39, w200_40, w200_41, w200_42, w200_43, w200_44, w200_45, w200_48, w200_49, w200_52, w200_55, w200_56, w200_58, w200_59, w200_62, w200_63, w200_66, w200_67, w200_70, w200_71, w200_74, w200_75, w200_76, w200_77, w200_78, w200_81, w200_82, w200_85, w200_88, w200_89, w200_91, w200_92, w200_95, w200_96, w200_99, w200_100, w200_103, w200_104, w200_107, w200_108, w200_109, w200_112, w200_113, w200_114, w200_115, w200_118, w200_121, w200_122, w200_125, w200_126, w200_127, w200_128, w200_129, w200_130, w200_131, hh1.2.1, s1, s2, hh1.2.2.2.1, h1, ↓reduceIte]
      exact L2 0 (by omega) I' f1 r1 (fun j hj => absurd hj (by omega))
  exact L1 0 (by omega) I fH_0 hr
end MHO
