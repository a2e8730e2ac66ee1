/-! An hour, as the glass has it go by. -/
def fA (a : Nat) (I I' : Nat → Nat → Int32) : Prop := ∀ b, b ≠ 38 → b ≠ 39 → b ≠ 40 → b ≠ a → b ≠ a + 1 → I' b = I b
theorem fA_t {a : Nat} {I I1 I2 : Nat → Nat → Int32} (h1 : fA a I I1) (h2 : fA a I1 I2) : fA a I I2 := fun b x y z u w => by rw [h2 b x y z u w, h1 b x y z u w]
theorem fX_a {a : Nat} {I I' : Nat → Nat → Int32} (h : fX I I') : fA a I I' := fun b x y z _ _ => h b x y z
theorem fA_0 {a : Nat} {I : Nat → Nat → Int32} : fA a I I := fun _ _ _ _ _ _ => rfl
theorem fA_h {a o : Nat} {I I' : Nat → Nat → Int32} {η : mHs} (ha : mSt a) (hf : fA a I I') (h : mXh I o η) : mXh I' o η := by
  have := st_big ha
  by_cases h61 : a = 61
  · exfalso
    subst h61
    have h1 : mStL.all (fun s => decide (s ≠ 61)) = true := by decide +kernel
    have h2 := List.all_eq_true.mp h1 61 ha
    simp at h2
  · exact mXh_keep (fun b hb => hf b (by omega) (by omega) (by omega) (by omega) (by omega)) h
theorem mRw_u {a w : Nat} {I : Nat → Nat → Int32} {ρ : Nat → Int32} {x : Int32} (hw : w < 5) (hr : mRw I a = ρ) : mRw (mU I (a + 1) w x) a = rU ρ w x := by
  subst hr; funext q
  have n1 : ¬ a = a + 1 := by omega
  simp only [mRw, rU, mU_e, n1, false_and, true_and, ↓reduceIte]
  by_cases h : q = w
  · subst h; simp only [hw, ↓reduceIte]
  · simp only [h, ↓reduceIte]
theorem mRw_h {a : Nat} {I : Nat → Nat → Int32} {ρ : Nat → Int32} {x : Int32} (hr : mRw I a = ρ) : mRw (mU I a 1 x) a = rU ρ 5 x := by
  subst hr; funext q
  have n1 : ¬ a + 1 = a := by omega
  simp only [mRw, rU, mU_e, n1, false_and, true_and, ↓reduceIte]
  by_cases h : q = 5
  · subst h; simp
  · simp only [h, ↓reduceIte]
    split
    · rfl
    · simp
section HOR
variable {d : Nat} {xL : Nat} {I : Nat → Nat → Int32} {J : Nat → Nat → Int64} {rc rx rr : Nat} {Q : Option Value → mHp → Prop} {a o : Nat} {η : mHs} {ρ : Nat → Int32}
theorem c16 (ha : mSt a) (hk : hOk η) (hh : mXh I rc η) (hr : mRw I a = ρ) (ho : rOk η ρ) (v : Int32) (hQ : ∀ I' : Nat → Nat → Int32, fA a I I' → mRw I' a = sHr η ρ v → Q (some (.int (sDn η ρ v))) (mHh xL I' J (mRf rc rx rr))) :
    WP (d + 3) 16 0 [.ref 37, .ref a, .int v, mDum, mDum, mDum] [] (mHh xL I J (mRf rc rx rr)) Q := by
  have hHo := hh.1
  have hn := hk.1
  have hn2 := hk.2.1
  have big := st_big ha
  obtain ⟨-, -, k3, k4, -⟩ := st_k ha
  obtain ⟨-, -, -, -, k7, -, -, -, -, -, -, -, k8, -⟩ := mHo_k hHo
  have k40 : lyK 40 = 1 := by decide +kernel
  have k40' : lyN 40 = 5 := by decide +kernel
  simp only [w16_0, w16_1, w16_2, w16_3, c10 ha hk hh hr, ↓reduceIte, Option.toList_some, Option.toList_none, List.cons_append, List.nil_append, Int32.reduceAdd, Int32.reduceLT, Int32.reduceLE, Int32.reduceToNatClampNeg, w16_6, w16_7, w16_8]
  have L3 : ∀ p, p ≤ η.1 → ∀ (I' : Nat → Nat → Int32) (v5 : Value), fA a I I' → mRw I' a = (fun q => if q < p then sDft η (sH1 η v ρ η.2.1) q v else sH1 η v ρ η.2.1 q) → (∀ j, j < η.1 → I' 40 j = sDft η (sH1 η v ρ η.2.1) j v) → WP (d + 3) 16 125 [.ref 37, .ref a, .int v, .int (sDn η ρ v), .int (nI p), v5] [] (mHh xL I' J (mRf rc rx rr)) Q := by
    refine iter_dn ?_ ?_
    · intro p hp ih I' v5 f1 r1 t1
      have hh1 := fA_h ha f1 hh
      have h1 : ¬ nI η.1 ≤ nI p := nI_ge hp (by omega)
      have h2 : mIn (nI p) 5 = true := mIn_nI (by omega) (by omega)
      have h3 : (nI p).toNatClampNeg = p := nI_clamp (by omega)
      rw [w16_125]
      simp only [w16_127, w16_128, w16_131, hHo, hh1.2.1, w16_134, h1, ↓reduceIte, w16_137, w16_138, ha, w16_141, w16_143, w16_144, w16_147, w16_149, h2, h3, t1 p hp, w16_150, k3, k4, w16_151, w16_154, nI_1]
      refine ih _ _ ?_ ?_ ?_
      · intro b x y z u w
        rw [mU_f w, f1 b x y z u w]
      · rw [mRw_u (by omega) r1]
        funext q
        rw [rU]
        by_cases e : q = p
        · subst e; rw [if_pos rfl, if_pos (by omega)]
        · rw [if_neg e]
          by_cases e2 : q < p
          · rw [if_pos e2, if_pos (by omega)]
          · rw [if_neg e2, if_neg (by omega)]
      · intro j hj
        rw [mU_a (by omega)]; exact t1 j hj
    · intro I' v5 f1 r1 t1
      have hh1 := fA_h ha f1 hh
      have h1 : nI η.1 ≤ nI η.1 := nI_le (Nat.le_refl _) (by omega)
      obtain ⟨r5, -, -⟩ := mRw_5 r1
      obtain ⟨-, e5, -, -⟩ := sH1_ok hk ho v η.2.1 (Nat.le_refl _)
      simp only [w16_125, w16_127, w16_128, w16_131, hHo, hh1.2.1, w16_134, h1, ↓reduceIte, w16_157, w16_158, w16_159, ha, w16_162, w16_163, w16_164, w16_167, w16_168]
      refine hQ _ ?_ ?_
      · intro b x y z u w
        rw [mU_f u, f1 b x y z u w]
      · rw [mRw_h r1, r5]
        funext q
        rw [rU, sHr]
        by_cases e : q = 5
        · subst e
          simp only [e5, ↓reduceIte]
          rw [if_neg (by omega), if_neg (by omega)]
        · rw [if_neg e, if_neg e]
  have L2 : ∀ p, p ≤ η.1 → ∀ (I' : Nat → Nat → Int32) (v5 : Value), fA a I I' → mRw I' a = sH1 η v ρ η.2.1 → mSee I' (sH1 η v ρ η.2.1) → (∀ j, j < p → I' 40 j = sDft η (sH1 η v ρ η.2.1) j v) → WP (d + 3) 16 89 [.ref 37, .ref a, .int v, .int (sDn η ρ v), .int (nI p), v5] [] (mHh xL I' J (mRf rc rx rr)) Q := by
    refine iter_dn ?_ ?_
    · intro p hp ih I' v5 f1 r1 s1 t1
      have hh1 := fA_h ha f1 hh
      have h1 : ¬ nI η.1 ≤ nI p := nI_ge hp (by omega)
      have h2 : mIn (nI p) 5 = true := mIn_nI (by omega) (by omega)
      have h3 : (nI p).toNatClampNeg = p := nI_clamp (by omega)
      simp only [w16_89, w16_91, w16_92, w16_95, hHo, hh1.2.1, w16_98, h1, ↓reduceIte, w16_101, w16_102, w16_105, w16_107, w16_108, w16_109, w16_111, w16_112]
      refine c9 ha hk hh1 r1 s1 hp v ?_
      intro I2 f2 s2
      simp only [↓reduceIte, Option.toList_some, Option.toList_none, List.cons_append, List.nil_append, Int32.reduceAdd, Int32.reduceLT, Int32.reduceLE, Int32.reduceToNatClampNeg, w16_115, h2, h3, w16_116, w16_119, nI_1]
      refine ih _ _ ?_ ?_ ?_ ?_
      · intro b x y z u w
        rw [mU_f z, f2 b x y, f1 b x y z u w]
      · exact mRw_keep (I := I2) (mU_f (by omega)) (mU_f (by omega)) (fX_r ha (fY_x f2) r1)
      · obtain ⟨q1, q2, q3, q4⟩ := s2
        refine ⟨?_, ?_, ?_, ?_⟩ <;> rw [mU_a (by decide)] <;> assumption
      · intro j hj
        by_cases e : j = p
        · subst e; rw [mU_s]
        · rw [mU_k e, f2 40 (by decide) (by decide)]; exact t1 j (by omega)
    · intro I' v5 f1 r1 s1 t1
      have hh1 := fA_h ha f1 hh
      have h1 : nI η.1 ≤ nI η.1 := nI_le (Nat.le_refl _) (by omega)
      simp only [w16_89, w16_91, w16_92, w16_95, hHo, hh1.2.1, w16_98, h1, ↓reduceIte, w16_122, w16_123]
      refine L3 0 (by omega) I' v5 f1 ?_ t1
      rw [r1]; funext q; rw [if_neg (by omega)]
  have L1 : ∀ k, k ≤ η.2.1 → ∀ (I' : Nat → Nat → Int32) (v5 : Value), fA a I I' → mRw I' a = sH1 η v ρ k → WP (d + 3) 16 10 [.ref 37, .ref a, .int v, .int (sDn η ρ v), .int (nI k), v5] [] (mHh xL I' J (mRf rc rx rr)) Q := by
    refine iter_dn ?_ ?_
    · intro k hk1 ih I' v5 f1 r1
      have hh1 := fA_h ha f1 hh
      obtain ⟨w, hw, ew⟩ := hk.2.2.2.1 k hk1
      have h1 : ¬ nI η.2.1 ≤ nI k := nI_ge hk1 (by omega)
      have h2 : mIn (nI k) 6 = true := mIn_nI (by omega) (by omega)
      have h3 : (nI k).toNatClampNeg = k := nI_clamp (by omega)
      have h1' : mIn (nI w) 5 = true := mIn_nI (by omega) (by omega)
      have h2' : (nI w).toNatClampNeg = w := nI_clamp (by omega)
      have h5 : I' (rc + 5) k = nI w := by rw [← ew]; exact (hh1.2.2.2.2.2.2.1 k hk1).1
      have h7 : ¬ nI w < 0 := nI_pos (by omega)
      have h8 : ¬ 5 ≤ nI w := by rw [ni_le 5 (by decide) (by omega)]; omega
      have ok := (sH1_ok hk ho v k (by omega)).1
      simp only [w16_10, w16_12, w16_13, w16_16, hHo, hh1.2.2.1, w16_19, h1, ↓reduceIte, w16_22, w16_23, w16_26, w16_29, w16_31, k7, k8, h2, h3, h5, w16_32, w16_34, w16_35, w16_37, w16_38, w16_39, w16_40, w16_41]
      by_cases hd : dn η ρ v k = true
      · have e := (dn_bit hk ho v hk1).2 hd
        simp only [e, ↓reduceIte, w16_44, w16_46, h7, w16_49, w16_51, w16_52, h8, w16_55, w16_56, w16_57]
        refine c6 ha hk hh1 r1 ok ?_
        intro I2 f2 g2 s2
        have f2' : fX I' I2 := fun b x _ _ => f2 b x
        simp only [↓reduceIte, Option.toList_some, Option.toList_none, List.cons_append, List.nil_append, Int32.reduceAdd, Int32.reduceLT, Int32.reduceLE, Int32.reduceToNatClampNeg, w16_60, w16_61, ha, w16_64, w16_66, w16_67, w16_68, w16_70, w16_71]
        refine c11 ha hk (fX_h f2' hh1) (fX_r ha f2' r1) s2 hk1 v ?_
        intro I3 f3 s3
        simp only [↓reduceIte, Option.toList_some, Option.toList_none, List.cons_append, List.nil_append, Int32.reduceAdd, Int32.reduceLT, Int32.reduceLE, Int32.reduceToNatClampNeg, w16_74, k3, k4, h1', h2', w16_75, w16_78, nI_1]
        refine ih _ _ ?_ ?_
        · intro b x y z u w'
          rw [mU_f w', f3 b x y, f2 b x, f1 b x y z u w']
        · rw [mRw_u (by omega) (fX_r ha (fY_x f3) (fX_r ha f2' r1)), sH1, hd, ew, h2']; rfl
      · have e : ¬ (sDn η ρ v >>> (nI k &&& 31)) &&& 1 = 1 := fun z => hd ((dn_bit hk ho v hk1).1 z)
        simp only [e, ↓reduceIte, w16_75, w16_78, nI_1]
        refine ih _ _ f1 ?_
        rw [r1, sH1, if_neg hd]
    · intro I' v5 f1 r1
      have hh1 := fA_h ha f1 hh
      have h1 : nI η.2.1 ≤ nI η.2.1 := nI_le (Nat.le_refl _) (by omega)
      have ok := (sH1_ok hk ho v η.2.1 (Nat.le_refl _)).1
      simp only [w16_10, w16_12, w16_13, w16_16, hHo, hh1.2.2.1, w16_19, h1, ↓reduceIte, w16_81, w16_82, w16_83]
      refine c6 ha hk hh1 r1 ok ?_
      intro I2 f2 g2 s2
      have f2' : fX I' I2 := fun b x _ _ => f2 b x
      simp only [↓reduceIte, Option.toList_some, Option.toList_none, List.cons_append, List.nil_append, Int32.reduceAdd, Int32.reduceLT, Int32.reduceLE, Int32.reduceToNatClampNeg, w16_86, w16_87]
      exact L2 0 (by omega) I2 v5 (fA_t f1 (fX_a f2')) (fX_r ha f2' r1) s2 (fun j hj => absurd hj (by omega))
  exact L1 0 (by omega) I _ fA_0 hr
end HOR
