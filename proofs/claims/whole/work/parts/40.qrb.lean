/-! Queries: gloomiest. -/
def gW (ρ : Nat → Int32) : Nat → Nat
  | 0 => 0
  | k + 1 => if ρ (k + 1) < ρ (gW ρ k) then k + 1 else gW ρ k
theorem gW_le (ρ : Nat → Int32) : ∀ k, gW ρ k ≤ k := by
  intro k
  induction k with
  | zero => exact Nat.le_refl _
  | succ k ih => rw [gW]; split <;> omega
def q_gloom (η : mHs) (ρ : Nat → Int32) (w : Int32) : Int32 := if sW w 0 1 then (if η.1 = 0 then -2 else if w = 0 then nI (gW ρ (η.1 - 1)) else ρ (gW ρ (η.1 - 1))) else -1
section QRB
variable {d : Nat} {xL : Nat} {I : Nat → Nat → Int32} {J : Nat → Nat → Int64} {rr : Nat} {Q : Option Value → mHp → Prop} {s o : Nat} {η : mHs} {ρ : Nat → Int32}
theorem c119 (hb : xB I o η ρ) (w : Int32) : WP (d + 1) 119 0 [.ref 7, .int w, mDum, mDum] [] (mHh xL I J (mRf o o rr)) Q = Q (some (.int (q_gloom η ρ w))) (mHh xL I J (mRf o o rr)) := by
  obtain ⟨hk, hh, hr, ho, -⟩ := hb
  have hn := hk.1
  have hHo := hh.1
  obtain ⟨-, -, k3, k4, -⟩ := st_k s163
  simp only [w119_0, w119_1, w119_2, w119_3, c95, ↓reduceIte, Option.toList_some, Option.toList_none, List.cons_append, List.nil_append, Int32.reduceAdd, Int32.reduceLT, Int32.reduceLE, Int32.reduceToNatClampNeg, w119_6, q_gloom]
  by_cases h : sW w 0 1 = true
  · rw [if_pos h]
    simp only [sB_t h, o01, ↓reduceIte, w119_11, w119_12, w119_15, hHo, hh.2.1, w119_18]
    by_cases h0 : η.1 = 0
    · have e : nI η.1 = 0 := by rw [h0]; rfl
      simp only [h0, e, ↓reduceIte, nI_0, w119_21, w119_23]
    · have e : ¬ nI η.1 = 0 := nI_ne0 (by omega) (by omega)
      simp only [h0, e, ↓reduceIte, w119_24, w119_25, w119_26, w119_27]
      have key : ∀ k, k ≤ η.1 - 1 → WP (d + 1) 119 28 [.ref 7, .int w, .int (nI (gW ρ k)), .int (nI (k + 1))] [] (mHh xL I J (mRf o o rr)) Q = Q (some (.int (if w = 0 then nI (gW ρ (η.1 - 1)) else ρ (gW ρ (η.1 - 1))))) (mHh xL I J (mRf o o rr)) := by
        refine iter_dn ?_ ?_
        · intro k hk1 ih
          have g := gW_le ρ k
          have h1 : ¬ nI η.1 ≤ nI (k + 1) := nI_ge (by omega) (by omega)
          have h2 : mIn (nI (k + 1)) 5 = true := mIn_nI (by omega) (by omega)
          have h3 : (nI (k + 1)).toNatClampNeg = k + 1 := nI_clamp (by omega)
          have h4 : mIn (nI (gW ρ k)) 5 = true := mIn_nI (by omega) (by omega)
          have h5 : (nI (gW ρ k)).toNatClampNeg = gW ρ k := nI_clamp (by omega)
          have a1 : I (163 + 1) (k + 1) = ρ (k + 1) := mRw_p hr (by omega)
          have a2 : I (163 + 1) (gW ρ k) = ρ (gW ρ k) := mRw_p hr (by omega)
          rw [← ih, gW, w119_28]
          simp only [w119_0, w119_1, w119_2, w119_3, w119_6, w119_9, w119_10, w119_11, w119_12, w119_15, w119_18, w119_21, w119_23, w119_24, w119_25, w119_26, w119_27, w119_29, w119_30, w119_33, w119_36, w119_39, w119_40, w119_43, w119_46, w119_47, w119_48, w119_49, w119_52, w119_55, w119_56, w119_57, w119_60, w119_61, w119_62, w119_65, w119_68, w119_69, w119_72, w119_73, w119_76, w119_77, w119_80, w119_83, w119_84, w119_85, hHo, hh.2.1, s163, k3, k4, h1, h2, h3, h4, h5, a1, a2, ↓reduceIte]
          by_cases hc : ρ (k + 1) < ρ (gW ρ k)
          · simp only [hc, i_lt hc, ↓reduceIte, nI_1]
          · simp only [hc, i_nlt hc, ↓reduceIte, nI_1]
        · have g := gW_le ρ (η.1 - 1)
          have h1 : nI η.1 ≤ nI (η.1 - 1 + 1) := nI_le (by omega) (by omega)
          have h4 : mIn (nI (gW ρ (η.1 - 1))) 5 = true := mIn_nI (by omega) (by omega)
          have h5 : (nI (gW ρ (η.1 - 1))).toNatClampNeg = gW ρ (η.1 - 1) := nI_clamp (by omega)
          have a2 : I (163 + 1) (gW ρ (η.1 - 1)) = ρ (gW ρ (η.1 - 1)) := mRw_p hr (by omega)
          rw [w119_28]
          simp only [w119_0, w119_1, w119_2, w119_3, w119_6, w119_9, w119_10, w119_11, w119_12, w119_15, w119_18, w119_21, w119_23, w119_24, w119_25, w119_26, w119_27, w119_29, w119_30, w119_33, w119_36, w119_39, w119_40, w119_43, w119_46, w119_47, w119_48, w119_49, w119_52, w119_55, w119_56, w119_57, w119_60, w119_61, w119_62, w119_65, w119_68, w119_69, w119_72, w119_73, w119_76, w119_77, w119_80, w119_83, w119_84, w119_85, hHo, hh.2.1, s163, k3, k4, h1, h4, h5, a2, ↓reduceIte]
          by_cases hw : w = 0
          · simp only [hw, ↓reduceIte]
          · simp only [hw, ↓reduceIte]
      exact key 0 (by omega)
  · have h2 : sW w 0 1 = false := by simpa using h
    rw [if_neg h]
    simp only [sB_f h2, ↓reduceIte, w119_9, w119_10]
theorem c225 (hb : zB I s η ρ) {rc rx : Nat} (w : Int32) : WP (d + 1) 225 0 [.ref 180, .int w, mDum, mDum] [] (mHh xL I J (mRf rc rx rr)) Q = Q (some (.int (q_gloom η ρ w))) (mHh xL I J (mRf rc rx rr)) := by
  obtain ⟨hk, hh, hr, ho, -⟩ := hb
  have hn := hk.1
  have hs := hh.1
  have s1 : mIn (nI s) 2 = true := mIn_nI (by omega) (by omega)
  have s2 : (nI s).toNatClampNeg = s := nI_clamp (by omega)
  have e9 : (decide ((0 : Int32) ≤ w) && decide (w ≤ 1)) = sW w 0 1 := rfl
  have m2 : ((-2 : Int32) < 0) = True := by simp
  simp only [w225_0, w225_1, w225_2, w225_3, c170, e9, ↓reduceIte, Option.toList_some, Option.toList_none, List.cons_append, List.nil_append, Int32.reduceAdd, Int32.reduceLT, Int32.reduceLE, Int32.reduceToNatClampNeg, w225_6, q_gloom]
  by_cases h : sW w 0 1 = true
  · rw [if_pos h]
    simp only [sB_t h, o01, ↓reduceIte, w225_11, w225_13, w225_14, w225_15]
    have key : ∀ k, k ≤ η.1 - 1 → 0 < η.1 → WP (d + 1) 225 16 [.ref 180, .int w, .int (nI (gW ρ k)), .int (nI (k + 1))] [] (mHh xL I J (mRf rc rx rr)) Q = Q (some (.int (if w = 0 then nI (gW ρ (η.1 - 1)) else ρ (gW ρ (η.1 - 1))))) (mHh xL I J (mRf rc rx rr)) := by
      refine iter_dn ?_ ?_
      · intro k hk1 ih hp
        have g := gW_le ρ k
        have h1 : ¬ nI η.1 ≤ nI (k + 1) := nI_ge (by omega) (by omega)
        have h2 : mIn (nI (k + 1)) 8 = true := mIn_nI (by omega) (by omega)
        have h3 : (nI (k + 1)).toNatClampNeg = k + 1 := nI_clamp (by omega)
        have h4 : mIn (nI (gW ρ k)) 8 = true := mIn_nI (by omega) (by omega)
        have h5 : (nI (gW ρ k)).toNatClampNeg = gW ρ k := nI_clamp (by omega)
        have h6 : ¬ nI (gW ρ k) < 0 := nI_pos (by omega)
        have a1 : I 212 (k + 1) = ρ (k + 1) := mNw_at hr (by omega)
        have a2 : I 212 (gW ρ k) = ρ (gW ρ k) := mNw_at hr (by omega)
        rw [← ih hp, gW, w225_16]
        simp only [w225_0, w225_1, w225_2, w225_3, w225_6, w225_9, w225_10, w225_11, w225_13, w225_14, w225_15, w225_17, w225_18, w225_21, w225_22, w225_25, w225_26, w225_29, w225_30, w225_33, w225_34, w225_37, w225_38, w225_39, w225_40, w225_43, w225_44, w225_45, w225_48, w225_49, w225_50, w225_53, w225_56, w225_57, w225_60, w225_61, w225_64, w225_65, w225_68, w225_69, w225_72, w225_73, w225_74, hh.2.1, s1, s2, hh.2.2.1, h1, h2, h3, h4, h5, h6, a1, a2, ↓reduceIte]
        by_cases hc : ρ (k + 1) < ρ (gW ρ k)
        · simp only [hc, i_lt hc, ↓reduceIte, nI_1]
        · simp only [hc, i_nlt hc, ↓reduceIte, nI_1]
      · intro hp
        have g := gW_le ρ (η.1 - 1)
        have h1 : nI η.1 ≤ nI (η.1 - 1 + 1) := nI_le (by omega) (by omega)
        have h4 : mIn (nI (gW ρ (η.1 - 1))) 8 = true := mIn_nI (by omega) (by omega)
        have h5 : (nI (gW ρ (η.1 - 1))).toNatClampNeg = gW ρ (η.1 - 1) := nI_clamp (by omega)
        have h6 : ¬ nI (gW ρ (η.1 - 1)) < 0 := nI_pos (by omega)
        have a2 : I 212 (gW ρ (η.1 - 1)) = ρ (gW ρ (η.1 - 1)) := mNw_at hr (by omega)
        rw [w225_16]
        simp only [w225_0, w225_1, w225_2, w225_3, w225_6, w225_9, w225_10, w225_11, w225_13, w225_14, w225_15, w225_17, w225_18, w225_21, w225_22, w225_25, w225_26, w225_29, w225_30, w225_33, w225_34, w225_37, w225_38, w225_39, w225_40, w225_43, w225_44, w225_45, w225_48, w225_49, w225_50, w225_53, w225_56, w225_57, w225_60, w225_61, w225_64, w225_65, w225_68, w225_69, w225_72, w225_73, w225_74, hh.2.1, s1, s2, hh.2.2.1, h1, h4, h5, h6, a2, ↓reduceIte]
        by_cases hw : w = 0
        · simp only [hw, ↓reduceIte]
        · simp only [hw, ↓reduceIte]
    rw [w225_16]
    by_cases h0 : η.1 = 0
    · have e : nI 0 ≤ 0 := by decide
      simp only [w225_0, w225_1, w225_2, w225_3, w225_6, w225_9, w225_10, w225_11, w225_13, w225_14, w225_15, w225_17, w225_18, w225_21, w225_22, w225_25, w225_26, w225_29, w225_30, w225_33, w225_34, w225_37, w225_38, w225_39, w225_40, w225_43, w225_44, w225_45, w225_48, w225_49, w225_50, w225_53, w225_56, w225_57, w225_60, w225_61, w225_64, w225_65, w225_68, w225_69, w225_72, w225_73, w225_74, hh.2.1, s1, s2, hh.2.2.1, h0, e, m2, ↓reduceIte]
    · have e : ¬ nI η.1 ≤ 0 := nI_nle (by omega) (by omega)
      have e1 : (0 : Int32) + 1 = nI (0 + 1) := rfl
      simp only [w225_17, w225_18, w225_21, w225_22, w225_25, w225_26, hh.2.1, s1, s2, hh.2.2.1, e, h0, m2, ↓reduceIte, w225_29, w225_30, w225_48, w225_49, w225_50, w225_53, e1]
      exact key 0 (by omega) (by omega)
  · have h2 : sW w 0 1 = false := by simpa using h
    rw [if_neg h]
    simp only [sB_f h2, ↓reduceIte, w225_9, w225_10]
end QRB
