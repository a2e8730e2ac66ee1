/-! A game, as the model lays it out: a play, the least by a move. -/
def lv (k : Nat) : Nat := if k = 0 then 0 else if k = 1 then 1 else if k = 2 then 15 else if k = 3 then 211 else 2955
def lvI (I : Nat → Nat → Int32) : Prop := ∀ k, k < 5 → I 219 k = nI (lv k)
theorem lv_s : ∀ k, k < 4 → lv (k + 1) = lv k + 14 ^ k ∧ lv (k + 1) ≤ 2955 ∧ (k < 3 → lv (k + 1) + 14 * 14 ^ k = lv (k + 2)) := by decide
def gO : Option Nat → Int32
  | none => -1
  | some x => nI x
section GAD
variable {d : Nat} {xL : Nat} {I : Nat → Nat → Int32} {J : Nat → Nat → Int64} {rc rx rr : Nat} {Q : Option Value → mHp → Prop} {s : Nat} {η : mHs} {ρ : mRo5}
theorem c237 {n : Nat} (hn : n < 2955) (hQ : ∀ I' : Nat → Nat → Int32, (∀ a, a ≠ 213 → I' a = I a) → (∀ k, k < 8 → I' 213 k = I 220 (8 * n + k)) → Q none (mHh xL I' J (mRf rc rx rr))) : WP d 237 0 [.ref 180, .int (nI n), mDum] [] (mHh xL I J (mRf rc rx rr)) Q := by
  have e8 : ∀ k, 8 * nI k = nI (8 * k) := fun k => pk_mul 8 k
  simp only [w237_0, w237_1]
  have key : ∀ k, k ≤ 8 → ∀ I' : Nat → Nat → Int32, (∀ a, a ≠ 213 → I' a = I a) → (∀ j, j < k → I' 213 j = I 220 (8 * n + j)) → WP d 237 2 [.ref 180, .int (nI n), .int (nI k)] [] (mHh xL I' J (mRf rc rx rr)) Q := by
    refine iter_dn ?_ ?_
    · intro k hk ih I' f t
      have g1 : ¬ 8 ≤ nI k := by rw [ni_le 8 (by decide) (by omega)]; omega
      have a1 : mIn (nI k) 8 = true := mIn_nI (by omega) (by omega)
      have a2 : (nI k).toNatClampNeg = k := nI_clamp (by omega)
      have a3 : mIn (nI (8 * n + k)) 23640 = true := mIn_nI (by omega) (by omega)
      have a4 : (nI (8 * n + k)).toNatClampNeg = 8 * n + k := nI_clamp (by omega)
      have e1 : I' 220 (8 * n + k) = I 220 (8 * n + k) := by rw [f 220 (by decide)]
      rw [w237_2]
      simp only [w237_0, w237_1, w237_3, w237_5, w237_8, w237_9, w237_12, w237_13, w237_14, w237_17, w237_19, w237_20, w237_21, w237_22, w237_23, w237_24, w237_25, w237_28, w237_31, g1, ↓reduceIte, e8, nI_add, a3, a4, a1, a2, e1, nI_1]
      refine ih _ (fun a p => by rw [mU_f p, f a p]) ?_
      intro j hj
      by_cases e : j = k
      · subst e; exact mU_s _ _ _ _
      · rw [mU_k e]; exact t j (by omega)
    · intro I' f t
      have g1 : 8 ≤ nI 8 := by decide
      rw [w237_2]
      simp only [w237_0, w237_1, w237_3, w237_5, w237_8, w237_9, w237_12, w237_13, w237_14, w237_17, w237_19, w237_20, w237_21, w237_22, w237_23, w237_24, w237_25, w237_28, w237_31, g1, ↓reduceIte]
      exact hQ I' f t
  exact key 0 (by omega) I (fun _ _ => rfl) (fun j hj => absurd hj (by omega))
theorem sMrk_D (ρ : mRo5) (t j : Nat) : sMrk η (gD ρ t j) = sMrk η (rT ρ t) := by
  rw [gD]
  split
  · rfl
  · rw [rF, sMrk_7]
theorem c238 (hh : mMh I s η) (hk : hOk η) (hr : mRr I ρ) (ho : rOk η ρ) {m : Nat} (h5 : ρ 5 = nI m) (hm : m < 2 ^ 30) (h52 : I 180 52 = 1) {t j : Nat} (ht : t < 2) (hj : j < 7) (hQ1 : gOk η ρ t j = false → Q (some (.int 0)) (mHh xL I J (mRf rc rx rr))) (hQ2 : gOk η ρ t j = true → ∀ I', fH I I' → mRr I' (gC η ρ t j) → Q (some (.int 1)) (mHh xL I' J (mRf rc rx rr))) : WP (d + 6) 238 0 [.ref 180, .int (nI (7 * t + j)), mDum, mDum, mDum] [] (mHh xL I J (mRf rc rx rr)) Q := by
  have hn6 := hk.2.1
  obtain ⟨t6, ht6, e6⟩ := ho.2.2.2.1
  obtain ⟨f7, hf7, ef7⟩ := ho.2.2.2.2.1
  have h64 := pow6 hn6
  have ec6 : (ρ 6).toNatClampNeg = t6 := by rw [e6]; exact nI_clamp (by omega)
  have ec7 : (ρ 7).toNatClampNeg = f7 := by rw [ef7]; exact nI_clamp (by omega)
  have ed : nI (7 * t + j) / 7 = nI t := (pk_div (a := 7 * t + j) (d := 7) (by omega) (by decide) (by decide)).trans (by congr 1; omega)
  have er0 : nI (7 * t + j) - nI (7 * t + j) / 7 * 7 = nI j := (pk_rem (a := 7 * t + j) (d := 7) (by omega) (by decide) (by decide)).trans (by congr 1; omega)
  have er : nI (7 * t + j) - nI t * 7 = nI j := by rw [← ed]; exact er0
  have r6 : I 213 6 = nI t6 := by rw [mRr_at hr (by omega), e6]
  have r7 : I 213 7 = ρ 7 := mRr_at hr (by omega)
  have a6 : (6 : Int32).toNatClampNeg = 6 := rfl
  have g9 : (9 < nI (t6 + t)) ↔ ¬ t6 + t ≤ 9 := by rw [ni_lt 9 (by decide) (by omega)]; omega
  simp only [w238_0, w238_1, w238_3, ed, w238_4, w238_5, w238_6, w238_8, er, w238_9, w238_10, w238_11, w238_12, w238_13, w238_16, w238_18, r6, w238_19, w238_20, nI_add, w238_21, w238_23, g9]
  by_cases h9 : t6 + t ≤ 9
  · rw [if_neg (fun z => z h9)]
    obtain ⟨okT, e5T⟩ := rT_ok (k := t) ho e6 h9
    have h00 : gOk η ρ t 0 = true := by rw [gOk, ec6, decide_eq_true h9]; rfl
    have rT' : mRr (mU I 213 6 (nI t6 + nI t)) (rT ρ t) := by rw [← e6]; exact mRr_u (by omega) hr
    have fin : ∀ (I2 : Nat → Nat → Int32), gOk η ρ t j = true → fH I I2 → mRr I2 (gD ρ t j) → WP (d + 6) 238 92 [.ref 180, .int (nI (7 * t + j)), .int (nI t), .int (nI j - 1), .int (ρ 7)] [] (mHh xL I2 J (mRf rc rx rr)) Q := by
      intro I2 hok f2 r2
      obtain ⟨-, -, okD, -⟩ := gC_ok hk ho hok h5 hm
      simp only [w238_92, w238_93]
      refine c197s (fH_h f2 hh) hk r2 okD (by rw [(fH_5 f2).2]; exact h52) ?_
      intro I3 f3 r3
      simp only [↓reduceIte, Option.toList_some, Option.toList_none, List.cons_append, List.nil_append, Int32.reduceAdd, Int32.reduceLT, Int32.reduceLE, Int32.reduceToNatClampNeg, w238_96, w238_97, w238_100, w238_102, w238_104, w238_105, w238_106, nb1]
      refine hQ2 hok _ (fH_w (fH_t f2 f3)) ?_
      rw [gC, ← sMrk_D ρ t j]
      exact mRr_u (by omega) r3
    cases j with
    | zero =>
      have g1 : nI 0 - 1 < 0 := by decide
      have hok : gOk η ρ t 0 = true := h00
      simp only [w238_26, w238_27, g1, ↓reduceIte, w238_55, w238_56, w238_59, w238_61, r7, w238_62, w238_64, w238_65, w238_68, w238_70, w238_71, r6, w238_72, w238_73, w238_74, w238_75, w238_76]
      exact fin _ hok (fH_w fH_0) rT'
    | succ j =>
      have g1 : ¬ nI j < 0 := nI_pos (by omega)
      rw [nI_pred] at *
      have hD : isD η (nI j) = decide (j < η.2.1) := by
        by_cases hjd : j < η.2.1
        · rw [decide_eq_true hjd]; exact (isD_iff hk).2 ⟨j, hjd, rfl⟩
        · rw [decide_eq_false hjd]
          cases hx : isD η (nI j) with
          | false => rfl
          | true =>
            obtain ⟨q, hq, eq⟩ := (isD_iff hk).1 hx
            have := (nI_eq (by omega) (by omega)).1 eq
            omega
      have hgok : gOk η ρ t (j + 1) = (decide (j < η.2.1) && !(f7.testBit j)) := by
        rw [gOk, ec6, decide_eq_true h9, Bool.true_and, decide_eq_false (by omega), Bool.false_or, ec7, show j + 1 - 1 = j by omega]
      simp only [w238_26, w238_27, g1, ↓reduceIte, w238_30, w238_31, w238_32, c184 hh hk, hD, ↓reduceIte, Option.toList_some, Option.toList_none, List.cons_append, List.nil_append, Int32.reduceAdd, Int32.reduceLT, Int32.reduceLE, Int32.reduceToNatClampNeg, w238_35]
      by_cases hjd : j < η.2.1
      · have eb : (ρ 7 >>> (nI j &&& 31)) &&& 1 = sB01 (f7.testBit j) := by rw [ef7, bB1 f7 (by omega) j (by omega), sB_n]
        rw [decide_eq_true hjd, Bool.true_and] at hgok
        simp only [decide_eq_true hjd, sB_t, o01, ↓reduceIte, w238_38, w238_39, w238_42, w238_44, r7, w238_45, w238_46, w238_47, w238_48, eb, w238_49, w238_50]
        by_cases hb : f7.testBit j = true
        · rw [hb] at hgok
          simp only [sB_t hb, ↓reduceIte, w238_53, w238_54, nb0]
          exact hQ1 hgok
        · have hb2 : f7.testBit j = false := by simpa using hb
          rw [hb2] at hgok
          have z01 : ((0 : Int32) = 1) = False := by simp
          have e27 : mU I 213 6 (nI t6 + nI t) 213 7 = ρ 7 := by rw [mU_k (by decide)]; exact r7
          simp only [sB_f hb2, z01, ↓reduceIte, w238_55, w238_56, w238_59, w238_61, r7, w238_62, w238_64, w238_65, w238_68, w238_70, w238_71, r6, w238_72, w238_73, w238_74, w238_75, w238_76, g1, w238_79, w238_80, w238_83, w238_85, w238_86, e27, w238_87, w238_88, w238_89, bSh j (by omega), w238_90, w238_91]
          refine fin _ hgok (fH_w (fH_w fH_0)) ?_
          rw [gD, if_neg (by omega), rF, rT_7, show j + 1 - 1 = j by omega]
          exact mRr_u (by omega) rT'
      · rw [decide_eq_false hjd, Bool.false_and] at hgok
        simp only [decide_eq_false hjd, sB_f, ↓reduceIte, w238_53, w238_54, nb0]
        exact hQ1 hgok
  · rw [if_pos h9]
    simp only [w238_53, w238_54, nb0]
    exact hQ1 (by rw [gOk, ec6, decide_eq_false h9, Bool.false_and])
theorem c239 (hl : lvI I) {L n mv : Nat} (hL : L < 4) (hn : lv L ≤ n) (hn2 : n < 2955) : WP d 239 0 [.ref 180, .int (nI n), .int (nI L), .int (nI mv)] [] (mHh xL I J (mRf rc rx rr)) Q = Q (some (.int (nI (lv (L + 1) + 14 * (n - lv L) + mv)))) (mHh xL I J (mRf rc rx rr)) := by
  have a1 : mIn (nI L) 5 = true := mIn_nI (by omega) (by omega)
  have a2 : (nI L).toNatClampNeg = L := nI_clamp (by omega)
  have a3 : mIn (nI (L + 1)) 5 = true := mIn_nI (by omega) (by omega)
  have a4 : (nI (L + 1)).toNatClampNeg = L + 1 := nI_clamp (by omega)
  have e14 : ∀ k, 14 * nI k = nI (14 * k) := fun k => pk_mul 14 k
  simp only [w239_0, w239_1, w239_4, w239_5, w239_6, w239_7, w239_8, w239_10, w239_11, w239_12, w239_15, w239_16, w239_17, w239_18, w239_19, w239_20, w239_21, w239_22, nI_1, a1, a2, a3, a4, hl L (by omega), hl (L + 1) (by omega), pk_sub hn, e14, nI_add]
theorem c240 (hh : mMh I s η) (hk : hOk η) (hl : lvI I) (h52 : I 180 52 = 1) {L n b t : Nat} (hL : L < n) (hn : n ≤ 4) (hb1 : lv L ≤ b) (hb2 : b < lv (L + 1)) (ht : t < 2) (hrow : ∀ k, k < 8 → I 220 (8 * b + k) = ρ k) (ho : rOk η ρ) {m : Nat} (h5 : ρ 5 = nI m) (hm : m + 8 < 2 ^ 30) (hch : L + 1 < n → ∀ j, j < 7 → gOk η ρ t j = true → I 221 (lv (L + 1) + 14 * (b - lv L) + (7 * t + j)) = nI (gV η (n - 1 - L) (gC η ρ t j)))
    (hQ : ∀ I' : Nat → Nat → Int32, fH I I' → Q (some (.int (gO (gAx η (gV η (n - 1 - L)) ρ t 7)))) (mHh xL I' J (mRf rc rx rr))) : WP (d + 7) 240 0 [.ref 180, .int (nI b), .int (nI L), .int (nI t), .int (nI n), mDum, mDum, mDum] [] (mHh xL I J (mRf rc rx rr)) Q := by
  obtain ⟨l1, l2, l3⟩ := lv_s L (by omega)
  have hp14 : 14 ^ L ≤ 14 ^ 3 := Nat.pow_le_pow_right (by decide) (by omega)
  have e7 : 7 * nI t = nI (7 * t) := pk_mul 7 t
  have e77 : nI (7 * t) + 7 = nI (7 * t + 7) := nI_add _ 7
  have enn : nI n - 1 = nI (n - 1) := pk_sub (b := 1) (by omega)
  simp only [w240_0, w240_1, w240_3, w240_5, w240_6, e7, w240_7]
  have key : ∀ j, j ≤ 7 → ∀ (I' : Nat → Nat → Int32) (v7 : Value), fH I I' → WP (d + 7) 240 9 [.ref 180, .int (nI b), .int (nI L), .int (nI t), .int (nI n), .int (gO (gAx η (gV η (n - 1 - L)) ρ t j)), .int (nI (7 * t + j)), v7] [] (mHh xL I' J (mRf rc rx rr)) Q := by
    refine iter_dn ?_ ?_
    · intro j hj ih I' v7 f
      have g1 : ¬ nI (7 * t + 7) ≤ nI (7 * t + j) := nI_ge (by omega) (by omega)
      rw [w240_9]
      simp only [w240_11, w240_13, w240_14, e7, w240_15, w240_17, e77, w240_18, g1, ↓reduceIte, w240_21, w240_22, w240_23]
      refine c237 (show b < 2955 by omega) ?_
      intro I1 f1 r1
      have e220 : ∀ a, (a = 219 ∨ a = 220 ∨ a = 221) → I' a = I a := fun a ha => f.1 a (by omega) (by omega) (by omega) (by omega) (by omega)
      have F1 : fH I I1 := fH_t f ⟨fun a p q r w u => f1 a r, fun k _ => by rw [f1 180 (by decide)]⟩
      have R1 : mRr I1 ρ := mR8_of (fun k hk => by rw [Nat.zero_add, r1 k hk, e220 220 (by omega)]; exact hrow k hk) ho.2.2.2.2.2
      simp only [↓reduceIte, Option.toList_some, Option.toList_none, List.cons_append, List.nil_append, Int32.reduceAdd, Int32.reduceLT, Int32.reduceLE, Int32.reduceToNatClampNeg, w240_26, w240_27, w240_29]
      refine c238 (fH_h F1 hh) hk R1 ho h5 (by omega) (by rw [(fH_5 F1).2]; exact h52) ht hj ?_ ?_
      · intro hg
        rw [gAx, if_neg (by rw [hg]; decide)] at ih
        simp only [↓reduceIte, Option.toList_some, Option.toList_none, List.cons_append, List.nil_append, Int32.reduceAdd, Int32.reduceLT, Int32.reduceLE, Int32.reduceToNatClampNeg, w240_32, w240_35, w240_84, w240_87, nI_1]
        exact ih I1 _ F1
      · intro hg I2 f2 r2
        have F2 := fH_t F1 f2
        obtain ⟨okC, e5C, -, -⟩ := gC_ok hk ho hg h5 (by omega)
        have hv := gV_le hk (n - 1 - L) _ _ okC e5C (by omega)
        rw [gAx, if_pos hg] at ih
        have fin : WP (d + 7) 240 66 [.ref 180, .int (nI b), .int (nI L), .int (nI t), .int (nI n), .int (gO (gAx η (gV η (n - 1 - L)) ρ t j)), .int (nI (7 * t + j)), v7] [.int (nI (gV η (n - 1 - L) (gC η ρ t j)))] (mHh xL I2 J (mRf rc rx rr)) Q := by
          simp only [w240_66, w240_68, w240_70]
          cases hx : gAx η (gV η (n - 1 - L)) ρ t j with
          | none =>
            rw [hx] at ih
            have g2 : ((-1 : Int32) < 0) = True := by simp
            simp only [gO, g2, ↓reduceIte, w240_80, w240_82, w240_84, w240_87, nI_1]
            exact ih I2 _ F2
          | some x =>
            rw [hx] at ih
            have hx100 : x ≤ 100 := by
              obtain ⟨j', rfl⟩ : ∃ j', j = j' + 1 := ⟨j - 1, by
                cases j with
                | zero => cases hx
                | succ j => omega⟩
              have h00 : gOk η ρ t 0 = true := by
                rw [gOk, Bool.and_eq_true] at hg
                rw [gOk, hg.1]; rfl
              obtain ⟨x', e1, e2, -⟩ := gAx_s (V := gV η (n - 1 - L)) h00 j'
              rw [hx] at e1
              injection e1 with e1
              subst e1
              obtain ⟨ok0, e50, -, -⟩ := gC_ok hk ho h00 h5 (by omega)
              exact Nat.le_trans (e2 0 (by omega) h00) (gV_le hk _ _ _ ok0 e50 (by omega))
            have g2 : ¬ nI x < 0 := nI_pos (by omega)
            have gle : (nI x ≤ nI (gV η (n - 1 - L) (gC η ρ t j))) ↔ x ≤ gV η (n - 1 - L) (gC η ρ t j) := nI_leI (by omega) (by omega)
            simp only [gO, g2, ↓reduceIte, w240_73, w240_75, w240_77, gle]
            by_cases hc : x ≤ gV η (n - 1 - L) (gC η ρ t j)
            · dsimp only at ih
              rw [Nat.min_eq_left hc] at ih
              simp only [hc, ↓reduceIte, w240_84, w240_87, nI_1]
              exact ih I2 _ F2
            · dsimp only at ih
              rw [Nat.min_eq_right (by omega)] at ih
              simp only [hc, ↓reduceIte, w240_80, w240_82, w240_84, w240_87, nI_1]
              exact ih I2 _ F2
        have geq : (nI L = nI (n - 1)) ↔ L = n - 1 := nI_eq (by omega) (by omega)
        simp only [↓reduceIte, Option.toList_some, Option.toList_none, List.cons_append, List.nil_append, Int32.reduceAdd, Int32.reduceLT, Int32.reduceLE, Int32.reduceToNatClampNeg, w240_32, o01, ↓reduceIte, w240_38, w240_39, w240_41, w240_42, enn, w240_43, geq]
        by_cases hlast : L = n - 1
        · obtain ⟨x, hx, ex⟩ := rS_le okC
          have e0 : gV η (n - 1 - L) (gC η ρ t j) = x := by rw [show n - 1 - L = 0 by omega, gV, ex, nI_clamp (by omega)]
          rw [e0] at fin
          rw [if_pos hlast]
          simp only [w240_46, w240_47, c175 r2, ↓reduceIte, Option.toList_some, Option.toList_none, List.cons_append, List.nil_append, Int32.reduceAdd, Int32.reduceLT, Int32.reduceLE, Int32.reduceToNatClampNeg, w240_50, ex]
          exact fin
        · have hl2 : lvI I2 := fun k hk5 => by rw [F2.1 219 (by decide) (by decide) (by decide) (by decide) (by decide)]; exact hl k hk5
          have hbb : lv (L + 1) + 14 * (b - lv L) + (7 * t + j) < 2955 := by
            have := l3 (by omega)
            have h4 : lv (L + 2) ≤ 2955 := (lv_s (L + 1) (by omega)).2.1
            omega
          have a1 : mIn (nI (lv (L + 1) + 14 * (b - lv L) + (7 * t + j))) 2955 = true := mIn_nI hbb (by omega)
          have a2 : (nI (lv (L + 1) + 14 * (b - lv L) + (7 * t + j))).toNatClampNeg = lv (L + 1) + 14 * (b - lv L) + (7 * t + j) := nI_clamp (by omega)
          have e221 : I2 221 (lv (L + 1) + 14 * (b - lv L) + (7 * t + j)) = nI (gV η (n - 1 - L) (gC η ρ t j)) := by
            rw [F2.1 221 (by decide) (by decide) (by decide) (by decide) (by decide)]
            exact hch (by omega) j hj hg
          rw [if_neg hlast]
          simp only [w240_53, w240_54, w240_57, w240_58, w240_59, w240_60, w240_62, c239 hl2 (show L < 4 by omega) hb1 (show b < 2955 by omega), ↓reduceIte, Option.toList_some, Option.toList_none, List.cons_append, List.nil_append, Int32.reduceAdd, Int32.reduceLT, Int32.reduceLE, Int32.reduceToNatClampNeg, w240_65, a1, a2, e221]
          exact fin
    · intro I' v7 f
      have g1 : nI (7 * t + 7) ≤ nI (7 * t + 7) := nI_le (Nat.le_refl _) (by omega)
      rw [w240_9]
      simp only [w240_11, w240_13, w240_14, e7, w240_15, w240_17, e77, w240_18, g1, ↓reduceIte, w240_90, w240_92]
      exact hQ I' f
  exact key 0 (by omega) I _ fH_0
end GAD
