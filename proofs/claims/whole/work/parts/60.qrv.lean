/-! Queries: look. -/
def cntN (p : Nat → Bool) : Nat → Nat
  | 0 => 0
  | k + 1 => cntN p k + (p k).toNat
theorem cntN_le (p : Nat → Bool) : ∀ k, cntN p k ≤ k := by
  intro k
  induction k with
  | zero => exact Nat.le_refl _
  | succ k ih => rw [cntN]; cases p k <;> (simp; omega)
theorem cntN_and (p q : Nat → Bool) : ∀ k, cntN (fun x => p x && q x) k ≤ cntN p k := by
  intro k
  induction k with
  | zero => exact Nat.le_refl _
  | succ k ih => rw [cntN, cntN]; cases p k <;> cases q k <;> (simp; omega)
theorem cnt_N (p : Nat → Bool) : ∀ k, cnt p k = nI (cntN p k) := by
  intro k
  induction k with
  | zero => rfl
  | succ k ih => rw [cnt, cntN, ih, sB_n, nI_add]
/-- of the moods that fit, how many have v or more at hour i -/
def lkC (η : mHs) (ρ : Nat → Int32) (τ : mTo) (v : Int32) (p k i x : Nat) : Nat := cntN (fun y => dF η ρ τ p k y && decide (v ≤ mBk η ρ p y i)) x
def lkW (η : mHs) (ρ : Nat → Int32) (τ : mTo) (v : Int32) (p k i : Nat) : Nat := max (lkC η ρ τ v p k i 21) (cntN (dF η ρ τ p k) 21 - lkC η ρ τ v p k i 21)
def lW (W : Nat → Nat) : Nat → Nat
  | 0 => 0
  | k + 1 => if W (k + 1) < W (lW W k) then k + 1 else lW W k
theorem lW_le (W : Nat → Nat) : ∀ k, lW W k ≤ k := by
  intro k
  induction k with
  | zero => exact Nat.le_refl _
  | succ k ih => rw [lW]; split <;> omega
theorem lkC_le {η : mHs} {ρ : Nat → Int32} {τ : mTo} {v : Int32} {p k i x : Nat} : lkC η ρ τ v p k i x ≤ cntN (dF η ρ τ p k) x := cntN_and _ _ _
theorem lkW_le {η : mHs} {ρ : Nat → Int32} {τ : mTo} {v : Int32} {p k i : Nat} : lkW η ρ τ v p k i ≤ cntN (dF η ρ τ p k) 21 := by
  have := lkC_le (η := η) (ρ := ρ) (τ := τ) (v := v) (p := p) (k := k) (i := i) (x := 21)
  rw [lkW]; omega
def q_look (η : mHs) (ρ : Nat → Int32) (τ : mTo) (t : Nat) (k p v : Int32) : Int32 := if sW k 0 (nI t) && (isP η p && isM v) then (if cntN (dF η ρ τ p.toNatClampNeg k.toNatClampNeg) 21 = 0 then -2 else nI (lW (lkW η ρ τ v p.toNatClampNeg k.toNatClampNeg) 24)) else -1
section QRV
variable {d : Nat} {xL : Nat} {I : Nat → Nat → Int32} {J : Nat → Nat → Int64} {rr : Nat} {Q : Option Value → mHp → Prop} {s o : Nat} {η : mHs} {ρ : Nat → Int32} {t : Nat} {τ : mTo}
theorem c131 (hb : xB I o η ρ) (hK : xK I t τ) {k p : Nat} (v : Int32) (hkt : k ≤ t) (hp : p < η.1) (hQ : ∀ I', fQ I I' → (∀ i, i ≤ 24 → I' 173 i = nI (lkC η ρ τ v p k i 21)) → Q (some (.int (nI (cntN (dF η ρ τ p k) 21)))) (mHh xL I' J (mRf o o rr))) : WP (d + 6) 131 0 [.ref 7, .int (nI k), .int (nI p), .int v, mDum, mDum, mDum] [] (mHh xL I J (mRf o o rr)) Q := by
  have hb0 := hb
  simp only [w131_0, w131_1]
  have Z : ∀ i, i ≤ 25 → ∀ (I' : Nat → Nat → Int32), fQ I I' → (∀ j, j < i → I' 173 j = nI 0) → WP (d + 6) 131 3 [.ref 7, .int (nI k), .int (nI p), .int v, .int (nI i), mDum, mDum] [] (mHh xL I' J (mRf o o rr)) Q := by
    refine iter_dn ?_ ?_
    · intro i hi ih I' f u
      have g1 : ¬ 24 < nI i := i_le ((in_le 24 (by decide) (by omega)).2 (by omega))
      have b1 : mIn (nI i) 25 = true := mIn_nI (by omega) (by omega)
      have b2 : (nI i).toNatClampNeg = i := nI_clamp (by omega)
      rw [w131_3]
      simp only [w131_5, w131_7, g1, ↓reduceIte, w131_10, w131_11, w131_14, w131_16, w131_17, b1, b2, w131_18, w131_21, nI_1]
      refine ih _ (fQ_t f (fun a x => by rw [mU_f (by omega)])) ?_
      intro j hj
      by_cases e : j = i
      · subst e; rw [mU_s]; rfl
      · rw [mU_k e]; exact u j (by omega)
    · intro I' f u
      have g1 : 24 < nI 25 := by decide
      rw [w131_3]
      simp only [w131_5, w131_7, g1, ↓reduceIte, w131_24, w131_25, w131_27, w131_28]
      have L : ∀ x, x ≤ 21 → ∀ (I' : Nat → Nat → Int32) (v6 : Value), fQ I I' → (∀ i, i ≤ 24 → I' 173 i = nI (lkC η ρ τ v p k i x)) → WP (d + 6) 131 30 [.ref 7, .int (nI k), .int (nI p), .int v, .int (nI (cntN (dF η ρ τ p k) x)), .int (nI x), v6] [] (mHh xL I' J (mRf o o rr)) Q := by
        refine iter_dn ?_ ?_
        · intro x hx ih I' v6 f u
          have g1 : ¬ 20 < nI x := i_le ((in_le 20 (by decide) (by omega)).2 (by omega))
          rw [cntN] at ih
          rw [w131_30]
          simp only [w131_32, w131_34, g1, ↓reduceIte, w131_37, w131_38, w131_39, w131_40, w131_42]
          refine c129 (fQ_B f hb0) (xK_q f hK) hkt hp (show x ≤ 20 by omega) ?_
          intro I2 f2 g2 u2
          simp only [↓reduceIte, Option.toList_some, Option.toList_none, List.cons_append, List.nil_append, Int32.reduceAdd, Int32.reduceLT, Int32.reduceLE, Int32.reduceToNatClampNeg, w131_45]
          by_cases hc : dF η ρ τ p k x = true
          · rw [hc] at ih
            simp only [sB_t hc, o01, ↓reduceIte, w131_48, w131_51, w131_52, nI_1]
            have M : ∀ i, i ≤ 25 → ∀ (I' : Nat → Nat → Int32), fQ I I' → (∀ j, j ≤ 24 → I' 172 j = mBk η ρ p x j) → (∀ j, j ≤ 24 → I' 173 j = nI (lkC η ρ τ v p k j (if j < i then x + 1 else x))) → WP (d + 6) 131 54 [.ref 7, .int (nI k), .int (nI p), .int v, .int (nI (cntN (dF η ρ τ p k) x + 1)), .int (nI x), .int (nI i)] [] (mHh xL I' J (mRf o o rr)) Q := by
              refine iter_dn ?_ ?_
              · intro i hi ih2 I' f u2 u
                have g1 : ¬ 24 < nI i := i_le ((in_le 24 (by decide) (by omega)).2 (by omega))
                have b1 : mIn (nI i) 25 = true := mIn_nI (by omega) (by omega)
                have b2 : (nI i).toNatClampNeg = i := nI_clamp (by omega)
                have e1 : I' 173 i = nI (lkC η ρ τ v p k i x) := by rw [u i (by omega), if_neg (by omega)]
                rw [w131_54]
                simp only [w131_56, w131_58, g1, ↓reduceIte, w131_61, w131_62, w131_65, w131_67, w131_68, b1, b2, e1, w131_69, w131_70, w131_73, w131_75, u2 i (by omega), w131_76, w131_77]
                have fin : ∀ y : Int32, y = nI (decide (v ≤ mBk η ρ p x i)).toNat → WP (d + 6) 131 85 [.ref 7, .int (nI k), .int (nI p), .int v, .int (nI (cntN (dF η ρ τ p k) x + 1)), .int (nI x), .int (nI i)] [.int y, .int (nI (lkC η ρ τ v p k i x)), .int (nI i), .ref 173] (mHh xL I' J (mRf o o rr)) Q := by
                  intro y hy
                  have y1 : lyK 173 = 1 := by decide +kernel
                  have y2 : lyN 173 = 25 := by decide +kernel
                  simp only [w131_85, w131_86, y1, y2, b1, b2, w131_87, w131_90, nI_1]
                  refine ih2 _ (fQ_t f (fun a x => by rw [mU_f (by omega)])) (fun j hj => by rw [mU_f (by decide)]; exact u2 j hj) ?_
                  intro j hj
                  by_cases e : j = i
                  · subst e
                    rw [mU_s, if_pos (by omega), hy, nI_add]
                    show _ = nI (cntN (fun y => dF η ρ τ p k y && decide (v ≤ mBk η ρ p y j)) x + (dF η ρ τ p k x && decide (v ≤ mBk η ρ p x j)).toNat)
                    rw [hc, Bool.true_and]; rfl
                  · rw [mU_k e, u j hj]
                    by_cases e2 : j < i
                    · rw [if_pos e2, if_pos (by omega)]
                    · rw [if_neg e2, if_neg (by omega)]
                by_cases hv : v ≤ mBk η ρ p x i
                · rw [if_neg (i_le hv)]
                  simp only [w131_80, w131_81]
                  exact fin 1 (by rw [decide_eq_true hv]; rfl)
                · rw [if_pos (i_nle hv)]
                  simp only [w131_84]
                  exact fin 0 (by rw [decide_eq_false hv]; rfl)
              · intro I' f u2 u
                have g1 : 24 < nI 25 := by decide
                rw [w131_54]
                simp only [w131_56, w131_58, g1, ↓reduceIte, w131_93, w131_96, nI_1]
                exact ih I' _ f (fun i hi => by rw [u i hi, if_pos (by omega)])
            exact M 0 (by omega) I2 (fQ_t f f2) u2 (fun j hj => by rw [g2 173 rfl, u j hj, if_neg (by omega)])
          · have hc' : dF η ρ τ p k x = false := by simpa using hc
            rw [hc'] at ih
            simp only [sB_f hc', ↓reduceIte, w131_93, w131_96, nI_1]
            refine ih I2 _ (fQ_t f f2) ?_
            intro i hi
            rw [g2 173 rfl, u i hi]
            show _ = nI (cntN (fun y => dF η ρ τ p k y && decide (v ≤ mBk η ρ p y i)) x + (dF η ρ τ p k x && decide (v ≤ mBk η ρ p x i)).toNat)
            rw [hc', Bool.false_and]; rfl
        · intro I' v6 f u
          have g1 : 20 < nI 21 := by decide
          rw [w131_30]
          simp only [w131_32, w131_34, g1, ↓reduceIte, w131_99, w131_101]
          exact hQ I' f u
      exact L 0 (by omega) I' _ f (fun i hi => u i (by omega))
  exact Z 0 (by omega) I fQ_0 (fun j hj => absurd hj (by omega))
theorem c130 (hb : xB I o η ρ) (hK : xK I t τ) (k p v : Int32) (hQ : ∀ I', fQ I I' → Q (some (.int (q_look η ρ τ t k p v))) (mHh xL I' J (mRf o o rr))) : WP (d + 7) 130 0 [.ref 7, .int k, .int p, .int v, mDum, mDum, mDum, mDum, mDum] [] (mHh xL I J (mRf o o rr)) Q := by
  have hb0 := hb
  obtain ⟨hk, hh, hr, ho, -⟩ := hb
  have hn5 := hk.1
  have ht : (nI t).toInt = (t : Int) := nI_toInt (by have := hK.1; omega)
  simp only [w130_0, w130_1, w130_2, w130_3, w130_6, hK.2.1, w130_9, c95, ↓reduceIte, Option.toList_some, Option.toList_none, List.cons_append, List.nil_append, Int32.reduceAdd, Int32.reduceLT, Int32.reduceLE, Int32.reduceToNatClampNeg, w130_12, q_look] at hQ ⊢
  by_cases h1 : sW k 0 (nI t) = true
  · by_cases h2 : isP η p = true
    · by_cases h3 : isM v = true
      · rw [h1, h2, h3] at hQ
        obtain ⟨k, -, hkt, rfl⟩ := (sW_iff (a := 0) (b := t) rfl ht).1 h1
        obtain ⟨p, hp, rfl⟩ := (isP_iff hk).1 h2
        have ek : (nI k).toNatClampNeg = k := nI_clamp (by have := hK.1; omega)
        have ep : (nI p).toNatClampNeg = p := nI_clamp (by omega)
        rw [ek, ep] at hQ
        simp only [sB_t h1, sB_t h2, sB_t h3, o01, ↓reduceIte, w130_15, w130_16, w130_17, c83 hh, ↓reduceIte, Option.toList_some, Option.toList_none, List.cons_append, List.nil_append, Int32.reduceAdd, Int32.reduceLT, Int32.reduceLE, Int32.reduceToNatClampNeg, w130_20, w130_23, w130_24, c100, w130_27, w130_32, w130_33, w130_34, w130_35, w130_36, Bool.and_self] at hQ ⊢
        refine c131 hb0 hK v hkt hp ?_
        intro I1 f1 u
        have hF := hQ I1 f1
        have hle := cntN_le (dF η ρ τ p k) 21
        have e0 : (nI (cntN (dF η ρ τ p k) 21) = 0) ↔ cntN (dF η ρ τ p k) 21 = 0 := nI_eq (b := 0) (by omega) (by omega)
        simp only [↓reduceIte, Option.toList_some, Option.toList_none, List.cons_append, List.nil_append, Int32.reduceAdd, Int32.reduceLT, Int32.reduceLE, Int32.reduceToNatClampNeg, w130_39, w130_41, w130_43, e0]
        by_cases hz : cntN (dF η ρ τ p k) 21 = 0
        · rw [if_pos hz] at hF ⊢
          simp only [w130_46, w130_48]
          exact hF
        · rw [if_neg hz] at hF ⊢
          simp only [w130_49, w130_50, w130_52, w130_54, w130_55, w130_56, w130_58, w130_59, nI_1]
          have L : ∀ i, i ≤ 25 → ∀ (best few : Int32) (v8 : Value), (i = 0 → best = 0 ∧ few = nI (cntN (dF η ρ τ p k) 21 + 1)) → (∀ j, i = j + 1 → best = nI (lW (lkW η ρ τ v p k) j) ∧ few = nI (lkW η ρ τ v p k (lW (lkW η ρ τ v p k) j))) → WP (d + 7) 130 61 [.ref 7, .int (nI k), .int (nI p), .int v, .int (nI (cntN (dF η ρ τ p k) 21)), .int best, .int few, .int (nI i), v8] [] (mHh xL I1 J (mRf o o rr)) Q := by
            refine iter_dn ?_ ?_
            · intro i hi ih best few v8 h0 hs
              have g1 : ¬ 24 < nI i := i_le ((in_le 24 (by decide) (by omega)).2 (by omega))
              have b1 : mIn (nI i) 25 = true := mIn_nI (by omega) (by omega)
              have b2 : (nI i).toNatClampNeg = i := nI_clamp (by omega)
              have hcl := lkC_le (η := η) (ρ := ρ) (τ := τ) (v := v) (p := p) (k := k) (i := i) (x := 21)
              have hwl := lkW_le (η := η) (ρ := ρ) (τ := τ) (v := v) (p := p) (k := k) (i := i)
              have em : (if nI (lkC η ρ τ v p k i 21) < nI (cntN (dF η ρ τ p k) 21 - lkC η ρ τ v p k i 21) then nI (cntN (dF η ρ τ p k) 21 - lkC η ρ τ v p k i 21) else nI (lkC η ρ τ v p k i 21)) = nI (lkW η ρ τ v p k i) := by
                rw [lkW]
                split
                · rename_i hz
                  have := (nI_ltI (by omega) (by omega)).1 hz
                  congr 1; omega
                · rename_i hz
                  have : ¬ (lkC η ρ τ v p k i 21 < cntN (dF η ρ τ p k) 21 - lkC η ρ τ v p k i 21) := fun z => hz ((nI_ltI (by omega) (by omega)).2 z)
                  congr 1; omega
              rw [w130_61]
              simp only [w130_63, w130_65, g1, ↓reduceIte, w130_68, w130_69, w130_72, w130_74, b1, b2, u i (by omega), w130_75, w130_77, w130_78, w130_81, w130_83, w130_84, pk_sub hcl, w130_85, em, w130_88, w130_90, w130_92, w130_94]
              cases i with
              | zero =>
                obtain ⟨eb, ef⟩ := h0 rfl
                have g2 : ¬ nI (cntN (dF η ρ τ p k) 21 + 1) ≤ nI (lkW η ρ τ v p k 0) := nI_ge (by omega) (by omega)
                simp only [ef, g2, ↓reduceIte, w130_97, w130_99, w130_101, w130_103, w130_105, w130_108, nI_1]
                exact ih _ _ _ (fun z => by omega) (fun j hj => by
                  have : j = 0 := by omega
                  subst this; exact ⟨rfl, rfl⟩)
              | succ j =>
                obtain ⟨eb, ef⟩ := hs j rfl
                have hwj := lkW_le (η := η) (ρ := ρ) (τ := τ) (v := v) (p := p) (k := k) (i := lW (lkW η ρ τ v p k) j)
                have hle2 : (nI (lkW η ρ τ v p k (lW (lkW η ρ τ v p k) j)) ≤ nI (lkW η ρ τ v p k (j + 1))) ↔ ¬ (lkW η ρ τ v p k (j + 1) < lkW η ρ τ v p k (lW (lkW η ρ τ v p k) j)) := by
                  rw [nI_leI (by omega) (by omega)]; omega
                simp only [ef, hle2]
                by_cases hc : lkW η ρ τ v p k (j + 1) < lkW η ρ τ v p k (lW (lkW η ρ τ v p k) j)
                · rw [if_neg (fun z => z hc)]
                  simp only [w130_97, w130_99, w130_101, w130_103, w130_105, w130_108, nI_1]
                  exact ih _ _ _ (fun z => by omega) (fun j2 hj => by
                    have : j2 = j + 1 := by omega
                    subst this; rw [lW, if_pos hc]; exact ⟨rfl, rfl⟩)
                · rw [if_pos hc]
                  simp only [w130_105, w130_108, nI_1]
                  exact ih _ _ _ (fun z => by omega) (fun j2 hj => by
                    have : j2 = j + 1 := by omega
                    subst this; rw [lW, if_neg hc]; exact ⟨eb, rfl⟩)
            · intro best few v8 h0 hs
              have g1 : 24 < nI 25 := by decide
              obtain ⟨eb, -⟩ := hs 24 rfl
              rw [w130_61]
              simp only [w130_63, w130_65, g1, ↓reduceIte, w130_111, w130_113, eb]
              exact hF
          exact L 0 (by omega) _ _ _ (fun _ => ⟨rfl, rfl⟩) (fun j hj => by omega)
      · have e3 : isM v = false := by simpa using h3
        rw [e3, Bool.and_false, Bool.and_false] at hQ
        simp only [sB_t h1, sB_t h2, sB_f e3, o01, ↓reduceIte, w130_15, w130_16, w130_17, c83 hh, ↓reduceIte, Option.toList_some, Option.toList_none, List.cons_append, List.nil_append, Int32.reduceAdd, Int32.reduceLT, Int32.reduceLE, Int32.reduceToNatClampNeg, w130_20, w130_23, w130_24, c100, w130_27, w130_30, w130_31]
        exact hQ I fQ_0
    · have e2 : isP η p = false := by simpa using h2
      rw [e2, Bool.false_and, Bool.and_false] at hQ
      simp only [sB_t h1, sB_f e2, o01, ↓reduceIte, w130_15, w130_16, w130_17, c83 hh, ↓reduceIte, Option.toList_some, Option.toList_none, List.cons_append, List.nil_append, Int32.reduceAdd, Int32.reduceLT, Int32.reduceLE, Int32.reduceToNatClampNeg, w130_20, w130_30, w130_31]
      exact hQ I fQ_0
  · have e1 : sW k 0 (nI t) = false := by simpa using h1
    rw [e1, Bool.false_and] at hQ
    simp only [sB_f e1, ↓reduceIte, w130_30, w130_31]
    exact hQ I fQ_0
end QRV
