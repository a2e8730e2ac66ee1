/-! What is told, and moods that fit: fits. -/
abbrev mTo := Nat → Nat × Int32 × Bool
def xK (I : Nat → Nat → Int32) (t : Nat) (τ : mTo) : Prop := t ≤ 20 ∧ I 62 3 = nI t ∧ ∀ i, i < t → (τ i).1 ≤ 24 ∧ I 63 i = nI (τ i).1 ∧ I 64 i = (τ i).2.1 ∧ I 65 i = sB01 (τ i).2.2
def zK (I : Nat → Nat → Int32) (t : Nat) (τ : mTo) : Prop := t ≤ 20 ∧ I 180 62 = nI t ∧ ∀ i, i < t → (τ i).1 ≤ 24 ∧ I 222 i = nI (τ i).1 ∧ I 223 i = (τ i).2.1 ∧ I 224 i = sB01 (τ i).2.2
theorem xK_q {I I' : Nat → Nat → Int32} {t : Nat} {τ : mTo} (f : fQ I I') (h : xK I t τ) : xK I' t τ := by
  obtain ⟨h1, h2, h3⟩ := h
  refine ⟨h1, by rw [f 62 (by decide)]; exact h2, fun i hi => ?_⟩
  rw [f 63 (by decide), f 64 (by decide), f 65 (by decide)]
  exact h3 i hi
theorem zK_B {I I' : Nat → Nat → Int32} {t : Nat} {τ : mTo} (f : fB I I') (h : zK I t τ) : zK I' t τ := by
  obtain ⟨h1, h2, h3⟩ := h
  refine ⟨h1, by rw [f.2 62 (by decide) (by decide) (by decide)]; exact h2, fun i hi => ?_⟩
  rw [f.1 222 (by decide), f.1 223 (by decide), f.1 224 (by decide)]
  exact h3 i hi
def tt (τ : mTo) (M : Nat → Int32) (i : Nat) : Bool := decide ((τ i).2.1 ≤ M (τ i).1) == (τ i).2.2
def dFt (τ : mTo) (M : Nat → Int32) (k : Nat) : Bool := decide (∀ i, i < k → tt τ M i = true)
theorem dFt_f {τ : mTo} {M : Nat → Int32} {k i : Nat} (hi : i < k) (h : ¬ tt τ M i = true) : dFt τ M k = false := by
  rw [dFt, decide_eq_false_iff_not]
  exact fun z => h (z i hi)
def mBk (η : mHs) (ρ : Nat → Int32) (p x i : Nat) : Int32 := sMrk η (sB η (rU ρ p (nI x)) i)
def dF (η : mHs) (ρ : Nat → Int32) (τ : mTo) (p k x : Nat) : Bool := dFt τ (mBk η ρ p x) k
def q_fits (η : mHs) (ρ : Nat → Int32) (τ : mTo) (t : Nat) (k p w : Int32) : Int32 := if sW k 0 (nI t) && (isP η p && sW w 0 1) then (if w = 0 then cnt (dF η ρ τ p.toNatClampNeg k.toNatClampNeg) 21 else fin2 (fnd (dF η ρ τ p.toNatClampNeg k.toNatClampNeg) 21 0)) else -1
theorem tt_iff {τ : mTo} {M : Nat → Int32} {i : Nat} : tt τ M i = true ↔ sB01 (decide ((τ i).2.1 ≤ M (τ i).1)) = sB01 (τ i).2.2 := by
  rw [tt, beq_iff_eq]
  cases decide ((τ i).2.1 ≤ M (τ i).1) <;> cases (τ i).2.2 <;> decide
section QRU
variable {d : Nat} {xL : Nat} {I : Nat → Nat → Int32} {J : Nat → Nat → Int64} {rr : Nat} {Q : Option Value → mHp → Prop} {s o : Nat} {η : mHs} {ρ : Nat → Int32} {t : Nat} {τ : mTo}
theorem c2 {rc rx : Nat} (hK : xK I t τ) {M : Nat → Int32} (hM : ∀ i, i ≤ 24 → I 172 i = M i) {k : Nat} (hk : k ≤ t) : WP d 2 0 [.ref 62, .int (nI k), .ref 172, mDum, mDum] [] (mHh xL I J (mRf rc rx rr)) Q = Q (some (.int (sB01 (dFt τ M k)))) (mHh xL I J (mRf rc rx rr)) := by
  obtain ⟨h1, h2, h3⟩ := hK
  have e1 : lyK 172 = 1 := by decide +kernel
  have e2 : lyN 172 = 25 := by decide +kernel
  have e3 : Int32.ofNat 25 = nI 25 := rfl
  simp only [w2_0, w2_1]
  have key : ∀ i, i ≤ k → (∀ j, j < i → tt τ M j = true) → ∀ v4, WP d 2 2 [.ref 62, .int (nI k), .ref 172, .int (nI i), v4] [] (mHh xL I J (mRf rc rx rr)) Q = Q (some (.int (sB01 (dFt τ M k)))) (mHh xL I J (mRf rc rx rr)) := by
    refine iter_dn ?_ ?_
    · intro i hi ih hj v4
      obtain ⟨u1, u2, u3, u4⟩ := h3 i (by omega)
      have g1 : ¬ nI k ≤ nI i := nI_ge hi (by omega)
      have g2 : ¬ nI t ≤ nI i := nI_ge (by omega) (by omega)
      have g3 : ¬ nI 25 ≤ nI (τ i).1 := nI_ge (by omega) (by omega)
      have a1 : mIn (nI i) 20 = true := mIn_nI (by omega) (by omega)
      have a2 : (nI i).toNatClampNeg = i := nI_clamp (by omega)
      have a3 : mIn (nI (τ i).1) 25 = true := mIn_nI (by omega) (by omega)
      have a4 : (nI (τ i).1).toNatClampNeg = (τ i).1 := nI_clamp (by omega)
      rw [w2_2]
      simp only [w2_3, w2_4, g1, ↓reduceIte, w2_7, w2_8, w2_9, h2, w2_12, g2, w2_15, w2_16, w2_19, w2_20, a1, a2, u2, w2_21, w2_23, w2_25, e1, e2, w2_26, e3, w2_27, g3, w2_30, w2_31, w2_33, a3, a4, hM (τ i).1 u1, w2_34, w2_35, w2_38, w2_39, u3, w2_40]
      have fin : WP d 2 48 [.ref 62, .int (nI k), .ref 172, .int (nI i), .int (nI (τ i).1)] [.int (sB01 (decide ((τ i).2.1 ≤ M (τ i).1)))] (mHh xL I J (mRf rc rx rr)) Q = Q (some (.int (sB01 (dFt τ M k)))) (mHh xL I J (mRf rc rx rr)) := by
        simp only [w2_48, w2_49, w2_52, w2_53, a1, a2, u4, w2_54]
        by_cases hc : sB01 (decide ((τ i).2.1 ≤ M (τ i).1)) = sB01 (τ i).2.2
        · simp only [hc, ↓reduceIte, w2_59, w2_62, nI_1]
          refine ih ?_ _
          intro j hj2
          by_cases e : j = i
          · subst e; exact tt_iff.2 hc
          · exact hj j (by omega)
        · simp only [hc, ↓reduceIte, w2_57, w2_58, nb0]
          rw [dFt_f hi (fun z => hc (tt_iff.1 z))]; rfl
      by_cases hv : (τ i).2.1 ≤ M (τ i).1
      · have hv2 := i_le hv
        rw [decide_eq_true hv] at fin
        rw [if_neg hv2]
        simp only [w2_43, w2_44]
        exact fin
      · have hv2 := i_nle hv
        rw [decide_eq_false hv] at fin
        rw [if_pos hv2]
        simp only [w2_47]
        exact fin
    · intro hj v4
      have g1 : nI k ≤ nI k := nI_le (Nat.le_refl _) (by omega)
      have e : dFt τ M k = true := decide_eq_true hj
      rw [w2_2]
      simp only [w2_3, w2_4, g1, ↓reduceIte, w2_65, w2_66, nb1]
      rw [e]; rfl
  exact key 0 (by omega) (fun j hj => absurd hj (by omega)) _
theorem c129 (hb : xB I o η ρ) (hK : xK I t τ) {k p x : Nat} (hkt : k ≤ t) (hp : p < η.1) (hx : x ≤ 20) (hQ : ∀ I', fQ I I' → (∀ a, a = 173 → I' a = I a) → (∀ i, i ≤ 24 → I' 172 i = mBk η ρ p x i) → Q (some (.int (sB01 (dF η ρ τ p k x)))) (mHh xL I' J (mRf o o rr))) : WP (d + 5) 129 0 [.ref 7, .int (nI k), .int (nI p), .int (nI x), mDum, mDum] [] (mHh xL I J (mRf o o rr)) Q := by
  have hb0 := hb
  obtain ⟨hk, hh, hr, ho, m, hm, e5⟩ := hb
  have hn5 := hk.1
  obtain ⟨-, -, k3, k4, -⟩ := st_k s165
  have a1 : mIn (nI p) 5 = true := mIn_nI (by omega) (by omega)
  have a2 : (nI p).toNatClampNeg = p := nI_clamp (by omega)
  have ok0 := rU_B ho hp hn5 hx
  have e50 : rU ρ p (nI x) 5 = nI m := by rw [rU_5 (by omega)]; exact e5
  have nbb : ∀ b : Bool, narrow .boolean (.int (sB01 b)) = .int (sB01 b) := by intro b; cases b <;> decide
  simp only [w129_0, w129_1, w129_4, w129_5, w129_8, s165, c59 s165 s163, ↓reduceIte, Option.toList_some, Option.toList_none, List.cons_append, List.nil_append, Int32.reduceAdd, Int32.reduceLT, Int32.reduceLE, Int32.reduceToNatClampNeg, w129_11, w129_12, w129_15, w129_18, w129_19, w129_20, k3, k4, a1, a2, w129_21, w129_22]
  have q1 : fQ I (mU (mCp 165 163 I) (165 + 1) p (nI x)) := fQ_t fCp_q (fun a x => by rw [mU_f (by omega)])
  have L : ∀ i, i ≤ 25 → ∀ (I' : Nat → Nat → Int32) (v5 : Value), fQ I I' → (∀ a, a = 173 → I' a = I a) → mRw I' 165 = sB η (rU ρ p (nI x)) i → (∀ j, j < i → I' 172 j = mBk η ρ p x j) → WP (d + 5) 129 24 [.ref 7, .int (nI k), .int (nI p), .int (nI x), .int (nI i), v5] [] (mHh xL I' J (mRf o o rr)) Q := by
    refine iter_dn ?_ ?_
    · intro i hi ih I' v5 f g r u
      have g1 : ¬ 24 < nI i := i_le ((in_le 24 (by decide) (by omega)).2 (by omega))
      obtain ⟨ok, -⟩ := sB_ok hk ok0 e50 i (by omega)
      have b1 : mIn (nI i) 25 = true := mIn_nI (by omega) (by omega)
      have b2 : (nI i).toNatClampNeg = i := nI_clamp (by omega)
      rw [w129_24]
      simp only [w129_26, w129_28, g1, ↓reduceIte, w129_31, w129_32, w129_35, w129_36, w129_39]
      refine c4 s165 hk (fQ_B f hb0).2.1 r ok ?_
      intro I2 f2 _
      have q2 := fQ_t f (fX_q f2)
      have q3 : fQ I (mU I2 172 i (sMrk η (sB η (rU ρ p (nI x)) i))) := fQ_t q2 (fun a x => by rw [mU_f (by omega)])
      have r2 : mRw (mU I2 172 i (sMrk η (sB η (rU ρ p (nI x)) i))) 165 = sB η (rU ρ p (nI x)) i := mRw_keep (mU_f (by decide)) (mU_f (by decide)) (fX_r s165 f2 r)
      simp only [↓reduceIte, Option.toList_some, Option.toList_none, List.cons_append, List.nil_append, Int32.reduceAdd, Int32.reduceLT, Int32.reduceLE, Int32.reduceToNatClampNeg, w129_42, w129_44, w129_45, w129_48, w129_50, w129_52, b1, b2, w129_53, w129_54, w129_57, w129_58, w129_61, w129_63]
      refine c16 s165 hk (fQ_B q3 hb0).2.1 r2 ok _ ?_
      intro I3 f3 r3
      simp only [↓reduceIte, Option.toList_some, Option.toList_none, List.cons_append, List.nil_append, Int32.reduceAdd, Int32.reduceLT, Int32.reduceLE, Int32.reduceToNatClampNeg, w129_66, w129_67, w129_70, nI_1]
      refine ih I3 _ (fQ_t q3 (fA_q f3)) ?_ r3 ?_
      · intro a ha
        subst ha
        rw [f3 173 (by decide) (by decide) (by decide) (by decide) (by decide), mU_f (by decide), f2 173 (by decide) (by decide) (by decide), g 173 rfl]
      · intro j hj
        have e172 : I3 172 = mU I2 172 i (sMrk η (sB η (rU ρ p (nI x)) i)) 172 := f3 172 (by decide) (by decide) (by decide) (by decide) (by decide)
        rw [e172]
        by_cases e : j = i
        · subst e; rw [mU_s]; rfl
        · rw [mU_k e, f2 172 (by decide) (by decide) (by decide)]; exact u j (by omega)
    · intro I' v5 f g r u
      have g1 : 24 < nI 25 := by decide
      rw [w129_24]
      simp only [w129_26, w129_28, g1, ↓reduceIte, w129_73, w129_74, w129_77, w129_78, w129_79, w129_82, c2 (xK_q f hK) (M := mBk η ρ p x) (fun i hi => u i (by omega)) hkt, ↓reduceIte, Option.toList_some, Option.toList_none, List.cons_append, List.nil_append, Int32.reduceAdd, Int32.reduceLT, Int32.reduceLE, Int32.reduceToNatClampNeg, w129_85, nbb]
      exact hQ I' f g (fun i hi => u i (by omega))
  refine L 0 (by omega) _ _ q1 ?_ (mRw_u (by omega) (by rw [mRw_cp s165 s163]; exact hr)) (fun j hj => absurd hj (by omega))
  intro a ha
  subst ha
  rw [mU_f (by decide), mCp_o (by decide) (by decide)]
theorem c128 (hb : xB I o η ρ) (hK : xK I t τ) (k p w : Int32) (hQ : ∀ I', fQ I I' → Q (some (.int (q_fits η ρ τ t k p w))) (mHh xL I' J (mRf o o rr))) : WP (d + 6) 128 0 [.ref 7, .int k, .int p, .int w, mDum, mDum, mDum] [] (mHh xL I J (mRf o o rr)) Q := by
  have hb0 := hb
  obtain ⟨hk, hh, hr, ho, -⟩ := hb
  have hn5 := hk.1
  have ht : (nI t).toInt = (t : Int) := nI_toInt (by have := hK.1; omega)
  simp only [w128_0, w128_1, w128_2, w128_3, w128_6, hK.2.1, w128_9, c95, ↓reduceIte, Option.toList_some, Option.toList_none, List.cons_append, List.nil_append, Int32.reduceAdd, Int32.reduceLT, Int32.reduceLE, Int32.reduceToNatClampNeg, w128_12, q_fits] at hQ ⊢
  by_cases h1 : sW k 0 (nI t) = true
  · by_cases h2 : isP η p = true
    · by_cases h3 : sW w 0 1 = true
      · rw [h1, h2, h3] at hQ
        obtain ⟨k, -, hkt, rfl⟩ := (sW_iff (a := 0) (b := t) rfl ht).1 h1
        obtain ⟨p, hp, rfl⟩ := (isP_iff hk).1 h2
        have ek : (nI k).toNatClampNeg = k := nI_clamp (by have := hK.1; omega)
        have ep : (nI p).toNatClampNeg = p := nI_clamp (by omega)
        rw [ek, ep] at hQ
        simp only [sB_t h1, sB_t h2, sB_t h3, o01, ↓reduceIte, w128_15, w128_16, w128_17, c83 hh, ↓reduceIte, Option.toList_some, Option.toList_none, List.cons_append, List.nil_append, Int32.reduceAdd, Int32.reduceLT, Int32.reduceLE, Int32.reduceToNatClampNeg, w128_20, w128_23, w128_24, w128_25, w128_26, c95, w128_29, w128_34, w128_35, w128_37, w128_39, w128_41, w128_42, Bool.and_self] at hQ ⊢
        have L : ∀ x, x ≤ 21 → ∀ (I' : Nat → Nat → Int32) (y : Int32), fQ I I' → (if y = -2 then fin2 (fnd (dF η ρ τ p k) (21 - x) x) else y) = fin2 (fnd (dF η ρ τ p k) 21 0) → WP (d + 6) 128 44 [.ref 7, .int (nI k), .int (nI p), .int w, .int (cnt (dF η ρ τ p k) x), .int y, .int (nI x)] [] (mHh xL I' J (mRf o o rr)) Q := by
          refine iter_dn ?_ ?_
          · intro x hx ih I' y f hy
            have g1 : ¬ 20 < nI x := i_le ((in_le 20 (by decide) (by omega)).2 (by omega))
            have n2 : ¬ nI x = -2 := by
              intro z
              have := nI_pos (n := x) (by omega)
              rw [z] at this
              exact this (by decide)
            rw [show 21 - x = (21 - (x + 1)) + 1 by omega, fnd] at hy
            rw [cnt] at ih
            rw [w128_44]
            simp only [w128_46, w128_48, g1, ↓reduceIte, w128_51, w128_52, w128_53, w128_54, w128_56]
            refine c129 (fQ_B f hb0) (xK_q f hK) hkt hp (show x ≤ 20 by omega) ?_
            intro I2 f2 _ _
            simp only [↓reduceIte, Option.toList_some, Option.toList_none, List.cons_append, List.nil_append, Int32.reduceAdd, Int32.reduceLT, Int32.reduceLE, Int32.reduceToNatClampNeg, w128_59]
            by_cases hc : dF η ρ τ p k x = true
            · rw [if_pos hc] at hy
              rw [hc] at ih
              simp only [sB_t hc, o01, ↓reduceIte, w128_62, w128_65, w128_67, w128_69]
              by_cases hy2 : y = -2
              · rw [if_pos hy2] at hy
                simp only [hy2, ↓reduceIte, w128_72, w128_74, w128_79, w128_81, w128_84, nI_1]
                exact ih I2 _ (fQ_t f f2) (by rw [if_neg n2]; exact hy)
              · rw [if_neg hy2] at hy
                simp only [hy2, ↓reduceIte, w128_77, w128_79, w128_81, w128_84, nI_1]
                exact ih I2 _ (fQ_t f f2) (by rw [if_neg hy2]; exact hy)
            · have hc' : dF η ρ τ p k x = false := by simpa using hc
              rw [if_neg hc] at hy
              rw [hc'] at ih
              have z0 : cnt (dF η ρ τ p k) x + sB01 false = cnt (dF η ρ τ p k) x := Int32.add_zero _
              rw [z0] at ih
              simp only [sB_f hc', ↓reduceIte, w128_81, w128_84, nI_1]
              exact ih I2 _ (fQ_t f f2) hy
          · intro I' y f hy
            have g1 : 20 < nI 21 := by decide
            have hF := hQ I' f
            have hy3 : y = fin2 (fnd (dF η ρ τ p k) 21 0) := by
              rw [← hy]
              by_cases hy2 : y = -2
              · rw [if_pos hy2, hy2]; rfl
              · rw [if_neg hy2]
            rw [w128_44]
            simp only [w128_46, w128_48, g1, ↓reduceIte, w128_87, w128_88]
            by_cases hw : w = 0
            · rw [if_pos hw] at hF
              simp only [hw, ↓reduceIte, w128_91, w128_93, w128_98]
              exact hF
            · rw [if_neg hw, ← hy3] at hF
              simp only [hw, ↓reduceIte, w128_96, w128_98]
              exact hF
        exact L 0 (by omega) I _ fQ_0 (if_pos rfl)
      · have e3 : sW w 0 1 = false := by simpa using h3
        rw [e3, Bool.and_false, Bool.and_false] at hQ
        simp only [sB_t h1, sB_t h2, sB_f e3, o01, ↓reduceIte, w128_15, w128_16, w128_17, c83 hh, ↓reduceIte, Option.toList_some, Option.toList_none, List.cons_append, List.nil_append, Int32.reduceAdd, Int32.reduceLT, Int32.reduceLE, Int32.reduceToNatClampNeg, w128_20, w128_23, w128_24, w128_25, w128_26, c95, w128_29, w128_32, w128_33]
        exact hQ I fQ_0
    · have e2 : isP η p = false := by simpa using h2
      rw [e2, Bool.false_and, Bool.and_false] at hQ
      simp only [sB_t h1, sB_f e2, o01, ↓reduceIte, w128_15, w128_16, w128_17, c83 hh, ↓reduceIte, Option.toList_some, Option.toList_none, List.cons_append, List.nil_append, Int32.reduceAdd, Int32.reduceLT, Int32.reduceLE, Int32.reduceToNatClampNeg, w128_20, w128_32, w128_33]
      exact hQ I fQ_0
  · have e1 : sW k 0 (nI t) = false := by simpa using h1
    rw [e1, Bool.false_and] at hQ
    simp only [sB_f e1, ↓reduceIte, w128_32, w128_33]
    exact hQ I fQ_0
end QRU
