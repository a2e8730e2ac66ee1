/-! Queries: fits and look of the model. -/
section QRW
variable {d : Nat} {xL : Nat} {I : Nat → Nat → Int32} {J : Nat → Nat → Int64} {rr : Nat} {Q : Option Value → mHp → Prop} {s o : Nat} {η : mHs} {ρ : Nat → Int32} {t : Nat} {τ : mTo}
theorem fB_k {I I' : Nat → Nat → Int32} {w : Nat} {x : Int32} (h : fB I I') : fB I (mU I' 225 w x) := ⟨fun a p => by rw [mU_f (by omega), h.1 a p], fun k x y z => by rw [mU_f (by decide), h.2 k x y z]⟩
theorem c248 (hb : zB I s η ρ) {rc rx : Nat} {p : Nat} (hp : p < η.1) (hQ : ∀ I', fB I I' → (∀ x, x < 21 → ∀ i, i < 25 → I' 225 (25 * x + i) = mBk η ρ p x i) → Q none (mHh xL I' J (mRf rc rx rr))) : WP (d + 6) 248 0 [.ref 180, .int (nI p), mDum, mDum] [] (mHh xL I J (mRf rc rx rr)) Q := by
  have hb0 := hb
  obtain ⟨hk, hh, hr, ho, m, hm, e5⟩ := hb
  have hn5 := hk.1
  have p1 : mIn (nI p) 8 = true := mIn_nI (by omega) (by omega)
  have p2 : (nI p).toNatClampNeg = p := nI_clamp (by omega)
  have e25 : ∀ k, 25 * nI k = nI (25 * k) := fun k => pk_mul 25 k
  simp only [w248_0, w248_1]
  have L : ∀ x, x ≤ 21 → ∀ (I' : Nat → Nat → Int32) (v3 : Value), fB I I' → (∀ y, y < x → ∀ i, i < 25 → I' 225 (25 * y + i) = mBk η ρ p y i) → WP (d + 6) 248 2 [.ref 180, .int (nI p), .int (nI x), v3] [] (mHh xL I' J (mRf rc rx rr)) Q := by
    refine iter_dn ?_ ?_
    · intro x hx ih I' v3 f u
      have bD := fB_B f hb0
      have g1 : ¬ 21 ≤ nI x := by rw [ni_le 21 (by decide) (by omega)]; omega
      have ok0 := rU_B ho hp hn5 (show x ≤ 20 by omega)
      have e50 : rU ρ p (nI x) 5 = nI m := by rw [rU_5 (by omega)]; exact e5
      rw [w248_2]
      simp only [w248_3, w248_5, g1, ↓reduceIte, w248_8, w248_9]
      refine c204 bD.2.1 bD.2.2.1 ?_
      intro I1 f1 r1 l1
      have n80 : ∀ y, mU I1 213 p y 180 = I1 180 := fun y => mU_f (by decide)
      have e225 : mU I1 213 p (nI x) 225 = I' 225 := by rw [mU_f (by decide), f1.1 225 (by decide) (by decide) (by decide) (by decide) (by decide)]
      simp only [↓reduceIte, Option.toList_some, Option.toList_none, List.cons_append, List.nil_append, Int32.reduceAdd, Int32.reduceLT, Int32.reduceLE, Int32.reduceToNatClampNeg, w248_12, w248_13, w248_16, w248_17, w248_18, p1, p2, w248_19, w248_20]
      have M : ∀ i, i ≤ 25 → ∀ (I' : Nat → Nat → Int32), fB I I' → mRr I' (sB η (rU ρ p (nI x)) i) → I' 180 52 = 1 → (∀ y, y < x → ∀ i, i < 25 → I' 225 (25 * y + i) = mBk η ρ p y i) → (∀ j, j < i → I' 225 (25 * x + j) = mBk η ρ p x j) → WP (d + 6) 248 21 [.ref 180, .int (nI p), .int (nI x), .int (nI i)] [] (mHh xL I' J (mRf rc rx rr)) Q := by
        refine iter_dn ?_ ?_
        · intro i hi ih2 I' f r l u u2
          have g2 : ¬ 25 ≤ nI i := by rw [ni_le 25 (by decide) (by omega)]; omega
          obtain ⟨ok, -⟩ := sB_ok hk ok0 e50 i (by omega)
          have b1 : mIn (nI (25 * x + i)) 525 = true := mIn_nI (by omega) (by omega)
          have b2 : (nI (25 * x + i)).toNatClampNeg = 25 * x + i := nI_clamp (by omega)
          rw [w248_21]
          simp only [w248_22, w248_24, g2, ↓reduceIte, w248_27, w248_28, w248_31, w248_33, w248_34, w248_35, w248_36, w248_37, e25, nI_add, w248_38]
          refine c172 (fB_h f hh) r ?_
          intro I2 f2
          have l2 : I2 180 52 = 1 := by rw [f2.2 52 (by decide)]; exact l
          have f3 : fB I (mU I2 225 (25 * x + i) (sMrk η (sB η (rU ρ p (nI x)) i))) := fB_k (fB_t f (fM_B f2))
          simp only [↓reduceIte, Option.toList_some, Option.toList_none, List.cons_append, List.nil_append, Int32.reduceAdd, Int32.reduceLT, Int32.reduceLE, Int32.reduceToNatClampNeg, w248_41, b1, b2, w248_42, w248_43]
          refine c197s (fB_h f3 hh) hk (mRr_o (mU_f (by decide)) (fM_r f2 r)) ok (by rw [mU_f (by decide)]; exact l2) ?_
          intro I4 f4 r4
          have e4 : I4 225 = mU I2 225 (25 * x + i) (sMrk η (sB η (rU ρ p (nI x)) i)) 225 := f4.1 225 (by decide) (by decide) (by decide) (by decide) (by decide)
          have e2 : I2 225 = I' 225 := f2.1 225 (by decide) (by decide) (by decide)
          simp only [↓reduceIte, Option.toList_some, Option.toList_none, List.cons_append, List.nil_append, Int32.reduceAdd, Int32.reduceLT, Int32.reduceLE, Int32.reduceToNatClampNeg, w248_46, w248_49, nI_1]
          refine ih2 I4 (fB_t f3 (fH_B f4)) r4 (by rw [(fH_5 f4).2, mU_f (by decide)]; exact l2) ?_ ?_
          · intro y hy j hj
            rw [e4, mU_k (by omega), e2]; exact u y hy j hj
          · intro j hj
            rw [e4]
            by_cases e : j = i
            · subst e; rw [mU_s]; rfl
            · rw [mU_k (by omega), e2]; exact u2 j (by omega)
        · intro I' f r l u u2
          have g2 : 25 ≤ nI 25 := by decide
          rw [w248_21]
          simp only [w248_22, w248_24, g2, ↓reduceIte, w248_52, w248_55, nI_1]
          refine ih I' _ f ?_
          intro y hy i hi
          by_cases e : y = x
          · subst e; exact u2 i hi
          · exact u y (by omega) i hi
      exact M 0 (by omega) _ (fB_w (fB_t f (fC_B f1))) (mRr_u (by omega) r1) (by rw [n80]; exact l1) (fun y hy i hi => by rw [e225]; exact u y hy i hi) (fun j hj => absurd hj (by omega))
    · intro I' v3 f u
      have g1 : 21 ≤ nI 21 := by decide
      rw [w248_2]
      simp only [w248_3, w248_5, g1, ↓reduceIte, w248_58]
      exact hQ I' f u
  exact L 0 (by omega) I _ fB_0 (fun y hy => absurd hy (by omega))
theorem c249 {rc rx : Nat} (hK : zK I t τ) {M : Nat → Int32} {x : Nat} (hx : x < 21) (hM : ∀ i, i < 25 → I 225 (25 * x + i) = M i) {k : Nat} (hk : k ≤ t) : WP d 249 0 [.ref 180, .int (nI x), .int (nI k), mDum] [] (mHh xL I J (mRf rc rx rr)) Q = Q (some (.int (sB01 (dFt τ M k)))) (mHh xL I J (mRf rc rx rr)) := by
  obtain ⟨h1, h2, h3⟩ := hK
  have e25 : ∀ k, 25 * nI k = nI (25 * k) := fun k => pk_mul 25 k
  simp only [w249_0, w249_1]
  have key : ∀ i, i ≤ k → (∀ j, j < i → tt τ M j = true) → WP d 249 2 [.ref 180, .int (nI x), .int (nI k), .int (nI i)] [] (mHh xL I J (mRf rc rx rr)) Q = Q (some (.int (sB01 (dFt τ M k)))) (mHh xL I J (mRf rc rx rr)) := by
    refine iter_dn ?_ ?_
    · intro i hi ih hj
      obtain ⟨u1, u2, u3, u4⟩ := h3 i (by omega)
      have g1 : ¬ nI k ≤ nI i := nI_ge hi (by omega)
      have a1 : mIn (nI i) 20 = true := mIn_nI (by omega) (by omega)
      have a2 : (nI i).toNatClampNeg = i := nI_clamp (by omega)
      have a3 : mIn (nI (25 * x + (τ i).1)) 525 = true := mIn_nI (by omega) (by omega)
      have a4 : (nI (25 * x + (τ i).1)).toNatClampNeg = 25 * x + (τ i).1 := nI_clamp (by omega)
      rw [w249_2]
      simp only [w249_3, w249_4, g1, ↓reduceIte, w249_7, w249_8, w249_11, w249_13, w249_14, w249_15, w249_16, w249_19, w249_20, a1, a2, u2, w249_21, e25, nI_add, w249_22, a3, a4, hM (τ i).1 (by omega), w249_23, w249_24, w249_27, w249_28, u3, w249_29]
      have fin : WP d 249 37 [.ref 180, .int (nI x), .int (nI k), .int (nI i)] [.int (sB01 (decide ((τ i).2.1 ≤ M (τ i).1)))] (mHh xL I J (mRf rc rx rr)) Q = Q (some (.int (sB01 (dFt τ M k)))) (mHh xL I J (mRf rc rx rr)) := by
        simp only [w249_37, w249_38, w249_41, w249_42, a1, a2, u4, w249_43]
        by_cases hc : sB01 (decide ((τ i).2.1 ≤ M (τ i).1)) = sB01 (τ i).2.2
        · simp only [hc, ↓reduceIte, w249_48, w249_51, nI_1]
          refine ih ?_
          intro j hj2
          by_cases e : j = i
          · subst e; exact tt_iff.2 hc
          · exact hj j (by omega)
        · simp only [hc, ↓reduceIte, w249_46, w249_47, nb0]
          rw [dFt_f hi (fun z => hc (tt_iff.1 z))]; rfl
      by_cases hv : (τ i).2.1 ≤ M (τ i).1
      · have hv2 := i_le hv
        rw [decide_eq_true hv] at fin
        rw [if_neg hv2]
        simp only [w249_32, w249_33]
        exact fin
      · have hv2 := i_nle hv
        rw [decide_eq_false hv] at fin
        rw [if_pos hv2]
        simp only [w249_36]
        exact fin
    · intro hj
      have g1 : nI k ≤ nI k := nI_le (Nat.le_refl _) (by omega)
      have e : dFt τ M k = true := decide_eq_true hj
      rw [w249_2]
      simp only [w249_3, w249_4, g1, ↓reduceIte, w249_54, w249_55, nb1]
      rw [e]; rfl
  exact key 0 (by omega) (fun j hj => absurd hj (by omega))
def cntD (p : Nat → Bool) (k : Nat) : Nat → Nat
  | 0 => 0
  | n + 1 => (p k).toNat + cntD p (k + 1) n
theorem cntD_N (p : Nat → Bool) : ∀ n k, cntN p (k + n) = cntN p k + cntD p k n := by
  intro n
  induction n with
  | zero => intro k; rfl
  | succ n ih =>
    intro k
    rw [cntD, show k + (n + 1) = (k + 1) + n by omega, ih (k + 1), cntN]; omega
theorem c247 (hb : zB I s η ρ) {rc rx : Nat} (hK : zK I t τ) (k p w : Int32) (hQ : ∀ I', fB I I' → Q (some (.int (q_fits η ρ τ t k p w))) (mHh xL I' J (mRf rc rx rr))) : WP (d + 7) 247 0 [.ref 180, .int k, .int p, .int w, mDum, mDum, mDum] [] (mHh xL I J (mRf rc rx rr)) Q := by
  have hb0 := hb
  obtain ⟨hk, hh, hr, ho, -⟩ := hb
  have hn5 := hk.1
  have ht : (nI t).toInt = (t : Int) := nI_toInt (by have := hK.1; omega)
  have e8 : (decide ((0 : Int32) ≤ k) && decide (k ≤ nI t)) = sW k 0 (nI t) := rfl
  have e9 : (decide ((0 : Int32) ≤ w) && decide (w ≤ 1)) = sW w 0 1 := rfl
  simp only [w247_0, w247_1, w247_2, w247_3, hK.2.1, w247_6, c170, e8, ↓reduceIte, Option.toList_some, Option.toList_none, List.cons_append, List.nil_append, Int32.reduceAdd, Int32.reduceLT, Int32.reduceLE, Int32.reduceToNatClampNeg, w247_9, q_fits] at hQ ⊢
  by_cases h1 : sW k 0 (nI t) = true
  · by_cases h2 : isP η p = true
    · by_cases h3 : sW w 0 1 = true
      · rw [h1, h2, h3] at hQ
        simp only [sB_t h1, sB_t h2, sB_t h3, o01, ↓reduceIte, w247_12, w247_13, w247_14, c169 hh hk, ↓reduceIte, Option.toList_some, Option.toList_none, List.cons_append, List.nil_append, Int32.reduceAdd, Int32.reduceLT, Int32.reduceLE, Int32.reduceToNatClampNeg, w247_17, w247_20, w247_21, w247_22, w247_23, c170, e9, w247_26, w247_31, w247_32, Bool.and_self] at hQ ⊢
        obtain ⟨k, -, hkt, rfl⟩ := (sW_iff (a := 0) (b := t) rfl ht).1 h1
        obtain ⟨p, hp, rfl⟩ := (isP_iff hk).1 h2
        have ek : (nI k).toNatClampNeg = k := nI_clamp (by have := hK.1; omega)
        have ep : (nI p).toNatClampNeg = p := nI_clamp (by omega)
        rw [ek, ep] at hQ
        simp only [w247_33]
        refine c248 hb0 hp ?_
        intro I1 f1 u
        have hF := hQ I1 f1
        have hK1 := zK_B f1 hK
        simp only [↓reduceIte, Option.toList_some, Option.toList_none, List.cons_append, List.nil_append, Int32.reduceAdd, Int32.reduceLT, Int32.reduceLE, Int32.reduceToNatClampNeg, w247_36, w247_37, w247_39, w247_41, w247_43, w247_45]
        have L : ∀ n, n ≤ 21 → WP (d + 7) 247 47 [.ref 180, .int (nI k), .int (nI p), .int w, .int (nI (cntD (dF η ρ τ p k) n (21 - n))), .int (fin2 (fnd (dF η ρ τ p k) (21 - n) n)), .int (nI n - 1)] [] (mHh xL I1 J (mRf rc rx rr)) Q := by
          intro n
          induction n with
          | zero =>
            intro _
            have g1 : nI 0 - 1 < 0 := by decide
            have e21 : cnt (dF η ρ τ p k) 21 = nI (cntD (dF η ρ τ p k) 0 21) := by
              have := cntD_N (dF η ρ τ p k) 21 0
              have z : cntN (dF η ρ τ p k) 0 = 0 := rfl
              rw [z, Nat.zero_add, Nat.zero_add] at this
              rw [cnt_N, this]
            rw [w247_47]
            simp only [w247_49, g1, ↓reduceIte, w247_78, w247_79]
            by_cases hw : w = 0
            · rw [if_pos hw, e21] at hF
              simp only [hw, ↓reduceIte, w247_82, w247_84, w247_89]
              exact hF
            · rw [if_neg hw] at hF
              simp only [hw, ↓reduceIte, w247_87, w247_89]
              exact hF
          | succ n ih =>
            intro hn
            have ih := ih (by omega)
            have g1 : ¬ nI n < 0 := nI_pos (by omega)
            have em : nI n + -1 = nI n - 1 := by
              cases n with
              | zero => rfl
              | succ n => rw [pk_m1, nI_pred]
            rw [show 21 - n = (21 - (n + 1)) + 1 by omega, cntD, fnd] at ih
            rw [w247_47]
            simp only [nI_pred, w247_49, g1, ↓reduceIte, w247_52, w247_53, w247_55, w247_56, c249 hK1 (M := mBk η ρ p n) (show n < 21 by omega) (fun i hi => u n (by omega) i hi) hkt, ↓reduceIte, Option.toList_some, Option.toList_none, List.cons_append, List.nil_append, Int32.reduceAdd, Int32.reduceLT, Int32.reduceLE, Int32.reduceToNatClampNeg, w247_59]
            by_cases hc : dFt τ (mBk η ρ p n) k = true
            · have hc2 : dF η ρ τ p k n = true := hc
              rw [hc2, if_pos rfl, show true.toNat = 1 from rfl, Nat.add_comm 1] at ih
              simp only [sB_t hc, o01, ↓reduceIte, w247_65, w247_68, w247_70, w247_72, w247_75, nI_1, em]
              exact ih
            · have hc' : dFt τ (mBk η ρ p n) k = false := by simpa using hc
              have hc2 : dF η ρ τ p k n = false := hc'
              rw [hc2, if_neg (by decide), show false.toNat = 0 from rfl, Nat.zero_add] at ih
              simp only [sB_f hc', ↓reduceIte, w247_62, w247_72, w247_75, em]
              exact ih
        exact L 21 (by omega)
      · have e3 : sW w 0 1 = false := by simpa using h3
        rw [e3, Bool.and_false, Bool.and_false] at hQ
        simp only [sB_t h1, sB_t h2, sB_f e3, o01, ↓reduceIte, w247_12, w247_13, w247_14, c169 hh hk, ↓reduceIte, Option.toList_some, Option.toList_none, List.cons_append, List.nil_append, Int32.reduceAdd, Int32.reduceLT, Int32.reduceLE, Int32.reduceToNatClampNeg, w247_17, w247_20, w247_21, w247_22, w247_23, c170, e9, w247_26, w247_29, w247_30]
        exact hQ I fB_0
    · have e2 : isP η p = false := by simpa using h2
      rw [e2, Bool.false_and, Bool.and_false] at hQ
      simp only [sB_t h1, sB_f e2, o01, ↓reduceIte, w247_12, w247_13, w247_14, c169 hh hk, ↓reduceIte, Option.toList_some, Option.toList_none, List.cons_append, List.nil_append, Int32.reduceAdd, Int32.reduceLT, Int32.reduceLE, Int32.reduceToNatClampNeg, w247_17, w247_29, w247_30]
      exact hQ I fB_0
  · have e1 : sW k 0 (nI t) = false := by simpa using h1
    rw [e1, Bool.false_and] at hQ
    simp only [sB_f e1, ↓reduceIte, w247_29, w247_30]
    exact hQ I fB_0
theorem c241 (a b : Nat) (ha : a < 2 ^ 31) (hb : b < 2 ^ 31) {x : Nat} {h : mHp} : WP d 241 0 [.ref x, .int (nI a), .int (nI b)] [] h Q = Q (some (.int (nI (max a b)))) h := by
  rw [w241_0]
  simp only [w241_1, w241_2]
  by_cases hc : a ≤ b
  · have e : max a b = b := by omega
    simp only [(nI_leI ha hb).2 hc, ↓reduceIte, w241_0, w241_1, w241_2, w241_5, w241_6, w241_9, w241_10, e]
  · have e : max a b = a := by omega
    have g : ¬ nI a ≤ nI b := fun z => hc ((nI_leI ha hb).1 z)
    simp only [g, ↓reduceIte, w241_0, w241_1, w241_2, w241_5, w241_6, w241_9, w241_10, e]
theorem c250 (hb : zB I s η ρ) {rc rx : Nat} (hK : zK I t τ) (k p v : Int32) (hQ : ∀ I', fB I I' → Q (some (.int (q_look η ρ τ t k p v))) (mHh xL I' J (mRf rc rx rr))) : WP (d + 7) 250 0 [.ref 180, .int k, .int p, .int v, mDum, mDum, mDum, mDum, mDum, mDum] [] (mHh xL I J (mRf rc rx rr)) Q := by
  have hb0 := hb
  obtain ⟨hk, hh, hr, ho, -⟩ := hb
  have hn5 := hk.1
  have ht : (nI t).toInt = (t : Int) := nI_toInt (by have := hK.1; omega)
  have e8 : (decide ((0 : Int32) ≤ k) && decide (k ≤ nI t)) = sW k 0 (nI t) := rfl
  have e25 : ∀ k, 25 * nI k = nI (25 * k) := fun k => pk_mul 25 k
  simp only [w250_0, w250_1, w250_2, w250_3, hK.2.1, w250_6, c170, e8, ↓reduceIte, Option.toList_some, Option.toList_none, List.cons_append, List.nil_append, Int32.reduceAdd, Int32.reduceLT, Int32.reduceLE, Int32.reduceToNatClampNeg, w250_9, q_look] at hQ ⊢
  by_cases h1 : sW k 0 (nI t) = true
  · by_cases h2 : isP η p = true
    · by_cases h3 : isM v = true
      · rw [h1, h2, h3] at hQ
        simp only [sB_t h1, sB_t h2, sB_t h3, o01, ↓reduceIte, w250_12, w250_13, w250_14, c169 hh hk, ↓reduceIte, Option.toList_some, Option.toList_none, List.cons_append, List.nil_append, Int32.reduceAdd, Int32.reduceLT, Int32.reduceLE, Int32.reduceToNatClampNeg, w250_17, w250_20, w250_21, c203, w250_24, w250_29, w250_30, Bool.and_self] at hQ ⊢
        obtain ⟨k, -, hkt, rfl⟩ := (sW_iff (a := 0) (b := t) rfl ht).1 h1
        obtain ⟨p, hp, rfl⟩ := (isP_iff hk).1 h2
        have ek : (nI k).toNatClampNeg = k := nI_clamp (by have := hK.1; omega)
        have ep : (nI p).toNatClampNeg = p := nI_clamp (by omega)
        rw [ek, ep] at hQ
        simp only [w250_31]
        refine c248 hb0 hp ?_
        intro I1 f1 u
        have hF := hQ I1 f1
        have hK1 := zK_B f1 hK
        have fit : ∀ x, x < 21 → ∀ {Q : Option Value → mHp → Prop} {d : Nat}, WP d 249 0 [.ref 180, .int (nI x), .int (nI k), mDum] [] (mHh xL I1 J (mRf rc rx rr)) Q = Q (some (.int (sB01 (dF η ρ τ p k x)))) (mHh xL I1 J (mRf rc rx rr)) := fun x hx {_} {_} => c249 hK1 (M := mBk η ρ p x) hx (fun i hi => u x hx i hi) hkt
        simp only [↓reduceIte, Option.toList_some, Option.toList_none, List.cons_append, List.nil_append, Int32.reduceAdd, Int32.reduceLT, Int32.reduceLE, Int32.reduceToNatClampNeg, w250_34, w250_35, w250_37, w250_38]
        have A : ∀ x, x ≤ 21 → WP (d + 7) 250 40 [.ref 180, .int (nI k), .int (nI p), .int v, .int (nI (cntN (dF η ρ τ p k) x)), .int (nI x), mDum, mDum, mDum, mDum] [] (mHh xL I1 J (mRf rc rx rr)) Q := by
          refine iter_dn ?_ ?_
          · intro x hx ih
            have g1 : ¬ 21 ≤ nI x := by rw [ni_le 21 (by decide) (by omega)]; omega
            rw [cntN] at ih
            rw [w250_40]
            simp only [w250_42, w250_44, g1, ↓reduceIte, w250_47, w250_48, w250_50, w250_51, fit x hx, ↓reduceIte, Option.toList_some, Option.toList_none, List.cons_append, List.nil_append, Int32.reduceAdd, Int32.reduceLT, Int32.reduceLE, Int32.reduceToNatClampNeg, w250_54]
            by_cases hc : dF η ρ τ p k x = true
            · rw [hc] at ih
              simp only [sB_t hc, o01, ↓reduceIte, w250_57, w250_60, w250_63, nI_1]
              exact ih
            · have hc' : dF η ρ τ p k x = false := by simpa using hc
              rw [hc'] at ih
              simp only [sB_f hc', ↓reduceIte, w250_60, w250_63, nI_1]
              exact ih
          · have g1 : 21 ≤ nI 21 := by decide
            rw [w250_40]
            simp only [w250_42, w250_44, g1, ↓reduceIte, w250_66, w250_68, w250_70, w250_71, w250_73, w250_74]
            have hle := cntN_le (dF η ρ τ p k) 21
            by_cases hz : cntN (dF η ρ τ p k) 21 = 0
            · have g2 : nI (cntN (dF η ρ τ p k) 21) ≤ 0 := by rw [hz]; decide
              rw [if_pos hz] at hF
              have g3 : ¬ 25 ≤ nI 0 := by decide
              rw [show (0 : Int32) = nI 0 from rfl, w250_76]
              simp only [w250_78, w250_80, g3, ↓reduceIte, w250_83, g2, w250_85, w250_179, w250_181]
              exact hF
            · have g2 : ¬ nI (cntN (dF η ρ τ p k) 21) ≤ 0 := nI_nle (by omega) (by omega)
              rw [if_neg hz] at hF
              have L : ∀ i, i ≤ 25 → ∀ (best few : Int32) (v8 v9 : Value), (i = 0 → best = -2) → (∀ j, i = j + 1 → best = nI (lW (lkW η ρ τ v p k) j) ∧ few = nI (lkW η ρ τ v p k (lW (lkW η ρ τ v p k) j))) → WP (d + 7) 250 76 [.ref 180, .int (nI k), .int (nI p), .int v, .int (nI (cntN (dF η ρ τ p k) 21)), .int best, .int few, .int (nI i), v8, v9] [] (mHh xL I1 J (mRf rc rx rr)) Q := by
                refine iter_dn ?_ ?_
                · intro i hi ih best few v8 v9 h0 hs
                  have g3 : ¬ 25 ≤ nI i := by rw [ni_le 25 (by decide) (by omega)]; omega
                  have hcl := lkC_le (η := η) (ρ := ρ) (τ := τ) (v := v) (p := p) (k := k) (i := i) (x := 21)
                  have hwl := lkW_le (η := η) (ρ := ρ) (τ := τ) (v := v) (p := p) (k := k) (i := i)
                  rw [w250_76]
                  simp only [w250_78, w250_80, g3, ↓reduceIte, w250_83, w250_85, g2, w250_88, w250_89, w250_91, w250_92]
                  have B : ∀ x, x ≤ 21 → WP (d + 7) 250 94 [.ref 180, .int (nI k), .int (nI p), .int v, .int (nI (cntN (dF η ρ τ p k) 21)), .int best, .int few, .int (nI i), .int (nI (lkC η ρ τ v p k i x)), .int (nI x)] [] (mHh xL I1 J (mRf rc rx rr)) Q := by
                    refine iter_dn ?_ ?_
                    · intro x hx ih2
                      have g1 : ¬ 21 ≤ nI x := by rw [ni_le 21 (by decide) (by omega)]; omega
                      have b1 : mIn (nI (25 * x + i)) 525 = true := mIn_nI (by omega) (by omega)
                      have b2 : (nI (25 * x + i)).toNatClampNeg = 25 * x + i := nI_clamp (by omega)
                      have es : lkC η ρ τ v p k i (x + 1) = lkC η ρ τ v p k i x + (dF η ρ τ p k x && decide (v ≤ mBk η ρ p x i)).toNat := rfl
                      rw [es] at ih2
                      rw [w250_94]
                      simp only [w250_96, w250_98, g1, ↓reduceIte, w250_101, w250_102, w250_104, w250_105, fit x hx, ↓reduceIte, Option.toList_some, Option.toList_none, List.cons_append, List.nil_append, Int32.reduceAdd, Int32.reduceLT, Int32.reduceLE, Int32.reduceToNatClampNeg, w250_108]
                      by_cases hc : dF η ρ τ p k x = true
                      · rw [hc, Bool.true_and] at ih2
                        simp only [sB_t hc, o01, ↓reduceIte, w250_111, w250_112, w250_115, w250_117, w250_119, w250_120, e25, w250_122, nI_add, w250_123, b1, b2, u x hx i (by omega), w250_124, w250_125]
                        by_cases hv : v ≤ mBk η ρ p x i
                        · rw [decide_eq_true hv] at ih2
                          rw [if_neg (i_le hv)]
                          simp only [w250_128, w250_131, w250_134, nI_1]
                          exact ih2
                        · rw [decide_eq_false hv] at ih2
                          rw [if_pos (i_nle hv)]
                          simp only [w250_131, w250_134, nI_1]
                          exact ih2
                      · have hc' : dF η ρ τ p k x = false := by simpa using hc
                        rw [hc', Bool.false_and] at ih2
                        simp only [sB_f hc', ↓reduceIte, w250_131, w250_134, nI_1]
                        exact ih2
                    · have g1 : 21 ≤ nI 21 := by decide
                      have em : max (lkC η ρ τ v p k i 21) (cntN (dF η ρ τ p k) 21 - lkC η ρ τ v p k i 21) = lkW η ρ τ v p k i := rfl
                      rw [w250_94]
                      simp only [w250_96, w250_98, g1, ↓reduceIte, w250_137, w250_138, w250_140, w250_142, w250_144, pk_sub hcl, w250_145, c241 _ _ (show lkC η ρ τ v p k i 21 < 2 ^ 31 by omega) (show cntN (dF η ρ τ p k) 21 - lkC η ρ τ v p k i 21 < 2 ^ 31 by omega), em, ↓reduceIte, Option.toList_some, Option.toList_none, List.cons_append, List.nil_append, Int32.reduceAdd, Int32.reduceLT, Int32.reduceLE, Int32.reduceToNatClampNeg, w250_148, w250_150, w250_152]
                      cases i with
                      | zero =>
                        have eb := h0 rfl
                        have g4 : ((-2 : Int32) < 0) = True := by simp
                        simp only [eb, g4, ↓reduceIte, w250_165, w250_167, w250_169, w250_171, w250_173, w250_176, nI_1]
                        exact ih _ _ _ _ (fun z => by omega) (fun j hj => by
                          have : j = 0 := by omega
                          subst this; exact ⟨rfl, rfl⟩)
                      | succ j =>
                        obtain ⟨eb, ef⟩ := hs j rfl
                        have hlw := lW_le (lkW η ρ τ v p k) j
                        have hwj := lkW_le (η := η) (ρ := ρ) (τ := τ) (v := v) (p := p) (k := k) (i := lW (lkW η ρ τ v p k) j)
                        have g4 : ¬ nI (lW (lkW η ρ τ v p k) j) < 0 := nI_pos (by omega)
                        have hle2 : (nI (lkW η ρ τ v p k (j + 1)) < nI (lkW η ρ τ v p k (lW (lkW η ρ τ v p k) j))) ↔ (lkW η ρ τ v p k (j + 1) < lkW η ρ τ v p k (lW (lkW η ρ τ v p k) j)) := nI_ltI (by omega) (by omega)
                        simp only [eb, ef, g4, ↓reduceIte, w250_155, w250_157, w250_159, hle2]
                        by_cases hc : lkW η ρ τ v p k (j + 1) < lkW η ρ τ v p k (lW (lkW η ρ τ v p k) j)
                        · rw [if_pos hc]
                          simp only [w250_165, w250_167, w250_169, w250_171, w250_173, w250_176, nI_1]
                          exact ih _ _ _ _ (fun z => by omega) (fun j2 hj => by
                            have : j2 = j + 1 := by omega
                            subst this; rw [lW, if_pos hc]; exact ⟨rfl, rfl⟩)
                        · rw [if_neg hc]
                          simp only [w250_162, w250_173, w250_176, nI_1]
                          exact ih _ _ _ _ (fun z => by omega) (fun j2 hj => by
                            have : j2 = j + 1 := by omega
                            subst this; rw [lW, if_neg hc]; exact ⟨rfl, rfl⟩)
                  exact B 0 (by omega)
                · intro best few v8 v9 h0 hs
                  have g3 : 25 ≤ nI 25 := by decide
                  obtain ⟨eb, -⟩ := hs 24 rfl
                  rw [w250_76]
                  simp only [w250_78, w250_80, g3, ↓reduceIte, w250_179, w250_181, eb]
                  exact hF
              exact L 0 (by omega) _ _ _ _ (fun _ => rfl) (fun j hj => by omega)
        exact A 0 (by omega)
      · have e3 : isM v = false := by simpa using h3
        rw [e3, Bool.and_false, Bool.and_false] at hQ
        simp only [sB_t h1, sB_t h2, sB_f e3, o01, ↓reduceIte, w250_12, w250_13, w250_14, c169 hh hk, ↓reduceIte, Option.toList_some, Option.toList_none, List.cons_append, List.nil_append, Int32.reduceAdd, Int32.reduceLT, Int32.reduceLE, Int32.reduceToNatClampNeg, w250_17, w250_20, w250_21, c203, w250_24, w250_27, w250_28]
        exact hQ I fB_0
    · have e2 : isP η p = false := by simpa using h2
      rw [e2, Bool.false_and, Bool.and_false] at hQ
      simp only [sB_t h1, sB_f e2, o01, ↓reduceIte, w250_12, w250_13, w250_14, c169 hh hk, ↓reduceIte, Option.toList_some, Option.toList_none, List.cons_append, List.nil_append, Int32.reduceAdd, Int32.reduceLT, Int32.reduceLE, Int32.reduceToNatClampNeg, w250_17, w250_27, w250_28]
      exact hQ I fB_0
  · have e1 : sW k 0 (nI t) = false := by simpa using h1
    rw [e1, Bool.false_and] at hQ
    simp only [sB_f e1, ↓reduceIte, w250_27, w250_28]
    exact hQ I fB_0
end QRW
