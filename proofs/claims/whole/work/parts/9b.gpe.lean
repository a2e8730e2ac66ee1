/-! The glass reads a person, a doing. -/
def mMk (k : Nat) : Int32 := if k = 0 then 305 else if k = 1 then 511 else if k = 2 then 383 else 313
def xMk (I : Nat → Nat → Int32) (o : Nat) : Prop := ∀ k, k < 4 → I (o + 9 + 3 * k) 2 = mMk k
def gYs (I : Nat → Nat → Int32) (J : Nat → Nat → Int64) (W : Nat → Int32) (L o t : Nat) (σ : pSg) : Prop := gY I J W L (.inr (t, σ.2.2)) ∧ mXh I o σ.1 ∧ gNm I J o σ.2.1 ∧ xMk I o
def gYf (I : Nat → Nat → Int32) (J : Nat → Nat → Int64) (W : Nat → Int32) (L o : Nat) (f : Nat × Nat) : Prop := gY I J W L (.inl f) ∧ xMk I o
def fYg (o : Nat) (I I' : Nat → Nat → Int32) : Prop := ∀ a, a ≠ 10 → (a < o ∨ o + 21 ≤ a) → I' a = I a
def jYg (o : Nat) (J J' : Nat → Nat → Int64) : Prop := ∀ a, a ≠ o + 1 → a ≠ o + 4 → J' a = J a
def gYt (xL rc rx o : Nat) (I : Nat → Nat → Int32) (J : Nat → Nat → Int64) (W : Nat → Int32) (L : Nat) (Q : Option Value → mHp → Prop) : pSr → Prop
  | .inl f => ∀ I' J', fYg o I I' → jYg o J J' → gYf I' J' W L o f → Q none (mHh xL I' J' (mRf rc rx o))
  | .inr p => ∀ I' J', fYg o I I' → jYg o J J' → gYs I' J' W L o p.1 p.2 → Q none (mHh xL I' J' (mRf rc rx o))
theorem rPer_q {W : Nat → Int32} {L t : Nat} {σ : pSg} {p : Nat × yW} (h : kLv W L t) (e : rPer W L t σ = .inr p) : ∃ q2 q3 q4 q5, (sSt W L 20 gNo (.inr (t, σ.2.2)) = .inr q2 ∧ sSt W L 1 (gTw W L σ.2.1) (sSt W L 20 gNo (.inr (t, σ.2.2))) = .inr q3 ∧ sSt W L 2 (gIw W L 20) (sSt W L 1 (gTw W L σ.2.1) (sSt W L 20 gNo (.inr (t, σ.2.2)))) = .inr q4 ∧ sSt W L 2 (gIw W L 9) (sSt W L 2 (gIw W L 20) (sSt W L 1 (gTw W L σ.2.1) (sSt W L 20 gNo (.inr (t, σ.2.2))))) = .inr q5) ∧ q2.1 = t + 1 ∧ q3.1 = t + 2 ∧ q4.1 = t + 3 := by
  have l1 : ∀ q, sSt W L 20 gNo (.inr (t, σ.2.2)) = .inr q → kLv W L q.1 := fun q e => (sSt_r (by decide) (kLv_0 h) e).elim fun _ a => a.2.2.2.1
  have l2 : ∀ q, sSt W L 1 (gTw W L σ.2.1) (sSt W L 20 gNo (.inr (t, σ.2.2))) = .inr q → kLv W L q.1 := fun q e => (sSt_r (by decide) l1 e).elim fun _ a => a.2.2.2.1
  have l3 : ∀ q, sSt W L 2 (gIw W L 20) (sSt W L 1 (gTw W L σ.2.1) (sSt W L 20 gNo (.inr (t, σ.2.2)))) = .inr q → kLv W L q.1 := fun q e => (sSt_r (by decide) l2 e).elim fun _ a => a.2.2.2.1
  have l4 : ∀ q, sSt W L 2 (gIw W L 9) (sSt W L 2 (gIw W L 20) (sSt W L 1 (gTw W L σ.2.1) (sSt W L 20 gNo (.inr (t, σ.2.2))))) = .inr q → kLv W L q.1 := fun q e => (sSt_r (by decide) l3 e).elim fun _ a => a.2.2.2.1
  obtain ⟨q5, e5, -, -, -, -⟩ := sSt_r (by decide) l4 e
  obtain ⟨q4, e4, -, -, -, -⟩ := sSt_r (by decide) l3 e5
  obtain ⟨q3, e3, -, a3, -, -⟩ := sSt_r (by decide) l2 e4
  obtain ⟨q2, e2, -, a2, -, -⟩ := sSt_r (by decide) l1 e3
  obtain ⟨q1, e1, -, a1, -, -⟩ := sSt_r (by decide) (kLv_0 h) e2
  cases e1
  have b1 : q2.1 = t + 1 := a1
  obtain ⟨q3', e3', -, a4, -, -⟩ := sSt_r (by decide) l2 e4
  have : q3 = q3' := by
    have := e3.symm.trans e3'
    cases this; rfl
  subst this
  exact ⟨q2, q3, q4, q5, ⟨e2, e3, e4, e5⟩, b1, by omega, by omega⟩
theorem xMk_k {I I' : Nat → Nat → Int32} {o : Nat} (h : xMk I o) (e : ∀ k, k < 4 → I' (o + 9 + 3 * k) = I (o + 9 + 3 * k)) : xMk I' o := fun k hk => by rw [e k hk]; exact h k hk
section GPE
variable {d : Nat} {xL : Nat} {I : Nat → Nat → Int32} {J : Nat → Nat → Int64} {rc rx o : Nat} {Q : Option Value → mHp → Prop} {L : Nat} {W : Nat → Int32} {t : Nat} {σ : pSg}
theorem c41 (ho : mHo o) (h : gYs I J W L o t σ) (ok : σOk t σ) (hP : gYt xL rc rx o I J W L Q (sPer W L t σ)) : WP (d + 4) 41 0 [.ref 10, mDum] [] (mHh xL I J (mRf rc rx o)) Q := by
  obtain ⟨hx, hh, hn, hm⟩ := h
  have hg : gRD I J W L t 0 0 := hx.1
  have ho' : 15 < o ∧ o < 42 := by rcases ho with rfl | rfl <;> decide
  obtain ⟨k1, k2, k3, -, -, -, -, -, n1, n2, n3, -⟩ := mHo_k ho
  have hh0 := hh
  obtain ⟨-, u1, u2, u3, u4, u5, u6, u7⟩ := hh0
  have p5 := ok.1
  rw [sPer] at hP
  have g5 : (nI σ.1.1 < 5) ↔ σ.1.1 < 5 := in_lt 5 (by decide) (by omega)
  simp only [w41_0, w41_1, w41_4 (ha := ho), u1, w41_7, w41_8, w41_9, w41_10, g5]
  by_cases c : σ.1.1 = 5
  · rw [if_pos c] at hP
    have g1 := gRD_fl hg (g := 2) (by decide) (by decide)
    rw [if_pos rfl, if_pos rfl] at g1
    have ff := fR1_fl I (nI 2) (nI (tp W L t))
    have e2 : nI 2 = 2 := rfl
    rw [e2] at g1 ff
    simp only [if_neg (show ¬ σ.1.1 < 5 by omega), w41_13, w41_14, w41_15, c42 (d := d + 2) hg, ↓reduceIte, Option.toList_some, Option.toList_none, List.cons_append, List.nil_append, Int32.reduceAdd, Int32.reduceLT, Int32.reduceLE, Int32.reduceToNatClampNeg, w41_18]
    exact hP _ J (fun a h1 _ => ff.1 a h1) (fun _ _ _ => rfl) ⟨⟨t, g1, (by decide : (2 : Nat) ≠ 0)⟩, xMk_k hm (fun k hk => ff.1 _ (by omega))⟩
  · rw [if_neg c] at hP
    have b1 : mIn (nI σ.1.1) 5 = true := mIn_nI (by omega) (by omega)
    have b2 : (nI σ.1.1).toNatClampNeg = σ.1.1 := nI_clamp (by omega)
    simp only [if_pos (show σ.1.1 < 5 by omega), w41_19, w41_20, w41_22]
    refine c44x (d := d + 1) (y := 100) hx (κ := 20) (by decide) (by decide) (by decide) (fun I1 f1 g1 => ?_)
    simp only [↓reduceIte, Option.toList_some, Option.toList_none, List.cons_append, List.nil_append, Int32.reduceAdd, Int32.reduceLT, Int32.reduceLE, Int32.reduceToNatClampNeg, w41_25, w41_26, w41_29 (ha := ho), w41_32, w41_33, w41_34]
    refine c45 (d := d) ho (gNm_k hn (f1 o (by omega)) (fun _ _ => rfl) (fun _ _ => rfl)) g1 (fun I2 x f2 g2 v2 => ?_)
    simp only [↓reduceIte, Option.toList_some, Option.toList_none, List.cons_append, List.nil_append, Int32.reduceAdd, Int32.reduceLT, Int32.reduceLE, Int32.reduceToNatClampNeg, w41_37 (ha := k1) (hi := by rw [n1]; exact b1), b2, w41_38, w41_39, w41_42 (ha := ho), w41_45, w41_46, w41_47, w41_49]
    have j14 : mU J (o + 1) σ.1.1 x 14 = J 14 := mU_f (by omega)
    refine c48 (d := d) (y := 20) (gY_k g2 rfl rfl rfl rfl j14) (m := 20) (by decide) rfl (fun I3 y f3 g3 v3 => ?_)
    simp only [↓reduceIte, Option.toList_some, Option.toList_none, List.cons_append, List.nil_append, Int32.reduceAdd, Int32.reduceLT, Int32.reduceLE, Int32.reduceToNatClampNeg, w41_52 (ha := k2) (hi := by rw [n2]; exact b1), b2, w41_53, w41_54, w41_57 (ha := ho), w41_60, w41_61, w41_62, w41_64]
    refine c48 (d := d) (y := 9) (gY_k g3 (mU_f (by omega)) (mU_f (by omega)) (mU_f (by omega)) (mU_f (by omega)) rfl) (m := 9) (by decide) rfl (fun I4 z f4 g4 v4 => ?_)
    simp only [↓reduceIte, Option.toList_some, Option.toList_none, List.cons_append, List.nil_append, Int32.reduceAdd, Int32.reduceLT, Int32.reduceLE, Int32.reduceToNatClampNeg, w41_67 (ha := k3) (hi := by rw [n3]; exact b1), b2, w41_68, w41_69, w41_71]
    refine c44x (d := d + 1) (y := 59) (gY_k g4 (mU_f (by omega)) (mU_f (by omega)) (mU_f (by omega)) (mU_f (by omega)) rfl) (κ := 4) (by decide) (by decide) (by decide) (fun I5 f5 g5 => ?_)
    have e5 : ∀ a, a ≠ 10 → a ≠ o + 2 → a ≠ o + 3 → I5 a = I a := by
      intro a h1 h2 h3
      rw [f5 a h1, mU_f h3, f4 a h1, mU_f h2, f3 a h1, f2 a h1, f1 a h1]
    have e52 : I5 (o + 2) = mU I (o + 2) σ.1.1 y (o + 2) := by
      rw [f5 _ (by omega), mU_f (by omega), f4 _ (by omega)]
      funext j
      by_cases e : j = σ.1.1
      · subst e; rw [mU_s, mU_s]
      · rw [mU_k e, mU_k e, f3 _ (by omega), f2 _ (by omega), f1 _ (by omega)]
    have e53 : I5 (o + 3) = mU I (o + 3) σ.1.1 z (o + 3) := by
      rw [f5 _ (by omega)]
      funext j
      by_cases e : j = σ.1.1
      · subst e; rw [mU_s, mU_s]
      · rw [mU_k e, mU_k e, f4 _ (by omega), mU_f (by omega), f3 _ (by omega), f2 _ (by omega), f1 _ (by omega)]
    have eo : I5 o = I o := e5 o (by omega) (by omega) (by omega)
    simp only [↓reduceIte, Option.toList_some, Option.toList_none, List.cons_append, List.nil_append, Int32.reduceAdd, Int32.reduceLT, Int32.reduceLE, Int32.reduceToNatClampNeg, w41_74, w41_75, w41_78, w41_79 (ha := ho), eo, u1, w41_82, w41_83, nI_1, w41_84 (ha := ho), w41_87]
    have fr : fYg o I (mU I5 o 12 (nI (σ.1.1 + 1))) := fun a h1 h2 => by rw [mU_f (by omega), e5 a h1 (by omega) (by omega)]
    have jr : jYg o J (mU J (o + 1) σ.1.1 x) := fun a h1 _ => mU_f h1
    have mk : xMk (mU I5 o 12 (nI (σ.1.1 + 1))) o := xMk_k hm (fun k hk => by rw [mU_f (by omega), e5 _ (by omega) (by omega) (by omega)])
    have g6 : gY (mU I5 o 12 (nI (σ.1.1 + 1))) (mU J (o + 1) σ.1.1 x) W L (rPer W L t σ) := gY_k g5 (mU_f (by omega)) (mU_f (by omega)) (mU_f (by omega)) (mU_f (by omega)) rfl
    cases eR : rPer W L t σ with
    | inl f =>
      rw [eR] at hP g6
      exact hP _ _ fr jr ⟨g6, mk⟩
    | inr p =>
      rw [eR] at hP g6
      obtain ⟨q2, q3, q4, q5, ⟨r2, r3, r4, r5⟩, z2, z3, z4⟩ := rPer_q hg.2.1 eR
      have x1 := v2 q2 q3 r2 r3
      have x2 := v3 q3 q4 r3 r4
      have x3 := v4 q4 q5 r4 r5
      rw [z2] at x1; rw [z3] at x2; rw [z4] at x3
      subst x1 x2 x3
      obtain ⟨a1, a2, a3, a4⟩ := ok.2.2
      obtain ⟨s1, s2, s3⟩ := psN_p (N := σ.2.1) (x := kn W L (t + 1)) (show σ.1.1 < 10 by omega)
      have e6 : ∀ a, a ≠ 10 → a ≠ o → a ≠ o + 2 → a ≠ o + 3 → mU I5 o 12 (nI (σ.1.1 + 1)) a = I a := fun a h1 h0 h2 h3 => by rw [mU_f h0, e5 a h1 h2 h3]
      refine hP _ _ fr jr ⟨g6, ⟨ho, mU_s _ _ _ _, ?_, ?_, ?_, ?_, ?_, ?_⟩, ?_, mk⟩
      · rw [mU_k (by decide), eo]; exact u2
      · rw [mU_k (by decide), eo]; exact u3
      · rw [mU_k (by decide), eo]; exact u4
      · intro q hq
        change q < σ.1.1 + 1 at hq
        show _ = mU (mU σ.1.2.2.1 0 σ.1.1 (nI (kv W L (t + 2)))) 1 σ.1.1 (nI (kv W L (t + 3))) 0 q ∧ _ = mU (mU σ.1.2.2.1 0 σ.1.1 (nI (kv W L (t + 2)))) 1 σ.1.1 (nI (kv W L (t + 3))) 1 q
        rw [show mU I5 o 12 (nI (σ.1.1 + 1)) (o + 2) = I5 (o + 2) from mU_f (by omega), show mU I5 o 12 (nI (σ.1.1 + 1)) (o + 3) = I5 (o + 3) from mU_f (by omega), e52, e53, mU_a (show (0 : Nat) ≠ 1 by decide)]
        by_cases e : q = σ.1.1
        · subst e; rw [mU_s, mU_s, mU_s, mU_s]; exact ⟨rfl, rfl⟩
        · rw [mU_k e, mU_k e, mU_k e, mU_k e, mU_a (by decide)]
          exact u5 q (by omega)
      · intro i hi
        show _ = mU (mU σ.1.2.2.1 0 σ.1.1 (nI (kv W L (t + 2)))) 1 σ.1.1 (nI (kv W L (t + 3))) 2 i ∧ _ = mU (mU σ.1.2.2.1 0 σ.1.1 (nI (kv W L (t + 2)))) 1 σ.1.1 (nI (kv W L (t + 3))) 3 i ∧ _ = mU (mU σ.1.2.2.1 0 σ.1.1 (nI (kv W L (t + 2)))) 1 σ.1.1 (nI (kv W L (t + 3))) 4 i ∧ _ = mU (mU σ.1.2.2.1 0 σ.1.1 (nI (kv W L (t + 2)))) 1 σ.1.1 (nI (kv W L (t + 3))) 5 i
        rw [e6 _ (by omega) (by omega) (by omega) (by omega), e6 _ (by omega) (by omega) (by omega) (by omega), e6 _ (by omega) (by omega) (by omega) (by omega), e6 _ (by omega) (by omega) (by omega) (by omega)]
        rw [mU_a (by decide), mU_a (by decide), mU_a (by decide), mU_a (by decide), mU_a (by decide), mU_a (by decide), mU_a (by decide), mU_a (by decide)]
        exact u6 i hi
      · intro k hk
        exact mXw_keep (e6 _ (by omega) (by omega) (by omega) (by omega)) (e6 _ (by omega) (by omega) (by omega) (by omega)) (e6 _ (by omega) (by omega) (by omega) (by omega)) (u7 k hk)
      · obtain ⟨⟨m1, m2⟩, ⟨m3, m4⟩, m5, m6⟩ := hn
        have pl : (psN (σ.2.1 ++ [(kn W L (t + 1), σ.1.1)])).length = σ.1.1 + 1 := by rw [s1, List.length_append, a1]; rfl
        refine ⟨⟨?_, ?_⟩, ⟨?_, ?_⟩, fun q y hq => ?_, fun q y hq => ?_⟩
        · rw [mU_s]; show _ = nI (psN (σ.2.1 ++ [(kn W L (t + 1), σ.1.1)])).length; rw [pl]
        · show (psN (σ.2.1 ++ [(kn W L (t + 1), σ.1.1)])).length ≤ 5; rw [pl]; omega
        · rw [mU_k (by decide), eo]; show _ = nI (dsN (σ.2.1 ++ [(kn W L (t + 1), σ.1.1)])).length; rw [s2]; exact m3
        · show (dsN (σ.2.1 ++ [(kn W L (t + 1), σ.1.1)])).length ≤ 6; rw [s2]; exact m4
        · change (psN (σ.2.1 ++ [(kn W L (t + 1), σ.1.1)]))[q]? = some y at hq
          rw [s1] at hq
          by_cases e : q = σ.1.1
          · subst e
            rw [List.getElem?_append_right (by omega), a1, Nat.sub_self] at hq
            cases hq
            exact mU_s _ _ _ _
          · have : q < σ.1.1 := by
              have := (List.getElem?_eq_some_iff.1 hq).1
              rw [List.length_append, a1, List.length_singleton] at this
              omega
            rw [List.getElem?_append_left (by omega)] at hq
            rw [mU_k e]; exact m5 q y hq
        · change (dsN (σ.2.1 ++ [(kn W L (t + 1), σ.1.1)]))[q]? = some y at hq
          rw [s2] at hq
          rw [mU_f (by omega)]; exact m6 q y hq
theorem rDoi_q (h : kLv W L t) {p : Nat × yW} (e : rDoi W L t σ = .inr p) : ∃ q2 q3 q4 q5 q6 q7, (sSt W L 21 gNo (.inr (t, σ.2.2)) = .inr q2 ∧ sSt W L 1 (gTw W L σ.2.1) (sSt W L 21 gNo (.inr (t, σ.2.2))) = .inr q3 ∧ sSt W L 1 (gKw W L σ.2.1) (sSt W L 1 (gTw W L σ.2.1) (sSt W L 21 gNo (.inr (t, σ.2.2)))) = .inr q4 ∧ sSt W L 2 (gIw W L 11) (sSt W L 1 (gKw W L σ.2.1) (sSt W L 1 (gTw W L σ.2.1) (sSt W L 21 gNo (.inr (t, σ.2.2))))) = .inr q5 ∧ sSt W L 2 (gIw W L 11) (sSt W L 2 (gIw W L 11) (sSt W L 1 (gKw W L σ.2.1) (sSt W L 1 (gTw W L σ.2.1) (sSt W L 21 gNo (.inr (t, σ.2.2)))))) = .inr q6 ∧ sSt W L 2 (gIw W L 20) (sSt W L 2 (gIw W L 11) (sSt W L 2 (gIw W L 11) (sSt W L 1 (gKw W L σ.2.1) (sSt W L 1 (gTw W L σ.2.1) (sSt W L 21 gNo (.inr (t, σ.2.2))))))) = .inr q7) ∧ q2.1 = t + 1 ∧ q3.1 = t + 2 ∧ q4.1 = t + 3 ∧ q5.1 = t + 4 ∧ q6.1 = t + 5 := by
  have l1 : ∀ q, sSt W L 21 gNo (.inr (t, σ.2.2)) = .inr q → kLv W L q.1 := fun q e => (sSt_r (by decide) (kLv_0 h) e).elim fun _ a => a.2.2.2.1
  have l2 : ∀ q, sSt W L 1 (gTw W L σ.2.1) (sSt W L 21 gNo (.inr (t, σ.2.2))) = .inr q → kLv W L q.1 := fun q e => (sSt_r (by decide) l1 e).elim fun _ a => a.2.2.2.1
  have l3 : ∀ q, sSt W L 1 (gKw W L σ.2.1) (sSt W L 1 (gTw W L σ.2.1) (sSt W L 21 gNo (.inr (t, σ.2.2)))) = .inr q → kLv W L q.1 := fun q e => (sSt_r (by decide) l2 e).elim fun _ a => a.2.2.2.1
  have l4 : ∀ q, sSt W L 2 (gIw W L 11) (sSt W L 1 (gKw W L σ.2.1) (sSt W L 1 (gTw W L σ.2.1) (sSt W L 21 gNo (.inr (t, σ.2.2))))) = .inr q → kLv W L q.1 := fun q e => (sSt_r (by decide) l3 e).elim fun _ a => a.2.2.2.1
  have l5 : ∀ q, sSt W L 2 (gIw W L 11) (sSt W L 2 (gIw W L 11) (sSt W L 1 (gKw W L σ.2.1) (sSt W L 1 (gTw W L σ.2.1) (sSt W L 21 gNo (.inr (t, σ.2.2)))))) = .inr q → kLv W L q.1 := fun q e => (sSt_r (by decide) l4 e).elim fun _ a => a.2.2.2.1
  have l6 : ∀ q, sSt W L 2 (gIw W L 20) (sSt W L 2 (gIw W L 11) (sSt W L 2 (gIw W L 11) (sSt W L 1 (gKw W L σ.2.1) (sSt W L 1 (gTw W L σ.2.1) (sSt W L 21 gNo (.inr (t, σ.2.2))))))) = .inr q → kLv W L q.1 := fun q e => (sSt_r (by decide) l5 e).elim fun _ a => a.2.2.2.1
  obtain ⟨q7, e7, -, -, -, -⟩ := sSt_r (by decide) l6 e
  obtain ⟨q6, e6, -, a6, -, -⟩ := sSt_r (by decide) l5 e7
  obtain ⟨q5, e5, -, a5, -, -⟩ := sSt_r (by decide) l4 e6
  obtain ⟨q4, e4, -, a4, -, -⟩ := sSt_r (by decide) l3 e5
  obtain ⟨q3, e3, -, a3, -, -⟩ := sSt_r (by decide) l2 e4
  obtain ⟨q2, e2, -, a2, -, -⟩ := sSt_r (by decide) l1 e3
  obtain ⟨q1, e1, -, a1, -, -⟩ := sSt_r (by decide) (kLv_0 h) e2
  cases e1
  have b1 : q2.1 = t + 1 := a1
  exact ⟨q2, q3, q4, q5, q6, q7, ⟨e2, e3, e4, e5, e6, e7⟩, b1, by omega, by omega, by omega, by omega⟩
theorem c49 (ho : mHo o) (h : gYs I J W L o t σ) (ok : σOk t σ) (hP : gYt xL rc rx o I J W L Q (sDoi W L t σ)) : WP (d + 4) 49 0 [.ref 10, mDum] [] (mHh xL I J (mRf rc rx o)) Q := by
  obtain ⟨hx, hh, hn, hm⟩ := h
  have hg : gRD I J W L t 0 0 := hx.1
  have ho' : 15 < o ∧ o < 42 := by rcases ho with rfl | rfl <;> decide
  obtain ⟨-, -, -, k4, k5, k6, k7, k8, -, -, -, n4, n5, n6, n7, n8⟩ := mHo_k ho
  have hh0 := hh
  obtain ⟨-, u1, u2, u3, u4, u5, u6, u7⟩ := hh0
  have p6 := ok.2.1
  rw [sDoi] at hP
  have g6 : (nI σ.1.2.1 < 6) ↔ σ.1.2.1 < 6 := in_lt 6 (by decide) (by omega)
  simp only [w49_0, w49_1, w49_4 (ha := ho), u2, w49_7, w49_8, w49_9, w49_11, g6]
  by_cases c : σ.1.2.1 = 6
  · rw [if_pos c] at hP
    have g1 := gRD_fl hg (g := 2) (by decide) (by decide)
    rw [if_pos rfl, if_pos rfl] at g1
    have ff := fR1_fl I (nI 2) (nI (tp W L t))
    have e2 : nI 2 = 2 := rfl
    rw [e2] at g1 ff
    simp only [if_neg (show ¬ σ.1.2.1 < 6 by omega), w49_14, w49_15, w49_16, c42 (d := d + 2) hg, ↓reduceIte, Option.toList_some, Option.toList_none, List.cons_append, List.nil_append, Int32.reduceAdd, Int32.reduceLT, Int32.reduceLE, Int32.reduceToNatClampNeg, w49_19]
    exact hP _ J (fun a h1 _ => ff.1 a h1) (fun _ _ _ => rfl) ⟨⟨t, g1, (by decide : (2 : Nat) ≠ 0)⟩, xMk_k hm (fun k hk => ff.1 _ (by omega))⟩
  · rw [if_neg c] at hP
    have b1 : mIn (nI σ.1.2.1) 6 = true := mIn_nI (by omega) (by omega)
    have b2 : (nI σ.1.2.1).toNatClampNeg = σ.1.2.1 := nI_clamp (by omega)
    simp only [if_pos (show σ.1.2.1 < 6 by omega), w49_20, w49_21, w49_23]
    refine c44x (d := d + 1) (y := 101) hx (κ := 21) (by decide) (by decide) (by decide) (fun I1 f1 g1 => ?_)
    simp only [↓reduceIte, Option.toList_some, Option.toList_none, List.cons_append, List.nil_append, Int32.reduceAdd, Int32.reduceLT, Int32.reduceLE, Int32.reduceToNatClampNeg, w49_26, w49_27, w49_30 (ha := ho), w49_33, w49_34, w49_35]
    refine c45 (d := d) ho (gNm_k hn (f1 o (by omega)) (fun _ _ => rfl) (fun _ _ => rfl)) g1 (fun I2 x f2 g2 v2 => ?_)
    simp only [↓reduceIte, Option.toList_some, Option.toList_none, List.cons_append, List.nil_append, Int32.reduceAdd, Int32.reduceLT, Int32.reduceLE, Int32.reduceToNatClampNeg, w49_38 (ha := k4) (hi := by rw [n4]; exact b1), b2, w49_39, w49_40, w49_43 (ha := ho), w49_46, w49_47, w49_48]
    have j14 : mU J (o + 4) σ.1.2.1 x 14 = J 14 := mU_f (by omega)
    have hn2 : gNm I2 (mU J (o + 4) σ.1.2.1 x) o σ.2.1 := gNm_k hn (by rw [f2 o (by omega), f1 o (by omega)]) (fun k _ => by rw [mU_f (by omega)]) (fun k hk => by rw [ok.2.2.2.1] at hk; rw [mU_k (by omega)])
    refine c50 (d := d) ho hn2 (gY_k g2 rfl rfl rfl rfl j14) (fun I3 y1 f3 g3 v3 => ?_)
    simp only [↓reduceIte, Option.toList_some, Option.toList_none, List.cons_append, List.nil_append, Int32.reduceAdd, Int32.reduceLT, Int32.reduceLE, Int32.reduceToNatClampNeg, w49_51 (ha := k5) (hi := by rw [n5]; exact b1), b2, w49_52, w49_53, w49_56 (ha := ho), w49_59, w49_60, w49_61, w49_63]
    refine c48 (d := d) (y := 11) (gY_k g3 (mU_f (by omega)) (mU_f (by omega)) (mU_f (by omega)) (mU_f (by omega)) rfl) (m := 11) (by decide) rfl (fun I4 y2 f4 g4 v4 => ?_)
    simp only [↓reduceIte, Option.toList_some, Option.toList_none, List.cons_append, List.nil_append, Int32.reduceAdd, Int32.reduceLT, Int32.reduceLE, Int32.reduceToNatClampNeg, w49_66 (ha := k6) (hi := by rw [n6]; exact b1), b2, w49_67, w49_68, w49_71 (ha := ho), w49_74, w49_75, w49_76, w49_78]
    refine c48 (d := d) (y := 11) (gY_k g4 (mU_f (by omega)) (mU_f (by omega)) (mU_f (by omega)) (mU_f (by omega)) rfl) (m := 11) (by decide) rfl (fun I5 y3 f5 g5 v5 => ?_)
    simp only [↓reduceIte, Option.toList_some, Option.toList_none, List.cons_append, List.nil_append, Int32.reduceAdd, Int32.reduceLT, Int32.reduceLE, Int32.reduceToNatClampNeg, w49_81 (ha := k7) (hi := by rw [n7]; exact b1), b2, w49_82, w49_83, w49_86 (ha := ho), w49_89, w49_90, w49_91, w49_93]
    refine c48 (d := d) (y := 20) (gY_k g5 (mU_f (by omega)) (mU_f (by omega)) (mU_f (by omega)) (mU_f (by omega)) rfl) (m := 20) (by decide) rfl (fun I6 y4 f6 g6 v6 => ?_)
    simp only [↓reduceIte, Option.toList_some, Option.toList_none, List.cons_append, List.nil_append, Int32.reduceAdd, Int32.reduceLT, Int32.reduceLE, Int32.reduceToNatClampNeg, w49_96 (ha := k8) (hi := by rw [n8]; exact b1), b2, w49_97, w49_98, w49_100]
    refine c44x (d := d + 1) (y := 59) (gY_k g6 (mU_f (by omega)) (mU_f (by omega)) (mU_f (by omega)) (mU_f (by omega)) rfl) (κ := 4) (by decide) (by decide) (by decide) (fun I7 f7 g7 => ?_)
    have e7 : ∀ a, a ≠ 10 → a ≠ o + 5 → a ≠ o + 6 → a ≠ o + 7 → a ≠ o + 8 → I7 a = I a := by
      intro a h1 h2 h3 h4 h5
      rw [f7 a h1, mU_f h5, f6 a h1, mU_f h4, f5 a h1, mU_f h3, f4 a h1, mU_f h2, f3 a h1, f2 a h1, f1 a h1]
    have e75 : I7 (o + 5) = mU I (o + 5) σ.1.2.1 y1 (o + 5) := by
      rw [f7 _ (by omega), mU_f (by omega), f6 _ (by omega), mU_f (by omega), f5 _ (by omega), mU_f (by omega), f4 _ (by omega)]
      funext j
      by_cases e : j = σ.1.2.1
      · subst e; rw [mU_s, mU_s]
      · rw [mU_k e, mU_k e, f3 _ (by omega), f2 _ (by omega), f1 _ (by omega)]
    have e76 : I7 (o + 6) = mU I (o + 6) σ.1.2.1 y2 (o + 6) := by
      rw [f7 _ (by omega), mU_f (by omega), f6 _ (by omega), mU_f (by omega), f5 _ (by omega)]
      funext j
      by_cases e : j = σ.1.2.1
      · subst e; rw [mU_s, mU_s]
      · rw [mU_k e, mU_k e, f4 _ (by omega), mU_f (by omega), f3 _ (by omega), f2 _ (by omega), f1 _ (by omega)]
    have e77 : I7 (o + 7) = mU I (o + 7) σ.1.2.1 y3 (o + 7) := by
      rw [f7 _ (by omega), mU_f (by omega), f6 _ (by omega)]
      funext j
      by_cases e : j = σ.1.2.1
      · subst e; rw [mU_s, mU_s]
      · rw [mU_k e, mU_k e, f5 _ (by omega), mU_f (by omega), f4 _ (by omega), mU_f (by omega), f3 _ (by omega), f2 _ (by omega), f1 _ (by omega)]
    have e78 : I7 (o + 8) = mU I (o + 8) σ.1.2.1 y4 (o + 8) := by
      rw [f7 _ (by omega)]
      funext j
      by_cases e : j = σ.1.2.1
      · subst e; rw [mU_s, mU_s]
      · rw [mU_k e, mU_k e, f6 _ (by omega), mU_f (by omega), f5 _ (by omega), mU_f (by omega), f4 _ (by omega), mU_f (by omega), f3 _ (by omega), f2 _ (by omega), f1 _ (by omega)]
    have eo : I7 o = I o := e7 o (by omega) (by omega) (by omega) (by omega) (by omega)
    simp only [↓reduceIte, Option.toList_some, Option.toList_none, List.cons_append, List.nil_append, Int32.reduceAdd, Int32.reduceLT, Int32.reduceLE, Int32.reduceToNatClampNeg, w49_103, w49_104, w49_107, w49_108 (ha := ho), eo, u2, w49_111, w49_112, nI_1, w49_113 (ha := ho), w49_116]
    have fr : fYg o I (mU I7 o 13 (nI (σ.1.2.1 + 1))) := fun a h1 h2 => by rw [mU_f (by omega), e7 a h1 (by omega) (by omega) (by omega) (by omega)]
    have jr : jYg o J (mU J (o + 4) σ.1.2.1 x) := fun a _ h1 => mU_f h1
    have mk : xMk (mU I7 o 13 (nI (σ.1.2.1 + 1))) o := xMk_k hm (fun k hk => by rw [mU_f (by omega), e7 _ (by omega) (by omega) (by omega) (by omega) (by omega)])
    have g8 : gY (mU I7 o 13 (nI (σ.1.2.1 + 1))) (mU J (o + 4) σ.1.2.1 x) W L (rDoi W L t σ) := gY_k g7 (mU_f (by omega)) (mU_f (by omega)) (mU_f (by omega)) (mU_f (by omega)) rfl
    cases eR : rDoi W L t σ with
    | inl f =>
      rw [eR] at hP g8
      exact hP _ _ fr jr ⟨g8, mk⟩
    | inr p =>
      rw [eR] at hP g8
      obtain ⟨q2, q3, q4, q5, q6, q7, ⟨r2, r3, r4, r5, r6, r7⟩, z2, z3, z4, z5, z6⟩ := rDoi_q hg.2.1 eR
      have x1 := v2 q2 q3 r2 r3
      have x2 := v3 q3 q4 r3 r4
      have x3 := v4 q4 q5 r4 r5
      have x4 := v5 q5 q6 r5 r6
      have x5 := v6 q6 q7 r6 r7
      rw [z2] at x1; rw [z3] at x2; rw [z4] at x3; rw [z5] at x4; rw [z6] at x5
      subst x1 x2 x3 x4 x5
      obtain ⟨a1, a2, a3, a4⟩ := ok.2.2
      obtain ⟨s1, s2, s3⟩ := psN_d (N := σ.2.1) (x := kn W L (t + 1))
      have e8 : ∀ a, a ≠ 10 → a ≠ o → a ≠ o + 5 → a ≠ o + 6 → a ≠ o + 7 → a ≠ o + 8 → mU I7 o 13 (nI (σ.1.2.1 + 1)) a = I a := fun a h1 h0 h2 h3 h4 h5 => by rw [mU_f h0, e7 a h1 h2 h3 h4 h5]
      refine hP _ _ fr jr ⟨g8, ⟨ho, ?_, mU_s _ _ _ _, ?_, ?_, ?_, ?_, ?_⟩, ?_, mk⟩
      · rw [mU_k (by decide), eo]; exact u1
      · rw [mU_k (by decide), eo]; exact u3
      · rw [mU_k (by decide), eo]; exact u4
      · intro q hq
        show _ = mU (mU (mU (mU σ.1.2.2.1 2 σ.1.2.1 (vWh (kn W L (t + 2)) σ.2.1)) 3 σ.1.2.1 (nI (kv W L (t + 3)))) 4 σ.1.2.1 (nI (kv W L (t + 4)))) 5 σ.1.2.1 (nI (kv W L (t + 5))) 0 q ∧ _ = mU (mU (mU (mU σ.1.2.2.1 2 σ.1.2.1 (vWh (kn W L (t + 2)) σ.2.1)) 3 σ.1.2.1 (nI (kv W L (t + 3)))) 4 σ.1.2.1 (nI (kv W L (t + 4)))) 5 σ.1.2.1 (nI (kv W L (t + 5))) 1 q
        rw [e8 _ (by omega) (by omega) (by omega) (by omega) (by omega) (by omega), e8 _ (by omega) (by omega) (by omega) (by omega) (by omega) (by omega)]
        rw [mU_a (by decide), mU_a (by decide), mU_a (by decide), mU_a (by decide), mU_a (by decide), mU_a (by decide), mU_a (by decide), mU_a (by decide)]
        exact u5 q hq
      · intro i hi
        change i < σ.1.2.1 + 1 at hi
        show _ = mU (mU (mU (mU σ.1.2.2.1 2 σ.1.2.1 (vWh (kn W L (t + 2)) σ.2.1)) 3 σ.1.2.1 (nI (kv W L (t + 3)))) 4 σ.1.2.1 (nI (kv W L (t + 4)))) 5 σ.1.2.1 (nI (kv W L (t + 5))) 2 i ∧ _ = mU (mU (mU (mU σ.1.2.2.1 2 σ.1.2.1 (vWh (kn W L (t + 2)) σ.2.1)) 3 σ.1.2.1 (nI (kv W L (t + 3)))) 4 σ.1.2.1 (nI (kv W L (t + 4)))) 5 σ.1.2.1 (nI (kv W L (t + 5))) 3 i ∧ _ = mU (mU (mU (mU σ.1.2.2.1 2 σ.1.2.1 (vWh (kn W L (t + 2)) σ.2.1)) 3 σ.1.2.1 (nI (kv W L (t + 3)))) 4 σ.1.2.1 (nI (kv W L (t + 4)))) 5 σ.1.2.1 (nI (kv W L (t + 5))) 4 i ∧ _ = mU (mU (mU (mU σ.1.2.2.1 2 σ.1.2.1 (vWh (kn W L (t + 2)) σ.2.1)) 3 σ.1.2.1 (nI (kv W L (t + 3)))) 4 σ.1.2.1 (nI (kv W L (t + 4)))) 5 σ.1.2.1 (nI (kv W L (t + 5))) 5 i
        rw [show mU I7 o 13 (nI (σ.1.2.1 + 1)) (o + 5) = I7 (o + 5) from mU_f (by omega), show mU I7 o 13 (nI (σ.1.2.1 + 1)) (o + 6) = I7 (o + 6) from mU_f (by omega), show mU I7 o 13 (nI (σ.1.2.1 + 1)) (o + 7) = I7 (o + 7) from mU_f (by omega), show mU I7 o 13 (nI (σ.1.2.1 + 1)) (o + 8) = I7 (o + 8) from mU_f (by omega), e75, e76, e77, e78]
        by_cases e : i = σ.1.2.1
        · subst e
          refine ⟨?_, ?_, ?_, ?_⟩
          · rw [mU_s, mU_a (by decide), mU_a (by decide), mU_a (by decide), mU_s]
          · rw [mU_s, mU_a (by decide), mU_a (by decide), mU_s]
          · rw [mU_s, mU_a (by decide), mU_s]
          · rw [mU_s, mU_s]
        · obtain ⟨i1, i2, i3, i4⟩ := u6 i (by omega)
          refine ⟨?_, ?_, ?_, ?_⟩
          · rw [mU_k e, mU_a (by decide), mU_a (by decide), mU_a (by decide), mU_k e]; exact i1
          · rw [mU_k e, mU_a (by decide), mU_a (by decide), mU_k e, mU_a (by decide)]; exact i2
          · rw [mU_k e, mU_a (by decide), mU_k e, mU_a (by decide), mU_a (by decide)]; exact i3
          · rw [mU_k e, mU_k e, mU_a (by decide), mU_a (by decide), mU_a (by decide)]; exact i4
      · intro k hk
        exact mXw_keep (e8 _ (by omega) (by omega) (by omega) (by omega) (by omega) (by omega)) (e8 _ (by omega) (by omega) (by omega) (by omega) (by omega) (by omega)) (e8 _ (by omega) (by omega) (by omega) (by omega) (by omega) (by omega)) (u7 k hk)
      · obtain ⟨⟨m1, m2⟩, ⟨m3, m4⟩, m5, m6⟩ := hn
        have pl : (dsN (σ.2.1 ++ [(kn W L (t + 1), 10)])).length = σ.1.2.1 + 1 := by rw [s2, List.length_append, a2]; rfl
        refine ⟨⟨?_, ?_⟩, ⟨?_, ?_⟩, fun q y hq => ?_, fun q y hq => ?_⟩
        · rw [mU_k (by decide), eo]; show _ = nI (psN (σ.2.1 ++ [(kn W L (t + 1), 10)])).length; rw [s1]; exact m1
        · show (psN (σ.2.1 ++ [(kn W L (t + 1), 10)])).length ≤ 5; rw [s1]; exact m2
        · rw [mU_s]; show _ = nI (dsN (σ.2.1 ++ [(kn W L (t + 1), 10)])).length; rw [pl]
        · show (dsN (σ.2.1 ++ [(kn W L (t + 1), 10)])).length ≤ 6; rw [pl]; omega
        · change (psN (σ.2.1 ++ [(kn W L (t + 1), 10)]))[q]? = some y at hq
          rw [s1] at hq
          rw [mU_f (by omega)]; exact m5 q y hq
        · change (dsN (σ.2.1 ++ [(kn W L (t + 1), 10)]))[q]? = some y at hq
          rw [s2] at hq
          by_cases e : q = σ.1.2.1
          · subst e
            rw [List.getElem?_append_right (by omega), a2, Nat.sub_self] at hq
            cases hq
            exact mU_s _ _ _ _
          · have : q < σ.1.2.1 := by
              have := (List.getElem?_eq_some_iff.1 hq).1
              rw [List.length_append, a2, List.length_singleton] at this
              omega
            rw [List.getElem?_append_left (by omega)] at hq
            rw [mU_k e]; exact m6 q y hq
end GPE
