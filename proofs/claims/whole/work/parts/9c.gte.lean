/-! The glass reads what is told; a house is cleared; a text is read. -/
theorem mMk_ms : ∀ k, k < 4 → ∀ v, v < 9 → ((mMk k >>> (nI v &&& 31)) &&& 1 = 1 ↔ mMs k v = true) := by decide +kernel
theorem gk_far : ∀ k, k < 40 → ¬ (20 ≤ k ∧ k ≤ 27) → (nI (gk k)).toInt < 100 ∨ 107 < (nI (gk k)).toInt := by decide +kernel
def fYr (o : Nat) (I I' : Nat → Nat → Int32) : Prop := ∀ a, a ≠ 10 → a ≠ 11 → a ≠ 13 → a ≠ 15 → (a < o ∨ o + 21 ≤ a) → I' a = I a
def jYr (o : Nat) (J J' : Nat → Nat → Int64) : Prop := ∀ a, a ≠ 14 → a ≠ o + 1 → a ≠ o + 4 → J' a = J a
theorem fYg_r {o : Nat} {I I1 I2 : Nat → Nat → Int32} (h1 : fYr o I I1) (h2 : fYg o I1 I2) : fYr o I I2 := fun a x y z w v => by rw [h2 a x v, h1 a x y z w v]
theorem jYg_r {o : Nat} {J J1 J2 : Nat → Nat → Int64} (h1 : jYr o J J1) (h2 : jYg o J1 J2) : jYr o J J2 := fun a x y z => by rw [h2 a y z, h1 a x y z]
/-- what a text leaves in the glass -/
def gRt (xL rc rx o : Nat) (I : Nat → Nat → Int32) (J : Nat → Nat → Int64) (W : Nat → Int32) (L : Nat) (Q : Option Value → mHp → Prop) : (Nat × Nat) ⊕ mHs → Prop
  | .inl f => ∀ I' J', fYr o I I' → jYr o J J' → xMk I' o → f.1 ≠ 0 → f.1 < 6 → I' 10 4 = nI (tp W L f.2) → Q (some (.int (nI f.1))) (mHh xL I' J' (mRf rc rx o))
  | .inr η => ∀ I' J', fYr o I I' → jYr o J J' → xMk I' o → mXh I' o η → Q (some (.int 0)) (mHh xL I' J' (mRf rc rx o))
section GTE
variable {d : Nat} {xL : Nat} {I : Nat → Nat → Int32} {J : Nat → Nat → Int64} {rc rx o : Nat} {Q : Option Value → mHp → Prop} {L : Nat} {W : Nat → Int32} {t : Nat} {σ : pSg}
theorem gLaT (ho : mHo o) (h : gYs I J W L o t σ) {k l : Nat} (hk : k < 4) (el : l = o + 9 + 3 * k) (k22 : kk W L t = 22 + k) (hP : gYt xL rc rx o I J W L Q (bd (pLaw W L t) fun r => .inr (r.1, uLaw k σ r))) : lPost xL rc rx o l 0 (mMs k) I J W L Q (pLaw W L t) := by
  obtain ⟨hx, hh, hn, hm⟩ := h
  have hg : gRD I J W L t 0 0 := hx.1
  have hw : gYw I W L σ.2.2 := hx.2
  have ho' : 15 < o ∧ o < 42 := by rcases ho with rfl | rfl <;> decide
  have hmk : ∀ I', fRd l I I' → xMk I' o := by
    intro I' fr j hj
    by_cases e : j = k
    · subst e; rw [← el, fr.2.2 2 (by decide), el]; exact hm j hj
    · rw [fr.1 _ (by omega) (by omega) (by omega) (by omega)]; exact hm j hj
  cases e : pLaw W L t with
  | inl f =>
    rw [e] at hP
    intro I' fr gf
    obtain ⟨⟨t', g⟩, f0, -⟩ := gf
    exact hP I' J (fun a h1 h2 => fr.1 a h1 (by omega) (by omega) (by omega)) (fun _ _ _ => rfl) ⟨⟨t', g, f0⟩, hmk I' fr⟩
  | inr r =>
    rw [e] at hP
    obtain ⟨a1, a2, a3, a4, a5⟩ := pLaw_ok (mMs k) hg.2.1 (by omega) e
    intro I' fr g hs _ hxa
    obtain ⟨-, u1, u2, u3, u4, u5, u6, u7⟩ := hh
    have e6 : ∀ a, a ≠ 10 → a < o + 9 → I' a = I a := fun a h1 h2 => fr.1 a h1 (by omega) (by omega) (by omega)
    have eo := e6 o (by omega) (by omega)
    have b0 := a5 0
    have b1 := a2.1
    refine hP I' J (fun a h1 h2 => fr.1 a h1 (by omega) (by omega) (by omega)) (fun _ _ _ => rfl) ⟨⟨g, ?_⟩, ⟨ho, ?_, ?_, ?_, ?_, ?_, ?_, ?_⟩, gNm_k hn eo (fun _ _ => rfl) (fun _ _ => rfl), hmk I' fr⟩
    · show gYw I' W L σ.2.2
      rw [gYw, fr.2.1 5 (by decide) (by decide) (by decide), fr.2.1 6 (by decide) (by decide) (by decide)]; exact hw
    · rw [eo]; exact u1
    · rw [eo]; exact u2
    · rw [eo]; exact u3
    · rw [eo]; exact u4
    · intro q hq
      rw [e6 _ (by omega) (by omega), e6 _ (by omega) (by omega)]; exact u5 q hq
    · intro i hi
      rw [e6 _ (by omega) (by omega), e6 _ (by omega) (by omega), e6 _ (by omega) (by omega), e6 _ (by omega) (by omega)]; exact u6 i hi
    · intro j hj
      show mXw I' (o + 9 + 3 * j) (mMs j) (hW (σ.1.1, σ.1.2.1, σ.1.2.2.1, σ.1.2.2.2.1, σ.1.2.2.2.2.1, fun j => if j = k then some r.2 else hL σ.1 j) j).1 (hW (σ.1.1, σ.1.2.1, σ.1.2.2.1, σ.1.2.2.2.1, σ.1.2.2.2.2.1, fun j => if j = k then some r.2 else hL σ.1 j) j).2
      rw [hW_u]
      by_cases ej : j = k
      · subst ej
        rw [if_pos rfl, ← el]
        refine ⟨a4, by omega, ?_, hxa⟩
        rw [hs, Nat.zero_add]
      · rw [if_neg ej]
        exact mXw_keep (fr.1 _ (by omega) (by omega) (by omega) (by omega)) (fr.1 _ (by omega) (by omega) (by omega) (by omega)) (fr.1 _ (by omega) (by omega) (by omega) (by omega)) (u7 j hj)
theorem c40 (ho : mHo o) (h : gYs I J W L o t σ) (ok : σOk t σ) (hP : gYt xL rc rx o I J W L Q (sTell W L t σ)) : WP (d + 25) 40 0 [.ref 10] [] (mHh xL I J (mRf rc rx o)) Q := by
  have hg : gRD I J W L t 0 0 := h.1.1
  have ho' : 15 < o ∧ o < 42 := by rcases ho with rfl | rfl <;> decide
  have hkl := tKd_lt W L (tp W L t)
  change kk W L t < 40 at hkl
  rw [sTell] at hP
  simp only [w40_0, w40_1, c39 hg, ↓reduceIte, Option.toList_some, Option.toList_none, List.cons_append, List.nil_append, Int32.reduceAdd, Int32.reduceLT, Int32.reduceLE, Int32.reduceToNatClampNeg]
  have vd : ∀ (Q' : Option Value → mHp → Prop), gYt xL rc rx o I J W L Q (sTell W L t σ) → True := fun _ _ => trivial
  by_cases k20 : kk W L t = 20
  · rw [if_pos k20] at hP
    rw [k20, show nI (gk 20) = 100 by decide]
    simp only [w40_4_100, w40_52, w40_53]
    refine c41 (d := d + 20) ho h ok ?_
    cases e : sPer W L t σ with
    | inl f => rw [e] at hP; intro I' J' a b c; simp only [↓reduceIte, Option.toList_some, Option.toList_none, List.cons_append, List.nil_append, Int32.reduceAdd, Int32.reduceLT, Int32.reduceLE, Int32.reduceToNatClampNeg, w40_56, w40_184]; exact hP I' J' a b c
    | inr p => rw [e] at hP; intro I' J' a b c; simp only [↓reduceIte, Option.toList_some, Option.toList_none, List.cons_append, List.nil_append, Int32.reduceAdd, Int32.reduceLT, Int32.reduceLE, Int32.reduceToNatClampNeg, w40_56, w40_184]; exact hP I' J' a b c
  · rw [if_neg k20] at hP
    by_cases k21 : kk W L t = 21
    · rw [if_pos k21] at hP
      rw [k21, show nI (gk 21) = 101 by decide]
      simp only [w40_4_101, w40_59, w40_60]
      refine c49 (d := d + 20) ho h ok ?_
      cases e : sDoi W L t σ with
      | inl f => rw [e] at hP; intro I' J' a b c; simp only [↓reduceIte, Option.toList_some, Option.toList_none, List.cons_append, List.nil_append, Int32.reduceAdd, Int32.reduceLT, Int32.reduceLE, Int32.reduceToNatClampNeg, w40_63, w40_184]; exact hP I' J' a b c
      | inr p => rw [e] at hP; intro I' J' a b c; simp only [↓reduceIte, Option.toList_some, Option.toList_none, List.cons_append, List.nil_append, Int32.reduceAdd, Int32.reduceLT, Int32.reduceLE, Int32.reduceToNatClampNeg, w40_63, w40_184]; exact hP I' J' a b c
    · rw [if_neg k21] at hP
      by_cases k22 : 22 ≤ kk W L t ∧ kk W L t ≤ 25
      · rw [if_pos k22] at hP
        have hla := mHo_la ho
        have go : ∀ k l, k < 4 → l = o + 9 + 3 * k → kk W L t = 22 + k → mLa l → WP (d + 24) 51 0 [.ref 10, .ref l, mDum, mDum] [] (mHh xL I J (mRf rc rx o)) Q := by
          intro k l hk el ek hl
          rw [ek, show 22 + k - 22 = k by omega] at hP
          exact c51 (d := d) hl (mMk_ms k hk) hg (by rw [el]; exact h.2.2.2 k hk) (by omega) (gLaT ho h hk el ek hP)
        have hk4 : kk W L t = 22 ∨ kk W L t = 23 ∨ kk W L t = 24 ∨ kk W L t = 25 := by omega
        have gQ : ∀ pc, (∀ I' J', WP (d + 25) 40 pc [.ref 10] [] (mHh xL I' J' (mRf rc rx o)) Q = Q none (mHh xL I' J' (mRf rc rx o))) → ∀ k l, k < 4 → l = o + 9 + 3 * k → kk W L t = 22 + k → mLa l → WP (d + 24) 51 0 [.ref 10, .ref l, mDum, mDum] [] (mHh xL I J (mRf rc rx o)) (fun v h9 => WP (d + 25) 40 pc [.ref 10] (v.toList ++ []) h9 Q) := by
          intro pc hpc k l hk el ek hl
          rw [ek, show 22 + k - 22 = k by omega] at hP
          refine c51 (d := d) hl (mMk_ms k hk) hg (by rw [el]; exact h.2.2.2 k hk) (by omega) (gLaT ho h hk el ek ?_)
          cases e : pLaw W L t with
          | inl f => rw [e] at hP; intro I' J' a b c; rw [show ((none : Option Value).toList ++ [] : List Value) = [] from rfl, hpc]; exact hP I' J' a b c
          | inr p => rw [e] at hP; intro I' J' a b c; rw [show ((none : Option Value).toList ++ [] : List Value) = [] from rfl, hpc]; exact hP I' J' a b c
        rcases hk4 with e | e | e | e
        · rw [e, show nI (gk 22) = 102 by decide]
          simp only [w40_4_102, w40_66, w40_67, w40_68, w40_71 (ha := ho), w40_74]
          exact gQ 77 (fun I' J' => by simp only [w40_77, w40_184]) 0 (o + 9) (by decide) rfl e hla.1
        · rw [e, show nI (gk 23) = 103 by decide]
          simp only [w40_4_103, w40_80, w40_81, w40_82, w40_85 (ha := ho), w40_88]
          exact gQ 91 (fun I' J' => by simp only [w40_91, w40_184]) 1 (o + 12) (by decide) (by omega) e hla.2.1
        · rw [e, show nI (gk 24) = 104 by decide]
          simp only [w40_4_104, w40_94, w40_95, w40_96, w40_99 (ha := ho), w40_102]
          exact gQ 105 (fun I' J' => by simp only [w40_105, w40_184]) 2 (o + 15) (by decide) (by omega) e hla.2.2.1
        · rw [e, show nI (gk 25) = 105 by decide]
          simp only [w40_4_105, w40_108, w40_109, w40_110, w40_113 (ha := ho), w40_116]
          exact gQ 119 (fun I' J' => by simp only [w40_119, w40_184]) 3 (o + 18) (by decide) (by omega) e hla.2.2.2
      · rw [if_neg k22] at hP
        obtain ⟨hx, hh, hn, hm⟩ := h
        have hh0 := hh
        obtain ⟨-, u1, u2, u3, u4, u5, u6, u7⟩ := hh0
        have fin : ∀ (I3 : Nat → Nat → Int32) (f : Nat) (y : Int32), (f = 14 ∨ f = 15) → (∀ a, a ≠ 10 → I3 a = mU I o f y a) → fYg o I I3 ∧ xMk I3 o ∧ gNm I3 J o σ.2.1 ∧ mXh I3 o (σ.1.1, σ.1.2.1, σ.1.2.2.1, (if f = 14 then y else σ.1.2.2.2.1), (if f = 15 then y else σ.1.2.2.2.2.1), σ.1.2.2.2.2.2) := by
          intro I3 f y hf e3
          have e4 : ∀ a, a ≠ 10 → a ≠ o → I3 a = I a := fun a h1 h2 => by rw [e3 a h1, mU_f h2]
          have eo := e3 o (by omega)
          refine ⟨fun a h1 h2 => e4 a h1 (by omega), xMk_k hm (fun k hk => e4 _ (by omega) (by omega)), ?_, ho, ?_, ?_, ?_, ?_, ?_, ?_, ?_⟩
          · obtain ⟨m1, m2, m3, m4⟩ := hn
            exact ⟨by rw [eo, mU_k (by omega)]; exact m1, by rw [eo, mU_k (by omega)]; exact m2, m3, m4⟩
          · rw [eo, mU_k (by omega)]; exact u1
          · rw [eo, mU_k (by omega)]; exact u2
          · rw [eo]
            show mU I o f y o 14 = if f = 14 then y else σ.1.2.2.2.1
            by_cases c : f = 14
            · subst c; rw [mU_s, if_pos rfl]
            · rw [mU_k (by omega), if_neg c]; exact u3
          · rw [eo]
            show mU I o f y o 15 = if f = 15 then y else σ.1.2.2.2.2.1
            by_cases c : f = 15
            · subst c; rw [mU_s, if_pos rfl]
            · rw [mU_k (by omega), if_neg c]; exact u4
          · rw [e4 _ (by omega) (by omega), e4 _ (by omega) (by omega)]; exact u5
          · rw [e4 _ (by omega) (by omega), e4 _ (by omega) (by omega), e4 _ (by omega) (by omega), e4 _ (by omega) (by omega)]; exact u6
          · intro k hk
            exact mXw_keep (e4 _ (by omega) (by omega)) (e4 _ (by omega) (by omega)) (e4 _ (by omega) (by omega)) (u7 k hk)
        by_cases k26 : kk W L t = 26
        · rw [if_pos k26] at hP
          rw [k26, show nI (gk 26) = 106 by decide]
          simp only [w40_4_106, w40_122, w40_123, w40_125]
          refine c44x (d := d + 22) (y := 106) hx (κ := 26) (by decide) (by decide) (by decide) (fun I1 f1 g1 => ?_)
          simp only [↓reduceIte, Option.toList_some, Option.toList_none, List.cons_append, List.nil_append, Int32.reduceAdd, Int32.reduceLT, Int32.reduceLE, Int32.reduceToNatClampNeg, w40_128, w40_129, w40_132, w40_133, w40_135]
          refine c48 (d := d + 21) (y := 100) g1 (m := 100) (by decide) rfl (fun I2 y f2 g2 v2 => ?_)
          simp only [↓reduceIte, Option.toList_some, Option.toList_none, List.cons_append, List.nil_append, Int32.reduceAdd, Int32.reduceLT, Int32.reduceLE, Int32.reduceToNatClampNeg, w40_138 (ha := ho), w40_141, w40_142, w40_144]
          refine c44x (d := d + 22) (y := 59) (gY_k g2 (mU_f (by omega)) (mU_f (by omega)) (mU_f (by omega)) (mU_f (by omega)) rfl) (κ := 4) (by decide) (by decide) (by decide) (fun I3 f3 g3 => ?_)
          simp only [↓reduceIte, Option.toList_some, Option.toList_none, List.cons_append, List.nil_append, Int32.reduceAdd, Int32.reduceLT, Int32.reduceLE, Int32.reduceToNatClampNeg, w40_147, w40_184]
          obtain ⟨r1, r2, r3, r4⟩ := fin I3 14 y (Or.inl rfl) (fun a h1 => by
            rw [f3 a h1]
            by_cases c : a = o
            · subst c; funext j
              by_cases c2 : j = 14
              · subst c2; rw [mU_s, mU_s]
              · rw [mU_k c2, mU_k c2, f2 _ h1, f1 _ h1]
            · rw [mU_f c, mU_f c, f2 _ h1, f1 _ h1])
          have g4 : gY I3 J W L (rInt W L 26 100 t σ) := g3
          cases eR : rInt W L 26 100 t σ with
          | inl f => rw [eR] at hP g4; exact hP I3 J r1 (fun _ _ _ => rfl) ⟨g4, r2⟩
          | inr p =>
            rw [eR] at hP g4
            obtain ⟨q3, e3, -, a3, -, -⟩ := sSt_r (by decide) (fun q e => (sSt_r (by decide) (fun q e => (sSt_r (by decide) (kLv_0 hg.2.1) e).elim fun _ a => a.2.2.2.1) e).elim fun _ a => a.2.2.2.1) eR
            obtain ⟨q2, e2, -, a2, -, -⟩ := sSt_r (by decide) (fun q e => (sSt_r (by decide) (kLv_0 hg.2.1) e).elim fun _ a => a.2.2.2.1) e3
            obtain ⟨q1, e1, -, a1, -, -⟩ := sSt_r (by decide) (kLv_0 hg.2.1) e2
            cases e1
            have x1 := v2 q2 q3 e2 e3
            rw [show q2.1 = t + 1 from a1] at x1
            subst x1
            exact hP I3 J r1 (fun _ _ _ => rfl) ⟨g4, r4, r3, r2⟩
        · rw [if_neg k26] at hP
          by_cases k27 : kk W L t = 27
          · rw [if_pos k27] at hP
            rw [k27, show nI (gk 27) = 107 by decide]
            simp only [w40_4_107, w40_150, w40_151, w40_153]
            refine c44x (d := d + 22) (y := 107) hx (κ := 27) (by decide) (by decide) (by decide) (fun I1 f1 g1 => ?_)
            simp only [↓reduceIte, Option.toList_some, Option.toList_none, List.cons_append, List.nil_append, Int32.reduceAdd, Int32.reduceLT, Int32.reduceLE, Int32.reduceToNatClampNeg, w40_156, w40_157, w40_160, w40_161, w40_164]
            refine c48 (d := d + 21) (y := 9999) g1 (m := 9999) (by decide) rfl (fun I2 y f2 g2 v2 => ?_)
            simp only [↓reduceIte, Option.toList_some, Option.toList_none, List.cons_append, List.nil_append, Int32.reduceAdd, Int32.reduceLT, Int32.reduceLE, Int32.reduceToNatClampNeg, w40_167 (ha := ho), w40_170, w40_171, w40_173]
            refine c44x (d := d + 22) (y := 59) (gY_k g2 (mU_f (by omega)) (mU_f (by omega)) (mU_f (by omega)) (mU_f (by omega)) rfl) (κ := 4) (by decide) (by decide) (by decide) (fun I3 f3 g3 => ?_)
            simp only [↓reduceIte, Option.toList_some, Option.toList_none, List.cons_append, List.nil_append, Int32.reduceAdd, Int32.reduceLT, Int32.reduceLE, Int32.reduceToNatClampNeg, w40_176, w40_184]
            obtain ⟨r1, r2, r3, r4⟩ := fin I3 15 y (Or.inr rfl) (fun a h1 => by
              rw [f3 a h1]
              by_cases c : a = o
              · subst c; funext j
                by_cases c2 : j = 15
                · subst c2; rw [mU_s, mU_s]
                · rw [mU_k c2, mU_k c2, f2 _ h1, f1 _ h1]
              · rw [mU_f c, mU_f c, f2 _ h1, f1 _ h1])
            have g4 : gY I3 J W L (rInt W L 27 9999 t σ) := g3
            cases eR : rInt W L 27 9999 t σ with
            | inl f => rw [eR] at hP g4; exact hP I3 J r1 (fun _ _ _ => rfl) ⟨g4, r2⟩
            | inr p =>
              rw [eR] at hP g4
              obtain ⟨q3, e3, -, a3, -, -⟩ := sSt_r (by decide) (fun q e => (sSt_r (by decide) (fun q e => (sSt_r (by decide) (kLv_0 hg.2.1) e).elim fun _ a => a.2.2.2.1) e).elim fun _ a => a.2.2.2.1) eR
              obtain ⟨q2, e2, -, a2, -, -⟩ := sSt_r (by decide) (fun q e => (sSt_r (by decide) (kLv_0 hg.2.1) e).elim fun _ a => a.2.2.2.1) e3
              obtain ⟨q1, e1, -, a1, -, -⟩ := sSt_r (by decide) (kLv_0 hg.2.1) e2
              cases e1
              have x1 := v2 q2 q3 e2 e3
              rw [show q2.1 = t + 1 from a1] at x1
              subst x1
              exact hP I3 J r1 (fun _ _ _ => rfl) ⟨g4, r4, r3, r2⟩
          · rw [if_neg k27] at hP
            have g1 := gRD_fl hg (g := 1) (by decide) (by decide)
            rw [if_pos rfl, if_pos rfl] at g1
            have ff := fR1_fl I (nI 1) (nI (tp W L t))
            have e2 : nI 1 = 1 := rfl
            rw [e2] at g1 ff
            simp only [w40_4_o (hx := gk_far _ hkl (by omega)), w40_179, w40_180, w40_181, c42 (d := d + 23) hg, ↓reduceIte, Option.toList_some, Option.toList_none, List.cons_append, List.nil_append, Int32.reduceAdd, Int32.reduceLT, Int32.reduceLE, Int32.reduceToNatClampNeg, w40_184]
            exact hP _ J (fun a h1 _ => ff.1 a h1) (fun _ _ _ => rfl) ⟨⟨t, g1, (by decide : (1 : Nat) ≠ 0)⟩, xMk_k hm (fun k hk => ff.1 _ (by omega))⟩
end GTE
