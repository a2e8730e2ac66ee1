/-! Pairs, as the glass goes through them. -/
theorem pLp_le (g : Nat → pBt → pBt) (hg : ∀ o B, (g o B).1 ≤ B.1) : ∀ k o B, (pLp g k o B).1 ≤ B.1 := by
  intro k
  induction k with
  | zero => intro o B; exact Nat.le_refl _
  | succ k ih => intro o B; rw [pLp]; exact Nat.le_trans (ih _ _) (hg o B)
theorem pRun_le {ρ : mRo5} {n : Nat} : ∀ f p al much T B, (pRun ρ n f p al much T B).1 ≤ B.1 := by
  intro f
  induction f with
  | zero =>
    intro p al much T B
    rw [pRun]
    split
    · rename_i h; exact Nat.le_of_lt h
    · exact Nat.le_refl _
  | succ f ih =>
    intro p al much T B
    have hg : ∀ o B, ((fun (o : Nat) (B : pBt) => if T o = -1 then pRun ρ n f (p + 1) al (much + pO ρ p o) (wU (wU T p (nI o)) o (nI p)) B else B) o B).1 ≤ B.1 := by
      intro o B
      show (if T o = -1 then pRun ρ n f (p + 1) al (much + pO ρ p o) (wU (wU T p (nI o)) o (nI p)) B else B).1 ≤ B.1
      split
      · exact ih _ _ _ _ _
      · exact Nat.le_refl _
    rw [pRun]
    split
    · exact ih _ _ _ _ _
    · split
      · exact Nat.le_trans (ih _ _ _ _ _) (pLp_le _ hg _ _ _)
      · exact pLp_le _ hg _ _ _
theorem f_abs : ∀ a, a < 21 → ∀ b, b < 21 → (if 0 ≤ nI a - nI b then nI a - nI b else 0 - (nI a - nI b)) = nI (if a < b then b - a else a - b) := by decide +kernel
def pSs (I : Nat → Nat → Int32) (n : Nat) (T : Nat → Int32) (B : pBt) : Prop := I 160 2 = nI n ∧ I 160 3 = nI B.1 ∧ (∀ q, q < 5 → I 161 q = T q) ∧ ∀ q, q < 5 → I 162 q = B.2 q
def fP (I I' : Nat → Nat → Int32) : Prop := ∀ a, a ≠ 160 → a ≠ 161 → a ≠ 162 → I' a = I a
theorem fP_t {I I1 I2 : Nat → Nat → Int32} (h1 : fP I I1) (h2 : fP I1 I2) : fP I I2 := fun a x y z => by rw [h2 a x y z, h1 a x y z]
section PAC
variable {xL : Nat} {J : Nat → Nat → Int64} {rc rx rr : Nat} {η : mHs} {ρ : mRo5}
theorem c36 {I : Nat → Nat → Int32} {n : Nat} {T : Nat → Int32} {B : pBt} (h : pSs I n T B) (hB : B.1 ≤ 101) {much : Nat} (hm : much ≤ 1000) {d : Nat} {Q : Option Value → mHp → Prop} (hQ : ∀ I', fP I I' → pSs I' n T (if much < B.1 then (much, T) else B) → Q none (mHh xL I' J (mRf rc rx rr))) : WP d 36 0 [.ref 160, .int (nI much), mDum] [] (mHh xL I J (mRf rc rx rr)) Q := by
  obtain ⟨h1, h2, h3, h4⟩ := h
  simp only [w36_0, w36_1, w36_2, h2, w36_5]
  by_cases hc : much < B.1
  · have g1 : ¬ nI B.1 ≤ nI much := nI_ge hc (by omega)
    rw [if_pos hc] at hQ
    simp only [g1, ↓reduceIte, w36_8, w36_9, w36_10, w36_13, w36_14]
    have key : ∀ k, k ≤ 5 → ∀ I' : Nat → Nat → Int32, (∀ a, a ≠ 162 → I' a = mU I 160 3 (nI much) a) → (∀ j, j < k → I' 162 j = T j) → WP d 36 15 [.ref 160, .int (nI much), .int (nI k)] [] (mHh xL I' J (mRf rc rx rr)) Q := by
      refine iter_dn ?_ ?_
      · intro k hk ih I' f t
        have g2 : ¬ 5 ≤ nI k := by rw [ni_le 5 (by decide) (by omega)]; omega
        have a1 : mIn (nI k) 5 = true := mIn_nI (by omega) (by omega)
        have a2 : (nI k).toNatClampNeg = k := nI_clamp (by omega)
        have e1 : I' 161 k = T k := by rw [f 161 (by decide), mU_f (by decide)]; exact h3 k hk
        rw [w36_15]
        simp only [w36_16, w36_17, g2, ↓reduceIte, w36_20, w36_21, w36_24, w36_25, w36_26, w36_29, w36_30, a1, a2, e1, w36_31, w36_32, w36_35, nI_1]
        refine ih _ (fun a p => by rw [mU_f p, f a p]) ?_
        intro j hj
        by_cases e : j = k
        · subst e; exact mU_s _ _ _ _
        · rw [mU_k e]; exact t j (by omega)
      · intro I' f t
        have g2 : 5 ≤ nI 5 := by decide
        rw [w36_15]
        simp only [w36_16, w36_17, g2, ↓reduceIte, w36_38]
        refine hQ I' (fun a x y z => by rw [f a z, mU_f x]) ⟨?_, ?_, ?_, t⟩
        · rw [f 160 (by decide), mU_k (by decide)]; exact h1
        · rw [f 160 (by decide), mU_s]
        · intro q hq; rw [f 161 (by decide), mU_f (by decide)]; exact h3 q hq
    exact key 0 (by omega) _ (fun _ _ => rfl) (fun j hj => absurd hj (by omega))
  · have g1 : nI B.1 ≤ nI much := nI_le (by omega) (by omega)
    rw [if_neg hc] at hQ
    simp only [g1, ↓reduceIte, w36_38]
    exact hQ I (fun _ _ _ _ => rfl) ⟨h1, h2, h3, h4⟩
theorem c35 (hρ : ∀ p, p < 5 → pX ρ p ≤ 20 ∧ ρ p = nI (pX ρ p)) {n : Nat} (hn : n ≤ 5) : ∀ f p, p + f = n → ∀ (d al much : Nat) (T : Nat → Int32) (B : pBt) (I : Nat → Nat → Int32) (Q : Option Value → mHp → Prop), pSs I n T B → mRw I 163 = ρ → B.1 ≤ 101 → much ≤ 20 * p → al ≤ 1 →
    (∀ I', fP I I' → pSs I' n T (pRun ρ n f p al much T B) → Q none (mHh xL I' J (mRf rc rx rr))) → WP (d + f + 1) 35 0 [.ref 160, .ref 163, .int (nI p), .int (nI al), .int (nI much), mDum] [] (mHh xL I J (mRf rc rx rr)) Q := by
  intro f
  induction f with
  | zero =>
    intro p hp d al much T B I Q h hr hB hm hal hQ
    have g1 : nI n ≤ nI p := nI_le (by omega) (by omega)
    simp only [w35_0, w35_1, w35_2, h.1, w35_5, g1, ↓reduceIte, w35_13, w35_14, w35_16]
    refine c36 h hB (show much ≤ 1000 by omega) ?_
    intro I' f1 h1
    simp only [↓reduceIte, Option.toList_some, Option.toList_none, List.cons_append, List.nil_append, Int32.reduceAdd, Int32.reduceLT, Int32.reduceLE, Int32.reduceToNatClampNeg, w35_19]
    exact hQ I' f1 h1
  | succ f ih =>
    intro p hp d al much T B I Q h hr hB hm hal hQ
    have g1 : ¬ nI n ≤ nI p := nI_ge (by omega) (by omega)
    have g2 : nI p < 5 := (in_lt 5 (by decide) (by omega)).2 (by omega)
    have a1 : mIn (nI p) 5 = true := mIn_nI (by omega) (by omega)
    have a2 : (nI p).toNatClampNeg = p := nI_clamp (by omega)
    have eT : I 161 p = T p := h.2.2.1 p (by omega)
    rw [pRun] at hQ
    rw [show d + (f + 1) + 1 = (d + f + 1) + 1 by omega, w35_0]
    simp only [w35_1, w35_2, h.1, w35_5, g1, ↓reduceIte, w35_8, w35_9, w35_10, g2, w35_20, w35_21, w35_24, w35_25, a1, a2, eT, w35_26, w35_27]
    by_cases hTp : T p = -1
    · rw [if_neg (fun z => z hTp)] at hQ
      simp only [hTp, ↓reduceIte, w35_42, w35_43, w35_44, w35_45, nI_1]
      obtain ⟨-, -, k3, k4, -⟩ := st_k s163
      have L : ∀ k o, o + k = n → p < o → ∀ (B : pBt) (I1 : Nat → Nat → Int32), fP I I1 → pSs I1 n T B → B.1 ≤ 101 →
          (∀ I2 v5, fP I I2 → pSs I2 n T (pLp (fun o B => if T o = -1 then pRun ρ n f (p + 1) al (much + pO ρ p o) (wU (wU T p (nI o)) o (nI p)) B else B) k o B) → (pLp (fun o B => if T o = -1 then pRun ρ n f (p + 1) al (much + pO ρ p o) (wU (wU T p (nI o)) o (nI p)) B else B) k o B).1 ≤ 101 → WP (d + f + 1 + 1) 35 133 [.ref 160, .ref 163, .int (nI p), .int (nI al), .int (nI much), v5] [] (mHh xL I2 J (mRf rc rx rr)) Q) →
          WP (d + f + 1 + 1) 35 47 [.ref 160, .ref 163, .int (nI p), .int (nI al), .int (nI much), .int (nI o)] [] (mHh xL I1 J (mRf rc rx rr)) Q := by
        intro k
        induction k with
        | zero =>
          intro o ho hpo B I1 f1 h1 hB1 fin
          have g1 : nI n ≤ nI o := nI_le (by omega) (by omega)
          rw [w35_47]
          simp only [w35_49, w35_50, h1.1, w35_53, g1, ↓reduceIte]
          exact fin I1 _ f1 h1 hB1
        | succ k ihk =>
          intro o ho hpo B I1 f1 h1 hB1 fin
          have g1 : ¬ nI n ≤ nI o := nI_ge (by omega) (by omega)
          have b1 : mIn (nI o) 5 = true := mIn_nI (by omega) (by omega)
          have b2 : (nI o).toNatClampNeg = o := nI_clamp (by omega)
          have eo : I1 161 o = T o := h1.2.2.1 o (by omega)
          rw [pLp] at fin
          rw [w35_47]
          simp only [w35_49, w35_50, h1.1, w35_53, g1, ↓reduceIte, w35_56, w35_57, w35_60, w35_62, b1, b2, eo, w35_63, w35_64]
          by_cases hTo : T o = -1
          · rw [if_pos hTo] at fin
            have r1 : mRw (mU (mU I1 161 p (nI o)) 161 o (nI p)) 163 = ρ := mRw_keep (I := I) (by rw [mU_f (by decide), mU_f (by decide), f1 163 (by decide) (by decide) (by decide)]) (by rw [mU_f (by decide), mU_f (by decide), f1 164 (by decide) (by decide) (by decide)]) hr
            have e1 : mU (mU I1 161 p (nI o)) 161 o (nI p) (163 + 1) p = nI (pX ρ p) := by rw [mRw_p r1 (by omega)]; exact (hρ p (by omega)).2
            have e2 : mU (mU I1 161 p (nI o)) 161 o (nI p) (163 + 1) o = nI (pX ρ o) := by rw [mRw_p r1 (by omega)]; exact (hρ o (by omega)).2
            have eab := f_abs (pX ρ p) (by have := (hρ p (by omega)).1; omega) (pX ρ o) (by have := (hρ o (by omega)).1; omega)
            have ol := pO_le (ρ := ρ) (fun p hp => (hρ p hp).1) (show p < 5 by omega) (show o < 5 by omega)
            have epo : (if pX ρ p < pX ρ o then pX ρ o - pX ρ p else pX ρ p - pX ρ o) = pO ρ p o := rfl
            rw [epo] at eab
            simp only [hTo, ↓reduceIte, w35_67, w35_68, w35_71, w35_72, w35_74, a1, a2, w35_75, w35_76, w35_79, w35_81, w35_82, b1, b2, w35_83, w35_84, w35_85, w35_86, w35_87, nI_1, w35_88, w35_89, w35_91, s163, w35_92, w35_95, k3, k4, w35_96, e1, w35_97, w35_98, w35_101, w35_103, e2, w35_104, w35_105, eab, w35_108, nI_add, w35_109]
            refine ih (p + 1) (by omega) d al (much + pO ρ p o) (wU (wU T p (nI o)) o (nI p)) B _ _ ?_ r1 hB1 (by omega) hal ?_
            · refine ⟨by rw [mU_f (by decide), mU_f (by decide)]; exact h1.1, by rw [mU_f (by decide), mU_f (by decide)]; exact h1.2.1, ?_, fun q hq => by rw [mU_f (by decide), mU_f (by decide)]; exact h1.2.2.2 q hq⟩
              intro q hq
              by_cases e : q = o
              · subst e; rw [mU_s, wU, if_pos rfl]
              · rw [mU_k e, wU, if_neg e]
                by_cases e' : q = p
                · subst e'; rw [mU_s, wU, if_pos rfl]
                · rw [mU_k e', wU, if_neg e']; exact h1.2.2.1 q hq
            · intro I2 f2 h2
              simp only [↓reduceIte, Option.toList_some, Option.toList_none, List.cons_append, List.nil_append, Int32.reduceAdd, Int32.reduceLT, Int32.reduceLE, Int32.reduceToNatClampNeg, w35_112, w35_113, w35_116, w35_118, w35_119, b1, b2, w35_120, w35_121, w35_124, w35_125, w35_126, a1, a2, w35_127, w35_130, nI_1]
              refine ihk (o + 1) (by omega) (by omega) _ _ ?_ ?_ ?_ fin
              · intro a x y z
                rw [mU_f y, mU_f y, f2 a x y z, mU_f y, mU_f y, f1 a x y z]
              · refine ⟨by rw [mU_f (by decide), mU_f (by decide)]; exact h2.1, by rw [mU_f (by decide), mU_f (by decide)]; exact h2.2.1, ?_, fun q hq => by rw [mU_f (by decide), mU_f (by decide)]; exact h2.2.2.2 q hq⟩
                intro q hq
                by_cases e : q = p
                · subst e; rw [mU_s, hTp]
                · rw [mU_k e]
                  by_cases e' : q = o
                  · subst e'; rw [mU_s, hTo]
                  · rw [mU_k e', h2.2.2.1 q hq, wU, if_neg e', wU, if_neg e]
              · exact Nat.le_trans (pRun_le _ _ _ _ _ _) hB1
          · rw [if_neg hTo] at fin
            simp only [hTo, ↓reduceIte, w35_127, w35_130, nI_1]
            exact ihk (o + 1) (by omega) (by omega) B I1 f1 h1 hB1 fin
      refine L (n - (p + 1)) (p + 1) (by omega) (by omega) B I (fun _ _ _ _ => rfl) h hB ?_
      intro I2 v5 f2 h2 hB2
      simp only [w35_133, w35_134]
      by_cases ha : 0 < al
      · have g3 : ¬ nI al ≤ 0 := nI_nle ha (by omega)
        have em : ((-2 : Int32) = -2) = True := by simp
        rw [if_pos ha] at hQ
        have r2 : mRw (mU I2 161 p (-2)) 163 = ρ := mRw_keep (I := I) (by rw [mU_f (by decide), f2 163 (by decide) (by decide) (by decide)]) (by rw [mU_f (by decide), f2 164 (by decide) (by decide) (by decide)]) hr
        have ea : nI al - 1 = nI (al - 1) := pk_sub (b := 1) ha
        simp only [g3, ↓reduceIte, w35_137, w35_138, w35_141, w35_142, w35_144, a1, a2, w35_145, w35_146, w35_147, w35_148, w35_149, nI_1, w35_150, w35_151, w35_152, ea, w35_153, w35_155]
        refine ih (p + 1) (by omega) d (al - 1) much (wU T p (-2)) _ _ _ ?_ r2 hB2 (by omega) (by omega) ?_
        · refine ⟨by rw [mU_f (by decide)]; exact h2.1, by rw [mU_f (by decide)]; exact h2.2.1, ?_, fun q hq => by rw [mU_f (by decide)]; exact h2.2.2.2 q hq⟩
          intro q hq
          by_cases e : q = p
          · subst e; rw [mU_s, wU, if_pos rfl]
          · rw [mU_k e, wU, if_neg e]; exact h2.2.2.1 q hq
        · intro I3 f3 h3
          simp only [↓reduceIte, Option.toList_some, Option.toList_none, List.cons_append, List.nil_append, Int32.reduceAdd, Int32.reduceLT, Int32.reduceLE, Int32.reduceToNatClampNeg, w35_158, w35_159, w35_162, w35_163, w35_164, a1, a2, w35_165]
          refine hQ _ (fun a x y z => by rw [mU_f y, f3 a x y z, mU_f y, f2 a x y z]) ⟨by rw [mU_f (by decide)]; exact h3.1, by rw [mU_f (by decide)]; exact h3.2.1, ?_, fun q hq => by rw [mU_f (by decide)]; exact h3.2.2.2 q hq⟩
          intro q hq
          by_cases e : q = p
          · subst e; rw [mU_s, hTp]
          · rw [mU_k e, h3.2.2.1 q hq, wU, if_neg e]
      · have g3 : nI al ≤ 0 := by rw [show al = 0 by omega]; decide
        rw [if_neg ha] at hQ
        simp only [g3, ↓reduceIte, w35_165]
        exact hQ I2 f2 h2
    · rw [if_pos hTp] at hQ
      simp only [hTp, ↓reduceIte, w35_30, w35_31, w35_32, w35_33, w35_34, nI_1, w35_35, w35_36, w35_38]
      refine ih (p + 1) (by omega) d al much T B I _ h hr hB (by omega) hal ?_
      intro I' f1 h1
      simp only [↓reduceIte, Option.toList_some, Option.toList_none, List.cons_append, List.nil_append, Int32.reduceAdd, Int32.reduceLT, Int32.reduceLE, Int32.reduceToNatClampNeg, w35_41]
      exact hQ I' f1 h1
def q_pairs (η : mHs) (ρ : mRo5) (i : Int32) : Int32 := if i = -1 then nI (pM' ρ (2 ^ η.1 - 1)) else if isP η i then pPar ρ 5 (2 ^ η.1 - 1) i.toNatClampNeg else -1
theorem f_full : ∀ n, n < 6 → (2 ^ n - 1 < 32 ∧ bn (2 ^ n - 1) = n) ∧ ∀ q, q < 5 → (2 ^ n - 1).testBit q = decide (q < n) := by decide +kernel
theorem pX_ok (ho : rOk η ρ) : ∀ p, p < 5 → pX ρ p ≤ 20 ∧ ρ p = nI (pX ρ p) := fun p hp => rt_ok ho hp
theorem c122 {d : Nat} {I : Nat → Nat → Int32} {o : Nat} {Q : Option Value → mHp → Prop} (hb : xB I o η ρ) (i : Int32) (hQ : ∀ I', fQ I I' → Q (some (.int (q_pairs η ρ i))) (mHh xL I' J (mRf o o rr))) : WP (d + 8) 122 0 [.ref 7, .int i] [] (mHh xL I J (mRf o o rr)) Q := by
  obtain ⟨hk, hh, hr, ho, -⟩ := hb
  have hn5 := hk.1
  have hHo := hh.1
  have hρ := pX_ok ho
  have fP_Q : ∀ {I I' : Nat → Nat → Int32}, fP I I' → fQ I I' := fun f a h => f a (by omega) (by omega) (by omega)
  by_cases hi : i = -1 ∨ isP η i = true
  · have e : WP (d + 8) 122 0 [.ref 7, .int i] [] (mHh xL I J (mRf o o rr)) Q = WP (d + 8) 122 15 [.ref 7, .int i] [] (mHh xL I J (mRf o o rr)) Q := by
      by_cases h1 : i = -1
      · simp only [w122_0, w122_1, w122_2, h1, ↓reduceIte]
      · have h2 : isP η i = true := hi.resolve_left h1
        simp only [w122_0, w122_1, w122_2, h1, ↓reduceIte, w122_5, w122_6, w122_7, c83 hh, ↓reduceIte, Option.toList_some, Option.toList_none, List.cons_append, List.nil_append, Int32.reduceAdd, Int32.reduceLT, Int32.reduceLE, Int32.reduceToNatClampNeg, w122_10, sB_t h2, o01]
    rw [e]
    have e2 : nI η.1 - nI η.1 / 2 * 2 = nI (η.1 % 2) := pk_rem (d := 2) (by omega) (by decide) (by decide)
    simp only [w122_15, w122_16, w122_19, w122_20, w122_23, w122_24, hHo, w122_27, hh.2.1, w122_30, w34_0, w34_1, w34_2, w34_5, w34_6, w34_8, w34_11, w34_12]
    obtain ⟨⟨F1, F2⟩, F3⟩ := f_full η.1 (by omega)
    have key : ∀ k, k ≤ 5 → ∀ I' : Nat → Nat → Int32, (∀ a, a ≠ 161 → a ≠ 162 → I' a = mU (mU I 160 2 (nI η.1)) 160 3 101 a) → (∀ j, j < k → I' 161 j = -1 ∧ I' 162 j = -2) → WP (d + 7) 34 13 [.ref 160, .ref 163, .int (nI η.1), .int (nI k)] [] (mHh xL I' J (mRf o o rr)) (fun v h9 => WP (d + 7 + 1) 122 33 [.ref 7, .int i] (v.toList ++ []) h9 Q) := by
      refine iter_dn ?_ ?_
      · intro k hk ih I' f t
        have g2 : ¬ 5 ≤ nI k := by rw [ni_le 5 (by decide) (by omega)]; omega
        have a1 : mIn (nI k) 5 = true := mIn_nI (by omega) (by omega)
        have a2 : (nI k).toNatClampNeg = k := nI_clamp (by omega)
        rw [w34_13]
        simp only [w34_14, w34_15, g2, ↓reduceIte, w34_18, w34_19, w34_22, w34_23, w34_24, a1, a2, w34_25, w34_26, w34_29, w34_30, w34_32, w34_33, w34_36, nI_1]
        refine ih _ (fun a p q => by rw [mU_f q, mU_f p, f a p q]) ?_
        intro j hj
        by_cases e : j = k
        · subst e
          exact ⟨by rw [mU_f (by decide), mU_s], mU_s _ _ _ _⟩
        · have := t j (by omega)
          exact ⟨by rw [mU_f (by decide), mU_k e]; exact this.1, by rw [mU_k e, mU_f (by decide)]; exact this.2⟩
      · intro I' f t
        have g2 : 5 ≤ nI 5 := by decide
        have hs : pSs I' η.1 (fun _ => -1) (101, fun _ => -2) := by
          refine ⟨?_, ?_, fun q hq => (t q hq).1, fun q hq => (t q hq).2⟩
          · rw [f 160 (by decide) (by decide), mU_k (by decide), mU_s]
          · rw [f 160 (by decide) (by decide), mU_s]; rfl
        have r1 : mRw I' 163 = ρ := mRw_keep (I := I) (by rw [f 163 (by decide) (by decide), mU_f (by decide), mU_f (by decide)]) (by rw [f 164 (by decide) (by decide), mU_f (by decide), mU_f (by decide)]) hr
        have f0 : fP I I' := fun a x y z => by rw [f a y z, mU_f x, mU_f x]
        have c := c35 (xL := xL) (J := J) (rc := o) (rx := o) (rr := rr) hρ hn5 η.1 0 (by omega) (d + 5 - η.1) (η.1 % 2) 0 (fun _ => -1) (101, fun _ => -2) I' (fun v h9 => WP (d + 7) 34 49 [.ref 160, .ref 163, .int (nI η.1), .int (nI 5)] (v.toList ++ []) h9 (fun v h9 => WP (d + 7 + 1) 122 33 [.ref 7, .int i] (v.toList ++ []) h9 Q)) hs r1 (Nat.le_refl _) (by omega) (by omega)
        rw [show d + 5 - η.1 + η.1 + 1 = d + 6 by omega, show nI 0 = 0 from rfl] at c
        rw [w34_13]
        simp only [w34_14, w34_15, g2, ↓reduceIte, w34_39, w34_40, w34_41, w34_42, w34_43, w34_44, e2, w34_45, w34_46]
        refine c ?_
        intro I2 f2 h2
        have hpr := pR (ρ := ρ) (fun p hp => (hρ p hp).1) hn5 η.1 0 (by omega) (η.1 % 2) 0 (fun _ => -1) (101, fun _ => -2) (2 ^ η.1 - 1) F1 (fun q hq => by rw [F3 q hq, decide_eq_true_eq]; exact ⟨fun z => ⟨z, rfl⟩, fun z => z.1⟩) (fun q hq => absurd hq (by omega)) (by rw [F2])
        have hv := (pV ρ (fun p hp => (hρ p hp).1) _ _ (Nat.le_refl _) F1).2
        rw [F2] at hv
        rw [hpr, if_pos (by show 0 + _ < 101; omega), Nat.zero_add] at h2
        have hF := hQ I2 (fP_Q (fP_t f0 f2))
        simp only [↓reduceIte, Option.toList_some, Option.toList_none, List.cons_append, List.nil_append, Int32.reduceAdd, Int32.reduceLT, Int32.reduceLE, Int32.reduceToNatClampNeg, w34_49, w122_33, w122_34, w122_35]
        by_cases h1 : i = -1
        · rw [q_pairs, if_pos h1] at hF
          simp only [h1, ↓reduceIte, w122_38, w122_39, w122_42, h2.2.1, w122_45, w122_57]
          exact hF
        · have h3 : isP η i = true := hi.resolve_left h1
          rw [q_pairs, if_neg h1, if_pos h3] at hF
          obtain ⟨q, hq, rfl⟩ := (isP_iff hk).1 h3
          have a1 : mIn (nI q) 5 = true := mIn_nI (by omega) (by omega)
          have a2 : (nI q).toNatClampNeg = q := nI_clamp (by omega)
          have e3 : I2 162 q = pPar ρ 5 (2 ^ η.1 - 1) q := by
            rw [h2.2.2.2 q (by omega)]
            show pA ρ (2 ^ η.1 - 1) (fun _ => -1) q = _
            rw [pA, if_pos ⟨by omega, by rw [F3 q (by omega)]; exact decide_eq_true hq⟩]
          rw [a2] at hF
          simp only [h1, ↓reduceIte, w122_48, w122_49, w122_52, w122_55, w122_56, a1, a2, e3, w122_57]
          exact hF
    exact key 0 (by omega) _ (fun _ _ _ => rfl) (fun j hj => absurd hj (by omega))
  · have h1 : ¬ i = -1 := fun z => hi (Or.inl z)
    have h2 : ¬ isP η i = true := fun z => hi (Or.inr z)
    have h3 : isP η i = false := by simpa using h2
    have hF := hQ I fQ_0
    rw [q_pairs, if_neg h1, if_neg h2] at hF
    simp only [w122_0, w122_1, w122_2, h1, ↓reduceIte, w122_5, w122_6, w122_7, c83 hh, ↓reduceIte, Option.toList_some, Option.toList_none, List.cons_append, List.nil_append, Int32.reduceAdd, Int32.reduceLT, Int32.reduceLE, Int32.reduceToNatClampNeg, w122_10, sB_f h3, w122_13, w122_14]
    exact hF
end PAC
