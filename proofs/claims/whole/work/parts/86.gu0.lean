/-! The glass reads a unit: the contract. -/
section GU0
variable {d : Nat} {xL : Nat} {J : Nat → Nat → Int64} {rc rx rr : Nat} {L : Nat} {W : Nat → Int32} {l : Nat} {ms : Nat → Bool} {M : Int32}
theorem gE0 (hl : mLa l) (hM : ∀ v, v < 9 → ((M >>> (nI v &&& 31)) &&& 1 = 1 ↔ ms v = true)) {n : Nat} (ih : gOK xL rc rx rr l ms M J W L n 3) : gOK xL rc rx rr l ms M J W L (n + 1) 0 := by
  intro o t D I s Q ho hD hn h hM2 hs hst hP
  have ht := h.2.1.1
  have hll := la_kx l hl
  obtain ⟨d, rfl⟩ : ∃ d, D = d + 3 := ⟨D - 3, by have : gDp 0 o = 3 * (6 - o) + 3 := rfl; omega⟩
  show WP (d + 3) 54 0 [.ref 10, .ref l, .int (nI o), mDum] [] (mHh xL I J (mRf rc rx rr)) Q
  have hkk := tKd_lt W L (tp W L t)
  change kk W L t < 40 at hkk
  obtain ⟨k4, k111, k120, k40, k31, -⟩ := gk_f (kk W L t) hkk
  have f0 : I 10 3 = 0 := h.2.2.2.1
  have s4 : ¬ s = 400 := by omega
  rw [pE, if_pos rfl] at hP
  simp only [w54_0, w54_1, f0, w54_4, ↓reduceIte, w54_8, w54_9, c39 h, ↓reduceIte, Option.toList_some, Option.toList_none, List.cons_append, List.nil_append, Int32.reduceAdd, Int32.reduceLT, Int32.reduceLE, Int32.reduceToNatClampNeg, w54_12, w54_13, w54_14, w54_15, k4]
  by_cases c2 : kk W L t = 2
  · rw [if_pos c2] at hP
    have e1 : (tkW W L (tp W L t)).toInt32 = nI (kv W L t) := by rw [tkW_2 c2, lN_i]
    obtain ⟨u1, u2, u3, u4⟩ := laU_r (l := l) I s 4 (nI (kv W L t))
    simp only [c2, ↓reduceIte, w54_18, w54_19, w54_20, w54_21, c46 h, ↓reduceIte, Option.toList_some, Option.toList_none, List.cons_append, List.nil_append, Int32.reduceAdd, Int32.reduceLT, Int32.reduceLE, Int32.reduceToNatClampNeg, w54_24, e1, w54_25 (hb := hl), c31 hl hs (show s ≤ 400 by omega), if_neg s4, w54_28, w54_29, w54_30]
    refine c44n (d := d) (gRD_la hl h s 4 (nI (kv W L t))) (κ := 2) c2 (by decide) (by decide) ?_
    intro I' r1 q1 q2
    simp only [↓reduceIte, Option.toList_some, Option.toList_none, List.cons_append, List.nil_append, Int32.reduceAdd, Int32.reduceLT, Int32.reduceLE, Int32.reduceToNatClampNeg, w54_33, w54_111]
    have fr := fRd_t (laU_d hl I s 4 (nI (kv W L t))) (fR1_d hl r1)
    have z3 : I' l 3 = nI (s + 1) := by rw [r1.1 l (by omega)]; exact u1
    cases e : nx t with
    | inl f =>
      rw [e] at hP; dsimp only at hP
      refine hP I' t fr (q1 f e) ⟨s + 1, by omega, z3⟩ ?_
      rw [(nx_l e).2]; exact (by decide : (2 : Nat) ≠ 0)
    | inr t1 =>
      rw [e] at hP; dsimp only at hP
      refine hP I' fr (q2 t1 e) z3 (fun q hq => ?_) ⟨?_, ?_, trivial⟩
      · rw [r1.1 (l + 1) (by omega), r1.1 (l + 2) (by omega)]; exact u4 q (by omega)
      · rw [r1.1 (l + 1) (by omega)]; exact u2
      · rw [r1.1 (l + 2) (by omega)]; exact u3
  · rw [if_neg c2] at hP
    simp only [c2, ↓reduceIte, w54_36, w54_37, w54_39, k111]
    by_cases cv : 31 ≤ kk W L t
    · rw [if_pos ⟨cv, by omega⟩] at hP
      have hm : (I l 2 >>> (nI (kk W L t - 31) &&& 31)) &&& 1 = 1 ↔ ms (kk W L t - 31) = true := by rw [hM2]; exact hM _ (by omega)
      obtain ⟨u1, u2, u3, u4⟩ := laU_r (l := l) I s (mXs ms (1, nI (kk W L t - 31))).1 (mXs ms (1, nI (kk W L t - 31))).2
      simp only [show ¬ kk W L t < 31 by omega, ↓reduceIte, w54_42, w54_43, w54_45, k120, w54_48, w54_49, w54_50, w54_52, k31 cv, w54_53 (hb := hl), c30 (ms := ms) (d := d + 1) hl hs (show s < 400 by omega) hm (show kk W L t - 31 < 2 ^ 31 by omega), ↓reduceIte, Option.toList_some, Option.toList_none, List.cons_append, List.nil_append, Int32.reduceAdd, Int32.reduceLT, Int32.reduceLE, Int32.reduceToNatClampNeg, w54_56, w54_57, w54_58]
      refine c44n (d := d) (gRD_la hl h s _ _) (κ := kk W L t) rfl (by omega) rfl ?_
      intro I' r1 q1 q2
      simp only [↓reduceIte, Option.toList_some, Option.toList_none, List.cons_append, List.nil_append, Int32.reduceAdd, Int32.reduceLT, Int32.reduceLE, Int32.reduceToNatClampNeg, w54_61, w54_111]
      have fr := fRd_t (laU_d hl I s (mXs ms (1, nI (kk W L t - 31))).1 (mXs ms (1, nI (kk W L t - 31))).2) (fR1_d hl r1)
      have z3 : I' l 3 = nI (s + 1) := by rw [r1.1 l (by omega)]; exact u1
      cases e : nx t with
      | inl f =>
        rw [e] at hP; dsimp only at hP
        refine hP I' t fr (q1 f e) ⟨s + 1, by omega, z3⟩ ?_
        rw [(nx_l e).2]; exact (by decide : (2 : Nat) ≠ 0)
      | inr t1 =>
        rw [e] at hP; dsimp only at hP
        refine hP I' fr (q2 t1 e) z3 (fun q hq => ?_) ⟨?_, ?_, trivial⟩
        · rw [r1.1 (l + 1) (by omega), r1.1 (l + 2) (by omega)]; exact u4 q (by omega)
        · rw [r1.1 (l + 1) (by omega)]; exact u2
        · rw [r1.1 (l + 2) (by omega)]; exact u3
    · rw [if_neg (by omega)] at hP
      simp only [show kk W L t < 31 by omega, ↓reduceIte, w54_64, w54_65, w54_67, k40]
      by_cases c6 : kk W L t = 6
      · rw [if_pos c6] at hP
        have g6 : (nI o < 6) ↔ ¬ 6 ≤ o := by rw [in_lt 6 (by decide) (by omega)]; omega
        simp only [c6, ↓reduceIte, w54_70, w54_71, w54_73, g6]
        by_cases o6 : 6 ≤ o
        · rw [if_pos o6] at hP
          have gg := gRD_fl h (g := 2) (by decide) (by decide)
          rw [if_pos rfl, if_pos rfl] at gg
          have e2 : (2 : Int32) = nI 2 := rfl
          simp only [o6, not_true_eq_false, ↓reduceIte, w54_76, w54_77, w54_78, c42 (d := d + 1) h, ↓reduceIte, Option.toList_some, Option.toList_none, List.cons_append, List.nil_append, Int32.reduceAdd, Int32.reduceLT, Int32.reduceLE, Int32.reduceToNatClampNeg, w54_81, w54_111]
          refine hP _ t (fR1_d hl (fR1_fl I 2 (nI (tp W L t)))) gg ⟨s, by omega, ?_⟩ (by decide : (2 : Nat) ≠ 0)
          rw [(fR1_fl I 2 (nI (tp W L t))).1 l (by omega)]; exact hs
        · rw [if_neg o6] at hP
          simp only [o6, not_false_eq_true, ↓reduceIte, w54_84, w54_85, w54_87]
          refine c44n (d := d) h (κ := 6) c6 (by decide) (by decide) ?_
          intro I1 r1 q1 q2
          have z3 : I1 l 3 = nI s := by rw [r1.1 l (by omega)]; exact hs
          simp only [↓reduceIte, Option.toList_some, Option.toList_none, List.cons_append, List.nil_append, Int32.reduceAdd, Int32.reduceLT, Int32.reduceLE, Int32.reduceToNatClampNeg, w54_90, w54_91]
          cases e : nx t with
          | inl f =>
            rw [e] at hP; dsimp only at hP
            have gf := q1 f e
            have nf : f.1 ≠ 0 := by rw [(nx_l e).2]; exact (by decide : (2 : Nat) ≠ 0)
            have e3 : ¬ I1 10 3 = 0 := by rw [gf.2.2.2.1, in_eq 0 (by decide) (by have := gf.2.2.2.2.1; omega)]; exact nf
            simp only [w54_94, e3, ↓reduceIte, w54_111]
            exact hP I1 t (fR1_d hl r1) gf ⟨s, by omega, z3⟩ nf
          | inr t1 =>
            rw [e] at hP; dsimp only at hP
            have gf := q2 t1 e
            have et := (nx_r h.2.1 (by omega) e).1
            have e3 : I1 10 3 = 0 := gf.2.2.2.1
            simp only [w54_94, e3, ↓reduceIte, w54_97, w54_98, w54_99, w54_100, w54_101, nI_1, w54_102]
            have hD' : gDp 0 o = 3 * (6 - o) + 3 := rfl
            have hD3 : gDp 3 (o + 1) = 3 * (6 - (o + 1)) + 5 := rfl
            have hg0 : gWt 0 = 1 := rfl
            have hg3 : gWt 3 = 3 := rfl
            refine ih (o + 1) t1 (d + 2) I1 s (fun v h9 => WP (d + 3) 54 105 [.ref 10, .ref l, .int (nI o), .int (nI (gk 6))] (v.toList ++ []) h9 Q) (by omega) (by omega) (by omega) gf (by rw [r1.1 l (by omega)]; exact hM2) z3 (by omega) ?_
            cases e4 : pE W L n 3 (o + 1) t1 with
            | inl f =>
              rw [e4] at hP; dsimp only at hP
              intro I2 t2 f2 g2 s2 n2
              simp only [↓reduceIte, Option.toList_some, Option.toList_none, List.cons_append, List.nil_append, Int32.reduceAdd, Int32.reduceLT, Int32.reduceLE, Int32.reduceToNatClampNeg, w54_105, w54_106, w54_108, c44f (d := d) (κ := 7) (y := 41) g2 n2 (by decide) (by decide), w54_111]
              exact hP I2 t2 (fRd_t (fR1_d hl r1) f2) g2 s2 n2
            | inr r =>
              obtain ⟨t2, c⟩ := r
              rw [e4] at hP; dsimp only at hP
              have ok := pE_ok W L n 3 (o + 1) t1 t2 c gf.2.1 (by omega) (by omega) e4
              intro I2 f2 g2 s2 p2 x2
              change gRD I2 J W L t2 0 0 at g2
              change I2 l 3 = nI (s + c.length) at s2
              change mXa (I2 (l + 1)) (I2 (l + 2)) (c.map (mXs ms)) s at x2
              have t2b := g2.2.1.1
              have pp : ∀ q, q < s → I2 (l + 1) q = I (l + 1) q ∧ I2 (l + 2) q = I (l + 2) q := by
                intro q hq
                obtain ⟨a, b⟩ := p2 q hq
                exact ⟨a.trans (by rw [r1.1 (l + 1) (by omega)]), b.trans (by rw [r1.1 (l + 2) (by omega)])⟩
              simp only [↓reduceIte, Option.toList_some, Option.toList_none, List.cons_append, List.nil_append, Int32.reduceAdd, Int32.reduceLT, Int32.reduceLE, Int32.reduceToNatClampNeg, w54_105, w54_106, w54_108]
              by_cases c7 : kk W L t2 = 7
              · rw [if_pos c7] at hP
                refine c44n (d := d) g2 (κ := 7) c7 (by decide) (by decide) ?_
                intro I3 r3 q3 q4
                simp only [↓reduceIte, Option.toList_some, Option.toList_none, List.cons_append, List.nil_append, Int32.reduceAdd, Int32.reduceLT, Int32.reduceLE, Int32.reduceToNatClampNeg, w54_111]
                have fr := fRd_t (fRd_t (fR1_d hl r1) f2) (fR1_d hl r3)
                have z5 : I3 l 3 = nI (s + c.length) := by rw [r3.1 l (by omega)]; exact s2
                cases e5 : nx t2 with
                | inl f =>
                  rw [e5] at hP; dsimp only at hP
                  refine hP I3 t2 fr (q3 f e5) ⟨s + c.length, by omega, z5⟩ ?_
                  rw [(nx_l e5).2]; exact (by decide : (2 : Nat) ≠ 0)
                | inr t3 =>
                  rw [e5] at hP; dsimp only at hP
                  refine hP I3 fr (q4 t3 e5) z5 (fun q hq => ?_) ?_
                  · rw [r3.1 (l + 1) (by omega), r3.1 (l + 2) (by omega)]; exact pp q hq
                  · rw [r3.1 (l + 1) (by omega), r3.1 (l + 2) (by omega)]; exact x2
              · rw [if_neg c7] at hP
                refine c44m (d := d) g2 (κ := 7) c7 (by decide) (by decide) ?_
                intro I3 r3 g3
                simp only [↓reduceIte, Option.toList_some, Option.toList_none, List.cons_append, List.nil_append, Int32.reduceAdd, Int32.reduceLT, Int32.reduceLE, Int32.reduceToNatClampNeg, w54_111]
                refine hP I3 t2 (fRd_t (fRd_t (fR1_d hl r1) f2) (fR1_d hl r3)) g3 ⟨s + c.length, by omega, ?_⟩ (by decide : (1 : Nat) ≠ 0)
                rw [r3.1 l (by omega)]; exact s2
      · rw [if_neg c6] at hP
        simp only [c6, ↓reduceIte, w54_84, w54_85, w54_87]
        refine c44m (d := d) h (κ := 6) c6 (by decide) (by decide) ?_
        intro I1 r1 gf
        have e3 : ¬ I1 10 3 = 0 := by rw [gf.2.2.2.1]; decide
        simp only [↓reduceIte, Option.toList_some, Option.toList_none, List.cons_append, List.nil_append, Int32.reduceAdd, Int32.reduceLT, Int32.reduceLE, Int32.reduceToNatClampNeg, w54_90, w54_91, w54_94, e3, ↓reduceIte, w54_111]
        exact hP I1 t (fR1_d hl r1) gf ⟨s, by omega, by rw [r1.1 l (by omega)]; exact hs⟩ (by decide : (1 : Nat) ≠ 0)
end GU0
