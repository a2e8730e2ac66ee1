/-! The glass reads a law: its ifs. -/
theorem xa_m {S N S' N' : Nat → Int32} : ∀ (c : List (Int32 × Int32)) (q : Nat), mXa S N c q → (∀ j, q ≤ j → j < q + c.length → S' j = S j ∧ N' j = N j) → mXa S' N' c q := by
  intro c
  induction c with
  | nil => intro q _ _; trivial
  | cons p c ih =>
    intro q h hj
    have e := hj q (Nat.le_refl _) (by rw [List.length_cons]; omega)
    exact ⟨e.1.trans h.1, e.2.trans h.2.1, ih (q + 1) h.2.2 (fun j h1 hq => hj j (by omega) (by rw [List.length_cons]; omega))⟩
section GLC
variable {d : Nat} {xL : Nat} {J : Nat → Nat → Int64} {rc rx rr : Nat} {L : Nat} {W : Nat → Int32} {l : Nat} {ms : Nat → Bool} {M : Int32}
theorem gLw (hl : mLa l) (hM : ∀ v, v < 9 → ((M >>> (nI v &&& 31)) &&& 1 = 1 ↔ ms v = true)) : ∀ n k t I s v3 Q, k + n = 4 → gRD I J W L t 0 0 → I l 2 = M → I l 3 = nI s → s < t → lPost xL rc rx rr l s ms I J W L Q (pL W L n t) → WP (d + 24) 51 21 [.ref 10, .ref l, .int (nI k), v3] [] (mHh xL I J (mRf rc rx rr)) Q := by
  have hll := la_kx l hl
  have gk28 : ∀ k, k < 40 → (nI (gk k) = 108 ↔ k = 28) := by decide +kernel
  intro n
  induction n with
  | zero =>
    intro k t I s v3 Q hk h h2 hs hst hP
    have ht := h.2.1.1
    have e4 : k = 4 := by omega
    subst e4
    have f0 : I 10 3 = 0 := h.2.2.2.1
    have g4 : ¬ (4 : Int32) < nI 4 := by decide
    have n4 : nI 4 = 4 := rfl
    have g8 := gk28 (kk W L t) (tKd_lt W L _)
    rw [w51_21]
    simp only [w51_22, w51_23, g4, ↓reduceIte, w51_26, w51_27, f0, w51_30, w51_33, w51_34, c39 h, ↓reduceIte, Option.toList_some, Option.toList_none, List.cons_append, List.nil_append, Int32.reduceAdd, Int32.reduceLT, Int32.reduceLE, Int32.reduceToNatClampNeg, w51_37, w51_39, g8]
    rw [pL] at hP
    by_cases c : kk W L t = 28
    · rw [if_pos c] at hP
      have gg := gRD_fl h (g := 2) (by decide) (by decide)
      rw [if_pos rfl, if_pos rfl] at gg
      simp only [c, ↓reduceIte, w51_42, w51_43, w51_44, n4, w51_47, w51_48, w51_49, c42 (d := d + 22) h, ↓reduceIte, Option.toList_some, Option.toList_none, List.cons_append, List.nil_append, Int32.reduceAdd, Int32.reduceLT, Int32.reduceLE, Int32.reduceToNatClampNeg, w51_52]
      refine hP _ (fR1_d hl (fR1_fl I 2 (nI (tp W L t)))) ⟨⟨t, gg⟩, (by decide : (2 : Nat) ≠ 0), s, by omega, ?_⟩
      rw [(fR1_fl I 2 (nI (tp W L t))).1 l (by omega)]; exact hs
    · rw [if_neg c] at hP
      simp only [c, ↓reduceIte]
      exact gLe hl hM h h2 hs hst hP
  | succ n ih =>
    intro k t I s v3 Q hk h h2 hs hst hP
    have ht := h.2.1.1
    have f0 : I 10 3 = 0 := h.2.2.2.1
    have g4 : ¬ (4 : Int32) < nI k := by rw [ni_lt 4 (by decide) (by omega)]; omega
    have n4 : ¬ nI k = 4 := by rw [in_eq 4 (by decide) (by omega)]; omega
    have g8 := gk28 (kk W L t) (tKd_lt W L _)
    rw [w51_21]
    simp only [w51_22, w51_23, g4, ↓reduceIte, w51_26, w51_27, f0, w51_30, w51_33, w51_34, c39 h, ↓reduceIte, Option.toList_some, Option.toList_none, List.cons_append, List.nil_append, Int32.reduceAdd, Int32.reduceLT, Int32.reduceLE, Int32.reduceToNatClampNeg, w51_37, w51_39, g8]
    rw [pL] at hP
    by_cases c : kk W L t = 28
    · rw [if_pos c, pIf] at hP
      simp only [c, ↓reduceIte, w51_42, w51_43, w51_44, n4, w51_53, w51_54, w51_56]
      refine c44n (d := d + 21) h (κ := 28) c (by decide) (by decide) (fun I1 r1 q1 q2 => ?_)
      have z1 : I1 l 3 = nI s := by rw [r1.1 l (by omega)]; exact hs
      have y1 : I1 l 2 = M := by rw [r1.1 l (by omega)]; exact h2
      simp only [↓reduceIte, Option.toList_some, Option.toList_none, List.cons_append, List.nil_append, Int32.reduceAdd, Int32.reduceLT, Int32.reduceLE, Int32.reduceToNatClampNeg]
      cases e1 : nx t with
      | inl f =>
        rw [e1] at hP
        exact x59f hl ⟨⟨t, q1 f e1⟩, by rw [(nx_l e1).2]; exact (by decide : (2 : Nat) ≠ 0), s, by omega, z1⟩ (fun I' f2 h2 => hP I' (fRd_t (fR1_d hl r1) f2) h2)
      | inr t1 =>
        rw [e1] at hP; dsimp only [bd] at hP
        have g1 := q2 t1 e1
        have et := (nx_r h.2.1 (by rw [c]; decide) e1).1
        simp only [w51_59, w51_60, w51_61, w51_62]
        refine c52w (d := d) hl hM g1 y1 z1 (by omega) (fun f I2 e2 f2 g2 => ?_) (fun p I2 e2 f2 g2 s2 p2 x2 => ?_)
        · rw [e2] at hP
          simp only [↓reduceIte, Option.toList_some, Option.toList_none, List.cons_append, List.nil_append, Int32.reduceAdd, Int32.reduceLT, Int32.reduceLE, Int32.reduceToNatClampNeg]
          exact x65f hl g2 (fun I' f3 h3 => hP I' (fRd_t (fRd_t (fR1_d hl r1) f2) f3) h3)
        · rw [e2] at hP; dsimp only [bd] at hP
          have ok2 := pE3_ok g1.2.1 e2
          have tb2 := g2.2.1.1
          simp only [↓reduceIte, Option.toList_some, Option.toList_none, List.cons_append, List.nil_append, Int32.reduceAdd, Int32.reduceLT, Int32.reduceLE, Int32.reduceToNatClampNeg, w51_65, w51_66, w51_68]
          refine c44t (d := d + 21) g2 (κ := 13) (by decide) (by decide) (by decide) (fun I3 r3 q3 q4 => ?_)
          have fr3 := fRd_t (fRd_t (fR1_d hl r1) f2) (fR1_d hl r3)
          have z3 : I3 l 3 = nI (s + p.2.length) := by rw [r3.1 l (by omega)]; exact s2
          have y3 : I3 l 2 = M := by rw [fr3.2.2 2 (by decide)]; exact h2
          simp only [↓reduceIte, Option.toList_some, Option.toList_none, List.cons_append, List.nil_append, Int32.reduceAdd, Int32.reduceLT, Int32.reduceLE, Int32.reduceToNatClampNeg]
          cases e3 : pTt W L 13 p.1 with
          | inl f =>
            rw [e3] at hP
            obtain ⟨u1, u2⟩ := q3 f e3
            exact x71f hl ⟨⟨p.1, u1⟩, u2, s + p.2.length, by omega, z3⟩ (fun I' f4 h4 => hP I' (fRd_t fr3 f4) h4)
          | inr t3 =>
            rw [e3] at hP; dsimp only [bd] at hP
            have g3 := q4 t3 e3
            have et3 := (pTt_r ok2.1 (by decide) e3).2.1
            simp only [w51_71, w51_72, w51_73, w51_74]
            refine c52w (d := d) hl hM g3 y3 z3 (by omega) (fun f I4 e4 f4 g4' => ?_) (fun q I4 e4 f4 g4' s4 p4 x4 => ?_)
            · rw [e4] at hP
              simp only [↓reduceIte, Option.toList_some, Option.toList_none, List.cons_append, List.nil_append, Int32.reduceAdd, Int32.reduceLT, Int32.reduceLE, Int32.reduceToNatClampNeg]
              exact x77f hl g4' (fun I' f5 h5 => hP I' (fRd_t (fRd_t fr3 f4) f5) h5)
            · rw [e4] at hP; dsimp only [bd] at hP
              have ok4 := pE3_ok g3.2.1 e4
              have tb4 := g4'.2.1.1
              simp only [↓reduceIte, Option.toList_some, Option.toList_none, List.cons_append, List.nil_append, Int32.reduceAdd, Int32.reduceLT, Int32.reduceLE, Int32.reduceToNatClampNeg, w51_77, w51_78, w51_80]
              refine c44t (d := d + 21) g4' (κ := 29) (by decide) (by decide) (by decide) (fun I5 r5 q5 q6 => ?_)
              have fr5 := fRd_t (fRd_t fr3 f4) (fR1_d hl r5)
              have z5 : I5 l 3 = nI (s + p.2.length + q.2.length) := by rw [r5.1 l (by omega)]; exact s4
              simp only [↓reduceIte, Option.toList_some, Option.toList_none, List.cons_append, List.nil_append, Int32.reduceAdd, Int32.reduceLT, Int32.reduceLE, Int32.reduceToNatClampNeg]
              cases e5 : pTt W L 29 q.1 with
              | inl f =>
                rw [e5] at hP
                obtain ⟨u1, u2⟩ := q5 f e5
                exact x83f hl ⟨⟨q.1, u1⟩, u2, s + p.2.length + q.2.length, by omega, z5⟩ (fun I' f6 h6 => hP I' (fRd_t fr5 f6) h6)
              | inr t5 =>
                rw [e5] at hP; dsimp only [bd] at hP
                have g5 := q6 t5 e5
                have et5 := (pTt_r ok4.1 (by decide) e5).2.1
                obtain ⟨w1, w2, w3, w4⟩ := laU_r (l := l) I5 (s + p.2.length + q.2.length) 6 0
                have fr6 := fRd_t fr5 (laU_d hl I5 (s + p.2.length + q.2.length) 6 0)
                have y6 : laU I5 l (s + p.2.length + q.2.length) 6 0 l 2 = M := by rw [fr6.2.2 2 (by decide)]; exact h2
                simp only [w51_83, w51_84 (ha := hl), z5, w51_87, w51_88, w51_89, w51_91, w51_92 (hb := hl), c31 hl z5 (show s + p.2.length + q.2.length ≤ 400 by omega), if_neg (show ¬ s + p.2.length + q.2.length = 400 by omega), ↓reduceIte, Option.toList_some, Option.toList_none, List.cons_append, List.nil_append, Int32.reduceAdd, Int32.reduceLT, Int32.reduceLE, Int32.reduceToNatClampNeg, w51_95, w51_96, w51_97, w51_98]
                refine c52w (d := d) hl hM (gRD_la hl g5 (s + p.2.length + q.2.length) 6 0) y6 w1 (by omega) (fun f I7 e7 f7 g7 => ?_) (fun r I7 e7 f7 g7 s7 p7 x7 => ?_)
                · rw [e7] at hP
                  simp only [↓reduceIte, Option.toList_some, Option.toList_none, List.cons_append, List.nil_append, Int32.reduceAdd, Int32.reduceLT, Int32.reduceLE, Int32.reduceToNatClampNeg]
                  exact x101f hl g7 (by omega) (fun I' f8 h8 => hP I' (fRd_t (fRd_t fr6 f7) f8) h8)
                · rw [e7] at hP; dsimp only [bd] at hP
                  have ok7 := pE3_ok g5.2.1 e7
                  have tb7 := g7.2.1.1
                  simp only [↓reduceIte, Option.toList_some, Option.toList_none, List.cons_append, List.nil_append, Int32.reduceAdd, Int32.reduceLT, Int32.reduceLE, Int32.reduceToNatClampNeg, w51_101, w51_102, w51_104]
                  refine c44t (d := d + 21) g7 (κ := 30) (by decide) (by decide) (by decide) (fun I8 r8 q7 q8 => ?_)
                  have fr8 := fRd_t (fRd_t fr6 f7) (fR1_d hl r8)
                  have z8 : I8 l 3 = nI (s + p.2.length + q.2.length + 1 + r.2.length) := by rw [r8.1 l (by omega)]; exact s7
                  simp only [↓reduceIte, Option.toList_some, Option.toList_none, List.cons_append, List.nil_append, Int32.reduceAdd, Int32.reduceLT, Int32.reduceLE, Int32.reduceToNatClampNeg]
                  cases e8 : pTt W L 30 r.1 with
                  | inl f =>
                    rw [e8] at hP
                    obtain ⟨u1, u2⟩ := q7 f e8
                    exact x107f hl ⟨⟨r.1, u1⟩, u2, _, by omega, z8⟩ (by omega) (fun I' f9 h9 => hP I' (fRd_t fr8 f9) h9)
                  | inr t7 =>
                    rw [e8] at hP; dsimp only [bd] at hP
                    have g8' := q8 t7 e8
                    have et7 := (pTt_r ok7.1 (by decide) e8).2.1
                    obtain ⟨v1, v2, v3', v4⟩ := laU_r (l := l) I8 (s + p.2.length + q.2.length + 1 + r.2.length) 7 0
                    have fr9 := fRd_t fr8 (laU_d hl I8 (s + p.2.length + q.2.length + 1 + r.2.length) 7 0)
                    have ft := fRd_t fr9 (leU_d hl (laU I8 l (s + p.2.length + q.2.length + 1 + r.2.length) 7 0) (s + p.2.length + q.2.length) (nI (s + p.2.length + q.2.length + 1 + r.2.length + 1 - 1)))
                    simp only [w51_107, w51_108, w51_110, w51_111 (hb := hl), c31 hl z8 (show s + p.2.length + q.2.length + 1 + r.2.length ≤ 400 by omega), if_neg (show ¬ s + p.2.length + q.2.length + 1 + r.2.length = 400 by omega), ↓reduceIte, Option.toList_some, Option.toList_none, List.cons_append, List.nil_append, Int32.reduceAdd, Int32.reduceLT, Int32.reduceLE, Int32.reduceToNatClampNeg, w51_114, w51_115, w51_116 (hb := hl), c32 hl v1 (show s + p.2.length + q.2.length + 1 + r.2.length + 1 ≤ 400 by omega) (show s + p.2.length + q.2.length ≤ 400 by omega), if_pos (show s + p.2.length + q.2.length < s + p.2.length + q.2.length + 1 + r.2.length + 1 by omega), w51_119, nI_1, w51_122]
                    have es : s + p.2.length + q.2.length + 1 + r.2.length + 1 = s + p.2.length + q.2.length + r.2.length + 2 := by omega
                    have c10 : ∀ j, j ≠ s + p.2.length + q.2.length → j ≠ s + p.2.length + q.2.length + 1 + r.2.length → leU (laU I8 l (s + p.2.length + q.2.length + 1 + r.2.length) 7 0) l (s + p.2.length + q.2.length) (nI (s + p.2.length + q.2.length + 1 + r.2.length + 1 - 1)) (l + 1) j = I7 (l + 1) j ∧ leU (laU I8 l (s + p.2.length + q.2.length + 1 + r.2.length) 7 0) l (s + p.2.length + q.2.length) (nI (s + p.2.length + q.2.length + 1 + r.2.length + 1 - 1)) (l + 2) j = I7 (l + 2) j := by
                      intro j h1 h3
                      obtain ⟨a, b⟩ := v4 j h3
                      refine ⟨?_, ?_⟩
                      · rw [leU, mU_a (by omega), a, r8.1 (l + 1) (by omega)]
                      · rw [leU, mU_k h1, b, r8.1 (l + 2) (by omega)]
                    have c74 : ∀ j, j < s + p.2.length + q.2.length → I7 (l + 1) j = I4 (l + 1) j ∧ I7 (l + 2) j = I4 (l + 2) j := by
                      intro j hj
                      obtain ⟨a, b⟩ := p7 j (by omega)
                      obtain ⟨a2, b2⟩ := w4 j (by omega)
                      exact ⟨a.trans (a2.trans (by rw [r5.1 (l + 1) (by omega)])), b.trans (b2.trans (by rw [r5.1 (l + 2) (by omega)]))⟩
                    have c42' : ∀ j, j < s + p.2.length → I4 (l + 1) j = I2 (l + 1) j ∧ I4 (l + 2) j = I2 (l + 2) j := by
                      intro j hj
                      obtain ⟨a, b⟩ := p4 j hj
                      exact ⟨a.trans (by rw [r3.1 (l + 1) (by omega)]), b.trans (by rw [r3.1 (l + 2) (by omega)])⟩
                    have c20 : ∀ j, j < s → I2 (l + 1) j = I (l + 1) j ∧ I2 (l + 2) j = I (l + 2) j := by
                      intro j hj
                      obtain ⟨a, b⟩ := p2 j hj
                      exact ⟨a.trans (by rw [r1.1 (l + 1) (by omega)]), b.trans (by rw [r1.1 (l + 2) (by omega)])⟩
                    have u6 := p7 (s + p.2.length + q.2.length) (by omega)
                    have d6 : leU (laU I8 l (s + p.2.length + q.2.length + 1 + r.2.length) 7 0) l (s + p.2.length + q.2.length) (nI (s + p.2.length + q.2.length + 1 + r.2.length + 1 - 1)) (l + 1) (s + p.2.length + q.2.length) = 6 := by
                      rw [leU, mU_a (by omega), (v4 _ (by omega)).1, r8.1 (l + 1) (by omega), u6.1]; exact w2
                    have d6' : leU (laU I8 l (s + p.2.length + q.2.length + 1 + r.2.length) 7 0) l (s + p.2.length + q.2.length) (nI (s + p.2.length + q.2.length + 1 + r.2.length + 1 - 1)) (l + 2) (s + p.2.length + q.2.length) = nI (s + p.2.length + q.2.length + 1 + r.2.length) := by
                      rw [leU, mU_s]; congr 1
                    have d7 : leU (laU I8 l (s + p.2.length + q.2.length + 1 + r.2.length) 7 0) l (s + p.2.length + q.2.length) (nI (s + p.2.length + q.2.length + 1 + r.2.length + 1 - 1)) (l + 1) (s + p.2.length + q.2.length + 1 + r.2.length) = 7 := by
                      rw [leU, mU_a (by omega)]; exact v2
                    have d7' : leU (laU I8 l (s + p.2.length + q.2.length + 1 + r.2.length) 7 0) l (s + p.2.length + q.2.length) (nI (s + p.2.length + q.2.length + 1 + r.2.length + 1 - 1)) (l + 2) (s + p.2.length + q.2.length + 1 + r.2.length) = 0 := by
                      rw [leU, mU_k (by omega)]; exact v3'
                    have gt := gRD_le hl (gRD_la hl g8' (s + p.2.length + q.2.length + 1 + r.2.length) 7 0) (s + p.2.length + q.2.length) (nI (s + p.2.length + q.2.length + 1 + r.2.length + 1 - 1))
                    have zt : leU (laU I8 l (s + p.2.length + q.2.length + 1 + r.2.length) 7 0) l (s + p.2.length + q.2.length) (nI (s + p.2.length + q.2.length + 1 + r.2.length + 1 - 1)) l 3 = nI (s + p.2.length + q.2.length + r.2.length + 2) := by
                      rw [leU, mU_a (by omega), ← es]; exact v1
                    generalize leU (laU I8 l (s + p.2.length + q.2.length + 1 + r.2.length) 7 0) l (s + p.2.length + q.2.length) (nI (s + p.2.length + q.2.length + 1 + r.2.length + 1 - 1)) = It at *
                    refine ih (k + 1) t7 It (s + p.2.length + q.2.length + r.2.length + 2) _ Q (by omega) gt (by rw [ft.2.2 2 (by decide)]; exact h2) zt (by omega) ?_
                    cases e9 : pL W L n t7 with
                    | inl f => rw [e9] at hP; exact fun I' f' h' => hP I' (fRd_t ft f') h'
                    | inr w =>
                      rw [e9] at hP; dsimp only [bd] at hP
                      intro I' f' gq sq pq xq
                      refine hP I' (fRd_t ft f') gq ?_ (fun j hj => ?_) ?_
                      · rw [sq]
                        show nI (s + p.2.length + q.2.length + r.2.length + 2 + (mXl ms w.2.1 w.2.2 (s + p.2.length + q.2.length + r.2.length + 2)).length) = nI (s + (p.2.map (mXs ms) ++ (q.2.map (mXs ms) ++ ((6, nI (s + p.2.length + q.2.length + 1 + r.2.length)) :: (r.2.map (mXs ms) ++ ((7, 0) :: mXl ms w.2.1 w.2.2 (s + p.2.length + q.2.length + r.2.length + 2)))))).length)
                        rw [List.length_append, List.length_append, List.length_cons, List.length_append, List.length_cons, List.length_map, List.length_map, List.length_map]
                        congr 1
                        omega
                      · obtain ⟨a1, b1⟩ := pq j (by omega)
                        obtain ⟨a2, b2⟩ := c10 j (by omega) (by omega)
                        obtain ⟨a3, b3⟩ := c74 j (by omega)
                        obtain ⟨a4, b4⟩ := c42' j (by omega)
                        obtain ⟨a5, b5⟩ := c20 j hj
                        exact ⟨a1.trans (a2.trans (a3.trans (a4.trans a5))), b1.trans (b2.trans (b3.trans (b4.trans b5)))⟩
                      · show mXa (I' (l + 1)) (I' (l + 2)) (p.2.map (mXs ms) ++ (q.2.map (mXs ms) ++ ((6, nI (s + p.2.length + q.2.length + 1 + r.2.length)) :: (r.2.map (mXs ms) ++ ((7, 0) :: mXl ms w.2.1 w.2.2 (s + p.2.length + q.2.length + r.2.length + 2)))))) s
                        refine xa_a _ _ _ (xa_k _ _ x2 (fun j hj => ?_)) ?_
                        · rw [List.length_map] at hj
                          obtain ⟨a1, b1⟩ := pq j (by omega)
                          obtain ⟨a2, b2⟩ := c10 j (by omega) (by omega)
                          obtain ⟨a3, b3⟩ := c74 j (by omega)
                          obtain ⟨a4, b4⟩ := c42' j hj
                          exact ⟨a1.trans (a2.trans (a3.trans a4)), b1.trans (b2.trans (b3.trans b4))⟩
                        · rw [List.length_map]
                          refine xa_a _ _ _ (xa_k _ _ x4 (fun j hj => ?_)) ?_
                          · rw [List.length_map] at hj
                            obtain ⟨a1, b1⟩ := pq j (by omega)
                            obtain ⟨a2, b2⟩ := c10 j (by omega) (by omega)
                            obtain ⟨a3, b3⟩ := c74 j hj
                            exact ⟨a1.trans (a2.trans a3), b1.trans (b2.trans b3)⟩
                          · rw [List.length_map]
                            obtain ⟨a6, b6⟩ := pq (s + p.2.length + q.2.length) (by omega)
                            refine ⟨a6.trans d6, b6.trans d6', xa_a _ _ _ (xa_m _ _ x7 (fun j hg hj => ?_)) ?_⟩
                            · rw [List.length_map] at hj
                              obtain ⟨a1, b1⟩ := pq j (by omega)
                              obtain ⟨a2, b2⟩ := c10 j (by omega) (by omega)
                              exact ⟨a1.trans a2, b1.trans b2⟩
                            · rw [List.length_map]
                              obtain ⟨a7, b7⟩ := pq (s + p.2.length + q.2.length + 1 + r.2.length) (by omega)
                              refine ⟨a7.trans d7, b7.trans d7', ?_⟩
                              rw [es]
                              exact xq
    · rw [if_neg c] at hP
      simp only [c, ↓reduceIte]
      exact gLe hl hM h h2 hs hst hP
end GLC
