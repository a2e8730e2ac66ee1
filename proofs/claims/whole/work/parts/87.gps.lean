/-! The glass reads parts and sums: the contract. (written by a template: 53 and 52 differ in their numbers only) -/
section GPS
variable {d : Nat} {xL : Nat} {J : Nat → Nat → Int64} {rc rx rr : Nat} {L : Nat} {W : Nat → Int32} {l : Nat} {ms : Nat → Bool} {M : Int32}
theorem c54f {I : Nat → Nat → Int32} {Q : Option Value → mHp → Prop} {l' : Nat} {v : Value} (e3 : ¬ I 10 3 = 0) : WP d 54 0 [.ref 10, .ref l', v, mDum] [] (mHh xL I J (mRf rc rx rr)) Q = Q none (mHh xL I J (mRf rc rx rr)) := by
  simp only [w54_0, w54_1, w54_4, e3, ↓reduceIte, w54_7]
theorem c53f {I : Nat → Nat → Int32} {Q : Option Value → mHp → Prop} {l' : Nat} {x : Int32} (e3 : ¬ I 10 3 = 0) : WP (d + 1) 53 0 [.ref 10, .ref l', .int x, mDum, mDum] [] (mHh xL I J (mRf rc rx rr)) Q = Q none (mHh xL I J (mRf rc rx rr)) := by
  have g4 : ¬ (400 : Int32) ≤ 0 := by decide
  simp only [w53_0, w53_1, w53_2, w53_3, c54f e3, ↓reduceIte, Option.toList_some, Option.toList_none, List.cons_append, List.nil_append, Int32.reduceAdd, Int32.reduceLT, Int32.reduceLE, Int32.reduceToNatClampNeg, w53_6, w53_7, w53_8, w53_9, w53_12, g4, w53_15, w53_16, w53_19, e3, w53_71]

theorem gE2 (hl : mLa l) {n : Nat} (ihU : gOK xL rc rx rr l ms M J W L n 0) (ihL : gOK xL rc rx rr l ms M J W L n 2) : gOK xL rc rx rr l ms M J W L (n + 1) 2 := by
  intro o t D I s Q ho hD hn h hM2 hs hst hP
  have ht := h.2.1.1
  have hll := la_kx l hl
  have hDm : gDp 2 o = 3 * (6 - o) + 4 := rfl
  have hDu : gDp 0 o = 3 * (6 - o) + 3 := rfl
  have hg2 : gWt 2 = 2 := rfl
  have hg0 : gWt 0 = 1 := rfl
  obtain ⟨d, rfl⟩ : ∃ d, D = d + 3 := ⟨D - 3, by omega⟩
  show ∀ k v4, k < t → WP (d + 3) 53 8 [.ref 10, .ref l, .int (nI o), .int (nI k), v4] [] (mHh xL I J (mRf rc rx rr)) Q
  intro k v4 hk
  have hkk := tKd_lt W L (tp W L t)
  change kk W L t < 40 at hkk
  obtain ⟨-, -, -, -, -, ka1, ka2, ka3, ka4⟩ := gk_f (kk W L t) hkk
  have f0 : I 10 3 = 0 := h.2.2.2.1
  have g4 : ¬ 400 ≤ nI k := by rw [ni_le 400 (by decide) (by omega)]; omega
  have exit : ∀ I' (x : Int32) v4, ¬ I' 10 3 = 0 → WP (d + 3) 53 8 [.ref 10, .ref l, .int (nI o), .int x, v4] [] (mHh xL I' J (mRf rc rx rr)) Q = Q none (mHh xL I' J (mRf rc rx rr)) := by
    intro I' x v4 e3
    rw [w53_8]
    by_cases c : 400 ≤ x
    · simp only [w53_9, w53_12, c, ↓reduceIte, w53_71]
    · simp only [w53_9, w53_12, c, ↓reduceIte, w53_15, w53_16, w53_19, e3, w53_71]
  rw [pE, if_neg (by decide : ¬ (2 : Nat) = 0), if_neg (by decide : ¬ (2 : Nat) = 1), if_pos rfl] at hP
  rw [w53_8]
  simp only [w53_9, w53_12, g4, ↓reduceIte, w53_15, w53_16, f0, w53_19, w53_22, w53_23, c39 h, ↓reduceIte, Option.toList_some, Option.toList_none, List.cons_append, List.nil_append, Int32.reduceAdd, Int32.reduceLT, Int32.reduceLE, Int32.reduceToNatClampNeg, w53_26, w53_28, ka1]
  by_cases ko : kk W L t = 10 ∨ kk W L t = 15
  · rw [if_pos ko] at hP
    have k03 : kk W L t ≠ 0 ∧ kk W L t ≠ 3 := by omega
    have fex : ∀ f I2 t2, fRd l I I2 → gRD I2 J W L t2 f.1 f.2 → (∃ s', s' ≤ 400 ∧ I2 l 3 = nI s') → f.1 ≠ 0 → gPost xL rc rx rr l s ms I J W L Q (.inl f) → WP (d + 3) 53 58 [.ref 10, .ref l, .int (nI o), .int (nI k), .int (nI (gk (kk W L t)))] [] (mHh xL I2 J (mRf rc rx rr)) Q := by
      intro f I2 t2 f2 g2 s2 n2 hPf
      obtain ⟨s', s1, s2⟩ := s2
      have e3 : ¬ I2 10 3 = 0 := by rw [g2.2.2.2.1, in_eq 0 (by decide) (by have := g2.2.2.2.2.1; omega)]; exact n2
      simp only [w53_58, w53_59, w53_61, w53_62 (hb := hl), c31 hl s2 s1, ↓reduceIte, Option.toList_some, Option.toList_none, List.cons_append, List.nil_append, Int32.reduceAdd, Int32.reduceLT, Int32.reduceLE, Int32.reduceToNatClampNeg, w53_65, nI_1, w53_68]
      by_cases s4 : s' = 400
      · rw [if_pos s4, exit _ _ _ e3]
        exact hPf I2 t2 f2 g2 ⟨s', s1, s2⟩ n2
      · rw [if_neg s4, exit _ _ _ (by rw [laU, mU_a (by omega), mU_a (by omega), mU_a (by omega)]; exact e3)]
        exact hPf _ t2 (fRd_t f2 (laU_d hl I2 s' (nI (gk (kk W L t))) 0)) (gRD_la hl g2 s' (nI (gk (kk W L t))) 0) ⟨s' + 1, by omega, mU_s _ _ _ _⟩ n2
    have body : WP (d + 3) 53 40 [.ref 10, .ref l, .int (nI o), .int (nI k), v4] [] (mHh xL I J (mRf rc rx rr)) Q := by
      simp only [w53_40, w53_41, c39 h, ↓reduceIte, Option.toList_some, Option.toList_none, List.cons_append, List.nil_append, Int32.reduceAdd, Int32.reduceLT, Int32.reduceLE, Int32.reduceToNatClampNeg, w53_44, w53_46, w53_47, w53_49]
      refine c44n (d := d) h (κ := kk W L t) rfl k03 rfl ?_
      intro I1 r1 q1 q2
      have z3 : I1 l 3 = nI s := by rw [r1.1 l (by omega)]; exact hs
      simp only [↓reduceIte, Option.toList_some, Option.toList_none, List.cons_append, List.nil_append, Int32.reduceAdd, Int32.reduceLT, Int32.reduceLE, Int32.reduceToNatClampNeg, w53_52, w53_53, w53_54, w53_55]
      cases e : nx t with
      | inl f =>
        rw [e] at hP; dsimp only at hP
        have gf := q1 f e
        have nf : f.1 ≠ 0 := by rw [(nx_l e).2]; exact (by decide : (2 : Nat) ≠ 0)
        have e3 : ¬ I1 10 3 = 0 := by rw [gf.2.2.2.1, in_eq 0 (by decide) (by have := gf.2.2.2.2.1; omega)]; exact nf
        rw [c54f e3]
        simp only [↓reduceIte, Option.toList_some, Option.toList_none, List.cons_append, List.nil_append, Int32.reduceAdd, Int32.reduceLT, Int32.reduceLE, Int32.reduceToNatClampNeg]
        exact fex f I1 t (fR1_d hl r1) gf ⟨s, by omega, z3⟩ nf hP
      | inr t1 =>
        rw [e] at hP; dsimp only at hP
        have gf := q2 t1 e
        have et := (nx_r h.2.1 k03 e).1
        refine ihU o t1 (d + 2) I1 s (fun v h9 => WP (d + 3) 53 58 [.ref 10, .ref l, .int (nI o), .int (nI k), .int (nI (gk (kk W L t)))] (v.toList ++ []) h9 Q) ho (by omega) (by omega) gf (by rw [r1.1 l (by omega)]; exact hM2) z3 (by omega) ?_
        cases e4 : pE W L n 0 o t1 with
        | inl f =>
          rw [e4] at hP; dsimp only at hP
          intro I2 t2 f2 g2 s2 n2
          exact fex f I2 t2 (fRd_t (fR1_d hl r1) f2) g2 s2 n2 hP
        | inr r =>
          obtain ⟨t2, c1⟩ := r
          rw [e4] at hP; dsimp only at hP
          have ok := pE_ok W L n 0 o t1 t2 c1 gf.2.1 ho (by omega) e4
          intro I2 f2 g2 s2 p2 x2
          change gRD I2 J W L t2 0 0 at g2
          change I2 l 3 = nI (s + c1.length) at s2
          change mXa (I2 (l + 1)) (I2 (l + 2)) (c1.map (mXs ms)) s at x2
          have t2b := g2.2.1.1
          have s4 : ¬ s + c1.length = 400 := by omega
          obtain ⟨u1, u2, u3, u4⟩ := laU_r (l := l) I2 (s + c1.length) (nI (gk (kk W L t))) 0
          have fr := fRd_t (fRd_t (fR1_d hl r1) f2) (laU_d hl I2 (s + c1.length) (nI (gk (kk W L t))) 0)
          have el : (c1 ++ [((if kk W L t = 10 then 4 else 5), (0 : Int32))]).length = c1.length + 1 := by rw [List.length_append]; rfl
          have es : s + (c1 ++ [((if kk W L t = 10 then 4 else 5), (0 : Int32))]).length = s + c1.length + 1 := by rw [el]; omega
          have pp : ∀ q, q < s → laU I2 l (s + c1.length) (nI (gk (kk W L t))) 0 (l + 1) q = I (l + 1) q ∧ laU I2 l (s + c1.length) (nI (gk (kk W L t))) 0 (l + 2) q = I (l + 2) q := by
            intro q hq
            obtain ⟨a, b⟩ := p2 q hq
            obtain ⟨a2, b2⟩ := u4 q (by omega)
            exact ⟨a2.trans (a.trans (by rw [r1.1 (l + 1) (by omega)])), b2.trans (b.trans (by rw [r1.1 (l + 2) (by omega)]))⟩
          have xx : mXa (laU I2 l (s + c1.length) (nI (gk (kk W L t))) 0 (l + 1)) (laU I2 l (s + c1.length) (nI (gk (kk W L t))) 0 (l + 2)) ((c1 ++ [((if kk W L t = 10 then 4 else 5), (0 : Int32))]).map (mXs ms)) s := by
            rw [List.map_append]
            refine xa_a _ _ _ (xa_k _ _ x2 (fun j hj => ?_)) ?_
            · rw [List.length_map] at hj
              exact u4 j (by omega)
            · rw [List.length_map]
              have em : mXs ms ((if kk W L t = 10 then 4 else 5), (0 : Int32)) = (nI (gk (kk W L t)), 0) := by
                rcases ko with ko | ko <;> rw [ko] <;> rfl
              refine ⟨?_, ?_, trivial⟩
              · rw [em]; exact u2
              · rw [em]; exact u3
          have q := ihL o t2 (d + 3) (laU I2 l (s + c1.length) (nI (gk (kk W L t))) 0) (s + c1.length + 1) Q ho hD (by omega) (gRD_la hl g2 _ _ _) (by rw [fr.2.2 2 (by decide)]; exact hM2) u1 (by omega) ?_
          · simp only [↓reduceIte, Option.toList_some, Option.toList_none, List.cons_append, List.nil_append, Int32.reduceAdd, Int32.reduceLT, Int32.reduceLE, Int32.reduceToNatClampNeg, w53_58, w53_59, w53_61, w53_62 (hb := hl), c31 hl s2 (show s + c1.length ≤ 400 by omega), if_neg s4, w53_65, nI_1, w53_68]
            exact q (k + 1) _ (by omega)
          · have := gPost_c (r2 := pE W L n 2 o t2) fr pp xx hP (fun f z => by rw [z]) (fun t3 c3 z => by rw [z]; simp)
            rw [es] at this
            exact this
    by_cases kA : kk W L t = 10
    · simp only [kA, ↓reduceIte]
      exact body
    · have kB : kk W L t = 15 := by omega
      simp only [kA, ↓reduceIte, w53_31, w53_32, c39 h, ↓reduceIte, Option.toList_some, Option.toList_none, List.cons_append, List.nil_append, Int32.reduceAdd, Int32.reduceLT, Int32.reduceLE, Int32.reduceToNatClampNeg, w53_35, w53_37, ka2]
      rw [if_pos kB]
      exact body
  · rw [if_neg ko] at hP
    have kA : ¬ kk W L t = 10 := by omega
    have kB : ¬ kk W L t = 15 := by omega
    simp only [kA, ↓reduceIte, w53_31, w53_32, c39 h, ↓reduceIte, Option.toList_some, Option.toList_none, List.cons_append, List.nil_append, Int32.reduceAdd, Int32.reduceLT, Int32.reduceLE, Int32.reduceToNatClampNeg, w53_35, w53_37, ka2, kB, w53_71]
    exact hP I fRd_0 h hs (fun q _ => ⟨rfl, rfl⟩) trivial
theorem gE1 (hl : mLa l) {n : Nat} (ihU : gOK xL rc rx rr l ms M J W L n 0) (ihL : gOK xL rc rx rr l ms M J W L n 2) : gOK xL rc rx rr l ms M J W L (n + 1) 1 := by
  intro o t D I s Q ho hD hn h hM2 hs hst hP
  have ht := h.2.1.1
  have hDm : gDp 1 o = 3 * (6 - o) + 4 := rfl
  have hDl : gDp 2 o = 3 * (6 - o) + 4 := rfl
  have hDu : gDp 0 o = 3 * (6 - o) + 3 := rfl
  have hg1 : gWt 1 = 2 := rfl
  have hg2 : gWt 2 = 2 := rfl
  have hg0 : gWt 0 = 1 := rfl
  obtain ⟨d, rfl⟩ : ∃ d, D = d + 1 := ⟨D - 1, by omega⟩
  show WP (d + 1) 53 0 [.ref 10, .ref l, .int (nI o), mDum, mDum] [] (mHh xL I J (mRf rc rx rr)) Q
  rw [pE, if_neg (by decide : ¬ (1 : Nat) = 0), if_pos rfl] at hP
  simp only [w53_0, w53_1, w53_2, w53_3]
  refine ihU o t d I s (fun v h9 => WP (d + 1) 53 6 [.ref 10, .ref l, .int (nI o), mDum, mDum] (v.toList ++ []) h9 Q) ho (by omega) (by omega) h hM2 hs hst ?_
  cases e4 : pE W L n 0 o t with
  | inl f =>
    rw [e4] at hP; dsimp only at hP
    intro I2 t2 f2 g2 s2 n2
    have e3 : ¬ I2 10 3 = 0 := by rw [g2.2.2.2.1, in_eq 0 (by decide) (by have := g2.2.2.2.2.1; omega)]; exact n2
    have g4 : ¬ (400 : Int32) ≤ 0 := by decide
    simp only [↓reduceIte, Option.toList_some, Option.toList_none, List.cons_append, List.nil_append, Int32.reduceAdd, Int32.reduceLT, Int32.reduceLE, Int32.reduceToNatClampNeg, w53_6, w53_7, w53_8, w53_9, w53_12, g4, w53_15, w53_16, w53_19, e3, w53_71]
    exact hP I2 t2 f2 g2 s2 n2
  | inr r =>
    obtain ⟨t1, c1⟩ := r
    rw [e4] at hP; dsimp only at hP
    have ok := pE_ok W L n 0 o t t1 c1 h.2.1 ho (by omega) e4
    have tlt := ok.2.2.1 (by omega)
    intro I2 f2 g2 s2 p2 x2
    change gRD I2 J W L t1 0 0 at g2
    change I2 l 3 = nI (s + c1.length) at s2
    change mXa (I2 (l + 1)) (I2 (l + 2)) (c1.map (mXs ms)) s at x2
    have q := ihL o t1 (d + 1) I2 (s + c1.length) Q ho (by omega) (by omega) g2 (by rw [f2.2.2 2 (by decide)]; exact hM2) s2 (by omega) (gPost_c (r2 := pE W L n 2 o t1) f2 p2 x2 hP (fun f z => by rw [z]) (fun t3 c3 z => by rw [z]))
    simp only [↓reduceIte, Option.toList_some, Option.toList_none, List.cons_append, List.nil_append, Int32.reduceAdd, Int32.reduceLT, Int32.reduceLE, Int32.reduceToNatClampNeg, w53_6, w53_7]
    exact q 0 _ (by omega)

theorem gE4 (hl : mLa l) {n : Nat} (ihU : gOK xL rc rx rr l ms M J W L n 1) (ihL : gOK xL rc rx rr l ms M J W L n 4) : gOK xL rc rx rr l ms M J W L (n + 1) 4 := by
  intro o t D I s Q ho hD hn h hM2 hs hst hP
  have ht := h.2.1.1
  have hll := la_kx l hl
  have hDm : gDp 4 o = 3 * (6 - o) + 5 := rfl
  have hDu : gDp 1 o = 3 * (6 - o) + 4 := rfl
  have hg2 : gWt 4 = 3 := rfl
  have hg0 : gWt 1 = 2 := rfl
  obtain ⟨d, rfl⟩ : ∃ d, D = d + 3 := ⟨D - 3, by omega⟩
  show ∀ k v4, k < t → WP (d + 3) 52 8 [.ref 10, .ref l, .int (nI o), .int (nI k), v4] [] (mHh xL I J (mRf rc rx rr)) Q
  intro k v4 hk
  have hkk := tKd_lt W L (tp W L t)
  change kk W L t < 40 at hkk
  obtain ⟨-, -, -, -, -, ka1, ka2, ka3, ka4⟩ := gk_f (kk W L t) hkk
  have f0 : I 10 3 = 0 := h.2.2.2.1
  have g4 : ¬ 400 ≤ nI k := by rw [ni_le 400 (by decide) (by omega)]; omega
  have exit : ∀ I' (x : Int32) v4, ¬ I' 10 3 = 0 → WP (d + 3) 52 8 [.ref 10, .ref l, .int (nI o), .int x, v4] [] (mHh xL I' J (mRf rc rx rr)) Q = Q none (mHh xL I' J (mRf rc rx rr)) := by
    intro I' x v4 e3
    rw [w52_8]
    by_cases c : 400 ≤ x
    · simp only [w52_9, w52_12, c, ↓reduceIte, w52_71]
    · simp only [w52_9, w52_12, c, ↓reduceIte, w52_15, w52_16, w52_19, e3, w52_71]
  rw [pE, if_neg (by decide : ¬ (4 : Nat) = 0), if_neg (by decide : ¬ (4 : Nat) = 1), if_neg (by decide : ¬ (4 : Nat) = 2), if_neg (by decide : ¬ (4 : Nat) = 3)] at hP
  rw [w52_8]
  simp only [w52_9, w52_12, g4, ↓reduceIte, w52_15, w52_16, f0, w52_19, w52_22, w52_23, c39 h, ↓reduceIte, Option.toList_some, Option.toList_none, List.cons_append, List.nil_append, Int32.reduceAdd, Int32.reduceLT, Int32.reduceLE, Int32.reduceToNatClampNeg, w52_26, w52_28, ka3]
  by_cases ko : kk W L t = 8 ∨ kk W L t = 9
  · rw [if_pos ko] at hP
    have k03 : kk W L t ≠ 0 ∧ kk W L t ≠ 3 := by omega
    have fex : ∀ f I2 t2, fRd l I I2 → gRD I2 J W L t2 f.1 f.2 → (∃ s', s' ≤ 400 ∧ I2 l 3 = nI s') → f.1 ≠ 0 → gPost xL rc rx rr l s ms I J W L Q (.inl f) → WP (d + 3) 52 58 [.ref 10, .ref l, .int (nI o), .int (nI k), .int (nI (gk (kk W L t)))] [] (mHh xL I2 J (mRf rc rx rr)) Q := by
      intro f I2 t2 f2 g2 s2 n2 hPf
      obtain ⟨s', s1, s2⟩ := s2
      have e3 : ¬ I2 10 3 = 0 := by rw [g2.2.2.2.1, in_eq 0 (by decide) (by have := g2.2.2.2.2.1; omega)]; exact n2
      simp only [w52_58, w52_59, w52_61, w52_62 (hb := hl), c31 hl s2 s1, ↓reduceIte, Option.toList_some, Option.toList_none, List.cons_append, List.nil_append, Int32.reduceAdd, Int32.reduceLT, Int32.reduceLE, Int32.reduceToNatClampNeg, w52_65, nI_1, w52_68]
      by_cases s4 : s' = 400
      · rw [if_pos s4, exit _ _ _ e3]
        exact hPf I2 t2 f2 g2 ⟨s', s1, s2⟩ n2
      · rw [if_neg s4, exit _ _ _ (by rw [laU, mU_a (by omega), mU_a (by omega), mU_a (by omega)]; exact e3)]
        exact hPf _ t2 (fRd_t f2 (laU_d hl I2 s' (nI (gk (kk W L t))) 0)) (gRD_la hl g2 s' (nI (gk (kk W L t))) 0) ⟨s' + 1, by omega, mU_s _ _ _ _⟩ n2
    have body : WP (d + 3) 52 40 [.ref 10, .ref l, .int (nI o), .int (nI k), v4] [] (mHh xL I J (mRf rc rx rr)) Q := by
      simp only [w52_40, w52_41, c39 h, ↓reduceIte, Option.toList_some, Option.toList_none, List.cons_append, List.nil_append, Int32.reduceAdd, Int32.reduceLT, Int32.reduceLE, Int32.reduceToNatClampNeg, w52_44, w52_46, w52_47, w52_49]
      refine c44n (d := d) h (κ := kk W L t) rfl k03 rfl ?_
      intro I1 r1 q1 q2
      have z3 : I1 l 3 = nI s := by rw [r1.1 l (by omega)]; exact hs
      simp only [↓reduceIte, Option.toList_some, Option.toList_none, List.cons_append, List.nil_append, Int32.reduceAdd, Int32.reduceLT, Int32.reduceLE, Int32.reduceToNatClampNeg, w52_52, w52_53, w52_54, w52_55]
      cases e : nx t with
      | inl f =>
        rw [e] at hP; dsimp only at hP
        have gf := q1 f e
        have nf : f.1 ≠ 0 := by rw [(nx_l e).2]; exact (by decide : (2 : Nat) ≠ 0)
        have e3 : ¬ I1 10 3 = 0 := by rw [gf.2.2.2.1, in_eq 0 (by decide) (by have := gf.2.2.2.2.1; omega)]; exact nf
        rw [c53f e3]
        simp only [↓reduceIte, Option.toList_some, Option.toList_none, List.cons_append, List.nil_append, Int32.reduceAdd, Int32.reduceLT, Int32.reduceLE, Int32.reduceToNatClampNeg]
        exact fex f I1 t (fR1_d hl r1) gf ⟨s, by omega, z3⟩ nf hP
      | inr t1 =>
        rw [e] at hP; dsimp only at hP
        have gf := q2 t1 e
        have et := (nx_r h.2.1 k03 e).1
        refine ihU o t1 (d + 2) I1 s (fun v h9 => WP (d + 3) 52 58 [.ref 10, .ref l, .int (nI o), .int (nI k), .int (nI (gk (kk W L t)))] (v.toList ++ []) h9 Q) ho (by omega) (by omega) gf (by rw [r1.1 l (by omega)]; exact hM2) z3 (by omega) ?_
        cases e4 : pE W L n 1 o t1 with
        | inl f =>
          rw [e4] at hP; dsimp only at hP
          intro I2 t2 f2 g2 s2 n2
          exact fex f I2 t2 (fRd_t (fR1_d hl r1) f2) g2 s2 n2 hP
        | inr r =>
          obtain ⟨t2, c1⟩ := r
          rw [e4] at hP; dsimp only at hP
          have ok := pE_ok W L n 1 o t1 t2 c1 gf.2.1 ho (by omega) e4
          intro I2 f2 g2 s2 p2 x2
          change gRD I2 J W L t2 0 0 at g2
          change I2 l 3 = nI (s + c1.length) at s2
          change mXa (I2 (l + 1)) (I2 (l + 2)) (c1.map (mXs ms)) s at x2
          have t2b := g2.2.1.1
          have s4 : ¬ s + c1.length = 400 := by omega
          obtain ⟨u1, u2, u3, u4⟩ := laU_r (l := l) I2 (s + c1.length) (nI (gk (kk W L t))) 0
          have fr := fRd_t (fRd_t (fR1_d hl r1) f2) (laU_d hl I2 (s + c1.length) (nI (gk (kk W L t))) 0)
          have el : (c1 ++ [((if kk W L t = 8 then 2 else 3), (0 : Int32))]).length = c1.length + 1 := by rw [List.length_append]; rfl
          have es : s + (c1 ++ [((if kk W L t = 8 then 2 else 3), (0 : Int32))]).length = s + c1.length + 1 := by rw [el]; omega
          have pp : ∀ q, q < s → laU I2 l (s + c1.length) (nI (gk (kk W L t))) 0 (l + 1) q = I (l + 1) q ∧ laU I2 l (s + c1.length) (nI (gk (kk W L t))) 0 (l + 2) q = I (l + 2) q := by
            intro q hq
            obtain ⟨a, b⟩ := p2 q hq
            obtain ⟨a2, b2⟩ := u4 q (by omega)
            exact ⟨a2.trans (a.trans (by rw [r1.1 (l + 1) (by omega)])), b2.trans (b.trans (by rw [r1.1 (l + 2) (by omega)]))⟩
          have xx : mXa (laU I2 l (s + c1.length) (nI (gk (kk W L t))) 0 (l + 1)) (laU I2 l (s + c1.length) (nI (gk (kk W L t))) 0 (l + 2)) ((c1 ++ [((if kk W L t = 8 then 2 else 3), (0 : Int32))]).map (mXs ms)) s := by
            rw [List.map_append]
            refine xa_a _ _ _ (xa_k _ _ x2 (fun j hj => ?_)) ?_
            · rw [List.length_map] at hj
              exact u4 j (by omega)
            · rw [List.length_map]
              have em : mXs ms ((if kk W L t = 8 then 2 else 3), (0 : Int32)) = (nI (gk (kk W L t)), 0) := by
                rcases ko with ko | ko <;> rw [ko] <;> rfl
              refine ⟨?_, ?_, trivial⟩
              · rw [em]; exact u2
              · rw [em]; exact u3
          have q := ihL o t2 (d + 3) (laU I2 l (s + c1.length) (nI (gk (kk W L t))) 0) (s + c1.length + 1) Q ho hD (by omega) (gRD_la hl g2 _ _ _) (by rw [fr.2.2 2 (by decide)]; exact hM2) u1 (by omega) ?_
          · simp only [↓reduceIte, Option.toList_some, Option.toList_none, List.cons_append, List.nil_append, Int32.reduceAdd, Int32.reduceLT, Int32.reduceLE, Int32.reduceToNatClampNeg, w52_58, w52_59, w52_61, w52_62 (hb := hl), c31 hl s2 (show s + c1.length ≤ 400 by omega), if_neg s4, w52_65, nI_1, w52_68]
            exact q (k + 1) _ (by omega)
          · have := gPost_c (r2 := pE W L n 4 o t2) fr pp xx hP (fun f z => by rw [z]) (fun t3 c3 z => by rw [z]; simp)
            rw [es] at this
            exact this
    by_cases kA : kk W L t = 8
    · simp only [kA, ↓reduceIte]
      exact body
    · have kB : kk W L t = 9 := by omega
      simp only [kA, ↓reduceIte, w52_31, w52_32, c39 h, ↓reduceIte, Option.toList_some, Option.toList_none, List.cons_append, List.nil_append, Int32.reduceAdd, Int32.reduceLT, Int32.reduceLE, Int32.reduceToNatClampNeg, w52_35, w52_37, ka4]
      rw [if_pos kB]
      exact body
  · rw [if_neg ko] at hP
    have kA : ¬ kk W L t = 8 := by omega
    have kB : ¬ kk W L t = 9 := by omega
    simp only [kA, ↓reduceIte, w52_31, w52_32, c39 h, ↓reduceIte, Option.toList_some, Option.toList_none, List.cons_append, List.nil_append, Int32.reduceAdd, Int32.reduceLT, Int32.reduceLE, Int32.reduceToNatClampNeg, w52_35, w52_37, ka4, kB, w52_71]
    exact hP I fRd_0 h hs (fun q _ => ⟨rfl, rfl⟩) trivial
theorem gE3 (hl : mLa l) {n : Nat} (ihU : gOK xL rc rx rr l ms M J W L n 1) (ihL : gOK xL rc rx rr l ms M J W L n 4) : gOK xL rc rx rr l ms M J W L (n + 1) 3 := by
  intro o t D I s Q ho hD hn h hM2 hs hst hP
  have ht := h.2.1.1
  have hDm : gDp 3 o = 3 * (6 - o) + 5 := rfl
  have hDl : gDp 4 o = 3 * (6 - o) + 5 := rfl
  have hDu : gDp 1 o = 3 * (6 - o) + 4 := rfl
  have hg1 : gWt 3 = 3 := rfl
  have hg2 : gWt 4 = 3 := rfl
  have hg0 : gWt 1 = 2 := rfl
  obtain ⟨d, rfl⟩ : ∃ d, D = d + 1 := ⟨D - 1, by omega⟩
  show WP (d + 1) 52 0 [.ref 10, .ref l, .int (nI o), mDum, mDum] [] (mHh xL I J (mRf rc rx rr)) Q
  rw [pE, if_neg (by decide : ¬ (3 : Nat) = 0), if_neg (by decide : ¬ (3 : Nat) = 1), if_neg (by decide : ¬ (3 : Nat) = 2), if_pos rfl] at hP
  simp only [w52_0, w52_1, w52_2, w52_3]
  refine ihU o t d I s (fun v h9 => WP (d + 1) 52 6 [.ref 10, .ref l, .int (nI o), mDum, mDum] (v.toList ++ []) h9 Q) ho (by omega) (by omega) h hM2 hs hst ?_
  cases e4 : pE W L n 1 o t with
  | inl f =>
    rw [e4] at hP; dsimp only at hP
    intro I2 t2 f2 g2 s2 n2
    have e3 : ¬ I2 10 3 = 0 := by rw [g2.2.2.2.1, in_eq 0 (by decide) (by have := g2.2.2.2.2.1; omega)]; exact n2
    have g4 : ¬ (400 : Int32) ≤ 0 := by decide
    simp only [↓reduceIte, Option.toList_some, Option.toList_none, List.cons_append, List.nil_append, Int32.reduceAdd, Int32.reduceLT, Int32.reduceLE, Int32.reduceToNatClampNeg, w52_6, w52_7, w52_8, w52_9, w52_12, g4, w52_15, w52_16, w52_19, e3, w52_71]
    exact hP I2 t2 f2 g2 s2 n2
  | inr r =>
    obtain ⟨t1, c1⟩ := r
    rw [e4] at hP; dsimp only at hP
    have ok := pE_ok W L n 1 o t t1 c1 h.2.1 ho (by omega) e4
    have tlt := ok.2.2.1 (by omega)
    intro I2 f2 g2 s2 p2 x2
    change gRD I2 J W L t1 0 0 at g2
    change I2 l 3 = nI (s + c1.length) at s2
    change mXa (I2 (l + 1)) (I2 (l + 2)) (c1.map (mXs ms)) s at x2
    have q := ihL o t1 (d + 1) I2 (s + c1.length) Q ho (by omega) (by omega) g2 (by rw [f2.2.2 2 (by decide)]; exact hM2) s2 (by omega) (gPost_c (r2 := pE W L n 4 o t1) f2 p2 x2 hP (fun f z => by rw [z]) (fun t3 c3 z => by rw [z]))
    simp only [↓reduceIte, Option.toList_some, Option.toList_none, List.cons_append, List.nil_append, Int32.reduceAdd, Int32.reduceLT, Int32.reduceLE, Int32.reduceToNatClampNeg, w52_6, w52_7]
    exact q 0 _ (by omega)

theorem gE_all (hl : mLa l) (hM : ∀ v, v < 9 → ((M >>> (nI v &&& 31)) &&& 1 = 1 ↔ ms v = true)) : ∀ n m, m ≤ 4 → gOK xL rc rx rr l ms M J W L n m := by
  intro n
  induction n with
  | zero =>
    intro m hm o t D I s Q _ _ hn h
    have := h.2.1.1
    omega
  | succ n ih =>
    intro m hm
    match m, hm with
    | 0, _ => exact gE0 hl hM (ih 3 (by omega))
    | 1, _ => exact gE1 hl (ih 0 (by omega)) (ih 2 (by omega))
    | 2, _ => exact gE2 hl (ih 0 (by omega)) (ih 2 (by omega))
    | 3, _ => exact gE3 hl (ih 1 (by omega)) (ih 4 (by omega))
    | 4, _ => exact gE4 hl (ih 1 (by omega)) (ih 4 (by omega))
end GPS
