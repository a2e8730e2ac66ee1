/-! The model reads a law: its ifs. -/
section MLW4
variable {d B : Nat} {xL : Nat} {J : Nat → Nat → Int64} {rc rx rr : Nat} {L : Nat} {W : Nat → Int32} {s k b0 bh : Nat}
theorem yLw (hB : B ≤ 430) (hs : s < 2) (hk : k < 4) (hbh : bh ≤ 260) : ∀ n c (b : Nat) (r : yL) (I : Nat → Nat → Int32) (Q : Option Value → mHp → Prop), n + c = 4 → I 180 19 = nI s → yLs I J W L B b r → b + n + 1 ≤ bh → yLr xL rc rx rr B b bh (4 * s + k) b0 I J W L Q b (pL W L n) r → WP (d + 6) 161 12 [.ref 180, .int (nI k), .int (nI b0), .int (nI c)] [] (mHh xL I J (mRf rc rx rr)) Q := by
  intro n
  induction n with
  | zero =>
    intro c b r I Q hn h19 h hb hP
    have z := (yLs_13 h).1
    rw [w161_12]
    cases r with
    | inl f =>
      have zn : ¬ I 180 13 = 0 := fun e => by obtain ⟨p, e⟩ := z.1 e; cases e
      simp only [w161_13, w161_16, zn, ↓reduceIte]
      exact yLast hB hs hk h19 h (by omega) hbh hP
    | inr p =>
      have zy : I 180 13 = 0 := z.2 ⟨_, rfl⟩
      have g := h.2.1
      have c28 := fun Q' => c148 (d := d + 5) (xL := xL) (rc := rc) (rx := rx) (rr := rr) (Q := Q') (κ := 28) g (by decide) (show (28 : Int32) = nI 28 from rfl)
      by_cases k28 : kk W L p.1 = 28
      · simp only [k28, decide_true, sB_t] at c28
        have c4 : c = 4 := by omega
        subst c4
        have e4 : nI 4 = 4 := rfl
        change yLq xL rc rx rr B b bh (4 * s + k) b0 I J W L Q b p.2 (if kk W L p.1 = 28 then .inl (2, p.1) else pLe W L p.1) at hP
        rw [if_pos k28] at hP
        have m1 := mRD_fl g (g := 2) (by decide) (by decide)
        have ff := mFlt_f I 2 (nI (tp W L p.1))
        have e13 : ¬ mFlt I 2 (nI (tp W L p.1)) 180 13 ≤ 0 := by
          have e := m1.2.2.2.2.1
          change mFlt I 2 (nI (tp W L p.1)) 180 13 = nI 2 at e
          rw [e]; decide
        simp only [w161_13, w161_16, zy, ↓reduceIte, w161_19, w161_20, w161_22, c28, ↓reduceIte, Option.toList_some, Option.toList_none, List.cons_append, List.nil_append, Int32.reduceAdd, Int32.reduceLT, Int32.reduceLE, Int32.reduceToNatClampNeg, w161_25, o01, w161_28, w161_29, e4, w161_30, w161_33, w161_34, w161_35, c151 (d := d + 5) g, w161_38, w161_39, w161_42, e13, w161_45]
        exact hP _ (fMe_w (fM1_e ff)) ⟨p.1, m1⟩ (by decide : (2 : Nat) ≠ 0)
      · simp only [k28, decide_false, sB_f] at c28
        simp only [w161_13, w161_16, zy, ↓reduceIte, w161_19, w161_20, w161_22, c28, ↓reduceIte, Option.toList_some, Option.toList_none, List.cons_append, List.nil_append, Int32.reduceAdd, Int32.reduceLT, Int32.reduceLE, Int32.reduceToNatClampNeg, w161_25]
        change yLq xL rc rx rr B b bh (4 * s + k) b0 I J W L Q b p.2 (if kk W L p.1 = 28 then .inl (2, p.1) else pLe W L p.1) at hP
        rw [if_neg k28] at hP
        exact yLast hB hs hk h19 h (by omega) hbh hP
  | succ n ih =>
    intro c b r I Q hn h19 h hb hP
    have z := (yLs_13 h).1
    rw [w161_12]
    cases r with
    | inl f =>
      have zn : ¬ I 180 13 = 0 := fun e => by obtain ⟨p, e⟩ := z.1 e; cases e
      simp only [w161_13, w161_16, zn, ↓reduceIte]
      exact yLast hB hs hk h19 h (by omega) hbh hP
    | inr p =>
      obtain ⟨t, cd⟩ := p
      have zy : I 180 13 = 0 := z.2 ⟨_, rfl⟩
      have g := h.2.1
      change mRD I J W L t 0 0 at g
      have c28 := fun Q' => c148 (d := d + 5) (xL := xL) (rc := rc) (rx := rx) (rr := rr) (Q := Q') (κ := 28) g (by decide) (show (28 : Int32) = nI 28 from rfl)
      by_cases k28 : kk W L t = 28
      · simp only [k28, decide_true, sB_t] at c28
        have g4 : ¬ nI c = 4 := by rw [in_eq 4 (by decide) (by omega)]; omega
        have z13 : I 180 13 ≤ 0 := by rw [zy]; decide
        change yLq xL rc rx rr B b bh (4 * s + k) b0 I J W L Q b cd (if kk W L t = 28 then bd (pIf W L t) fun p => bd (pL W L n p.1) fun r => .inr (r.1, p.2 :: r.2.1, r.2.2) else pLe W L t) at hP
        rw [if_pos k28] at hP
        have a1 : mIn (nI b) 260 = true := mIn_nI (by omega) (by omega)
        have a2 : (nI b).toNatClampNeg = b := nI_clamp (by omega)
        simp only [w161_13, w161_16, zy, ↓reduceIte, w161_19, w161_20, w161_22, c28, ↓reduceIte, Option.toList_some, Option.toList_none, List.cons_append, List.nil_append, Int32.reduceAdd, Int32.reduceLT, Int32.reduceLE, Int32.reduceToNatClampNeg, w161_25, o01, w161_28, w161_29, w161_30, g4, w161_38, w161_39, w161_42, z13, w161_46, nI_1, w161_49, w161_50]
        refine c152u (d := d + 4) (p := (t, cd)) h (by show kk W L t ≠ 0 ∧ kk W L t ≠ 3; omega) (fun I1 f1 h1 => ?_)
        obtain ⟨sx, hsx, e41⟩ := yLs_s h1
        have e35 := yLs_b h1
        have y35 : mU I1 202 b 1 180 35 = nI b := by rw [mU_a (by decide)]; exact e35
        have y41 : mU I1 202 b 1 180 41 = nI sx := by rw [mU_a (by decide)]; exact e41
        simp only [↓reduceIte, Option.toList_some, Option.toList_none, List.cons_append, List.nil_append, Int32.reduceAdd, Int32.reduceLT, Int32.reduceLE, Int32.reduceToNatClampNeg, w161_53, w161_54, w161_57, w161_58, e35, w161_61, w161_62 (hi := a1), a2, nb_b.1, w161_63, w161_64, w161_67, w161_68, y35, w161_71, w161_72, y41, w161_75 (hi := a1), w161_76, w161_77]
        have fa := fBr_u (b := b) (a := 202) (by decide) I1 1
        have fb := fBr_u (b := b) (a := 203) (by decide) (mU I1 202 b 1) (nI sx)
        have h3 := yLs_k (yLs_k h1 fa) fb
        have i202 : mU (mU I1 202 b 1) 203 b (nI sx) 202 b = 1 := by rw [mU_a (by decide), mU_s]
        have i203 : mU (mU I1 202 b 1) 203 b (nI sx) 203 b = nI sx := mU_s _ _ _ _
        have fab : fLw (B + 405) b bh (4 * s + k) I1 (mU (mU I1 202 b 1) 203 b (nI sx)) := fLw_t (fBr_w ⟨Nat.le_refl _, by omega⟩ fa) (fBr_w ⟨Nat.le_refl _, by omega⟩ fb)
        generalize mU (mU I1 202 b 1) 203 b (nI sx) = I3 at *
        refine c162u (d := d + 1) hB h3 (fun I4 f4 h4 x4 => ?_)
        simp only [↓reduceIte, Option.toList_some, Option.toList_none, List.cons_append, List.nil_append, Int32.reduceAdd, Int32.reduceLT, Int32.reduceLE, Int32.reduceToNatClampNeg, w161_80, w161_81, w161_83]
        refine c154u (d := d + 3) (y := 13) h4 (κ := 13) (by decide) (by decide) rfl (fun I5 f5 h5 => ?_)
        obtain ⟨sy, hsy, e541⟩ := yLs_s h5
        have e535 := yLs_b h5
        simp only [↓reduceIte, Option.toList_some, Option.toList_none, List.cons_append, List.nil_append, Int32.reduceAdd, Int32.reduceLT, Int32.reduceLE, Int32.reduceToNatClampNeg, w161_86, w161_87, w161_90, w161_91, e535, w161_94, w161_95, e541, w161_98 (hi := a1), a2, w161_99, w161_100]
        have fc := fBr_u (b := b) (a := 204) (by decide) I5 (nI sy)
        have h6 := yLs_k h5 fc
        have i204 : mU I5 204 b (nI sy) 204 b = nI sy := mU_s _ _ _ _
        have k6 : ∀ a, a ≠ 204 → mU I5 204 b (nI sy) a = I5 a := fun a ha => mU_f ha
        have z6 := (yLs_13 h6).1
        generalize mU I5 204 b (nI sy) = I6 at *
        have at110 : ∀ I7, fMe (B + 405) I6 I7 → yLs I7 J W L B b (bd (bd (bd (nxs (t, cd)) (sEx W L)) (sTa W L 13)) (sEx W L)) → (∀ p q, bd (bd (nxs (t, cd)) (sEx W L)) (sTa W L 13) = .inr p → pE W L 2000 3 0 p.1 = .inr q → mXa (I7 207) (I7 208) (q.2.map mMp) p.2) → WP (d + 6) 161 110 [.ref 180, .int (nI k), .int (nI b0), .int (nI (c + 1))] [] (mHh xL I7 J (mRf rc rx rr)) Q := by
          intro I7 f7 h7 x7
          simp only [w161_110, w161_111, w161_113]
          refine c154u (d := d + 3) (y := 29) h7 (κ := 29) (by decide) (by decide) rfl (fun I8 f8 h8 => ?_)
          simp only [↓reduceIte, Option.toList_some, Option.toList_none, List.cons_append, List.nil_append, Int32.reduceAdd, Int32.reduceLT, Int32.reduceLE, Int32.reduceToNatClampNeg, w161_116, w161_117]
          refine c166u (d := d) hB (show b < 260 by omega) h8 (fun I9 f9 h9 p9 q9 x9 => ?_)
          simp only [↓reduceIte, Option.toList_some, Option.toList_none, List.cons_append, List.nil_append, Int32.reduceAdd, Int32.reduceLT, Int32.reduceLE, Int32.reduceToNatClampNeg, w161_120, w161_121, w161_123]
          refine c154u (d := d + 3) (y := 30) h9 (κ := 30) (by decide) (by decide) rfl (fun I10 f10 h10 => ?_)
          simp only [↓reduceIte, Option.toList_some, Option.toList_none, List.cons_append, List.nil_append, Int32.reduceAdd, Int32.reduceLT, Int32.reduceLE, Int32.reduceToNatClampNeg, w161_126]
          have w34 : fLw (B + 405) b bh (4 * s + k) I3 I4 := fMe_w f4
          have w46 : fLw (B + 405) b bh (4 * s + k) I4 I6 := fLw_t (fMe_w (fM1_e f5)) (fBr_w ⟨Nat.le_refl _, by omega⟩ fc)
          have w67 : fLw (B + 405) b bh (4 * s + k) I6 I7 := fMe_w f7
          have w79 : fLw (B + 405) b bh (4 * s + k) I7 I9 := fLw_t (fMe_w (fM1_e f8)) (fLw_j (by omega) f9 q9)
          have w910 : fLw (B + 405) b bh (4 * s + k) I9 I10 := fMe_w (fM1_e f10)
          have w03 : fLw (B + 405) b bh (4 * s + k) I I3 := fLw_t (fMe_w (fM1_e f1)) fab
          have fr : fLw (B + 405) b bh (4 * s + k) I I10 := fLw_t w03 (fLw_t w34 (fLw_t w46 (fLw_t w67 (fLw_t w79 w910))))
          refine ih (c + 1) (b + 1) _ I10 Q (by omega) ?_ h10 (by omega) ?_
          · rw [fr.2.1 19 (by decide) (by decide) (by decide) (by decide) (by decide) (by decide) (by decide)]; exact h19
          · change yLr xL rc rx rr B (b + 1) bh (4 * s + k) b0 I10 J W L Q (b + 1) (pL W L n) (rIf W L (t, cd))
            rcases rIf_c W L t cd with ⟨f, e1, e2⟩ | ⟨t1, x, t3, y, t5, zz, t7, e1, e2, e3, e4, e5, e6, e7, e8, e9⟩
            · rw [e1]
              rw [e2] at hP
              intro I' fw gt f0
              exact hP I' (fLw_t fr (fLw_up (Nat.le_succ _) fw)) gt f0
            · rw [e8]
              rw [e9] at hP
              change yLq xL rc rx rr B b bh (4 * s + k) b0 I J W L Q b cd (bd (pL W L n t7) fun r => .inr (r.1, (x.2, y.2, zz.2) :: r.2.1, r.2.2)) at hP
              show yLq xL rc rx rr B (b + 1) bh (4 * s + k) b0 I10 J W L Q (b + 1) (cd + x.2.length + y.2.length + zz.2.length) (pL W L n t7)
              have rr1 : nxs (t, cd) = .inr (t1, cd) := by show (bd (nx t) fun t1 => (.inr (t1, cd) : yL)) = _; rw [e1]; rfl
              have rr2 : bd (nxs (t, cd)) (sEx W L) = .inr (x.1, cd + x.2.length) := by rw [rr1]; show (bd (pE W L 2000 3 0 t1) fun q => (.inr (q.1, cd + q.2.length) : yL)) = _; rw [e2]; rfl
              have rr3 : bd (bd (nxs (t, cd)) (sEx W L)) (sTa W L 13) = .inr (t3, cd + x.2.length) := by rw [rr2]; show (bd (pTt W L 13 x.1) fun t1 => (.inr (t1, cd + x.2.length) : yL)) = _; rw [e3]; rfl
              have rr4 : bd (bd (bd (nxs (t, cd)) (sEx W L)) (sTa W L 13)) (sEx W L) = .inr (y.1, cd + x.2.length + y.2.length) := by rw [rr3]; show (bd (pE W L 2000 3 0 t3) fun q => (.inr (q.1, cd + x.2.length + q.2.length) : yL)) = _; rw [e4]; rfl
              have rr5 : bd (bd (bd (bd (nxs (t, cd)) (sEx W L)) (sTa W L 13)) (sEx W L)) (sTa W L 29) = .inr (t5, cd + x.2.length + y.2.length) := by rw [rr4]; show (bd (pTt W L 29 y.1) fun t1 => (.inr (t1, cd + x.2.length + y.2.length) : yL)) = _; rw [e5]; rfl
              have rr6 : bd (bd (bd (bd (bd (nxs (t, cd)) (sEx W L)) (sTa W L 13)) (sEx W L)) (sTa W L 29)) (sEx W L) = .inr (zz.1, cd + x.2.length + y.2.length + zz.2.length) := by rw [rr5]; show (bd (pE W L 2000 3 0 t5) fun q => (.inr (q.1, cd + x.2.length + y.2.length + q.2.length) : yL)) = _; rw [e6]; rfl
              cases e10 : pL W L n t7 with
              | inl f =>
                rw [e10] at hP
                intro I' fw gt f0
                exact hP I' (fLw_t fr (fLw_up (Nat.le_succ _) fw)) gt f0
              | inr w =>
                rw [e10] at hP
                intro I' s' fw gm g12 g200 g201 g35 g41 gle gB gR
                have X4 := x4 (t1, cd) x rr1 e2
                have X7 := x7 (t3, cd + x.2.length) y rr3 e4
                obtain ⟨X9, X95, X96⟩ := x9 (t5, cd + x.2.length + y.2.length) zz rr5 e6
                rw [rr1] at h1 h3
                rw [rr2] at h4
                rw [rr3] at h5 h6
                rw [rr4] at h7
                rw [rr6] at h9
                have l4 : I4 180 41 = nI (cd + x.2.length) := h4.2.2.2.1
                have l7 : I7 180 41 = nI (cd + x.2.length + y.2.length) := h7.2.2.2.1
                have l9 : I9 180 41 = nI (cd + x.2.length + y.2.length + zz.2.length) := h9.2.2.2.1
                have sxe : nI sx = nI cd := e41.symm.trans h1.2.2.2.1
                have sye : nI sy = nI (cd + x.2.length) := e541.symm.trans h5.2.2.2.1
                have T9 := h9.2.1.2.1
                have B9 := h9.2.2.2.2
                change zz.1 ≤ 400 at T9
                change cd + x.2.length + y.2.length + zz.2.length ≤ B + zz.1 at B9
                have w4e : fLw (B + 405) b bh (4 * s + k) I4 I' := fLw_t w46 (fLw_t w67 (fLw_t w79 (fLw_t w910 (fLw_up (Nat.le_succ _) fw))))
                have w7e : fLw (B + 405) b bh (4 * s + k) I7 I' := fLw_t w79 (fLw_t w910 (fLw_up (Nat.le_succ _) fw))
                have w9e : fLw (B + 405) b bh (4 * s + k) I9 I' := fLw_t w910 (fLw_up (Nat.le_succ _) fw)
                obtain ⟨_, -, -, -, c4⟩ := w4e.2.2.2.2 _ (by omega) l4
                obtain ⟨_, -, -, -, c7⟩ := w7e.2.2.2.2 _ (by omega) l7
                obtain ⟨_, -, -, -, c9⟩ := w9e.2.2.2.2 _ (by omega) l9
                have rb : ∀ a, 202 ≤ a → a ≤ 206 → I' a b = I9 a b := by
                  intro a p q
                  rw [fw.2.2.1 a p q b (by omega), f10.1 a (by omega)]
                have rb4 : ∀ a, 202 ≤ a → a ≤ 204 → I' a b = I6 a b := by
                  intro a p q
                  rw [rb a p (by omega), p9 a p q, f8.1 a (by omega), f7.1 a (by omega) (by omega) (by omega) (by omega)]
                have rb3 : ∀ a, 202 ≤ a → a ≤ 203 → I' a b = I3 a b := by
                  intro a p q
                  rw [rb4 a p (by omega), k6 a (by omega), f5.1 a (by omega), f4.1 a (by omega) (by omega) (by omega) (by omega)]
                refine hP I' s' (fLw_t fr (fLw_up (Nat.le_succ _) fw)) gm g12 g200 ?_ ?_ g41 (by omega) gB ⟨⟨cd, ?_, ?_, ?_, ?_, ?_, ⟨Nat.le_refl _, gle⟩, ?_, ?_, ?_⟩, mMbR_mono (by omega) (Nat.le_refl _) gR⟩
                · rw [g201]; show nI (b + 1 + w.2.1.length + 1) = nI (b + (w.2.1.length + 1) + 1); congr 1; omega
                · rw [g35]; show nI (b + 1 + w.2.1.length + 1) = nI (b + (w.2.1.length + 1) + 1); congr 1; omega
                · rw [rb3 202 (by decide) (by decide)]; exact i202
                · rw [rb3 203 (by decide) (by decide), i203]; exact sxe
                · rw [rb4 204 (by decide) (by decide), i204]; exact sye
                · rw [rb 205 (by decide) (by decide), X95]
                · rw [rb 206 (by decide) (by decide), X96]
                · exact xa_z _ _ X4 (fun j _ q => c4 j (Or.inl (by rw [List.length_map] at q; exact q)))
                · exact xa_z _ _ X7 (fun j _ q => c7 j (Or.inl (by rw [List.length_map] at q; exact q)))
                · exact xa_z _ _ X9 (fun j _ q => c9 j (Or.inl (by rw [List.length_map] at q; exact q)))
        by_cases cz : ∃ p, bd (bd (nxs (t, cd)) (sEx W L)) (sTa W L 13) = .inr p
        · have zz : I6 180 13 = 0 := z6.2 cz
          simp only [w161_103, zz, ↓reduceIte, w161_106, w161_107]
          refine c162u (d := d + 1) hB h6 (fun I7 f7 h7 x7 => ?_)
          simp only [↓reduceIte, Option.toList_some, Option.toList_none, List.cons_append, List.nil_append, Int32.reduceAdd, Int32.reduceLT, Int32.reduceLE, Int32.reduceToNatClampNeg]
          exact at110 I7 f7 h7 x7
        · have zz : ¬ I6 180 13 = 0 := fun e => cz (z6.1 e)
          simp only [w161_103, zz, ↓reduceIte]
          have er : ∃ f, bd (bd (nxs (t, cd)) (sEx W L)) (sTa W L 13) = .inl f := by
            cases e : bd (bd (nxs (t, cd)) (sEx W L)) (sTa W L 13) with
            | inl f => exact ⟨f, rfl⟩
            | inr p => exact absurd ⟨p, e⟩ cz
          obtain ⟨f, er⟩ := er
          refine at110 I6 fMe_0 ?_ (fun p q e => by rw [er] at e; cases e)
          rw [er] at h6 ⊢
          exact h6
      · simp only [k28, decide_false, sB_f] at c28
        simp only [w161_13, w161_16, zy, ↓reduceIte, w161_19, w161_20, w161_22, c28, ↓reduceIte, Option.toList_some, Option.toList_none, List.cons_append, List.nil_append, Int32.reduceAdd, Int32.reduceLT, Int32.reduceLE, Int32.reduceToNatClampNeg, w161_25]
        change yLq xL rc rx rr B b bh (4 * s + k) b0 I J W L Q b cd (if kk W L t = 28 then bd (pIf W L t) fun p => bd (pL W L n p.1) fun r => .inr (r.1, p.2 :: r.2.1, r.2.2) else pLe W L t) at hP
        rw [if_neg k28] at hP
        exact yLast hB hs hk h19 h (by omega) hbh hP
end MLW4
