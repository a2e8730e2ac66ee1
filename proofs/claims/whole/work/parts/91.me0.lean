/-! The model's expression: a unit. -/
theorem oq_len (l : List Nat) : (oq l).length = l.length := by rw [oq, List.length_map]
theorem oq_app (a b : List Nat) : oq (a ++ b) = oq a ++ oq b := by rw [oq, oq, oq, List.map_append]
section ME0
variable {d B : Nat} {xL : Nat} {J : Nat → Nat → Int64} {rc rx rr : Nat} {L : Nat} {W : Nat → Int32}
theorem mE0 (hB : B ≤ 430) {n : Nat} (ih : mOK xL rc rx rr d B J W L n 3) : mOK xL rc rx rr d B J W L (n + 1) 0 := by
  intro o t I s ops pe Q ho hn hS hsh hb hnk hlb hsz hP
  have hpe : pe = [] := hsh
  subst hpe
  obtain ⟨h, h12, hmo, h5, h41⟩ := hS
  have ht := h.2.1
  have hlb' : ops.length ≤ 3 * o + 2 := hlb
  have hg0 : gWt 0 = 1 := rfl
  have hg3 : gWt 3 = 3 := rfl
  rw [List.nil_append] at hmo h5 hsz
  change WP (d + 4) 162 23 [.ref 180, .int 0, .int 1] [] (mHh xL I J (mRf rc rx rr)) Q
  have e6 := fun Q' => c148 (d := d + 3) (xL := xL) (rc := rc) (rx := rx) (rr := rr) (Q := Q') (κ := 6) h (by decide) (show (6 : Int32) = nI 6 from rfl)
  rw [pE, if_pos rfl] at hP
  simp only [w162_23, w162_24, w162_26, e6, ↓reduceIte, Option.toList_some, Option.toList_none, List.cons_append, List.nil_append, Int32.reduceAdd, Int32.reduceLT, Int32.reduceLE, Int32.reduceToNatClampNeg, w162_29]
  by_cases k6 : kk W L t = 6
  · rw [if_neg (show ¬ kk W L t = 2 by omega), if_neg (show ¬ (31 ≤ kk W L t ∧ kk W L t ≤ 39) by omega), if_pos k6] at hP
    have g6 : (nI o = 6) ↔ o = 6 := in_eq 6 (by decide) (by omega)
    simp only [k6, decide_true, sB_t, o01, ↓reduceIte, w162_32, w162_33, h12, w162_36, w162_38, g6]
    by_cases o6 : o = 6
    · rw [if_pos (show 6 ≤ o by omega)] at hP
      have e := mFlt_f I 2 (nI (tp W L t))
      have m1 := mRD_fl h (g := 2) (by decide) (by decide)
      change mRD (mFlt I 2 (nI (tp W L t))) J W L t 2 t at m1
      have z12 : mFlt I 2 (nI (tp W L t)) 180 12 = nI o := by rw [e.2 12 (by decide) (by decide) (by decide)]; exact h12
      have m2 : mRD (mU (mFlt I 2 (nI (tp W L t))) 180 12 (nI (o + 1))) J W L t 2 t := mRD_e m1 (fun a ha => by rw [mU_f (by omega)]) (fun j hj => by rw [mU_k (by omega)])
      have fe : fMe (B + 405) I (mU (mFlt I 2 (nI (tp W L t))) 180 12 (nI (o + 1))) := fMe_t (fM1_e e) ⟨fun a h0 _ _ _ => by rw [mU_f h0], fun j _ h2 _ _ _ _ => by rw [mU_k h2], fCd_e (mU_k (by decide)) (mU_f (by decide)) (mU_f (by decide))⟩
      rw [if_pos o6]
      simp only [w162_41, w162_42, w162_43, c151 h, ↓reduceIte, Option.toList_some, Option.toList_none, List.cons_append, List.nil_append, Int32.reduceAdd, Int32.reduceLT, Int32.reduceLE, Int32.reduceToNatClampNeg, w162_46, w162_47, w162_48, z12, w162_51, w162_52, nI_1, w162_53, w162_56, w162_57]
      refine c152f (d := d + 2) m2 (by decide) ?_
      intro I' t' r1 g1
      simp only [↓reduceIte, Option.toList_some, Option.toList_none, List.cons_append, List.nil_append, Int32.reduceAdd, Int32.reduceLT, Int32.reduceLE, Int32.reduceToNatClampNeg]
      refine x60f (B := B) g1 (by decide) (k := ops.length) ?_ (by omega) ?_
      · rw [r1.2 45 (by decide) (by decide) (by decide), mU_k (by decide), e.2 45 (by decide) (by decide) (by decide)]; exact h5
      · intro I2 t2 f2 g2 n2
        exact hP I2 t2 (fMe_t (fMe_t fe (fM1_e r1)) f2) g2 n2
    · rw [if_neg (show ¬ 6 ≤ o by omega)] at hP
      have m2 : mRD (mU I 180 12 (nI (o + 1))) J W L t 0 0 := mRD_e h (fun a ha => by rw [mU_f (by omega)]) (fun j hj => by rw [mU_k (by omega)])
      have fe : fMe (B + 405) I (mU I 180 12 (nI (o + 1))) := ⟨fun a h0 _ _ _ => by rw [mU_f h0], fun j _ h2 _ _ _ _ => by rw [mU_k h2], fCd_e (mU_k (by decide)) (mU_f (by decide)) (mU_f (by decide))⟩
      rw [if_neg o6]
      simp only [w162_46, w162_47, w162_48, h12, w162_51, w162_52, nI_1, w162_53, w162_56, w162_57]
      refine c152n (d := d + 2) m2 (by rw [k6]; decide) ?_
      intro I1 r1 q1 q2
      simp only [↓reduceIte, Option.toList_some, Option.toList_none, List.cons_append, List.nil_append, Int32.reduceAdd, Int32.reduceLT, Int32.reduceLE, Int32.reduceToNatClampNeg]
      have fr1 : fMe (B + 405) I I1 := fMe_t fe (fM1_e r1)
      have z5 : I1 180 45 = nI ops.length := by rw [r1.2 45 (by decide) (by decide) (by decide), mU_k (by decide)]; exact h5
      have z41 : I1 180 41 = nI s := by rw [r1.2 41 (by decide) (by decide) (by decide), mU_k (by decide)]; exact h41
      have z12 : I1 180 12 = nI (o + 1) := by rw [r1.2 12 (by decide) (by decide) (by decide), mU_s]
      have z209 : I1 209 = I 209 := by rw [r1.1 209 (by decide), mU_f (by decide)]
      have z207 : I1 207 = I 207 := by rw [r1.1 207 (by decide), mU_f (by decide)]
      have z208 : I1 208 = I 208 := by rw [r1.1 208 (by decide), mU_f (by decide)]
      cases e : nx t with
      | inl f =>
        rw [e] at hP; dsimp only at hP
        refine x60f (B := B) (q1 f e) (by rw [(nx_l e).2]; exact (by decide : (2 : Nat) ≠ 0)) z5 (by omega) ?_
        intro I2 t2 f2 g2 n2
        exact hP I2 t2 (fMe_t fr1 f2) g2 n2
      | inr t1 =>
        rw [e] at hP; dsimp only at hP
        have et := (nx_r (h.2.2.1 rfl) (by rw [k6]; decide) e).1
        have g1 := q2 t1 e
        have a1 : mIn (nI ops.length) 64 = true := mIn_nI (by omega) (by omega)
        have a2 : (nI ops.length).toNatClampNeg = ops.length := nI_clamp (by omega)
        have y5 : mU I1 209 ops.length 6 180 45 = nI ops.length := by rw [mU_a (by decide)]; exact z5
        simp only [w162_60, w162_61, w162_64, z5, w162_65, w162_68, w162_70, a1, a2, w162_71, w162_72, w162_73, y5, w162_76, w162_77, nI_1, w162_78, w162_81]
        have fr2 : fMe (B + 405) I (mU (mU I1 209 ops.length 6) 180 45 (nI (ops.length + 1))) := fMe_t fr1 ⟨fun a h0 _ _ h9 => by rw [mU_f h0, mU_f h9], fun j _ _ _ _ _ h4 => by rw [mU_k h4, mU_a (by decide)], fCd_e (by rw [mU_k (by decide), mU_a (by decide)]) (by rw [mU_f (by decide), mU_f (by decide)]) (by rw [mU_f (by decide), mU_f (by decide)])⟩
        have g2 : mRD (mU (mU I1 209 ops.length 6) 180 45 (nI (ops.length + 1))) J W L t1 0 0 := by
          refine mRD_e g1 (fun a ha => ?_) (fun j hj => ?_)
          · rw [mU_f (by omega), mU_f (by omega)]
          · rw [mU_k (by omega), mU_a (by decide)]
        have mo2 : mXo (mU (mU I1 209 ops.length 6) 180 45 (nI (ops.length + 1))) (6 :: ops) := by
          refine ⟨?_, by decide, mXo_l ops (fun j hj => ?_) hmo⟩
          · rw [mU_a (by decide), mU_s]; rfl
          · rw [mU_a (by decide), mU_k (by omega), z209]
        refine ih (o + 1) t1 (mU (mU I1 209 ops.length 6) 180 45 (nI (ops.length + 1))) s (6 :: ops) [] Q (by omega) (by omega) ⟨g2, ?_, mo2, mU_s _ _ _ _, ?_⟩ rfl (stB_c (by decide) ops) trivial ?_ ?_ ?_
        · rw [mU_k (by decide), mU_a (by decide)]; exact z12
        · rw [mU_k (by decide), mU_a (by decide)]; exact z41
        · show (6 :: ops).length ≤ 3 * (o + 1)
          rw [List.length_cons]; omega
        · show s + (6 :: ops).length ≤ B + t1
          rw [List.length_cons]; omega
        · cases e4 : pE W L n 3 (o + 1) t1 with
          | inl f =>
            rw [e4] at hP; dsimp only at hP
            intro I3 t3 f3 g3 n3
            exact hP I3 t3 (fMe_t fr2 f3) g3 n3
          | inr r =>
            obtain ⟨t2, c⟩ := r
            rw [e4] at hP; dsimp only at hP
            have okE := pE_ok W L n 3 (o + 1) t1 t2 c (g1.2.2.1 rfl) (by omega) (by omega) e4
            intro I3 pe' c0 hx hc hxk f3 hS3 p3 x3
            change PB pe' at hx
            change (kk W L t2 ≠ 8 ∧ kk W L t2 ≠ 9) ∧ kk W L t2 ≠ 10 ∧ kk W L t2 ≠ 15 at hxk
            obtain ⟨g3, g12, gmo, g5, g41⟩ := hS3
            change mRD I3 J W L t2 0 0 at g3
            have hcc : c = c0 ++ oq pe' := (List.nil_append c).symm.trans hc
            have hcl : c.length = c0.length + pe'.length := by rw [hcc, List.length_append, oq_len]
            have t2b := g3.2.1
            obtain ⟨ps1, ps2⟩ := PB_st hx
            have hol : (pe' ++ 6 :: ops).length = pe'.length + (ops.length + 1) := by rw [List.length_append, List.length_cons]
            by_cases k7 : kk W L t2 = 7
            · rw [if_pos k7] at hP
              have c7 := fun Q' => c148 (d := d + 3) (xL := xL) (rc := rc) (rx := rx) (rr := rr) (Q := Q') (κ := 7) g3 (by decide) (show (7 : Int32) = nI 7 from rfl)
              simp only [k7, decide_true, sB_t] at c7
              have c16 := fun Q' => c165 (d := d + 2) (xL := xL) (J := J) (rc := rc) (rx := rx) (rr := rr) (Q := Q') (b := false) (pe' ++ 6 :: ops) (s + c0.length) I3 mDum gmo g5 (by omega) g41 (by omega)
              simp only [sB_f] at c16
              obtain ⟨⟨p1, p2⟩, ⟨p5, p41⟩, p7, px⟩ := coI_p false (pe' ++ 6 :: ops) (s + c0.length) I3 g5 g41
              obtain ⟨cr, cq⟩ := co_app (b := false) (r := 6 :: ops) (stB_c (by decide) ops) pe' ps1
              rw [cr, List.length_cons] at p5
              rw [cq] at p41 px
              rw [oq_len] at p41
              have m4 := mRD_co (b := false) g3 g5 g41
              have f4 := coI_e (b := false) g5 g41 (by omega) hB
              have p12 := p2 12 (by decide) (by decide)
              have gO : ¬ nI (o + 1) ≤ 0 := by rw [in_le 0 (by decide) (by omega)]; omega
              have s1 : nI (ops.length + 1) - 1 = nI ops.length := nI_sbx (b := 1) (by omega)
              have s2 : nI (o + 1) - 1 = nI o := nI_sbx (b := 1) (by omega)
              have p209 := p1 209 (by decide) (by decide) (by decide)
              generalize coI false (pe' ++ 6 :: ops) (s + c0.length) I3 = I4 at *
              have w12 : mU I4 180 45 (nI ops.length) 180 12 = nI (o + 1) := by rw [mU_k (by decide), p12]; exact g12
              simp only [w162_96, w162_97, w162_99, c7, ↓reduceIte, Option.toList_some, Option.toList_none, List.cons_append, List.nil_append, Int32.reduceAdd, Int32.reduceLT, Int32.reduceLE, Int32.reduceToNatClampNeg, w162_102, o01, w162_105, w162_106, g12, w162_109, w162_110, gO, w162_113, w162_114, w162_115, c16, w162_118, w162_119, w162_120, p5, w162_123, w162_124, s1, w162_125, w162_128, w162_129, w162_130, w12, w162_133, w162_134, s2, w162_135, w162_138, w162_139]
              have m6 : mRD (mU (mU I4 180 45 (nI ops.length)) 180 12 (nI o)) J W L t2 0 0 := mRD_e m4 (fun a ha => by rw [mU_f (by omega), mU_f (by omega)]) (fun j hj => by rw [mU_k (by omega), mU_k (by omega)])
              have f6 : fMe (B + 405) I4 (mU (mU I4 180 45 (nI ops.length)) 180 12 (nI o)) := ⟨fun a h0 _ _ _ => by rw [mU_f h0, mU_f h0], fun j _ h2 _ _ _ h4 => by rw [mU_k h2, mU_k h4], fCd_e (by rw [mU_k (by decide), mU_k (by decide)]) (by rw [mU_f (by decide), mU_f (by decide)]) (by rw [mU_f (by decide), mU_f (by decide)])⟩
              refine c152n (d := d + 2) m6 (by rw [k7]; decide) ?_
              intro I7 r7 q3 q4
              simp only [↓reduceIte, Option.toList_some, Option.toList_none, List.cons_append, List.nil_append, Int32.reduceAdd, Int32.reduceLT, Int32.reduceLE, Int32.reduceToNatClampNeg, w162_142]
              have fr7 : fMe (B + 405) I I7 := fMe_t (fMe_t (fMe_t (fMe_t fr2 f3) f4) f6) (fM1_e r7)
              have y12 : I7 180 12 = nI o := by rw [r7.2 12 (by decide) (by decide) (by decide), mU_s]
              have y45 : I7 180 45 = nI ops.length := by rw [r7.2 45 (by decide) (by decide) (by decide), mU_k (by decide), mU_s]
              have y41 : I7 180 41 = nI (s + c.length) := by
                rw [r7.2 41 (by decide) (by decide) (by decide), mU_k (by decide), mU_k (by decide), p41, hcl]
                congr 1; omega
              have yo : mXo I7 ops := by
                refine mXo_k ?_ ops (mXo_d (pe' ++ [6]) ops I3 (by rw [List.append_assoc]; exact gmo))
                rw [r7.1 209 (by decide), mU_f (by decide), mU_f (by decide), p209]
              cases e5 : nx t2 with
              | inl f =>
                rw [e5] at hP; dsimp only at hP
                refine x96f hB (q3 f e5) (by rw [(nx_l e5).2]; exact (by decide : (2 : Nat) ≠ 0)) y12 (by omega) yo y45 (by omega) y41 (by omega) ?_
                intro I8 t8 f8 g8 n8
                exact hP I8 t8 (fMe_t fr7 f8) g8 n8
              | inr t3 =>
                rw [e5] at hP; dsimp only at hP
                have y7 : I7 207 = I4 207 := by rw [r7.1 207 (by decide), mU_f (by decide), mU_f (by decide)]
                have y8 : I7 208 = I4 208 := by rw [r7.1 208 (by decide), mU_f (by decide), mU_f (by decide)]
                refine hP I7 [] c rfl ?_ trivial fr7 ⟨q4 t3 e5, y12, yo, y45, y41⟩ (fun q hq => ?_) ?_
                · show [] ++ c = c ++ []
                  rw [List.append_nil, List.nil_append]
                · obtain ⟨u1, u2⟩ := p7 q (by omega)
                  obtain ⟨v1, v2⟩ := p3 q hq
                  rw [y7, y8]
                  refine ⟨u1.trans (v1.trans ?_), u2.trans (v2.trans ?_)⟩
                  · rw [mU_a (by decide), mU_a (by decide), z207]
                  · rw [mU_a (by decide), mU_a (by decide), z208]
                · rw [y7, y8, hcc, List.map_append]
                  refine xa_a _ _ _ (xa_k _ _ x3 (fun j hj => ?_)) ?_
                  · rw [List.length_map] at hj
                    exact p7 j hj
                  · rw [List.length_map]; exact px
            · rw [if_neg k7] at hP
              refine x96e hB g3 hxk (Or.inl k7) g12 (by omega) gmo g5 (by omega) g41 (by omega) (fun z => absurd z (by omega)) (fun _ => ?_)
              intro I8 t8 f8 g8 n8
              exact hP I8 t8 (fMe_t (fMe_t fr2 f3) f8) g8 n8
  · have unit : ∀ p : Nat × Int32, (kk W L t = 2 ∧ p = (0, nI (kv W L t)) ∨ (31 ≤ kk W L t ∧ kk W L t ≤ 39) ∧ p = (1, nI (kk W L t - 31))) → mPost (B + 405) xL rc rx rr d 0 o s [] ops I J W L Q (match nx t with | .inl f => .inl f | .inr t1 => .inr (t1, [p])) → WP (d + 4) 162 84 [.ref 180, .int 0, .int 1] [] (mHh xL I J (mRf rc rx rr)) Q := by
      intro p hp hP'
      simp only [w162_84, w162_85]
      refine c163a (d := d + 1) h h41 (by omega) hp ?_
      intro I' r1 q1 q2
      obtain ⟨u1, u2, u3, u4⟩ := ecU_r I s (nI p.1) p.2
      have fe : fMe (B + 405) I I' := fMe_t (ecU_e h41 (by omega) (by omega) (nI p.1) p.2) (fM1_e r1)
      simp only [↓reduceIte, Option.toList_some, Option.toList_none, List.cons_append, List.nil_append, Int32.reduceAdd, Int32.reduceLT, Int32.reduceLE, Int32.reduceToNatClampNeg, w162_88, w162_89]
      cases e : nx t with
      | inl f =>
        rw [e] at hP'; dsimp only at hP'
        have nf : f.1 ≠ 0 := by rw [(nx_l e).2]; exact (by decide : (2 : Nat) ≠ 0)
        have gf := q1 f e
        have e13 : ¬ I' 180 13 ≤ 0 := by
          have := gf.2.2.2.2.2.1
          rw [gf.2.2.2.2.1, in_le 0 (by decide) (by omega)]; omega
        simp only [w162_92, e13, ↓reduceIte, w162_95]
        exact hP' I' t fe gf nf
      | inr t1 =>
        rw [e] at hP'; dsimp only at hP'
        have gf := q2 t1 e
        have e13 : I' 180 13 ≤ 0 := by rw [gf.2.2.2.2.1]; decide
        simp only [w162_92, e13, ↓reduceIte]
        refine hP' I' [] [p] rfl rfl trivial fe ⟨gf, ?_, mXo_k ?_ ops hmo, ?_, ?_⟩ (fun q hq => ?_) ⟨?_, ?_, trivial⟩
        · rw [r1.2 12 (by decide) (by decide) (by decide)]
          rw [ecU, mU_k (by decide), mU_a (by decide), mU_a (by decide)]; exact h12
        · rw [r1.1 209 (by decide), ecU, mU_f (by decide), mU_f (by decide), mU_f (by decide)]
        · rw [r1.2 45 (by decide) (by decide) (by decide), ecU, mU_k (by decide), mU_a (by decide), mU_a (by decide)]; exact h5
        · rw [r1.2 41 (by decide) (by decide) (by decide)]; exact u1
        · rw [r1.1 207 (by decide), r1.1 208 (by decide)]; exact u4 q (by omega)
        · rw [r1.1 207 (by decide)]; exact u2
        · rw [r1.1 208 (by decide)]; exact u3
    simp only [k6, decide_false, sB_f, ↓reduceIte]
    by_cases k2 : kk W L t = 2
    · rw [if_pos k2] at hP
      exact unit (0, nI (kv W L t)) (Or.inl ⟨k2, rfl⟩) hP
    · rw [if_neg k2] at hP
      by_cases kv' : 31 ≤ kk W L t ∧ kk W L t ≤ 39
      · rw [if_pos kv'] at hP
        exact unit (1, nI (kk W L t - 31)) (Or.inr ⟨kv', rfl⟩) hP
      · rw [if_neg kv', if_neg k6] at hP
        have m1 := mRD_fl h (g := 1) (by decide) (by decide)
        have e13 : ¬ mFlt I 1 (nI (tp W L t)) 180 13 ≤ 0 := by
          rw [show mFlt I 1 (nI (tp W L t)) 180 13 = nI 1 from m1.2.2.2.2.1]; decide
        simp only [w162_84, w162_85, c163m (d := d + 1) h ⟨k2, kv'⟩, ↓reduceIte, Option.toList_some, Option.toList_none, List.cons_append, List.nil_append, Int32.reduceAdd, Int32.reduceLT, Int32.reduceLE, Int32.reduceToNatClampNeg, w162_88, w162_89, w162_92, e13, ↓reduceIte, w162_95]
        exact hP _ t (fM1_e (mFlt_f I 1 (nI (tp W L t)))) m1 (by decide : (1 : Nat) ≠ 0)
end ME0
