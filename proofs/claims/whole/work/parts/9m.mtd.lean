/-! The model reads a doing. -/
section MTD
variable {d : Nat} {xL : Nat} {I I1 : Nat → Nat → Int32} {J : Nat → Nat → Int64} {rc rx rr : Nat} {Q : Option Value → mHp → Prop} {L : Nat} {W : Nat → Int32} {t s : Nat} {σ : pSg} {w : yW}
theorem c158 (hs : s < 2) (h : yS I J W L s t σ) (ok : σOk t σ) (n6 : ¬ σ.1.2.1 = 6) (f1 : fYm I I1) (g1 : yMx I1 J W L (sSt W L 21 gNo (.inr (t, σ.2.2)))) (hP : yTl xL rc rx rr s I J W L Q (bd (rDoi W L t σ) fun p => .inr (p.1, uDoi W L t σ p.2))) : WP (d + 4) 158 0 [.ref 180, mDum, mDum] [] (mHh xL I1 J (mRf rc rx rr)) Q := by
  obtain ⟨hx, h12, h19, hn, b, c, h35, h41, hb, hc, u1, u2, u3, u4, u5, u6, u7⟩ := h
  have hg : mRD I J W L t 0 0 := hx.1
  have p6 := ok.2.1
  have ht := hg.2.1
  have s1 : mIn (nI s) 2 = true := mIn_nI (by omega) (by omega)
  have s2 : (nI s).toNatClampNeg = s := nI_clamp (by omega)
  have y19 : I1 180 19 = nI s := by rw [f1.2 19 (by decide) (by decide) (by decide) (by decide) (by decide)]; exact h19
  have y193 : I1 193 s = nI σ.1.2.1 := by rw [f1.1 193 (by decide)]; exact u2
  have m6 : (6 : Int32) * nI s = nI (6 * s) := pk_mul 6 s
  have a6 : nI (6 * s) + nI σ.1.2.1 = nI (6 * s + σ.1.2.1) := nI_add _ _
  have b1 : mIn (nI (6 * s + σ.1.2.1)) 12 = true := mIn_nI (by omega) (by omega)
  have b2 : (nI (6 * s + σ.1.2.1)).toNatClampNeg = 6 * s + σ.1.2.1 := nI_clamp (by omega)
  have hp : pnN σ.2.1 = List.range (psN σ.2.1).length := by rw [ok.2.2.1]; exact ok.2.2.2.2.2.1
  simp only [w158_0, w158_2, w158_3, y19, w158_6, m6, w158_7, w158_8, w158_11, w158_12, w158_15 (hi := s1), s2, y193, w158_16, a6, w158_17, w158_18, w158_19]
  refine c153 (d := d) g1 (yNm_k hn (f1.2 20 (by decide) (by decide) (by decide) (by decide) (by decide)) (f1.1 189 (by decide)) rfl) (fun I2 x f2 g2 v2 => ?_)
  have f12 := fYm_t f1 f2
  simp only [↓reduceIte, Option.toList_some, Option.toList_none, List.cons_append, List.nil_append, Int32.reduceAdd, Int32.reduceLT, Int32.reduceLE, Int32.reduceToNatClampNeg, w158_22, w158_23, w158_24, w158_27, w158_28, w158_29]
  refine c159 (d := d) g2 (yNm_k hn (f12.2 20 (by decide) (by decide) (by decide) (by decide) (by decide)) (f12.1 189 (by decide)) rfl) hp (fun I3 y1 f3 g3 v3 => ?_)
  simp only [↓reduceIte, Option.toList_some, Option.toList_none, List.cons_append, List.nil_append, Int32.reduceAdd, Int32.reduceLT, Int32.reduceLE, Int32.reduceToNatClampNeg, w158_32 (hi := b1), b2, w158_33, w158_34, w158_37, w158_38, w158_39, w158_41]
  refine c156 (d := d + 1) (yMx_k g3 (fun j _ => by rw [mU_f (by decide)]) (mU_f (by decide)) (mU_f (by decide)) (mU_f (by decide)) rfl) (m := 11) (by decide) rfl (fun I4 y2 f4 g4 v4 => ?_)
  simp only [↓reduceIte, Option.toList_some, Option.toList_none, List.cons_append, List.nil_append, Int32.reduceAdd, Int32.reduceLT, Int32.reduceLE, Int32.reduceToNatClampNeg, w158_44 (hi := b1), b2, w158_45, w158_46, w158_49, w158_50, w158_51, w158_53]
  refine c156 (d := d + 1) (yMx_k g4 (fun j _ => by rw [mU_f (by decide)]) (mU_f (by decide)) (mU_f (by decide)) (mU_f (by decide)) rfl) (m := 11) (by decide) rfl (fun I5 y3 f5 g5 v5 => ?_)
  simp only [↓reduceIte, Option.toList_some, Option.toList_none, List.cons_append, List.nil_append, Int32.reduceAdd, Int32.reduceLT, Int32.reduceLE, Int32.reduceToNatClampNeg, w158_56 (hi := b1), b2, w158_57, w158_58, w158_61, w158_62, w158_63, w158_65]
  refine c156 (d := d + 1) (yMx_k g5 (fun j _ => by rw [mU_f (by decide)]) (mU_f (by decide)) (mU_f (by decide)) (mU_f (by decide)) rfl) (m := 20) (by decide) rfl (fun I6 y4 f6 g6 v6 => ?_)
  simp only [↓reduceIte, Option.toList_some, Option.toList_none, List.cons_append, List.nil_append, Int32.reduceAdd, Int32.reduceLT, Int32.reduceLE, Int32.reduceToNatClampNeg, w158_68 (hi := b1), b2, w158_69, w158_70, w158_71, w158_73]
  have e4 : ∀ a, a ≠ 180 → a ≠ 194 → a ≠ 195 → a ≠ 196 → a ≠ 197 → mU I6 197 (6 * s + σ.1.2.1) y4 a = I a := fun a h0 h1 h2 h3 h4 => by rw [mU_f h4, f6.1 a h0, mU_f h3, f5.1 a h0, mU_f h2, f4.1 a h0, mU_f h1, f3.1 a h0, f12.1 a h0]
  have e48 : ∀ j, j ≠ 11 → j ≠ 13 → j ≠ 14 → j ≠ 15 → j ≠ 16 → mU I6 197 (6 * s + σ.1.2.1) y4 180 j = I 180 j := fun j a b c d e => by rw [mU_f (by decide), f6.2 j a b c d e, mU_f (by decide), f5.2 j a b c d e, mU_f (by decide), f4.2 j a b c d e, mU_f (by decide), f3.2 j a b c d e, f12.2 j a b c d e]
  have e94 : mU I6 197 (6 * s + σ.1.2.1) y4 194 = mU I 194 (6 * s + σ.1.2.1) y1 194 := by
    rw [mU_f (by decide), f6.1 194 (by decide), mU_f (by decide), f5.1 194 (by decide), mU_f (by decide), f4.1 194 (by decide)]
    funext j
    by_cases e : j = 6 * s + σ.1.2.1
    · subst e; rw [mU_s, mU_s]
    · rw [mU_k e, mU_k e, f3.1 194 (by decide), f12.1 194 (by decide)]
  have e95 : mU I6 197 (6 * s + σ.1.2.1) y4 195 = mU I 195 (6 * s + σ.1.2.1) y2 195 := by
    rw [mU_f (by decide), f6.1 195 (by decide), mU_f (by decide), f5.1 195 (by decide)]
    funext j
    by_cases e : j = 6 * s + σ.1.2.1
    · subst e; rw [mU_s, mU_s]
    · rw [mU_k e, mU_k e, f4.1 195 (by decide), mU_f (by decide), f3.1 195 (by decide), f12.1 195 (by decide)]
  have e96 : mU I6 197 (6 * s + σ.1.2.1) y4 196 = mU I 196 (6 * s + σ.1.2.1) y3 196 := by
    rw [mU_f (by decide), f6.1 196 (by decide)]
    funext j
    by_cases e : j = 6 * s + σ.1.2.1
    · subst e; rw [mU_s, mU_s]
    · rw [mU_k e, mU_k e, f5.1 196 (by decide), mU_f (by decide), f4.1 196 (by decide), mU_f (by decide), f3.1 196 (by decide), f12.1 196 (by decide)]
  have e97 : mU I6 197 (6 * s + σ.1.2.1) y4 197 = mU I 197 (6 * s + σ.1.2.1) y4 197 := by
    funext j
    by_cases e : j = 6 * s + σ.1.2.1
    · subst e; rw [mU_s, mU_s]
    · rw [mU_k e, mU_k e, f6.1 197 (by decide), mU_f (by decide), f5.1 197 (by decide), mU_f (by decide), f4.1 197 (by decide), mU_f (by decide), f3.1 197 (by decide), f12.1 197 (by decide)]
  have u : ∀ a, 194 ≤ a → a ≤ 197 → hfR s a (6 * s + σ.1.2.1) := fun a h1 h2 => by unfold hfR; omega
  have fr4 : fYt s I (mU I6 197 (6 * s + σ.1.2.1) y4) := fYt_t (fYm_h f12) (fYt_t (fYm_h f3) (fYt_t (fYt_u (u 194 (by decide) (by decide)) I3 y1) (fYt_t (fYm_h f4) (fYt_t (fYt_u (u 195 (by decide) (by decide)) I4 y2) (fYt_t (fYm_h f5) (fYt_t (fYt_u (u 196 (by decide) (by decide)) I5 y3) (fYt_t (fYm_h f6) (fYt_u (u 197 (by decide) (by decide)) I6 y4))))))))
  have g7 := yMx_k (I' := mU I6 197 (6 * s + σ.1.2.1) y4) g6 (fun j _ => by rw [mU_f (by decide)]) (mU_f (by decide)) (mU_f (by decide)) (mU_f (by decide)) rfl
  have n7 : yNm (mU I6 197 (6 * s + σ.1.2.1) y4) J σ.2.1 := yNm_k hn (e48 20 (by decide) (by decide) (by decide) (by decide) (by decide)) (e4 189 (by decide) (by decide) (by decide) (by decide) (by decide)) rfl
  generalize mU I6 197 (6 * s + σ.1.2.1) y4 = I7 at *
  have lN : σ.2.1.length < 11 := by have := ok.2.2.2.2.1; have := ok.1; omega
  refine c157 (d := d) (i := t + 1) g7 n7 lN (by omega) (fun p e => ?_) (fun f I8 e f8 g8 => ?_) (fun p I8 e f8 g8 => ?_)
  · obtain ⟨q2, q3, q4, q5, q6, q7, ⟨r2, r3, r4, r5, r6, r7⟩, z2, z3, z4, z5, z6⟩ := rDoi_q (σ := σ) (hg.2.2.1 rfl) e
    rw [v2 q2 q3 r2 r3, z2]
  · have z8 := (yMx_13 g8).1
    have zn : ¬ I8 180 13 = 0 := fun e => by obtain ⟨p, e⟩ := z8.1 e; cases e
    simp only [↓reduceIte, Option.toList_some, Option.toList_none, List.cons_append, List.nil_append, Int32.reduceAdd, Int32.reduceLT, Int32.reduceLE, Int32.reduceToNatClampNeg, w158_76, w158_77, w158_80, zn, w158_96]
    have eR : rDoi W L t σ = .inl f := e
    rw [eR] at hP
    exact hP I8 J (fYt_t fr4 (fYm_h f8)) (fun _ _ => rfl) g8
  · have eR : rDoi W L t σ = .inr p := e
    rw [eR] at hP
    obtain ⟨q2, q3, q4, q5, q6, q7, ⟨r2, r3, r4, r5, r6, r7⟩, z2, z3, z4, z5, z6⟩ := rDoi_q (σ := σ) (hg.2.2.1 rfl) e
    obtain ⟨y1', y2', ⟨y3', -, -, -, -⟩, -⟩ := rDoi_r (hg.2.2.1 rfl) eR
    have x1 := v3 q3 q4 r3 r4
    have x2 := v4 q4 q5 r4 r5
    have x3 := v5 q5 q6 r5 r6
    have x4 := v6 q6 q7 r6 r7
    rw [z3] at x1; rw [z4] at x2; rw [z5] at x3; rw [z6] at x4
    subst x1 x2 x3 x4
    have ex8 : J 186 (t + 1) = kn W L (t + 1) := by
      have g8' : mRD I8 J W L p.1 0 0 := g8.1
      exact (mRD_i g8' (by omega)).2.2.2 (Or.inl y3')
    have e819 : I8 180 19 = nI s := by rw [f8.2 19 (by decide) (by decide) (by decide) (by decide) (by decide), e48 19 (by decide) (by decide) (by decide) (by decide) (by decide)]; exact h19
    have e8193 : I8 193 s = nI σ.1.2.1 := by rw [f8.1 193 (by decide), e4 193 (by decide) (by decide) (by decide) (by decide) (by decide)]; exact u2
    have z13 : mU (mU I8 189 σ.2.1.length 10) 180 20 (nI (σ.2.1.length + 1)) 180 13 = 0 := by rw [mU_k (by decide), mU_f (by decide)]; exact (yMx_13 g8).1.2 ⟨p, rfl⟩
    have z19 : mU (mU I8 189 σ.2.1.length 10) 180 20 (nI (σ.2.1.length + 1)) 180 19 = nI s := by rw [mU_k (by decide), mU_f (by decide)]; exact e819
    have z193 : mU (mU I8 189 σ.2.1.length 10) 180 20 (nI (σ.2.1.length + 1)) 193 s = nI σ.1.2.1 := by rw [mU_f (by decide), mU_f (by decide)]; exact e8193
    simp only [↓reduceIte, Option.toList_some, Option.toList_none, List.cons_append, List.nil_append, Int32.reduceAdd, Int32.reduceLT, Int32.reduceLE, Int32.reduceToNatClampNeg, w158_76, w158_77, z13, w158_80, w158_83, w158_84, w158_87, w158_88, z19, w158_91, w158_92 (hi := s1), s2, z193, w158_93, w158_94, nI_1, w158_95 (hi := s1), w158_96]
    rw [ex8]
    have k7 : ∀ a, a ≠ 180 → a ≠ 189 → a ≠ 193 → mU (mU (mU I8 189 σ.2.1.length 10) 180 20 (nI (σ.2.1.length + 1))) 193 s (nI (σ.1.2.1 + 1)) a = I7 a := fun a h0 h1 h2 => by rw [mU_f h2, mU_f h0, mU_f h1, f8.1 a h0]
    have k78 : ∀ j, j ≠ 11 → j ≠ 13 → j ≠ 14 → j ≠ 15 → j ≠ 16 → j ≠ 20 → mU (mU (mU I8 189 σ.2.1.length 10) 180 20 (nI (σ.2.1.length + 1))) 193 s (nI (σ.1.2.1 + 1)) 180 j = I 180 j := fun j a b c d e f => by rw [mU_f (by decide), mU_k f, mU_f (by decide), f8.2 j a b c d e, e48 j a b c d e]
    have k7x : ∀ j, (j = 10 ∨ j = 11 ∨ j = 13 ∨ j = 14 ∨ j = 15 ∨ j = 16) → mU (mU (mU I8 189 σ.2.1.length 10) 180 20 (nI (σ.2.1.length + 1))) 193 s (nI (σ.1.2.1 + 1)) 180 j = I8 180 j := fun j hj => by rw [mU_f (by decide), mU_k (by omega), mU_f (by decide)]
    have k720 : mU (mU (mU I8 189 σ.2.1.length 10) 180 20 (nI (σ.2.1.length + 1))) 193 s (nI (σ.1.2.1 + 1)) 180 20 = nI (σ.2.1.length + 1) := by rw [mU_f (by decide), mU_s]
    have k7193 : mU (mU (mU I8 189 σ.2.1.length 10) 180 20 (nI (σ.2.1.length + 1))) 193 s (nI (σ.1.2.1 + 1)) 193 s = nI (σ.1.2.1 + 1) := mU_s _ _ _ _
    have k7189 : mU (mU (mU I8 189 σ.2.1.length 10) 180 20 (nI (σ.2.1.length + 1))) 193 s (nI (σ.1.2.1 + 1)) 189 = mU I8 189 σ.2.1.length 10 189 := by rw [mU_f (by decide), mU_f (by decide)]
    have fr7 : fYt s I (mU (mU (mU I8 189 σ.2.1.length 10) 180 20 (nI (σ.2.1.length + 1))) 193 s (nI (σ.1.2.1 + 1))) := fYt_t fr4 (fYt_t (fYm_h f8) (fYt_t (fYt_u (by unfold hfR; omega) _ _) (fYt_t (fYt_u (by unfold hfR; omega) _ _) (fYt_u (by unfold hfR; omega) _ _))))
    have k3 : mU (mU (mU I8 189 σ.2.1.length 10) 180 20 (nI (σ.2.1.length + 1))) 193 s (nI (σ.1.2.1 + 1)) 183 = I8 183 := by rw [mU_f (by decide), mU_f (by decide), mU_f (by decide)]
    have k4 : mU (mU (mU I8 189 σ.2.1.length 10) 180 20 (nI (σ.2.1.length + 1))) 193 s (nI (σ.1.2.1 + 1)) 184 = I8 184 := by rw [mU_f (by decide), mU_f (by decide), mU_f (by decide)]
    have k5 : mU (mU (mU I8 189 σ.2.1.length 10) 180 20 (nI (σ.2.1.length + 1))) 193 s (nI (σ.1.2.1 + 1)) 185 = I8 185 := by rw [mU_f (by decide), mU_f (by decide), mU_f (by decide)]
    generalize mU (mU (mU I8 189 σ.2.1.length 10) 180 20 (nI (σ.2.1.length + 1))) 193 s (nI (σ.1.2.1 + 1)) = I9 at *
    have kr : ∀ a, a ≠ 180 → a ≠ 189 → a ≠ 193 → a ≠ 194 → a ≠ 195 → a ≠ 196 → a ≠ 197 → I9 a = I a := fun a h0 h1 h2 h3 h4 h5 h6 => by rw [k7 a h0 h1 h2, e4 a h0 h3 h4 h5 h6]
    refine hP I9 _ fr7 (fun a ha => mU_f ha) ⟨yMx_k g8 k7x k3 k4 k5 (mU_f (by decide)), ?_, ?_, ⟨?_, ?_, fun q p' hq => ?_⟩, b, c, ?_, ?_, by show 4 * b ≤ p.1; omega, by show c ≤ p.1; omega, ?_, ?_, ?_, ?_, ?_, ?_, ?_⟩
    · rw [k78 12 (by decide) (by decide) (by decide) (by decide) (by decide) (by decide)]; exact h12
    · rw [k78 19 (by decide) (by decide) (by decide) (by decide) (by decide) (by decide)]; exact h19
    · rw [k720]; show _ = nI (σ.2.1 ++ [(kn W L (t + 1), 10)]).length; rw [List.length_append]; rfl
    · show (σ.2.1 ++ [(kn W L (t + 1), 10)]).length ≤ 11; rw [List.length_append, List.length_singleton]; omega
    · change (σ.2.1 ++ [(kn W L (t + 1), 10)])[q]? = some p' at hq
      rw [k7189]
      by_cases e : q = σ.2.1.length
      · subst e
        rw [List.getElem?_append_right (Nat.le_refl _), Nat.sub_self] at hq
        cases hq
        exact ⟨mU_s _ _ _ _, mU_s _ _ _ _, Nat.le_refl 10⟩
      · have : q < σ.2.1.length := by
          have := (List.getElem?_eq_some_iff.1 hq).1
          rw [List.length_append, List.length_singleton] at this
          omega
        rw [List.getElem?_append_left this] at hq
        rw [mU_k e, mU_k e, f8.1 189 (by decide), e4 189 (by decide) (by decide) (by decide) (by decide) (by decide)]
        exact hn.2.2 q p' hq
    · rw [k78 35 (by decide) (by decide) (by decide) (by decide) (by decide) (by decide)]; exact h35
    · rw [k78 41 (by decide) (by decide) (by decide) (by decide) (by decide) (by decide)]; exact h41
    · rw [kr 190 (by decide) (by decide) (by decide) (by decide) (by decide) (by decide) (by decide)]; exact u1
    · exact k7193
    · rw [kr 198 (by decide) (by decide) (by decide) (by decide) (by decide) (by decide) (by decide)]; exact u3
    · rw [kr 199 (by decide) (by decide) (by decide) (by decide) (by decide) (by decide) (by decide)]; exact u4
    · intro q hq
      show _ = mU (mU (mU (mU σ.1.2.2.1 2 σ.1.2.1 (vWh (kn W L (t + 2)) σ.2.1)) 3 σ.1.2.1 (nI (kv W L (t + 3)))) 4 σ.1.2.1 (nI (kv W L (t + 4)))) 5 σ.1.2.1 (nI (kv W L (t + 5))) 0 q ∧ _ = mU (mU (mU (mU σ.1.2.2.1 2 σ.1.2.1 (vWh (kn W L (t + 2)) σ.2.1)) 3 σ.1.2.1 (nI (kv W L (t + 3)))) 4 σ.1.2.1 (nI (kv W L (t + 4)))) 5 σ.1.2.1 (nI (kv W L (t + 5))) 1 q
      rw [kr 191 (by decide) (by decide) (by decide) (by decide) (by decide) (by decide) (by decide), kr 192 (by decide) (by decide) (by decide) (by decide) (by decide) (by decide) (by decide)]
      rw [mU_a (by decide), mU_a (by decide), mU_a (by decide), mU_a (by decide), mU_a (by decide), mU_a (by decide), mU_a (by decide), mU_a (by decide)]
      exact u5 q hq
    · intro i hi
      change i < σ.1.2.1 + 1 at hi
      show _ = mU (mU (mU (mU σ.1.2.2.1 2 σ.1.2.1 (vWh (kn W L (t + 2)) σ.2.1)) 3 σ.1.2.1 (nI (kv W L (t + 3)))) 4 σ.1.2.1 (nI (kv W L (t + 4)))) 5 σ.1.2.1 (nI (kv W L (t + 5))) 2 i ∧ _ = mU (mU (mU (mU σ.1.2.2.1 2 σ.1.2.1 (vWh (kn W L (t + 2)) σ.2.1)) 3 σ.1.2.1 (nI (kv W L (t + 3)))) 4 σ.1.2.1 (nI (kv W L (t + 4)))) 5 σ.1.2.1 (nI (kv W L (t + 5))) 3 i ∧ _ = mU (mU (mU (mU σ.1.2.2.1 2 σ.1.2.1 (vWh (kn W L (t + 2)) σ.2.1)) 3 σ.1.2.1 (nI (kv W L (t + 3)))) 4 σ.1.2.1 (nI (kv W L (t + 4)))) 5 σ.1.2.1 (nI (kv W L (t + 5))) 4 i ∧ _ = mU (mU (mU (mU σ.1.2.2.1 2 σ.1.2.1 (vWh (kn W L (t + 2)) σ.2.1)) 3 σ.1.2.1 (nI (kv W L (t + 3)))) 4 σ.1.2.1 (nI (kv W L (t + 4)))) 5 σ.1.2.1 (nI (kv W L (t + 5))) 5 i
      rw [k7 194 (by decide) (by decide) (by decide), k7 195 (by decide) (by decide) (by decide), k7 196 (by decide) (by decide) (by decide), k7 197 (by decide) (by decide) (by decide), e94, e95, e96, e97]
      by_cases e : i = σ.1.2.1
      · subst e
        refine ⟨?_, ?_, ?_, ?_⟩
        · rw [mU_s, mU_a (by decide), mU_a (by decide), mU_a (by decide), mU_s]
        · rw [mU_s, mU_a (by decide), mU_a (by decide), mU_s]
        · rw [mU_s, mU_a (by decide), mU_s]
        · rw [mU_s, mU_s]
      · obtain ⟨i1, i2, i3, i4⟩ := u6 i (by omega)
        refine ⟨?_, ?_, ?_, ?_⟩
        · rw [mU_k (by omega), mU_a (by decide), mU_a (by decide), mU_a (by decide), mU_k e]; exact i1
        · rw [mU_k (by omega), mU_a (by decide), mU_a (by decide), mU_k e, mU_a (by decide)]; exact i2
        · rw [mU_k (by omega), mU_a (by decide), mU_k e, mU_a (by decide), mU_a (by decide)]; exact i3
        · rw [mU_k (by omega), mU_k e, mU_a (by decide), mU_a (by decide), mU_a (by decide)]; exact i4
    · intro k hk
      exact mMwQ_e (fun a p q => kr a (by omega) (by omega) (by omega) (by omega) (by omega) (by omega) (by omega)) (u7 k hk)
theorem y149d (hs : s < 2) (h : yS I J W L s t σ) (ok : σOk t σ) (k21 : kk W L t = 21) {v1 v2 : Value} (hP : yTl xL rc rx rr s I J W L Q (sDoi W L t σ)) : WP (d + 5) 149 161 [.ref 180, v1, v2] [] (mHh xL I J (mRf rc rx rr)) Q := by
  have hS := h
  obtain ⟨hx, h12, h19, hn, b, c, h35, h41, hb, hc, u1, u2, u3, u4, u5, u6, u7⟩ := h
  have hg : mRD I J W L t 0 0 := hx.1
  have p6 := ok.2.1
  rw [sDoi] at hP
  have s1 : mIn (nI s) 2 = true := mIn_nI (by omega) (by omega)
  have s2 : (nI s).toNatClampNeg = s := nI_clamp (by omega)
  have e6 : (nI σ.1.2.1 = 6) ↔ σ.1.2.1 = 6 := in_eq 6 (by decide) (by omega)
  simp only [w149_161, w149_162, w149_163, w149_166, w149_167, h19, w149_170 (hi := s1), s2, u2, w149_171, w149_173]
  refine c150x (d := d + 2) hx k21 (by decide) (fun e I1 f1 g1 => ?_) (fun e I1 f1 g1 => ?_)
  · rw [if_pos (e6.1 e)] at hP
    have z := (yMx_13 g1).1
    have zn : ¬ I1 180 13 = 0 := fun e => by obtain ⟨p, e⟩ := z.1 e; cases e
    simp only [↓reduceIte, Option.toList_some, Option.toList_none, List.cons_append, List.nil_append, Int32.reduceAdd, Int32.reduceLT, Int32.reduceLE, Int32.reduceToNatClampNeg, w149_176, w149_177, w149_180, zn, w149_280]
    exact hP I1 J (fYm_h f1) (fun _ _ => rfl) g1
  · have ne : ¬ σ.1.2.1 = 6 := fun z => e (e6.2 z)
    rw [if_neg ne] at hP
    have z := (yMx_13 g1).1
    simp only [↓reduceIte, Option.toList_some, Option.toList_none, List.cons_append, List.nil_append, Int32.reduceAdd, Int32.reduceLT, Int32.reduceLE, Int32.reduceToNatClampNeg, w149_176, w149_177, w149_180]
    by_cases cz : ∃ p, sSt W L 21 gNo (.inr (t, σ.2.2)) = .inr p
    · have zy := z.2 cz
      simp only [zy, ↓reduceIte, w149_183, w149_184]
      refine c158 (d := d) hs hS ok ne f1 g1 ?_
      cases eR : rDoi W L t σ with
      | inl f => rw [eR] at hP; intro I' J' a b c; simp only [↓reduceIte, Option.toList_some, Option.toList_none, List.cons_append, List.nil_append, Int32.reduceAdd, Int32.reduceLT, Int32.reduceLE, Int32.reduceToNatClampNeg, w149_187, w149_280]; exact hP I' J' a b c
      | inr p => rw [eR] at hP; intro I' J' a b c; simp only [↓reduceIte, Option.toList_some, Option.toList_none, List.cons_append, List.nil_append, Int32.reduceAdd, Int32.reduceLT, Int32.reduceLE, Int32.reduceToNatClampNeg, w149_187, w149_280]; exact hP I' J' a b c
    · have zn : ¬ I1 180 13 = 0 := fun e => cz (z.1 e)
      simp only [zn, ↓reduceIte, w149_280]
      cases eS : sSt W L 21 gNo (.inr (t, σ.2.2)) with
      | inr p => exact absurd ⟨p, eS⟩ cz
      | inl f =>
        rw [eS] at g1
        have eR : rDoi W L t σ = .inl f := by rw [rDoi, eS]; rfl
        rw [eR] at hP
        exact hP I1 J (fYm_h f1) (fun _ _ => rfl) g1
end MTD
