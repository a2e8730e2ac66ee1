/-! The model reads a law told, slips, seed; what is told, one by one. -/
theorem mXl_len {ms : Nat → Bool} : ∀ (is : List mIf) (e : mCod) (q : Nat), mLo is e → 5 * is.length + 1 ≤ (mXl ms is e q).length := by
  have ne : ∀ (c : mCod) (n m : Nat), mCw c n = some m → n ≠ m → 1 ≤ c.length := by
    intro c n m h hn
    cases c with
    | nil => cases h; exact absurd rfl hn
    | cons p c => rw [List.length_cons]; omega
  intro is
  induction is with
  | nil =>
    intro e q h
    have := ne e 0 1 h (by decide)
    rw [mXl, List.length_map, List.length_nil]; omega
  | cons p is ih =>
    obtain ⟨a, b, t⟩ := p
    intro e q h
    obtain ⟨h1, h2, -, h3, h4⟩ := h
    have l1 := ne a 0 1 h1 (by decide)
    have l2 := ne b 0 1 h2 (by decide)
    have l3 := ne t 0 1 h3 (by decide)
    have l4 := ih e (q + a.length + b.length + t.length + 2) h4
    rw [mXl]
    simp only [List.length_append, List.length_map, List.length_cons]
    omega
theorem fLw_h {I I' : Nat → Nat → Int32} {s k b c : Nat} (hk : k < 4) (h41 : I 180 41 = nI (420 * s + c)) (hc : c ≤ 400) (h : fLw (420 * s + 405) (130 * s + b) (130 * s + 130) (4 * s + k) I I') : fYt s I I' := by
  obtain ⟨h1, h2, h3, h4, h5⟩ := h
  intro a q hn
  unfold hfR at hn
  by_cases e : a = 180
  · subst e; exact h2 q (by omega) (by omega) (by omega) (by omega) (by omega) (by omega) (by omega)
  · by_cases e2 : 200 ≤ a ∧ a ≤ 209
    · by_cases c1 : a ≤ 201
      · exact h4 a (by omega) q (by omega)
      · by_cases c2 : a ≤ 206
        · exact h3 a (by omega) c2 q (by omega)
        · obtain ⟨s', z1, z2, z3, z4⟩ := h5 _ (by omega) h41
          have ha : a = 207 ∨ a = 208 := by omega
          rcases ha with rfl | rfl
          · exact (z4 q (by omega)).1
          · exact (z4 q (by omega)).2
    · rw [h1 a e e2]
section MTF
variable {d : Nat} {xL : Nat} {I : Nat → Nat → Int32} {J : Nat → Nat → Int64} {rc rx rr : Nat} {Q : Option Value → mHp → Prop} {L : Nat} {W : Nat → Int32} {t s : Nat} {σ : pSg} {w : yW}
theorem yS_law {I' : Nat → Nat → Int32} {k b c s' : Nat} {r : Nat × List mIf × mCod} (hs : s < 2) (hk : k < 4) (hx : yMx I J W L (.inr (t, σ.2.2))) (h12 : I' 180 12 = 0) (h19 : I 180 19 = nI s) (hn : yNm I J σ.2.1) (h41 : I 180 41 = nI (420 * s + c)) (hb : 4 * b ≤ t) (hc : c ≤ t) (hH : yHs I s σ.1 (130 * s + b) (420 * s + c)) (er : pLaw W L t = .inr r) (k03 : kk W L t ≠ 0 ∧ kk W L t ≠ 3) (fr : fLw (420 * s + 405) (130 * s + b) (130 * s + 130) (4 * s + k) I I') (g : mRD I' J W L r.1 0 0) (g0 : I' 200 (4 * s + k) = nI (130 * s + b)) (g1 : I' 201 (4 * s + k) = nI (130 * s + b + r.2.1.length + 1)) (g35 : I' 180 35 = nI (130 * s + b + r.2.1.length + 1)) (g41 : I' 180 41 = nI s') (le1 : 420 * s + c ≤ s') (le2 : s' ≤ 420 * s + r.1) (gR : mMbR I' (420 * s + c) s' r.2.1 r.2.2 (130 * s + b)) : yS I' J W L s r.1 (uLaw k σ r) := by
  obtain ⟨u1, u2, u3, u4, u5, u6, u7⟩ := hH
  have ht : t ≤ 400 := hx.1.2.1
  obtain ⟨p1, -, p3, p4, p5⟩ := pLaw_ok (fun _ => true) (hx.1.2.2.1 rfl) k03 er
  have p6 := mXl_len (ms := fun _ => true) r.2.1 r.2.2 0 p4
  have p7 := p5 0
  obtain ⟨f1, f2, f3, f4, f5⟩ := fr
  have e8 : ∀ a, a ≠ 180 → ¬ (200 ≤ a ∧ a ≤ 209) → I' a = I a := f1
  have eC := f5 _ (show 420 * s + c ≤ 420 * s + 405 by omega) h41
  obtain ⟨_, -, -, -, eC⟩ := eC
  refine ⟨⟨g, ?_⟩, h12, ?_, yNm_k hn (f2 20 (by decide) (by decide) (by decide) (by decide) (by decide) (by decide) (by decide)) (e8 189 (by decide) (by decide)) rfl, b + r.2.1.length + 1, s' - 420 * s, ?_, ?_, by omega, by omega, ?_⟩
  · have := yMw_up hx.2 (show t ≤ r.1 by omega)
    rw [yMw, f2 15 (by decide) (by decide) (by decide) (by decide) (by decide) (by decide) (by decide), f2 16 (by decide) (by decide) (by decide) (by decide) (by decide) (by decide) (by decide)]
    exact this
  · rw [f2 19 (by decide) (by decide) (by decide) (by decide) (by decide) (by decide) (by decide)]; exact h19
  · rw [g35]; congr 1; omega
  · rw [g41]; congr 1; omega
  · have es : 420 * s + (s' - 420 * s) = s' := by omega
    have eb : 130 * s + (b + r.2.1.length + 1) = 130 * s + b + r.2.1.length + 1 := by omega
    rw [es, eb]
    refine ⟨?_, ?_, ?_, ?_, fun p hp => ?_, fun i hi => ?_, fun k' hk' => ?_⟩
    · rw [e8 190 (by decide) (by decide)]; exact u1
    · rw [e8 193 (by decide) (by decide)]; exact u2
    · rw [e8 198 (by decide) (by decide)]; exact u3
    · rw [e8 199 (by decide) (by decide)]; exact u4
    · rw [e8 191 (by decide) (by decide), e8 192 (by decide) (by decide)]; exact u5 p hp
    · rw [e8 194 (by decide) (by decide), e8 195 (by decide) (by decide), e8 196 (by decide) (by decide), e8 197 (by decide) (by decide)]; exact u6 i hi
    · show mMwQ I' (4 * s + k') (130 * s) (130 * s + b + r.2.1.length + 1) (420 * s) s' (if k' = k then some r.2 else hL σ.1 k')
      by_cases e : k' = k
      · subst e
        rw [if_pos rfl]
        exact ⟨130 * s + b, ⟨by omega, Nat.le_refl _⟩, g0, g1, p4, mMbR_mono (by omega) (Nat.le_refl _) gR⟩
      · rw [if_neg e]
        refine mMwQ_mono (by omega) le1 (mMwQ_keep (fun q _ hq => eC q (Or.inl hq)) (fun a p q z _ hq => f3 a p q z (Or.inl hq)) (f4 200 (Or.inl rfl) _ (by omega)) (f4 201 (Or.inr rfl) _ (by omega)) (u7 k' hk'))
theorem y149l {k : Nat} (hs : s < 2) (hk : k < 4) (h : yS I J W L s t σ) (kt : kk W L t = 22 + k) {v2 : Value} (hP : yTl xL rc rx rr s I J W L Q (bd (pLaw W L t) fun r => .inr (r.1, uLaw k σ r))) : WP (d + 9) 149 271 [.ref 180, .int (nI k), v2] [] (mHh xL I J (mRf rc rx rr)) Q := by
  obtain ⟨hx, h12, h19, hn, b, c, h35, h41, hb, hc, hH⟩ := h
  have hg : mRD I J W L t 0 0 := hx.1
  have ht := hg.2.1
  have k03 : kk W L t ≠ 0 ∧ kk W L t ≠ 3 := by omega
  have h0 : yLs I J W L (420 * s) (130 * s + b) (.inr (t, 420 * s + c)) := ⟨h35, hg, h12, h41, by show 420 * s + c ≤ 420 * s + t; omega⟩
  simp only [w149_271, w149_272]
  refine c152u (d := d + 7) h0 k03 (fun I1 f1 h1 => ?_)
  simp only [↓reduceIte, Option.toList_some, Option.toList_none, List.cons_append, List.nil_append, Int32.reduceAdd, Int32.reduceLT, Int32.reduceLE, Int32.reduceToNatClampNeg, w149_275, w149_276, w149_277, w161_0, w161_1, w161_2]
  refine c154u (d := d + 5) (y := 5) h1 (κ := 5) (by decide) (by decide) rfl (fun I2 f2 h2 => ?_)
  have e35 := yLs_b h2
  simp only [↓reduceIte, Option.toList_some, Option.toList_none, List.cons_append, List.nil_append, Int32.reduceAdd, Int32.reduceLT, Int32.reduceLE, Int32.reduceToNatClampNeg, w161_5, w161_6, e35, w161_9, w161_10, w161_11]
  have fr2 : fLw (420 * s + 405) (130 * s + b) (130 * s + 130) (4 * s + k) I I2 := fLw_t (fMe_w (fM1_e f1)) (fMe_w (fM1_e f2))
  have e19 : I2 180 19 = nI s := by rw [fr2.2.1 19 (by decide) (by decide) (by decide) (by decide) (by decide) (by decide) (by decide)]; exact h19
  have key := yLw (d := d + 2) (xL := xL) (J := J) (rc := rc) (rx := rx) (rr := rr) (L := L) (W := W) (s := s) (k := k) (b0 := 130 * s + b) (bh := 130 * s + 130) (B := 420 * s) (by omega) hs hk (by omega) 4 0 (130 * s + b) _ I2 (fun v h9 => WP (d + 9) 149 280 [.ref 180, .int (nI k), v2] (v.toList ++ []) h9 Q) rfl e19 h2 (by omega)
  rw [nI_0] at key
  refine key ?_
  have fin : ∀ f : Nat × Nat, pLaw W L t = .inl f → ∀ I', fLw (420 * s + 405) (130 * s + b) (130 * s + 130) (4 * s + k) I2 I' → (∃ t, mRD I' J W L t f.1 f.2) → f.1 ≠ 0 → WP (d + 9) 149 280 [.ref 180, .int (nI k), v2] ((none : Option Value).toList ++ []) (mHh xL I' J (mRf rc rx rr)) Q := by
    intro f e I' fw g f0
    rw [e] at hP
    obtain ⟨t', g⟩ := g
    simp only [↓reduceIte, Option.toList_some, Option.toList_none, List.cons_append, List.nil_append, Int32.reduceAdd, Int32.reduceLT, Int32.reduceLE, Int32.reduceToNatClampNeg, w149_280]
    exact hP I' J (fLw_h hk h41 (by omega) (fLw_t fr2 fw)) (fun _ _ => rfl) ⟨t', g, f0⟩
  rw [pLaw] at fin
  cases e1 : nx t with
  | inl f =>
    have er : bd (nxs (t, 420 * s + c)) (sTa W L 5) = .inl f := by show bd (bd (nx t) _) _ = _; rw [e1]; rfl
    rw [er]
    exact fin f (by rw [e1]; rfl)
  | inr t1 =>
    have er : bd (nxs (t, 420 * s + c)) (sTa W L 5) = bd (pTt W L 5 t1) fun t2 => .inr (t2, 420 * s + c) := by show bd (bd (nx t) _) _ = _; rw [e1]; rfl
    rw [er]
    cases e2 : pTt W L 5 t1 with
    | inl f => exact fin f (by rw [e1]; dsimp only [bd]; rw [e2])
    | inr t2 =>
      have ep : pLaw W L t = pL W L 4 t2 := by rw [pLaw, e1]; dsimp only [bd]; rw [e2]
      change yLq xL rc rx rr (420 * s) (130 * s + b) (130 * s + 130) (4 * s + k) (130 * s + b) I2 J W L (fun v h9 => WP (d + 9) 149 280 [.ref 180, .int (nI k), v2] (v.toList ++ []) h9 Q) (130 * s + b) (420 * s + c) (pL W L 4 t2)
      cases e3 : pL W L 4 t2 with
      | inl f => exact fin f (by rw [e1]; dsimp only [bd]; rw [e2]; exact e3)
      | inr r =>
        rw [ep, e3] at hP
        intro I' s' fw g z12 g200 g201 g35 g41 le1 le2 gR
        simp only [↓reduceIte, Option.toList_some, Option.toList_none, List.cons_append, List.nil_append, Int32.reduceAdd, Int32.reduceLT, Int32.reduceLE, Int32.reduceToNatClampNeg, w149_280]
        exact hP I' J (fLw_h hk h41 (by omega) (fLw_t fr2 fw)) (fun _ _ => rfl) (yS_law hs hk hx z12 h19 hn h41 hb hc hH (ep.trans e3) k03 (fLw_t fr2 fw) g g200 g201 g35 g41 le1 le2 gR)
/-- slips or seed -/
theorem yS_int {I1 : Nat → Nat → Int32} {f κ m : Nat} {x : Int32} (hf : f = 198 ∨ f = 199) (hs : s < 2) (h : yS I J W L s t σ) (k03 : κ ≠ 0 ∧ κ ≠ 3) (f1 : fYm I I1) (g1 : yMx I1 J W L (rInt W L κ m t σ)) (v : ∀ p q, sSt W L κ gNo (.inr (t, σ.2.2)) = .inr p → sSt W L 2 (gIw W L m) (sSt W L κ gNo (.inr (t, σ.2.2))) = .inr q → x = nI (kv W L p.1)) {u : yW → pSg} (hu : ∀ w, u w = ((σ.1.1, σ.1.2.1, σ.1.2.2.1, (if f = 198 then nI (kv W L (t + 1)) else σ.1.2.2.2.1), (if f = 199 then nI (kv W L (t + 1)) else σ.1.2.2.2.2.1), σ.1.2.2.2.2.2), σ.2.1, w)) (hP : yTl xL rc rx rr s I J W L Q (bd (rInt W L κ m t σ) fun p => .inr (p.1, u p.2))) : Q none (mHh xL (mU I1 f s x) J (mRf rc rx rr)) := by
  obtain ⟨hx, h12, h19, hn, b, c, h35, h41, hb, hc, u1, u2, u3, u4, u5, u6, u7⟩ := h
  have hg : mRD I J W L t 0 0 := hx.1
  have fr : fYt s I (mU I1 f s x) := fYt_t (fYm_h f1) (fYt_u (by unfold hfR; omega) I1 x)
  have g2 : yMx (mU I1 f s x) J W L (rInt W L κ m t σ) := yMx_k g1 (fun j _ => by rw [mU_f (by omega)]) (mU_f (by omega)) (mU_f (by omega)) (mU_f (by omega)) rfl
  cases eR : rInt W L κ m t σ with
  | inl q => rw [eR] at hP g2; exact hP _ J fr (fun _ _ => rfl) g2
  | inr p =>
    rw [eR] at hP g2
    obtain ⟨z1, -, -, -⟩ := rInt_r k03 (hg.2.2.1 rfl) eR
    obtain ⟨q3, e3, -, a3, -, -⟩ := sSt_r (by decide) (fun q e => (sSt_r (by decide) (fun q e => (sSt_r k03 (kLv_0 (hg.2.2.1 rfl)) e).elim fun _ a => a.2.2.2.1) e).elim fun _ a => a.2.2.2.1) eR
    obtain ⟨q2, e2, -, a2, -, -⟩ := sSt_r (by decide) (fun q e => (sSt_r k03 (kLv_0 (hg.2.2.1 rfl)) e).elim fun _ a => a.2.2.2.1) e3
    obtain ⟨q1, e1, -, a1, -, -⟩ := sSt_r k03 (kLv_0 (hg.2.2.1 rfl)) e2
    cases e1
    have x1 := v q2 q3 e2 e3
    rw [show q2.1 = t + 1 from a1] at x1
    subst x1
    have e8 : ∀ a, a ≠ 180 → a ≠ f → mU I1 f s (nI (kv W L (t + 1))) a = I a := fun a h1 h2 => by rw [mU_f h2, f1.1 a h1]
    have e9 : ∀ j, j ≠ 11 → j ≠ 13 → j ≠ 14 → j ≠ 15 → j ≠ 16 → mU I1 f s (nI (kv W L (t + 1))) 180 j = I 180 j := fun j a b c d e => by rw [mU_f (by omega), f1.2 j a b c d e]
    refine hP _ J fr (fun _ _ => rfl) ?_
    show yS _ J W L s p.1 (u p.2)
    rw [hu p.2]
    refine ⟨g2, ?_, ?_, yNm_k hn (e9 20 (by decide) (by decide) (by decide) (by decide) (by decide)) (e8 189 (by decide) (by omega)) rfl, b, c, ?_, ?_, by omega, by omega, ?_, ?_, ?_, ?_, fun p hp => ?_, fun i hi => ?_, fun k hk => ?_⟩
    · rw [e9 12 (by decide) (by decide) (by decide) (by decide) (by decide)]; exact h12
    · rw [e9 19 (by decide) (by decide) (by decide) (by decide) (by decide)]; exact h19
    · rw [e9 35 (by decide) (by decide) (by decide) (by decide) (by decide)]; exact h35
    · rw [e9 41 (by decide) (by decide) (by decide) (by decide) (by decide)]; exact h41
    · rw [e8 190 (by decide) (by omega)]; exact u1
    · rw [e8 193 (by decide) (by omega)]; exact u2
    · show _ = if f = 198 then nI (kv W L (t + 1)) else σ.1.2.2.2.1
      by_cases c : f = 198
      · subst c; rw [mU_s, if_pos rfl]
      · rw [if_neg c, e8 198 (by decide) (by omega)]; exact u3
    · show _ = if f = 199 then nI (kv W L (t + 1)) else σ.1.2.2.2.2.1
      by_cases c : f = 199
      · subst c; rw [mU_s, if_pos rfl]
      · rw [if_neg c, e8 199 (by decide) (by omega)]; exact u4
    · rw [e8 191 (by decide) (by omega), e8 192 (by decide) (by omega)]; exact u5 p hp
    · rw [e8 194 (by decide) (by omega), e8 195 (by decide) (by omega), e8 196 (by decide) (by omega), e8 197 (by decide) (by omega)]; exact u6 i hi
    · exact mMwQ_e (fun a p q => e8 a (by omega) (by omega)) (u7 k hk)
/-- what is told, whatever it is -/
theorem c149 (hs : s < 2) (h : yS I J W L s t σ) (ok : σOk t σ) (hP : yTl xL rc rx rr s I J W L Q (sTell W L t σ)) : WP (d + 9) 149 0 [.ref 180, mDum, mDum] [] (mHh xL I J (mRf rc rx rr)) Q := by
  have hg : mRD I J W L t 0 0 := h.1.1
  have h19 : I 180 19 = nI s := h.2.2.1
  have kd := mRD_k hg
  have h4 := hg.2.2.2.1
  have ht := hg.2.1
  have e13 : I 180 13 = 0 := hg.2.2.2.2.1
  have m1 : mIn (nI t) 403 = true := mIn_nI (by omega) (by omega)
  have m2 : (nI t).toNatClampNeg = t := nI_clamp (by omega)
  have hkl := tKd_lt W L (tp W L t)
  change kk W L t < 40 at hkl
  have s1 : mIn (nI s) 2 = true := mIn_nI (by omega) (by omega)
  have s2 : (nI s).toNatClampNeg = s := nI_clamp (by omega)
  have hx := h.1
  rw [sTell] at hP
  simp only [w149_0, w149_1, w149_4, w149_5, h4, w149_8 (hi := m1), m2, kd.1]
  by_cases k20 : kk W L t = 20
  · rw [if_pos k20] at hP
    rw [k20, show nI 20 = 20 from rfl]
    simp only [w149_9_20]
    exact y149p (d := d + 5) hs h ok k20 hP
  · rw [if_neg k20] at hP
    by_cases k21 : kk W L t = 21
    · rw [if_pos k21] at hP
      rw [k21, show nI 21 = 21 from rfl]
      simp only [w149_9_21]
      exact y149d (d := d + 4) hs h ok k21 hP
    · rw [if_neg k21] at hP
      by_cases k26 : kk W L t = 26
      · rw [if_neg (by omega), if_pos k26] at hP
        rw [k26, show nI 26 = 26 from rfl]
        simp only [w149_9_26, w149_190, w149_191, w149_194, w149_195, h19, w149_198, w149_199, w149_201]
        refine c160 (d := d + 5) hx k26 (by decide) (m := 100) (by decide) rfl (fun I1 x f1 g1 v => ?_)
        simp only [↓reduceIte, Option.toList_some, Option.toList_none, List.cons_append, List.nil_append, Int32.reduceAdd, Int32.reduceLT, Int32.reduceLE, Int32.reduceToNatClampNeg, w149_204 (hi := s1), s2, w149_205, w149_280]
        exact yS_int (Or.inl rfl) hs h (κ := 26) (m := 100) (by decide) f1 g1 v (u := uSli W L t σ) (fun w => rfl) hP
      · by_cases k27 : kk W L t = 27
        · rw [if_neg (by omega), if_neg k26, if_pos k27] at hP
          rw [k27, show nI 27 = 27 from rfl]
          simp only [w149_9_27, w149_208, w149_209, w149_212, w149_213, h19, w149_216, w149_217, w149_220]
          refine c160 (d := d + 5) hx k27 (by decide) (m := 9999) (by decide) rfl (fun I1 x f1 g1 v => ?_)
          simp only [↓reduceIte, Option.toList_some, Option.toList_none, List.cons_append, List.nil_append, Int32.reduceAdd, Int32.reduceLT, Int32.reduceLE, Int32.reduceToNatClampNeg, w149_223 (hi := s1), s2, w149_224, w149_280]
          exact yS_int (Or.inr rfl) hs h (κ := 27) (m := 9999) (by decide) f1 g1 v (u := uSee W L t σ) (fun w => rfl) hP
        · have to227 : WP (d + 9) 149 9 [.ref 180, mDum, mDum] [.int (nI (kk W L t))] (mHh xL I J (mRf rc rx rr)) Q = WP (d + 9) 149 227 [.ref 180, mDum, mDum] [] (mHh xL I J (mRf rc rx rr)) Q := by
            have hc : ∀ k, k < 40 → (k = 20 ∨ k = 21 ∨ k = 26 ∨ k = 27) ∨ ((nI k = 22 ∨ nI k = 23 ∨ nI k = 24 ∨ nI k = 25) ∨ ((nI k).toInt < 20 ∨ 27 < (nI k).toInt)) := by decide +kernel
            rcases hc _ hkl with e | e | e
            · omega
            · rcases e with e | e | e | e <;> rw [e]
              · rw [w149_9_22]
              · rw [w149_9_23]
              · rw [w149_9_24]
              · rw [w149_9_25]
            · rw [w149_9_o (hx := e)]
          rw [to227]
          simp only [w149_227, w149_228, w149_231, w149_232, h4, w149_235 (hi := m1), m2, kd.1, w149_236, w149_238, w149_239, w149_240]
          by_cases k22 : 22 ≤ kk W L t ∧ kk W L t ≤ 25
          · rw [if_pos k22] at hP
            have ek : nI (kk W L t) - 22 = nI (kk W L t - 22) := by
              have : ∀ k, k < 4 → nI (22 + k) - 22 = nI k := by decide
              have z := this (kk W L t - 22) (by omega)
              rw [show 22 + (kk W L t - 22) = kk W L t by omega] at z
              exact z
            have n0 : ¬ nI (kk W L t - 22) < 0 := nI_pos (by omega)
            have l25 : nI (kk W L t) ≤ 25 := by
              have : nI (kk W L t) ≤ nI 25 := nI_le (by omega) (by decide)
              exact this
            have z13 : I 180 13 ≤ 0 := by rw [e13]; decide
            simp only [ek, w149_241, n0, ↓reduceIte, w149_244, w149_245, w149_248, w149_249, h4, w149_252 (hi := m1), m2, kd.1, w149_253, w149_255, l25, w149_263, w149_264, w149_267, z13]
            exact y149l (d := d) hs (show kk W L t - 22 < 4 by omega) h (by omega) hP
          · rw [if_neg k22, if_neg k26, if_neg k27] at hP
            have m1' := mRD_fl hg (g := 1) (by decide) (by decide)
            have ff := mFlt_f I 1 (nI (tp W L t))
            have e13' : ¬ mFlt I 1 (nI (tp W L t)) 180 13 ≤ 0 := by
              have e := m1'.2.2.2.2.1
              change mFlt I 1 (nI (tp W L t)) 180 13 = nI 1 at e
              rw [e]; decide
            have fin : ∀ v : Value, WP (d + 9) 149 258 [.ref 180, v, mDum] [] (mHh xL I J (mRf rc rx rr)) Q := by
              intro v
              simp only [w149_258, w149_259, w149_260, c151 (d := d + 8) hg, ↓reduceIte, Option.toList_some, Option.toList_none, List.cons_append, List.nil_append, Int32.reduceAdd, Int32.reduceLT, Int32.reduceLE, Int32.reduceToNatClampNeg, w149_263, w149_264, w149_267, e13', w149_270]
              exact hP _ J (fYm_h (fM1_y ff)) (fun _ _ => rfl) ⟨t, m1', (by decide : (1 : Nat) ≠ 0)⟩
            have hc : ∀ k, k < 40 → (22 ≤ k ∧ k ≤ 25) ∨ (k = 26 ∨ k = 27) ∨ nI k - 22 < 0 ∨ (¬ nI k - 22 < 0 ∧ ¬ nI k ≤ 25) := by decide +kernel
            rcases hc _ hkl with e | e | e | ⟨e, e'⟩
            · exact absurd e k22
            · omega
            · simp only [w149_241, e, ↓reduceIte]
              exact fin _
            · simp only [w149_241, e, ↓reduceIte, w149_244, w149_245, w149_248, w149_249, h4, w149_252 (hi := m1), m2, kd.1, w149_253, w149_255, e']
              exact fin _
end MTF
