/-! The model's cut, whole. -/
section LXF
variable {d : Nat} {xL : Nat} {I : Nat → Nat → Int32} {J : Nat → Nat → Int64} {rc rx rr : Nat} {Q : Option Value → mHp → Prop} {L : Nat} {W : Nat → Int32}
theorem c142 (h : xTm I L W) (hJ : kJ J) (hQ : ∀ I' J' n, fMk I I' → fMj J J' → mTk I' J' W L n → Q none (mHh xL I' J' (mRf rc rx rr))) : WP (d + 2) 142 0 [.ref 180, mDum, mDum, mDum, mDum, mDum, mDum, mDum] [] (mHh xL I J (mRf rc rx rr)) Q := by
  have hL := h.1
  have main : ∀ m p, p ≤ L → L - p < m → ∀ k I' J' v2 v3 v4 v6 v7, fMk I I' → fMj J J' → I' 180 10 = nI k → k ≤ 401 → (∀ j, j < k → mRwT I' J' W L j) → (∀ j, j < k → kk W L j ≠ 0) → sk W L p = tp W L k → WP (d + 2) 142 7 [.ref 180, .int (nI p), v2, v3, v4, mDum, v6, v7] [] (mHh xL I' J' (mRf rc rx rr)) Q := by
    intro m
    induction m with
    | zero => intro p _ hm; omega
    | succ m ih =>
      intro p hp hm k I' J' v2 v3 v4 v6 v7 f1 f2 h4 hk hr hz hs
      have h' := fMk_t f1 h
      have hJ' := fMj_J f2 hJ
      rw [w142_7]
      by_cases hk4 : k = 401
      · have g0 : (400 : Int32) < nI k := by rw [ni_lt 400 (by decide) (by omega)]; omega
        simp only [w142_8, h4, w142_11, w142_14, g0, ↓reduceIte, w142_294]
        exact hQ I' J' k f1 f2 ⟨⟨by omega, by omega, h4⟩, hr, fun j hj => hz j (by omega), Or.inl hk4⟩
      · have g0 : ¬ (400 : Int32) < nI k := by rw [ni_lt 400 (by decide) (by omega)]; omega
        simp only [w142_8, h4, w142_11, w142_14, g0, ↓reduceIte, w142_17, w142_18, w142_19, c143 h' (show p < 2 ^ 31 by omega), ↓reduceIte, Option.toList_some, Option.toList_none, List.cons_append, List.nil_append, Int32.reduceAdd, Int32.reduceLT, Int32.reduceLE, Int32.reduceToNatClampNeg, w142_22, w142_23, w142_24, w142_25, h'.2.1, w142_28]
        by_cases hl : p < L
        · have g1 : nI p < nI L := (nI_ltI (by omega) (by omega)).2 hl
          have eb : btL W L p = bt W p := by rw [btL, if_pos hl]
          have hc := bt_lt W p
          have b9 : nI (bt W p) = 9 ↔ bt W p = 9 := in_eq 9 (by decide) (by omega)
          have b10 : nI (bt W p) = 10 ↔ bt W p = 10 := in_eq 10 (by decide) (by omega)
          have b13 : nI (bt W p) = 13 ↔ bt W p = 13 := in_eq 13 (by decide) (by omega)
          have b32 : nI (bt W p) = 32 ↔ bt W p = 32 := in_eq 32 (by decide) (by omega)
          have pp : ∀ f, pAt f W L p = f (bt W p) := by intro f; rw [pAt, decide_eq_true hl, Bool.true_and]
          have blank : isBl (bt W p) = true → WP (d + 2) 142 67 [.ref 180, .int (nI p), .int (nI (bt W p)), v3, v4, mDum, v6, v7] [] (mHh xL I' J' (mRf rc rx rr)) Q := by
            intro hb
            simp only [w142_67, w142_70, w142_291, nI_1]
            refine ih (p + 1) (by omega) (by omega) k I' J' _ v3 v4 v6 v7 f1 f2 h4 hk hr hz ?_
            rw [← hs]
            exact (sk_1 (by rw [pp]; exact hb)).symm
          simp only [g1, ↓reduceIte, eb, w142_43, w142_44, w142_46, b9]
          by_cases c9 : bt W p = 9
          · simp only [c9, ↓reduceIte] at blank ⊢; exact blank (by decide)
          · simp only [c9, ↓reduceIte, w142_49, w142_50, w142_52, b10]
            by_cases c10 : bt W p = 10
            · simp only [c10, ↓reduceIte] at blank ⊢; exact blank (by decide)
            · simp only [c10, ↓reduceIte, w142_55, w142_56, w142_58, b13]
              by_cases c13 : bt W p = 13
              · simp only [c13, ↓reduceIte] at blank ⊢; exact blank (by decide)
              · simp only [c13, ↓reduceIte, w142_61, w142_62, w142_64, b32]
                by_cases c32 : bt W p = 32
                · simp only [c32, ↓reduceIte] at blank ⊢; exact blank (by decide)
                · have nb : isBl (bt W p) = false := by
                    rw [isBl, decide_eq_false c9, decide_eq_false c10, decide_eq_false c13, decide_eq_false c32]; rfl
                  have htp : tp W L k = p := by rw [← hs]; exact sk_0 (by rw [pp]; exact nb)
                  have hte := tEnd_b W hl
                  have nz : kk W L k ≠ 0 := by
                    intro z
                    have := (kk_0 W L k).1 z
                    omega
                  have hkd : kk W L k = tKd W L p := by rw [kk, htp]
                  have next : ∀ x w v2 v3 v4 v6 v7, (kk W L k = 2 → x = nI (kv W L k)) → (kk W L k = 1 ∨ 20 ≤ kk W L k → w = kn W L k) → WP (d + 2) 142 7 [.ref 180, .int (nI (tEnd W L p)), v2, v3, v4, mDum, v6, v7] [] (mHh xL (mtI I' k (nI (kk W L k)) (nI p) x) (mU J' 186 k w) (mRf rc rx rr)) Q := by
                    intro x w v2 v3 v4 v6 v7 q1 q2
                    refine ih (tEnd W L p) hte.2 (by omega) (k + 1) _ _ v2 v3 v4 v6 v7 (mtI_f f1 _ _ _ _) (fun a ha => by rw [mU_f ha, f2 a ha]) (mU_s _ _ _ _) (by omega) ?_ ?_ ?_
                    · have := mtI_r hr q1 q2
                      rw [htp] at this
                      exact this
                    · intro j hj
                      by_cases e : j = k
                      · subst e; exact nz
                      · exact hz j (by omega)
                    · rw [tp, htp, if_pos hl]
                  simp only [c32, ↓reduceIte, w142_73, w142_74, c145 hc, ↓reduceIte, Option.toList_some, Option.toList_none, List.cons_append, List.nil_append, Int32.reduceAdd, Int32.reduceLT, Int32.reduceLE, Int32.reduceToNatClampNeg, w142_77]
                  by_cases h1 : isLt (bt W p) = true
                  · have ht : tEnd W L p = rE (pAt isLt W L) (L - p) p := by rw [tEnd, if_pos h1]
                    simp only [h1, sB_t, o01, ↓reduceIte, w142_80, w142_81, w142_82, w142_83]
                    have w0 := c142w (d := d) (Q := Q) (xL := xL) (J := J') (rc := rc) (rx := rx) (rr := rr) h' (i := p) (v2 := .int (nI (bt W p))) (v6 := v6) (v7 := v7) (L - p) p (by omega) (Nat.le_refl _) 0 (fun _ => by rw [Nat.sub_self]; rfl) ?_ _ rfl
                    · rw [Nat.sub_self] at w0
                      exact w0
                    · intro a ha
                      rw [← ht] at ha ⊢
                      have g8 : (nI (tEnd W L p - p) ≤ 8) ↔ ¬ 8 < tEnd W L p - p := by rw [in_le 8 (by decide) (by omega)]; omega
                      have g9 : (8 < nI (tEnd W L p - p)) ↔ 8 < tEnd W L p - p := ni_lt 8 (by decide) (by omega)
                      have eadd : nI p + nI (tEnd W L p - p) = nI (tEnd W L p) := by rw [nI_add]; congr 1; omega
                      have tok : ∀ g v7, g = nI (kk W L k) → (kk W L k = 1 ∨ 20 ≤ kk W L k → lN a = kn W L k) → kk W L k ≠ 2 → WP (d + 2) 142 179 [.ref 180, .int (nI p), .int (nI (bt W p)), .int (nI (tEnd W L p - p)), .long (lN a), mDum, .int g, v7] [] (mHh xL I' J' (mRf rc rx rr)) Q := by
                        intro g v7 hg hw h2
                        subst hg
                        simp only [w142_179, w142_180, w142_182, w142_183, w142_184, w142_186, c144 h4 (show k ≤ 402 by omega), ↓reduceIte, Option.toList_some, Option.toList_none, List.cons_append, List.nil_append, Int32.reduceAdd, Int32.reduceLT, Int32.reduceLE, Int32.reduceToNatClampNeg, w142_189, w142_190, w142_191, eadd, w142_192, w142_193, w142_291]
                        exact next _ _ _ _ _ _ _ (fun z => absurd z h2) hw
                      have hk1 : kk W L k = if 8 < tEnd W L p - p then 3 else wdK (lN (wN W (tEnd W L p - p) p 0)) := by
                        rw [hkd, tKd, if_neg (by omega), if_pos h1]
                      simp only [w142_124, w142_125, w142_127, g8]
                      by_cases h8 : 8 < tEnd W L p - p
                      · rw [if_pos h8] at hk1
                        simp only [h8, not_true_eq_false, ↓reduceIte, w142_130, w142_131, w142_135, w142_137, w142_138, w142_140, g9]
                        refine tok 3 _ ?_ (fun z => ?_) ?_
                        · rw [hk1]; rfl
                        · exfalso; omega
                        · omega
                      · rw [if_neg h8] at hk1
                        have ea := ha (by omega)
                        simp only [h8, not_false_eq_true, ↓reduceIte, w142_134, w142_135, w142_137, w142_138, w142_140, g9, w142_143, w142_144]
                        refine Eq.mpr (c142k (d := d) (Q := Q) hJ' 20 0 rfl 1) (tok _ _ ?_ (fun _ => ?_) ?_)
                        · rw [hk1, ← ea, wdK]
                          show (match kidx (lN a) with | some i => nI (20 + i) | none => 1) = _
                          cases kidx (lN a) with
                          | none => rfl
                          | some i => rfl
                        · rw [kn, htp, ea]
                        · rw [hk1]; exact wdK_2 _
                  · have h1' : isLt (bt W p) = false := by simpa using h1
                    simp only [h1', sB_f, ↓reduceIte, w142_196, w142_197, c146 hc, ↓reduceIte, Option.toList_some, Option.toList_none, List.cons_append, List.nil_append, Int32.reduceAdd, Int32.reduceLT, Int32.reduceLE, Int32.reduceToNatClampNeg, w142_200]
                    by_cases h2 : isDg (bt W p) = true
                    · have ht : tEnd W L p = rE (pAt isDg W L) (L - p) p := by rw [tEnd, if_neg h1, if_pos h2]
                      simp only [h2, sB_t, o01, ↓reduceIte, w142_203, w142_204, w142_205, w142_206]
                      have w0 := c142d (d := d) (Q := Q) (xL := xL) (J := J') (rc := rc) (rx := rx) (rr := rr) h' (i := p) (v2 := .int (nI (bt W p))) (v5 := mDum) (v6 := v6) (v7 := v7) (L - p) p (by omega) (Nat.le_refl _) 0 (fun _ => by rw [Nat.sub_self]; rfl) ?_ _ rfl
                      · rw [Nat.sub_self] at w0
                        exact w0
                      · intro a ha
                        rw [← ht] at ha ⊢
                        have g8 : (nI (tEnd W L p - p) ≤ 4) ↔ ¬ 4 < tEnd W L p - p := by rw [in_le 4 (by decide) (by omega)]; omega
                        have eadd : nI p + nI (tEnd W L p - p) = nI (tEnd W L p) := by rw [nI_add]; congr 1; omega
                        have hk1 : kk W L k = if 4 < tEnd W L p - p then 3 else 2 := by
                          rw [hkd, tKd, if_neg (by omega), if_neg h1, if_pos h2]
                        have tok : ∀ g : Int32, g = nI (kk W L k) → WP (d + 2) 142 261 [.ref 180, .int (nI p), .int (nI (bt W p)), .int (nI (tEnd W L p - p)), .int a, mDum, v6, v7] [.int g, .ref 180] (mHh xL I' J' (mRf rc rx rr)) Q := by
                          intro g hg
                          subst hg
                          simp only [w142_261, w142_262, w142_264, w142_265, c144 h4 (show k ≤ 402 by omega), ↓reduceIte, Option.toList_some, Option.toList_none, List.cons_append, List.nil_append, Int32.reduceAdd, Int32.reduceLT, Int32.reduceLE, Int32.reduceToNatClampNeg, w142_268, w142_269, w142_270, eadd, w142_271, w142_272, w142_291]
                          refine next _ _ _ _ _ _ _ (fun z => ?_) (fun z => ?_)
                          · rw [kv, htp]
                            apply ha
                            rw [hk1] at z
                            split at z
                            · cases z
                            · omega
                          · exfalso
                            rw [hk1] at z
                            split at z <;> omega
                        simp only [w142_250, w142_251, w142_252, w142_253, g8]
                        by_cases h8 : 4 < tEnd W L p - p
                        · rw [if_pos h8] at hk1
                          simp only [h8, not_true_eq_false, ↓reduceIte, w142_256, w142_257]
                          exact tok 3 (by rw [hk1]; rfl)
                        · rw [if_neg h8] at hk1
                          simp only [h8, not_false_eq_true, ↓reduceIte, w142_260]
                          exact tok 2 (by rw [hk1]; rfl)
                    · have h2' : isDg (bt W p) = false := by simpa using h2
                      have ht : tEnd W L p = p + 1 := by rw [tEnd, if_neg h1, if_neg h2]
                      have hk1 : kk W L k = sgK (bt W p) := by
                        rw [hkd, tKd, if_neg (by omega), if_neg h1, if_neg h2]
                      have hsg := sgK_2 _ hc
                      simp only [h2', sB_f, ↓reduceIte, w142_275, w142_276, w142_277, w142_278, w142_279, w142_280, w142_281, w142_282, nI_1, w142_283, c143 h' (show p + 1 < 2 ^ 31 by omega), ↓reduceIte, Option.toList_some, Option.toList_none, List.cons_append, List.nil_append, Int32.reduceAdd, Int32.reduceLT, Int32.reduceLE, Int32.reduceToNatClampNeg, w142_286, c147 (d := d) h4 (show k ≤ 402 by omega) hc, w142_289, w142_290, w142_291, ← hk1]
                      rw [← ht]
                      exact next _ _ _ _ _ _ _ (fun z => by omega) (fun z => by omega)
        · have ep : p = L := by omega
          have g1 : ¬ nI p < nI L := by rw [nI_ltI (by omega) (by omega)]; omega
          have htp : tp W L k = L := by
            rw [← hs, ep]
            have := sk_b W (Nat.le_refl L)
            omega
          have hk0 : kk W L k = 0 := (kk_0 W L k).2 (by omega)
          have rw' := mtI_r hr (x := 0) (w := 0) (k := k) (fun z => by omega) (fun z => by omega)
          rw [hk0, htp] at rw'
          simp only [g1, ↓reduceIte, w142_31, w142_32, w142_33, w142_34, h'.2.1, w142_37, w142_38, w142_39, c144 h4 (show k ≤ 402 by omega), ↓reduceIte, Option.toList_some, Option.toList_none, List.cons_append, List.nil_append, Int32.reduceAdd, Int32.reduceLT, Int32.reduceLE, Int32.reduceToNatClampNeg, w142_42]
          exact hQ _ _ (k + 1) (mtI_f f1 _ _ _ _) (fun a ha => by rw [mU_f ha, f2 a ha]) ⟨⟨by omega, by omega, mU_s _ _ _ _⟩, rw', fun j hj => hz j (by omega), Or.inr hk0⟩
  have b1 : fMk I (mU I 180 10 0) := ⟨fun a h0 _ _ _ => mU_f h0, fun j hj => mU_k hj⟩
  simp only [w142_0, w142_1, w142_2, w142_5, w142_6]
  exact main (L + 1) 0 (Nat.zero_le _) (by omega) 0 (mU I 180 10 0) J _ _ _ _ _ b1 (fun _ _ => rfl) (mU_s _ _ _ _) (by omega) (fun j hj => absurd hj (by omega)) (fun j hj => absurd hj (by omega)) rfl
end LXF
