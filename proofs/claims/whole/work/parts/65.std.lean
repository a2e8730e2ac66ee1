/-! What is done by hand: the model, the rest. -/
section STD
variable {d : Nat} {xL : Nat} {Z I : Nat → Nat → Int32} {J : Nat → Nat → Int64} {rc rx rr : Nat} {Q : Option Value → mHp → Prop} {s : Nat} {η : mHs} {ρ : mRo5} {u : Nat} {H : Nat → mRo5} {g : Nat} {K : Nat → mRo5} {t : Nat} {τ : mTo} {L : Nat} {W : Nat → Int32} {pl : Int32}
theorem c201 (hV : zV Z I s η ρ u H g K t τ L W pl) (hH : 0 < u → rOk η (H 0) ∧ ∃ m, m ≤ 2 ^ 29 ∧ H 0 5 = nI m) (hQ1 : u = 0 → Q (some (.int 0)) (mHh xL I J (mRf rc rx rr))) (hQ2 : 0 < u → ∀ I', zV Z I' s η (H 0) (u - 1) (fun i => H (i + 1)) g K t τ L W pl → Q (some (.int 1)) (mHh xL I' J (mRf rc rx rr))) : WP d 201 0 [.ref 180, mDum] [] (mHh xL I J (mRf rc rx rr)) Q := by
  obtain ⟨b1, ⟨z1, z2, z3⟩, -⟩ := id hV
  have e8 : ∀ k, 8 * nI k = nI (8 * k) := fun k => pk_mul 8 k
  simp only [w201_0, w201_1, z2, w201_4]
  by_cases h0 : u = 0
  · have e : nI u = 0 := by rw [h0]; rfl
    simp only [e, ↓reduceIte, w201_7, w201_8, nb0]
    exact hQ1 h0
  · have e : ¬ nI u = 0 := nI_ne0 (by omega) (by omega)
    obtain ⟨ok, hm⟩ := hH (by omega)
    have eu : nI u - 1 = nI (u - 1) := pk_sub (b := 1) (by omega)
    simp only [e, ↓reduceIte, w201_9, w201_10, w201_11, z2, w201_14, w201_15, eu, w201_16, w201_19, w201_20]
    have key : ∀ k, k ≤ 8 → ∀ I' : Nat → Nat → Int32, (∀ a, a ≠ 212 → I' a = mU I 180 54 (nI (u - 1)) a) → (∀ j, j < k → I' 212 j = H 0 j) → WP d 201 21 [.ref 180, .int (nI k)] [] (mHh xL I' J (mRf rc rx rr)) Q := by
      refine iter_dn ?_ ?_
      · intro k hk ih I' f t
        have g1 : ¬ 8 ≤ nI k := by rw [ni_le 8 (by decide) (by omega)]; omega
        have a1 : mIn (nI k) 8 = true := mIn_nI (by omega) (by omega)
        have a2 : (nI k).toNatClampNeg = k := nI_clamp (by omega)
        have a3 : mIn (nI (8 * (u - 1) + k)) 320 = true := mIn_nI (by omega) (by omega)
        have a4 : (nI (8 * (u - 1) + k)).toNatClampNeg = 8 * (u - 1) + k := nI_clamp (by omega)
        have e2 : I' 180 54 = nI (u - 1) := by rw [f 180 (by decide), mU_s]
        have e3 : I' 215 (8 * (u - 1) + k) = H 0 k := by rw [f 215 (by decide), mU_f (by decide)]; exact z3 0 (by omega) k hk
        rw [w201_21]
        simp only [w201_22, w201_24, g1, ↓reduceIte, w201_27, w201_28, w201_31, w201_32, w201_33, w201_36, w201_38, w201_39, e2, w201_42, e8, w201_43, w201_44, nI_add, w201_45, a3, a4, e3, w201_46, a1, a2, w201_47, w201_50, nI_1]
        refine ih _ (fun a p => by rw [mU_f p, f a p]) ?_
        intro j hj
        by_cases e : j = k
        · subst e; exact mU_s _ _ _ _
        · rw [mU_k e]; exact t j (by omega)
      · intro I' f t
        have g1 : 8 ≤ nI 8 := by decide
        rw [w201_21]
        simp only [w201_22, w201_24, g1, ↓reduceIte, w201_53, w201_54, nb1]
        refine hQ2 (by omega) I' (zV_new hV ⟨fun a p => by rw [f a (by omega), mU_f (by omega)], fun k _ _ _ q => by rw [f 180 (by decide), mU_k q]⟩ ⟨by omega, by rw [f 180 (by decide), mU_s], ?_⟩ (mNw_of t ok.2.2.2.2.2) ok hm)
        intro i hi k hk
        rw [f 215 (by decide), mU_f (by decide), show 8 * (u - 1 - 1 - i) + k = 8 * (u - 1 - (i + 1)) + k by omega]
        exact z3 (i + 1) (by omega) k hk
    exact key 0 (by omega) _ (fun _ _ => rfl) (fun j hj => absurd hj (by omega))
/-- what stands where the row now and the house are left as they are -/
theorem zV_k {I' : Nat → Nat → Int32} {g' : Nat} {K' : Nat → mRo5} {t' : Nat} {τ' : mTo} {L' : Nat} {W' : Nat → Int32} (h : zV Z I s η ρ u H g K t τ L W pl) (f : ∀ a, a ≠ 180 → ¬ (222 ≤ a ∧ a ≤ 224) → ¬ (226 ≤ a ∧ a ≤ 227) → a ≠ 181 → I' a = I a) (ff : ∀ k, k = 18 ∨ k = 54 ∨ k = 17 → I' 180 k = I 180 k) (hs : zSl I' g' K') (hk : zK I' t' τ') (ht : zTp I' L' W') : zV Z I' s η ρ u H g' K' t' τ' L' W' pl := by
  obtain ⟨h1, ⟨a1, a2, a3⟩, -, -, -, h6⟩ := h
  refine ⟨⟨h1.1, mMh_keep (fun a p q => f a (by omega) (by omega) (by omega) (by omega)) (ff 18 (Or.inl rfl)) h1.2.1, mNw_o (f 212 (by decide) (by decide) (by decide) (by decide)) h1.2.2.1, h1.2.2.2⟩, ⟨a1, by rw [ff 54 (by omega)]; exact a2, fun i hi k hk => by rw [f 215 (by decide) (by decide) (by decide) (by decide)]; exact a3 i hi k hk⟩, hs, hk, ht, by rw [ff 17 (by omega)]; exact h6.1, fun a ha => by rw [f a (by omega) (by omega) (by omega) (by omega)]; exact h6.2 a ha⟩
theorem zK_k {I' : Nat → Nat → Int32} (f : ∀ a, 222 ≤ a → a ≤ 224 → I' a = I a) (f2 : I' 180 62 = I 180 62) (h : zK I t τ) : zK I' t τ := by
  obtain ⟨h1, h2, h3⟩ := h
  refine ⟨h1, by rw [f2]; exact h2, fun i hi => ?_⟩
  rw [f 222 (by decide) (by decide), f 223 (by decide) (by decide), f 224 (by decide) (by decide)]
  exact h3 i hi
theorem zTp_k {I' : Nat → Nat → Int32} (f : I' 181 = I 181) (f2 : I' 180 2 = I 180 2) (h : zTp I L W) : zTp I' L W := by
  obtain ⟨h1, h2, h3⟩ := h
  exact ⟨h1, by rw [f2]; exact h2, fun i hi => by rw [f]; exact h3 i hi⟩
theorem zSl_k {I' : Nat → Nat → Int32} (f : I' 226 = I 226) (f2 : I' 227 = I 227) (h : zSl I g K) : zSl I' g K := by
  obtain ⟨h1, h2⟩ := h
  exact ⟨h1, fun k hk => by rw [f, f2]; exact h2 k hk⟩
theorem c251 (hV : zV Z I s η ρ u H g K t τ L W pl) (x : Int32) (hQ1 : sW x 0 2 = false → Q (some (.int 0)) (mHh xL I J (mRf rc rx rr))) (hQ2 : ∀ k, k < 3 → x = nI k → ∀ I', zV Z I' s η ρ u H (g ||| 2 ^ k) (kU K k ρ) t τ L W pl → Q (some (.int 1)) (mHh xL I' J (mRf rc rx rr))) : WP (d + 1) 251 0 [.ref 180, .int x, mDum] [] (mHh xL I J (mRf rc rx rr)) Q := by
  obtain ⟨v1, v2, ⟨h1, h2⟩, v4, v5, v6⟩ := id hV
  have e8 : ∀ k, 8 * nI k = nI (8 * k) := fun k => pk_mul 8 k
  have e9 : (decide ((0 : Int32) ≤ x) && decide (x ≤ 2)) = sW x 0 2 := rfl
  have vn1 : vp_nar .boolean 1 = 1 := by decide
  simp only [w251_0, w251_1, w251_2, w251_3, c170, e9, ↓reduceIte, Option.toList_some, Option.toList_none, List.cons_append, List.nil_append, Int32.reduceAdd, Int32.reduceLT, Int32.reduceLE, Int32.reduceToNatClampNeg, w251_6]
  by_cases h : sW x 0 2 = true
  · simp only [sB_t h, o01, ↓reduceIte]
    obtain ⟨k, -, hk, rfl⟩ := (sW_iff (a := 0) (b := 2) rfl rfl).1 h
    have a1 : mIn (nI k) 3 = true := mIn_nI (by omega) (by omega)
    have a2 : (nI k).toNatClampNeg = k := nI_clamp (by omega)
    obtain ⟨⟨-, e2⟩, e3⟩ := gS g h1 k (by omega)
    simp only [w251_11, w251_12, w251_15, w251_16, w251_17, a1, a2, vn1, w251_18, w251_19]
    have key : ∀ j, j ≤ 8 → ∀ I' : Nat → Nat → Int32, (∀ a, a ≠ 227 → I' a = mU I 226 k 1 a) → (∀ i, i < 8 * k ∨ 8 * k + 8 ≤ i → I' 227 i = I 227 i) → (∀ i, i < j → I' 227 (8 * k + i) = ρ i) → WP (d + 1) 251 20 [.ref 180, .int (nI k), .int (nI j)] [] (mHh xL I' J (mRf rc rx rr)) Q := by
      refine iter_dn ?_ ?_
      · intro j hj ih I' f t1 t2
        have g1 : ¬ 8 ≤ nI j := by rw [ni_le 8 (by decide) (by omega)]; omega
        have b1 : mIn (nI j) 8 = true := mIn_nI (by omega) (by omega)
        have b2 : (nI j).toNatClampNeg = j := nI_clamp (by omega)
        have b3 : mIn (nI (8 * k + j)) 24 = true := mIn_nI (by omega) (by omega)
        have b4 : (nI (8 * k + j)).toNatClampNeg = 8 * k + j := nI_clamp (by omega)
        have e1 : I' 212 j = ρ j := by rw [f 212 (by decide), mU_f (by decide)]; exact mNw_at v1.2.2.1 hj
        rw [w251_20]
        simp only [w251_21, w251_23, g1, ↓reduceIte, w251_26, w251_27, w251_30, w251_32, w251_33, e8, w251_34, w251_35, nI_add, w251_36, w251_37, w251_40, w251_41, b1, b2, e1, w251_42, b3, b4, w251_43, w251_46, nI_1]
        refine ih _ (fun a p => by rw [mU_f p, f a p]) ?_ ?_
        · intro i hi
          rw [mU_k (by omega)]; exact t1 i hi
        · intro i hi
          by_cases e : i = j
          · subst e; exact mU_s _ _ _ _
          · rw [mU_k (by omega)]; exact t2 i (by omega)
      · intro I' f t1 t2
        have g1 : 8 ≤ nI 8 := by decide
        have f0 : ∀ a, a ≠ 226 → a ≠ 227 → I' a = I a := fun a p q => by rw [f a q, mU_f p]
        rw [w251_20]
        simp only [w251_21, w251_23, g1, ↓reduceIte, w251_49, w251_50, nb1]
        refine hQ2 k (by omega) rfl I' (zV_k hV (fun a p q r w => f0 a (by omega) (by omega)) (fun k _ => by rw [f0 180 (by decide) (by decide)]) ⟨e2, ?_⟩ (zK_k (fun a p q => f0 a (by omega) (by omega)) (by rw [f0 180 (by decide) (by decide)]) v4) (zTp_k (f0 181 (by decide) (by decide)) (by rw [f0 180 (by decide) (by decide)]) v5))
        intro j hj
        obtain ⟨q1, q2⟩ := h2 j hj
        rw [e3 j hj, f 226 (by decide)]
        by_cases e : j = k
        · subst e
          refine ⟨?_, ?_⟩
          · rw [mU_s, decide_eq_true rfl, Bool.or_true]; rfl
          · intro _ i hi
            rw [kU, if_pos rfl]; exact t2 i hi
        · refine ⟨?_, ?_⟩
          · rw [mU_k e, decide_eq_false e, Bool.or_false]; exact q1
          · intro hg i hi
            rw [decide_eq_false e, Bool.or_false] at hg
            rw [kU, if_neg e, t1 _ (by omega)]
            exact q2 hg i hi
    exact key 0 (by omega) _ (fun _ _ => rfl) (fun i _ => by rw [mU_f (by decide)]) (fun i hi => absurd hi (by omega))
  · have h2 : sW x 0 2 = false := by simpa using h
    simp only [sB_f h2, ↓reduceIte, w251_9, w251_10, nb0]
    exact hQ1 h2
theorem c252 (hV : zV Z I s η ρ u H g K t τ L W pl) (x : Int32) (hK : ∀ k, k < 3 → g.testBit k = true → rOk η (K k) ∧ ∃ m, m ≤ 2 ^ 29 ∧ K k 5 = nI m) (hQ1 : (sW x 0 2 && g.testBit x.toNatClampNeg) = false → Q (some (.int 0)) (mHh xL I J (mRf rc rx rr))) (hQ2 : ∀ k, k < 3 → x = nI k → g.testBit k = true → ∀ I', zV Z I' s η (K k) 0 H g K t τ L W pl → Q (some (.int 1)) (mHh xL I' J (mRf rc rx rr))) : WP (d + 1) 252 0 [.ref 180, .int x, mDum] [] (mHh xL I J (mRf rc rx rr)) Q := by
  obtain ⟨v1, v2, ⟨h1, h2⟩, v4, v5, v6⟩ := id hV
  have e8 : ∀ k, 8 * nI k = nI (8 * k) := fun k => pk_mul 8 k
  have e9 : (decide ((0 : Int32) ≤ x) && decide (x ≤ 2)) = sW x 0 2 := rfl
  simp only [w252_0, w252_1, w252_2, w252_3, c170, e9, ↓reduceIte, Option.toList_some, Option.toList_none, List.cons_append, List.nil_append, Int32.reduceAdd, Int32.reduceLT, Int32.reduceLE, Int32.reduceToNatClampNeg, w252_6]
  by_cases h : sW x 0 2 = true
  · simp only [sB_t h, o01, ↓reduceIte]
    obtain ⟨k, -, hk, rfl⟩ := (sW_iff (a := 0) (b := 2) rfl rfl).1 h
    have a1 : mIn (nI k) 3 = true := mIn_nI (by omega) (by omega)
    have a2 : (nI k).toNatClampNeg = k := nI_clamp (by omega)
    obtain ⟨q1, q2⟩ := h2 k (by omega)
    simp only [w252_9, w252_10, w252_13, w252_14, a1, a2, q1, w252_15]
    by_cases hg : g.testBit k = true
    · obtain ⟨ok, hm⟩ := hK k (by omega) hg
      simp only [sB_t hg, o01, ↓reduceIte, w252_20, w252_21]
      have key : ∀ j, j ≤ 8 → ∀ I' : Nat → Nat → Int32, (∀ a, a ≠ 212 → I' a = I a) → (∀ i, i < j → I' 212 i = K k i) → WP (d + 1) 252 22 [.ref 180, .int (nI k), .int (nI j)] [] (mHh xL I' J (mRf rc rx rr)) Q := by
        refine iter_dn ?_ ?_
        · intro j hj ih I' f t2
          have g1 : ¬ 8 ≤ nI j := by rw [ni_le 8 (by decide) (by omega)]; omega
          have b1 : mIn (nI j) 8 = true := mIn_nI (by omega) (by omega)
          have b2 : (nI j).toNatClampNeg = j := nI_clamp (by omega)
          have b3 : mIn (nI (8 * k + j)) 24 = true := mIn_nI (by omega) (by omega)
          have b4 : (nI (8 * k + j)).toNatClampNeg = 8 * k + j := nI_clamp (by omega)
          have e1 : I' 227 (8 * k + j) = K k j := by rw [f 227 (by decide)]; exact q2 hg j hj
          rw [w252_22]
          simp only [w252_23, w252_25, g1, ↓reduceIte, w252_28, w252_29, w252_32, w252_33, w252_34, w252_37, w252_39, w252_40, e8, w252_41, w252_42, nI_add, w252_43, b3, b4, e1, w252_44, b1, b2, w252_45, w252_48, nI_1]
          refine ih _ (fun a p => by rw [mU_f p, f a p]) ?_
          intro i hi
          by_cases e : i = j
          · subst e; exact mU_s _ _ _ _
          · rw [mU_k e]; exact t2 i (by omega)
        · intro I' f t2
          have g1 : 8 ≤ nI 8 := by decide
          rw [w252_22]
          simp only [w252_23, w252_25, g1, ↓reduceIte, w252_51, w252_52, w252_53, w252_56, w252_57, nb1]
          refine hQ2 k (by omega) rfl hg _ (zV_new hV ⟨fun a p => by rw [mU_f (by omega), f a (by omega)], fun k _ _ _ q => by rw [mU_k q, f 180 (by decide)]⟩ ⟨by omega, mU_s _ _ _ _, fun i hi => absurd hi (by omega)⟩ (mNw_o (mU_f (by decide)) (mNw_of t2 ok.2.2.2.2.2)) ok hm)
      exact key 0 (by omega) I (fun _ _ => rfl) (fun i hi => absurd hi (by omega))
    · have hg2 : g.testBit k = false := by simpa using hg
      simp only [sB_f hg2, ↓reduceIte, w252_18, w252_19, nb0]
      exact hQ1 (by rw [a2, hg2, Bool.and_false])
  · have h2 : sW x 0 2 = false := by simpa using h
    simp only [sB_f h2, ↓reduceIte, w252_18, w252_19, nb0]
    exact hQ1 (by rw [h2, Bool.false_and])
theorem c245 (hV : zV Z I s η ρ u H g K t τ L W pl) (i v : Int32) (b : Bool) (hQ1 : sTl t i v = false → Q (some (.int (-1))) (mHh xL I J (mRf rc rx rr))) (hQ2 : t < 20 → ∀ j, j ≤ 24 → i = nI j → isM v = true → ∀ I', zV Z I' s η ρ u H g K (t + 1) (tU τ t (j, v, b)) L W pl → Q (some (.int (nI t))) (mHh xL I' J (mRf rc rx rr))) : WP (d + 2) 245 0 [.ref 180, .int i, .int v, .int (sB01 b)] [] (mHh xL I J (mRf rc rx rr)) Q := by
  obtain ⟨v1, v2, v3, ⟨k1, k2, k3⟩, v5, v6⟩ := id hV
  have e9 : (decide ((0 : Int32) ≤ i) && decide (i ≤ 24)) = sW i 0 24 := rfl
  simp only [w245_0, w245_1, k2, w245_4, w245_6]
  by_cases h3 : t < 20
  · have g1 : ¬ nI t = 20 := fun z => by have := (in_eq 20 (by decide) (by omega)).1 z; omega
    simp only [g1, ↓reduceIte, w245_9, w245_10, w245_11, w245_13, c170, e9, ↓reduceIte, Option.toList_some, Option.toList_none, List.cons_append, List.nil_append, Int32.reduceAdd, Int32.reduceLT, Int32.reduceLE, Int32.reduceToNatClampNeg, w245_16]
    by_cases h : sW i 0 24 = true
    · simp only [sB_t h, o01, ↓reduceIte, w245_19, w245_20, c203, ↓reduceIte, Option.toList_some, Option.toList_none, List.cons_append, List.nil_append, Int32.reduceAdd, Int32.reduceLT, Int32.reduceLE, Int32.reduceToNatClampNeg, w245_23]
      by_cases h2 : isM v = true
      · obtain ⟨j, -, hj, rfl⟩ := (sW_iff (a := 0) (b := 24) rfl rfl).1 h
        have a1 : mIn (nI t) 20 = true := mIn_nI (by omega) (by omega)
        have a2 : (nI t).toNatClampNeg = t := nI_clamp (by omega)
        have e1 : ∀ x y, mU I 222 x y 180 62 = nI t := fun x y => by rw [mU_a (by decide)]; exact k2
        have e2 : ∀ x y z w, mU (mU I 222 x y) 223 z w 180 62 = nI t := fun x y z w => by rw [mU_a (by decide)]; exact e1 x y
        have e3 : ∀ x y z w p q, mU (mU (mU I 222 x y) 223 z w) 224 p q 180 62 = nI t := fun x y z w p q => by rw [mU_a (by decide)]; exact e2 x y z w
        simp only [sB_t h2, o01, ↓reduceIte, w245_28, w245_29, w245_32, w245_33, k2, w245_36, w245_37, a1, a2, w245_38, w245_39, w245_42, w245_43, e1, w245_46, w245_47, w245_48, w245_49, w245_52, w245_53, e2, w245_56, w245_57, vnb, w245_58, w245_59, w245_60, e3, w245_63, w245_64, nI_1, w245_65, w245_68, w245_69, mU_s, w245_72, w245_73, nI_pred, w245_74]
        have f : ∀ a, ¬ (222 ≤ a ∧ a ≤ 224) → a ≠ 180 → mU (mU (mU (mU I 222 t (nI j)) 223 t v) 224 t (sB01 b)) 180 62 (nI (t + 1)) a = I a := by
          intro a p q
          rw [mU_f q, mU_f (by omega), mU_f (by omega), mU_f (by omega)]
        have ff : ∀ k, k ≠ 62 → mU (mU (mU (mU I 222 t (nI j)) 223 t v) 224 t (sB01 b)) 180 62 (nI (t + 1)) 180 k = I 180 k := by
          intro k hk
          rw [mU_k hk, mU_f (by decide), mU_f (by decide), mU_f (by decide)]
        refine hQ2 h3 j hj rfl h2 _ (zV_k hV (fun a p q r w => f a q p) (fun k hk => ff k (by omega)) (zSl_k (f 226 (by decide) (by decide)) (f 227 (by decide) (by decide)) v3) ⟨by omega, mU_s _ _ _ _, ?_⟩ (zTp_k (f 181 (by decide) (by decide)) (ff 2 (by decide)) v5))
        intro p hp
        by_cases e : p = t
        · subst e
          rw [tU, if_pos rfl]
          refine ⟨hj, ?_, ?_, ?_⟩
          · rw [mU_a (by decide), mU_a (by decide), mU_a (by decide), mU_s]
          · rw [mU_a (by decide), mU_a (by decide), mU_s]
          · rw [mU_a (by decide), mU_s]
        · obtain ⟨w1, w2, w3, w4⟩ := k3 p (by omega)
          rw [tU, if_neg e]
          refine ⟨w1, ?_, ?_, ?_⟩
          · rw [mU_a (by decide), mU_a (by decide), mU_a (by decide), mU_k e]; exact w2
          · rw [mU_a (by decide), mU_a (by decide), mU_k e, mU_a (by decide)]; exact w3
          · rw [mU_a (by decide), mU_k e, mU_a (by decide), mU_a (by decide)]; exact w4
      · have e2 : isM v = false := by simpa using h2
        simp only [sB_f e2, ↓reduceIte, w245_26, w245_27]
        exact hQ1 (by rw [sTl, e2, Bool.and_false, Bool.and_false])
    · have e2 : sW i 0 24 = false := by simpa using h
      simp only [sB_f e2, ↓reduceIte, w245_26, w245_27]
      exact hQ1 (by rw [sTl, e2, Bool.false_and, Bool.and_false])
  · have et : t = 20 := by omega
    have g1 : nI t = 20 := by rw [et]; rfl
    simp only [g1, ↓reduceIte, w245_26, w245_27]
    exact hQ1 (by rw [sTl, decide_eq_false h3, Bool.false_and])
theorem c246 (hV : zV Z I s η ρ u H g K t τ L W pl) (hQ : ∀ I', zV Z I' s η ρ u H g K 0 τ L W pl → Q (some (.int (nI t))) (mHh xL I' J (mRf rc rx rr))) : WP d 246 0 [.ref 180, mDum] [] (mHh xL I J (mRf rc rx rr)) Q := by
  obtain ⟨v1, v2, v3, ⟨k1, k2, k3⟩, v5, v6⟩ := id hV
  simp only [w246_0, w246_1, w246_4, w246_5, w246_6, w246_7, w246_10, w246_11, k2]
  exact hQ _ (zV_k hV (fun a p q r w => mU_f p) (fun k hk => mU_k (by omega)) (zSl_k (mU_f (by decide)) (mU_f (by decide)) v3) ⟨by omega, mU_s _ _ _ _, fun i hi => absurd hi (by omega)⟩ (zTp_k (mU_f (by decide)) (mU_k (by decide)) v5))
theorem c139 (h : zTp I L W) (hL : L + 4 ≤ 2000) (x : Int32) (hQ : ∀ I' : Nat → Nat → Int32, (∀ a, a ≠ 180 → a ≠ 181 → I' a = I a) → (∀ k, k ≠ 2 → I' 180 k = I 180 k) → zTp I' (L + 4) (wA W L x) → Q none (mHh xL I' J (mRf rc rx rr))) : WP d 139 0 [.ref 180, .int x, mDum] [] (mHh xL I J (mRf rc rx rr)) Q := by
  have st : ∀ (s s' : Int32) (L : Nat) (W : Nat → Int32) (I : Nat → Nat → Int32), ¬ s < 0 → s + (-8) = s' → L < 2000 → zTp I L W → (∀ I' : Nat → Nat → Int32, (∀ a, a ≠ 180 → a ≠ 181 → I' a = I a) → (∀ k, k ≠ 2 → I' 180 k = I 180 k) → zTp I' (L + 1) (wU W L (byt x s)) → WP d 139 3 [.ref 180, .int x, .int s'] [] (mHh xL I' J (mRf rc rx rr)) Q) → WP d 139 3 [.ref 180, .int x, .int s] [] (mHh xL I J (mRf rc rx rr)) Q := by
    intro s s' L W I hs es hL h go
    obtain ⟨h1, h2, h3⟩ := h
    have a1 : mIn (nI L) 2000 = true := mIn_nI (by omega) (by omega)
    have a2 : (nI L).toNatClampNeg = L := nI_clamp (by omega)
    have e1 : ∀ x y, mU I 181 x y 180 2 = nI L := fun x y => by rw [mU_a (by decide)]; exact h2
    rw [w139_3]
    simp only [w139_4, hs, ↓reduceIte, w139_7, w139_8, w139_11, w139_12, h2, w139_15, w139_16, w139_17, w139_18, w139_19, a1, a2, w139_20, w139_21, w139_22, e1, w139_25, w139_26, nI_1, w139_27, w139_30, es, w139_33]
    refine go _ (fun a p q => by rw [mU_f p, mU_f q]) (fun k hk => by rw [mU_k hk, mU_f (by decide)]) ⟨by omega, mU_s _ _ _ _, ?_⟩
    intro i hi
    rw [mU_f (by decide)]
    by_cases e : i = L
    · subst e; rw [mU_s, wU, if_pos rfl]; rfl
    · rw [mU_k e, wU, if_neg e]; exact h3 i (by omega)
  rw [w139_0, w139_2]
  refine st 24 16 L W I (by decide) (by decide) (by omega) h ?_
  intro I1 f1 g1 h1
  refine st 16 8 (L + 1) _ I1 (by decide) (by decide) (by omega) h1 ?_
  intro I2 f2 g2 h2
  refine st 8 0 (L + 2) _ I2 (by decide) (by decide) (by omega) h2 ?_
  intro I3 f3 g3 h3
  refine st 0 (-8) (L + 3) _ I3 (by decide) (by decide) (by omega) h3 ?_
  intro I4 f4 g4 h4
  have n1 : ((-8 : Int32) < 0) = True := by simp
  rw [w139_3]
  simp only [w139_4, n1, ↓reduceIte, w139_36]
  exact hQ I4 (fun a p q => by rw [f4 a p q, f3 a p q, f2 a p q, f1 a p q]) (fun k hk => by rw [g4 k hk, g3 k hk, g2 k hk, g1 k hk]) h4
theorem zV_t {I' : Nat → Nat → Int32} {L' : Nat} {W' : Nat → Int32} (hV : zV Z I s η ρ u H g K t τ L W pl) (f : ∀ a, a ≠ 180 → a ≠ 181 → I' a = I a) (ff : ∀ k, k ≠ 2 → I' 180 k = I 180 k) (h : zTp I' L' W') : zV Z I' s η ρ u H g K t τ L' W' pl :=
  zV_k hV (fun a p _ _ w => f a p w) (fun k hk => ff k (by omega)) (zSl_k (f 226 (by decide) (by decide)) (f 227 (by decide) (by decide)) hV.2.2.1) (zK_k (fun a p q => f a (by omega) (by omega)) (ff 62 (by decide)) hV.2.2.2.1) h
theorem c138 (hV : zV Z I s η ρ u H g K t τ L W pl) (a b c e f : Int32) (hQ1 : ¬ L + 20 ≤ 2000 → Q (some (.int (-1))) (mHh xL I J (mRf rc rx rr))) (hQ2 : L + 20 ≤ 2000 → ∀ I', zV Z I' s η ρ u H g K t τ (L + 20) (wF W L a b c e f) pl → Q (some (.int (nI (L + 20)))) (mHh xL I' J (mRf rc rx rr))) : WP (d + 1) 138 0 [.ref 180, .int a, .int b, .int c, .int e, .int f] [] (mHh xL I J (mRf rc rx rr)) Q := by
  obtain ⟨l1, l2, l3⟩ := hV.2.2.2.2.1
  have e20 : nI L + 20 = nI (L + 20) := nI_add L 20
  have eg : (nI (L + 20) ≤ 2000) ↔ L + 20 ≤ 2000 := in_le 2000 (by decide) (by omega)
  simp only [w138_0, w138_1, l2, w138_4, w138_6, e20, w138_7, w138_10, eg]
  by_cases h : L + 20 ≤ 2000
  · simp only [h, ↓reduceIte, w138_15, w138_16, w138_17]
    refine c139 hV.2.2.2.2.1 (by omega) a ?_
    intro I1 f1 g1 h1
    simp only [↓reduceIte, Option.toList_some, Option.toList_none, List.cons_append, List.nil_append, Int32.reduceAdd, Int32.reduceLT, Int32.reduceLE, Int32.reduceToNatClampNeg, w138_20, w138_21, w138_22]
    refine c139 h1 (by omega) b ?_
    intro I2 f2 g2 h2
    simp only [↓reduceIte, Option.toList_some, Option.toList_none, List.cons_append, List.nil_append, Int32.reduceAdd, Int32.reduceLT, Int32.reduceLE, Int32.reduceToNatClampNeg, w138_25, w138_26, w138_27]
    refine c139 h2 (by omega) c ?_
    intro I3 f3 g3 h3
    simp only [↓reduceIte, Option.toList_some, Option.toList_none, List.cons_append, List.nil_append, Int32.reduceAdd, Int32.reduceLT, Int32.reduceLE, Int32.reduceToNatClampNeg, w138_30, w138_31, w138_33]
    refine c139 h3 (by omega) e ?_
    intro I4 f4 g4 h4
    simp only [↓reduceIte, Option.toList_some, Option.toList_none, List.cons_append, List.nil_append, Int32.reduceAdd, Int32.reduceLT, Int32.reduceLE, Int32.reduceToNatClampNeg, w138_36, w138_37, w138_39]
    refine c139 h4 (by omega) f ?_
    intro I5 f5 g5 h5
    have e5 : I5 180 2 = nI (L + 4 + 4 + 4 + 4 + 4) := h5.2.1
    simp only [↓reduceIte, Option.toList_some, Option.toList_none, List.cons_append, List.nil_append, Int32.reduceAdd, Int32.reduceLT, Int32.reduceLE, Int32.reduceToNatClampNeg, w138_42, w138_43, e5, w138_46]
    exact hQ2 h I5 (zV_t hV (fun a p q => by rw [f5 a p q, f4 a p q, f3 a p q, f2 a p q, f1 a p q]) (fun k hk => by rw [g5 k hk, g4 k hk, g3 k hk, g2 k hk, g1 k hk]) h5)
  · simp only [h, ↓reduceIte, w138_13, w138_14]
    exact hQ1 h
theorem c140 (hV : zV Z I s η ρ u H g K t τ L W pl) (n : Int32) (hQ1 : sW n 0 (nI L) = false → Q (some (.int (-1))) (mHh xL I J (mRf rc rx rr))) (hQ2 : ∀ k, k ≤ L → n = nI k → ∀ I', zV Z I' s η ρ u H g K t τ (L - k) W pl → Q (some (.int (nI (L - k)))) (mHh xL I' J (mRf rc rx rr))) : WP d 140 0 [.ref 180, .int n] [] (mHh xL I J (mRf rc rx rr)) Q := by
  obtain ⟨l1, l2, l3⟩ := hV.2.2.2.2.1
  have hl : (nI L).toInt = (L : Int) := nI_toInt (by omega)
  by_cases h : sW n 0 (nI L) = true
  · obtain ⟨k, -, hk, rfl⟩ := (sW_iff (a := 0) (b := L) rfl hl).1 h
    have g1 : ¬ nI k < 0 := nI_pos (by omega)
    have g2 : nI k ≤ nI L := nI_le hk (by omega)
    simp only [w140_0, w140_1, g1, ↓reduceIte, w140_4, w140_5, w140_6, l2, w140_9, g2, w140_14, w140_15, w140_16, w140_19, w140_20, pk_sub hk, w140_21, w140_24, w140_25, mU_s, w140_28]
    exact hQ2 k hk rfl _ (zV_t hV (fun a p q => mU_f p) (fun k hk => mU_k hk) ⟨by omega, mU_s _ _ _ _, fun i hi => by rw [mU_f (by decide)]; exact l3 i (by omega)⟩)
  · have h2 : sW n 0 (nI L) = false := by simpa using h
    rw [sW, Bool.and_eq_true, decide_eq_true_eq, decide_eq_true_eq] at h
    by_cases g1 : n < 0
    · simp only [w140_0, w140_1, g1, ↓reduceIte, w140_12, w140_13]
      exact hQ1 h2
    · have g2 : ¬ n ≤ nI L := fun z => h ⟨i_nlt g1, z⟩
      simp only [w140_0, w140_1, g1, ↓reduceIte, w140_4, w140_5, w140_6, l2, w140_9, g2, w140_12, w140_13]
      exact hQ1 h2
theorem c167 (hV : zV Z I s η ρ u H g K t τ L W pl) : WP d 167 0 [.ref 180] [] (mHh xL I J (mRf rc rx rr)) Q = Q (some (.int pl)) (mHh xL I J (mRf rc rx rr)) := by
  obtain ⟨v1, v2, v3, v4, v5, v6⟩ := hV
  simp only [w167_0, w167_1, w167_4, v6.1]
end STD
