/-! The law's cases: hands. -/
section LQC
variable {d : Nat} {xL : Nat} {I : Nat → Nat → Int32} {J : Nat → Nat → Int64} {o o' : Nat} {Q : Option Value → mHp → Prop} {n : Nat} {xs : Nat → Int32}
theorem l_0 (hn : n < 512) (hx6 : 6 * n + 6 ≤ xL) (hxL : xL ≤ 3072) (hI : lIx xL xs n I J o o') (ih : ∀ I' J' o1 o2, lIx xL xs (n + 1) I' J' o1 o2 → WP (d + 40) 268 1376 [.ref 6, .ref 7, .ref 180, .int (nI (6 * n))] [] (mHh xL I' J' (mRf o1 o1 o2)) Q) : WP (d + 40) 268 208 [.ref 6, .ref 7, .ref 180, .int (nI (6 * n))] [] (mHh xL I J (mRf o o o')) Q := by
  obtain ⟨ho, b, s, η, ρ, u, H, g, K, t, τ, L, W, pl, hx, hz, c⟩ := hI
  have e1 : nI (6 * n) + 1 = nI (6 * n + 1) := nI_add (6 * n) 1
  have a1 : mIn (nI (6 * n + 1)) xL = true := mIn_nI (by omega) (by omega)
  have c1 : (nI (6 * n + 1)).toNatClampNeg = 6 * n + 1 := nI_clamp (by omega)
  have x1 : I 6 (6 * n + 1) = xs (6 * n + 1) := b.2.2.2.2 _ (by omega)
  have e2 : nI (6 * n) + 2 = nI (6 * n + 2) := nI_add (6 * n) 2
  have a2 : mIn (nI (6 * n + 2)) xL = true := mIn_nI (by omega) (by omega)
  have c2 : (nI (6 * n + 2)).toNatClampNeg = 6 * n + 2 := nI_clamp (by omega)
  have x2 : I 6 (6 * n + 2) = xs (6 * n + 2) := b.2.2.2.2 _ (by omega)
  have e3 : nI (6 * n) + 3 = nI (6 * n + 3) := nI_add (6 * n) 3
  have a3 : mIn (nI (6 * n + 3)) xL = true := mIn_nI (by omega) (by omega)
  have c3 : (nI (6 * n + 3)).toNatClampNeg = 6 * n + 3 := nI_clamp (by omega)
  have x3 : I 6 (6 * n + 3) = xs (6 * n + 3) := b.2.2.2.2 _ (by omega)
  have e4 : nI (6 * n) + 4 = nI (6 * n + 4) := nI_add (6 * n) 4
  have a4 : mIn (nI (6 * n + 4)) xL = true := mIn_nI (by omega) (by omega)
  have c4 : (nI (6 * n + 4)).toNatClampNeg = 6 * n + 4 := nI_clamp (by omega)
  have x4 : I 6 (6 * n + 4) = xs (6 * n + 4) := b.2.2.2.2 _ (by omega)
  have e5 : nI (6 * n) + 5 = nI (6 * n + 5) := nI_add (6 * n) 5
  have a5 : mIn (nI (6 * n + 5)) xL = true := mIn_nI (by omega) (by omega)
  have c5 : (nI (6 * n + 5)).toNatClampNeg = 6 * n + 5 := nI_clamp (by omega)
  have x5 : I 6 (6 * n + 5) = xs (6 * n + 5) := b.2.2.2.2 _ (by omega)
  simp only [w268_208, w268_209, w268_210, w268_211, w268_212, e1, u268_213 (hi := a1), c1, x1, w268_214, w268_215, w268_216, w268_217, e2, u268_218 (hi := a2), c2, x2, w268_219, w268_220, w268_221, w268_222, e3, u268_223 (hi := a3), c3, x3, w268_224, w268_225, w268_226, w268_227, e4, u268_228 (hi := a4), c4, x4, w268_229, w268_230, w268_231, w268_232, e5, u268_233 (hi := a5), c5, x5, w268_234]
  refine c77 (d := d + 38) hx (xs (6 * n + 1)) (xs (6 * n + 2)) (xs (6 * n + 3)) (xs (6 * n + 4)) (xs (6 * n + 5)) (fun h => ?_) (fun h I1 hx1 => ?_)
  · simp only [↓reduceIte, Option.toList_some, Option.toList_none, List.cons_append, List.nil_append, Int32.reduceAdd, Int32.reduceLT, Int32.reduceLE, Int32.reduceToNatClampNeg, w268_237, w268_238, w268_239, w268_240, w268_241, e1, u268_242 (hi := a1), c1, x1, w268_243, w268_244, w268_245, w268_246, e2, u268_247 (hi := a2), c2, x2, w268_248, w268_249, w268_250, w268_251, e3, u268_252 (hi := a3), c3, x3, w268_253, w268_254, w268_255, w268_256, e4, u268_257 (hi := a4), c4, x4, w268_258, w268_259, w268_260, w268_261, e5, u268_262 (hi := a5), c5, x5, w268_263]
    refine c138 (d := d + 38) hz (xs (6 * n + 1)) (xs (6 * n + 2)) (xs (6 * n + 3)) (xs (6 * n + 4)) (xs (6 * n + 5)) (fun _ => ?_) (fun h' => absurd h' h)
    simp only [↓reduceIte, Option.toList_some, Option.toList_none, List.cons_append, List.nil_append, Int32.reduceAdd, Int32.reduceLT, Int32.reduceLE, Int32.reduceToNatClampNeg, w268_266, ↓reduceIte]
    exact ih I J o o' (lIx_mk ho b hx hz (lCo_q c))
  · have hz1 := zV_x hx1 hz
    have y1 : I1 6 (6 * n + 1) = xs (6 * n + 1) := by rw [hx1.2.2.2.2.2.2 6 (Or.inl (by decide))]; exact x1
    have y2 : I1 6 (6 * n + 2) = xs (6 * n + 2) := by rw [hx1.2.2.2.2.2.2 6 (Or.inl (by decide))]; exact x2
    have y3 : I1 6 (6 * n + 3) = xs (6 * n + 3) := by rw [hx1.2.2.2.2.2.2 6 (Or.inl (by decide))]; exact x3
    have y4 : I1 6 (6 * n + 4) = xs (6 * n + 4) := by rw [hx1.2.2.2.2.2.2 6 (Or.inl (by decide))]; exact x4
    have y5 : I1 6 (6 * n + 5) = xs (6 * n + 5) := by rw [hx1.2.2.2.2.2.2 6 (Or.inl (by decide))]; exact x5
    simp only [↓reduceIte, Option.toList_some, Option.toList_none, List.cons_append, List.nil_append, Int32.reduceAdd, Int32.reduceLT, Int32.reduceLE, Int32.reduceToNatClampNeg, w268_237, w268_238, w268_239, w268_240, w268_241, e1, u268_242 (hi := a1), c1, y1, w268_243, w268_244, w268_245, w268_246, e2, u268_247 (hi := a2), c2, y2, w268_248, w268_249, w268_250, w268_251, e3, u268_252 (hi := a3), c3, y3, w268_253, w268_254, w268_255, w268_256, e4, u268_257 (hi := a4), c4, y4, w268_258, w268_259, w268_260, w268_261, e5, u268_262 (hi := a5), c5, y5, w268_263]
    refine c138 (d := d + 38) hz1 (xs (6 * n + 1)) (xs (6 * n + 2)) (xs (6 * n + 3)) (xs (6 * n + 4)) (xs (6 * n + 5)) (fun h' => absurd h h') (fun _ I2 hz2 => ?_)
    simp only [↓reduceIte, Option.toList_some, Option.toList_none, List.cons_append, List.nil_append, Int32.reduceAdd, Int32.reduceLT, Int32.reduceLE, Int32.reduceToNatClampNeg, w268_266, ↓reduceIte]
    exact ih I2 J o o' (lIx_mk ho b hx1 hz2 (lCo_t c (wF_b c.1)))
theorem l_1 (hn : n < 512) (hx6 : 6 * n + 6 ≤ xL) (hxL : xL ≤ 3072) (hI : lIx xL xs n I J o o') (ih : ∀ I' J' o1 o2, lIx xL xs (n + 1) I' J' o1 o2 → WP (d + 40) 268 1376 [.ref 6, .ref 7, .ref 180, .int (nI (6 * n))] [] (mHh xL I' J' (mRf o1 o1 o2)) Q) : WP (d + 40) 268 271 [.ref 6, .ref 7, .ref 180, .int (nI (6 * n))] [] (mHh xL I J (mRf o o o')) Q := by
  obtain ⟨ho, b, s, η, ρ, u, H, g, K, t, τ, L, W, pl, hx, hz, c⟩ := hI
  have e1 : nI (6 * n) + 1 = nI (6 * n + 1) := nI_add (6 * n) 1
  have a1 : mIn (nI (6 * n + 1)) xL = true := mIn_nI (by omega) (by omega)
  have c1 : (nI (6 * n + 1)).toNatClampNeg = 6 * n + 1 := nI_clamp (by omega)
  have x1 : I 6 (6 * n + 1) = xs (6 * n + 1) := b.2.2.2.2 _ (by omega)
  simp only [w268_271, w268_272, w268_273, w268_274, w268_275, e1, u268_276 (hi := a1), c1, x1, w268_277]
  refine c78 (d := d + 39) hx (xs (6 * n + 1)) (fun h => ?_) (fun k hk e I1 hx1 => ?_)
  · simp only [↓reduceIte, Option.toList_some, Option.toList_none, List.cons_append, List.nil_append, Int32.reduceAdd, Int32.reduceLT, Int32.reduceLE, Int32.reduceToNatClampNeg, w268_280, w268_281, w268_282, w268_283, w268_284, e1, u268_285 (hi := a1), c1, x1, w268_286]
    refine c140 (d := d + 39) hz (xs (6 * n + 1)) (fun _ => ?_) (fun k hk e => absurd (sW_nI (m := L) ⟨k, e, hk⟩ (by have := hx.2.2.2.2.1.1; omega)) (by rw [h]; decide))
    simp only [↓reduceIte, Option.toList_some, Option.toList_none, List.cons_append, List.nil_append, Int32.reduceAdd, Int32.reduceLT, Int32.reduceLE, Int32.reduceToNatClampNeg, w268_289, ↓reduceIte]
    exact ih I J o o' (lIx_mk ho b hx hz (lCo_q c))
  · have hL := hx.2.2.2.2.1.1
    have hz1 := zV_x hx1 hz
    have y1 : I1 6 (6 * n + 1) = xs (6 * n + 1) := by rw [hx1.2.2.2.2.2.2 6 (Or.inl (by decide))]; exact x1
    simp only [↓reduceIte, Option.toList_some, Option.toList_none, List.cons_append, List.nil_append, Int32.reduceAdd, Int32.reduceLT, Int32.reduceLE, Int32.reduceToNatClampNeg, w268_280, w268_281, w268_282, w268_283, w268_284, e1, u268_285 (hi := a1), c1, y1, w268_286]
    refine c140 (d := d + 39) hz1 (xs (6 * n + 1)) (fun h' => absurd (sW_nI (m := L) ⟨k, e, hk⟩ (by omega)) (by rw [h']; decide)) (fun k' hk' e' I2 hz2 => ?_)
    have ek : k' = k := nI_ij (by omega) (by omega) (e'.symm.trans e)
    subst ek
    simp only [↓reduceIte, Option.toList_some, Option.toList_none, List.cons_append, List.nil_append, Int32.reduceAdd, Int32.reduceLT, Int32.reduceLE, Int32.reduceToNatClampNeg, w268_289, ↓reduceIte]
    exact ih I2 J o o' (lIx_mk ho b hx1 hz2 (lCo_t c (fun i hi => c.1 i (by omega))))
theorem l_7 (hn : n < 512) (hx6 : 6 * n + 6 ≤ xL) (hxL : xL ≤ 3072) (hI : lIx xL xs n I J o o') (ih : ∀ I' J' o1 o2, lIx xL xs (n + 1) I' J' o1 o2 → WP (d + 40) 268 1376 [.ref 6, .ref 7, .ref 180, .int (nI (6 * n))] [] (mHh xL I' J' (mRf o1 o1 o2)) Q) : WP (d + 40) 268 399 [.ref 6, .ref 7, .ref 180, .int (nI (6 * n))] [] (mHh xL I J (mRf o o o')) Q := by
  obtain ⟨ho, b, s, η, ρ, u, H, g, K, t, τ, L, W, pl, hx, hz, c⟩ := hI
  simp only [w268_399, w268_400]
  refine c90 (d := d + 34) hx  (fun h => ?_) (fun h I1 hx1 => ?_)
  · simp only [↓reduceIte, Option.toList_some, Option.toList_none, List.cons_append, List.nil_append, Int32.reduceAdd, Int32.reduceLT, Int32.reduceLE, Int32.reduceToNatClampNeg, w268_403, w268_404]
    refine c188 (d := d + 34) hz  (fun _ => ?_) (fun h' => absurd h h')
    simp only [↓reduceIte, Option.toList_some, Option.toList_none, List.cons_append, List.nil_append, Int32.reduceAdd, Int32.reduceLT, Int32.reduceLE, Int32.reduceToNatClampNeg, w268_407, ↓reduceIte]
    exact ih I J o o' (lIx_mk ho b hx hz (lCo_q c))
  · have hz1 := zV_x hx1 hz
    simp only [↓reduceIte, Option.toList_some, Option.toList_none, List.cons_append, List.nil_append, Int32.reduceAdd, Int32.reduceLT, Int32.reduceLE, Int32.reduceToNatClampNeg, w268_403, w268_404]
    refine c188 (d := d + 34) hz1  (fun h' => absurd h' h) (fun _ I2 hz2 => ?_)
    simp only [↓reduceIte, Option.toList_some, Option.toList_none, List.cons_append, List.nil_append, Int32.reduceAdd, Int32.reduceLT, Int32.reduceLE, Int32.reduceToNatClampNeg, w268_407, ↓reduceIte]
    exact ih I2 J o o' (lIx_mk ho b hx1 hz2 (lCo_p c hx.1.2.2.2.1 (hrs_6 (k := 6) (by decide) c.2.1)))
theorem l_8 (hn : n < 512) (hx6 : 6 * n + 6 ≤ xL) (hxL : xL ≤ 3072) (hI : lIx xL xs n I J o o') (ih : ∀ I' J' o1 o2, lIx xL xs (n + 1) I' J' o1 o2 → WP (d + 40) 268 1376 [.ref 6, .ref 7, .ref 180, .int (nI (6 * n))] [] (mHh xL I' J' (mRf o1 o1 o2)) Q) : WP (d + 40) 268 412 [.ref 6, .ref 7, .ref 180, .int (nI (6 * n))] [] (mHh xL I J (mRf o o o')) Q := by
  obtain ⟨ho, b, s, η, ρ, u, H, g, K, t, τ, L, W, pl, hx, hz, c⟩ := hI
  simp only [w268_412, w268_413]
  refine c91 (d := d + 37) hx  (fun h => ?_) (fun h I1 hx1 => ?_)
  · simp only [↓reduceIte, Option.toList_some, Option.toList_none, List.cons_append, List.nil_append, Int32.reduceAdd, Int32.reduceLT, Int32.reduceLE, Int32.reduceToNatClampNeg, w268_416, w268_417]
    refine c191 (d := d + 36) hz  (fun _ => ?_) (fun h' => absurd h h')
    simp only [↓reduceIte, Option.toList_some, Option.toList_none, List.cons_append, List.nil_append, Int32.reduceAdd, Int32.reduceLT, Int32.reduceLE, Int32.reduceToNatClampNeg, w268_420, ↓reduceIte]
    exact ih I J o o' (lIx_mk ho b hx hz (lCo_q c))
  · have hz1 := zV_x hx1 hz
    simp only [↓reduceIte, Option.toList_some, Option.toList_none, List.cons_append, List.nil_append, Int32.reduceAdd, Int32.reduceLT, Int32.reduceLE, Int32.reduceToNatClampNeg, w268_416, w268_417]
    refine c191 (d := d + 36) hz1  (fun h' => absurd h' h) (fun _ I2 hz2 => ?_)
    simp only [↓reduceIte, Option.toList_some, Option.toList_none, List.cons_append, List.nil_append, Int32.reduceAdd, Int32.reduceLT, Int32.reduceLE, Int32.reduceToNatClampNeg, w268_420, ↓reduceIte]
    exact ih I2 J o o' (lIx_mk ho b hx1 hz2 (lCo_p c hx.1.2.2.2.1 (hrs_6 (k := 6) (by decide) c.2.1)))
theorem l_9 (hn : n < 512) (hx6 : 6 * n + 6 ≤ xL) (hxL : xL ≤ 3072) (hI : lIx xL xs n I J o o') (ih : ∀ I' J' o1 o2, lIx xL xs (n + 1) I' J' o1 o2 → WP (d + 40) 268 1376 [.ref 6, .ref 7, .ref 180, .int (nI (6 * n))] [] (mHh xL I' J' (mRf o1 o1 o2)) Q) : WP (d + 40) 268 425 [.ref 6, .ref 7, .ref 180, .int (nI (6 * n))] [] (mHh xL I J (mRf o o o')) Q := by
  obtain ⟨ho, b, s, η, ρ, u, H, g, K, t, τ, L, W, pl, hx, hz, c⟩ := hI
  have e1 : nI (6 * n) + 1 = nI (6 * n + 1) := nI_add (6 * n) 1
  have a1 : mIn (nI (6 * n + 1)) xL = true := mIn_nI (by omega) (by omega)
  have c1 : (nI (6 * n + 1)).toNatClampNeg = 6 * n + 1 := nI_clamp (by omega)
  have x1 : I 6 (6 * n + 1) = xs (6 * n + 1) := b.2.2.2.2 _ (by omega)
  have e2 : nI (6 * n) + 2 = nI (6 * n + 2) := nI_add (6 * n) 2
  have a2 : mIn (nI (6 * n + 2)) xL = true := mIn_nI (by omega) (by omega)
  have c2 : (nI (6 * n + 2)).toNatClampNeg = 6 * n + 2 := nI_clamp (by omega)
  have x2 : I 6 (6 * n + 2) = xs (6 * n + 2) := b.2.2.2.2 _ (by omega)
  by_cases cb : xs (6 * n + 2) = 0
  · simp only [w268_425, w268_426, w268_427, w268_428, w268_429, e1, u268_430 (hi := a1), c1, x1, w268_431, w268_432, w268_433, w268_434, e2, u268_435 (hi := a2), c2, x2, w268_436, if_pos cb, w268_443, w268_444]
    refine c92 (d := d + 37) hx (xs (6 * n + 1)) false (fun h => ?_) (fun h I1 hx1 => ?_)
    · simp only [↓reduceIte, Option.toList_some, Option.toList_none, List.cons_append, List.nil_append, Int32.reduceAdd, Int32.reduceLT, Int32.reduceLE, Int32.reduceToNatClampNeg, w268_447, w268_448, w268_449, w268_450, w268_451, e1, u268_452 (hi := a1), c1, x1, w268_453, w268_454, w268_455, w268_456, e2, u268_457 (hi := a2), c2, x2, w268_458, if_pos cb, w268_465, w268_466]
      refine c192 (d := d + 36) hz (xs (6 * n + 1)) false (fun _ => ?_) (fun h' => absurd h' (by rw [h]; decide))
      simp only [↓reduceIte, Option.toList_some, Option.toList_none, List.cons_append, List.nil_append, Int32.reduceAdd, Int32.reduceLT, Int32.reduceLE, Int32.reduceToNatClampNeg, w268_469, ↓reduceIte]
      exact ih I J o o' (lIx_mk ho b hx hz (lCo_q c))
    · have hz1 := zV_x hx1 hz
      have y1 : I1 6 (6 * n + 1) = xs (6 * n + 1) := by rw [hx1.2.2.2.2.2.2 6 (Or.inl (by decide))]; exact x1
      have y2 : I1 6 (6 * n + 2) = xs (6 * n + 2) := by rw [hx1.2.2.2.2.2.2 6 (Or.inl (by decide))]; exact x2
      simp only [↓reduceIte, Option.toList_some, Option.toList_none, List.cons_append, List.nil_append, Int32.reduceAdd, Int32.reduceLT, Int32.reduceLE, Int32.reduceToNatClampNeg, w268_447, w268_448, w268_449, w268_450, w268_451, e1, u268_452 (hi := a1), c1, y1, w268_453, w268_454, w268_455, w268_456, e2, u268_457 (hi := a2), c2, y2, w268_458, if_pos cb, w268_465, w268_466]
      refine c192 (d := d + 36) hz1 (xs (6 * n + 1)) false (fun h' => absurd h' (by rw [h]; decide)) (fun _ I2 hz2 => ?_)
      simp only [↓reduceIte, Option.toList_some, Option.toList_none, List.cons_append, List.nil_append, Int32.reduceAdd, Int32.reduceLT, Int32.reduceLE, Int32.reduceToNatClampNeg, w268_469, ↓reduceIte]
      exact ih I2 J o o' (lIx_mk ho b hx1 hz2 (lCo_p c hx.1.2.2.2.1 (hrs_6 (k := 7) (by decide) c.2.1)))
  · simp only [w268_425, w268_426, w268_427, w268_428, w268_429, e1, u268_430 (hi := a1), c1, x1, w268_431, w268_432, w268_433, w268_434, e2, u268_435 (hi := a2), c2, x2, w268_436, if_neg cb, w268_439, w268_440, w268_444]
    refine c92 (d := d + 37) hx (xs (6 * n + 1)) true (fun h => ?_) (fun h I1 hx1 => ?_)
    · simp only [↓reduceIte, Option.toList_some, Option.toList_none, List.cons_append, List.nil_append, Int32.reduceAdd, Int32.reduceLT, Int32.reduceLE, Int32.reduceToNatClampNeg, w268_447, w268_448, w268_449, w268_450, w268_451, e1, u268_452 (hi := a1), c1, x1, w268_453, w268_454, w268_455, w268_456, e2, u268_457 (hi := a2), c2, x2, w268_458, if_neg cb, w268_461, w268_462, w268_466]
      refine c192 (d := d + 36) hz (xs (6 * n + 1)) true (fun _ => ?_) (fun h' => absurd h' (by rw [h]; decide))
      simp only [↓reduceIte, Option.toList_some, Option.toList_none, List.cons_append, List.nil_append, Int32.reduceAdd, Int32.reduceLT, Int32.reduceLE, Int32.reduceToNatClampNeg, w268_469, ↓reduceIte]
      exact ih I J o o' (lIx_mk ho b hx hz (lCo_q c))
    · have hz1 := zV_x hx1 hz
      have y1 : I1 6 (6 * n + 1) = xs (6 * n + 1) := by rw [hx1.2.2.2.2.2.2 6 (Or.inl (by decide))]; exact x1
      have y2 : I1 6 (6 * n + 2) = xs (6 * n + 2) := by rw [hx1.2.2.2.2.2.2 6 (Or.inl (by decide))]; exact x2
      simp only [↓reduceIte, Option.toList_some, Option.toList_none, List.cons_append, List.nil_append, Int32.reduceAdd, Int32.reduceLT, Int32.reduceLE, Int32.reduceToNatClampNeg, w268_447, w268_448, w268_449, w268_450, w268_451, e1, u268_452 (hi := a1), c1, y1, w268_453, w268_454, w268_455, w268_456, e2, u268_457 (hi := a2), c2, y2, w268_458, if_neg cb, w268_461, w268_462, w268_466]
      refine c192 (d := d + 36) hz1 (xs (6 * n + 1)) true (fun h' => absurd h' (by rw [h]; decide)) (fun _ I2 hz2 => ?_)
      simp only [↓reduceIte, Option.toList_some, Option.toList_none, List.cons_append, List.nil_append, Int32.reduceAdd, Int32.reduceLT, Int32.reduceLE, Int32.reduceToNatClampNeg, w268_469, ↓reduceIte]
      exact ih I2 J o o' (lIx_mk ho b hx1 hz2 (lCo_p c hx.1.2.2.2.1 (hrs_6 (k := 7) (by decide) c.2.1)))
theorem l_10 (hn : n < 512) (hx6 : 6 * n + 6 ≤ xL) (hxL : xL ≤ 3072) (hI : lIx xL xs n I J o o') (ih : ∀ I' J' o1 o2, lIx xL xs (n + 1) I' J' o1 o2 → WP (d + 40) 268 1376 [.ref 6, .ref 7, .ref 180, .int (nI (6 * n))] [] (mHh xL I' J' (mRf o1 o1 o2)) Q) : WP (d + 40) 268 474 [.ref 6, .ref 7, .ref 180, .int (nI (6 * n))] [] (mHh xL I J (mRf o o o')) Q := by
  obtain ⟨ho, b, s, η, ρ, u, H, g, K, t, τ, L, W, pl, hx, hz, c⟩ := hI
  have e1 : nI (6 * n) + 1 = nI (6 * n + 1) := nI_add (6 * n) 1
  have a1 : mIn (nI (6 * n + 1)) xL = true := mIn_nI (by omega) (by omega)
  have c1 : (nI (6 * n + 1)).toNatClampNeg = 6 * n + 1 := nI_clamp (by omega)
  have x1 : I 6 (6 * n + 1) = xs (6 * n + 1) := b.2.2.2.2 _ (by omega)
  have e2 : nI (6 * n) + 2 = nI (6 * n + 2) := nI_add (6 * n) 2
  have a2 : mIn (nI (6 * n + 2)) xL = true := mIn_nI (by omega) (by omega)
  have c2 : (nI (6 * n + 2)).toNatClampNeg = 6 * n + 2 := nI_clamp (by omega)
  have x2 : I 6 (6 * n + 2) = xs (6 * n + 2) := b.2.2.2.2 _ (by omega)
  by_cases cb : xs (6 * n + 2) = 0
  · simp only [w268_474, w268_475, w268_476, w268_477, w268_478, e1, u268_479 (hi := a1), c1, x1, w268_480, w268_481, w268_482, w268_483, e2, u268_484 (hi := a2), c2, x2, w268_485, if_pos cb, w268_492, w268_493]
    refine c93 (d := d + 37) hx (xs (6 * n + 1)) false (fun h => ?_) (fun h I1 hx1 => ?_)
    · simp only [↓reduceIte, Option.toList_some, Option.toList_none, List.cons_append, List.nil_append, Int32.reduceAdd, Int32.reduceLT, Int32.reduceLE, Int32.reduceToNatClampNeg, w268_496, w268_497, w268_498, w268_499, w268_500, e1, u268_501 (hi := a1), c1, x1, w268_502, w268_503, w268_504, w268_505, e2, u268_506 (hi := a2), c2, x2, w268_507, if_pos cb, w268_514, w268_515]
      refine c193 (d := d + 36) hz (xs (6 * n + 1)) false (fun _ => ?_) (fun h' => absurd h' (by rw [h]; decide))
      simp only [↓reduceIte, Option.toList_some, Option.toList_none, List.cons_append, List.nil_append, Int32.reduceAdd, Int32.reduceLT, Int32.reduceLE, Int32.reduceToNatClampNeg, w268_518, ↓reduceIte]
      exact ih I J o o' (lIx_mk ho b hx hz (lCo_q c))
    · have hp := sCh_5 hx.1.1 h
      have hz1 := zV_x hx1 hz
      have y1 : I1 6 (6 * n + 1) = xs (6 * n + 1) := by rw [hx1.2.2.2.2.2.2 6 (Or.inl (by decide))]; exact x1
      have y2 : I1 6 (6 * n + 2) = xs (6 * n + 2) := by rw [hx1.2.2.2.2.2.2 6 (Or.inl (by decide))]; exact x2
      simp only [↓reduceIte, Option.toList_some, Option.toList_none, List.cons_append, List.nil_append, Int32.reduceAdd, Int32.reduceLT, Int32.reduceLE, Int32.reduceToNatClampNeg, w268_496, w268_497, w268_498, w268_499, w268_500, e1, u268_501 (hi := a1), c1, y1, w268_502, w268_503, w268_504, w268_505, e2, u268_506 (hi := a2), c2, y2, w268_507, if_pos cb, w268_514, w268_515]
      refine c193 (d := d + 36) hz1 (xs (6 * n + 1)) false (fun h' => absurd h' (by rw [h]; decide)) (fun _ I2 hz2 => ?_)
      simp only [↓reduceIte, Option.toList_some, Option.toList_none, List.cons_append, List.nil_append, Int32.reduceAdd, Int32.reduceLT, Int32.reduceLE, Int32.reduceToNatClampNeg, w268_518, ↓reduceIte]
      exact ih I2 J o o' (lIx_mk ho b hx1 hz2 (lCo_p c hx.1.2.2.2.1 (hrs_6 hp c.2.1)))
  · simp only [w268_474, w268_475, w268_476, w268_477, w268_478, e1, u268_479 (hi := a1), c1, x1, w268_480, w268_481, w268_482, w268_483, e2, u268_484 (hi := a2), c2, x2, w268_485, if_neg cb, w268_488, w268_489, w268_493]
    refine c93 (d := d + 37) hx (xs (6 * n + 1)) true (fun h => ?_) (fun h I1 hx1 => ?_)
    · simp only [↓reduceIte, Option.toList_some, Option.toList_none, List.cons_append, List.nil_append, Int32.reduceAdd, Int32.reduceLT, Int32.reduceLE, Int32.reduceToNatClampNeg, w268_496, w268_497, w268_498, w268_499, w268_500, e1, u268_501 (hi := a1), c1, x1, w268_502, w268_503, w268_504, w268_505, e2, u268_506 (hi := a2), c2, x2, w268_507, if_neg cb, w268_510, w268_511, w268_515]
      refine c193 (d := d + 36) hz (xs (6 * n + 1)) true (fun _ => ?_) (fun h' => absurd h' (by rw [h]; decide))
      simp only [↓reduceIte, Option.toList_some, Option.toList_none, List.cons_append, List.nil_append, Int32.reduceAdd, Int32.reduceLT, Int32.reduceLE, Int32.reduceToNatClampNeg, w268_518, ↓reduceIte]
      exact ih I J o o' (lIx_mk ho b hx hz (lCo_q c))
    · have hp := sCh_5 hx.1.1 h
      have hz1 := zV_x hx1 hz
      have y1 : I1 6 (6 * n + 1) = xs (6 * n + 1) := by rw [hx1.2.2.2.2.2.2 6 (Or.inl (by decide))]; exact x1
      have y2 : I1 6 (6 * n + 2) = xs (6 * n + 2) := by rw [hx1.2.2.2.2.2.2 6 (Or.inl (by decide))]; exact x2
      simp only [↓reduceIte, Option.toList_some, Option.toList_none, List.cons_append, List.nil_append, Int32.reduceAdd, Int32.reduceLT, Int32.reduceLE, Int32.reduceToNatClampNeg, w268_496, w268_497, w268_498, w268_499, w268_500, e1, u268_501 (hi := a1), c1, y1, w268_502, w268_503, w268_504, w268_505, e2, u268_506 (hi := a2), c2, y2, w268_507, if_neg cb, w268_510, w268_511, w268_515]
      refine c193 (d := d + 36) hz1 (xs (6 * n + 1)) true (fun h' => absurd h' (by rw [h]; decide)) (fun _ I2 hz2 => ?_)
      simp only [↓reduceIte, Option.toList_some, Option.toList_none, List.cons_append, List.nil_append, Int32.reduceAdd, Int32.reduceLT, Int32.reduceLE, Int32.reduceToNatClampNeg, w268_518, ↓reduceIte]
      exact ih I2 J o o' (lIx_mk ho b hx1 hz2 (lCo_p c hx.1.2.2.2.1 (hrs_6 hp c.2.1)))
theorem l_11 (hn : n < 512) (hx6 : 6 * n + 6 ≤ xL) (hxL : xL ≤ 3072) (hI : lIx xL xs n I J o o') (ih : ∀ I' J' o1 o2, lIx xL xs (n + 1) I' J' o1 o2 → WP (d + 40) 268 1376 [.ref 6, .ref 7, .ref 180, .int (nI (6 * n))] [] (mHh xL I' J' (mRf o1 o1 o2)) Q) : WP (d + 40) 268 523 [.ref 6, .ref 7, .ref 180, .int (nI (6 * n))] [] (mHh xL I J (mRf o o o')) Q := by
  obtain ⟨ho, b, s, η, ρ, u, H, g, K, t, τ, L, W, pl, hx, hz, c⟩ := hI
  obtain ⟨m, hm1, hm2⟩ := c.2.1
  have e1 : nI (6 * n) + 1 = nI (6 * n + 1) := nI_add (6 * n) 1
  have a1 : mIn (nI (6 * n + 1)) xL = true := mIn_nI (by omega) (by omega)
  have c1 : (nI (6 * n + 1)).toNatClampNeg = 6 * n + 1 := nI_clamp (by omega)
  have x1 : I 6 (6 * n + 1) = xs (6 * n + 1) := b.2.2.2.2 _ (by omega)
  simp only [w268_523, w268_524, w268_525, w268_526, w268_527, e1, u268_528 (hi := a1), c1, x1, w268_529]
  refine c94 (d := d + 34) hx hm2 (by omega) (xs (6 * n + 1)) (fun h => ?_) (fun e => ?_) (fun k k1 k2 e I1 hx1 => ?_)
  · simp only [↓reduceIte, Option.toList_some, Option.toList_none, List.cons_append, List.nil_append, Int32.reduceAdd, Int32.reduceLT, Int32.reduceLE, Int32.reduceToNatClampNeg, w268_532, w268_533, w268_534, w268_535, w268_536, e1, u268_537 (hi := a1), c1, x1, w268_538]
    refine c194 (d := d + 31) hz hm2 (by omega) (xs (6 * n + 1)) (fun _ => ?_) (fun e => absurd (sW_nI (m := 200) ⟨0, e, by decide⟩ (by decide)) (by rw [show nI 200 = 200 from rfl, h]; decide)) (fun k _ k2 e => absurd (sW_nI (m := 200) ⟨k, e, k2⟩ (by decide)) (by rw [show nI 200 = 200 from rfl, h]; decide))
    simp only [↓reduceIte, Option.toList_some, Option.toList_none, List.cons_append, List.nil_append, Int32.reduceAdd, Int32.reduceLT, Int32.reduceLE, Int32.reduceToNatClampNeg, w268_541, ↓reduceIte]
    exact ih I J o o' (lIx_mk ho b hx hz (lCo_q c))
  · simp only [↓reduceIte, Option.toList_some, Option.toList_none, List.cons_append, List.nil_append, Int32.reduceAdd, Int32.reduceLT, Int32.reduceLE, Int32.reduceToNatClampNeg, w268_532, w268_533, w268_534, w268_535, w268_536, e1, u268_537 (hi := a1), c1, x1, w268_538]
    refine c194 (d := d + 31) hz hm2 (by omega) (xs (6 * n + 1)) (fun h' => absurd (sW_nI (m := 200) ⟨0, e, by decide⟩ (by decide)) (by rw [show nI 200 = 200 from rfl, h']; decide)) (fun _ => ?_) (fun k k1 k2 e' => absurd (nI_ij (a := k) (b := 0) (by omega) (by decide) (e'.symm.trans e)) (by omega))
    simp only [↓reduceIte, Option.toList_some, Option.toList_none, List.cons_append, List.nil_append, Int32.reduceAdd, Int32.reduceLT, Int32.reduceLE, Int32.reduceToNatClampNeg, w268_541, ↓reduceIte]
    exact ih I J o o' (lIx_mk ho b hx hz (lCo_q c))
  · have hz1 := zV_x hx1 hz
    have y1 : I1 6 (6 * n + 1) = xs (6 * n + 1) := by rw [hx1.2.2.2.2.2.2 6 (Or.inl (by decide))]; exact x1
    simp only [↓reduceIte, Option.toList_some, Option.toList_none, List.cons_append, List.nil_append, Int32.reduceAdd, Int32.reduceLT, Int32.reduceLE, Int32.reduceToNatClampNeg, w268_532, w268_533, w268_534, w268_535, w268_536, e1, u268_537 (hi := a1), c1, y1, w268_538]
    refine c194 (d := d + 31) hz1 hm2 (by omega) (xs (6 * n + 1)) (fun h' => absurd (sW_nI (m := 200) ⟨k, e, k2⟩ (by decide)) (by rw [show nI 200 = 200 from rfl, h']; decide)) (fun e' => absurd (nI_ij (a := k) (b := 0) (by omega) (by decide) (e.symm.trans e')) (by omega)) (fun k' k1' k2' e' I2 hz2 => ?_)
    have ek : k' = k := nI_ij (by omega) (by omega) (e'.symm.trans e)
    subst ek
    simp only [↓reduceIte, Option.toList_some, Option.toList_none, List.cons_append, List.nil_append, Int32.reduceAdd, Int32.reduceLT, Int32.reduceLE, Int32.reduceToNatClampNeg, w268_541, ↓reduceIte]
    exact ih I2 J o o' (lIx_mk ho b hx1 hz2 (lCo_p c hx.1.2.2.2.1 (hrs_h hx.1.1 hx.1.2.2.2.1 hm2 hm1 (by omega) k2)))
theorem l_12 (hn : n < 512) (hx6 : 6 * n + 6 ≤ xL) (hxL : xL ≤ 3072) (hI : lIx xL xs n I J o o') (ih : ∀ I' J' o1 o2, lIx xL xs (n + 1) I' J' o1 o2 → WP (d + 40) 268 1376 [.ref 6, .ref 7, .ref 180, .int (nI (6 * n))] [] (mHh xL I' J' (mRf o1 o1 o2)) Q) : WP (d + 40) 268 546 [.ref 6, .ref 7, .ref 180, .int (nI (6 * n))] [] (mHh xL I J (mRf o o o')) Q := by
  obtain ⟨ho, b, s, η, ρ, u, H, g, K, t, τ, L, W, pl, hx, hz, c⟩ := hI
  simp only [w268_546, w268_547]
  refine c96 (d := d + 37) hx (fun hu => ⟨(c.2.2.1 0 hu).1, hrs_m (c.2.2.1 0 hu).2 (by omega)⟩)  (fun h => ?_) (fun h I1 hx1 => ?_)
  · simp only [↓reduceIte, Option.toList_some, Option.toList_none, List.cons_append, List.nil_append, Int32.reduceAdd, Int32.reduceLT, Int32.reduceLE, Int32.reduceToNatClampNeg, w268_550, w268_551]
    refine c201 (d := d + 39) hz (fun hu => ⟨(c.2.2.1 0 hu).1, hrs_m (c.2.2.1 0 hu).2 (by omega)⟩)  (fun _ => ?_) (fun h' => absurd h (by omega))
    simp only [↓reduceIte, Option.toList_some, Option.toList_none, List.cons_append, List.nil_append, Int32.reduceAdd, Int32.reduceLT, Int32.reduceLE, Int32.reduceToNatClampNeg, w268_554, ↓reduceIte]
    exact ih I J o o' (lIx_mk ho b hx hz (lCo_q c))
  · have hz1 := zV_x hx1 hz
    simp only [↓reduceIte, Option.toList_some, Option.toList_none, List.cons_append, List.nil_append, Int32.reduceAdd, Int32.reduceLT, Int32.reduceLE, Int32.reduceToNatClampNeg, w268_550, w268_551]
    refine c201 (d := d + 39) hz1 (fun hu => ⟨(c.2.2.1 0 hu).1, hrs_m (c.2.2.1 0 hu).2 (by omega)⟩)  (fun h' => absurd h' (by omega)) (fun _ I2 hz2 => ?_)
    simp only [↓reduceIte, Option.toList_some, Option.toList_none, List.cons_append, List.nil_append, Int32.reduceAdd, Int32.reduceLT, Int32.reduceLE, Int32.reduceToNatClampNeg, w268_554, ↓reduceIte]
    exact ih I2 J o o' (lIx_mk ho b hx1 hz2 (lCo_u c h))
theorem l_33 (hn : n < 512) (hx6 : 6 * n + 6 ≤ xL) (hxL : xL ≤ 3072) (hI : lIx xL xs n I J o o') (ih : ∀ I' J' o1 o2, lIx xL xs (n + 1) I' J' o1 o2 → WP (d + 40) 268 1376 [.ref 6, .ref 7, .ref 180, .int (nI (6 * n))] [] (mHh xL I' J' (mRf o1 o1 o2)) Q) : WP (d + 40) 268 1149 [.ref 6, .ref 7, .ref 180, .int (nI (6 * n))] [] (mHh xL I J (mRf o o o')) Q := by
  obtain ⟨ho, b, s, η, ρ, u, H, g, K, t, τ, L, W, pl, hx, hz, c⟩ := hI
  have e1 : nI (6 * n) + 1 = nI (6 * n + 1) := nI_add (6 * n) 1
  have a1 : mIn (nI (6 * n + 1)) xL = true := mIn_nI (by omega) (by omega)
  have c1 : (nI (6 * n + 1)).toNatClampNeg = 6 * n + 1 := nI_clamp (by omega)
  have x1 : I 6 (6 * n + 1) = xs (6 * n + 1) := b.2.2.2.2 _ (by omega)
  have e2 : nI (6 * n) + 2 = nI (6 * n + 2) := nI_add (6 * n) 2
  have a2 : mIn (nI (6 * n + 2)) xL = true := mIn_nI (by omega) (by omega)
  have c2 : (nI (6 * n + 2)).toNatClampNeg = 6 * n + 2 := nI_clamp (by omega)
  have x2 : I 6 (6 * n + 2) = xs (6 * n + 2) := b.2.2.2.2 _ (by omega)
  have e3 : nI (6 * n) + 3 = nI (6 * n + 3) := nI_add (6 * n) 3
  have a3 : mIn (nI (6 * n + 3)) xL = true := mIn_nI (by omega) (by omega)
  have c3 : (nI (6 * n + 3)).toNatClampNeg = 6 * n + 3 := nI_clamp (by omega)
  have x3 : I 6 (6 * n + 3) = xs (6 * n + 3) := b.2.2.2.2 _ (by omega)
  by_cases cb : xs (6 * n + 3) = 0
  · simp only [w268_1149, w268_1150, w268_1151, w268_1152, w268_1153, e1, u268_1154 (hi := a1), c1, x1, w268_1155, w268_1156, w268_1157, w268_1158, e2, u268_1159 (hi := a2), c2, x2, w268_1160, w268_1161, w268_1162, w268_1163, e3, u268_1164 (hi := a3), c3, x3, w268_1165, if_pos cb, w268_1172, w268_1173]
    refine c126 (d := d + 37) hx (xs (6 * n + 1)) (xs (6 * n + 2)) false (fun h => ?_) (fun h1 j h2 e h3 I1 hx1 => ?_)
    · simp only [↓reduceIte, Option.toList_some, Option.toList_none, List.cons_append, List.nil_append, Int32.reduceAdd, Int32.reduceLT, Int32.reduceLE, Int32.reduceToNatClampNeg, w268_1176, w268_1177, w268_1178, w268_1179, w268_1180, e1, u268_1181 (hi := a1), c1, x1, w268_1182, w268_1183, w268_1184, w268_1185, e2, u268_1186 (hi := a2), c2, x2, w268_1187, w268_1188, w268_1189, w268_1190, e3, u268_1191 (hi := a3), c3, x3, w268_1192, if_pos cb, w268_1199, w268_1200]
      refine c245 (d := d + 37) hz (xs (6 * n + 1)) (xs (6 * n + 2)) false (fun _ => ?_) (fun h1 j h2 e h3 => absurd (sTl_in h1 h2 e h3) (by rw [h]; decide))
      simp only [↓reduceIte, Option.toList_some, Option.toList_none, List.cons_append, List.nil_append, Int32.reduceAdd, Int32.reduceLT, Int32.reduceLE, Int32.reduceToNatClampNeg, w268_1203, ↓reduceIte]
      exact ih I J o o' (lIx_mk ho b hx hz (lCo_q c))
    · have hz1 := zV_x hx1 hz
      have y1 : I1 6 (6 * n + 1) = xs (6 * n + 1) := by rw [hx1.2.2.2.2.2.2 6 (Or.inl (by decide))]; exact x1
      have y2 : I1 6 (6 * n + 2) = xs (6 * n + 2) := by rw [hx1.2.2.2.2.2.2 6 (Or.inl (by decide))]; exact x2
      have y3 : I1 6 (6 * n + 3) = xs (6 * n + 3) := by rw [hx1.2.2.2.2.2.2 6 (Or.inl (by decide))]; exact x3
      simp only [↓reduceIte, Option.toList_some, Option.toList_none, List.cons_append, List.nil_append, Int32.reduceAdd, Int32.reduceLT, Int32.reduceLE, Int32.reduceToNatClampNeg, w268_1176, w268_1177, w268_1178, w268_1179, w268_1180, e1, u268_1181 (hi := a1), c1, y1, w268_1182, w268_1183, w268_1184, w268_1185, e2, u268_1186 (hi := a2), c2, y2, w268_1187, w268_1188, w268_1189, w268_1190, e3, u268_1191 (hi := a3), c3, y3, w268_1192, if_pos cb, w268_1199, w268_1200]
      refine c245 (d := d + 37) hz1 (xs (6 * n + 1)) (xs (6 * n + 2)) false (fun h' => absurd (sTl_in h1 h2 e h3) (by rw [h']; decide)) (fun _ j' h2' e' _ I2 hz2 => ?_)
      have ek : j' = j := nI_ij (by omega) (by omega) (e'.symm.trans e)
      subst ek
      simp only [↓reduceIte, Option.toList_some, Option.toList_none, List.cons_append, List.nil_append, Int32.reduceAdd, Int32.reduceLT, Int32.reduceLE, Int32.reduceToNatClampNeg, w268_1203, ↓reduceIte]
      exact ih I2 J o o' (lIx_mk ho b hx1 hz2 (lCo_q c))
  · simp only [w268_1149, w268_1150, w268_1151, w268_1152, w268_1153, e1, u268_1154 (hi := a1), c1, x1, w268_1155, w268_1156, w268_1157, w268_1158, e2, u268_1159 (hi := a2), c2, x2, w268_1160, w268_1161, w268_1162, w268_1163, e3, u268_1164 (hi := a3), c3, x3, w268_1165, if_neg cb, w268_1168, w268_1169, w268_1173]
    refine c126 (d := d + 37) hx (xs (6 * n + 1)) (xs (6 * n + 2)) true (fun h => ?_) (fun h1 j h2 e h3 I1 hx1 => ?_)
    · simp only [↓reduceIte, Option.toList_some, Option.toList_none, List.cons_append, List.nil_append, Int32.reduceAdd, Int32.reduceLT, Int32.reduceLE, Int32.reduceToNatClampNeg, w268_1176, w268_1177, w268_1178, w268_1179, w268_1180, e1, u268_1181 (hi := a1), c1, x1, w268_1182, w268_1183, w268_1184, w268_1185, e2, u268_1186 (hi := a2), c2, x2, w268_1187, w268_1188, w268_1189, w268_1190, e3, u268_1191 (hi := a3), c3, x3, w268_1192, if_neg cb, w268_1195, w268_1196, w268_1200]
      refine c245 (d := d + 37) hz (xs (6 * n + 1)) (xs (6 * n + 2)) true (fun _ => ?_) (fun h1 j h2 e h3 => absurd (sTl_in h1 h2 e h3) (by rw [h]; decide))
      simp only [↓reduceIte, Option.toList_some, Option.toList_none, List.cons_append, List.nil_append, Int32.reduceAdd, Int32.reduceLT, Int32.reduceLE, Int32.reduceToNatClampNeg, w268_1203, ↓reduceIte]
      exact ih I J o o' (lIx_mk ho b hx hz (lCo_q c))
    · have hz1 := zV_x hx1 hz
      have y1 : I1 6 (6 * n + 1) = xs (6 * n + 1) := by rw [hx1.2.2.2.2.2.2 6 (Or.inl (by decide))]; exact x1
      have y2 : I1 6 (6 * n + 2) = xs (6 * n + 2) := by rw [hx1.2.2.2.2.2.2 6 (Or.inl (by decide))]; exact x2
      have y3 : I1 6 (6 * n + 3) = xs (6 * n + 3) := by rw [hx1.2.2.2.2.2.2 6 (Or.inl (by decide))]; exact x3
      simp only [↓reduceIte, Option.toList_some, Option.toList_none, List.cons_append, List.nil_append, Int32.reduceAdd, Int32.reduceLT, Int32.reduceLE, Int32.reduceToNatClampNeg, w268_1176, w268_1177, w268_1178, w268_1179, w268_1180, e1, u268_1181 (hi := a1), c1, y1, w268_1182, w268_1183, w268_1184, w268_1185, e2, u268_1186 (hi := a2), c2, y2, w268_1187, w268_1188, w268_1189, w268_1190, e3, u268_1191 (hi := a3), c3, y3, w268_1192, if_neg cb, w268_1195, w268_1196, w268_1200]
      refine c245 (d := d + 37) hz1 (xs (6 * n + 1)) (xs (6 * n + 2)) true (fun h' => absurd (sTl_in h1 h2 e h3) (by rw [h']; decide)) (fun _ j' h2' e' _ I2 hz2 => ?_)
      have ek : j' = j := nI_ij (by omega) (by omega) (e'.symm.trans e)
      subst ek
      simp only [↓reduceIte, Option.toList_some, Option.toList_none, List.cons_append, List.nil_append, Int32.reduceAdd, Int32.reduceLT, Int32.reduceLE, Int32.reduceToNatClampNeg, w268_1203, ↓reduceIte]
      exact ih I2 J o o' (lIx_mk ho b hx1 hz2 (lCo_q c))
theorem l_34 (hn : n < 512) (hx6 : 6 * n + 6 ≤ xL) (hxL : xL ≤ 3072) (hI : lIx xL xs n I J o o') (ih : ∀ I' J' o1 o2, lIx xL xs (n + 1) I' J' o1 o2 → WP (d + 40) 268 1376 [.ref 6, .ref 7, .ref 180, .int (nI (6 * n))] [] (mHh xL I' J' (mRf o1 o1 o2)) Q) : WP (d + 40) 268 1208 [.ref 6, .ref 7, .ref 180, .int (nI (6 * n))] [] (mHh xL I J (mRf o o o')) Q := by
  obtain ⟨ho, b, s, η, ρ, u, H, g, K, t, τ, L, W, pl, hx, hz, c⟩ := hI
  simp only [w268_1208, w268_1209]
  refine c127 (d := d + 39) hx  (fun I1 hx1 => ?_)
  have hz1 := zV_x hx1 hz
  simp only [↓reduceIte, Option.toList_some, Option.toList_none, List.cons_append, List.nil_append, Int32.reduceAdd, Int32.reduceLT, Int32.reduceLE, Int32.reduceToNatClampNeg, w268_1212, w268_1213]
  refine c246 (d := d + 39) hz1  (fun I2 hz2 => ?_)
  simp only [↓reduceIte, Option.toList_some, Option.toList_none, List.cons_append, List.nil_append, Int32.reduceAdd, Int32.reduceLT, Int32.reduceLE, Int32.reduceToNatClampNeg, w268_1216, ↓reduceIte]
  exact ih I2 J o o' (lIx_mk ho b hx1 hz2 (lCo_q c))
theorem l_37 (hn : n < 512) (hx6 : 6 * n + 6 ≤ xL) (hxL : xL ≤ 3072) (hI : lIx xL xs n I J o o') (ih : ∀ I' J' o1 o2, lIx xL xs (n + 1) I' J' o1 o2 → WP (d + 40) 268 1376 [.ref 6, .ref 7, .ref 180, .int (nI (6 * n))] [] (mHh xL I' J' (mRf o1 o1 o2)) Q) : WP (d + 40) 268 1307 [.ref 6, .ref 7, .ref 180, .int (nI (6 * n))] [] (mHh xL I J (mRf o o o')) Q := by
  obtain ⟨ho, b, s, η, ρ, u, H, g, K, t, τ, L, W, pl, hx, hz, c⟩ := hI
  have e1 : nI (6 * n) + 1 = nI (6 * n + 1) := nI_add (6 * n) 1
  have a1 : mIn (nI (6 * n + 1)) xL = true := mIn_nI (by omega) (by omega)
  have c1 : (nI (6 * n + 1)).toNatClampNeg = 6 * n + 1 := nI_clamp (by omega)
  have x1 : I 6 (6 * n + 1) = xs (6 * n + 1) := b.2.2.2.2 _ (by omega)
  simp only [w268_1307, w268_1308, w268_1309, w268_1310, w268_1311, e1, u268_1312 (hi := a1), c1, x1, w268_1313]
  refine c97 (d := d + 38) hx (xs (6 * n + 1)) (fun h => ?_) (fun k hk e I1 hx1 => ?_)
  · simp only [↓reduceIte, Option.toList_some, Option.toList_none, List.cons_append, List.nil_append, Int32.reduceAdd, Int32.reduceLT, Int32.reduceLE, Int32.reduceToNatClampNeg, w268_1316, w268_1317, w268_1318, w268_1319, w268_1320, e1, u268_1321 (hi := a1), c1, x1, w268_1322]
    refine c251 (d := d + 38) hz (xs (6 * n + 1)) (fun _ => ?_) (fun k hk e => absurd (sW_nI (m := 2) ⟨k, e, by omega⟩ (by decide)) (by rw [show nI 2 = 2 from rfl, h]; decide))
    simp only [↓reduceIte, Option.toList_some, Option.toList_none, List.cons_append, List.nil_append, Int32.reduceAdd, Int32.reduceLT, Int32.reduceLE, Int32.reduceToNatClampNeg, w268_1325, ↓reduceIte]
    exact ih I J o o' (lIx_mk ho b hx hz (lCo_q c))
  · have hz1 := zV_x hx1 hz
    have y1 : I1 6 (6 * n + 1) = xs (6 * n + 1) := by rw [hx1.2.2.2.2.2.2 6 (Or.inl (by decide))]; exact x1
    simp only [↓reduceIte, Option.toList_some, Option.toList_none, List.cons_append, List.nil_append, Int32.reduceAdd, Int32.reduceLT, Int32.reduceLE, Int32.reduceToNatClampNeg, w268_1316, w268_1317, w268_1318, w268_1319, w268_1320, e1, u268_1321 (hi := a1), c1, y1, w268_1322]
    refine c251 (d := d + 38) hz1 (xs (6 * n + 1)) (fun h' => absurd (sW_nI (m := 2) ⟨k, e, by omega⟩ (by decide)) (by rw [show nI 2 = 2 from rfl, h']; decide)) (fun k' hk' e' I2 hz2 => ?_)
    have ek : k' = k := nI_ij (by omega) (by omega) (e'.symm.trans e)
    subst ek
    simp only [↓reduceIte, Option.toList_some, Option.toList_none, List.cons_append, List.nil_append, Int32.reduceAdd, Int32.reduceLT, Int32.reduceLE, Int32.reduceToNatClampNeg, w268_1325, ↓reduceIte]
    exact ih I2 J o o' (lIx_mk ho b hx1 hz2 (lCo_h c hx.1.2.2.2.1 hx.2.2.1.1 hk))
theorem l_38 (hn : n < 512) (hx6 : 6 * n + 6 ≤ xL) (hxL : xL ≤ 3072) (hI : lIx xL xs n I J o o') (ih : ∀ I' J' o1 o2, lIx xL xs (n + 1) I' J' o1 o2 → WP (d + 40) 268 1376 [.ref 6, .ref 7, .ref 180, .int (nI (6 * n))] [] (mHh xL I' J' (mRf o1 o1 o2)) Q) : WP (d + 40) 268 1330 [.ref 6, .ref 7, .ref 180, .int (nI (6 * n))] [] (mHh xL I J (mRf o o o')) Q := by
  obtain ⟨ho, b, s, η, ρ, u, H, g, K, t, τ, L, W, pl, hx, hz, c⟩ := hI
  have e1 : nI (6 * n) + 1 = nI (6 * n + 1) := nI_add (6 * n) 1
  have a1 : mIn (nI (6 * n + 1)) xL = true := mIn_nI (by omega) (by omega)
  have c1 : (nI (6 * n + 1)).toNatClampNeg = 6 * n + 1 := nI_clamp (by omega)
  have x1 : I 6 (6 * n + 1) = xs (6 * n + 1) := b.2.2.2.2 _ (by omega)
  simp only [w268_1330, w268_1331, w268_1332, w268_1333, w268_1334, e1, u268_1335 (hi := a1), c1, x1, w268_1336]
  refine c98 (d := d + 38) hx (xs (6 * n + 1)) (fun k hk z => ⟨(c.2.2.2 k hk z).1, hrs_m (c.2.2.2 k hk z).2 (by omega)⟩) (fun h => ?_) (fun k hk e z I1 hx1 => ?_)
  · simp only [↓reduceIte, Option.toList_some, Option.toList_none, List.cons_append, List.nil_append, Int32.reduceAdd, Int32.reduceLT, Int32.reduceLE, Int32.reduceToNatClampNeg, w268_1339, w268_1340, w268_1341, w268_1342, w268_1343, e1, u268_1344 (hi := a1), c1, x1, w268_1345]
    refine c252 (d := d + 38) hz (xs (6 * n + 1)) (fun k hk z => ⟨(c.2.2.2 k hk z).1, hrs_m (c.2.2.2 k hk z).2 (by omega)⟩) (fun _ => ?_) (fun k hk e z => absurd (sW_rs hk e z) (by rw [h]; decide))
    simp only [↓reduceIte, Option.toList_some, Option.toList_none, List.cons_append, List.nil_append, Int32.reduceAdd, Int32.reduceLT, Int32.reduceLE, Int32.reduceToNatClampNeg, w268_1348, ↓reduceIte]
    exact ih I J o o' (lIx_mk ho b hx hz (lCo_q c))
  · have hz1 := zV_x hx1 hz
    have y1 : I1 6 (6 * n + 1) = xs (6 * n + 1) := by rw [hx1.2.2.2.2.2.2 6 (Or.inl (by decide))]; exact x1
    simp only [↓reduceIte, Option.toList_some, Option.toList_none, List.cons_append, List.nil_append, Int32.reduceAdd, Int32.reduceLT, Int32.reduceLE, Int32.reduceToNatClampNeg, w268_1339, w268_1340, w268_1341, w268_1342, w268_1343, e1, u268_1344 (hi := a1), c1, y1, w268_1345]
    refine c252 (d := d + 38) hz1 (xs (6 * n + 1)) (fun k hk z => ⟨(c.2.2.2 k hk z).1, hrs_m (c.2.2.2 k hk z).2 (by omega)⟩) (fun h' => absurd (sW_rs hk e z) (by rw [h']; decide)) (fun k' hk' e' _ I2 hz2 => ?_)
    have ek : k' = k := nI_ij (by omega) (by omega) (e'.symm.trans e)
    subst ek
    simp only [↓reduceIte, Option.toList_some, Option.toList_none, List.cons_append, List.nil_append, Int32.reduceAdd, Int32.reduceLT, Int32.reduceLE, Int32.reduceToNatClampNeg, w268_1348, ↓reduceIte]
    exact ih I2 J o o' (lIx_mk ho b hx1 hz2 (lCo_r c hk z))
end LQC
