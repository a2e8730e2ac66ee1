/-! The law's cases: small facts. -/
theorem nI_ij {a b : Nat} (ha : a < 2 ^ 31) (hb : b < 2 ^ 31) (h : nI a = nI b) : a = b := by
  have := congrArg Int32.toInt h
  rw [nI_toInt ha, nI_toInt hb] at this
  omega
theorem sW_nI {v : Int32} {m : Nat} (h : ∃ k, v = nI k ∧ k ≤ m) (hm : m < 2 ^ 31) : sW v 0 (nI m) = true := by
  obtain ⟨k, rfl, hk⟩ := h
  exact (sW_iff (a := 0) (b := m) rfl (nI_toInt hm)).2 ⟨k, Nat.zero_le _, hk, rfl⟩
theorem sCh_5 {η : mHs} {ρ : mRo5} {p : Int32} {b : Bool} (hk : hOk η) (h : sCh η ρ p b = true) : p.toNatClampNeg ≠ 5 := by
  rw [sCh, Bool.and_eq_true] at h
  obtain ⟨j, hj, rfl⟩ := (isP_iff hk).1 h.1
  have := hk.1
  rw [nI_clamp (by omega)]; omega
theorem sTl_in {t j : Nat} {i v : Int32} (h1 : t < 20) (h2 : j ≤ 24) (e : i = nI j) (h3 : isM v = true) : sTl t i v = true := by
  rw [sTl, decide_eq_true h1, h3, Bool.and_true, Bool.true_and]
  exact sW_nI (m := 24) ⟨j, e, h2⟩ (by decide)
theorem sW_rs {g k : Nat} {x : Int32} (hk : k < 3) (e : x = nI k) (z : g.testBit k = true) : (sW x 0 2 && g.testBit x.toNatClampNeg) = true := by
  rw [show sW x 0 2 = true from sW_nI (m := 2) ⟨k, e, by omega⟩ (by decide), e, nI_clamp (by omega), z]; rfl
section LQA
variable {d : Nat} {xL : Nat} {I : Nat → Nat → Int32} {J : Nat → Nat → Int64} {o o' : Nat} {Q : Option Value → mHp → Prop} {n : Nat} {xs : Nat → Int32}
theorem l_3 (hn : n < 512) (hx6 : 6 * n + 6 ≤ xL) (hxL : xL ≤ 3072) (hI : lIx xL xs n I J o o') (ih : ∀ I' J' o1 o2, lIx xL xs (n + 1) I' J' o1 o2 → WP (d + 40) 268 1376 [.ref 6, .ref 7, .ref 180, .int (nI (6 * n))] [] (mHh xL I' J' (mRf o1 o1 o2)) Q) : WP (d + 40) 268 307 [.ref 6, .ref 7, .ref 180, .int (nI (6 * n))] [] (mHh xL I J (mRf o o o')) Q := by
  obtain ⟨ho, b, s, η, ρ, u, H, g, K, t, τ, L, W, pl, hx, hz, c⟩ := hI
  have gE := fun Q' => c81 (d := d + 39) (xL := xL) (J := J) (rr := o') (Q := Q') hx
  have mE := fun Q' => c167 (d := d + 39) (xL := xL) (J := J) (rc := o) (rx := o) (rr := o') (Q := Q') hz
  simp only [w268_307, w268_308, gE, ↓reduceIte, Option.toList_some, Option.toList_none, List.cons_append, List.nil_append, Int32.reduceAdd, Int32.reduceLT, Int32.reduceLE, Int32.reduceToNatClampNeg, w268_311, w268_312, mE, w268_315, ↓reduceIte]
  exact ih I J o o' (lIx_mk ho b hx hz (lCo_q c))
theorem l_4 (hn : n < 512) (hx6 : 6 * n + 6 ≤ xL) (hxL : xL ≤ 3072) (hI : lIx xL xs n I J o o') (ih : ∀ I' J' o1 o2, lIx xL xs (n + 1) I' J' o1 o2 → WP (d + 40) 268 1376 [.ref 6, .ref 7, .ref 180, .int (nI (6 * n))] [] (mHh xL I' J' (mRf o1 o1 o2)) Q) : WP (d + 40) 268 320 [.ref 6, .ref 7, .ref 180, .int (nI (6 * n))] [] (mHh xL I J (mRf o o o')) Q := by
  obtain ⟨ho, b, s, η, ρ, u, H, g, K, t, τ, L, W, pl, hx, hz, c⟩ := hI
  have e1 : nI (6 * n) + 1 = nI (6 * n + 1) := nI_add (6 * n) 1
  have a1 : mIn (nI (6 * n + 1)) xL = true := mIn_nI (by omega) (by omega)
  have c1 : (nI (6 * n + 1)).toNatClampNeg = 6 * n + 1 := nI_clamp (by omega)
  have x1 : I 6 (6 * n + 1) = xs (6 * n + 1) := b.2.2.2.2 _ (by omega)
  have e2 : nI (6 * n) + 2 = nI (6 * n + 2) := nI_add (6 * n) 2
  have a2 : mIn (nI (6 * n + 2)) xL = true := mIn_nI (by omega) (by omega)
  have c2 : (nI (6 * n + 2)).toNatClampNeg = 6 * n + 2 := nI_clamp (by omega)
  have x2 : I 6 (6 * n + 2) = xs (6 * n + 2) := b.2.2.2.2 _ (by omega)
  simp only [w268_320, w268_321, w268_322, w268_323, w268_324, e1, u268_325 (hi := a1), c1, x1, w268_326, w268_327, w268_328, w268_329, e2, u268_330 (hi := a2), c2, x2, w268_331]
  refine c82 (d := d + 35) hx.1 (xs (6 * n + 1)) (xs (6 * n + 2)) (fun I1 f1 => ?_)
  have hx1 := fQ_V f1 hx
  have hz1 := zV_x hx1 hz
  have y1 : I1 6 (6 * n + 1) = xs (6 * n + 1) := by rw [hx1.2.2.2.2.2.2 6 (Or.inl (by decide))]; exact x1
  have y2 : I1 6 (6 * n + 2) = xs (6 * n + 2) := by rw [hx1.2.2.2.2.2.2 6 (Or.inl (by decide))]; exact x2
  simp only [↓reduceIte, Option.toList_some, Option.toList_none, List.cons_append, List.nil_append, Int32.reduceAdd, Int32.reduceLT, Int32.reduceLE, Int32.reduceToNatClampNeg, w268_334, w268_335, w268_336, w268_337, w268_338, e1, u268_339 (hi := a1), c1, y1, w268_340, w268_341, w268_342, w268_343, e2, u268_344 (hi := a2), c2, y2, w268_345]
  refine c168 (d := d + 34) hz1.1 (xs (6 * n + 1)) (xs (6 * n + 2)) (fun I2 f2 => ?_)
  have hz2 := fB_V f2 hz1
  simp only [↓reduceIte, Option.toList_some, Option.toList_none, List.cons_append, List.nil_append, Int32.reduceAdd, Int32.reduceLT, Int32.reduceLE, Int32.reduceToNatClampNeg, w268_348, ↓reduceIte]
  exact ih I2 J o o' (lIx_mk ho b hx1 hz2 (lCo_q c))
theorem l_5 (hn : n < 512) (hx6 : 6 * n + 6 ≤ xL) (hxL : xL ≤ 3072) (hI : lIx xL xs n I J o o') (ih : ∀ I' J' o1 o2, lIx xL xs (n + 1) I' J' o1 o2 → WP (d + 40) 268 1376 [.ref 6, .ref 7, .ref 180, .int (nI (6 * n))] [] (mHh xL I' J' (mRf o1 o1 o2)) Q) : WP (d + 40) 268 353 [.ref 6, .ref 7, .ref 180, .int (nI (6 * n))] [] (mHh xL I J (mRf o o o')) Q := by
  obtain ⟨ho, b, s, η, ρ, u, H, g, K, t, τ, L, W, pl, hx, hz, c⟩ := hI
  have e1 : nI (6 * n) + 1 = nI (6 * n + 1) := nI_add (6 * n) 1
  have a1 : mIn (nI (6 * n + 1)) xL = true := mIn_nI (by omega) (by omega)
  have c1 : (nI (6 * n + 1)).toNatClampNeg = 6 * n + 1 := nI_clamp (by omega)
  have x1 : I 6 (6 * n + 1) = xs (6 * n + 1) := b.2.2.2.2 _ (by omega)
  have e2 : nI (6 * n) + 2 = nI (6 * n + 2) := nI_add (6 * n) 2
  have a2 : mIn (nI (6 * n + 2)) xL = true := mIn_nI (by omega) (by omega)
  have c2 : (nI (6 * n + 2)).toNatClampNeg = 6 * n + 2 := nI_clamp (by omega)
  have x2 : I 6 (6 * n + 2) = xs (6 * n + 2) := b.2.2.2.2 _ (by omega)
  simp only [w268_353, w268_354, w268_355, w268_356, w268_357, e1, u268_358 (hi := a1), c1, x1, w268_359, w268_360, w268_361, w268_362, e2, u268_363 (hi := a2), c2, x2, w268_364]
  refine c84 (d := d + 34) hx.1 (xs (6 * n + 1)) (xs (6 * n + 2)) (fun I1 f1 => ?_)
  have hx1 := fQ_V f1 hx
  have hz1 := zV_x hx1 hz
  have y1 : I1 6 (6 * n + 1) = xs (6 * n + 1) := by rw [hx1.2.2.2.2.2.2 6 (Or.inl (by decide))]; exact x1
  have y2 : I1 6 (6 * n + 2) = xs (6 * n + 2) := by rw [hx1.2.2.2.2.2.2 6 (Or.inl (by decide))]; exact x2
  simp only [↓reduceIte, Option.toList_some, Option.toList_none, List.cons_append, List.nil_append, Int32.reduceAdd, Int32.reduceLT, Int32.reduceLE, Int32.reduceToNatClampNeg, w268_367, w268_368, w268_369, w268_370, w268_371, e1, u268_372 (hi := a1), c1, y1, w268_373, w268_374, w268_375, w268_376, e2, u268_377 (hi := a2), c2, y2, w268_378]
  refine c183 (d := d + 34) hz1.1 (xs (6 * n + 1)) (xs (6 * n + 2)) (fun I2 f2 => ?_)
  have hz2 := fB_V f2 hz1
  simp only [↓reduceIte, Option.toList_some, Option.toList_none, List.cons_append, List.nil_append, Int32.reduceAdd, Int32.reduceLT, Int32.reduceLE, Int32.reduceToNatClampNeg, w268_381, ↓reduceIte]
  exact ih I2 J o o' (lIx_mk ho b hx1 hz2 (lCo_q c))
theorem l_6 (hn : n < 512) (hx6 : 6 * n + 6 ≤ xL) (hxL : xL ≤ 3072) (hI : lIx xL xs n I J o o') (ih : ∀ I' J' o1 o2, lIx xL xs (n + 1) I' J' o1 o2 → WP (d + 40) 268 1376 [.ref 6, .ref 7, .ref 180, .int (nI (6 * n))] [] (mHh xL I' J' (mRf o1 o1 o2)) Q) : WP (d + 40) 268 386 [.ref 6, .ref 7, .ref 180, .int (nI (6 * n))] [] (mHh xL I J (mRf o o o')) Q := by
  obtain ⟨ho, b, s, η, ρ, u, H, g, K, t, τ, L, W, pl, hx, hz, c⟩ := hI
  simp only [w268_386, w268_387]
  refine c87 (d := d + 35) hx.1  (fun I1 f1 => ?_)
  have hx1 := fQ_V f1 hx
  have hz1 := zV_x hx1 hz
  simp only [↓reduceIte, Option.toList_some, Option.toList_none, List.cons_append, List.nil_append, Int32.reduceAdd, Int32.reduceLT, Int32.reduceLE, Int32.reduceToNatClampNeg, w268_390, w268_391]
  refine c187 (d := d + 34) hz1.1  (fun I2 f2 => ?_)
  have hz2 := fB_V f2 hz1
  simp only [↓reduceIte, Option.toList_some, Option.toList_none, List.cons_append, List.nil_append, Int32.reduceAdd, Int32.reduceLT, Int32.reduceLE, Int32.reduceToNatClampNeg, w268_394, ↓reduceIte]
  exact ih I2 J o o' (lIx_mk ho b hx1 hz2 (lCo_q c))
theorem l_13 (hn : n < 512) (hx6 : 6 * n + 6 ≤ xL) (hxL : xL ≤ 3072) (hI : lIx xL xs n I J o o') (ih : ∀ I' J' o1 o2, lIx xL xs (n + 1) I' J' o1 o2 → WP (d + 40) 268 1376 [.ref 6, .ref 7, .ref 180, .int (nI (6 * n))] [] (mHh xL I' J' (mRf o1 o1 o2)) Q) : WP (d + 40) 268 559 [.ref 6, .ref 7, .ref 180, .int (nI (6 * n))] [] (mHh xL I J (mRf o o o')) Q := by
  obtain ⟨ho, b, s, η, ρ, u, H, g, K, t, τ, L, W, pl, hx, hz, c⟩ := hI
  have e1 : nI (6 * n) + 1 = nI (6 * n + 1) := nI_add (6 * n) 1
  have a1 : mIn (nI (6 * n + 1)) xL = true := mIn_nI (by omega) (by omega)
  have c1 : (nI (6 * n + 1)).toNatClampNeg = 6 * n + 1 := nI_clamp (by omega)
  have x1 : I 6 (6 * n + 1) = xs (6 * n + 1) := b.2.2.2.2 _ (by omega)
  simp only [w268_559, w268_560, w268_561, w268_562, w268_563, e1, u268_564 (hi := a1), c1, x1, w268_565]
  refine c99 (d := d + 34) hx.1 (xs (6 * n + 1)) (fun I1 f1 => ?_)
  have hx1 := fQ_V f1 hx
  have hz1 := zV_x hx1 hz
  have y1 : I1 6 (6 * n + 1) = xs (6 * n + 1) := by rw [hx1.2.2.2.2.2.2 6 (Or.inl (by decide))]; exact x1
  simp only [↓reduceIte, Option.toList_some, Option.toList_none, List.cons_append, List.nil_append, Int32.reduceAdd, Int32.reduceLT, Int32.reduceLE, Int32.reduceToNatClampNeg, w268_568, w268_569, w268_570, w268_571, w268_572, e1, u268_573 (hi := a1), c1, y1, w268_574]
  refine c202 (d := d + 33) hz1.1 (xs (6 * n + 1)) (fun I2 f2 => ?_)
  have hz2 := fB_V f2 hz1
  simp only [↓reduceIte, Option.toList_some, Option.toList_none, List.cons_append, List.nil_append, Int32.reduceAdd, Int32.reduceLT, Int32.reduceLE, Int32.reduceToNatClampNeg, w268_577, ↓reduceIte]
  exact ih I2 J o o' (lIx_mk ho b hx1 hz2 (lCo_q c))
theorem l_14 (hn : n < 512) (hx6 : 6 * n + 6 ≤ xL) (hxL : xL ≤ 3072) (hI : lIx xL xs n I J o o') (ih : ∀ I' J' o1 o2, lIx xL xs (n + 1) I' J' o1 o2 → WP (d + 40) 268 1376 [.ref 6, .ref 7, .ref 180, .int (nI (6 * n))] [] (mHh xL I' J' (mRf o1 o1 o2)) Q) : WP (d + 40) 268 582 [.ref 6, .ref 7, .ref 180, .int (nI (6 * n))] [] (mHh xL I J (mRf o o o')) Q := by
  obtain ⟨ho, b, s, η, ρ, u, H, g, K, t, τ, L, W, pl, hx, hz, c⟩ := hI
  have e1 : nI (6 * n) + 1 = nI (6 * n + 1) := nI_add (6 * n) 1
  have a1 : mIn (nI (6 * n + 1)) xL = true := mIn_nI (by omega) (by omega)
  have c1 : (nI (6 * n + 1)).toNatClampNeg = 6 * n + 1 := nI_clamp (by omega)
  have x1 : I 6 (6 * n + 1) = xs (6 * n + 1) := b.2.2.2.2 _ (by omega)
  simp only [w268_582, w268_583, w268_584, w268_585, w268_586, e1, u268_587 (hi := a1), c1, x1, w268_588]
  refine c101 (d := d + 33) hx.1 (xs (6 * n + 1)) (fun I1 f1 => ?_)
  have hx1 := fQ_V f1 hx
  have hz1 := zV_x hx1 hz
  have y1 : I1 6 (6 * n + 1) = xs (6 * n + 1) := by rw [hx1.2.2.2.2.2.2 6 (Or.inl (by decide))]; exact x1
  simp only [↓reduceIte, Option.toList_some, Option.toList_none, List.cons_append, List.nil_append, Int32.reduceAdd, Int32.reduceLT, Int32.reduceLE, Int32.reduceToNatClampNeg, w268_591, w268_592, w268_593, w268_594, w268_595, e1, u268_596 (hi := a1), c1, y1, w268_597]
  refine c205 (d := d + 32) hz1.1 (xs (6 * n + 1)) (fun I2 f2 => ?_)
  have hz2 := fB_V f2 hz1
  simp only [↓reduceIte, Option.toList_some, Option.toList_none, List.cons_append, List.nil_append, Int32.reduceAdd, Int32.reduceLT, Int32.reduceLE, Int32.reduceToNatClampNeg, w268_600, ↓reduceIte]
  exact ih I2 J o o' (lIx_mk ho b hx1 hz2 (lCo_q c))
theorem l_15 (hn : n < 512) (hx6 : 6 * n + 6 ≤ xL) (hxL : xL ≤ 3072) (hI : lIx xL xs n I J o o') (ih : ∀ I' J' o1 o2, lIx xL xs (n + 1) I' J' o1 o2 → WP (d + 40) 268 1376 [.ref 6, .ref 7, .ref 180, .int (nI (6 * n))] [] (mHh xL I' J' (mRf o1 o1 o2)) Q) : WP (d + 40) 268 605 [.ref 6, .ref 7, .ref 180, .int (nI (6 * n))] [] (mHh xL I J (mRf o o o')) Q := by
  obtain ⟨ho, b, s, η, ρ, u, H, g, K, t, τ, L, W, pl, hx, hz, c⟩ := hI
  simp only [w268_605, w268_606]
  refine c103 (d := d + 34) hx.1  (fun I1 f1 => ?_)
  have hx1 := fQ_V f1 hx
  have hz1 := zV_x hx1 hz
  simp only [↓reduceIte, Option.toList_some, Option.toList_none, List.cons_append, List.nil_append, Int32.reduceAdd, Int32.reduceLT, Int32.reduceLE, Int32.reduceToNatClampNeg, w268_609, w268_610]
  refine c208 (d := d + 32) hz1.1  (fun I2 f2 => ?_)
  have hz2 := fB_V f2 hz1
  simp only [↓reduceIte, Option.toList_some, Option.toList_none, List.cons_append, List.nil_append, Int32.reduceAdd, Int32.reduceLT, Int32.reduceLE, Int32.reduceToNatClampNeg, w268_613, ↓reduceIte]
  exact ih I2 J o o' (lIx_mk ho b hx1 hz2 (lCo_q c))
theorem l_16 (hn : n < 512) (hx6 : 6 * n + 6 ≤ xL) (hxL : xL ≤ 3072) (hI : lIx xL xs n I J o o') (ih : ∀ I' J' o1 o2, lIx xL xs (n + 1) I' J' o1 o2 → WP (d + 40) 268 1376 [.ref 6, .ref 7, .ref 180, .int (nI (6 * n))] [] (mHh xL I' J' (mRf o1 o1 o2)) Q) : WP (d + 40) 268 618 [.ref 6, .ref 7, .ref 180, .int (nI (6 * n))] [] (mHh xL I J (mRf o o o')) Q := by
  obtain ⟨ho, b, s, η, ρ, u, H, g, K, t, τ, L, W, pl, hx, hz, c⟩ := hI
  simp only [w268_618, w268_619]
  refine c104 (d := d + 34) hx.1  (fun I1 f1 => ?_)
  have hx1 := fQ_V f1 hx
  have hz1 := zV_x hx1 hz
  simp only [↓reduceIte, Option.toList_some, Option.toList_none, List.cons_append, List.nil_append, Int32.reduceAdd, Int32.reduceLT, Int32.reduceLE, Int32.reduceToNatClampNeg, w268_622, w268_623]
  refine c209 (d := d + 33) hz1.1  (fun I2 f2 => ?_)
  have hz2 := fB_V f2 hz1
  simp only [↓reduceIte, Option.toList_some, Option.toList_none, List.cons_append, List.nil_append, Int32.reduceAdd, Int32.reduceLT, Int32.reduceLE, Int32.reduceToNatClampNeg, w268_626, ↓reduceIte]
  exact ih I2 J o o' (lIx_mk ho b hx1 hz2 (lCo_q c))
theorem l_17 (hn : n < 512) (hx6 : 6 * n + 6 ≤ xL) (hxL : xL ≤ 3072) (hI : lIx xL xs n I J o o') (ih : ∀ I' J' o1 o2, lIx xL xs (n + 1) I' J' o1 o2 → WP (d + 40) 268 1376 [.ref 6, .ref 7, .ref 180, .int (nI (6 * n))] [] (mHh xL I' J' (mRf o1 o1 o2)) Q) : WP (d + 40) 268 631 [.ref 6, .ref 7, .ref 180, .int (nI (6 * n))] [] (mHh xL I J (mRf o o o')) Q := by
  obtain ⟨ho, b, s, η, ρ, u, H, g, K, t, τ, L, W, pl, hx, hz, c⟩ := hI
  have e1 : nI (6 * n) + 1 = nI (6 * n + 1) := nI_add (6 * n) 1
  have a1 : mIn (nI (6 * n + 1)) xL = true := mIn_nI (by omega) (by omega)
  have c1 : (nI (6 * n + 1)).toNatClampNeg = 6 * n + 1 := nI_clamp (by omega)
  have x1 : I 6 (6 * n + 1) = xs (6 * n + 1) := b.2.2.2.2 _ (by omega)
  have e2 : nI (6 * n) + 2 = nI (6 * n + 2) := nI_add (6 * n) 2
  have a2 : mIn (nI (6 * n + 2)) xL = true := mIn_nI (by omega) (by omega)
  have c2 : (nI (6 * n + 2)).toNatClampNeg = 6 * n + 2 := nI_clamp (by omega)
  have x2 : I 6 (6 * n + 2) = xs (6 * n + 2) := b.2.2.2.2 _ (by omega)
  have e3 : nI (6 * n) + 3 = nI (6 * n + 3) := nI_add (6 * n) 3
  have a3 : mIn (nI (6 * n + 3)) xL = true := mIn_nI (by omega) (by omega)
  have c3 : (nI (6 * n + 3)).toNatClampNeg = 6 * n + 3 := nI_clamp (by omega)
  have x3 : I 6 (6 * n + 3) = xs (6 * n + 3) := b.2.2.2.2 _ (by omega)
  simp only [w268_631, w268_632, w268_633, w268_634, w268_635, e1, u268_636 (hi := a1), c1, x1, w268_637, w268_638, w268_639, w268_640, e2, u268_641 (hi := a2), c2, x2, w268_642, w268_643, w268_644, w268_645, e3, u268_646 (hi := a3), c3, x3, w268_647]
  refine c110 (d := d + 33) hx.1 (xs (6 * n + 1)) (xs (6 * n + 2)) (xs (6 * n + 3)) (fun I1 f1 => ?_)
  have hx1 := fQ_V f1 hx
  have hz1 := zV_x hx1 hz
  have y1 : I1 6 (6 * n + 1) = xs (6 * n + 1) := by rw [hx1.2.2.2.2.2.2 6 (Or.inl (by decide))]; exact x1
  have y2 : I1 6 (6 * n + 2) = xs (6 * n + 2) := by rw [hx1.2.2.2.2.2.2 6 (Or.inl (by decide))]; exact x2
  have y3 : I1 6 (6 * n + 3) = xs (6 * n + 3) := by rw [hx1.2.2.2.2.2.2 6 (Or.inl (by decide))]; exact x3
  simp only [↓reduceIte, Option.toList_some, Option.toList_none, List.cons_append, List.nil_append, Int32.reduceAdd, Int32.reduceLT, Int32.reduceLE, Int32.reduceToNatClampNeg, w268_650, w268_651, w268_652, w268_653, w268_654, e1, u268_655 (hi := a1), c1, y1, w268_656, w268_657, w268_658, w268_659, e2, u268_660 (hi := a2), c2, y2, w268_661, w268_662, w268_663, w268_664, e3, u268_665 (hi := a3), c3, y3, w268_666]
  refine c210 (d := d + 31) hz1.1 (xs (6 * n + 1)) (xs (6 * n + 2)) (xs (6 * n + 3)) (fun I2 f2 => ?_)
  have hz2 := fB_V f2 hz1
  simp only [↓reduceIte, Option.toList_some, Option.toList_none, List.cons_append, List.nil_append, Int32.reduceAdd, Int32.reduceLT, Int32.reduceLE, Int32.reduceToNatClampNeg, w268_669, ↓reduceIte]
  exact ih I2 J o o' (lIx_mk ho b hx1 hz2 (lCo_q c))
theorem l_18 (hn : n < 512) (hx6 : 6 * n + 6 ≤ xL) (hxL : xL ≤ 3072) (hI : lIx xL xs n I J o o') (ih : ∀ I' J' o1 o2, lIx xL xs (n + 1) I' J' o1 o2 → WP (d + 40) 268 1376 [.ref 6, .ref 7, .ref 180, .int (nI (6 * n))] [] (mHh xL I' J' (mRf o1 o1 o2)) Q) : WP (d + 40) 268 674 [.ref 6, .ref 7, .ref 180, .int (nI (6 * n))] [] (mHh xL I J (mRf o o o')) Q := by
  obtain ⟨ho, b, s, η, ρ, u, H, g, K, t, τ, L, W, pl, hx, hz, c⟩ := hI
  have e1 : nI (6 * n) + 1 = nI (6 * n + 1) := nI_add (6 * n) 1
  have a1 : mIn (nI (6 * n + 1)) xL = true := mIn_nI (by omega) (by omega)
  have c1 : (nI (6 * n + 1)).toNatClampNeg = 6 * n + 1 := nI_clamp (by omega)
  have x1 : I 6 (6 * n + 1) = xs (6 * n + 1) := b.2.2.2.2 _ (by omega)
  have e2 : nI (6 * n) + 2 = nI (6 * n + 2) := nI_add (6 * n) 2
  have a2 : mIn (nI (6 * n + 2)) xL = true := mIn_nI (by omega) (by omega)
  have c2 : (nI (6 * n + 2)).toNatClampNeg = 6 * n + 2 := nI_clamp (by omega)
  have x2 : I 6 (6 * n + 2) = xs (6 * n + 2) := b.2.2.2.2 _ (by omega)
  simp only [w268_674, w268_675, w268_676, w268_677, w268_678, e1, u268_679 (hi := a1), c1, x1, w268_680, w268_681, w268_682, w268_683, e2, u268_684 (hi := a2), c2, x2, w268_685]
  refine c112 (d := d + 34) hx.1 (xs (6 * n + 1)) (xs (6 * n + 2)) (fun I1 f1 => ?_)
  have hx1 := fQ_V f1 hx
  have hz1 := zV_x hx1 hz
  have y1 : I1 6 (6 * n + 1) = xs (6 * n + 1) := by rw [hx1.2.2.2.2.2.2 6 (Or.inl (by decide))]; exact x1
  have y2 : I1 6 (6 * n + 2) = xs (6 * n + 2) := by rw [hx1.2.2.2.2.2.2 6 (Or.inl (by decide))]; exact x2
  simp only [↓reduceIte, Option.toList_some, Option.toList_none, List.cons_append, List.nil_append, Int32.reduceAdd, Int32.reduceLT, Int32.reduceLE, Int32.reduceToNatClampNeg, w268_688, w268_689, w268_690, w268_691, w268_692, e1, u268_693 (hi := a1), c1, y1, w268_694, w268_695, w268_696, w268_697, e2, u268_698 (hi := a2), c2, y2, w268_699]
  refine c214 (d := d + 31) hz1.1 (xs (6 * n + 1)) (xs (6 * n + 2)) (fun I2 f2 => ?_)
  have hz2 := fB_V f2 hz1
  simp only [↓reduceIte, Option.toList_some, Option.toList_none, List.cons_append, List.nil_append, Int32.reduceAdd, Int32.reduceLT, Int32.reduceLE, Int32.reduceToNatClampNeg, w268_702, ↓reduceIte]
  exact ih I2 J o o' (lIx_mk ho b hx1 hz2 (lCo_q c))
theorem l_19 (hn : n < 512) (hx6 : 6 * n + 6 ≤ xL) (hxL : xL ≤ 3072) (hI : lIx xL xs n I J o o') (ih : ∀ I' J' o1 o2, lIx xL xs (n + 1) I' J' o1 o2 → WP (d + 40) 268 1376 [.ref 6, .ref 7, .ref 180, .int (nI (6 * n))] [] (mHh xL I' J' (mRf o1 o1 o2)) Q) : WP (d + 40) 268 707 [.ref 6, .ref 7, .ref 180, .int (nI (6 * n))] [] (mHh xL I J (mRf o o o')) Q := by
  obtain ⟨ho, b, s, η, ρ, u, H, g, K, t, τ, L, W, pl, hx, hz, c⟩ := hI
  have e1 : nI (6 * n) + 1 = nI (6 * n + 1) := nI_add (6 * n) 1
  have a1 : mIn (nI (6 * n + 1)) xL = true := mIn_nI (by omega) (by omega)
  have c1 : (nI (6 * n + 1)).toNatClampNeg = 6 * n + 1 := nI_clamp (by omega)
  have x1 : I 6 (6 * n + 1) = xs (6 * n + 1) := b.2.2.2.2 _ (by omega)
  have e2 : nI (6 * n) + 2 = nI (6 * n + 2) := nI_add (6 * n) 2
  have a2 : mIn (nI (6 * n + 2)) xL = true := mIn_nI (by omega) (by omega)
  have c2 : (nI (6 * n + 2)).toNatClampNeg = 6 * n + 2 := nI_clamp (by omega)
  have x2 : I 6 (6 * n + 2) = xs (6 * n + 2) := b.2.2.2.2 _ (by omega)
  simp only [w268_707, w268_708, w268_709, w268_710, w268_711, e1, u268_712 (hi := a1), c1, x1, w268_713, w268_714, w268_715, w268_716, e2, u268_717 (hi := a2), c2, x2, w268_718]
  refine c105 (d := d + 34) hx.1 (xs (6 * n + 1)) (xs (6 * n + 2)) (fun I1 f1 => ?_)
  have hx1 := fQ_V f1 hx
  have hz1 := zV_x hx1 hz
  have y1 : I1 6 (6 * n + 1) = xs (6 * n + 1) := by rw [hx1.2.2.2.2.2.2 6 (Or.inl (by decide))]; exact x1
  have y2 : I1 6 (6 * n + 2) = xs (6 * n + 2) := by rw [hx1.2.2.2.2.2.2 6 (Or.inl (by decide))]; exact x2
  simp only [↓reduceIte, Option.toList_some, Option.toList_none, List.cons_append, List.nil_append, Int32.reduceAdd, Int32.reduceLT, Int32.reduceLE, Int32.reduceToNatClampNeg, w268_721, w268_722, w268_723, w268_724, w268_725, e1, u268_726 (hi := a1), c1, y1, w268_727, w268_728, w268_729, w268_730, e2, u268_731 (hi := a2), c2, y2, w268_732]
  refine c217 (d := d + 32) hz1.1 (xs (6 * n + 1)) (xs (6 * n + 2)) (fun I2 f2 => ?_)
  have hz2 := fB_V f2 hz1
  simp only [↓reduceIte, Option.toList_some, Option.toList_none, List.cons_append, List.nil_append, Int32.reduceAdd, Int32.reduceLT, Int32.reduceLE, Int32.reduceToNatClampNeg, w268_735, ↓reduceIte]
  exact ih I2 J o o' (lIx_mk ho b hx1 hz2 (lCo_q c))
theorem l_20 (hn : n < 512) (hx6 : 6 * n + 6 ≤ xL) (hxL : xL ≤ 3072) (hI : lIx xL xs n I J o o') (ih : ∀ I' J' o1 o2, lIx xL xs (n + 1) I' J' o1 o2 → WP (d + 40) 268 1376 [.ref 6, .ref 7, .ref 180, .int (nI (6 * n))] [] (mHh xL I' J' (mRf o1 o1 o2)) Q) : WP (d + 40) 268 740 [.ref 6, .ref 7, .ref 180, .int (nI (6 * n))] [] (mHh xL I J (mRf o o o')) Q := by
  obtain ⟨ho, b, s, η, ρ, u, H, g, K, t, τ, L, W, pl, hx, hz, c⟩ := hI
  have e1 : nI (6 * n) + 1 = nI (6 * n + 1) := nI_add (6 * n) 1
  have a1 : mIn (nI (6 * n + 1)) xL = true := mIn_nI (by omega) (by omega)
  have c1 : (nI (6 * n + 1)).toNatClampNeg = 6 * n + 1 := nI_clamp (by omega)
  have x1 : I 6 (6 * n + 1) = xs (6 * n + 1) := b.2.2.2.2 _ (by omega)
  simp only [w268_740, w268_741, w268_742, w268_743, w268_744, e1, u268_745 (hi := a1), c1, x1, w268_746]
  refine c106 (d := d + 34) hx.1 (xs (6 * n + 1)) (fun I1 f1 => ?_)
  have hx1 := fQ_V f1 hx
  have hz1 := zV_x hx1 hz
  have y1 : I1 6 (6 * n + 1) = xs (6 * n + 1) := by rw [hx1.2.2.2.2.2.2 6 (Or.inl (by decide))]; exact x1
  simp only [↓reduceIte, Option.toList_some, Option.toList_none, List.cons_append, List.nil_append, Int32.reduceAdd, Int32.reduceLT, Int32.reduceLE, Int32.reduceToNatClampNeg, w268_749, w268_750, w268_751, w268_752, w268_753, e1, u268_754 (hi := a1), c1, y1, w268_755]
  refine c218 (d := d + 33) hz1.1 (xs (6 * n + 1)) (fun I2 f2 => ?_)
  have hz2 := fB_V f2 hz1
  simp only [↓reduceIte, Option.toList_some, Option.toList_none, List.cons_append, List.nil_append, Int32.reduceAdd, Int32.reduceLT, Int32.reduceLE, Int32.reduceToNatClampNeg, w268_758, ↓reduceIte]
  exact ih I2 J o o' (lIx_mk ho b hx1 hz2 (lCo_q c))
theorem l_21 (hn : n < 512) (hx6 : 6 * n + 6 ≤ xL) (hxL : xL ≤ 3072) (hI : lIx xL xs n I J o o') (ih : ∀ I' J' o1 o2, lIx xL xs (n + 1) I' J' o1 o2 → WP (d + 40) 268 1376 [.ref 6, .ref 7, .ref 180, .int (nI (6 * n))] [] (mHh xL I' J' (mRf o1 o1 o2)) Q) : WP (d + 40) 268 763 [.ref 6, .ref 7, .ref 180, .int (nI (6 * n))] [] (mHh xL I J (mRf o o o')) Q := by
  obtain ⟨ho, b, s, η, ρ, u, H, g, K, t, τ, L, W, pl, hx, hz, c⟩ := hI
  have e1 : nI (6 * n) + 1 = nI (6 * n + 1) := nI_add (6 * n) 1
  have a1 : mIn (nI (6 * n + 1)) xL = true := mIn_nI (by omega) (by omega)
  have c1 : (nI (6 * n + 1)).toNatClampNeg = 6 * n + 1 := nI_clamp (by omega)
  have x1 : I 6 (6 * n + 1) = xs (6 * n + 1) := b.2.2.2.2 _ (by omega)
  have e2 : nI (6 * n) + 2 = nI (6 * n + 2) := nI_add (6 * n) 2
  have a2 : mIn (nI (6 * n + 2)) xL = true := mIn_nI (by omega) (by omega)
  have c2 : (nI (6 * n + 2)).toNatClampNeg = 6 * n + 2 := nI_clamp (by omega)
  have x2 : I 6 (6 * n + 2) = xs (6 * n + 2) := b.2.2.2.2 _ (by omega)
  simp only [w268_763, w268_764, w268_765, w268_766, w268_767, e1, u268_768 (hi := a1), c1, x1, w268_769, w268_770, w268_771, w268_772, e2, u268_773 (hi := a2), c2, x2, w268_774]
  refine c107 (d := d + 33) hx.1 (xs (6 * n + 1)) (xs (6 * n + 2)) (fun I1 f1 => ?_)
  have hx1 := fQ_V f1 hx
  have hz1 := zV_x hx1 hz
  have y1 : I1 6 (6 * n + 1) = xs (6 * n + 1) := by rw [hx1.2.2.2.2.2.2 6 (Or.inl (by decide))]; exact x1
  have y2 : I1 6 (6 * n + 2) = xs (6 * n + 2) := by rw [hx1.2.2.2.2.2.2 6 (Or.inl (by decide))]; exact x2
  simp only [↓reduceIte, Option.toList_some, Option.toList_none, List.cons_append, List.nil_append, Int32.reduceAdd, Int32.reduceLT, Int32.reduceLE, Int32.reduceToNatClampNeg, w268_777, w268_778, w268_779, w268_780, w268_781, e1, u268_782 (hi := a1), c1, y1, w268_783, w268_784, w268_785, w268_786, e2, u268_787 (hi := a2), c2, y2, w268_788]
  refine c220 (d := d + 33) hz1.1 (xs (6 * n + 1)) (xs (6 * n + 2)) (fun I2 f2 => ?_)
  have hz2 := fB_V f2 hz1
  simp only [↓reduceIte, Option.toList_some, Option.toList_none, List.cons_append, List.nil_append, Int32.reduceAdd, Int32.reduceLT, Int32.reduceLE, Int32.reduceToNatClampNeg, w268_791, ↓reduceIte]
  exact ih I2 J o o' (lIx_mk ho b hx1 hz2 (lCo_q c))
theorem l_22 (hn : n < 512) (hx6 : 6 * n + 6 ≤ xL) (hxL : xL ≤ 3072) (hI : lIx xL xs n I J o o') (ih : ∀ I' J' o1 o2, lIx xL xs (n + 1) I' J' o1 o2 → WP (d + 40) 268 1376 [.ref 6, .ref 7, .ref 180, .int (nI (6 * n))] [] (mHh xL I' J' (mRf o1 o1 o2)) Q) : WP (d + 40) 268 796 [.ref 6, .ref 7, .ref 180, .int (nI (6 * n))] [] (mHh xL I J (mRf o o o')) Q := by
  obtain ⟨ho, b, s, η, ρ, u, H, g, K, t, τ, L, W, pl, hx, hz, c⟩ := hI
  have e1 : nI (6 * n) + 1 = nI (6 * n + 1) := nI_add (6 * n) 1
  have a1 : mIn (nI (6 * n + 1)) xL = true := mIn_nI (by omega) (by omega)
  have c1 : (nI (6 * n + 1)).toNatClampNeg = 6 * n + 1 := nI_clamp (by omega)
  have x1 : I 6 (6 * n + 1) = xs (6 * n + 1) := b.2.2.2.2 _ (by omega)
  have e2 : nI (6 * n) + 2 = nI (6 * n + 2) := nI_add (6 * n) 2
  have a2 : mIn (nI (6 * n + 2)) xL = true := mIn_nI (by omega) (by omega)
  have c2 : (nI (6 * n + 2)).toNatClampNeg = 6 * n + 2 := nI_clamp (by omega)
  have x2 : I 6 (6 * n + 2) = xs (6 * n + 2) := b.2.2.2.2 _ (by omega)
  have e3 : nI (6 * n) + 3 = nI (6 * n + 3) := nI_add (6 * n) 3
  have a3 : mIn (nI (6 * n + 3)) xL = true := mIn_nI (by omega) (by omega)
  have c3 : (nI (6 * n + 3)).toNatClampNeg = 6 * n + 3 := nI_clamp (by omega)
  have x3 : I 6 (6 * n + 3) = xs (6 * n + 3) := b.2.2.2.2 _ (by omega)
  simp only [w268_796, w268_797, w268_798, w268_799, w268_800, e1, u268_801 (hi := a1), c1, x1, w268_802, w268_803, w268_804, w268_805, e2, u268_806 (hi := a2), c2, x2, w268_807, w268_808, w268_809, w268_810, e3, u268_811 (hi := a3), c3, x3, w268_812]
  refine c113 (d := d + 32) hx.1 (xs (6 * n + 1)) (xs (6 * n + 2)) (xs (6 * n + 3)) (fun I1 f1 => ?_)
  have hx1 := fQ_V f1 hx
  have hz1 := zV_x hx1 hz
  have y1 : I1 6 (6 * n + 1) = xs (6 * n + 1) := by rw [hx1.2.2.2.2.2.2 6 (Or.inl (by decide))]; exact x1
  have y2 : I1 6 (6 * n + 2) = xs (6 * n + 2) := by rw [hx1.2.2.2.2.2.2 6 (Or.inl (by decide))]; exact x2
  have y3 : I1 6 (6 * n + 3) = xs (6 * n + 3) := by rw [hx1.2.2.2.2.2.2 6 (Or.inl (by decide))]; exact x3
  simp only [↓reduceIte, Option.toList_some, Option.toList_none, List.cons_append, List.nil_append, Int32.reduceAdd, Int32.reduceLT, Int32.reduceLE, Int32.reduceToNatClampNeg, w268_815, w268_816, w268_817, w268_818, w268_819, e1, u268_820 (hi := a1), c1, y1, w268_821, w268_822, w268_823, w268_824, e2, u268_825 (hi := a2), c2, y2, w268_826, w268_827, w268_828, w268_829, e3, u268_830 (hi := a3), c3, y3, w268_831]
  refine c221 (d := d + 29) hz1.1 (xs (6 * n + 1)) (xs (6 * n + 2)) (xs (6 * n + 3)) (fun I2 f2 => ?_)
  have hz2 := fB_V f2 hz1
  simp only [↓reduceIte, Option.toList_some, Option.toList_none, List.cons_append, List.nil_append, Int32.reduceAdd, Int32.reduceLT, Int32.reduceLE, Int32.reduceToNatClampNeg, w268_834, ↓reduceIte]
  exact ih I2 J o o' (lIx_mk ho b hx1 hz2 (lCo_q c))
end LQA
