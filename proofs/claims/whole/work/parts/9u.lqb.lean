/-! The law's cases: queries, the rest. -/
section LQB
variable {d : Nat} {xL : Nat} {I : Nat → Nat → Int32} {J : Nat → Nat → Int64} {o o' : Nat} {Q : Option Value → mHp → Prop} {n : Nat} {xs : Nat → Int32}
theorem l_23 (hn : n < 512) (hx6 : 6 * n + 6 ≤ xL) (hxL : xL ≤ 3072) (hI : lIx xL xs n I J o o') (ih : ∀ I' J' o1 o2, lIx xL xs (n + 1) I' J' o1 o2 → WP (d + 40) 268 1376 [.ref 6, .ref 7, .ref 180, .int (nI (6 * n))] [] (mHh xL I' J' (mRf o1 o1 o2)) Q) : WP (d + 40) 268 839 [.ref 6, .ref 7, .ref 180, .int (nI (6 * n))] [] (mHh xL I J (mRf o o o')) Q := by
  obtain ⟨ho, b, s, η, ρ, u, H, g, K, t, τ, L, W, pl, hx, hz, c⟩ := hI
  have e1 : nI (6 * n) + 1 = nI (6 * n + 1) := nI_add (6 * n) 1
  have a1 : mIn (nI (6 * n + 1)) xL = true := mIn_nI (by omega) (by omega)
  have c1 : (nI (6 * n + 1)).toNatClampNeg = 6 * n + 1 := nI_clamp (by omega)
  have x1 : I 6 (6 * n + 1) = xs (6 * n + 1) := b.2.2.2.2 _ (by omega)
  have e2 : nI (6 * n) + 2 = nI (6 * n + 2) := nI_add (6 * n) 2
  have a2 : mIn (nI (6 * n + 2)) xL = true := mIn_nI (by omega) (by omega)
  have c2 : (nI (6 * n + 2)).toNatClampNeg = 6 * n + 2 := nI_clamp (by omega)
  have x2 : I 6 (6 * n + 2) = xs (6 * n + 2) := b.2.2.2.2 _ (by omega)
  simp only [w268_839, w268_840, w268_841, w268_842, w268_843, e1, u268_844 (hi := a1), c1, x1, w268_845, w268_846, w268_847, w268_848, e2, u268_849 (hi := a2), c2, x2, w268_850]
  refine c116 (d := d + 34) hx.1 (xs (6 * n + 1)) (xs (6 * n + 2)) (fun I1 f1 => ?_)
  have hx1 := fQ_V f1 hx
  have hz1 := zV_x hx1 hz
  have y1 : I1 6 (6 * n + 1) = xs (6 * n + 1) := by rw [hx1.2.2.2.2.2.2 6 (Or.inl (by decide))]; exact x1
  have y2 : I1 6 (6 * n + 2) = xs (6 * n + 2) := by rw [hx1.2.2.2.2.2.2 6 (Or.inl (by decide))]; exact x2
  simp only [↓reduceIte, Option.toList_some, Option.toList_none, List.cons_append, List.nil_append, Int32.reduceAdd, Int32.reduceLT, Int32.reduceLE, Int32.reduceToNatClampNeg, w268_853, w268_854, w268_855, w268_856, w268_857, e1, u268_858 (hi := a1), c1, y1, w268_859, w268_860, w268_861, w268_862, e2, u268_863 (hi := a2), c2, y2, w268_864]
  refine c224 (d := d + 31) hz1.1 (xs (6 * n + 1)) (xs (6 * n + 2)) (fun I2 f2 => ?_)
  have hz2 := fB_V f2 hz1
  simp only [↓reduceIte, Option.toList_some, Option.toList_none, List.cons_append, List.nil_append, Int32.reduceAdd, Int32.reduceLT, Int32.reduceLE, Int32.reduceToNatClampNeg, w268_867, ↓reduceIte]
  exact ih I2 J o o' (lIx_mk ho b hx1 hz2 (lCo_q c))
theorem l_24 (hn : n < 512) (hx6 : 6 * n + 6 ≤ xL) (hxL : xL ≤ 3072) (hI : lIx xL xs n I J o o') (ih : ∀ I' J' o1 o2, lIx xL xs (n + 1) I' J' o1 o2 → WP (d + 40) 268 1376 [.ref 6, .ref 7, .ref 180, .int (nI (6 * n))] [] (mHh xL I' J' (mRf o1 o1 o2)) Q) : WP (d + 40) 268 872 [.ref 6, .ref 7, .ref 180, .int (nI (6 * n))] [] (mHh xL I J (mRf o o o')) Q := by
  obtain ⟨ho, b, s, η, ρ, u, H, g, K, t, τ, L, W, pl, hx, hz, c⟩ := hI
  have e1 : nI (6 * n) + 1 = nI (6 * n + 1) := nI_add (6 * n) 1
  have a1 : mIn (nI (6 * n + 1)) xL = true := mIn_nI (by omega) (by omega)
  have c1 : (nI (6 * n + 1)).toNatClampNeg = 6 * n + 1 := nI_clamp (by omega)
  have x1 : I 6 (6 * n + 1) = xs (6 * n + 1) := b.2.2.2.2 _ (by omega)
  have gE := fun Q' => c119 (d := d + 38) (xL := xL) (J := J) (rr := o') (Q := Q') hx.1 (xs (6 * n + 1))
  have mE := fun Q' => c225 (d := d + 38) (xL := xL) (J := J) (rc := o) (rx := o) (rr := o') (Q := Q') hz.1 (xs (6 * n + 1))
  simp only [w268_872, w268_873, w268_874, w268_875, w268_876, e1, u268_877 (hi := a1), c1, x1, w268_878, gE, ↓reduceIte, Option.toList_some, Option.toList_none, List.cons_append, List.nil_append, Int32.reduceAdd, Int32.reduceLT, Int32.reduceLE, Int32.reduceToNatClampNeg, w268_881, w268_882, w268_883, w268_884, w268_885, e1, u268_886 (hi := a1), c1, x1, w268_887, mE, w268_890, ↓reduceIte]
  exact ih I J o o' (lIx_mk ho b hx hz (lCo_q c))
theorem l_25 (hn : n < 512) (hx6 : 6 * n + 6 ≤ xL) (hxL : xL ≤ 3072) (hI : lIx xL xs n I J o o') (ih : ∀ I' J' o1 o2, lIx xL xs (n + 1) I' J' o1 o2 → WP (d + 40) 268 1376 [.ref 6, .ref 7, .ref 180, .int (nI (6 * n))] [] (mHh xL I' J' (mRf o1 o1 o2)) Q) : WP (d + 40) 268 895 [.ref 6, .ref 7, .ref 180, .int (nI (6 * n))] [] (mHh xL I J (mRf o o o')) Q := by
  obtain ⟨ho, b, s, η, ρ, u, H, g, K, t, τ, L, W, pl, hx, hz, c⟩ := hI
  have e1 : nI (6 * n) + 1 = nI (6 * n + 1) := nI_add (6 * n) 1
  have a1 : mIn (nI (6 * n + 1)) xL = true := mIn_nI (by omega) (by omega)
  have c1 : (nI (6 * n + 1)).toNatClampNeg = 6 * n + 1 := nI_clamp (by omega)
  have x1 : I 6 (6 * n + 1) = xs (6 * n + 1) := b.2.2.2.2 _ (by omega)
  have e2 : nI (6 * n) + 2 = nI (6 * n + 2) := nI_add (6 * n) 2
  have a2 : mIn (nI (6 * n + 2)) xL = true := mIn_nI (by omega) (by omega)
  have c2 : (nI (6 * n + 2)).toNatClampNeg = 6 * n + 2 := nI_clamp (by omega)
  have x2 : I 6 (6 * n + 2) = xs (6 * n + 2) := b.2.2.2.2 _ (by omega)
  have gE := fun Q' => c120 (d := d + 37) (xL := xL) (J := J) (rr := o') (Q := Q') hx.1 (xs (6 * n + 1)) (xs (6 * n + 2))
  have mE := fun Q' => c226 (d := d + 37) (xL := xL) (J := J) (rc := o) (rx := o) (rr := o') (Q := Q') hz.1 (xs (6 * n + 1)) (xs (6 * n + 2))
  simp only [w268_895, w268_896, w268_897, w268_898, w268_899, e1, u268_900 (hi := a1), c1, x1, w268_901, w268_902, w268_903, w268_904, e2, u268_905 (hi := a2), c2, x2, w268_906, gE, ↓reduceIte, Option.toList_some, Option.toList_none, List.cons_append, List.nil_append, Int32.reduceAdd, Int32.reduceLT, Int32.reduceLE, Int32.reduceToNatClampNeg, w268_909, w268_910, w268_911, w268_912, w268_913, e1, u268_914 (hi := a1), c1, x1, w268_915, w268_916, w268_917, w268_918, e2, u268_919 (hi := a2), c2, x2, w268_920, mE, w268_923, ↓reduceIte]
  exact ih I J o o' (lIx_mk ho b hx hz (lCo_q c))
theorem l_26 (hn : n < 512) (hx6 : 6 * n + 6 ≤ xL) (hxL : xL ≤ 3072) (hI : lIx xL xs n I J o o') (ih : ∀ I' J' o1 o2, lIx xL xs (n + 1) I' J' o1 o2 → WP (d + 40) 268 1376 [.ref 6, .ref 7, .ref 180, .int (nI (6 * n))] [] (mHh xL I' J' (mRf o1 o1 o2)) Q) : WP (d + 40) 268 928 [.ref 6, .ref 7, .ref 180, .int (nI (6 * n))] [] (mHh xL I J (mRf o o o')) Q := by
  obtain ⟨ho, b, s, η, ρ, u, H, g, K, t, τ, L, W, pl, hx, hz, c⟩ := hI
  have e1 : nI (6 * n) + 1 = nI (6 * n + 1) := nI_add (6 * n) 1
  have a1 : mIn (nI (6 * n + 1)) xL = true := mIn_nI (by omega) (by omega)
  have c1 : (nI (6 * n + 1)).toNatClampNeg = 6 * n + 1 := nI_clamp (by omega)
  have x1 : I 6 (6 * n + 1) = xs (6 * n + 1) := b.2.2.2.2 _ (by omega)
  simp only [w268_928, w268_929, w268_930, w268_931, w268_932, e1, u268_933 (hi := a1), c1, x1, w268_934]
  refine c122 (d := d + 31) hx.1 (xs (6 * n + 1)) (fun I1 f1 => ?_)
  have hx1 := fQ_V f1 hx
  have hz1 := zV_x hx1 hz
  have y1 : I1 6 (6 * n + 1) = xs (6 * n + 1) := by rw [hx1.2.2.2.2.2.2 6 (Or.inl (by decide))]; exact x1
  simp only [↓reduceIte, Option.toList_some, Option.toList_none, List.cons_append, List.nil_append, Int32.reduceAdd, Int32.reduceLT, Int32.reduceLE, Int32.reduceToNatClampNeg, w268_937, w268_938, w268_939, w268_940, w268_941, e1, u268_942 (hi := a1), c1, y1, w268_943]
  refine c227 (d := d + 35) hz1.1 (xs (6 * n + 1)) (fun I2 f2 => ?_)
  have hz2 := fB_V f2 hz1
  simp only [↓reduceIte, Option.toList_some, Option.toList_none, List.cons_append, List.nil_append, Int32.reduceAdd, Int32.reduceLT, Int32.reduceLE, Int32.reduceToNatClampNeg, w268_946, ↓reduceIte]
  exact ih I2 J o o' (lIx_mk ho b hx1 hz2 (lCo_q c))
theorem l_27 (hn : n < 512) (hx6 : 6 * n + 6 ≤ xL) (hxL : xL ≤ 3072) (hI : lIx xL xs n I J o o') (ih : ∀ I' J' o1 o2, lIx xL xs (n + 1) I' J' o1 o2 → WP (d + 40) 268 1376 [.ref 6, .ref 7, .ref 180, .int (nI (6 * n))] [] (mHh xL I' J' (mRf o1 o1 o2)) Q) : WP (d + 40) 268 951 [.ref 6, .ref 7, .ref 180, .int (nI (6 * n))] [] (mHh xL I J (mRf o o o')) Q := by
  obtain ⟨ho, b, s, η, ρ, u, H, g, K, t, τ, L, W, pl, hx, hz, c⟩ := hI
  have e1 : nI (6 * n) + 1 = nI (6 * n + 1) := nI_add (6 * n) 1
  have a1 : mIn (nI (6 * n + 1)) xL = true := mIn_nI (by omega) (by omega)
  have c1 : (nI (6 * n + 1)).toNatClampNeg = 6 * n + 1 := nI_clamp (by omega)
  have x1 : I 6 (6 * n + 1) = xs (6 * n + 1) := b.2.2.2.2 _ (by omega)
  have e2 : nI (6 * n) + 2 = nI (6 * n + 2) := nI_add (6 * n) 2
  have a2 : mIn (nI (6 * n + 2)) xL = true := mIn_nI (by omega) (by omega)
  have c2 : (nI (6 * n + 2)).toNatClampNeg = 6 * n + 2 := nI_clamp (by omega)
  have x2 : I 6 (6 * n + 2) = xs (6 * n + 2) := b.2.2.2.2 _ (by omega)
  simp only [w268_951, w268_952, w268_953, w268_954, w268_955, e1, u268_956 (hi := a1), c1, x1, w268_957, w268_958, w268_959, w268_960, e2, u268_961 (hi := a2), c2, x2, w268_962]
  refine c117 (d := d + 34) hx.1 (xs (6 * n + 1)) (xs (6 * n + 2)) (fun I1 f1 => ?_)
  have hx1 := fQ_V f1 hx
  have hz1 := zV_x hx1 hz
  have y1 : I1 6 (6 * n + 1) = xs (6 * n + 1) := by rw [hx1.2.2.2.2.2.2 6 (Or.inl (by decide))]; exact x1
  have y2 : I1 6 (6 * n + 2) = xs (6 * n + 2) := by rw [hx1.2.2.2.2.2.2 6 (Or.inl (by decide))]; exact x2
  simp only [↓reduceIte, Option.toList_some, Option.toList_none, List.cons_append, List.nil_append, Int32.reduceAdd, Int32.reduceLT, Int32.reduceLE, Int32.reduceToNatClampNeg, w268_965, w268_966, w268_967, w268_968, w268_969, e1, u268_970 (hi := a1), c1, y1, w268_971, w268_972, w268_973, w268_974, e2, u268_975 (hi := a2), c2, y2, w268_976]
  refine c233 (d := d + 31) hz1.1 (xs (6 * n + 1)) (xs (6 * n + 2)) (fun I2 f2 => ?_)
  have hz2 := fB_V f2 hz1
  simp only [↓reduceIte, Option.toList_some, Option.toList_none, List.cons_append, List.nil_append, Int32.reduceAdd, Int32.reduceLT, Int32.reduceLE, Int32.reduceToNatClampNeg, w268_979, ↓reduceIte]
  exact ih I2 J o o' (lIx_mk ho b hx1 hz2 (lCo_q c))
theorem l_28 (hn : n < 512) (hx6 : 6 * n + 6 ≤ xL) (hxL : xL ≤ 3072) (hI : lIx xL xs n I J o o') (ih : ∀ I' J' o1 o2, lIx xL xs (n + 1) I' J' o1 o2 → WP (d + 40) 268 1376 [.ref 6, .ref 7, .ref 180, .int (nI (6 * n))] [] (mHh xL I' J' (mRf o1 o1 o2)) Q) : WP (d + 40) 268 984 [.ref 6, .ref 7, .ref 180, .int (nI (6 * n))] [] (mHh xL I J (mRf o o o')) Q := by
  obtain ⟨ho, b, s, η, ρ, u, H, g, K, t, τ, L, W, pl, hx, hz, c⟩ := hI
  have e1 : nI (6 * n) + 1 = nI (6 * n + 1) := nI_add (6 * n) 1
  have a1 : mIn (nI (6 * n + 1)) xL = true := mIn_nI (by omega) (by omega)
  have c1 : (nI (6 * n + 1)).toNatClampNeg = 6 * n + 1 := nI_clamp (by omega)
  have x1 : I 6 (6 * n + 1) = xs (6 * n + 1) := b.2.2.2.2 _ (by omega)
  have e2 : nI (6 * n) + 2 = nI (6 * n + 2) := nI_add (6 * n) 2
  have a2 : mIn (nI (6 * n + 2)) xL = true := mIn_nI (by omega) (by omega)
  have c2 : (nI (6 * n + 2)).toNatClampNeg = 6 * n + 2 := nI_clamp (by omega)
  have x2 : I 6 (6 * n + 2) = xs (6 * n + 2) := b.2.2.2.2 _ (by omega)
  simp only [w268_984, w268_985, w268_986, w268_987, w268_988, e1, u268_989 (hi := a1), c1, x1, w268_990, w268_991, w268_992, w268_993, e2, u268_994 (hi := a2), c2, x2, w268_995]
  refine c109 (d := d + 34) hx.1 (xs (6 * n + 1)) (xs (6 * n + 2)) (fun I1 f1 => ?_)
  have hx1 := fQ_V f1 hx
  have hz1 := zV_x hx1 hz
  have y1 : I1 6 (6 * n + 1) = xs (6 * n + 1) := by rw [hx1.2.2.2.2.2.2 6 (Or.inl (by decide))]; exact x1
  have y2 : I1 6 (6 * n + 2) = xs (6 * n + 2) := by rw [hx1.2.2.2.2.2.2 6 (Or.inl (by decide))]; exact x2
  simp only [↓reduceIte, Option.toList_some, Option.toList_none, List.cons_append, List.nil_append, Int32.reduceAdd, Int32.reduceLT, Int32.reduceLE, Int32.reduceToNatClampNeg, w268_998, w268_999, w268_1000, w268_1001, w268_1002, e1, u268_1003 (hi := a1), c1, y1, w268_1004, w268_1005, w268_1006, w268_1007, e2, u268_1008 (hi := a2), c2, y2, w268_1009]
  refine c234 (d := d + 33) hz1.1 (xs (6 * n + 1)) (xs (6 * n + 2)) (fun I2 f2 => ?_)
  have hz2 := fB_V f2 hz1
  simp only [↓reduceIte, Option.toList_some, Option.toList_none, List.cons_append, List.nil_append, Int32.reduceAdd, Int32.reduceLT, Int32.reduceLE, Int32.reduceToNatClampNeg, w268_1012, ↓reduceIte]
  exact ih I2 J o o' (lIx_mk ho b hx1 hz2 (lCo_q c))
theorem l_29 (hn : n < 512) (hx6 : 6 * n + 6 ≤ xL) (hxL : xL ≤ 3072) (hI : lIx xL xs n I J o o') (ih : ∀ I' J' o1 o2, lIx xL xs (n + 1) I' J' o1 o2 → WP (d + 40) 268 1376 [.ref 6, .ref 7, .ref 180, .int (nI (6 * n))] [] (mHh xL I' J' (mRf o1 o1 o2)) Q) : WP (d + 40) 268 1017 [.ref 6, .ref 7, .ref 180, .int (nI (6 * n))] [] (mHh xL I J (mRf o o o')) Q := by
  obtain ⟨ho, b, s, η, ρ, u, H, g, K, t, τ, L, W, pl, hx, hz, c⟩ := hI
  have e1 : nI (6 * n) + 1 = nI (6 * n + 1) := nI_add (6 * n) 1
  have a1 : mIn (nI (6 * n + 1)) xL = true := mIn_nI (by omega) (by omega)
  have c1 : (nI (6 * n + 1)).toNatClampNeg = 6 * n + 1 := nI_clamp (by omega)
  have x1 : I 6 (6 * n + 1) = xs (6 * n + 1) := b.2.2.2.2 _ (by omega)
  have e2 : nI (6 * n) + 2 = nI (6 * n + 2) := nI_add (6 * n) 2
  have a2 : mIn (nI (6 * n + 2)) xL = true := mIn_nI (by omega) (by omega)
  have c2 : (nI (6 * n + 2)).toNatClampNeg = 6 * n + 2 := nI_clamp (by omega)
  have x2 : I 6 (6 * n + 2) = xs (6 * n + 2) := b.2.2.2.2 _ (by omega)
  simp only [w268_1017, w268_1018, w268_1019, w268_1020, w268_1021, e1, u268_1022 (hi := a1), c1, x1, w268_1023, w268_1024, w268_1025, w268_1026, e2, u268_1027 (hi := a2), c2, x2, w268_1028]
  refine c118 (d := d + 19) hx.1 (xs (6 * n + 1)) (xs (6 * n + 2)) (fun I1 f1 => ?_)
  have hx1 := fQ_V f1 hx
  have hz1 := zV_x hx1 hz
  have y1 : I1 6 (6 * n + 1) = xs (6 * n + 1) := by rw [hx1.2.2.2.2.2.2 6 (Or.inl (by decide))]; exact x1
  have y2 : I1 6 (6 * n + 2) = xs (6 * n + 2) := by rw [hx1.2.2.2.2.2.2 6 (Or.inl (by decide))]; exact x2
  simp only [↓reduceIte, Option.toList_some, Option.toList_none, List.cons_append, List.nil_append, Int32.reduceAdd, Int32.reduceLT, Int32.reduceLE, Int32.reduceToNatClampNeg, w268_1031, w268_1032, w268_1033, w268_1034, w268_1035, e1, u268_1036 (hi := a1), c1, y1, w268_1037, w268_1038, w268_1039, w268_1040, e2, u268_1041 (hi := a2), c2, y2, w268_1042]
  refine c235 (d := d + 27) hz1.1 (bas_x b hx1.2.2.2.2.2.2).1.2.2 (xs (6 * n + 1)) (xs (6 * n + 2)) (fun I2 f2 => ?_)
  have hz2 := fB_V f2 hz1
  simp only [↓reduceIte, Option.toList_some, Option.toList_none, List.cons_append, List.nil_append, Int32.reduceAdd, Int32.reduceLT, Int32.reduceLE, Int32.reduceToNatClampNeg, w268_1045, ↓reduceIte]
  exact ih I2 J o o' (lIx_mk ho b hx1 hz2 (lCo_q c))
theorem l_30 (hn : n < 512) (hx6 : 6 * n + 6 ≤ xL) (hxL : xL ≤ 3072) (hI : lIx xL xs n I J o o') (ih : ∀ I' J' o1 o2, lIx xL xs (n + 1) I' J' o1 o2 → WP (d + 40) 268 1376 [.ref 6, .ref 7, .ref 180, .int (nI (6 * n))] [] (mHh xL I' J' (mRf o1 o1 o2)) Q) : WP (d + 40) 268 1050 [.ref 6, .ref 7, .ref 180, .int (nI (6 * n))] [] (mHh xL I J (mRf o o o')) Q := by
  obtain ⟨ho, b, s, η, ρ, u, H, g, K, t, τ, L, W, pl, hx, hz, c⟩ := hI
  have e1 : nI (6 * n) + 1 = nI (6 * n + 1) := nI_add (6 * n) 1
  have a1 : mIn (nI (6 * n + 1)) xL = true := mIn_nI (by omega) (by omega)
  have c1 : (nI (6 * n + 1)).toNatClampNeg = 6 * n + 1 := nI_clamp (by omega)
  have x1 : I 6 (6 * n + 1) = xs (6 * n + 1) := b.2.2.2.2 _ (by omega)
  simp only [w268_1050, w268_1051, w268_1052, w268_1053, w268_1054, e1, u268_1055 (hi := a1), c1, x1, w268_1056]
  refine c123 (d := d + 34) hx.1 (xs (6 * n + 1)) (fun I1 f1 => ?_)
  have hx1 := fQ_V f1 hx
  have hz1 := zV_x hx1 hz
  have y1 : I1 6 (6 * n + 1) = xs (6 * n + 1) := by rw [hx1.2.2.2.2.2.2 6 (Or.inl (by decide))]; exact x1
  simp only [↓reduceIte, Option.toList_some, Option.toList_none, List.cons_append, List.nil_append, Int32.reduceAdd, Int32.reduceLT, Int32.reduceLE, Int32.reduceToNatClampNeg, w268_1059, w268_1060, w268_1061, w268_1062, w268_1063, e1, u268_1064 (hi := a1), c1, y1, w268_1065]
  refine c242 (d := d + 31) hz1.1 (xs (6 * n + 1)) (fun I2 f2 => ?_)
  have hz2 := fB_V f2 hz1
  simp only [↓reduceIte, Option.toList_some, Option.toList_none, List.cons_append, List.nil_append, Int32.reduceAdd, Int32.reduceLT, Int32.reduceLE, Int32.reduceToNatClampNeg, w268_1068, ↓reduceIte]
  exact ih I2 J o o' (lIx_mk ho b hx1 hz2 (lCo_q c))
theorem l_31 (hn : n < 512) (hx6 : 6 * n + 6 ≤ xL) (hxL : xL ≤ 3072) (hI : lIx xL xs n I J o o') (ih : ∀ I' J' o1 o2, lIx xL xs (n + 1) I' J' o1 o2 → WP (d + 40) 268 1376 [.ref 6, .ref 7, .ref 180, .int (nI (6 * n))] [] (mHh xL I' J' (mRf o1 o1 o2)) Q) : WP (d + 40) 268 1073 [.ref 6, .ref 7, .ref 180, .int (nI (6 * n))] [] (mHh xL I J (mRf o o o')) Q := by
  obtain ⟨ho, b, s, η, ρ, u, H, g, K, t, τ, L, W, pl, hx, hz, c⟩ := hI
  have e1 : nI (6 * n) + 1 = nI (6 * n + 1) := nI_add (6 * n) 1
  have a1 : mIn (nI (6 * n + 1)) xL = true := mIn_nI (by omega) (by omega)
  have c1 : (nI (6 * n + 1)).toNatClampNeg = 6 * n + 1 := nI_clamp (by omega)
  have x1 : I 6 (6 * n + 1) = xs (6 * n + 1) := b.2.2.2.2 _ (by omega)
  have e2 : nI (6 * n) + 2 = nI (6 * n + 2) := nI_add (6 * n) 2
  have a2 : mIn (nI (6 * n + 2)) xL = true := mIn_nI (by omega) (by omega)
  have c2 : (nI (6 * n + 2)).toNatClampNeg = 6 * n + 2 := nI_clamp (by omega)
  have x2 : I 6 (6 * n + 2) = xs (6 * n + 2) := b.2.2.2.2 _ (by omega)
  simp only [w268_1073, w268_1074, w268_1075, w268_1076, w268_1077, e1, u268_1078 (hi := a1), c1, x1, w268_1079, w268_1080, w268_1081, w268_1082, e2, u268_1083 (hi := a2), c2, x2, w268_1084]
  refine c124 (d := d + 34) hx.1 (xs (6 * n + 1)) (xs (6 * n + 2)) (fun I1 f1 => ?_)
  have hx1 := fQ_V f1 hx
  have hz1 := zV_x hx1 hz
  have y1 : I1 6 (6 * n + 1) = xs (6 * n + 1) := by rw [hx1.2.2.2.2.2.2 6 (Or.inl (by decide))]; exact x1
  have y2 : I1 6 (6 * n + 2) = xs (6 * n + 2) := by rw [hx1.2.2.2.2.2.2 6 (Or.inl (by decide))]; exact x2
  simp only [↓reduceIte, Option.toList_some, Option.toList_none, List.cons_append, List.nil_append, Int32.reduceAdd, Int32.reduceLT, Int32.reduceLE, Int32.reduceToNatClampNeg, w268_1087, w268_1088, w268_1089, w268_1090, w268_1091, e1, u268_1092 (hi := a1), c1, y1, w268_1093, w268_1094, w268_1095, w268_1096, e2, u268_1097 (hi := a2), c2, y2, w268_1098]
  refine c243 (d := d + 31) hz1.1 (xs (6 * n + 1)) (xs (6 * n + 2)) (fun I2 f2 => ?_)
  have hz2 := fB_V f2 hz1
  simp only [↓reduceIte, Option.toList_some, Option.toList_none, List.cons_append, List.nil_append, Int32.reduceAdd, Int32.reduceLT, Int32.reduceLE, Int32.reduceToNatClampNeg, w268_1101, ↓reduceIte]
  exact ih I2 J o o' (lIx_mk ho b hx1 hz2 (lCo_q c))
theorem l_32 (hn : n < 512) (hx6 : 6 * n + 6 ≤ xL) (hxL : xL ≤ 3072) (hI : lIx xL xs n I J o o') (ih : ∀ I' J' o1 o2, lIx xL xs (n + 1) I' J' o1 o2 → WP (d + 40) 268 1376 [.ref 6, .ref 7, .ref 180, .int (nI (6 * n))] [] (mHh xL I' J' (mRf o1 o1 o2)) Q) : WP (d + 40) 268 1106 [.ref 6, .ref 7, .ref 180, .int (nI (6 * n))] [] (mHh xL I J (mRf o o o')) Q := by
  obtain ⟨ho, b, s, η, ρ, u, H, g, K, t, τ, L, W, pl, hx, hz, c⟩ := hI
  have e1 : nI (6 * n) + 1 = nI (6 * n + 1) := nI_add (6 * n) 1
  have a1 : mIn (nI (6 * n + 1)) xL = true := mIn_nI (by omega) (by omega)
  have c1 : (nI (6 * n + 1)).toNatClampNeg = 6 * n + 1 := nI_clamp (by omega)
  have x1 : I 6 (6 * n + 1) = xs (6 * n + 1) := b.2.2.2.2 _ (by omega)
  have e2 : nI (6 * n) + 2 = nI (6 * n + 2) := nI_add (6 * n) 2
  have a2 : mIn (nI (6 * n + 2)) xL = true := mIn_nI (by omega) (by omega)
  have c2 : (nI (6 * n + 2)).toNatClampNeg = 6 * n + 2 := nI_clamp (by omega)
  have x2 : I 6 (6 * n + 2) = xs (6 * n + 2) := b.2.2.2.2 _ (by omega)
  have e3 : nI (6 * n) + 3 = nI (6 * n + 3) := nI_add (6 * n) 3
  have a3 : mIn (nI (6 * n + 3)) xL = true := mIn_nI (by omega) (by omega)
  have c3 : (nI (6 * n + 3)).toNatClampNeg = 6 * n + 3 := nI_clamp (by omega)
  have x3 : I 6 (6 * n + 3) = xs (6 * n + 3) := b.2.2.2.2 _ (by omega)
  simp only [w268_1106, w268_1107, w268_1108, w268_1109, w268_1110, e1, u268_1111 (hi := a1), c1, x1, w268_1112, w268_1113, w268_1114, w268_1115, e2, u268_1116 (hi := a2), c2, x2, w268_1117, w268_1118, w268_1119, w268_1120, e3, u268_1121 (hi := a3), c3, x3, w268_1122]
  refine c125 (d := d + 34) hx.1 (xs (6 * n + 1)) (xs (6 * n + 2)) (xs (6 * n + 3)) (fun I1 f1 => ?_)
  have hx1 := fQ_V f1 hx
  have hz1 := zV_x hx1 hz
  have y1 : I1 6 (6 * n + 1) = xs (6 * n + 1) := by rw [hx1.2.2.2.2.2.2 6 (Or.inl (by decide))]; exact x1
  have y2 : I1 6 (6 * n + 2) = xs (6 * n + 2) := by rw [hx1.2.2.2.2.2.2 6 (Or.inl (by decide))]; exact x2
  have y3 : I1 6 (6 * n + 3) = xs (6 * n + 3) := by rw [hx1.2.2.2.2.2.2 6 (Or.inl (by decide))]; exact x3
  simp only [↓reduceIte, Option.toList_some, Option.toList_none, List.cons_append, List.nil_append, Int32.reduceAdd, Int32.reduceLT, Int32.reduceLE, Int32.reduceToNatClampNeg, w268_1125, w268_1126, w268_1127, w268_1128, w268_1129, e1, u268_1130 (hi := a1), c1, y1, w268_1131, w268_1132, w268_1133, w268_1134, e2, u268_1135 (hi := a2), c2, y2, w268_1136, w268_1137, w268_1138, w268_1139, e3, u268_1140 (hi := a3), c3, y3, w268_1141]
  refine c244 (d := d + 31) hz1.1 (xs (6 * n + 1)) (xs (6 * n + 2)) (xs (6 * n + 3)) (fun I2 f2 => ?_)
  have hz2 := fB_V f2 hz1
  simp only [↓reduceIte, Option.toList_some, Option.toList_none, List.cons_append, List.nil_append, Int32.reduceAdd, Int32.reduceLT, Int32.reduceLE, Int32.reduceToNatClampNeg, w268_1144, ↓reduceIte]
  exact ih I2 J o o' (lIx_mk ho b hx1 hz2 (lCo_q c))
theorem l_35 (hn : n < 512) (hx6 : 6 * n + 6 ≤ xL) (hxL : xL ≤ 3072) (hI : lIx xL xs n I J o o') (ih : ∀ I' J' o1 o2, lIx xL xs (n + 1) I' J' o1 o2 → WP (d + 40) 268 1376 [.ref 6, .ref 7, .ref 180, .int (nI (6 * n))] [] (mHh xL I' J' (mRf o1 o1 o2)) Q) : WP (d + 40) 268 1221 [.ref 6, .ref 7, .ref 180, .int (nI (6 * n))] [] (mHh xL I J (mRf o o o')) Q := by
  obtain ⟨ho, b, s, η, ρ, u, H, g, K, t, τ, L, W, pl, hx, hz, c⟩ := hI
  have e1 : nI (6 * n) + 1 = nI (6 * n + 1) := nI_add (6 * n) 1
  have a1 : mIn (nI (6 * n + 1)) xL = true := mIn_nI (by omega) (by omega)
  have c1 : (nI (6 * n + 1)).toNatClampNeg = 6 * n + 1 := nI_clamp (by omega)
  have x1 : I 6 (6 * n + 1) = xs (6 * n + 1) := b.2.2.2.2 _ (by omega)
  have e2 : nI (6 * n) + 2 = nI (6 * n + 2) := nI_add (6 * n) 2
  have a2 : mIn (nI (6 * n + 2)) xL = true := mIn_nI (by omega) (by omega)
  have c2 : (nI (6 * n + 2)).toNatClampNeg = 6 * n + 2 := nI_clamp (by omega)
  have x2 : I 6 (6 * n + 2) = xs (6 * n + 2) := b.2.2.2.2 _ (by omega)
  have e3 : nI (6 * n) + 3 = nI (6 * n + 3) := nI_add (6 * n) 3
  have a3 : mIn (nI (6 * n + 3)) xL = true := mIn_nI (by omega) (by omega)
  have c3 : (nI (6 * n + 3)).toNatClampNeg = 6 * n + 3 := nI_clamp (by omega)
  have x3 : I 6 (6 * n + 3) = xs (6 * n + 3) := b.2.2.2.2 _ (by omega)
  simp only [w268_1221, w268_1222, w268_1223, w268_1224, w268_1225, e1, u268_1226 (hi := a1), c1, x1, w268_1227, w268_1228, w268_1229, w268_1230, e2, u268_1231 (hi := a2), c2, x2, w268_1232, w268_1233, w268_1234, w268_1235, e3, u268_1236 (hi := a3), c3, x3, w268_1237]
  refine c128 (d := d + 33) hx.1 hx.2.2.2.1 (xs (6 * n + 1)) (xs (6 * n + 2)) (xs (6 * n + 3)) (fun I1 f1 => ?_)
  have hx1 := fQ_V f1 hx
  have hz1 := zV_x hx1 hz
  have y1 : I1 6 (6 * n + 1) = xs (6 * n + 1) := by rw [hx1.2.2.2.2.2.2 6 (Or.inl (by decide))]; exact x1
  have y2 : I1 6 (6 * n + 2) = xs (6 * n + 2) := by rw [hx1.2.2.2.2.2.2 6 (Or.inl (by decide))]; exact x2
  have y3 : I1 6 (6 * n + 3) = xs (6 * n + 3) := by rw [hx1.2.2.2.2.2.2 6 (Or.inl (by decide))]; exact x3
  simp only [↓reduceIte, Option.toList_some, Option.toList_none, List.cons_append, List.nil_append, Int32.reduceAdd, Int32.reduceLT, Int32.reduceLE, Int32.reduceToNatClampNeg, w268_1240, w268_1241, w268_1242, w268_1243, w268_1244, e1, u268_1245 (hi := a1), c1, y1, w268_1246, w268_1247, w268_1248, w268_1249, e2, u268_1250 (hi := a2), c2, y2, w268_1251, w268_1252, w268_1253, w268_1254, e3, u268_1255 (hi := a3), c3, y3, w268_1256]
  refine c247 (d := d + 32) hz1.1 hz1.2.2.2.1 (xs (6 * n + 1)) (xs (6 * n + 2)) (xs (6 * n + 3)) (fun I2 f2 => ?_)
  have hz2 := fB_V f2 hz1
  simp only [↓reduceIte, Option.toList_some, Option.toList_none, List.cons_append, List.nil_append, Int32.reduceAdd, Int32.reduceLT, Int32.reduceLE, Int32.reduceToNatClampNeg, w268_1259, ↓reduceIte]
  exact ih I2 J o o' (lIx_mk ho b hx1 hz2 (lCo_q c))
theorem l_36 (hn : n < 512) (hx6 : 6 * n + 6 ≤ xL) (hxL : xL ≤ 3072) (hI : lIx xL xs n I J o o') (ih : ∀ I' J' o1 o2, lIx xL xs (n + 1) I' J' o1 o2 → WP (d + 40) 268 1376 [.ref 6, .ref 7, .ref 180, .int (nI (6 * n))] [] (mHh xL I' J' (mRf o1 o1 o2)) Q) : WP (d + 40) 268 1264 [.ref 6, .ref 7, .ref 180, .int (nI (6 * n))] [] (mHh xL I J (mRf o o o')) Q := by
  obtain ⟨ho, b, s, η, ρ, u, H, g, K, t, τ, L, W, pl, hx, hz, c⟩ := hI
  have e1 : nI (6 * n) + 1 = nI (6 * n + 1) := nI_add (6 * n) 1
  have a1 : mIn (nI (6 * n + 1)) xL = true := mIn_nI (by omega) (by omega)
  have c1 : (nI (6 * n + 1)).toNatClampNeg = 6 * n + 1 := nI_clamp (by omega)
  have x1 : I 6 (6 * n + 1) = xs (6 * n + 1) := b.2.2.2.2 _ (by omega)
  have e2 : nI (6 * n) + 2 = nI (6 * n + 2) := nI_add (6 * n) 2
  have a2 : mIn (nI (6 * n + 2)) xL = true := mIn_nI (by omega) (by omega)
  have c2 : (nI (6 * n + 2)).toNatClampNeg = 6 * n + 2 := nI_clamp (by omega)
  have x2 : I 6 (6 * n + 2) = xs (6 * n + 2) := b.2.2.2.2 _ (by omega)
  have e3 : nI (6 * n) + 3 = nI (6 * n + 3) := nI_add (6 * n) 3
  have a3 : mIn (nI (6 * n + 3)) xL = true := mIn_nI (by omega) (by omega)
  have c3 : (nI (6 * n + 3)).toNatClampNeg = 6 * n + 3 := nI_clamp (by omega)
  have x3 : I 6 (6 * n + 3) = xs (6 * n + 3) := b.2.2.2.2 _ (by omega)
  simp only [w268_1264, w268_1265, w268_1266, w268_1267, w268_1268, e1, u268_1269 (hi := a1), c1, x1, w268_1270, w268_1271, w268_1272, w268_1273, e2, u268_1274 (hi := a2), c2, x2, w268_1275, w268_1276, w268_1277, w268_1278, e3, u268_1279 (hi := a3), c3, x3, w268_1280]
  refine c130 (d := d + 32) hx.1 hx.2.2.2.1 (xs (6 * n + 1)) (xs (6 * n + 2)) (xs (6 * n + 3)) (fun I1 f1 => ?_)
  have hx1 := fQ_V f1 hx
  have hz1 := zV_x hx1 hz
  have y1 : I1 6 (6 * n + 1) = xs (6 * n + 1) := by rw [hx1.2.2.2.2.2.2 6 (Or.inl (by decide))]; exact x1
  have y2 : I1 6 (6 * n + 2) = xs (6 * n + 2) := by rw [hx1.2.2.2.2.2.2 6 (Or.inl (by decide))]; exact x2
  have y3 : I1 6 (6 * n + 3) = xs (6 * n + 3) := by rw [hx1.2.2.2.2.2.2 6 (Or.inl (by decide))]; exact x3
  simp only [↓reduceIte, Option.toList_some, Option.toList_none, List.cons_append, List.nil_append, Int32.reduceAdd, Int32.reduceLT, Int32.reduceLE, Int32.reduceToNatClampNeg, w268_1283, w268_1284, w268_1285, w268_1286, w268_1287, e1, u268_1288 (hi := a1), c1, y1, w268_1289, w268_1290, w268_1291, w268_1292, e2, u268_1293 (hi := a2), c2, y2, w268_1294, w268_1295, w268_1296, w268_1297, e3, u268_1298 (hi := a3), c3, y3, w268_1299]
  refine c250 (d := d + 32) hz1.1 hz1.2.2.2.1 (xs (6 * n + 1)) (xs (6 * n + 2)) (xs (6 * n + 3)) (fun I2 f2 => ?_)
  have hz2 := fB_V f2 hz1
  simp only [↓reduceIte, Option.toList_some, Option.toList_none, List.cons_append, List.nil_append, Int32.reduceAdd, Int32.reduceLT, Int32.reduceLE, Int32.reduceToNatClampNeg, w268_1302, ↓reduceIte]
  exact ih I2 J o o' (lIx_mk ho b hx1 hz2 (lCo_q c))
theorem l_39 (hn : n < 512) (hx6 : 6 * n + 6 ≤ xL) (hxL : xL ≤ 3072) (hI : lIx xL xs n I J o o') (ih : ∀ I' J' o1 o2, lIx xL xs (n + 1) I' J' o1 o2 → WP (d + 40) 268 1376 [.ref 6, .ref 7, .ref 180, .int (nI (6 * n))] [] (mHh xL I' J' (mRf o1 o1 o2)) Q) : WP (d + 40) 268 1353 [.ref 6, .ref 7, .ref 180, .int (nI (6 * n))] [] (mHh xL I J (mRf o o o')) Q := by
  obtain ⟨ho, b, s, η, ρ, u, H, g, K, t, τ, L, W, pl, hx, hz, c⟩ := hI
  have e1 : nI (6 * n) + 1 = nI (6 * n + 1) := nI_add (6 * n) 1
  have a1 : mIn (nI (6 * n + 1)) xL = true := mIn_nI (by omega) (by omega)
  have c1 : (nI (6 * n + 1)).toNatClampNeg = 6 * n + 1 := nI_clamp (by omega)
  have x1 : I 6 (6 * n + 1) = xs (6 * n + 1) := b.2.2.2.2 _ (by omega)
  simp only [w268_1353, w268_1354, w268_1355, w268_1356, w268_1357, e1, u268_1358 (hi := a1), c1, x1, w268_1359]
  refine c88 (d := d + 34) hx.1 hx.2.2.1.1 hx.2.1.2.1 hx.2.2.2.1.2.1 hx.2.2.2.2.1.2.1 hx.2.2.1.2.1 (xs (6 * n + 1)) (fun I1 f1 => ?_)
  have hx1 := fQ_V f1 hx
  have hz1 := zV_x hx1 hz
  have y1 : I1 6 (6 * n + 1) = xs (6 * n + 1) := by rw [hx1.2.2.2.2.2.2 6 (Or.inl (by decide))]; exact x1
  simp only [↓reduceIte, Option.toList_some, Option.toList_none, List.cons_append, List.nil_append, Int32.reduceAdd, Int32.reduceLT, Int32.reduceLE, Int32.reduceToNatClampNeg, w268_1362, w268_1363, w268_1364, w268_1365, w268_1366, e1, u268_1367 (hi := a1), c1, y1, w268_1368]
  refine c253 (d := d + 34) hz1.1 hz1.2.2.1.1 hz1.2.1.2.1 hz1.2.2.2.1.2.1 hz1.2.2.2.2.1.2.1 (fun k hk => (hz1.2.2.1.2 k hk).1) (xs (6 * n + 1)) (fun I2 f2 => ?_)
  have hz2 := fB_V f2 hz1
  simp only [↓reduceIte, Option.toList_some, Option.toList_none, List.cons_append, List.nil_append, Int32.reduceAdd, Int32.reduceLT, Int32.reduceLE, Int32.reduceToNatClampNeg, w268_1371, ↓reduceIte]
  exact ih I2 J o o' (lIx_mk ho b hx1 hz2 (lCo_q c))
end LQB
