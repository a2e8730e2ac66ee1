/-! A house of the glass is cleared; a text is read. -/
theorem nI_z2 : nI 0 = 0 ∧ nI 1 = 1 ∧ nI 7 = 7 ∧ nI 4 = 4 ∧ nI 43 = 43 := ⟨rfl, rfl, rfl, rfl, rfl⟩
section GTX
variable {d : Nat} {xL : Nat} {I : Nat → Nat → Int32} {J : Nat → Nat → Int64} {rc rx rr o : Nat} {Q : Option Value → mHp → Prop} {L : Nat} {W : Nat → Int32} {t : Nat} {σ : pSg}
theorem xw_1 {l : Nat} (hl : mLa l) {ms : Nat → Bool} {x : Int32 × Int32} {p : Nat × Int32} (hp : mXs ms p = x) (hw : mCw [p] 0 = some 1) (I : Nat → Nat → Int32) : mXw (laU (mU I l 3 0) l 0 x.1 x.2) l ms [] [p] := by
  obtain ⟨u1, u2, u3, -⟩ := laU_r (l := l) (mU I l 3 0) 0 x.1 x.2
  refine ⟨hw, by show 1 ≤ 400; decide, u1, ?_⟩
  show mXa _ _ [mXs ms p] 0
  rw [hp]
  exact ⟨u2, u3, trivial⟩
theorem c26 (ho : mHo o) (hm : xMk I o) (hQ : ∀ I', (∀ a, a ≠ 10 → (a < o ∨ o + 21 ≤ a) → I' a = I a) → xMk I' o → mXh I' o η0 → Q none (mHh xL I' J (mRf rc rx rr))) : WP (d + 2) 26 0 [.ref o] [] (mHh xL I J (mRf rc rx rr)) Q := by
  obtain ⟨l0, l1, l2, l3⟩ := mHo_la ho
  have ho' : 15 < o ∧ o < 42 := by rcases ho with rfl | rfl <;> decide
  obtain ⟨z0, z1, z7, z4, z43⟩ := nI_z2
  have m0 := hm 0 (by decide)
  have m1 := hm 1 (by decide)
  have m2 := hm 2 (by decide)
  have m3 := hm 3 (by decide)
  change I (o + 9) 2 = mMk 0 at m0
  change I (o + 12) 2 = mMk 1 at m1
  change I (o + 15) 2 = mMk 2 at m2
  change I (o + 18) 2 = mMk 3 at m3
  simp only [w26_0, w26_1, w26_2 (ha := ho), w26_5, w26_6, w26_7 (ha := ho), w26_10, w26_11, w26_12 (ha := ho), w26_15, w26_16, w26_17 (ha := ho)]
  have eA : ∀ a, a ≠ o → mU (mU (mU (mU I o 12 0) o 13 0) o 14 0) o 15 0 a = I a := fun a h => by rw [mU_f h, mU_f h, mU_f h, mU_f h]
  have eo : mU (mU (mU (mU I o 12 0) o 13 0) o 14 0) o 15 0 o 12 = 0 ∧ mU (mU (mU (mU I o 12 0) o 13 0) o 14 0) o 15 0 o 13 = 0 ∧ mU (mU (mU (mU I o 12 0) o 13 0) o 14 0) o 15 0 o 14 = 0 ∧ mU (mU (mU (mU I o 12 0) o 13 0) o 14 0) o 15 0 o 15 = 0 := by
    refine ⟨?_, ?_, ?_, mU_s _ _ _ _⟩
    · rw [mU_k (by decide), mU_k (by decide), mU_k (by decide), mU_s]
    · rw [mU_k (by decide), mU_k (by decide), mU_s]
    · rw [mU_k (by decide), mU_s]
  generalize mU (mU (mU (mU I o 12 0) o 13 0) o 14 0) o 15 0 = IA at *
  -- the needle
  have k0 : (mU IA (o + 9) 3 0 (o + 9) 2 >>> (nI 0 &&& 31)) &&& 1 = 1 ↔ mMs 0 0 = true := by
    rw [mU_k (by decide), eA _ (by omega), m0]; exact mMk_ms 0 (by decide) 0 (by decide)
  have c0 := fun Q' => c30 (d := d) (xL := xL) (J := J) (rc := rc) (rx := rx) (rr := rr) (Q := Q') (ms := mMs 0) l0 (I := mU IA (o + 9) 3 0) (s := 0) (v := 0) (mU_s _ _ _ _) (by decide) k0 (by decide)
  rw [z0] at c0
  simp only [w26_20, w26_21 (ha := ho), w26_24, w26_25 (ha := l0), w26_28, w26_29 (ha := ho), w26_32, w26_33 (hb := l0), c0, ↓reduceIte, Option.toList_some, Option.toList_none, List.cons_append, List.nil_append, Int32.reduceAdd, Int32.reduceLT, Int32.reduceLE, Int32.reduceToNatClampNeg, w26_36]
  have x0 := xw_1 l0 (ms := mMs 0) (p := (1, 0)) rfl (by decide) IA
  have f0 : fRd (o + 9) IA (laU (mU IA (o + 9) 3 0) (o + 9) 0 (mXs (mMs 0) (1, 0)).1 (mXs (mMs 0) (1, 0)).2) := fRd_t ⟨fun a _ h1 _ _ => by rw [mU_f h1], fun j _ _ _ => by rw [mU_a (by omega)], fun j hj => by rw [mU_k hj]⟩ (laU_d l0 _ _ _ _)
  generalize laU (mU IA (o + 9) 3 0) (o + 9) 0 (mXs (mMs 0) (1, 0)).1 (mXs (mMs 0) (1, 0)).2 = IB at *
  -- the changes
  have e1 : ∀ (I1 : Nat → Nat → Int32), I1 (o + 12) 2 = IB (o + 12) 2 → ∀ v, v < 9 → ((I1 (o + 12) 2 >>> (nI v &&& 31)) &&& 1 = 1 ↔ mMs 1 v = true) := by
    intro I1 h v hv
    rw [h, f0.1 _ (by omega) (by omega) (by omega) (by omega), eA _ (by omega), m1]; exact mMk_ms 1 (by decide) v hv
  obtain ⟨p1, p2, p3, p4⟩ := laU_r (l := o + 12) (mU IB (o + 12) 3 0) 0 (mXs (mMs 1) (1, 1)).1 (mXs (mMs 1) (1, 1)).2
  have c1 := fun Q' => c30 (d := d) (xL := xL) (J := J) (rc := rc) (rx := rx) (rr := rr) (Q := Q') (ms := mMs 1) l1 (I := mU IB (o + 12) 3 0) (s := 0) (v := 1) (mU_s _ _ _ _) (by decide) (e1 _ (mU_k (by decide)) 1 (by decide)) (by decide)
  rw [z1] at c1
  have g1 : fRd (o + 12) IB (laU (mU IB (o + 12) 3 0) (o + 12) 0 (mXs (mMs 1) (1, 1)).1 (mXs (mMs 1) (1, 1)).2) := fRd_t ⟨fun a _ h1 _ _ => by rw [mU_f h1], fun j _ _ _ => by rw [mU_a (by omega)], fun j hj => by rw [mU_k hj]⟩ (laU_d l1 _ _ _ _)
  simp only [w26_37 (ha := ho), w26_40, w26_41 (ha := l1), w26_44, w26_45 (ha := ho), w26_48, w26_49 (hb := l1), c1, ↓reduceIte, Option.toList_some, Option.toList_none, List.cons_append, List.nil_append, Int32.reduceAdd, Int32.reduceLT, Int32.reduceLE, Int32.reduceToNatClampNeg, w26_52, w26_53 (ha := ho), w26_56]
  generalize laU (mU IB (o + 12) 3 0) (o + 12) 0 (mXs (mMs 1) (1, 1)).1 (mXs (mMs 1) (1, 1)).2 = IC at *
  obtain ⟨q1, q2, q3, q4⟩ := laU_r (l := o + 12) IC 1 (mXs (mMs 1) (1, 7)).1 (mXs (mMs 1) (1, 7)).2
  have c2 := fun Q' => c30 (d := d) (xL := xL) (J := J) (rc := rc) (rx := rx) (rr := rr) (Q := Q') (ms := mMs 1) l1 (I := IC) (s := 1) (v := 7) p1 (by decide) (e1 _ (g1.2.2 2 (by decide)) 7 (by decide)) (by decide)
  rw [z7] at c2
  have g2 := laU_d l1 IC 1 (mXs (mMs 1) (1, 7)).1 (mXs (mMs 1) (1, 7)).2
  simp only [w26_58 (hb := l1), c2, ↓reduceIte, Option.toList_some, Option.toList_none, List.cons_append, List.nil_append, Int32.reduceAdd, Int32.reduceLT, Int32.reduceLE, Int32.reduceToNatClampNeg, w26_61, w26_62 (ha := ho), w26_65, w26_67]
  generalize laU IC (o + 12) 1 (mXs (mMs 1) (1, 7)).1 (mXs (mMs 1) (1, 7)).2 = ID at *
  obtain ⟨r1, r2, r3, r4⟩ := laU_r (l := o + 12) ID 2 43 0
  have c3 := fun Q' => c31 (d := d + 1) (xL := xL) (J := J) (rc := rc) (rx := rx) (rr := rr) (Q := Q') l1 (I := ID) (s := 2) q1 (by decide) (x := 43) (y := 0)
  have g3 := laU_d l1 ID 2 43 0
  simp only [w26_68 (hb := l1), c3, if_neg (show ¬ (2 : Nat) = 400 by decide), ↓reduceIte, Option.toList_some, Option.toList_none, List.cons_append, List.nil_append, Int32.reduceAdd, Int32.reduceLT, Int32.reduceLE, Int32.reduceToNatClampNeg, w26_71, w26_72 (ha := ho), w26_75]
  generalize laU ID (o + 12) 2 43 0 = IE at *
  have x1 : mXw IE (o + 12) (mMs 1) [] [(1, 1), (1, 7), (2, 0)] := by
    refine ⟨by show mCw [(1, 1), (1, 7), (2, 0)] 0 = some 1; decide, by show 3 ≤ 400; decide, r1, ?_⟩
    show mXa _ _ [mXs (mMs 1) (1, 1), mXs (mMs 1) (1, 7), mXs (mMs 1) (2, 0)] 0
    refine ⟨?_, ?_, ?_, ?_, r2, r3, trivial⟩
    · rw [(r4 0 (by decide)).1, (q4 0 (by decide)).1]; exact p2
    · rw [(r4 0 (by decide)).2, (q4 0 (by decide)).2]; exact p3
    · rw [(r4 1 (by decide)).1]; exact q2
    · rw [(r4 1 (by decide)).2]; exact q3
  have f1 := fRd_t g1 (fRd_t g2 g3)
  -- the drifts
  have k2 : (mU IE (o + 15) 3 0 (o + 15) 2 >>> (nI 1 &&& 31)) &&& 1 = 1 ↔ mMs 2 1 = true := by
    rw [mU_k (by decide), f1.1 _ (by omega) (by omega) (by omega) (by omega), f0.1 _ (by omega) (by omega) (by omega) (by omega), eA _ (by omega), m2]; exact mMk_ms 2 (by decide) 1 (by decide)
  have c4 := fun Q' => c30 (d := d) (xL := xL) (J := J) (rc := rc) (rx := rx) (rr := rr) (Q := Q') (ms := mMs 2) l2 (I := mU IE (o + 15) 3 0) (s := 0) (v := 1) (mU_s _ _ _ _) (by decide) k2 (by decide)
  rw [z1] at c4
  simp only [w26_76 (ha := l2), w26_79, w26_80 (ha := ho), w26_83, w26_84 (hb := l2), c4, ↓reduceIte, Option.toList_some, Option.toList_none, List.cons_append, List.nil_append, Int32.reduceAdd, Int32.reduceLT, Int32.reduceLE, Int32.reduceToNatClampNeg, w26_87, w26_88 (ha := ho), w26_91]
  have x2 := xw_1 l2 (ms := mMs 2) (p := (1, 1)) rfl (by decide) IE
  have f2 : fRd (o + 15) IE (laU (mU IE (o + 15) 3 0) (o + 15) 0 (mXs (mMs 2) (1, 1)).1 (mXs (mMs 2) (1, 1)).2) := fRd_t ⟨fun a _ h1 _ _ => by rw [mU_f h1], fun j _ _ _ => by rw [mU_a (by omega)], fun j hj => by rw [mU_k hj]⟩ (laU_d l2 _ _ _ _)
  generalize laU (mU IE (o + 15) 3 0) (o + 15) 0 (mXs (mMs 2) (1, 1)).1 (mXs (mMs 2) (1, 1)).2 = IF at *
  -- the jumps
  have c5 := fun Q' => c31 (d := d + 1) (xL := xL) (J := J) (rc := rc) (rx := rx) (rr := rr) (Q := Q') l3 (I := mU IF (o + 18) 3 0) (s := 0) (mU_s _ _ _ _) (by decide) (x := 4) (y := 1)
  simp only [w26_92 (ha := l3), w26_95, w26_96 (ha := ho), w26_99, w26_100, w26_101 (hb := l3), c5, if_neg (show ¬ (0 : Nat) = 400 by decide), ↓reduceIte, Option.toList_some, Option.toList_none, List.cons_append, List.nil_append, Int32.reduceAdd, Int32.reduceLT, Int32.reduceLE, Int32.reduceToNatClampNeg, w26_104]
  have x3 := xw_1 l3 (ms := mMs 3) (p := (0, 1)) rfl (by decide) IF
  have f3 : fRd (o + 18) IF (laU (mU IF (o + 18) 3 0) (o + 18) 0 4 1) := fRd_t ⟨fun a _ h1 _ _ => by rw [mU_f h1], fun j _ _ _ => by rw [mU_a (by omega)], fun j hj => by rw [mU_k hj]⟩ (laU_d l3 _ _ _ _)
  change mXw (laU (mU IF (o + 18) 3 0) (o + 18) 0 4 1) (o + 18) (mMs 3) [] [(0, 1)] at x3
  generalize laU (mU IF (o + 18) 3 0) (o + 18) 0 4 1 = IG at *
  have fA : ∀ a, a < o + 9 ∨ o + 21 ≤ a → a ≠ 10 → IG a = IA a := fun a h h1 => by rw [f3.1 a h1 (by omega) (by omega) (by omega), f2.1 a h1 (by omega) (by omega) (by omega), f1.1 a h1 (by omega) (by omega) (by omega), f0.1 a h1 (by omega) (by omega) (by omega)]
  have eO := fA o (by omega) (by omega)
  refine hQ IG (fun a h1 h2 => by rw [fA a (by omega) h1, eA a (by omega)]) ?_ ⟨ho, ?_, ?_, ?_, ?_, fun p hp => absurd hp (Nat.not_lt_zero _), fun p hp => absurd hp (Nat.not_lt_zero _), ?_⟩
  · intro k hk
    have hk4 : k = 0 ∨ k = 1 ∨ k = 2 ∨ k = 3 := by omega
    rcases hk4 with rfl | rfl | rfl | rfl
    · show IG (o + 9) 2 = mMk 0
      rw [f3.1 _ (by omega) (by omega) (by omega) (by omega), f2.1 _ (by omega) (by omega) (by omega) (by omega), f1.1 _ (by omega) (by omega) (by omega) (by omega), f0.2.2 2 (by decide), eA _ (by omega)]; exact m0
    · show IG (o + 12) 2 = mMk 1
      rw [f3.1 _ (by omega) (by omega) (by omega) (by omega), f2.1 _ (by omega) (by omega) (by omega) (by omega), f1.2.2 2 (by decide), f0.1 _ (by omega) (by omega) (by omega) (by omega), eA _ (by omega)]; exact m1
    · show IG (o + 15) 2 = mMk 2
      rw [f3.1 _ (by omega) (by omega) (by omega) (by omega), f2.2.2 2 (by decide), f1.1 _ (by omega) (by omega) (by omega) (by omega), f0.1 _ (by omega) (by omega) (by omega) (by omega), eA _ (by omega)]; exact m2
    · show IG (o + 18) 2 = mMk 3
      rw [f3.2.2 2 (by decide), f2.1 _ (by omega) (by omega) (by omega) (by omega), f1.1 _ (by omega) (by omega) (by omega) (by omega), f0.1 _ (by omega) (by omega) (by omega) (by omega), eA _ (by omega)]; exact m3
  · rw [eO]; exact eo.1
  · rw [eO]; exact eo.2.1
  · rw [eO]; exact eo.2.2.1
  · rw [eO]; exact eo.2.2.2
  · intro k hk
    have hk4 : k = 0 ∨ k = 1 ∨ k = 2 ∨ k = 3 := by omega
    rcases hk4 with rfl | rfl | rfl | rfl
    · show mXw IG (o + 9) (mMs 0) [] [(1, 0)]
      exact mXw_keep (by rw [f3.1 _ (by omega) (by omega) (by omega) (by omega), f2.1 _ (by omega) (by omega) (by omega) (by omega), f1.1 _ (by omega) (by omega) (by omega) (by omega)]) (by rw [f3.1 _ (by omega) (by omega) (by omega) (by omega), f2.1 _ (by omega) (by omega) (by omega) (by omega), f1.1 _ (by omega) (by omega) (by omega) (by omega)]) (by rw [f3.1 _ (by omega) (by omega) (by omega) (by omega), f2.1 _ (by omega) (by omega) (by omega) (by omega), f1.1 _ (by omega) (by omega) (by omega) (by omega)]) x0
    · show mXw IG (o + 12) (mMs 1) [] [(1, 1), (1, 7), (2, 0)]
      exact mXw_keep (by rw [f3.1 _ (by omega) (by omega) (by omega) (by omega), f2.1 _ (by omega) (by omega) (by omega) (by omega)]) (by rw [f3.1 _ (by omega) (by omega) (by omega) (by omega), f2.1 _ (by omega) (by omega) (by omega) (by omega)]) (by rw [f3.1 _ (by omega) (by omega) (by omega) (by omega), f2.1 _ (by omega) (by omega) (by omega) (by omega)]) x1
    · show mXw IG (o + 15) (mMs 2) [] [(1, 1)]
      exact mXw_keep (f3.1 _ (by omega) (by omega) (by omega) (by omega)) (f3.1 _ (by omega) (by omega) (by omega) (by omega)) (f3.1 _ (by omega) (by omega) (by omega) (by omega)) x2
    · exact x3
theorem c38 (ho : mHo o) (hI : kI I) (hJ : kJ J) (hT : xTp I L W) (hm : xMk I o) (hP : gRt xL rc rx o I J W L Q (sRd W L)) : WP (d + 26) 38 0 [.ref 10, .ref 8, mDum] [] (mHh xL I J (mRf rc rx o)) Q := by
  have ho' : 15 < o ∧ o < 42 := by rcases ho with rfl | rfl <;> decide
  simp only [w38_0, w38_1, w38_4, w38_5]
  refine c69 (d := d + 18) hI hT hJ (fun I1 J1 n f1 j1 g1 => ?_)
  simp only [↓reduceIte, Option.toList_some, Option.toList_none, List.cons_append, List.nil_append, Int32.reduceAdd, Int32.reduceLT, Int32.reduceLE, Int32.reduceToNatClampNeg, w38_8, w38_9, w38_12 (hb := ho)]
  have fr1 : fYr o I I1 := fun a h1 h2 h3 h4 _ => f1.1 a h2 h3 h4
  have jr1 : jYr o J J1 := fun a h1 _ _ => j1 a h1
  refine c26 (d := d + 23) ho (xMk_k hm (fun k hk => f1.1 _ (by omega) (by omega) (by omega))) (fun I2 f2 m2 x2 => ?_)
  simp only [↓reduceIte, Option.toList_some, Option.toList_none, List.cons_append, List.nil_append, Int32.reduceAdd, Int32.reduceLT, Int32.reduceLE, Int32.reduceToNatClampNeg, w38_15, w38_16, w38_17, w38_20, w38_21, w38_22, w38_25, w38_26, w38_27, w38_30, w38_31]
  have e3 : ∀ a, a ≠ 10 → mU (mU (mU I2 10 2 0) 10 3 0) 10 5 0 a = I2 a := fun a h => by rw [mU_f h, mU_f h, mU_f h]
  have s0 : gYs (mU (mU (mU I2 10 2 0) 10 3 0) 10 5 0) J1 W L o 0 (η0, [], (0, 0)) := by
    refine ⟨⟨⟨⟨n, ?_⟩, kLv_z, ?_, ?_, by decide, fun z => absurd rfl z⟩, mU_s _ _ _ _, by decide, fun z => absurd rfl z⟩, mXh_k2 (fun b hb => e3 b (by omega)) x2, ⟨⟨?_, by decide⟩, ⟨?_, by decide⟩, (fun p x hp => by cases hp), (fun p x hp => by cases hp)⟩, xMk_k m2 (fun k hk => e3 _ (by omega))⟩
    · obtain ⟨⟨a1, a2, a3⟩, b, c⟩ := g1
      refine ⟨⟨a1, a2, ?_⟩, ?_, c⟩
      · rw [e3 11 (by decide), f2 11 (by decide) (by omega)]; exact a3
      · rw [e3 13 (by decide), e3 15 (by decide), f2 13 (by decide) (by omega), f2 15 (by decide) (by omega)]; exact b
    · show mU (mU (mU I2 10 2 0) 10 3 0) 10 5 0 10 2 = nI 0
      rw [mU_k (by decide), mU_k (by decide), mU_s]; rfl
    · show mU (mU (mU I2 10 2 0) 10 3 0) 10 5 0 10 3 = nI 0
      rw [mU_k (by decide), mU_s]; rfl
    · rw [e3 o (by omega)]; exact x2.2.1
    · rw [e3 o (by omega)]; exact x2.2.2.1
  have fr3 : fYr o I (mU (mU (mU I2 10 2 0) 10 3 0) 10 5 0) := fun a h1 h2 h3 h4 h5 => by rw [e3 a h1, f2 a h1 h5, f1.1 a h2 h3 h4]
  generalize mU (mU (mU I2 10 2 0) 10 3 0) 10 5 0 = I3 at *
  -- the end, in a fault
  have fin : ∀ (I' : Nat → Nat → Int32) (J' : Nat → Nat → Int64) (f : Nat × Nat) (v2 : Value), fYr o I I' → jYr o J J' → gYf I' J' W L o f → (f.1 ≠ 0 → f.1 < 6 → (∀ I' J', fYr o I I' → jYr o J J' → xMk I' o → f.1 ≠ 0 → f.1 < 6 → I' 10 4 = nI (tp W L f.2) → Q (some (.int (nI f.1))) (mHh xL I' J' (mRf rc rx o)))) → WP (d + 26) 38 64 [.ref 10, .ref 8, v2] [] (mHh xL I' J' (mRf rc rx o)) Q := by
    intro I' J' f v2 fr jr gf hq
    obtain ⟨⟨t', g, f0⟩, mk⟩ := gf
    obtain ⟨-, -, -, q3, q4, q5⟩ := g
    have e : ¬ I' 10 3 = 0 := by rw [q3, in_eq 0 (by decide) (by omega)]; exact f0
    simp only [w38_64, w38_65, w38_68, e, ↓reduceIte, w38_94, w38_95, w38_98]
    rw [q3]
    exact hq f0 q4 I' J' fr jr mk f0 q4 (q5 f0)
  have key : ∀ n k t (σ : pSg) (I' : Nat → Nat → Int32) (J' : Nat → Nat → Int64), 402 ≤ n + t → k ≤ t → gYs I' J' W L o t σ → σOk t σ → fYr o I I' → jYr o J J' → gRt xL rc rx o I J W L Q (bd (sText W L n t σ) fun p => if p.2.2.2.1 = 0 then .inr p.2.1 else .inl p.2.2.2) → WP (d + 26) 38 32 [.ref 10, .ref 8, .int (nI k)] [] (mHh xL I' J' (mRf rc rx o)) Q := by
    intro n
    induction n with
    | zero =>
      intro k t σ I' J' hn _ h _ _ _ _
      have := h.1.1.2.1.1
      change t ≤ 400 at this
      omega
    | succ n ih =>
      intro k t σ I' J' hn hk h ok fr jr hq
      have hg : gRD I' J' W L t 0 0 := h.1.1
      have hw : gYw I' W L σ.2.2 := h.1.2
      have ht : t ≤ 400 := hg.2.1.1
      have hkl := tKd_lt W L (tp W L t)
      change kk W L t < 40 at hkl
      have g4 : ¬ 400 < nI k := by rw [ni_lt 400 (by decide) (by omega)]; omega
      have e0 : I' 10 3 = 0 := hg.2.2.2.1
      have k1 := (gk_12 _ hkl).1
      rw [sText] at hq
      rw [w38_32]
      simp only [w38_33, w38_36, g4, ↓reduceIte, w38_39, w38_40, e0, w38_43, w38_46, w38_47, c39 hg, ↓reduceIte, Option.toList_some, Option.toList_none, List.cons_append, List.nil_append, Int32.reduceAdd, Int32.reduceLT, Int32.reduceLE, Int32.reduceToNatClampNeg, w38_50, w38_51, k1]
      by_cases c0 : kk W L t = 0
      · rw [if_pos c0] at hq
        change gRt xL rc rx o I J W L Q (if σ.2.2.1 = 0 then .inr σ.1 else .inl σ.2.2) at hq
        have ew : (I' 10 5 = 0) ↔ σ.2.2.1 = 0 := by rw [hw.1]; exact in_eq 0 (by decide) (by have := hw.2.1; omega)
        simp only [if_pos c0, w38_64, w38_65, e0, w38_68, ↓reduceIte, w38_71, w38_72, w38_75, ew]
        by_cases w0 : σ.2.2.1 = 0
        · rw [if_pos w0] at hq
          simp only [if_pos w0, w38_94, w38_95, e0, w38_98]
          exact hq I' J' fr jr h.2.2.2 h.2.1
        · rw [if_neg w0] at hq
          have e6 := hw.2.2 w0
          have z6 : mU I' 10 3 (nI σ.2.2.1) 10 6 = nI (tp W L σ.2.2.2) := by rw [mU_k (by decide)]; exact e6
          simp only [if_neg w0, w38_78, w38_79, w38_80, hw.1, w38_83, w38_86, w38_87, w38_88, z6, w38_91, w38_94, w38_95, w38_98]
          have z3 : mU (mU I' 10 3 (nI σ.2.2.1)) 10 4 (nI (tp W L σ.2.2.2)) 10 3 = nI σ.2.2.1 := by rw [mU_k (by decide), mU_s]
          rw [z3]
          refine hq _ J' (fun a h1 h2 h3 h4 h5 => by rw [mU_f h1, mU_f h1]; exact fr a h1 h2 h3 h4 h5) jr (xMk_k h.2.2.2 (fun k hk => by rw [mU_f (by omega), mU_f (by omega)])) w0 hw.2.1 (mU_s _ _ _ _)
      · rw [if_neg c0] at hq
        simp only [if_neg c0, w38_54, w38_55]
        refine c40 (d := d) ho h ok ?_
        cases e : sTell W L t σ with
        | inl f =>
          rw [e] at hq
          intro I4 J4 f4 j4 g4
          have fr4 := fYg_r fr f4
          have jr4 := jYg_r jr j4
          have fx : ∀ v2, WP (d + 26) 38 64 [.ref 10, .ref 8, v2] [] (mHh xL I4 J4 (mRf rc rx o)) Q := fun v2 => fin I4 J4 f v2 fr4 jr4 g4 (fun _ _ => hq)
          obtain ⟨⟨t', g, f0⟩, -⟩ := g4
          obtain ⟨-, -, -, q3, q4, -⟩ := g
          have e3 : ¬ I4 10 3 = 0 := by rw [q3, in_eq 0 (by decide) (by omega)]; exact f0
          simp only [↓reduceIte, Option.toList_some, Option.toList_none, List.cons_append, List.nil_append, Int32.reduceAdd, Int32.reduceLT, Int32.reduceLE, Int32.reduceToNatClampNeg, w38_58, nI_1, w38_61]
          rw [w38_32]
          simp only [w38_33, w38_36]
          by_cases c4 : 400 < nI (k + 1)
          · simp only [if_pos c4]; exact fx _
          · simp only [if_neg c4, w38_39, w38_40, w38_43, if_neg e3]; exact fx _
        | inr p =>
          rw [e] at hq
          obtain ⟨a1, a2, a3⟩ := sTell_ok hg.2.1 ok e
          intro I4 J4 f4 j4 g4
          simp only [↓reduceIte, Option.toList_some, Option.toList_none, List.cons_append, List.nil_append, Int32.reduceAdd, Int32.reduceLT, Int32.reduceLE, Int32.reduceToNatClampNeg, w38_58, nI_1, w38_61]
          exact ih (k + 1) p.1 p.2 I4 J4 (by omega) (by omega) g4 a3 (fYg_r fr f4) (jYg_r jr j4) hq
  exact key 402 0 0 _ I3 J1 (by decide) (by decide) s0 σOk_0 fr3 jr1 hP
end GTX
