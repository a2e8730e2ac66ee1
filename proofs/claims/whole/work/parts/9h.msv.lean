/-! The model's reader: persons known, ints, names kept. -/
section MSV
variable {d : Nat} {xL : Nat} {I : Nat → Nat → Int32} {J : Nat → Nat → Int64} {rc rx rr : Nat} {Q : Option Value → mHp → Prop} {L : Nat} {W : Nat → Int32} {t f i : Nat} {N : pNs} {r : yX} {w : yW}
theorem c159 (h : yMx I J W L r) (hn : yNm I J N) (hp : pnN N = List.range (psN N).length) (hQ : ∀ I' x, fYm I I' → yMx I' J W L (sSt W L 1 (gKw W L N) r) → (∀ p q, r = .inr p → sSt W L 1 (gKw W L N) r = .inr q → x = vWh (kn W L p.1) N) → Q (some (.int x)) (mHh xL I' J (mRf rc rx rr))) : WP (d + 3) 159 0 [.ref 180, mDum, mDum] [] (mHh xL I J (mRf rc rx rr)) Q := by
  cases r with
  | inl f =>
    obtain ⟨t, g, f0⟩ := h
    have e11 := g.2.2.2.1
    have e13 : ¬ I 180 13 ≤ 0 := by rw [g.2.2.2.2.1, in_le 0 (by decide) (by have := g.2.2.2.2.2.1; omega)]; omega
    simp only [w159_0, w159_1, e11, w159_4, w159_5, w159_6, w159_7, c154f (d := d) g f0, ↓reduceIte, Option.toList_some, Option.toList_none, List.cons_append, List.nil_append, Int32.reduceAdd, Int32.reduceLT, Int32.reduceLE, Int32.reduceToNatClampNeg, w159_10, w159_11, w159_14, e13, w159_17, w159_18]
    exact hQ I _ fYm_0 ⟨t, g, f0⟩ (fun p q e _ => by cases e)
  | inr p =>
    obtain ⟨t, w⟩ := p
    obtain ⟨g, hw⟩ := h
    change mRD I J W L t 0 0 at g
    change yMw I W L t w at hw
    have e11 := g.2.2.2.1
    have kd := mRD_k g
    have ht := g.2.1
    simp only [w159_0, w159_1, e11, w159_4, w159_5, w159_6, w159_7]
    refine c154t (d := d) (y := 1) g (κ := 1) (by decide) (by decide) rfl (fun I1 r1 q1 q2 => ?_)
    simp only [↓reduceIte, Option.toList_some, Option.toList_none, List.cons_append, List.nil_append, Int32.reduceAdd, Int32.reduceLT, Int32.reduceLE, Int32.reduceToNatClampNeg, w159_10, w159_11]
    have e20 : I1 180 20 = nI N.length := by rw [r1.2 20 (by decide) (by decide) (by decide)]; exact hn.1
    cases c : pTt W L 1 t with
    | inl f =>
      obtain ⟨u1, u2⟩ := q1 f c
      have e13 : ¬ I1 180 13 ≤ 0 := by rw [u1.2.2.2.2.1, in_le 0 (by decide) (by have := u1.2.2.2.2.2.1; omega)]; omega
      simp only [w159_14, e13, ↓reduceIte, w159_17, w159_18]
      refine hQ I1 _ (fM1_y r1) ?_ (fun p q _ e => ?_)
      · show yMx I1 J W L (bd (pTt W L 1 t) fun t1 => .inr (t1, gKw W L N t w))
        rw [c]; exact ⟨t, u1, u2⟩
      · change (bd (pTt W L 1 t) fun t1 => (.inr (t1, gKw W L N t w) : yX)) = .inr q at e
        rw [c] at e; cases e
    | inr t1 =>
      have g1 := q2 t1 c
      obtain ⟨k1, et, l1⟩ := pTt_r (g.2.2.1 rfl) (by decide) c
      have ex6 : J 186 t = kn W L t := kd.2.2.2 (Or.inl k1)
      have e184 : I1 184 t = nI (tp W L t) := by rw [r1.1 184 (by decide)]; exact kd.2.1
      have hw1 : yMw I1 W L t w := by rw [yMw, r1.2 15 (by decide) (by decide) (by decide), r1.2 16 (by decide) (by decide) (by decide)]; exact hw
      have hbt : tp W L t < 2 ^ 31 := by have := tp_le W L t; have := hw.1; omega
      have m3 : mIn (nI t) 403 = true := mIn_nI (by omega) (by omega)
      have m4 : (nI t).toNatClampNeg = t := nI_clamp (by omega)
      have e13 : I1 180 13 ≤ 0 := by rw [g1.2.2.2.2.1]; decide
      have z13 : I1 180 13 = 0 := g1.2.2.2.2.1
      have h11 := hn.2.1
      have lt : ∀ j, j < t → tp W L j < tp W L t := fun j hj => tp_ij (g.2.2.1 rfl) (Nat.le_refl _) hj
      have key : ∀ (l : pNs) (k : Nat), (∀ p q, l[p]? = some q → J 188 (k + p) = q.1 ∧ I 189 (k + p) = nI q.2 ∧ q.2 ≤ 10) → k + l.length = N.length → WP (d + 3) 159 21 [.ref 180, .int (nI t), .int (nI k)] [] (mHh xL I1 J (mRf rc rx rr)) Q = Q (some (.int (oN (mIx (kn W L t) l)))) (mHh xL (if (mIx (kn W L t) l).isNone then yWr I1 (nI 4) (nI (tp W L t)) else I1) J (mRf rc rx rr)) := by
        intro l
        induction l with
        | nil =>
          intro k _ hk
          rw [List.length_nil, Nat.add_zero] at hk
          have gg : nI N.length ≤ nI k := nI_le (by omega) (by omega)
          have c4 := fun Q' => c155 (d := d + 2) (xL := xL) (J := J) (rc := rc) (rx := rx) (rr := rr) (Q := Q') (I := I1) (w := w) (y := 4) z13 (show t < 403 by omega) e184 hbt hw1.2.1 hw1.2.2.1 (k := 4) (by decide) (fun z => ⟨(hw1.2.2.2 z).1, Or.inl (lt _ (hw1.2.2.2 z).2)⟩) rfl
          rw [w159_21]
          simp only [w159_22, w159_23, e20, w159_26, gg, ↓reduceIte, w159_69, w159_70, w159_71, w159_72, c4, ↓reduceIte, Option.toList_some, Option.toList_none, List.cons_append, List.nil_append, Int32.reduceAdd, Int32.reduceLT, Int32.reduceLE, Int32.reduceToNatClampNeg, w159_75, w159_76]
          rfl
        | cons y l ih =>
          intro k hp hk
          rw [List.length_cons] at hk
          have gg : ¬ nI N.length ≤ nI k := nI_ge (by omega) (by omega)
          have a1 : mIn (nI k) 11 = true := mIn_nI (by omega) (by omega)
          have a2 : (nI k).toNatClampNeg = k := nI_clamp (by omega)
          obtain ⟨ey, ez, e10⟩ := hp 0 y rfl
          rw [Nat.add_zero] at ey ez
          have ez1 : I1 189 k = nI y.2 := by rw [r1.1 189 (by decide)]; exact ez
          have g10 : (10 ≤ nI y.2) ↔ ¬ y.2 < 10 := by rw [ni_le 10 (by decide) (by omega)]; omega
          have nxt := ih (k + 1) (fun p z hz => by rw [show k + 1 + p = k + (p + 1) by omega]; exact hp (p + 1) z hz) (by omega)
          rw [w159_21, mIx]
          simp only [w159_22, w159_23, e20, w159_26, gg, ↓reduceIte, w159_29, w159_30, w159_33, w159_34 (hi := a1), a2, ey, w159_35, w159_36, w159_39, w159_40 (hi := m3), m4, ex6, w159_41, w159_42, lg_cmp_eq]
          by_cases e : y.1 = kn W L t
          · by_cases e2 : y.2 < 10
            · have g11 : ¬ 10 ≤ nI y.2 := fun z => (g10.1 z) e2
              rw [if_pos e, if_pos ⟨e, e2⟩]
              simp only [w159_45, w159_46, w159_49, w159_50 (hi := a1), a2, ez1, w159_51, w159_53, g11, ↓reduceIte, w159_56, w159_57, w159_60, w159_61 (hi := a1), w159_62]
              rfl
            · have g11 : 10 ≤ nI y.2 := g10.2 e2
              rw [if_pos e, if_neg (fun z => e2 z.2)]
              simp only [w159_45, w159_46, w159_49, w159_50 (hi := a1), a2, ez1, w159_51, w159_53, g11, ↓reduceIte, w159_63, nI_1, w159_66]
              exact nxt
          · rw [if_neg e, if_neg (fun z => e z.1)]
            simp only [w159_63, nI_1, w159_66]
            exact nxt
      have fin := key N 0 (fun p q hq => by rw [Nat.zero_add]; exact hn.2.2 p q hq) (Nat.zero_add _)
      rw [nI_0, mIx_f N 0 (by rw [hp, List.range_eq_range'])] at fin
      simp only [w159_14, e13, ↓reduceIte, w159_19, w159_20]
      rw [fin]
      refine hQ _ _ (fYm_t (fM1_y r1) ?_) ?_ (fun p q e _ => by cases e; rfl)
      · split
        · exact yWr_f _ _ _
        · exact fYm_0
      · show yMx _ J W L (bd (pTt W L 1 t) fun t1 => .inr (t1, yU (fIx (kn W L t) (psN N) 0).isNone 4 t w))
        rw [c]
        show yMx _ J W L (.inr (t1, yU (fIx (kn W L t) (psN N) 0).isNone 4 t w))
        cases (fIx (kn W L t) (psN N) 0).isNone with
        | false =>
          rw [yU_f]
          exact ⟨g1, yMw_up hw1 (by omega)⟩
        | true => exact ⟨yWr_r g1 _ _, yWr_w hw1 (by decide) (by omega) (by omega)⟩
theorem c156 (h : yMx I J W L r) {m : Nat} (hm : m < 2 ^ 30) {y : Int32} (hy : y = nI m) (hQ : ∀ I' x, fYm I I' → yMx I' J W L (sSt W L 2 (gIw W L m) r) → (∀ p q, r = .inr p → sSt W L 2 (gIw W L m) r = .inr q → x = nI (kv W L p.1)) → Q (some (.int x)) (mHh xL I' J (mRf rc rx rr))) : WP (d + 2) 156 0 [.ref 180, .int y, mDum] [] (mHh xL I J (mRf rc rx rr)) Q := by
  subst hy
  cases r with
  | inl f =>
    obtain ⟨t, g, f0⟩ := h
    have e13 : 0 < I 180 13 := by rw [g.2.2.2.2.1, ni_lt 0 (by decide) (by have := g.2.2.2.2.2.1; omega)]; omega
    simp only [w156_0, w156_1, w156_4, e13, ↓reduceIte, w156_15, w156_16, w156_17, c151f (d := d + 1) g f0, ↓reduceIte, Option.toList_some, Option.toList_none, List.cons_append, List.nil_append, Int32.reduceAdd, Int32.reduceLT, Int32.reduceLE, Int32.reduceToNatClampNeg, w156_20, w156_21]
    exact hQ I _ fYm_0 ⟨t, g, f0⟩ (fun p q e _ => by cases e)
  | inr p =>
    obtain ⟨t, w⟩ := p
    obtain ⟨g, hw⟩ := h
    change mRD I J W L t 0 0 at g
    change yMw I W L t w at hw
    have e11 := g.2.2.2.1
    have kd := mRD_k g
    have ht := g.2.1
    have e13 : ¬ 0 < I 180 13 := by rw [g.2.2.2.2.1]; decide
    have z13 : I 180 13 = 0 := g.2.2.2.2.1
    by_cases k2 : kk W L t = 2
    · have hv := kd.2.2.1 k2
      have hkv := kv_le k2
      have m3 : mIn (nI t) 403 = true := mIn_nI (by omega) (by omega)
      have m4 : (nI t).toNatClampNeg = t := nI_clamp (by omega)
      have hbt : tp W L t < 2 ^ 31 := by have := tp_le W L t; have := hw.1; omega
      have lt : ∀ j, j < t → tp W L j < tp W L t := fun j hj => tp_ij (g.2.2.1 rfl) (Nat.le_refl _) hj
      have gm : (nI (kv W L t) ≤ nI m) ↔ ¬ m < kv W L t := by
        constructor
        · intro z z2; exact (nI_ge z2 hkv) z
        · intro z; exact nI_le (by omega) (by omega)
      have fin : ∀ I1, fYm I I1 → mRD I1 J W L t 0 0 → yMw I1 W L (t + 1) (gIw W L m t w) → WP (d + 2) 156 46 [.ref 180, .int (nI m), .int (nI (kv W L t))] [] (mHh xL I1 J (mRf rc rx rr)) Q := by
        intro I1 f1 g1 w1
        simp only [w156_46, w156_47]
        refine c152n (d := d) g1 (by rw [k2]; decide) (fun I2 r2 q1 q2 => ?_)
        simp only [↓reduceIte, Option.toList_some, Option.toList_none, List.cons_append, List.nil_append, Int32.reduceAdd, Int32.reduceLT, Int32.reduceLE, Int32.reduceToNatClampNeg, w156_50, w156_51]
        refine hQ I2 _ (fYm_t f1 (fM1_y r2)) ?_ (fun p q e _ => by cases e; rfl)
        show yMx I2 J W L (bd (pTt W L 2 t) fun t1 => .inr (t1, gIw W L m t w))
        rw [pTt, if_pos k2]
        cases c : nx t with
        | inl f => exact ⟨t, q1 f c, by rw [(nx_l c).2]; exact (by decide : (2 : Nat) ≠ 0)⟩
        | inr t1 =>
          refine ⟨q2 t1 c, ?_⟩
          have et := (nx_r (g.2.2.1 rfl) (by rw [k2]; decide) c).1
          show yMw I2 W L t1 (gIw W L m t w)
          rw [yMw, r2.2 15 (by decide) (by decide) (by decide), r2.2 16 (by decide) (by decide) (by decide), et]; exact w1
      have c2 := fun Q' => c148 (d := d + 1) (xL := xL) (rc := rc) (rx := rx) (rr := rr) (Q := Q') (κ := 2) g (by decide) (show (2 : Int32) = nI 2 from rfl)
      simp only [k2, decide_true, sB_t] at c2
      simp only [w156_0, w156_1, w156_4, e13, ↓reduceIte, w156_7, w156_8, w156_9, c2, ↓reduceIte, Option.toList_some, Option.toList_none, List.cons_append, List.nil_append, Int32.reduceAdd, Int32.reduceLT, Int32.reduceLE, Int32.reduceToNatClampNeg, w156_12, o01, w156_22, w156_23, w156_26, w156_27, e11, w156_30 (hi := m3), m4, hv, w156_31, w156_32, w156_33, w156_34, gm]
      by_cases z : m < kv W L t
      · have c5 := fun Q' => c155 (d := d + 1) (xL := xL) (J := J) (rc := rc) (rx := rx) (rr := rr) (Q := Q') (I := I) (w := w) (y := 5) z13 (show t < 403 by omega) kd.2.1 hbt hw.2.1 hw.2.2.1 (k := 5) (by decide) (fun z => ⟨(hw.2.2.2 z).1, Or.inl (lt _ (hw.2.2.2 z).2)⟩) rfl
        simp only [z, not_true_eq_false, ↓reduceIte, w156_37, w156_38, w156_39, w156_40, e11, w156_43, c5, ↓reduceIte, Option.toList_some, Option.toList_none, List.cons_append, List.nil_append, Int32.reduceAdd, Int32.reduceLT, Int32.reduceLE, Int32.reduceToNatClampNeg]
        refine fin _ (yWr_f _ _ _) (yWr_r g _ _) ?_
        rw [gIw, decide_eq_true z]
        exact yWr_w hw (by decide) (by omega) (by omega)
      · simp only [z, not_false_eq_true, ↓reduceIte]
        refine fin I fYm_0 g ?_
        rw [gIw, decide_eq_false z, yU_f]
        exact yMw_up hw (by omega)
    · have c2 := fun Q' => c148 (d := d + 1) (xL := xL) (rc := rc) (rx := rx) (rr := rr) (Q := Q') (κ := 2) g (by decide) (show (2 : Int32) = nI 2 from rfl)
      simp only [k2, decide_false, sB_f] at c2
      have m1 := mRD_fl g (g := 1) (by decide) (by decide)
      simp only [w156_0, w156_1, w156_4, e13, ↓reduceIte, w156_7, w156_8, w156_9, c2, ↓reduceIte, Option.toList_some, Option.toList_none, List.cons_append, List.nil_append, Int32.reduceAdd, Int32.reduceLT, Int32.reduceLE, Int32.reduceToNatClampNeg, w156_12, w156_15, w156_16, w156_17, c151 (d := d + 1) g, w156_20, w156_21]
      refine hQ _ _ (fM1_y (mFlt_f I 1 (nI (tp W L t)))) ?_ (fun p q e1 e2 => ?_)
      · show yMx _ J W L (bd (pTt W L 2 t) fun t1 => .inr (t1, gIw W L m t w))
        rw [pTt, if_neg k2]
        exact ⟨t, m1, (by decide : (1 : Nat) ≠ 0)⟩
      · change (bd (pTt W L 2 t) fun t1 => (.inr (t1, gIw W L m t w) : yX)) = .inr q at e2
        rw [pTt, if_neg k2] at e2; cases e2
theorem c157 (h : yMx I J W L r) (hn : yNm I J N) (h10 : N.length < 11) (hi : i < 403) {y x : Int32} (hy : ∀ p, sSt W L 4 gNo r = .inr p → y = nI i) (hF : ∀ f I', sSt W L 4 gNo r = .inl f → fYm I I' → yMx I' J W L (.inl f) → Q none (mHh xL I' J (mRf rc rx rr))) (hS : ∀ p I', sSt W L 4 gNo r = .inr p → fYm I I' → yMx I' J W L (.inr p) → Q none (mHh xL (mU (mU I' 189 N.length x) 180 20 (nI (N.length + 1))) (mU J 188 N.length (J 186 i)) (mRf rc rx rr))) : WP (d + 3) 157 0 [.ref 180, .int y, .int x] [] (mHh xL I J (mRf rc rx rr)) Q := by
  simp only [w157_0, w157_1, w157_2]
  refine c154x (d := d) (y := 4) h (κ := 4) (by decide) (by decide) rfl (fun I1 f1 g1 => ?_)
  simp only [↓reduceIte, Option.toList_some, Option.toList_none, List.cons_append, List.nil_append, Int32.reduceAdd, Int32.reduceLT, Int32.reduceLE, Int32.reduceToNatClampNeg, w157_5, w157_6, w157_9]
  cases c : sSt W L 4 gNo r with
  | inl f =>
    rw [c] at g1
    obtain ⟨t, g, f0⟩ := id g1
    have e13 : ¬ I1 180 13 ≤ 0 := by rw [g.2.2.2.2.1, in_le 0 (by decide) (by have := g.2.2.2.2.2.1; omega)]; omega
    simp only [e13, ↓reduceIte, w157_12]
    exact hF f I1 c f1 g1
  | inr p =>
    rw [c] at g1
    have e13 : I1 180 13 ≤ 0 := by rw [g1.1.2.2.2.2.1]; decide
    have e20 : I1 180 20 = nI N.length := by rw [f1.2 20 (by decide) (by decide) (by decide) (by decide) (by decide)]; exact hn.1
    have a1 : mIn (nI N.length) 11 = true := mIn_nI (by omega) (by omega)
    have a2 : (nI N.length).toNatClampNeg = N.length := nI_clamp (by omega)
    have m3 : mIn (nI i) 403 = true := mIn_nI (by omega) (by omega)
    have m4 : (nI i).toNatClampNeg = i := nI_clamp (by omega)
    have z20 : mU I1 189 N.length x 180 20 = nI N.length := by rw [mU_a (by decide)]; exact e20
    rw [hy p c]
    simp only [e13, ↓reduceIte, w157_13, w157_14, w157_17, w157_18, e20, w157_21, w157_22, w157_25, w157_26 (hi := m3), m4, w157_27 (hi := a1), a2, w157_28, w157_29, w157_32, w157_33, w157_36, w157_37 (hi := a1), w157_38, w157_39, w157_40, z20, w157_43, w157_44, nI_1, w157_45, w157_48]
    exact hS p I1 c f1 g1
theorem c160 (h : yMx I J W L (.inr (t, w))) {κ : Nat} (hk : kk W L t = κ) (h03 : κ ≠ 0 ∧ κ ≠ 3) {m : Nat} (hm : m < 2 ^ 30) {y : Int32} (hy : y = nI m) (hQ : ∀ I' x, fYm I I' → yMx I' J W L (sSt W L 4 gNo (sSt W L 2 (gIw W L m) (sSt W L κ gNo (.inr (t, w))))) → (∀ p q, sSt W L κ gNo (.inr (t, w)) = .inr p → sSt W L 2 (gIw W L m) (sSt W L κ gNo (.inr (t, w))) = .inr q → x = nI (kv W L p.1)) → Q (some (.int x)) (mHh xL I' J (mRf rc rx rr))) : WP (d + 3) 160 0 [.ref 180, .int y, mDum] [] (mHh xL I J (mRf rc rx rr)) Q := by
  simp only [w160_0, w160_1]
  refine c152x (d := d + 1) h hk h03 (fun I1 f1 g1 => ?_)
  simp only [↓reduceIte, Option.toList_some, Option.toList_none, List.cons_append, List.nil_append, Int32.reduceAdd, Int32.reduceLT, Int32.reduceLE, Int32.reduceToNatClampNeg, w160_4, w160_5, w160_6]
  refine c156 (d := d) g1 hm hy (fun I2 x f2 g2 v2 => ?_)
  simp only [↓reduceIte, Option.toList_some, Option.toList_none, List.cons_append, List.nil_append, Int32.reduceAdd, Int32.reduceLT, Int32.reduceLE, Int32.reduceToNatClampNeg, w160_9, w160_10, w160_11, w160_12]
  refine c154x (d := d) (y := 4) g2 (κ := 4) (by decide) (by decide) rfl (fun I3 f3 g3 => ?_)
  simp only [↓reduceIte, Option.toList_some, Option.toList_none, List.cons_append, List.nil_append, Int32.reduceAdd, Int32.reduceLT, Int32.reduceLE, Int32.reduceToNatClampNeg, w160_15, w160_16]
  exact hQ I3 x (fYm_t f1 (fYm_t f2 f3)) g3 v2
end MSV
