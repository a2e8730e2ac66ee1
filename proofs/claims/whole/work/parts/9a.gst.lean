/-! The glass's reader, step by step: names, persons, ints, and what is found wrong. -/
def gYw (I : Nat → Nat → Int32) (W : Nat → Int32) (L : Nat) (w : yW) : Prop := I 10 5 = nI w.1 ∧ w.1 < 6 ∧ (w.1 ≠ 0 → I 10 6 = nI (tp W L w.2))
def gY (I : Nat → Nat → Int32) (J : Nat → Nat → Int64) (W : Nat → Int32) (L : Nat) : yX → Prop
  | .inl f => ∃ t, gRD I J W L t f.1 f.2 ∧ f.1 ≠ 0
  | .inr p => gRD I J W L p.1 0 0 ∧ gYw I W L p.2
def fY1 (I I' : Nat → Nat → Int32) : Prop := ∀ a, a ≠ 10 → I' a = I a
theorem fY1_t {I I1 I2 : Nat → Nat → Int32} (h1 : fY1 I I1) (h2 : fY1 I1 I2) : fY1 I I2 := fun a x => by rw [h2 a x, h1 a x]
theorem fY1_0 {I : Nat → Nat → Int32} : fY1 I I := fun _ _ => rfl
theorem fR1_Y {I I' : Nat → Nat → Int32} (h : fR1 I I') : fY1 I I' := h.1
/-- the names told so far, as they stand in a house of the glass -/
def gNm (I : Nat → Nat → Int32) (J : Nat → Nat → Int64) (o : Nat) (N : pNs) : Prop := (I o 12 = nI (psN N).length ∧ (psN N).length ≤ 5) ∧ (I o 13 = nI (dsN N).length ∧ (dsN N).length ≤ 6) ∧ (∀ p x, (psN N)[p]? = some x → J (o + 1) p = x) ∧ (∀ p x, (dsN N)[p]? = some x → J (o + 4) p = x)
def gLt (I : Nat → Nat → Int32) (x p : Int32) : Nat → Nat → Int32 := if I 10 5 = 0 then mU (mU I 10 5 x) 10 6 p else I
theorem gLt_f (I : Nat → Nat → Int32) (x p : Int32) : fY1 I (gLt I x p) := by
  intro a ha
  rw [gLt]
  split
  · rw [mU_f ha, mU_f ha]
  · rfl
theorem gLt_k (I : Nat → Nat → Int32) (x p : Int32) : ∀ j, j ≠ 5 → j ≠ 6 → gLt I x p 10 j = I 10 j := by
  intro j h5 h6
  rw [gLt]
  split
  · rw [mU_k h6, mU_k h5]
  · rfl
theorem gRD_j {I I' : Nat → Nat → Int32} {J J' : Nat → Nat → Int64} {W : Nat → Int32} {L t f i : Nat} (h : gRD I J W L t f i) (e10 : ∀ j, j = 2 ∨ j = 3 ∨ j = 4 → I' 10 j = I 10 j) (e11 : I' 11 = I 11) (e13 : I' 13 = I 13) (e15 : I' 15 = I 15) (j14 : J' 14 = J 14) : gRD I' J' W L t f i := by
  obtain ⟨⟨n, hn, h1, h2⟩, h3⟩ := gRD_keep (I' := I') h e10 (by rw [e11]) e13 e15
  exact ⟨⟨n, hn, by rw [j14]; exact h1, h2⟩, h3⟩
theorem gLt_r {I : Nat → Nat → Int32} {J : Nat → Nat → Int64} {W : Nat → Int32} {L t f i : Nat} (h : gRD I J W L t f i) (x p : Int32) : gRD (gLt I x p) J W L t f i :=
  gRD_j h (fun j hj => gLt_k I x p j (by omega) (by omega)) (gLt_f I x p 11 (by decide)) (gLt_f I x p 13 (by decide)) (gLt_f I x p 15 (by decide)) rfl
theorem gLt_w {I : Nat → Nat → Int32} {W : Nat → Int32} {L t f : Nat} {w : yW} (h : gYw I W L w) (hf : f < 6) : gYw (gLt I (nI f) (nI (tp W L t))) W L (yU true f t w) := by
  obtain ⟨h1, h2, h3⟩ := h
  have e : (I 10 5 = 0) ↔ w.1 = 0 := by rw [h1]; exact in_eq 0 (by decide) (by omega)
  rw [gLt, yU]
  by_cases c : w.1 = 0
  · rw [if_pos (e.2 c), if_pos ⟨c, rfl⟩]
    exact ⟨by rw [mU_k (by decide), mU_s], hf, fun _ => mU_s _ _ _ _⟩
  · rw [if_neg (fun z => c (e.1 z)), if_neg (fun z => c z.1)]
    exact ⟨h1, h2, h3⟩
theorem yU_f (f i : Nat) (w : yW) : yU false f i w = w := by rw [yU, if_neg (fun z => by cases z.2)]
theorem gY_k {I I' : Nat → Nat → Int32} {J J' : Nat → Nat → Int64} {W : Nat → Int32} {L : Nat} {r : yX} (h : gY I J W L r) (e10 : I' 10 = I 10) (e11 : I' 11 = I 11) (e13 : I' 13 = I 13) (e15 : I' 15 = I 15) (j14 : J' 14 = J 14) : gY I' J' W L r := by
  cases r with
  | inl f =>
    obtain ⟨t, g, h0⟩ := h
    exact ⟨t, gRD_j g (fun j _ => by rw [e10]) e11 e13 e15 j14, h0⟩
  | inr p =>
    obtain ⟨g, w⟩ := h
    refine ⟨gRD_j g (fun j _ => by rw [e10]) e11 e13 e15 j14, ?_⟩
    rw [gYw, e10]; exact w
theorem gNm_k {I I' : Nat → Nat → Int32} {J J' : Nat → Nat → Int64} {o : Nat} {N : pNs} (h : gNm I J o N) (e : I' o = I o) (j1 : ∀ k, k < (psN N).length → J' (o + 1) k = J (o + 1) k) (j4 : ∀ k, k < (dsN N).length → J' (o + 4) k = J (o + 4) k) : gNm I' J' o N := by
  obtain ⟨h1, h2, h3, h4⟩ := h
  refine ⟨by rw [e]; exact h1, by rw [e]; exact h2, fun p x hp => ?_, fun p x hp => ?_⟩
  · rw [j1 p (List.getElem?_eq_some_iff.1 hp).1]; exact h3 p x hp
  · rw [j4 p (List.getElem?_eq_some_iff.1 hp).1]; exact h4 p x hp
theorem fIx_s {x : Int64} : ∀ (l : List Int64) (k : Nat), (fIx x l k).isSome = decide (x ∈ l) := by
  intro l
  induction l with
  | nil => intro k; simp [fIx]
  | cons y r ih =>
    intro k
    rw [fIx]
    by_cases e : y = x
    · subst e; simp
    · rw [if_neg e, ih]
      have : ¬ x = y := fun z => e z.symm
      simp [this]
theorem isN_e (N : pNs) (x : Int64) : isN N x = (decide (x ∈ dsN N) || (fIx x (psN N) 0).isSome) := by
  have key : x ∈ N.map (fun p => p.1) ↔ x ∈ dsN N ∨ x ∈ psN N := by
    simp only [dsN, psN, List.mem_map, List.mem_filter, Bool.not_eq_true', decide_eq_false_iff_not, decide_eq_true_eq]
    constructor
    · rintro ⟨p, h1, h2⟩
      by_cases c : p.2 < 10
      · exact Or.inr ⟨p, ⟨h1, c⟩, h2⟩
      · exact Or.inl ⟨p, ⟨h1, c⟩, h2⟩
    · rintro (⟨p, h1, h2⟩ | ⟨p, h1, h2⟩)
      · exact ⟨p, h1.1, h2⟩
      · exact ⟨p, h1.1, h2⟩
  rw [fIx_s, isN, Bool.eq_iff_iff, Bool.or_eq_true, decide_eq_true_iff, decide_eq_true_iff, decide_eq_true_iff]
  exact key
section GST
variable {d : Nat} {xL : Nat} {I : Nat → Nat → Int32} {J : Nat → Nat → Int64} {rc rx o : Nat} {Q : Option Value → mHp → Prop} {L : Nat} {W : Nat → Int32} {t f i : Nat} {N : pNs} {r : yX}
theorem c28 (ho : mHo o) {rr : Nat} (hn : gNm I J o N) (x : Int64) : WP d 28 0 [.ref o, .long x, mDum, mDum] [] (mHh xL I J (mRf rc rx rr)) Q = Q (some (.int (vWh x N))) (mHh xL I J (mRf rc rx rr)) := by
  obtain ⟨⟨h1, h2⟩, -, h3, -⟩ := hn
  obtain ⟨k1, -, -, -, -, -, -, -, k9, -⟩ := mHo_k ho
  have key : ∀ (l : List Int64) (k : Nat), (∀ p y, l[p]? = some y → J (o + 1) (k + p) = y) → k + l.length = (psN N).length → WP d 28 2 [.ref o, .long x, mDum, .int (nI k)] [] (mHh xL I J (mRf rc rx rr)) Q = Q (some (.int (oN (fIx x l k)))) (mHh xL I J (mRf rc rx rr)) := by
    intro l
    induction l with
    | nil =>
      intro k _ hk
      rw [List.length_nil, Nat.add_zero] at hk
      have g : nI (psN N).length ≤ nI k := nI_le (by omega) (by omega)
      rw [w28_2]
      simp only [w28_3, w28_4 (ha := ho), h1, w28_7, g, ↓reduceIte, w28_29, w28_30]
      rfl
    | cons y l ih =>
      intro k hp hk
      rw [List.length_cons] at hk
      have g : ¬ nI (psN N).length ≤ nI k := nI_ge (by omega) (by omega)
      have a1 : mIn (nI k) (lyN (o + 1)) = true := by rw [k9]; exact mIn_nI (by omega) (by omega)
      have a2 : (nI k).toNatClampNeg = k := nI_clamp (by omega)
      have ey : J (o + 1) k = y := hp 0 y rfl
      rw [w28_2, fIx]
      simp only [w28_3, w28_4 (ha := ho), h1, w28_7, g, ↓reduceIte, w28_10, w28_11 (ha := ho), w28_14, w28_15 (ha := k1) (hi := a1), a2, ey, w28_16, w28_17, w28_18, lg_cmp_eq]
      by_cases e : y = x
      · simp only [e, ↓reduceIte, w28_21, w28_22]; rfl
      · simp only [e, ↓reduceIte, w28_23, nI_1, w28_26]
        exact ih (k + 1) (fun p z hz => by rw [show k + 1 + p = k + (p + 1) by omega]; exact hp (p + 1) z hz) (by omega)
  simp only [w28_0, w28_1]
  exact key (psN N) 0 (fun p y hp => by rw [Nat.zero_add]; exact h3 p y hp) (Nat.zero_add _)
theorem c27 (ho : mHo o) {rr : Nat} (hn : gNm I J o N) (x : Int64) : WP (d + 1) 27 0 [.ref o, .long x, mDum, mDum] [] (mHh xL I J (mRf rc rx rr)) Q = Q (some (.int (sB01 (isN N x)))) (mHh xL I J (mRf rc rx rr)) := by
  have hh := hn
  obtain ⟨-, ⟨h1, h2⟩, -, h3⟩ := hn
  obtain ⟨-, -, -, k1, -, -, -, -, -, -, -, k9, -⟩ := mHo_k ho
  have key : ∀ (l : List Int64) (k : Nat), (∀ p y, l[p]? = some y → J (o + 4) (k + p) = y) → k + l.length = (dsN N).length → WP (d + 1) 27 2 [.ref o, .long x, mDum, .int (nI k)] [] (mHh xL I J (mRf rc rx rr)) Q = Q (some (.int (sB01 (decide (x ∈ l) || (fIx x (psN N) 0).isSome)))) (mHh xL I J (mRf rc rx rr)) := by
    intro l
    induction l with
    | nil =>
      intro k _ hk
      rw [List.length_nil, Nat.add_zero] at hk
      have g : nI (dsN N).length ≤ nI k := nI_le (by omega) (by omega)
      rw [w27_2]
      simp only [w27_3, w27_4 (ha := ho), h1, w27_7, g, ↓reduceIte, w27_29, w27_30, w27_31 (hb := ho), c28 ho hh, ↓reduceIte, Option.toList_some, Option.toList_none, List.cons_append, List.nil_append, Int32.reduceAdd, Int32.reduceLT, Int32.reduceLE, Int32.reduceToNatClampNeg, w27_34, w27_35, vWh]
      cases e : fIx x (psN N) 0 with
      | none => simp only [oN, ↓reduceIte, w27_42, w27_43, nb0]; rfl
      | some i =>
        have hi := (fIx_lt _ _ _ e).2
        have g0 : ¬ nI i < 0 := nI_pos (by have := hh.1.2; omega)
        have ne : ¬ nI i = -1 := fun z => g0 (by rw [z]; decide)
        simp only [oN, ne, ↓reduceIte, w27_38, w27_39, w27_43, nb1]; rfl
    | cons y l ih =>
      intro k hp hk
      rw [List.length_cons] at hk
      have g : ¬ nI (dsN N).length ≤ nI k := nI_ge (by omega) (by omega)
      have a1 : mIn (nI k) (lyN (o + 4)) = true := by rw [k9]; exact mIn_nI (by omega) (by omega)
      have a2 : (nI k).toNatClampNeg = k := nI_clamp (by omega)
      have ey : J (o + 4) k = y := hp 0 y rfl
      rw [w27_2]
      simp only [w27_3, w27_4 (ha := ho), h1, w27_7, g, ↓reduceIte, w27_10, w27_11 (ha := ho), w27_14, w27_15 (ha := k1) (hi := a1), a2, ey, w27_16, w27_17, w27_18, lg_cmp_eq]
      by_cases e : y = x
      · subst e
        simp only [↓reduceIte, w27_21, w27_22, nb1, List.mem_cons_self, decide_true, Bool.true_or]; rfl
      · have e2 : ¬ x = y := fun z => e z.symm
        simp only [e, ↓reduceIte, w27_23, nI_1, w27_26]
        rw [ih (k + 1) (fun p z hz => by rw [show k + 1 + p = k + (p + 1) by omega]; exact hp (p + 1) z hz) (by omega)]
        simp only [List.mem_cons, e2, false_or]
  simp only [w27_0, w27_1]
  have k0 := key (dsN N) 0 (fun p y hp => by rw [Nat.zero_add]; exact h3 p y hp) (Nat.zero_add _)
  rw [nI_0] at k0
  rw [k0, isN_e]
theorem c47 {rr : Nat} (h : gRD I J W L t f i) {x : Int32} : WP (d + 1) 47 0 [.ref 10, .int x] [] (mHh xL I J (mRf rc rx rr)) Q = Q none (mHh xL (gLt I x (nI (tp W L t))) J (mRf rc rx rr)) := by
  rw [gLt]
  by_cases e : I 10 5 = 0
  · have h' : gRD (mU I 10 5 x) J W L t f i := gRD_j h (fun j hj => mU_k (by omega)) (mU_f (by decide)) (mU_f (by decide)) (mU_f (by decide)) rfl
    rw [if_pos e]
    simp only [w47_0, w47_1, e, w47_4, ↓reduceIte, w47_7, w47_8, w47_9, w47_12, w47_13, w47_14, c43 h', ↓reduceIte, Option.toList_some, Option.toList_none, List.cons_append, List.nil_append, Int32.reduceAdd, Int32.reduceLT, Int32.reduceLE, Int32.reduceToNatClampNeg, w47_17, w47_20]
  · rw [if_neg e]
    simp only [w47_0, w47_1, w47_4, e, ↓reduceIte, w47_20]
/-- to take a token, with what was found wrong at it set down already -/
theorem c44g {rr : Nat} (h : gRD I J W L t 0 0) {κ : Nat} (hκ : κ < 40) (h03 : κ ≠ 0 ∧ κ ≠ 3) {y : Int32} (hy : y = nI (gk κ)) {g : Nat → yW → yW} {w w' : yW} (hw : gYw I W L w') (e : kk W L t = κ → w' = g t w) (hQ : ∀ I', fY1 I I' → gY I' J W L (sSt W L κ g (.inr (t, w))) → Q none (mHh xL I' J (mRf rc rx rr))) : WP (d + 2) 44 0 [.ref 10, .int y] [] (mHh xL I J (mRf rc rx rr)) Q := by
  refine c44t h hκ h03 hy (fun I' r1 q1 q2 => hQ I' r1.1 ?_)
  show gY I' J W L (bd (pTt W L κ t) fun t1 => .inr (t1, g t w))
  cases c : pTt W L κ t with
  | inl f =>
    obtain ⟨u1, u2⟩ := q1 f c
    exact ⟨t, u1, u2⟩
  | inr t1 =>
    have k1 := (pTt_r h.2.1 h03 c).1
    refine ⟨q2 t1 c, ?_⟩
    show gYw I' W L (g t w)
    rw [← e k1, gYw, r1.2 5 (by decide) (by decide) (by decide), r1.2 6 (by decide) (by decide) (by decide)]
    exact hw
theorem c44x {rr : Nat} (h : gY I J W L r) {κ : Nat} (hκ : κ < 40) (h03 : κ ≠ 0 ∧ κ ≠ 3) {y : Int32} (hy : y = nI (gk κ)) (hQ : ∀ I', fY1 I I' → gY I' J W L (sSt W L κ gNo r) → Q none (mHh xL I' J (mRf rc rx rr))) : WP (d + 2) 44 0 [.ref 10, .int y] [] (mHh xL I J (mRf rc rx rr)) Q := by
  cases r with
  | inl f =>
    have hh := h
    obtain ⟨t, g, f0⟩ := h
    rw [c44f g f0 hκ hy]
    exact hQ I fY1_0 hh
  | inr p =>
    obtain ⟨g, w⟩ := h
    exact c44g g hκ h03 hy w (fun _ => rfl) hQ
theorem c45 (ho : mHo o) (hn : gNm I J o N) (h : gY I J W L r) (hQ : ∀ I' x, fY1 I I' → gY I' J W L (sSt W L 1 (gTw W L N) r) → (∀ p q, r = .inr p → sSt W L 1 (gTw W L N) r = .inr q → x = kn W L p.1) → Q (some (.long x)) (mHh xL I' J (mRf rc rx o))) : WP (d + 3) 45 0 [.ref 10, mDum, mDum] [] (mHh xL I J (mRf rc rx o)) Q := by
  cases r with
  | inl f =>
    have hh := h
    obtain ⟨t, g, f0⟩ := h
    have fin : ∀ I1, fY1 I I1 → gRD I1 J W L t f.1 f.2 → WP (d + 3) 45 21 [.ref 10, .long (tkW W L (tp W L t)), mDum] [] (mHh xL I1 J (mRf rc rx o)) Q := by
      intro I1 f1 g1
      simp only [w45_21, w45_22, c44f (d := d) (κ := 1) (y := 3) g1 f0 (by decide) (by decide), w45_23, ↓reduceIte, Option.toList_some, Option.toList_none, List.cons_append, List.nil_append, Int32.reduceAdd, Int32.reduceLT, Int32.reduceLE, Int32.reduceToNatClampNeg, w45_26, w45_27]
      exact hQ I1 _ f1 ⟨t, g1, f0⟩ (fun p q e _ => by cases e)
    simp only [w45_0, w45_1, c46 g, ↓reduceIte, Option.toList_some, Option.toList_none, List.cons_append, List.nil_append, Int32.reduceAdd, Int32.reduceLT, Int32.reduceLE, Int32.reduceToNatClampNeg, w45_4, w45_5, w45_6, w45_9, w45_10 (hb := ho), c27 ho hn, w45_13]
    cases c : isN N (tkW W L (tp W L t)) with
    | false => simp only [sB_f, ↓reduceIte]; exact fin I fY1_0 g
    | true =>
      simp only [sB_t, o01, ↓reduceIte, w45_16, w45_17, w45_18, c47 (d := d + 1) g, ↓reduceIte, Option.toList_some, Option.toList_none, List.cons_append, List.nil_append, Int32.reduceAdd, Int32.reduceLT, Int32.reduceLE, Int32.reduceToNatClampNeg]
      exact fin _ (gLt_f I 3 _) (gLt_r g 3 _)
  | inr p =>
    obtain ⟨t, w⟩ := p
    obtain ⟨g, hw⟩ := h
    change gRD I J W L t 0 0 at g
    change gYw I W L w at hw
    have fin : ∀ I1, fY1 I I1 → gRD I1 J W L t 0 0 → gYw I1 W L (yU (isN N (tkW W L (tp W L t))) 3 t w) → WP (d + 3) 45 21 [.ref 10, .long (tkW W L (tp W L t)), mDum] [] (mHh xL I1 J (mRf rc rx o)) Q := by
      intro I1 f1 g1 w1
      simp only [w45_21, w45_22, w45_23]
      refine c44g (d := d) (y := 3) g1 (κ := 1) (by decide) (by decide) (by decide) (g := gTw W L N) (w := w) w1 (fun k1 => ?_) (fun I2 f2 g2 => ?_)
      · rw [gTw, tkW_w (Or.inl k1)]
      · simp only [↓reduceIte, Option.toList_some, Option.toList_none, List.cons_append, List.nil_append, Int32.reduceAdd, Int32.reduceLT, Int32.reduceLE, Int32.reduceToNatClampNeg, w45_26, w45_27]
        refine hQ I2 _ (fY1_t f1 f2) g2 (fun p q e1 e2 => ?_)
        cases e1
        obtain ⟨p0, e0, e2⟩ := bd_r e2
        cases e0
        obtain ⟨t1, e3, -⟩ := bd_r e2
        exact tkW_w (Or.inl (pTt_r g.2.1 (by decide) e3).1)
    simp only [w45_0, w45_1, c46 g, ↓reduceIte, Option.toList_some, Option.toList_none, List.cons_append, List.nil_append, Int32.reduceAdd, Int32.reduceLT, Int32.reduceLE, Int32.reduceToNatClampNeg, w45_4, w45_5, w45_6, w45_9, w45_10 (hb := ho), c27 ho hn, w45_13]
    cases c : isN N (tkW W L (tp W L t)) with
    | false =>
      rw [c, yU_f] at fin
      simp only [sB_f, ↓reduceIte]; exact fin I fY1_0 g hw
    | true =>
      rw [c] at fin
      simp only [sB_t, o01, ↓reduceIte, w45_16, w45_17, w45_18, c47 (d := d + 1) g, ↓reduceIte, Option.toList_some, Option.toList_none, List.cons_append, List.nil_append, Int32.reduceAdd, Int32.reduceLT, Int32.reduceLE, Int32.reduceToNatClampNeg]
      exact fin _ (gLt_f I 3 _) (gLt_r g 3 _) (gLt_w (f := 3) hw (by decide))
theorem c50 (ho : mHo o) (hn : gNm I J o N) (h : gY I J W L r) (hQ : ∀ I' x, fY1 I I' → gY I' J W L (sSt W L 1 (gKw W L N) r) → (∀ p q, r = .inr p → sSt W L 1 (gKw W L N) r = .inr q → x = vWh (kn W L p.1) N) → Q (some (.int x)) (mHh xL I' J (mRf rc rx o))) : WP (d + 3) 50 0 [.ref 10, mDum] [] (mHh xL I J (mRf rc rx o)) Q := by
  have vm : ∀ x, (vWh x N = -1) ↔ (fIx x (psN N) 0).isNone = true := by
    intro x
    rw [vWh]
    cases e : fIx x (psN N) 0 with
    | none => exact ⟨fun _ => rfl, fun _ => rfl⟩
    | some j =>
      have hj := (fIx_lt _ _ _ e).2
      have g0 : ¬ nI j < 0 := nI_pos (by have := hn.1.2; omega)
      exact ⟨fun z => absurd (show nI j < 0 by rw [show nI j = -1 from z]; decide) g0, fun z => by cases z⟩
  cases r with
  | inl f =>
    obtain ⟨t, g, f0⟩ := h
    have fin : ∀ I1, fY1 I I1 → gRD I1 J W L t f.1 f.2 → WP (d + 3) 50 22 [.ref 10, .int (vWh (tkW W L (tp W L t)) N)] [] (mHh xL I1 J (mRf rc rx o)) Q := by
      intro I1 f1 g1
      simp only [w50_22, w50_23, c44f (d := d) (κ := 1) (y := 3) g1 f0 (by decide) (by decide), w50_24, ↓reduceIte, Option.toList_some, Option.toList_none, List.cons_append, List.nil_append, Int32.reduceAdd, Int32.reduceLT, Int32.reduceLE, Int32.reduceToNatClampNeg, w50_27, w50_28]
      exact hQ I1 _ f1 ⟨t, g1, f0⟩ (fun p q e _ => by cases e)
    simp only [w50_0, w50_1, w50_4, w50_5, c46 g, ↓reduceIte, Option.toList_some, Option.toList_none, List.cons_append, List.nil_append, Int32.reduceAdd, Int32.reduceLT, Int32.reduceLE, Int32.reduceToNatClampNeg, w50_8 (hb := ho), c28 ho hn, w50_11, w50_12, w50_13, w50_14]
    by_cases c : vWh (tkW W L (tp W L t)) N = -1
    · simp only [if_pos c, w50_17, w50_18, w50_19, c47 (d := d + 1) g, ↓reduceIte, Option.toList_some, Option.toList_none, List.cons_append, List.nil_append, Int32.reduceAdd, Int32.reduceLT, Int32.reduceLE, Int32.reduceToNatClampNeg]
      exact fin _ (gLt_f I 4 _) (gLt_r g 4 _)
    · simp only [if_neg c]; exact fin I fY1_0 g
  | inr p =>
    obtain ⟨t, w⟩ := p
    obtain ⟨g, hw⟩ := h
    change gRD I J W L t 0 0 at g
    change gYw I W L w at hw
    have fin : ∀ I1, fY1 I I1 → gRD I1 J W L t 0 0 → gYw I1 W L (yU (fIx (tkW W L (tp W L t)) (psN N) 0).isNone 4 t w) → WP (d + 3) 50 22 [.ref 10, .int (vWh (tkW W L (tp W L t)) N)] [] (mHh xL I1 J (mRf rc rx o)) Q := by
      intro I1 f1 g1 w1
      simp only [w50_22, w50_23, w50_24]
      refine c44g (d := d) (y := 3) g1 (κ := 1) (by decide) (by decide) (by decide) (g := gKw W L N) (w := w) w1 (fun k1 => ?_) (fun I2 f2 g2 => ?_)
      · rw [gKw, tkW_w (Or.inl k1)]
      · simp only [↓reduceIte, Option.toList_some, Option.toList_none, List.cons_append, List.nil_append, Int32.reduceAdd, Int32.reduceLT, Int32.reduceLE, Int32.reduceToNatClampNeg, w50_27, w50_28]
        refine hQ I2 _ (fY1_t f1 f2) g2 (fun p q e1 e2 => ?_)
        cases e1
        obtain ⟨p0, e0, e2⟩ := bd_r e2
        cases e0
        obtain ⟨t1, e3, -⟩ := bd_r e2
        rw [tkW_w (Or.inl (pTt_r g.2.1 (by decide) e3).1)]
    simp only [w50_0, w50_1, w50_4, w50_5, c46 g, ↓reduceIte, Option.toList_some, Option.toList_none, List.cons_append, List.nil_append, Int32.reduceAdd, Int32.reduceLT, Int32.reduceLE, Int32.reduceToNatClampNeg, w50_8 (hb := ho), c28 ho hn, w50_11, w50_12, w50_13, w50_14]
    by_cases c : vWh (tkW W L (tp W L t)) N = -1
    · rw [(vm _).1 c] at fin
      simp only [if_pos c, w50_17, w50_18, w50_19, c47 (d := d + 1) g, ↓reduceIte, Option.toList_some, Option.toList_none, List.cons_append, List.nil_append, Int32.reduceAdd, Int32.reduceLT, Int32.reduceLE, Int32.reduceToNatClampNeg]
      exact fin _ (gLt_f I 4 _) (gLt_r g 4 _) (gLt_w (f := 4) hw (by decide))
    · have c2 : (fIx (tkW W L (tp W L t)) (psN N) 0).isNone = false := by
        cases z : (fIx (tkW W L (tp W L t)) (psN N) 0).isNone with
        | false => rfl
        | true => exact absurd ((vm _).2 z) c
      rw [c2, yU_f] at fin
      simp only [if_neg c]; exact fin I fY1_0 g hw
theorem c48 {rr : Nat} (h : gY I J W L r) {m : Nat} (hm : m < 2 ^ 30) {y : Int32} (hy : y = nI m) (hQ : ∀ I' x, fY1 I I' → gY I' J W L (sSt W L 2 (gIw W L m) r) → (∀ p q, r = .inr p → sSt W L 2 (gIw W L m) r = .inr q → x = nI (kv W L p.1)) → Q (some (.int x)) (mHh xL I' J (mRf rc rx rr))) : WP (d + 3) 48 0 [.ref 10, .int y, mDum] [] (mHh xL I J (mRf rc rx rr)) Q := by
  subst hy
  cases r with
  | inl f =>
    obtain ⟨t, g, f0⟩ := h
    have fin : ∀ I1, fY1 I I1 → gRD I1 J W L t f.1 f.2 → WP (d + 3) 48 16 [.ref 10, .int (nI m), .int (tkW W L (tp W L t)).toInt32] [] (mHh xL I1 J (mRf rc rx rr)) Q := by
      intro I1 f1 g1
      simp only [w48_16, w48_17, c44f (d := d) (κ := 2) (y := 4) g1 f0 (by decide) (by decide), w48_18, ↓reduceIte, Option.toList_some, Option.toList_none, List.cons_append, List.nil_append, Int32.reduceAdd, Int32.reduceLT, Int32.reduceLE, Int32.reduceToNatClampNeg, w48_21, w48_22]
      exact hQ I1 _ f1 ⟨t, g1, f0⟩ (fun p q e _ => by cases e)
    simp only [w48_0, w48_1, c46 g, ↓reduceIte, Option.toList_some, Option.toList_none, List.cons_append, List.nil_append, Int32.reduceAdd, Int32.reduceLT, Int32.reduceLE, Int32.reduceToNatClampNeg, w48_4, w48_5, w48_6, w48_7, w48_8]
    by_cases c : (tkW W L (tp W L t)).toInt32 ≤ nI m
    · simp only [if_pos c]; exact fin I fY1_0 g
    · simp only [if_neg c, w48_11, w48_12, w48_13, c47 (d := d + 1) g, ↓reduceIte, Option.toList_some, Option.toList_none, List.cons_append, List.nil_append, Int32.reduceAdd, Int32.reduceLT, Int32.reduceLE, Int32.reduceToNatClampNeg]
      exact fin _ (gLt_f I 5 _) (gLt_r g 5 _)
  | inr p =>
    obtain ⟨t, w⟩ := p
    obtain ⟨g, hw⟩ := h
    change gRD I J W L t 0 0 at g
    change gYw I W L w at hw
    have e1 : kk W L t = 2 → (tkW W L (tp W L t)).toInt32 = nI (kv W L t) := fun k2 => by rw [tkW_2 k2, lN_i]
    have e2 : kk W L t = 2 → decide (¬ (tkW W L (tp W L t)).toInt32 ≤ nI m) = decide (m < kv W L t) := by
      intro k2
      rw [e1 k2]
      have := kv_le k2
      by_cases z : m < kv W L t
      · rw [decide_eq_true z, decide_eq_true (nI_ge z (by omega))]
      · rw [decide_eq_false z, decide_eq_false (fun q => q (nI_le (by omega) (by omega)))]
    have fin : ∀ I1, fY1 I I1 → gRD I1 J W L t 0 0 → gYw I1 W L (yU (decide (¬ (tkW W L (tp W L t)).toInt32 ≤ nI m)) 5 t w) → WP (d + 3) 48 16 [.ref 10, .int (nI m), .int (tkW W L (tp W L t)).toInt32] [] (mHh xL I1 J (mRf rc rx rr)) Q := by
      intro I1 f1 g1 w1
      simp only [w48_16, w48_17, w48_18]
      refine c44g (d := d) (y := 4) g1 (κ := 2) (by decide) (by decide) (by decide) (g := gIw W L m) (w := w) w1 (fun k1 => ?_) (fun I2 f2 g2 => ?_)
      · rw [gIw, e2 k1]
      · simp only [↓reduceIte, Option.toList_some, Option.toList_none, List.cons_append, List.nil_append, Int32.reduceAdd, Int32.reduceLT, Int32.reduceLE, Int32.reduceToNatClampNeg, w48_21, w48_22]
        refine hQ I2 _ (fY1_t f1 f2) g2 (fun p q e1' e2' => ?_)
        cases e1'
        obtain ⟨p0, e0, e2'⟩ := bd_r e2'
        cases e0
        obtain ⟨t1, e3, -⟩ := bd_r e2'
        exact e1 (pTt_r g.2.1 (by decide) e3).1
    simp only [w48_0, w48_1, c46 g, ↓reduceIte, Option.toList_some, Option.toList_none, List.cons_append, List.nil_append, Int32.reduceAdd, Int32.reduceLT, Int32.reduceLE, Int32.reduceToNatClampNeg, w48_4, w48_5, w48_6, w48_7, w48_8]
    by_cases c : (tkW W L (tp W L t)).toInt32 ≤ nI m
    · rw [decide_eq_false (fun q => q c), yU_f] at fin
      simp only [if_pos c]; exact fin I fY1_0 g hw
    · rw [decide_eq_true c] at fin
      simp only [if_neg c, w48_11, w48_12, w48_13, c47 (d := d + 1) g, ↓reduceIte, Option.toList_some, Option.toList_none, List.cons_append, List.nil_append, Int32.reduceAdd, Int32.reduceLT, Int32.reduceLE, Int32.reduceToNatClampNeg]
      exact fin _ (gLt_f I 5 _) (gLt_r g 5 _) (gLt_w (f := 5) hw (by decide))
end GST
