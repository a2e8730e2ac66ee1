/-! The model's reader: names, persons, ints. -/
def mIx (x : Int64) : pNs → Option Nat
  | [] => none
  | p :: r => if p.1 = x ∧ p.2 < 10 then some p.2 else mIx x r
theorem mIx_f {x : Int64} : ∀ (N : pNs) (k : Nat), pnN N = List.range' k (psN N).length → mIx x N = fIx x (psN N) k := by
  intro N
  induction N with
  | nil => intro k _; rfl
  | cons p r ih =>
    intro k h
    rw [mIx]
    by_cases c : p.2 < 10
    · have e1 : psN (p :: r) = p.1 :: psN r := by rw [psN, List.filter_cons_of_pos (by simpa using c)]; rfl
      have e2 : pnN (p :: r) = p.2 :: pnN r := by rw [pnN, List.filter_cons_of_pos (by simpa using c)]; rfl
      rw [e1, e2, List.length_cons, List.range'_succ] at h
      injection h with h1 h2
      rw [e1, fIx]
      by_cases e : p.1 = x
      · rw [if_pos ⟨e, c⟩, if_pos e, h1]
      · rw [if_neg (fun z => e z.1), if_neg e]; exact ih (k + 1) h2
    · have e1 : psN (p :: r) = psN r := by rw [psN, List.filter_cons_of_neg (by simpa using c)]; rfl
      have e2 : pnN (p :: r) = pnN r := by rw [pnN, List.filter_cons_of_neg (by simpa using c)]; rfl
      rw [if_neg (fun z => c z.2), e1]
      rw [e1, e2] at h
      exact ih k h
section MSU
variable {d : Nat} {xL : Nat} {I : Nat → Nat → Int32} {J : Nat → Nat → Int64} {rc rx rr : Nat} {Q : Option Value → mHp → Prop} {L : Nat} {W : Nat → Int32} {t f i : Nat} {N : pNs} {r : yX} {w : yW}
theorem c154x (h : yMx I J W L r) {κ : Nat} (hκ : κ < 40) (h03 : κ ≠ 0 ∧ κ ≠ 3) {y : Int32} (hy : y = nI κ) (hQ : ∀ I', fYm I I' → yMx I' J W L (sSt W L κ gNo r) → Q none (mHh xL I' J (mRf rc rx rr))) : WP (d + 2) 154 0 [.ref 180, .int y] [] (mHh xL I J (mRf rc rx rr)) Q := by
  cases r with
  | inl f =>
    have hh := h
    obtain ⟨t, g, f0⟩ := h
    rw [c154f g f0]
    exact hQ I fYm_0 hh
  | inr p =>
    obtain ⟨t, w⟩ := p
    obtain ⟨g, hw⟩ := h
    change mRD I J W L t 0 0 at g
    change yMw I W L t w at hw
    refine c154t g hκ h03 hy (fun I' r1 q1 q2 => hQ I' (fM1_y r1) ?_)
    show yMx I' J W L (bd (pTt W L κ t) fun t1 => .inr (t1, w))
    cases c : pTt W L κ t with
    | inl f => exact ⟨t, (q1 f c).1, (q1 f c).2⟩
    | inr t1 =>
      refine ⟨q2 t1 c, ?_⟩
      have := yMw_up (t' := t1) hw (by have := (pTt_r (g.2.2.1 rfl) h03 c).2.1; omega)
      show yMw I' W L t1 w
      rw [yMw, r1.2 15 (by decide) (by decide) (by decide), r1.2 16 (by decide) (by decide) (by decide)]; exact this
theorem c152x (h : yMx I J W L (.inr (t, w))) {κ : Nat} (hk : kk W L t = κ) (h03 : κ ≠ 0 ∧ κ ≠ 3) (hQ : ∀ I', fYm I I' → yMx I' J W L (sSt W L κ gNo (.inr (t, w))) → Q none (mHh xL I' J (mRf rc rx rr))) : WP (d + 1) 152 0 [.ref 180] [] (mHh xL I J (mRf rc rx rr)) Q := by
  obtain ⟨g, hw⟩ := h
  change mRD I J W L t 0 0 at g
  change yMw I W L t w at hw
  refine c152n g (by rw [hk]; exact h03) (fun I' r1 q1 q2 => hQ I' (fM1_y r1) ?_)
  show yMx I' J W L (bd (pTt W L κ t) fun t1 => .inr (t1, w))
  rw [pTt, if_pos hk]
  cases c : nx t with
  | inl f => exact ⟨t, q1 f c, by rw [(nx_l c).2]; exact (by decide : (2 : Nat) ≠ 0)⟩
  | inr t1 =>
    refine ⟨q2 t1 c, ?_⟩
    have := yMw_up (t' := t1) hw (by have := (nx_r (g.2.2.1 rfl) (by rw [hk]; exact h03) c).1; omega)
    show yMw I' W L t1 w
    rw [yMw, r1.2 15 (by decide) (by decide) (by decide), r1.2 16 (by decide) (by decide) (by decide)]; exact this
theorem c153 (h : yMx I J W L r) (hn : yNm I J N) (hQ : ∀ I' x, fYm I I' → yMx I' J W L (sSt W L 1 (gTw W L N) r) → (∀ p q, r = .inr p → sSt W L 1 (gTw W L N) r = .inr q → x = nI p.1) → Q (some (.int x)) (mHh xL I' J (mRf rc rx rr))) : WP (d + 3) 153 0 [.ref 180, mDum, mDum] [] (mHh xL I J (mRf rc rx rr)) Q := by
  have ex : ∀ (I1 : Nat → Nat → Int32) (x : Int32), I1 180 20 = nI N.length → ¬ I1 180 13 = 0 → WP (d + 3) 153 12 [.ref 180, .int x, .int 0] [] (mHh xL I1 J (mRf rc rx rr)) Q = Q (some (.int x)) (mHh xL I1 J (mRf rc rx rr)) := by
    intro I1 x e20 e13
    rw [w153_12]
    by_cases c : nI N.length ≤ 0
    · simp only [w153_13, w153_14, e20, w153_17, if_pos c, w153_55, w153_56]
    · simp only [w153_13, w153_14, e20, w153_17, if_neg c, w153_20, w153_21, w153_24, if_neg e13, w153_55, w153_56]
  cases r with
  | inl f =>
    obtain ⟨t, g, f0⟩ := h
    have e11 := g.2.2.2.1
    have e13 : ¬ I 180 13 = 0 := by rw [g.2.2.2.2.1, in_eq 0 (by decide) (by have := g.2.2.2.2.2.1; omega)]; exact f0
    simp only [w153_0, w153_1, e11, w153_4, w153_5, w153_6, w153_7, c154f (d := d) g f0, ↓reduceIte, Option.toList_some, Option.toList_none, List.cons_append, List.nil_append, Int32.reduceAdd, Int32.reduceLT, Int32.reduceLE, Int32.reduceToNatClampNeg, w153_10, w153_11]
    rw [ex I _ hn.1 e13]
    exact hQ I _ fYm_0 ⟨t, g, f0⟩ (fun p q e _ => by cases e)
  | inr p =>
    obtain ⟨t, w⟩ := p
    obtain ⟨g, hw⟩ := h
    change mRD I J W L t 0 0 at g
    change yMw I W L t w at hw
    have e11 := g.2.2.2.1
    have kd := mRD_k g
    have ht := g.2.1
    simp only [w153_0, w153_1, e11, w153_4, w153_5, w153_6, w153_7]
    refine c154t (d := d) (y := 1) g (κ := 1) (by decide) (by decide) rfl (fun I1 r1 q1 q2 => ?_)
    simp only [↓reduceIte, Option.toList_some, Option.toList_none, List.cons_append, List.nil_append, Int32.reduceAdd, Int32.reduceLT, Int32.reduceLE, Int32.reduceToNatClampNeg, w153_10, w153_11]
    have e20 : I1 180 20 = nI N.length := by rw [r1.2 20 (by decide) (by decide) (by decide)]; exact hn.1
    cases c : pTt W L 1 t with
    | inl f =>
      obtain ⟨u1, u2⟩ := q1 f c
      have e13 : ¬ I1 180 13 = 0 := by rw [u1.2.2.2.2.1, in_eq 0 (by decide) (by have := u1.2.2.2.2.2.1; omega)]; exact u2
      rw [ex I1 _ e20 e13]
      refine hQ I1 _ (fM1_y r1) ?_ (fun p q _ e => ?_)
      · show yMx I1 J W L (bd (pTt W L 1 t) fun t1 => .inr (t1, gTw W L N t w))
        rw [c]; exact ⟨t, u1, u2⟩
      · change (bd (pTt W L 1 t) fun t1 => (.inr (t1, gTw W L N t w) : yX)) = .inr q at e
        rw [c] at e; cases e
    | inr t1 =>
      have g1 := q2 t1 c
      obtain ⟨k1, et, l1⟩ := pTt_r (g.2.2.1 rfl) (by decide) c
      have ex6 : J 186 t = kn W L t := kd.2.2.2 (Or.inl k1)
      have e184 : I1 184 t = nI (tp W L t) := by rw [r1.1 184 (by decide)]; exact kd.2.1
      have hw1 : yMw I1 W L t w := by rw [yMw, r1.2 15 (by decide) (by decide) (by decide), r1.2 16 (by decide) (by decide) (by decide)]; exact hw
      have hbt : tp W L t < 2 ^ 31 := by have := tp_le W L t; have := hw.1; omega
      have m3 : mIn (nI t) 403 = true := mIn_nI (by omega) (by omega)
      have m4 : (nI t).toNatClampNeg = t := nI_clamp (by omega)
      -- the heap, with the fault set down or not
      let IW : Bool → Nat → Nat → Int32 := fun b => if b then yWr I1 (nI 3) (nI (tp W L t)) else I1
      have IW13 : ∀ b, IW b 180 13 = 0 := by
        intro b
        have z : I1 180 13 = 0 := g1.2.2.2.2.1
        cases b with
        | false => exact z
        | true => exact (yWr_k I1 (nI 3) _ 13 (by decide) (by decide)).trans z
      have IW20 : ∀ b, IW b 180 20 = nI N.length := by
        intro b
        cases b with
        | false => exact e20
        | true => exact (yWr_k I1 (nI 3) _ 20 (by decide) (by decide)).trans e20
      have IWw : ∀ b, WP (d + 2) 155 0 [.ref 180, .int 3, .int (nI t), mDum] [] (mHh xL (IW b) J (mRf rc rx rr)) = fun (Q' : Option Value → mHp → Prop) => Q' none (mHh xL (IW true) J (mRf rc rx rr)) := by
        intro b
        funext Q'
        have lt : ∀ j, j < t → tp W L j < tp W L t := fun j hj => tp_ij (g.2.2.1 rfl) (Nat.le_refl _) hj
        cases b with
        | false =>
          exact c155 (w := w) (show I1 180 13 = 0 from IW13 false) (by omega) e184 hbt hw1.2.1 hw1.2.2.1 (k := 3) (by decide) (fun z => ⟨(hw1.2.2.2 z).1, Or.inl (lt _ (hw1.2.2.2 z).2)⟩) rfl
        | true =>
          have hw2 := yWr_w (t' := t + 1) (i := t) (k := 3) hw1 (by decide) (by omega) (by omega)
          have c0 := c155 (d := d + 2) (xL := xL) (J := J) (rc := rc) (rx := rx) (rr := rr) (Q := Q') (I := IW true) (w := yU true 3 t w) (IW13 true) (show t < 403 by omega) (((yWr_f I1 (nI 3) (nI (tp W L t))).1 184 (by decide) ▸ e184 : yWr I1 (nI 3) (nI (tp W L t)) 184 t = nI (tp W L t))) hbt hw2.2.1 hw2.2.2.1 (k := 3) (by decide) (fun z => ⟨(hw2.2.2.2 z).1, ?_⟩) rfl
          · refine Eq.trans c0 ?_
            have e : ¬ IW true 180 15 = 0 := by
              show ¬ yWr I1 (nI 3) (nI (tp W L t)) 180 15 = 0
              rw [yWr]
              by_cases z : I1 180 15 = 0
              · rw [if_pos z, mU_k (by decide), mU_s]; decide
              · rw [if_neg z]; exact z
            rw [yWr, if_neg e]
          · rw [yU]
            by_cases z1 : w.1 = 0
            · rw [if_pos ⟨z1, rfl⟩]; exact Or.inr ⟨rfl, Nat.le_refl _⟩
            · rw [if_neg (fun z => z1 z.1)]; exact Or.inl (lt _ (hw1.2.2.2 z1).2)
      have key : ∀ (l : pNs) (k : Nat) (b : Bool), (∀ p q, l[p]? = some q → J 188 (k + p) = q.1) → k + l.length = N.length → WP (d + 3) 153 12 [.ref 180, .int (nI t), .int (nI k)] [] (mHh xL (IW b) J (mRf rc rx rr)) Q = Q (some (.int (nI t))) (mHh xL (IW (b || decide (kn W L t ∈ l.map (fun p => p.1)))) J (mRf rc rx rr)) := by
        intro l
        induction l with
        | nil =>
          intro k b _ hk
          rw [List.length_nil, Nat.add_zero] at hk
          have gg : nI N.length ≤ nI k := nI_le (by omega) (by have := hn.2.1; omega)
          rw [w153_12]
          simp only [w153_13, w153_14, IW20, w153_17, gg, ↓reduceIte, w153_55, w153_56, List.map_nil, List.not_mem_nil, decide_false, Bool.or_false]
        | cons y l ih =>
          intro k b hp hk
          rw [List.length_cons] at hk
          have h11 := hn.2.1
          have gg : ¬ nI N.length ≤ nI k := nI_ge (by omega) (by omega)
          have a1 : mIn (nI k) 11 = true := mIn_nI (by omega) (by omega)
          have a2 : (nI k).toNatClampNeg = k := nI_clamp (by omega)
          have ey : J 188 k = y.1 := hp 0 y rfl
          have nxt := fun b' => ih (k + 1) b' (fun p z hz => by rw [show k + 1 + p = k + (p + 1) by omega]; exact hp (p + 1) z hz) (by omega)
          rw [w153_12]
          simp only [w153_13, w153_14, IW20, w153_17, gg, ↓reduceIte, w153_20, w153_21, IW13, w153_24, w153_27, w153_28, w153_31, w153_32 (hi := a1), a2, ey, w153_33, w153_34, w153_37, w153_38 (hi := m3), m4, ex6, w153_39, w153_40, lg_cmp_eq]
          by_cases e : y.1 = kn W L t
          · simp only [e, ↓reduceIte, w153_43, w153_44, w153_45, w153_46, IWw, ↓reduceIte, Option.toList_some, Option.toList_none, List.cons_append, List.nil_append, Int32.reduceAdd, Int32.reduceLT, Int32.reduceLE, Int32.reduceToNatClampNeg, w153_49, nI_1, w153_52]
            rw [nxt true]
            simp only [Bool.true_or, List.map_cons, e, List.mem_cons_self, decide_true, Bool.or_true]
          · have e2 : ¬ kn W L t = y.1 := fun z => e z.symm
            simp only [e, ↓reduceIte, w153_49, nI_1, w153_52]
            rw [nxt b]
            simp only [List.map_cons, List.mem_cons, e2, false_or]
      have fin := key N 0 false (fun p q hq => by rw [Nat.zero_add]; exact (hn.2.2 p q hq).1) (Nat.zero_add _)
      rw [nI_0, Bool.false_or] at fin
      change WP (d + 3) 153 12 [.ref 180, .int (nI t), .int 0] [] (mHh xL I1 J (mRf rc rx rr)) Q = Q (some (.int (nI t))) (mHh xL (IW (isN N (kn W L t))) J (mRf rc rx rr)) at fin
      rw [fin]
      refine hQ _ _ (fYm_t (fM1_y r1) ?_) ?_ (fun p q e _ => by cases e; rfl)
      · show fYm I1 (if isN N (kn W L t) then yWr I1 (nI 3) (nI (tp W L t)) else I1)
        split
        · exact yWr_f _ _ _
        · exact fYm_0
      · show yMx _ J W L (bd (pTt W L 1 t) fun t1 => .inr (t1, yU (isN N (kn W L t)) 3 t w))
        rw [c]
        show yMx (if isN N (kn W L t) then yWr I1 (nI 3) (nI (tp W L t)) else I1) J W L (.inr (t1, yU (isN N (kn W L t)) 3 t w))
        cases isN N (kn W L t) with
        | false =>
          rw [yU_f]
          exact ⟨g1, yMw_up hw1 (by omega)⟩
        | true => exact ⟨yWr_r g1 _ _, yWr_w hw1 (by decide) (by omega) (by omega)⟩
end MSU
