/-! How the model reckons a law's code. -/
theorem mCs_app {V : Nat → Int32} {ex : List Int32} : ∀ {c : mCod} {st : List Int32} {m : Nat}, mCw c st.length = some m → mCs V c (st ++ ex) = (mCs V c st).map (· ++ ex) := by
  intro c
  induction c with
  | nil => intro st m _; rfl
  | cons p c ih =>
    obtain ⟨k, v⟩ := p
    intro st m hw
    rw [mCw] at hw
    by_cases k2 : k < 2
    · rw [if_pos k2] at hw
      split at hw
      · by_cases k0 : k = 0
        · subst k0
          rw [mCs_0, mCs_0, ← List.cons_append]
          exact ih (st := v :: st) hw
        · have k1 : k = 1 := by omega
          subst k1
          rw [mCs_1, mCs_1, ← List.cons_append]
          exact ih (st := V v.toNatClampNeg :: st) hw
      · cases hw
    · rw [if_neg k2] at hw
      split at hw
      · rename_i hc
        obtain ⟨c1, c2, c3⟩ := hc
        obtain ⟨b, a, r, rfl⟩ : ∃ b a r, st = b :: a :: r := by
          cases st with
          | nil => simp at c1
          | cons b st => cases st with
            | nil => simp at c1
            | cons a r => exact ⟨b, a, r, rfl⟩
        simp only [List.length_cons] at hw
        rw [show r.length + 1 + 1 - 1 = r.length + 1 by omega] at hw
        rw [List.cons_append, List.cons_append]
        by_cases h5 : k = 5 ∧ b = 0
        · obtain ⟨rfl, h0⟩ := h5
          rw [mCs_n V h0, mCs_n V h0]; rfl
        · rw [mCs_o V (by omega) (by omega) h5, mCs_o V (by omega) (by omega) h5, ← List.cons_append]
          exact ih (st := mOp k a b :: r) hw
      · cases hw
def mMp (p : Nat × Int32) : Int32 × Int32 := (nI p.1, p.2)
section MLW
variable {d : Nat} {xL : Nat} {I : Nat → Nat → Int32} {J : Nat → Nat → Int64} {rc rx rr : Nat} {Q : Option Value → mHp → Prop}
theorem m_load {q to : Nat} (hq : q < to) (hs : to ≤ 840) (f t : Int32) (v5 v6 v7 : Value) :
    WP d 178 5 [.ref 180, .int f, .int (nI to), .int t, .int (nI q), v5, v6, v7] [] (mHh xL I J (mRf rc rx rr)) Q = WP d 178 20 [.ref 180, .int f, .int (nI to), .int t, .int (nI q), .int (I 207 q), v6, v7] [] (mHh xL I J (mRf rc rx rr)) Q := by
  have h1 : ¬ nI to ≤ nI q := nI_ge hq (by omega)
  have h2 : mIn (nI q) 840 = true := mIn_nI (by omega) (by omega)
  have h3 : (nI q).toNatClampNeg = q := nI_clamp (by omega)
  simp only [w178_5, w178_7, w178_8, w178_11, w178_12, w178_15, w178_17, w178_18, h1, h2, h3, ↓reduceIte, Option.toList_some, Option.toList_none, List.cons_append, List.nil_append, Int32.reduceAdd, Int32.reduceLT, Int32.reduceLE, Int32.reduceToNatClampNeg]
theorem m_int {k q : Nat} (hk : k < 400) (hq : q < 840) (f to : Int32) (v6 v7 : Value) :
    WP d 178 20 [.ref 180, .int f, .int to, .int (nI k), .int (nI q), .int (nI 0), v6, v7] [] (mHh xL I J (mRf rc rx rr)) Q = WP d 178 5 [.ref 180, .int f, .int to, .int (nI (k + 1)), .int (nI (q + 1)), .int (nI 0), v6, v7] [] (mHh xL (mU I 211 k (I 208 q)) J (mRf rc rx rr)) Q := by
  have h2 : mIn (nI q) 840 = true := mIn_nI (by omega) (by omega)
  have h3 : (nI q).toNatClampNeg = q := nI_clamp (by omega)
  have h4 : mIn (nI k) 400 = true := mIn_nI (by omega) (by omega)
  have h5 : (nI k).toNatClampNeg = k := nI_clamp (by omega)
  have k3 : lyK 211 = 1 := by decide +kernel
  have k4 : lyN 211 = 400 := by decide +kernel
  rw [nI_0]
  simp only [w178_20, w178_22, w178_23, w178_26, w178_27, w178_30, w178_31, w178_33, w178_36, w178_37, w178_40, w178_42, w178_43, w178_58, w178_59, w178_62, w178_159, w178_162, h2, h3, h4, h5, k3, k4, nI_1, ↓reduceIte, Option.toList_some, Option.toList_none, List.cons_append, List.nil_append, Int32.reduceAdd, Int32.reduceLT, Int32.reduceLE, Int32.reduceToNatClampNeg]
theorem m_var {k q i : Nat} (hk : k < 400) (hq : q < 840) (hi : i < 9) (e : I 208 q = nI i) (f to : Int32) (v6 v7 : Value) :
    WP d 178 20 [.ref 180, .int f, .int to, .int (nI k), .int (nI q), .int (nI 1), v6, v7] [] (mHh xL I J (mRf rc rx rr)) Q = WP d 178 5 [.ref 180, .int f, .int to, .int (nI (k + 1)), .int (nI (q + 1)), .int (nI 1), v6, v7] [] (mHh xL (mU I 211 k (I 210 i)) J (mRf rc rx rr)) Q := by
  have h2 : mIn (nI q) 840 = true := mIn_nI (by omega) (by omega)
  have h3 : (nI q).toNatClampNeg = q := nI_clamp (by omega)
  have h4 : mIn (nI k) 400 = true := mIn_nI (by omega) (by omega)
  have h5 : (nI k).toNatClampNeg = k := nI_clamp (by omega)
  have h6 : mIn (nI i) 9 = true := mIn_nI (by omega) (by omega)
  have h7 : (nI i).toNatClampNeg = i := nI_clamp (by omega)
  have k3 : lyK 211 = 1 := by decide +kernel
  have k4 : lyN 211 = 400 := by decide +kernel
  have e1 : nI 1 = 1 := rfl
  have e2 : ((1 : Int32) = 0) = False := by simp
  rw [e1]
  simp only [w178_20, w178_22, w178_23, w178_26, w178_27, w178_30, w178_31, w178_33, w178_46, w178_47, w178_50, w178_51, w178_54, w178_56, w178_57, w178_58, w178_59, w178_62, w178_159, w178_162, e, e2, h2, h3, h4, h5, h6, h7, k3, k4, nI_1, ↓reduceIte, Option.toList_some, Option.toList_none, List.cons_append, List.nil_append, Int32.reduceAdd, Int32.reduceLT, Int32.reduceLE, Int32.reduceToNatClampNeg]
theorem m_bin {k q : Nat} (hk : k + 1 < 400) (f to : Int32) (v6 v7 : Value) (s : Nat) (ho : s = 2 ∨ s = 3 ∨ s = 4) :
    WP d 178 20 [.ref 180, .int f, .int to, .int (nI (k + 2)), .int (nI q), .int (nI s), v6, v7] [] (mHh xL I J (mRf rc rx rr)) Q = WP d 178 5 [.ref 180, .int f, .int to, .int (nI (k + 1)), .int (nI (q + 1)), .int (nI s), .int (I 211 k), .int (I 211 (k + 1))] [] (mHh xL (mU I 211 k (mOp s (I 211 k) (I 211 (k + 1)))) J (mRf rc rx rr)) Q := by
  have h2 : mIn (nI k) 400 = true := mIn_nI (by omega) (by omega)
  have h3 : (nI k).toNatClampNeg = k := nI_clamp (by omega)
  have h4 : mIn (nI (k + 1)) 400 = true := mIn_nI (by omega) (by omega)
  have h5 : (nI (k + 1)).toNatClampNeg = k + 1 := nI_clamp (by omega)
  have k3 : lyK 211 = 1 := by decide +kernel
  have k4 : lyN 211 = 400 := by decide +kernel
  have p1 : nI (k + 2) + (-1) = nI (k + 1) := pk_m1 (k + 1)
  have e2 : nI 2 = 2 := rfl
  have e3 : nI 3 = 3 := rfl
  have e4 : nI 4 = 4 := rfl
  rcases ho with rfl | rfl | rfl
  · simp (config := { decide := true }) only [w178_20, w178_22, w178_23, w178_65, w178_68, w178_69, w178_72, w178_73, w178_74, w178_75, w178_76, w178_78, w178_79, w178_82, w178_83, w178_84, w178_86, w178_88, w178_89, w178_104, w178_105, w178_108, w178_109, w178_110, w178_111, w178_113, w178_114, w178_117, w178_119, w178_121, w178_122, w178_158, w178_159, w178_162, e2, p1, nI_pred, h2, h3, h4, h5, k3, k4, nI_1, mOp, ↓reduceIte, Option.toList_some, Option.toList_none, List.cons_append, List.nil_append, Int32.reduceAdd, Int32.reduceLT, Int32.reduceLE, Int32.reduceToNatClampNeg]
  · simp (config := { decide := true }) only [w178_20, w178_22, w178_23, w178_65, w178_68, w178_69, w178_72, w178_73, w178_74, w178_75, w178_76, w178_78, w178_79, w178_82, w178_83, w178_84, w178_86, w178_88, w178_89, w178_104, w178_105, w178_108, w178_109, w178_110, w178_111, w178_113, w178_114, w178_125, w178_127, w178_128, w178_131, w178_133, w178_135, w178_136, w178_158, w178_159, w178_162, e3, p1, nI_pred, h2, h3, h4, h5, k3, k4, nI_1, mOp, ↓reduceIte, Option.toList_some, Option.toList_none, List.cons_append, List.nil_append, Int32.reduceAdd, Int32.reduceLT, Int32.reduceLE, Int32.reduceToNatClampNeg]
  · simp (config := { decide := true }) only [w178_20, w178_22, w178_23, w178_65, w178_68, w178_69, w178_72, w178_73, w178_74, w178_75, w178_76, w178_78, w178_79, w178_82, w178_83, w178_84, w178_86, w178_88, w178_89, w178_104, w178_105, w178_108, w178_109, w178_110, w178_111, w178_113, w178_114, w178_125, w178_127, w178_128, w178_139, w178_141, w178_142, w178_145, w178_147, w178_149, w178_150, w178_158, w178_159, w178_162, e4, p1, nI_pred, h2, h3, h4, h5, k3, k4, nI_1, mOp, ↓reduceIte, Option.toList_some, Option.toList_none, List.cons_append, List.nil_append, Int32.reduceAdd, Int32.reduceLT, Int32.reduceLE, Int32.reduceToNatClampNeg]
theorem m_div {k q : Nat} (hk : k + 1 < 400) (f to : Int32) (v6 v7 : Value) :
    WP d 178 20 [.ref 180, .int f, .int to, .int (nI (k + 2)), .int (nI q), .int (nI 5), v6, v7] [] (mHh xL I J (mRf rc rx rr)) Q = if I 211 (k + 1) = 0 then Q (some (.int 0)) (mHh xL (mU I 180 48 1) J (mRf rc rx rr)) else WP d 178 5 [.ref 180, .int f, .int to, .int (nI (k + 1)), .int (nI (q + 1)), .int (nI 5), .int (I 211 k), .int (I 211 (k + 1))] [] (mHh xL (mU I 211 k (I 211 k / I 211 (k + 1))) J (mRf rc rx rr)) Q := by
  have h2 : mIn (nI k) 400 = true := mIn_nI (by omega) (by omega)
  have h3 : (nI k).toNatClampNeg = k := nI_clamp (by omega)
  have h4 : mIn (nI (k + 1)) 400 = true := mIn_nI (by omega) (by omega)
  have h5 : (nI (k + 1)).toNatClampNeg = k + 1 := nI_clamp (by omega)
  have k3 : lyK 211 = 1 := by decide +kernel
  have k4 : lyN 211 = 400 := by decide +kernel
  have p1 : nI (k + 2) + (-1) = nI (k + 1) := pk_m1 (k + 1)
  have e5 : nI 5 = 5 := rfl
  rw [e5]
  simp (config := { decide := true }) only [w178_20, w178_22, w178_23, w178_65, w178_68, w178_69, w178_72, w178_73, w178_74, w178_75, w178_76, w178_78, w178_79, w178_82, w178_83, w178_84, w178_86, w178_88, w178_89, w178_92, w178_94, p1, nI_pred, h2, h3, h4, h5, k3, k4, ↓reduceIte, Option.toList_some, Option.toList_none, List.cons_append, List.nil_append, Int32.reduceAdd, Int32.reduceLT, Int32.reduceLE, Int32.reduceToNatClampNeg]
  split
  · simp only [w178_97, w178_98, w178_99, w178_102, w178_103]
  · rename_i h0
    simp (config := { decide := true }) only [w178_104, w178_105, w178_108, w178_109, w178_110, w178_111, w178_113, w178_114, w178_125, w178_127, w178_128, w178_139, w178_141, w178_142, w178_153, w178_155, w178_157, w178_158, w178_159, w178_162, nI_pred, h2, h3, k3, k4, h0, nI_1, not_false_eq_true, ↓reduceIte, Option.toList_some, Option.toList_none, List.cons_append, List.nil_append, Int32.reduceAdd, Int32.reduceLT, Int32.reduceLE, Int32.reduceToNatClampNeg]
theorem m_seg {V : Nat → Int32} {P : Option Value → mHp → Prop} {f : Int32} : ∀ (c : mCod) (q m : Nat) (st : List Int32) (I : Nat → Nat → Int32) (v5 v6 v7 : Value),
    mCw c st.length = some m → q + c.length ≤ 840 → mXa (I 207) (I 208) (c.map mMp) q → mXt (I 211) st → (∀ i, i < 9 → I 210 i = V i) →
    (∀ (I' : Nat → Nat → Int32), (∀ a, a ≠ 211 → I' a = I a) → mCs V c st = none → P (some (.int 0)) (mHh xL (mU I' 180 48 1) J (mRf rc rx rr))) →
    (∀ (I' : Nat → Nat → Int32) (st' : List Int32), (∀ a, a ≠ 211 → I' a = I a) → mCs V c st = some st' → st'.length = m → mXt (I' 211) st' → P (some (.int (I' 211 0))) (mHh xL I' J (mRf rc rx rr))) →
    WP d 178 5 [.ref 180, .int f, .int (nI (q + c.length)), .int (nI st.length), .int (nI q), v5, v6, v7] [] (mHh xL I J (mRf rc rx rr)) P := by
  intro c
  induction c with
  | nil =>
    intro q m st I v5 v6 v7 hw hq hx ht hv _ hS
    simp only [mCw, Option.some.injEq] at hw
    have h1 : nI q ≤ nI q := nI_le (Nat.le_refl _) (by simp only [List.length_nil] at hq; omega)
    simp only [List.length_nil, Nat.add_zero, w178_5, w178_7, w178_8, h1, ↓reduceIte, w178_165, w178_166, w178_169, w178_170, w178_171]
    exact hS I st (fun _ _ => rfl) rfl hw ht
  | cons p c ih =>
    obtain ⟨k, v⟩ := p
    intro q m st I v5 v6 v7 hw hq hx ht hv hN hS
    simp only [List.length_cons] at hq
    simp only [List.map_cons, mXa] at hx
    obtain ⟨x1, x2, hx⟩ := hx
    have x1 : I 207 q = nI k := x1
    have x2 : I 208 q = v := x2
    rw [List.length_cons, show q + (c.length + 1) = q + 1 + c.length by omega]
    rw [m_load (to := q + 1 + c.length) (by omega) (by omega), x1]
    have go : ∀ (st1 : List Int32) (w : Int32) (j : Nat) (v5 v6 v7 : Value), mCw c st1.length = some m → mXt (mU I 211 j w 211) st1 → mCs V ((k, v) :: c) st = mCs V c st1 → WP d 178 5 [.ref 180, .int f, .int (nI (q + 1 + c.length)), .int (nI st1.length), .int (nI (q + 1)), v5, v6, v7] [] (mHh xL (mU I 211 j w) J (mRf rc rx rr)) P := by
      intro st1 w j u5 u6 u7 hw1 ht1 e1
      refine ih (q + 1) m st1 (mU I 211 j w) u5 u6 u7 hw1 (by omega) (by rw [mU_f (by decide), mU_f (by decide)]; exact hx) ht1 (fun i hi => by rw [mU_a (by decide)]; exact hv i hi) ?_ ?_
      · intro I' hI e
        exact hN I' (fun a ha => by rw [hI a ha, mU_f ha]) (by rw [e1]; exact e)
      · intro I' st' hI e hm ht'
        exact hS I' st' (fun a ha => by rw [hI a ha, mU_f ha]) (by rw [e1]; exact e) hm ht'
    have push : ∀ w : Int32, mXt (mU I 211 st.length w 211) (w :: st) := fun w => ⟨mU_s _ _ _ _, mXt_keep (n := st.length) (Nat.le_refl _) (fun k hk => mU_k (by omega)) ht⟩
    rw [mCw] at hw
    by_cases k2 : k < 2
    · rw [if_pos k2] at hw
      split at hw
      · rename_i hc
        obtain ⟨c1, c2, c3⟩ := hc
        by_cases k0 : k = 0
        · subst k0
          rw [m_int (by omega) (by omega), x2]
          exact go (v :: st) v st.length _ _ _ hw (push v) (mCs_0 _ _ _ _)
        · have k1 : k = 1 := by omega
          subst k1
          have c4 := c3 rfl
          obtain ⟨j, hj, rfl⟩ := nI_of c2
          have hj9 : j < 9 := by rw [in_lt 9 (by decide) hj] at c4; exact c4
          have ej : (nI j).toNatClampNeg = j := nI_clamp hj
          have e3 : mCs V ((1, nI j) :: c) st = mCs V c (V j :: st) := by rw [mCs_1, ej]
          rw [m_var (by omega) (by omega) hj9 x2, hv j hj9]
          exact go (V j :: st) (V j) st.length _ _ _ hw (push (V j)) e3
      · cases hw
    · rw [if_neg k2] at hw
      split at hw
      · rename_i hc
        obtain ⟨c1, c2, c3⟩ := hc
        obtain ⟨b, a, r, rfl⟩ : ∃ b a r, st = b :: a :: r := by
          cases st with
          | nil => simp at c1
          | cons b st => cases st with
            | nil => simp at c1
            | cons a r => exact ⟨b, a, r, rfl⟩
        simp only [List.length_cons] at hw c2 ⊢
        rw [show r.length + 1 + 1 - 1 = r.length + 1 by omega] at hw
        obtain ⟨t1, t2, t3⟩ := ht
        simp only [List.length_cons] at t1
        have push2 : ∀ w : Int32, mXt (mU I 211 r.length w 211) (w :: r) := fun w => ⟨mU_s _ _ _ _, mXt_keep (n := r.length) (Nat.le_refl _) (fun k hk => mU_k (by omega)) t3⟩
        by_cases k5 : k = 5
        · subst k5
          rw [m_div (k := r.length) (by omega), t1, t2]
          by_cases hb : b = 0
          · rw [if_pos hb]
            exact hN I (fun _ _ => rfl) (mCs_n V hb _ _ _)
          · rw [if_neg hb]
            exact go (mOp 5 a b :: r) (mOp 5 a b) r.length _ _ _ hw (push2 _) (mCs_o V (by decide) (by decide) (fun z => hb z.2) _ _ _)
        · rw [m_bin (k := r.length) (by omega) f _ v6 v7 k (by omega), t1, t2]
          exact go (mOp k a b :: r) (mOp k a b) r.length _ _ _ hw (push2 _) (mCs_o V (by omega) (by omega) (fun z => k5 z.1) _ _ _)
      · cases hw
theorem c178 {V : Nat → Int32} {c : mCod} {q to : Nat} (hto : to = q + c.length) (hw : mCw c 0 = some 1) (hq : to ≤ 840) (hx : mXa (I 207) (I 208) (c.map mMp) q) (hv : ∀ i, i < 9 → I 210 i = V i)
    (hN : mCs V c [] = none → ∀ (I' : Nat → Nat → Int32), (∀ a, a ≠ 211 → I' a = I a) → Q (some (.int 0)) (mHh xL (mU I' 180 48 1) J (mRf rc rx rr)))
    (hS : ∀ x, mCs V c [] = some [x] → ∀ (I' : Nat → Nat → Int32), (∀ a, a ≠ 211 → I' a = I a) → Q (some (.int x)) (mHh xL I' J (mRf rc rx rr))) :
    WP d 178 0 [.ref 180, .int (nI q), .int (nI to), mDum, mDum, mDum, mDum, mDum] [] (mHh xL I J (mRf rc rx rr)) Q := by
  subst hto
  simp only [w178_0, w178_1, w178_2, w178_3]
  refine m_seg c q 1 [] I _ _ _ hw (by omega) hx trivial hv ?_ ?_
  · intro I' hI e; exact hN e I' hI
  · intro I' st' hI e hm ht
    obtain ⟨x, rfl⟩ : ∃ x, st' = [x] := by
      match st', hm with
      | [x], _ => exact ⟨x, rfl⟩
    rw [show I' 211 0 = x from ht.1]
    exact hS x e I' hI
/-- a law's branches as they stand in the model's rows -/
def mMb (I : Nat → Nat → Int32) : List mIf → mCod → Nat → Prop
  | [], e, b => ∃ f, I 202 b = 0 ∧ I 205 b = nI f ∧ I 206 b = nI (f + e.length) ∧ f + e.length ≤ 840 ∧ mXa (I 207) (I 208) (e.map mMp) f
  | (x, y, t) :: r, e, b => (∃ f, I 202 b = 1 ∧ I 203 b = nI f ∧ I 204 b = nI (f + x.length) ∧ I 205 b = nI (f + x.length + y.length) ∧ I 206 b = nI (f + x.length + y.length + t.length) ∧ f + x.length + y.length + t.length ≤ 840 ∧ mXa (I 207) (I 208) (x.map mMp) f ∧ mXa (I 207) (I 208) (y.map mMp) (f + x.length) ∧ mXa (I 207) (I 208) (t.map mMp) (f + x.length + y.length)) ∧ mMb I r e (b + 1)
theorem mMb_keep {I I' : Nat → Nat → Int32} (h : ∀ a, 202 ≤ a → a ≤ 208 → I' a = I a) : ∀ {is : List mIf} {e : mCod} {b : Nat}, mMb I is e b → mMb I' is e b := by
  intro is
  induction is with
  | nil =>
    rintro e b ⟨f, h1, h2, h3, h4, h5⟩
    refine ⟨f, ?_, ?_, ?_, h4, ?_⟩
    · rw [h 202 (by decide) (by decide)]; exact h1
    · rw [h 205 (by decide) (by decide)]; exact h2
    · rw [h 206 (by decide) (by decide)]; exact h3
    · rw [h 207 (by decide) (by decide), h 208 (by decide) (by decide)]; exact h5
  | cons p is ih =>
    obtain ⟨x, y, t⟩ := p
    rintro e b ⟨⟨f, h1, h2, h3, h4, h5, h6, h7, h8, h9⟩, hr⟩
    refine ⟨⟨f, ?_, ?_, ?_, ?_, ?_, h6, ?_, ?_, ?_⟩, ih hr⟩
    · rw [h 202 (by decide) (by decide)]; exact h1
    · rw [h 203 (by decide) (by decide)]; exact h2
    · rw [h 204 (by decide) (by decide)]; exact h3
    · rw [h 205 (by decide) (by decide)]; exact h4
    · rw [h 206 (by decide) (by decide)]; exact h5
    · rw [h 207 (by decide) (by decide), h 208 (by decide) (by decide)]; exact h7
    · rw [h 207 (by decide) (by decide), h 208 (by decide) (by decide)]; exact h8
    · rw [h 207 (by decide) (by decide), h 208 (by decide) (by decide)]; exact h9
/-- all but the pile and whether something is broken -/
def fL (I I' : Nat → Nat → Int32) : Prop := (∀ a, a ≠ 211 → a ≠ 180 → I' a = I a) ∧ ∀ k, k ≠ 48 → I' 180 k = I 180 k
theorem fL_t {I I1 I2 : Nat → Nat → Int32} (h1 : fL I I1) (h2 : fL I1 I2) : fL I I2 := ⟨fun a x y => by rw [h2.1 a x y, h1.1 a x y], fun k x => by rw [h2.2 k x, h1.2 k x]⟩
theorem fL_p {I I' : Nat → Nat → Int32} (h : ∀ a, a ≠ 211 → I' a = I a) : fL I I' := ⟨fun a x _ => h a x, fun k _ => by rw [h 180 (by decide)]⟩
theorem fL_u {I I' : Nat → Nat → Int32} {x : Int32} (h : ∀ a, a ≠ 211 → I' a = I a) : fL I (mU I' 180 48 x) := ⟨fun a p q => by rw [mU_f q, h a p], fun k p => by rw [mU_k p, h 180 (by decide)]⟩
theorem m_term {V : Nat → Int32} {t : mCod} {f b : Nat} (hb : b < 260) (h2 : I 205 b = nI f) (h3 : I 206 b = nI (f + t.length)) (h4 : f + t.length ≤ 840) (hw : mCw t 0 = some 1) (hx : mXa (I 207) (I 208) (t.map mMp) f) (hv : ∀ i, i < 9 → I 210 i = V i) (h0 : I 180 48 = 0) (v1 v2 v3 v5 v6 : Value)
    (hQ : ∀ (I' : Nat → Nat → Int32), fL I I' → Q (some (.int (mC1 V t))) (mHh xL I' J (mRf rc rx rr))) :
    WP (d + 1) 177 119 [.ref 180, v1, v2, v3, .int (nI b), v5, v6] [] (mHh xL I J (mRf rc rx rr)) Q := by
  have e1 : mIn (nI b) 260 = true := mIn_nI hb (by omega)
  have e2 : (nI b).toNatClampNeg = b := nI_clamp (by omega)
  simp only [w177_0, w177_1, w177_2, w177_5, w177_6, w177_7, w177_8, w177_9, w177_10, w177_13, w177_14, w177_15, w177_16, w177_19, w177_20, w177_21, w177_24, w177_25, w177_26, w177_27, w177_28, w177_31, w177_32, w177_35, w177_36, w177_37, w177_41, w177_42, w177_45, w177_46, w177_47, w177_50, w177_51, w177_54, w177_56, w177_57, w177_60, w177_61, w177_62, w177_65, w177_67, w177_68, w177_69, w177_72, w177_74, w177_75, w177_78, w177_80, w177_81, w177_82, w177_85, w177_87, w177_88, w177_89, w177_92, w177_94, w177_95, w177_98, w177_100, w177_101, w177_104, w177_107, w177_108, w177_109, w177_111, w177_113, w177_116, w177_119, w177_120, w177_121, w177_124, w177_126, w177_127, w177_128, w177_131, w177_133, w177_134, w177_137, w177_139, w177_140, w177_143, w177_146, w177_147, w177_150, w177_152, w177_153, w177_156, w177_159, w177_160, e1, e2, h2, h3]
  refine c178 rfl hw h4 hx hv ?_ ?_
  · intro e I' hI
    have := hQ _ (fL_u (x := 1) hI)
    rw [mC1, e] at this
    simp (config := { decide := true }) only [↓reduceIte, Option.toList_some, Option.toList_none, List.cons_append, List.nil_append, Int32.reduceAdd, Int32.reduceLT, Int32.reduceLE, Int32.reduceToNatClampNeg, w177_0, w177_1, w177_2, w177_5, w177_6, w177_7, w177_8, w177_9, w177_10, w177_13, w177_14, w177_15, w177_16, w177_19, w177_20, w177_21, w177_24, w177_25, w177_26, w177_27, w177_28, w177_31, w177_32, w177_35, w177_36, w177_37, w177_41, w177_42, w177_45, w177_46, w177_47, w177_50, w177_51, w177_54, w177_56, w177_57, w177_60, w177_61, w177_62, w177_65, w177_67, w177_68, w177_69, w177_72, w177_74, w177_75, w177_78, w177_80, w177_81, w177_82, w177_85, w177_87, w177_88, w177_89, w177_92, w177_94, w177_95, w177_98, w177_100, w177_101, w177_104, w177_107, w177_108, w177_109, w177_111, w177_113, w177_116, w177_119, w177_120, w177_121, w177_124, w177_126, w177_127, w177_128, w177_131, w177_133, w177_134, w177_137, w177_139, w177_140, w177_143, w177_146, w177_147, w177_150, w177_152, w177_153, w177_156, w177_159, w177_160, mU_s]
    exact this
  · intro x e I' hI
    have := hQ _ (fL_p hI)
    rw [mC1, e] at this
    have h0' : I' 180 48 = 0 := by rw [hI 180 (by decide)]; exact h0
    simp (config := { decide := true }) only [↓reduceIte, Option.toList_some, Option.toList_none, List.cons_append, List.nil_append, Int32.reduceAdd, Int32.reduceLT, Int32.reduceLE, Int32.reduceToNatClampNeg, w177_0, w177_1, w177_2, w177_5, w177_6, w177_7, w177_8, w177_9, w177_10, w177_13, w177_14, w177_15, w177_16, w177_19, w177_20, w177_21, w177_24, w177_25, w177_26, w177_27, w177_28, w177_31, w177_32, w177_35, w177_36, w177_37, w177_41, w177_42, w177_45, w177_46, w177_47, w177_50, w177_51, w177_54, w177_56, w177_57, w177_60, w177_61, w177_62, w177_65, w177_67, w177_68, w177_69, w177_72, w177_74, w177_75, w177_78, w177_80, w177_81, w177_82, w177_85, w177_87, w177_88, w177_89, w177_92, w177_94, w177_95, w177_98, w177_100, w177_101, w177_104, w177_107, w177_108, w177_109, w177_111, w177_113, w177_116, w177_119, w177_120, w177_121, w177_124, w177_126, w177_127, w177_128, w177_131, w177_133, w177_134, w177_137, w177_139, w177_140, w177_143, w177_146, w177_147, w177_150, w177_152, w177_153, w177_156, w177_159, w177_160, h0']
    exact this
theorem m_law {V : Nat → Int32} {s k : Nat} (hs : s < 2) (hk : k < 4) {v2 : Value} : ∀ (is : List mIf) (e : mCod) (b : Nat) (I : Nat → Nat → Int32) (v5 v6 : Value),
    mLo is e → mMb I is e b → b + is.length + 1 ≤ 260 → I 201 (4 * s + k) = nI (b + is.length + 1) → I 180 48 = 0 → (∀ i, i < 9 → I 210 i = V i) →
    (∀ (I' : Nat → Nat → Int32), fL I I' → Q (some (.int (mLe V is e))) (mHh xL I' J (mRf rc rx rr))) →
    WP (d + 1) 177 39 [.ref 180, .int (nI k), v2, .int (nI (4 * s + k)), .int (nI b), v5, v6] [] (mHh xL I J (mRf rc rx rr)) Q := by
  have a1 : mIn (nI (4 * s + k)) 8 = true := mIn_nI (by omega) (by omega)
  have a2 : (nI (4 * s + k)).toNatClampNeg = 4 * s + k := nI_clamp (by omega)
  intro is
  induction is with
  | nil =>
    intro e b I v5 v6 ho hb hl h1 h0 hv hQ
    obtain ⟨f, q1, q2, q3, q4, q5⟩ := hb
    simp only [List.length_nil, Nat.add_zero] at hl h1
    have e1 : mIn (nI b) 260 = true := mIn_nI (by omega) (by omega)
    have e2 : (nI b).toNatClampNeg = b := nI_clamp (by omega)
    have e3 : ¬ nI (b + 1) ≤ nI b := nI_ge (by omega) (by omega)
    rw [w177_39]
    simp only [w177_41, w177_42, w177_45, w177_46, w177_47, w177_50, w177_51, w177_54, w177_56, w177_57, a1, a2, h1, e3, e1, e2, q1, ↓reduceIte]
    exact m_term (by omega) q2 q3 q4 ho q5 hv h0 _ _ _ _ _ hQ
  | cons p is ih =>
    obtain ⟨x, y, t⟩ := p
    intro e b I v5 v6 ho hb hl h1 h0 hv hQ
    obtain ⟨o1, o2, -, o3, o4⟩ := ho
    obtain ⟨⟨f, q1, q2, q3, q4, q5, q6, q7, q8, q9⟩, hr⟩ := hb
    simp only [List.length_cons] at hl h1
    have e1 : mIn (nI b) 260 = true := mIn_nI (by omega) (by omega)
    have e2 : (nI b).toNatClampNeg = b := nI_clamp (by omega)
    have e3 : ¬ nI (b + (is.length + 1) + 1) ≤ nI b := nI_ge (by omega) (by omega)
    have e4 : ((1 : Int32) = 0) = False := by simp
    rw [w177_39]
    simp only [w177_41, w177_42, w177_45, w177_46, w177_47, w177_50, w177_51, w177_54, w177_56, w177_57, w177_60, w177_61, w177_62, w177_65, w177_67, w177_68, w177_69, w177_72, w177_74, w177_75, a1, a2, h1, e3, e1, e2, q1, q2, q3, e4, ↓reduceIte]
    refine c178 rfl o1 (by omega) q7 hv ?_ ?_
    · intro en I1 f1
      have r4 : mU I1 180 48 1 204 = I 204 := by rw [mU_f (by decide), f1 204 (by decide)]
      have r5 : mU I1 180 48 1 205 = I 205 := by rw [mU_f (by decide), f1 205 (by decide)]
      have hQ0 : ∀ (I' : Nat → Nat → Int32), fL I I' → Q (some (.int 0)) (mHh xL I' J (mRf rc rx rr)) := by
        intro I' hI; have := hQ I' hI; rw [mLe, en] at this; exact this
      simp only [↓reduceIte, Option.toList_some, Option.toList_none, List.cons_append, List.nil_append, Int32.reduceAdd, Int32.reduceLT, Int32.reduceLE, Int32.reduceToNatClampNeg, w177_78, w177_80, w177_81, w177_82, w177_85, w177_87, w177_88, w177_89, w177_92, w177_94, w177_95, e1, e2, r4, r5, q3, q4]
      refine c178 rfl o2 (by omega) (by rw [mU_f (by decide), mU_f (by decide), f1 207 (by decide), f1 208 (by decide)]; exact q8) (V := V) (fun i hi => by rw [mU_a (by decide), f1 210 (by decide)]; exact hv i hi) ?_ ?_
      · intro _ I2 f2
        simp (config := { decide := true }) only [↓reduceIte, Option.toList_some, Option.toList_none, List.cons_append, List.nil_append, Int32.reduceAdd, Int32.reduceLT, Int32.reduceLE, Int32.reduceToNatClampNeg, w177_98, w177_100, w177_101, w177_104, w177_107, w177_108, mU_s]
        exact hQ0 _ (fL_t (fL_u f1) (fL_u f2))
      · intro z _ I2 f2
        have z1 : I2 180 48 = 1 := by rw [f2 180 (by decide), mU_s]
        simp (config := { decide := true }) only [↓reduceIte, Option.toList_some, Option.toList_none, List.cons_append, List.nil_append, Int32.reduceAdd, Int32.reduceLT, Int32.reduceLE, Int32.reduceToNatClampNeg, w177_98, w177_100, w177_101, w177_104, w177_107, w177_108, z1]
        exact hQ0 _ (fL_t (fL_u f1) (fL_p f2))
    · intro u en I1 f1
      have r4 : I1 204 = I 204 := f1 204 (by decide)
      have r5 : I1 205 = I 205 := f1 205 (by decide)
      have app := mCs_app (V := V) (ex := [u]) (c := y) (st := []) o2
      simp only [List.nil_append] at app
      simp only [↓reduceIte, Option.toList_some, Option.toList_none, List.cons_append, List.nil_append, Int32.reduceAdd, Int32.reduceLT, Int32.reduceLE, Int32.reduceToNatClampNeg, w177_78, w177_80, w177_81, w177_82, w177_85, w177_87, w177_88, w177_89, w177_92, w177_94, w177_95, e1, e2, r4, r5, q3, q4]
      refine c178 rfl o2 (by omega) (by rw [f1 207 (by decide), f1 208 (by decide)]; exact q8) (V := V) (fun i hi => by rw [f1 210 (by decide)]; exact hv i hi) ?_ ?_
      · intro en2 I2 f2
        simp (config := { decide := true }) only [↓reduceIte, Option.toList_some, Option.toList_none, List.cons_append, List.nil_append, Int32.reduceAdd, Int32.reduceLT, Int32.reduceLE, Int32.reduceToNatClampNeg, w177_98, w177_100, w177_101, w177_104, w177_107, w177_108, mU_s]
        have := hQ _ (fL_t (fL_p f1) (fL_u (x := 1) f2))
        rw [mLe, en] at this
        simp only [app, en2, Option.map_none] at this
        exact this
      · intro z en2 I2 f2
        have f12 : fL I I2 := fL_t (fL_p f1) (fL_p f2)
        have z1 : I2 180 48 = 0 := by rw [f2 180 (by decide), f1 180 (by decide)]; exact h0
        have g2 : ∀ a, a ≠ 211 → I2 a = I a := fun a ha => by rw [f2 a ha, f1 a ha]
        have hQ2 : ∀ (I' : Nat → Nat → Int32), fL I I' → Q (some (.int (if u < z then mC1 V t else mLe V is e))) (mHh xL I' J (mRf rc rx rr)) := by
          intro I' hI
          have := hQ I' hI
          rw [mLe, en] at this
          simp only [app, en2, Option.map_some, List.cons_append, List.nil_append] at this
          exact this
        simp (config := { decide := true }) only [↓reduceIte, Option.toList_some, Option.toList_none, List.cons_append, List.nil_append, Int32.reduceAdd, Int32.reduceLT, Int32.reduceLE, Int32.reduceToNatClampNeg, w177_98, w177_100, w177_101, w177_104, w177_109, w177_111, w177_113, z1]
        by_cases hc : u < z
        · simp only [hc, ↓reduceIte] at hQ2 ⊢
          refine m_term (V := V) (by omega) (by rw [g2 205 (by decide)]; exact q4) (by rw [g2 206 (by decide)]; exact q5) (by omega) o3 (by rw [g2 207 (by decide), g2 208 (by decide)]; exact q9) (fun i hi => by rw [g2 210 (by decide)]; exact hv i hi) z1 _ _ _ _ _ ?_
          intro I' hI
          exact hQ2 I' (fL_t f12 hI)
        · simp only [hc, ↓reduceIte] at hQ2 ⊢
          simp only [w177_116, w177_153, w177_156, nI_1]
          refine ih e (b + 1) I2 _ _ o4 (mMb_keep (fun a h1 h2 => g2 a (by omega)) hr) (by omega) (by rw [g2 201 (by decide), h1]; congr 1; omega) z1 (fun i hi => by rw [g2 210 (by decide)]; exact hv i hi) ?_
          intro I' hI
          exact hQ2 I' (fL_t f12 hI)
/-- a law's branches, located: in the half that is the side's -/
def mMbR (I : Nat → Nat → Int32) (lo hi : Nat) : List mIf → mCod → Nat → Prop
  | [], e, b => ∃ f, I 202 b = 0 ∧ I 205 b = nI f ∧ I 206 b = nI (f + e.length) ∧ (lo ≤ f ∧ f + e.length ≤ hi) ∧ mXa (I 207) (I 208) (e.map mMp) f
  | (x, y, t) :: r, e, b => (∃ f, I 202 b = 1 ∧ I 203 b = nI f ∧ I 204 b = nI (f + x.length) ∧ I 205 b = nI (f + x.length + y.length) ∧ I 206 b = nI (f + x.length + y.length + t.length) ∧ (lo ≤ f ∧ f + x.length + y.length + t.length ≤ hi) ∧ mXa (I 207) (I 208) (x.map mMp) f ∧ mXa (I 207) (I 208) (y.map mMp) (f + x.length) ∧ mXa (I 207) (I 208) (t.map mMp) (f + x.length + y.length)) ∧ mMbR I lo hi r e (b + 1)
theorem mMbR_b {lo hi : Nat} (hz : hi ≤ 840) : ∀ {is : List mIf} {e : mCod} {b : Nat}, mMbR I lo hi is e b → mMb I is e b := by
  intro is
  induction is with
  | nil =>
    rintro e b ⟨f, h1, h2, h3, h4, h5⟩
    exact ⟨f, h1, h2, h3, by omega, h5⟩
  | cons p is ih =>
    obtain ⟨x, y, t⟩ := p
    rintro e b ⟨⟨f, h1, h2, h3, h4, h5, h6, h7⟩, hr⟩
    exact ⟨⟨f, h1, h2, h3, h4, h5, by omega, h7⟩, ih hr⟩
theorem xa_z {S N S' N' : Nat → Int32} : ∀ (c : List (Int32 × Int32)) (q : Nat), mXa S N c q → (∀ j, q ≤ j → j < q + c.length → S' j = S j ∧ N' j = N j) → mXa S' N' c q := by
  intro c
  induction c with
  | nil => intro q _ _; trivial
  | cons p c ih =>
    intro q h hj
    have e := hj q (Nat.le_refl _) (by rw [List.length_cons]; omega)
    exact ⟨e.1.trans h.1, e.2.trans h.2.1, ih (q + 1) h.2.2 (fun j h1 hq => hj j (by omega) (by rw [List.length_cons]; omega))⟩
theorem mMbR_keep {I I' : Nat → Nat → Int32} {lo hi : Nat} (hc : ∀ q, lo ≤ q → q < hi → I' 207 q = I 207 q ∧ I' 208 q = I 208 q) : ∀ {is : List mIf} {e : mCod} {b : Nat}, (∀ a, 202 ≤ a → a ≤ 206 → ∀ q, b ≤ q → q ≤ b + is.length → I' a q = I a q) → mMbR I lo hi is e b → mMbR I' lo hi is e b := by
  intro is
  induction is with
  | nil =>
    rintro e b h ⟨f, h1, h2, h3, h4, h5⟩
    rw [List.length_nil] at h
    refine ⟨f, ?_, ?_, ?_, h4, xa_z _ _ h5 (fun j p q => hc j (by omega) (by rw [List.length_map] at q; omega))⟩
    · rw [h 202 (by decide) (by decide) b (by omega) (by omega)]; exact h1
    · rw [h 205 (by decide) (by decide) b (by omega) (by omega)]; exact h2
    · rw [h 206 (by decide) (by decide) b (by omega) (by omega)]; exact h3
  | cons p is ih =>
    obtain ⟨x, y, t⟩ := p
    rintro e b h ⟨⟨f, h1, h2, h3, h4, h5, h6, h7, h8, h9⟩, hr⟩
    rw [List.length_cons] at h
    refine ⟨⟨f, ?_, ?_, ?_, ?_, ?_, h6, xa_z _ _ h7 (fun j p q => hc j (by omega) (by rw [List.length_map] at q; omega)), xa_z _ _ h8 (fun j p q => hc j (by omega) (by rw [List.length_map] at q; omega)), xa_z _ _ h9 (fun j p q => hc j (by omega) (by rw [List.length_map] at q; omega))⟩, ih (fun a p q k u v => h a p q k (by omega) (by omega)) hr⟩
    · rw [h 202 (by decide) (by decide) b (by omega) (by omega)]; exact h1
    · rw [h 203 (by decide) (by decide) b (by omega) (by omega)]; exact h2
    · rw [h 204 (by decide) (by decide) b (by omega) (by omega)]; exact h3
    · rw [h 205 (by decide) (by decide) b (by omega) (by omega)]; exact h4
    · rw [h 206 (by decide) (by decide) b (by omega) (by omega)]; exact h5
theorem mMbR_mono {I : Nat → Nat → Int32} {lo hi lo' hi' : Nat} (h1 : lo' ≤ lo) (h2 : hi ≤ hi') : ∀ {is : List mIf} {e : mCod} {b : Nat}, mMbR I lo hi is e b → mMbR I lo' hi' is e b := by
  intro is
  induction is with
  | nil =>
    rintro e b ⟨f, q1, q2, q3, q4, q5⟩
    exact ⟨f, q1, q2, q3, by omega, q5⟩
  | cons p is ih =>
    obtain ⟨x, y, t⟩ := p
    rintro e b ⟨⟨f, q1, q2, q3, q4, q5, q6, q7⟩, hr⟩
    exact ⟨⟨f, q1, q2, q3, q4, q5, by omega, q7⟩, ih hr⟩
/-- a law as it stands in the model's rows: its branches and its code between bounds -/
def mMwQ (I : Nat → Nat → Int32) (j bl bh lo hi : Nat) : Option (List mIf × mCod) → Prop
  | none => I 200 j = I 201 j
  | some (is, e) => ∃ b, (bl ≤ b ∧ b + is.length + 1 ≤ bh) ∧ I 200 j = nI b ∧ I 201 j = nI (b + is.length + 1) ∧ mLo is e ∧ mMbR I lo hi is e b
/-- what lies beyond the bounds may change -/
theorem mMwQ_keep {I I' : Nat → Nat → Int32} {j bl bh lo hi : Nat} (hc : ∀ q, lo ≤ q → q < hi → I' 207 q = I 207 q ∧ I' 208 q = I 208 q) (hb : ∀ a, 202 ≤ a → a ≤ 206 → ∀ q, bl ≤ q → q < bh → I' a q = I a q) (h0 : I' 200 j = I 200 j) (h1 : I' 201 j = I 201 j) : ∀ {w : Option (List mIf × mCod)}, mMwQ I j bl bh lo hi w → mMwQ I' j bl bh lo hi w := by
  intro w hw
  cases w with
  | none =>
    show I' 200 j = I' 201 j
    rw [h0, h1]; exact hw
  | some p =>
    obtain ⟨is, e⟩ := p
    obtain ⟨b, q1, q2, q3, q4, q5⟩ := hw
    exact ⟨b, q1, by rw [h0]; exact q2, by rw [h1]; exact q3, q4, mMbR_keep hc (fun a p q k u v => hb a p q k (by omega) (by omega)) q5⟩
theorem mMwQ_mono {I : Nat → Nat → Int32} {j bl bh lo hi bh' hi' : Nat} (h1 : bh ≤ bh') (h2 : hi ≤ hi') : ∀ {w : Option (List mIf × mCod)}, mMwQ I j bl bh lo hi w → mMwQ I j bl bh' lo hi' w := by
  intro w hw
  cases w with
  | none => exact hw
  | some p =>
    obtain ⟨is, e⟩ := p
    obtain ⟨b, q1, q2, q3, q4, q5⟩ := hw
    exact ⟨b, by omega, q2, q3, q4, mMbR_mono (Nat.le_refl _) h2 q5⟩
/-- in its side's half -/
def mMw (I : Nat → Nat → Int32) (j : Nat) (w : Option (List mIf × mCod)) : Prop := mMwQ I j (130 * (j / 4)) (130 * (j / 4) + 130) (420 * (j / 4)) (420 * (j / 4) + 420) w
theorem mMw_keep {I I' : Nat → Nat → Int32} (h : ∀ a, 200 ≤ a → a ≤ 208 → I' a = I a) {j : Nat} {w : Option (List mIf × mCod)} (hw : mMw I j w) : mMw I' j w :=
  mMwQ_keep (fun q _ _ => ⟨by rw [h 207 (by decide) (by decide)], by rw [h 208 (by decide) (by decide)]⟩) (fun a p q k _ _ => by rw [h a (by omega) (by omega)]) (by rw [h 200 (by decide) (by decide)]) (by rw [h 201 (by decide) (by decide)]) hw
theorem c177 {V : Nat → Int32} {η : mHs} {s k : Nat} (hs : s < 2) (hk : k < 4) (hl : I 180 18 = nI s) (hw : mMw I (4 * s + k) (hL η k)) {x : Int32} (hx : x = mLe V (mDf k).1 (mDf k).2) (hv : ∀ i, i < 9 → I 210 i = V i)
    (hQ : ∀ (I' : Nat → Nat → Int32), fL I I' → Q (some (.int (sL η k V))) (mHh xL I' J (mRf rc rx rr))) :
    WP (d + 1) 177 0 [.ref 180, .int (nI k), .int x, mDum, mDum, mDum, mDum] [] (mHh xL I J (mRf rc rx rr)) Q := by
  have a1 : mIn (nI (4 * s + k)) 8 = true := mIn_nI (by omega) (by omega)
  have a2 : (nI (4 * s + k)).toNatClampNeg = 4 * s + k := nI_clamp (by omega)
  have a3 : 4 * nI s = nI (4 * s) := pk_mul 4 s
  have a4 : nI k + nI (4 * s) = nI (4 * s + k) := by rw [nI_add, Nat.add_comm]
  have a5 : nI (4 * s) + nI k = nI (4 * s + k) := nI_add _ _
  simp only [w177_0, w177_1, w177_2, w177_5, w177_6, w177_7, w177_8, w177_9, w177_10, w177_13, w177_14, w177_15, w177_16, w177_19, w177_20, w177_21, hl, a3, a4, a5, a1, a2]
  cases hη : hL η k with
  | none =>
    rw [hη] at hw
    have hw : I 200 (4 * s + k) = I 201 (4 * s + k) := hw
    have := hQ I ⟨fun _ _ _ => rfl, fun _ _ => rfl⟩
    rw [sL, hW, hη] at this
    simp only [Option.getD_none] at this
    simp only [hw, ↓reduceIte, w177_24, w177_25, hx]
    exact this
  | some p =>
    obtain ⟨is, e⟩ := p
    rw [hη] at hw
    obtain ⟨b, h1, h2, h3, h4, h5⟩ := hw
    rw [show (4 * s + k) / 4 = s by omega] at h1 h5
    have h5 := mMbR_b (by omega) h5
    have h1 : b + is.length + 1 ≤ 260 := by omega
    have ne : ¬ nI b = nI (b + is.length + 1) := by rw [nI_eq (by omega) (by omega)]; omega
    have hQ' : ∀ (I' : Nat → Nat → Int32), fL I I' → Q (some (.int (mLe V is e))) (mHh xL I' J (mRf rc rx rr)) := by
      intro I' hI
      have := hQ I' hI
      rw [sL, hW, hη] at this
      exact this
    have k1 : mU I 180 48 0 200 = I 200 := mU_f (by decide)
    simp only [h2, h3, ne, ↓reduceIte, w177_26, w177_27, w177_28, w177_31, w177_32, w177_35, w177_36, w177_37, k1, a1, a2]
    refine m_law (V := V) hs hk is e b _ _ _ h4 (mMb_keep (fun a p q => mU_f (by omega)) h5) h1 (by rw [mU_f (by decide)]; exact h3) (mU_s _ _ _ _) (fun i hi => by rw [mU_f (by decide)]; exact hv i hi) ?_
    intro I' hI
    exact hQ' I' (fL_t ⟨fun a p q => mU_f q, fun k p => mU_k p⟩ hI)
end MLW
