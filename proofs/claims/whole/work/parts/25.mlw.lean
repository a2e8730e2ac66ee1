/-! How the model reckons a law's code. -/
theorem mCs_app {V : Nat → Int32} {ex : List Int32} : ∀ {c : mCod} {st : List Int32} {m : Nat}, mCw c st.length = some m → mCs V c (st ++ ex) = (mCs V c st).map (· ++ ex) := by
  intro c
  induction c with
  | nil => intro st m _; rfl
  | cons p c ih =>
    obtain ⟨k, v⟩ := p
    intro st m hw
    rw [mCw] at hw
    by_cases k2 : k < 2
    · rw [if_pos k2] at hw
      split at hw
      · by_cases k0 : k = 0
        · subst k0
          rw [mCs_0, mCs_0, ← List.cons_append]
          exact ih (st := v :: st) hw
        · have k1 : k = 1 := by omega
          subst k1
          rw [mCs_1, mCs_1, ← List.cons_append]
          exact ih (st := V v.toNatClampNeg :: st) hw
      · cases hw
    · rw [if_neg k2] at hw
      split at hw
      · rename_i hc
        obtain ⟨c1, c2, c3⟩ := hc
        obtain ⟨b, a, r, rfl⟩ : ∃ b a r, st = b :: a :: r := by
          cases st with
          | nil => simp at c1
          | cons b st => cases st with
            | nil => simp at c1
            | cons a r => exact ⟨b, a, r, rfl⟩
        simp only [List.length_cons] at hw
        rw [show r.length + 1 + 1 - 1 = r.length + 1 by omega] at hw
        rw [List.cons_append, List.cons_append]
        by_cases h5 : k = 5 ∧ b = 0
        · obtain ⟨rfl, h0⟩ := h5
          rw [mCs_n V h0, mCs_n V h0]; rfl
        · rw [mCs_o V (by omega) (by omega) h5, mCs_o V (by omega) (by omega) h5, ← List.cons_append]
          exact ih (st := mOp k a b :: r) hw
      · cases hw
def mMp (p : Nat × Int32) : Int32 × Int32 := (nI p.1, p.2)
section MLW
variable {d : Nat} {xL : Nat} {I : Nat → Nat → Int32} {J : Nat → Nat → Int64} {rc rx rr : Nat} {Q : Option Value → mHp → Prop}
theorem m_load {q to : Nat} (hq : q < to) (hs : to ≤ 840) (f t : Int32) (v5 v6 v7 : Value) :
    WP d 178 5 [.ref 180, .int f, .int (nI to), .int t, .int (nI q), v5, v6, v7] [] (mHh xL I J (mRf rc rx rr)) Q = WP d 178 20 [.ref 180, .int f, .int (nI to), .int t, .int (nI q), .int (I 207 q), v6, v7] [] (mHh xL I J (mRf rc rx rr)) Q := by
  have h1 : ¬ nI to ≤ nI q := nI_ge hq (by omega)
  have h2 : mIn (nI q) 840 = true := mIn_nI (by omega) (by omega)
  have h3 : (nI q).toNatClampNeg = q := nI_clamp (by omega)
  simp only [w178_5, w178_7, w178_8, w178_11, w178_12, w178_15, w178_17, w178_18, h1, h2, h3, ↓reduceIte, Option.toList_some, Option.toList_none, List.cons_append, List.nil_append, Int32.reduceAdd, Int32.reduceLT, Int32.reduceLE, Int32.reduceToNatClampNeg]
theorem m_int {k q : Nat} (hk : k < 400) (hq : q < 840) (f to : Int32) (v6 v7 : Value) :
    WP d 178 20 [.ref 180, .int f, .int to, .int (nI k), .int (nI q), .int (nI 0), v6, v7] [] (mHh xL I J (mRf rc rx rr)) Q = WP d 178 5 [.ref 180, .int f, .int to, .int (nI (k + 1)), .int (nI (q + 1)), .int (nI 0), v6, v7] [] (mHh xL (mU I 211 k (I 208 q)) J (mRf rc rx rr)) Q := by
  have h2 : mIn (nI q) 840 = true := mIn_nI (by omega) (by omega)
  have h3 : (nI q).toNatClampNeg = q := nI_clamp (by omega)
  have h4 : mIn (nI k) 400 = true := mIn_nI (by omega) (by omega)
  have h5 : (nI k).toNatClampNeg = k := nI_clamp (by omega)
  have k3 : lyK 211 = 1 := by decide +kernel
  have k4 : lyN 211 = 400 := by decide +kernel
  rw [nI_0]
  simp only [w178_20, w178_22, w178_23, w178_26, w178_27, w178_30, w178_31, w178_33, w178_36, w178_37, w178_40, w178_42, w178_43, w178_58, w178_59, w178_62, w178_159, w178_162, h2, h3, h4, h5, k3, k4, nI_1, ↓reduceIte, Option.toList_some, Option.toList_none, List.cons_append, List.nil_append, Int32.reduceAdd, Int32.reduceLT, Int32.reduceLE, Int32.reduceToNatClampNeg]
theorem m_var {k q i : Nat} (hk : k < 400) (hq : q < 840) (hi : i < 9) (e : I 208 q = nI i) (f to : Int32) (v6 v7 : Value) :
    WP d 178 20 [.ref 180, .int f, .int to, .int (nI k), .int (nI q), .int (nI 1), v6, v7] [] (mHh xL I J (mRf rc rx rr)) Q = WP d 178 5 [.ref 180, .int f, .int to, .int (nI (k + 1)), .int (nI (q + 1)), .int (nI 1), v6, v7] [] (mHh xL (mU I 211 k (I 210 i)) J (mRf rc rx rr)) Q := by
  have h2 : mIn (nI q) 840 = true := mIn_nI (by omega) (by omega)
  have h3 : (nI q).toNatClampNeg = q := nI_clamp (by omega)
  have h4 : mIn (nI k) 400 = true := mIn_nI (by omega) (by omega)
  have h5 : (nI k).toNatClampNeg = k := nI_clamp (by omega)
  have h6 : mIn (nI i) 9 = true := mIn_nI (by omega) (by omega)
  have h7 : (nI i).toNatClampNeg = i := nI_clamp (by omega)
  have k3 : lyK 211 = 1 := by decide +kernel
  have k4 : lyN 211 = 400 := by decide +kernel
  have e1 : nI 1 = 1 := rfl
  have e2 : ((1 : Int32) = 0) = False := by simp
  rw [e1]
  simp only [w178_20, w178_22, w178_23, w178_26, w178_27, w178_30, w178_31, w178_33, w178_46, w178_47, w178_50, w178_51, w178_54, w178_56, w178_57, w178_58, w178_59, w178_62, w178_159, w178_162, e, e2, h2, h3, h4, h5, h6, h7, k3, k4, nI_1, ↓reduceIte, Option.toList_some, Option.toList_none, List.cons_append, List.nil_append, Int32.reduceAdd, Int32.reduceLT, Int32.reduceLE, Int32.reduceToNatClampNeg]
theorem m_bin {k q : Nat} (hk : k + 1 < 400) (f to : Int32) (v6 v7 : Value) (s : Nat) (ho : s = 2 ∨ s = 3 ∨ s = 4) :
    WP d 178 20 [.ref 180, .int f, .int to, .int (nI (k + 2)), .int (nI q), .int (nI s), v6, v7] [] (mHh xL I J (mRf rc rx rr)) Q = WP d 178 5 [.ref 180, .int f, .int to, .int (nI (k + 1)), .int (nI (q + 1)), .int (nI s), .int (I 211 k), .int (I 211 (k + 1))] [] (mHh xL (mU I 211 k (mOp s (I 211 k) (I 211 (k + 1)))) J (mRf rc rx rr)) Q := by
  have h2 : mIn (nI k) 400 = true := mIn_nI (by omega) (by omega)
  have h3 : (nI k).toNatClampNeg = k := nI_clamp (by omega)
  have h4 : mIn (nI (k + 1)) 400 = true := mIn_nI (by omega) (by omega)
  have h5 : (nI (k + 1)).toNatClampNeg = k + 1 := nI_clamp (by omega)
  have k3 : lyK 211 = 1 := by decide +kernel
  have k4 : lyN 211 = 400 := by decide +kernel
  have p1 : nI (k + 2) + (-1) = nI (k + 1) := pk_m1 (k + 1)
  have e2 : nI 2 = 2 := rfl
  have e3 : nI 3 = 3 := rfl
  have e4 : nI 4 = 4 := rfl
  rcases ho with rfl | rfl | rfl
  · simp (config := { decide := true }) only [w178_20, w178_22, w178_23, w178_65, w178_68, w178_69, w178_72, w178_73, w178_74, w178_75, w178_76, w178_78, w178_79, w178_82, w178_83, w178_84, w178_86, w178_88, w178_89, w178_104, w178_105, w178_108, w178_109, w178_110, w178_111, w178_113, w178_114, w178_117, w178_119, w178_121, w178_122, w178_158, w178_159, w178_162, e2, p1, nI_pred, h2, h3, h4, h5, k3, k4, nI_1, mOp, ↓reduceIte, Option.toList_some, Option.toList_none, List.cons_append, List.nil_append, Int32.reduceAdd, Int32.reduceLT, Int32.reduceLE, Int32.reduceToNatClampNeg]
  · simp (config := { decide := true }) only [w178_20, w178_22, w178_23, w178_65, w178_68, w178_69, w178_72, w178_73, w178_74, w178_75, w178_76, w178_78, w178_79, w178_82, w178_83, w178_84, w178_86, w178_88, w178_89, w178_104, w178_105, w178_108, w178_109, w178_110, w178_111, w178_113, w178_114, w178_125, w178_127, w178_128, w178_131, w178_133, w178_135, w178_136, w178_158, w178_159, w178_162, e3, p1, nI_pred, h2, h3, h4, h5, k3, k4, nI_1, mOp, ↓reduceIte, Option.toList_some, Option.toList_none, List.cons_append, List.nil_append, Int32.reduceAdd, Int32.reduceLT, Int32.reduceLE, Int32.reduceToNatClampNeg]
  · simp (config := { decide := true }) only [w178_20, w178_22, w178_23, w178_65, w178_68, w178_69, w178_72, w178_73, w178_74, w178_75, w178_76, w178_78, w178_79, w178_82, w178_83, w178_84, w178_86, w178_88, w178_89, w178_104, w178_105, w178_108, w178_109, w178_110, w178_111, w178_113, w178_114, w178_125, w178_127, w178_128, w178_139, w178_141, w178_142, w178_145, w178_147, w178_149, w178_150, w178_158, w178_159, w178_162, e4, p1, nI_pred, h2, h3, h4, h5, k3, k4, nI_1, mOp, ↓reduceIte, Option.toList_some, Option.toList_none, List.cons_append, List.nil_append, Int32.reduceAdd, Int32.reduceLT, Int32.reduceLE, Int32.reduceToNatClampNeg]
theorem m_div {k q : Nat} (hk : k + 1 < 400) (f to : Int32) (v6 v7 : Value) :
    WP d 178 20 [.ref 180, .int f, .int to, .int (nI (k + 2)), .int (nI q), .int (nI 5), v6, v7] [] (mHh xL I J (mRf rc rx rr)) Q = if I 211 (k + 1) = 0 then Q (some (.int 0)) (mHh xL (mU I 180 48 1) J (mRf rc rx rr)) else WP d 178 5 [.ref 180, .int f, .int to, .int (nI (k + 1)), .int (nI (q + 1)), .int (nI 5), .int (I 211 k), .int (I 211 (k + 1))] [] (mHh xL (mU I 211 k (I 211 k / I 211 (k + 1))) J (mRf rc rx rr)) Q := by
  have h2 : mIn (nI k) 400 = true := mIn_nI (by omega) (by omega)
  have h3 : (nI k).toNatClampNeg = k := nI_clamp (by omega)
  have h4 : mIn (nI (k + 1)) 400 = true := mIn_nI (by omega) (by omega)
  have h5 : (nI (k + 1)).toNatClampNeg = k + 1 := nI_clamp (by omega)
  have k3 : lyK 211 = 1 := by decide +kernel
  have k4 : lyN 211 = 400 := by decide +kernel
  have p1 : nI (k + 2) + (-1) = nI (k + 1) := pk_m1 (k + 1)
  have e5 : nI 5 = 5 := rfl
  rw [e5]
  simp (config := { decide := true }) only [w178_20, w178_22, w178_23, w178_65, w178_68, w178_69, w178_72, w178_73, w178_74, w178_75, w178_76, w178_78, w178_79, w178_82, w178_83, w178_84, w178_86, w178_88, w178_89, w178_92, w178_94, p1, nI_pred, h2, h3, h4, h5, k3, k4, ↓reduceIte, Option.toList_some, Option.toList_none, List.cons_append, List.nil_append, Int32.reduceAdd, Int32.reduceLT, Int32.reduceLE, Int32.reduceToNatClampNeg]
  split
  · simp only [w178_97, w178_98, w178_99, w178_102, w178_103]
  · rename_i h0
    simp (config := { decide := true }) only [w178_104, w178_105, w178_108, w178_109, w178_110, w178_111, w178_113, w178_114, w178_125, w178_127, w178_128, w178_139, w178_141, w178_142, w178_153, w178_155, w178_157, w178_158, w178_159, w178_162, nI_pred, h2, h3, k3, k4, h0, nI_1, not_false_eq_true, ↓reduceIte, Option.toList_some, Option.toList_none, List.cons_append, List.nil_append, Int32.reduceAdd, Int32.reduceLT, Int32.reduceLE, Int32.reduceToNatClampNeg]
end MLW
