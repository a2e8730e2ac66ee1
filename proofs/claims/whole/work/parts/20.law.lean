/-! A law's code: what it tells, and how the glass reckons it. -/
abbrev mCod := List (Nat × Int32)
def mOp (k : Nat) (a b : Int32) : Int32 := if k = 2 then a + b else if k = 3 then a - b else if k = 4 then a * b else a / b
def mCs (V : Nat → Int32) : mCod → List Int32 → Option (List Int32)
  | [], st => some st
  | (k, v) :: c, st => if k = 0 then mCs V c (v :: st) else if k = 1 then mCs V c (V v.toNatClampNeg :: st) else match st with
    | b :: a :: r => if k = 5 ∧ b = 0 then none else mCs V c (mOp k a b :: r)
    | _ => none
/-- the height behind a code; 16 at most on the way -/
def mCw : mCod → Nat → Option Nat
  | [], n => some n
  | (k, v) :: c, n => if k < 2 then (if n < 16 ∧ ¬ v < 0 ∧ (k = 1 → v < 9) then mCw c (n + 1) else none) else if 2 ≤ n ∧ k < 6 then mCw c (n - 1) else none
def mXs (ms : Nat → Bool) (p : Nat × Int32) : Int32 × Int32 := if p.1 = 0 then (4, p.2) else if p.1 = 1 then (if ms p.2.toNatClampNeg then (5, p.2) else (4, 0)) else if p.1 = 2 then (43, 0) else if p.1 = 3 then (45, 0) else if p.1 = 4 then (42, 0) else (47, 0)
def mXa (S N : Nat → Int32) : List (Int32 × Int32) → Nat → Prop
  | [], _ => True
  | p :: c, q => S q = p.1 ∧ N q = p.2 ∧ mXa S N c (q + 1)
def mXt (W : Nat → Int32) : List Int32 → Prop
  | [] => True
  | x :: r => W r.length = x ∧ mXt W r
theorem mXt_keep {W W' : Nat → Int32} : ∀ {st : List Int32} {n : Nat}, st.length ≤ n → (∀ k, k < n → W' k = W k) → mXt W st → mXt W' st := by
  intro st
  induction st with
  | nil => intro n _ _ _; trivial
  | cons x r ih =>
    intro n hn h hw
    simp only [List.length_cons] at hn
    exact ⟨by rw [h _ (by omega)]; exact hw.1, ih (n := n) (by omega) h hw.2⟩
section LAW
variable {d : Nat} {xL : Nat} {I : Nat → Nat → Int32} {J : Nat → Nat → Int64} {rc rx rr : Nat} {Q : Option Value → mHp → Prop} {l : Nat}
theorem x_load (hl : mLa l) {q sz : Nat} (hq : q < sz) (hs : sz ≤ 400) (e : I l 3 = nI sz) (t : Int32) (v4 v5 v6 v7 : Value) :
    WP d 7 4 [.ref 37, .ref l, .int t, .int (nI q), v4, v5, v6, v7] [] (mHh xL I J (mRf rc rx rr)) Q = WP d 7 28 [.ref 37, .ref l, .int t, .int (nI q), .int (I (l + 1) q), .int (I (l + 2) q), v6, v7] [] (mHh xL I J (mRf rc rx rr)) Q := by
  obtain ⟨-, -, k3, k4, k5, k6, -⟩ := la_k hl
  have h1 : ¬ nI sz ≤ nI q := nI_ge hq (by omega)
  have h2 : mIn (nI q) 400 = true := mIn_nI (by omega) (by omega)
  have h3 : (nI q).toNatClampNeg = q := nI_clamp (by omega)
  simp only [w7_4, w7_5, w7_6, w7_9, w7_12, w7_13, w7_16, w7_17, w7_18, w7_20, w7_21, w7_24, w7_25, w7_26, hl, e, h1, k3, k4, k5, k6, h2, h3, ↓reduceIte, Option.toList_some, Option.toList_none, List.cons_append, List.nil_append, Int32.reduceAdd, Int32.reduceLT, Int32.reduceLE, Int32.reduceToNatClampNeg]
theorem x_end (hl : mLa l) {q sz : Nat} (hq : sz ≤ q) (hs : q ≤ 400) (e : I l 3 = nI sz) (t : Int32) (v4 v5 v6 v7 : Value) :
    WP d 7 4 [.ref 37, .ref l, .int t, .int (nI q), v4, v5, v6, v7] [] (mHh xL I J (mRf rc rx rr)) Q = WP d 7 258 [.ref 37, .ref l, .int t, .int (nI q), v4, v5, v6, v7] [] (mHh xL I J (mRf rc rx rr)) Q := by
  have h1 : nI sz ≤ nI q := nI_le hq (by omega)
  simp only [w7_4, w7_5, w7_6, w7_9, hl, e, h1, ↓reduceIte, Option.toList_some, Option.toList_none, List.cons_append, List.nil_append, Int32.reduceAdd, Int32.reduceLT, Int32.reduceLE, Int32.reduceToNatClampNeg]
theorem x_top {k : Nat} (hk : k < 16) (v1 v3 v4 v5 v6 v7 : Value) : WP d 7 258 [.ref 37, v1, .int (nI (k + 1)), v3, v4, v5, v6, v7] [] (mHh xL I J (mRf rc rx rr)) Q = Q (some (.int (I 39 k))) (mHh xL I J (mRf rc rx rr)) := by
  have h1 : ¬ nI (k + 1) ≤ 0 := nI_nle (by omega) (by omega)
  have h2 : mIn (nI k) 16 = true := mIn_nI (by omega) (by omega)
  have h3 : (nI k).toNatClampNeg = k := nI_clamp (by omega)
  simp only [w7_258, w7_259, w7_262, w7_263, w7_266, w7_267, w7_268, w7_269, w7_270, w7_274, nI_pred, h1, h2, h3, ↓reduceIte, Option.toList_some, Option.toList_none, List.cons_append, List.nil_append, Int32.reduceAdd, Int32.reduceLT, Int32.reduceLE, Int32.reduceToNatClampNeg]
theorem x_int {n : Int32} (hn : ¬ n < 0) {k : Nat} (hk : k < 16) (q : Nat) (v6 v7 : Value) :
    WP d 7 28 [.ref 37, .ref l, .int (nI k), .int (nI q), .int 4, .int n, v6, v7] [] (mHh xL I J (mRf rc rx rr)) Q = WP d 7 4 [.ref 37, .ref l, .int (nI (k + 1)), .int (nI (q + 1)), .int 4, .int n, v6, v7] [] (mHh xL (mU I 39 k n) J (mRf rc rx rr)) Q := by
  have h1 : ¬ 16 ≤ nI k := by rw [ni_le 16 (by decide) (by omega)]; omega
  have h2 : mIn (nI k) 16 = true := mIn_nI hk (by omega)
  have h3 : (nI k).toNatClampNeg = k := nI_clamp (by omega)
  have k3 : lyK 39 = 1 := by decide +kernel
  have k4 : lyN 39 = 16 := by decide +kernel
  have e1 : ((4 : Int32) = 5) = False := by simp
  simp only [w7_28, w7_30, w7_31, w7_40, w7_41, w7_43, w7_46, w7_48, w7_51, w7_53, w7_54, w7_66, w7_67, w7_70, w7_71, w7_73, w7_74, w7_77, w7_79, w7_89, w7_90, w7_93, w7_252, w7_255, h1, h2, h3, hn, k3, k4, e1, nI_1, ↓reduceIte, Option.toList_some, Option.toList_none, List.cons_append, List.nil_append, Int32.reduceAdd, Int32.reduceLT, Int32.reduceLE, Int32.reduceToNatClampNeg]
theorem x_var {i : Nat} (hi : i < 9) {k : Nat} (hk : k < 16) (q : Nat) (v6 v7 : Value) :
    WP d 7 28 [.ref 37, .ref l, .int (nI k), .int (nI q), .int 5, .int (nI i), v6, v7] [] (mHh xL I J (mRf rc rx rr)) Q = WP d 7 4 [.ref 37, .ref l, .int (nI (k + 1)), .int (nI (q + 1)), .int 5, .int (nI i), v6, v7] [] (mHh xL (mU I 39 k (I 38 i)) J (mRf rc rx rr)) Q := by
  have h1 : ¬ 16 ≤ nI k := by rw [ni_le 16 (by decide) (by omega)]; omega
  have h2 : mIn (nI k) 16 = true := mIn_nI hk (by omega)
  have h3 : (nI k).toNatClampNeg = k := nI_clamp (by omega)
  have h4 : mIn (nI i) 9 = true := mIn_nI hi (by omega)
  have h5 : (nI i).toNatClampNeg = i := nI_clamp (by omega)
  have h6 : ¬ nI i < 0 := nI_pos (by omega)
  have h7 : nI i < 9 := by rw [in_lt 9 (by decide) (by omega)]; omega
  have k3 : lyK 39 = 1 := by decide +kernel
  have k4 : lyN 39 = 16 := by decide +kernel
  have e1 : ((5 : Int32) = 4) = False := by simp
  simp only [w7_28, w7_30, w7_31, w7_34, w7_36, w7_37, w7_40, w7_41, w7_43, w7_46, w7_48, w7_51, w7_53, w7_54, w7_57, w7_59, w7_61, w7_66, w7_67, w7_70, w7_71, w7_73, w7_74, w7_82, w7_83, w7_86, w7_88, w7_89, w7_90, w7_93, w7_252, w7_255, h1, h2, h3, h4, h5, h6, h7, k3, k4, e1, nI_1, ↓reduceIte, Option.toList_some, Option.toList_none, List.cons_append, List.nil_append, Int32.reduceAdd, Int32.reduceLT, Int32.reduceLE, Int32.reduceToNatClampNeg]
theorem x_bin {k : Nat} (hk : k + 1 < 16) (q : Nat) (v6 v7 : Value) (s o : Int32) (n : Int32) (ho : (s = 43 ∧ o = 0) ∨ (s = 45 ∧ o = 1) ∨ (s = 42 ∧ o = 2)) :
    WP d 7 28 [.ref 37, .ref l, .int (nI (k + 2)), .int (nI q), .int s, .int n, v6, v7] [] (mHh xL I J (mRf rc rx rr)) Q = WP d 7 4 [.ref 37, .ref l, .int (nI (k + 1)), .int (nI (q + 1)), .int s, .int n, .int (I 39 k), .int (I 39 (k + 1))] [] (mHh xL (mU I 39 k (if o = 0 then I 39 k + I 39 (k + 1) else if o = 1 then I 39 k - I 39 (k + 1) else I 39 k * I 39 (k + 1))) J (mRf rc rx rr)) Q := by
  have h1 : 2 ≤ nI (k + 2) := by rw [ni_le 2 (by decide) (by omega)]; omega
  have h2 : mIn (nI k) 16 = true := mIn_nI (by omega) (by omega)
  have h3 : (nI k).toNatClampNeg = k := nI_clamp (by omega)
  have h4 : mIn (nI (k + 1)) 16 = true := mIn_nI (by omega) (by omega)
  have h5 : (nI (k + 1)).toNatClampNeg = k + 1 := nI_clamp (by omega)
  have k3 : lyK 39 = 1 := by decide +kernel
  have k4 : lyN 39 = 16 := by decide +kernel
  have p1 : nI (k + 2) + (-1) = nI (k + 1) := pk_m1 (k + 1)
  rcases ho with ⟨rfl, rfl⟩ | ⟨rfl, rfl⟩ | ⟨rfl, rfl⟩
  · simp (config := { decide := true }) only [w7_28, w7_30, w7_31, w7_34, w7_36, w7_37, w7_96, w7_98, w7_100, w7_103, w7_104, w7_105, w7_111, w7_114, w7_115, w7_118, w7_119, w7_120, w7_121, w7_122, w7_124, w7_125, w7_128, w7_129, w7_130, w7_132, w7_134, w7_136, w7_163, w7_165, w7_167, w7_170, w7_171, w7_174, w7_175, w7_176, w7_177, w7_179, w7_181, w7_182, w7_183, w7_252, w7_255, h1, p1, nI_pred, h2, h3, h4, h5, k3, k4, nI_1, ↓reduceIte, Option.toList_some, Option.toList_none, List.cons_append, List.nil_append, Int32.reduceAdd, Int32.reduceLT, Int32.reduceLE, Int32.reduceToNatClampNeg]
  · simp (config := { decide := true }) only [w7_28, w7_30, w7_31, w7_34, w7_36, w7_37, w7_96, w7_98, w7_100, w7_103, w7_104, w7_105, w7_111, w7_114, w7_115, w7_118, w7_119, w7_120, w7_121, w7_122, w7_124, w7_125, w7_128, w7_129, w7_130, w7_132, w7_134, w7_136, w7_163, w7_165, w7_167, w7_186, w7_188, w7_190, w7_193, w7_194, w7_197, w7_198, w7_199, w7_200, w7_202, w7_204, w7_205, w7_206, w7_252, w7_255, h1, p1, nI_pred, h2, h3, h4, h5, k3, k4, nI_1, ↓reduceIte, Option.toList_some, Option.toList_none, List.cons_append, List.nil_append, Int32.reduceAdd, Int32.reduceLT, Int32.reduceLE, Int32.reduceToNatClampNeg]
  · simp (config := { decide := true }) only [w7_28, w7_30, w7_31, w7_34, w7_36, w7_37, w7_96, w7_98, w7_100, w7_103, w7_104, w7_105, w7_111, w7_114, w7_115, w7_118, w7_119, w7_120, w7_121, w7_122, w7_124, w7_125, w7_128, w7_129, w7_130, w7_132, w7_134, w7_136, w7_163, w7_165, w7_167, w7_186, w7_188, w7_190, w7_209, w7_211, w7_213, w7_216, w7_217, w7_220, w7_221, w7_222, w7_223, w7_225, w7_227, w7_228, w7_229, w7_252, w7_255, h1, p1, nI_pred, h2, h3, h4, h5, k3, k4, nI_1, ↓reduceIte, Option.toList_some, Option.toList_none, List.cons_append, List.nil_append, Int32.reduceAdd, Int32.reduceLT, Int32.reduceLE, Int32.reduceToNatClampNeg]
theorem x_div {k : Nat} (hk : k + 1 < 16) (q : Nat) (v6 v7 : Value) (n : Int32) :
    WP d 7 28 [.ref 37, .ref l, .int (nI (k + 2)), .int (nI q), .int 47, .int n, v6, v7] [] (mHh xL I J (mRf rc rx rr)) Q = if I 39 (k + 1) = 0 then Q (some (.int 0)) (mHh xL I J (mRf rc rx rr)) else WP d 7 4 [.ref 37, .ref l, .int (nI (k + 1)), .int (nI (q + 1)), .int 47, .int n, .int (I 39 k), .int (I 39 (k + 1))] [] (mHh xL (mU I 39 k (I 39 k / I 39 (k + 1))) J (mRf rc rx rr)) Q := by
  have h1 : 2 ≤ nI (k + 2) := by rw [ni_le 2 (by decide) (by omega)]; omega
  have h2 : mIn (nI k) 16 = true := mIn_nI (by omega) (by omega)
  have h3 : (nI k).toNatClampNeg = k := nI_clamp (by omega)
  have h4 : mIn (nI (k + 1)) 16 = true := mIn_nI (by omega) (by omega)
  have h5 : (nI (k + 1)).toNatClampNeg = k + 1 := nI_clamp (by omega)
  have k3 : lyK 39 = 1 := by decide +kernel
  have k4 : lyN 39 = 16 := by decide +kernel
  have p1 : nI (k + 2) + (-1) = nI (k + 1) := pk_m1 (k + 1)
  simp (config := { decide := true }) only [w7_28, w7_30, w7_31, w7_34, w7_36, w7_37, w7_96, w7_98, w7_100, w7_103, w7_104, w7_105, w7_111, w7_114, w7_115, w7_118, w7_119, w7_120, w7_121, w7_122, w7_124, w7_125, w7_128, w7_129, w7_130, w7_132, w7_134, w7_136, w7_163, w7_165, w7_167, w7_186, w7_188, w7_190, w7_209, w7_211, w7_213, w7_232, w7_234, h1, p1, nI_pred, h2, h3, h4, h5, k3, k4, ↓reduceIte, Option.toList_some, Option.toList_none, List.cons_append, List.nil_append, Int32.reduceAdd, Int32.reduceLT, Int32.reduceLE, Int32.reduceToNatClampNeg]
  split
  · simp only [w7_237, w7_238]
  · rename_i h0
    simp only [w7_239, w7_240, w7_243, w7_244, w7_245, w7_246, w7_248, w7_250, w7_251, w7_252, w7_255, nI_pred, h2, h3, k3, k4, h0, nI_1, not_false_eq_true]
theorem x_unl {k : Nat} (hk : k + 1 < 16) (q t : Nat) (ht : q ≤ t) (ht2 : t < 400) (v6 v7 : Value) :
    WP (d + 1) 7 28 [.ref 37, .ref l, .int (nI (k + 2)), .int (nI q), .int 6, .int (nI t), v6, v7] [] (mHh xL I J (mRf rc rx rr)) Q = WP (d + 1) 7 4 [.ref 37, .ref l, .int (nI k), .int (nI (if I 39 k < I 39 (k + 1) then q + 1 else t + 1)), .int 6, .int (nI t), .int (I 39 k), .int (I 39 (k + 1))] [] (mHh xL I J (mRf rc rx rr)) Q := by
  have h1 : 2 ≤ nI (k + 2) := by rw [ni_le 2 (by decide) (by omega)]; omega
  have h2 : mIn (nI k) 16 = true := mIn_nI (by omega) (by omega)
  have h3 : (nI k).toNatClampNeg = k := nI_clamp (by omega)
  have h4 : mIn (nI (k + 1)) 16 = true := mIn_nI (by omega) (by omega)
  have h5 : (nI (k + 1)).toNatClampNeg = k + 1 := nI_clamp (by omega)
  have k3 : lyK 39 = 1 := by decide +kernel
  have k4 : lyN 39 = 16 := by decide +kernel
  have p1 : nI (k + 2) + (-1) = nI (k + 1) := pk_m1 (k + 1)
  have p2 : nI (k + 1) + (-1) = nI k := pk_m1 k
  simp (config := { decide := true }) only [w7_28, w7_30, w7_31, w7_34, w7_36, w7_37, w7_96, w7_98, w7_100, w7_103, w7_104, w7_105, w7_111, w7_114, w7_115, w7_118, w7_119, w7_120, w7_121, w7_122, w7_124, w7_125, w7_128, w7_129, w7_130, w7_132, w7_134, w7_136, w7_139, w7_142, w7_144, w7_146, h1, p1, p2, nI_pred, h2, h3, h4, h5, k3, k4, ↓reduceIte, Option.toList_some, Option.toList_none, List.cons_append, List.nil_append, Int32.reduceAdd, Int32.reduceLT, Int32.reduceLE, Int32.reduceToNatClampNeg]
  split
  · rename_i h0
    have h0' : ¬ I 39 k < I 39 (k + 1) := by rw [Int32.lt_iff_toInt_lt]; rw [Int32.le_iff_toInt_le] at h0; omega
    have e : (if nI q < nI t then nI t else nI q) = nI t := by
      by_cases c : q = t
      · subst c; split <;> rfl
      · rw [if_pos (nI_lt (by omega) (by omega))]
    simp only [w7_153, w7_154, w7_156, e, w7_159, w7_160, w7_252, w7_255, nI_1, h0', ↓reduceIte]
  · rename_i h0
    have h0' : I 39 k < I 39 (k + 1) := by rw [Int32.lt_iff_toInt_lt]; rw [Int32.le_iff_toInt_le] at h0; omega
    simp only [w7_149, w7_150, w7_159, w7_160, w7_252, w7_255, nI_1, h0', ↓reduceIte]
theorem x_ans (t q n : Int32) (v6 v7 : Value) :
    WP d 7 28 [.ref 37, .ref l, .int t, .int q, .int 7, .int n, v6, v7] [] (mHh xL I J (mRf rc rx rr)) Q = WP d 7 258 [.ref 37, .ref l, .int t, .int q, .int 7, .int n, v6, v7] [] (mHh xL I J (mRf rc rx rr)) Q := by
  simp (config := { decide := true }) only [w7_28, w7_30, w7_31, w7_34, w7_36, w7_37, w7_96, w7_98, w7_100, ↓reduceIte, Option.toList_some, Option.toList_none, List.cons_append, List.nil_append, Int32.reduceAdd, Int32.reduceLT, Int32.reduceLE, Int32.reduceToNatClampNeg]
end LAW
