/-! A law's code: what it tells, and how the glass reckons it. -/
abbrev mCod := List (Nat × Int32)
def mOp (k : Nat) (a b : Int32) : Int32 := if k = 2 then a + b else if k = 3 then a - b else if k = 4 then a * b else a / b
def mCt (V : Nat → Int32) (k : Nat) (v : Int32) (st : List Int32) : Option (List Int32) := if k = 0 then some (v :: st) else if k = 1 then some (V v.toNatClampNeg :: st) else match st with
  | b :: a :: r => if k = 5 ∧ b = 0 then none else some (mOp k a b :: r)
  | _ => none
def mCs (V : Nat → Int32) : mCod → List Int32 → Option (List Int32)
  | [], st => some st
  | p :: c, st => match mCt V p.1 p.2 st with
    | none => none
    | some st' => mCs V c st'
theorem mCs_0 (V : Nat → Int32) (v : Int32) (c : mCod) (st : List Int32) : mCs V ((0, v) :: c) st = mCs V c (v :: st) := rfl
theorem mCs_1 (V : Nat → Int32) (v : Int32) (c : mCod) (st : List Int32) : mCs V ((1, v) :: c) st = mCs V c (V v.toNatClampNeg :: st) := rfl
theorem mCs_o (V : Nat → Int32) {k : Nat} (h0 : ¬ k = 0) (h1 : ¬ k = 1) {a b : Int32} (h5 : ¬ (k = 5 ∧ b = 0)) (v : Int32) (c : mCod) (r : List Int32) : mCs V ((k, v) :: c) (b :: a :: r) = mCs V c (mOp k a b :: r) := by
  have e : mCt V k v (b :: a :: r) = some (mOp k a b :: r) := by unfold mCt; rw [if_neg h0, if_neg h1]; show (if k = 5 ∧ b = 0 then none else some (mOp k a b :: r)) = _; rw [if_neg h5]
  show (match mCt V k v (b :: a :: r) with | none => none | some st' => mCs V c st') = _
  rw [e]
theorem mCs_n (V : Nat → Int32) {a b : Int32} (h5 : b = 0) (v : Int32) (c : mCod) (r : List Int32) : mCs V ((5, v) :: c) (b :: a :: r) = none := by
  subst h5; rfl
/-- the height behind a code; 16 at most on the way -/
def mCw : mCod → Nat → Option Nat
  | [], n => some n
  | (k, v) :: c, n => if k < 2 then (if n < 16 ∧ ¬ v < 0 ∧ (k = 1 → v < 9) then mCw c (n + 1) else none) else if 2 ≤ n ∧ n ≤ 16 ∧ k < 6 then mCw c (n - 1) else none
def mXs (ms : Nat → Bool) (p : Nat × Int32) : Int32 × Int32 := if p.1 = 0 then (4, p.2) else if p.1 = 1 then (if ms p.2.toNatClampNeg then (5, p.2) else (4, 0)) else if p.1 = 2 then (43, 0) else if p.1 = 3 then (45, 0) else if p.1 = 4 then (42, 0) else (47, 0)
def mXa (S N : Nat → Int32) : List (Int32 × Int32) → Nat → Prop
  | [], _ => True
  | p :: c, q => S q = p.1 ∧ N q = p.2 ∧ mXa S N c (q + 1)
def mXt (W : Nat → Int32) : List Int32 → Prop
  | [] => True
  | x :: r => W r.length = x ∧ mXt W r
theorem mXt_keep {W W' : Nat → Int32} : ∀ {st : List Int32} {n : Nat}, st.length ≤ n → (∀ k, k < n → W' k = W k) → mXt W st → mXt W' st := by
  intro st
  induction st with
  | nil => intro n _ _ _; trivial
  | cons x r ih =>
    intro n hn h hw
    simp only [List.length_cons] at hn
    exact ⟨by rw [h _ (by omega)]; exact hw.1, ih (n := n) (by omega) h hw.2⟩
section LAW
variable {d : Nat} {xL : Nat} {I : Nat → Nat → Int32} {J : Nat → Nat → Int64} {rc rx rr : Nat} {Q : Option Value → mHp → Prop} {l : Nat}
theorem x_load (hl : mLa l) {q sz : Nat} (hq : q < sz) (hs : sz ≤ 400) (e : I l 3 = nI sz) (t : Int32) (v4 v5 v6 v7 : Value) :
    WP d 7 4 [.ref 37, .ref l, .int t, .int (nI q), v4, v5, v6, v7] [] (mHh xL I J (mRf rc rx rr)) Q = WP d 7 28 [.ref 37, .ref l, .int t, .int (nI q), .int (I (l + 1) q), .int (I (l + 2) q), v6, v7] [] (mHh xL I J (mRf rc rx rr)) Q := by
  obtain ⟨-, -, k3, k4, k5, k6, -⟩ := la_k hl
  have h1 : ¬ nI sz ≤ nI q := nI_ge hq (by omega)
  have h2 : mIn (nI q) 400 = true := mIn_nI (by omega) (by omega)
  have h3 : (nI q).toNatClampNeg = q := nI_clamp (by omega)
  simp only [w7_4, w7_5, w7_6, w7_9, w7_12, w7_13, w7_16, w7_17, w7_18, w7_20, w7_21, w7_24, w7_25, w7_26, hl, e, h1, k3, k4, k5, k6, h2, h3, ↓reduceIte, Option.toList_some, Option.toList_none, List.cons_append, List.nil_append, Int32.reduceAdd, Int32.reduceLT, Int32.reduceLE, Int32.reduceToNatClampNeg]
theorem x_end (hl : mLa l) {q sz : Nat} (hq : sz ≤ q) (hs : q ≤ 400) (e : I l 3 = nI sz) (t : Int32) (v4 v5 v6 v7 : Value) :
    WP d 7 4 [.ref 37, .ref l, .int t, .int (nI q), v4, v5, v6, v7] [] (mHh xL I J (mRf rc rx rr)) Q = WP d 7 258 [.ref 37, .ref l, .int t, .int (nI q), v4, v5, v6, v7] [] (mHh xL I J (mRf rc rx rr)) Q := by
  have h1 : nI sz ≤ nI q := nI_le hq (by omega)
  simp only [w7_4, w7_5, w7_6, w7_9, hl, e, h1, ↓reduceIte, Option.toList_some, Option.toList_none, List.cons_append, List.nil_append, Int32.reduceAdd, Int32.reduceLT, Int32.reduceLE, Int32.reduceToNatClampNeg]
theorem x_top {k : Nat} (hk : k < 16) (v1 v3 v4 v5 v6 v7 : Value) : WP d 7 258 [.ref 37, v1, .int (nI (k + 1)), v3, v4, v5, v6, v7] [] (mHh xL I J (mRf rc rx rr)) Q = Q (some (.int (I 39 k))) (mHh xL I J (mRf rc rx rr)) := by
  have h1 : ¬ nI (k + 1) ≤ 0 := nI_nle (by omega) (by omega)
  have h2 : mIn (nI k) 16 = true := mIn_nI (by omega) (by omega)
  have h3 : (nI k).toNatClampNeg = k := nI_clamp (by omega)
  simp only [w7_258, w7_259, w7_262, w7_263, w7_266, w7_267, w7_268, w7_269, w7_270, w7_274, nI_pred, h1, h2, h3, ↓reduceIte, Option.toList_some, Option.toList_none, List.cons_append, List.nil_append, Int32.reduceAdd, Int32.reduceLT, Int32.reduceLE, Int32.reduceToNatClampNeg]
theorem x_int {n : Int32} (hn : ¬ n < 0) {k : Nat} (hk : k < 16) (q : Nat) (v6 v7 : Value) :
    WP d 7 28 [.ref 37, .ref l, .int (nI k), .int (nI q), .int 4, .int n, v6, v7] [] (mHh xL I J (mRf rc rx rr)) Q = WP d 7 4 [.ref 37, .ref l, .int (nI (k + 1)), .int (nI (q + 1)), .int 4, .int n, v6, v7] [] (mHh xL (mU I 39 k n) J (mRf rc rx rr)) Q := by
  have h1 : ¬ 16 ≤ nI k := by rw [ni_le 16 (by decide) (by omega)]; omega
  have h2 : mIn (nI k) 16 = true := mIn_nI hk (by omega)
  have h3 : (nI k).toNatClampNeg = k := nI_clamp (by omega)
  have k3 : lyK 39 = 1 := by decide +kernel
  have k4 : lyN 39 = 16 := by decide +kernel
  have e1 : ((4 : Int32) = 5) = False := by simp
  simp only [w7_28, w7_30, w7_31, w7_40, w7_41, w7_43, w7_46, w7_48, w7_51, w7_53, w7_54, w7_66, w7_67, w7_70, w7_71, w7_73, w7_74, w7_77, w7_79, w7_89, w7_90, w7_93, w7_252, w7_255, h1, h2, h3, hn, k3, k4, e1, nI_1, ↓reduceIte, Option.toList_some, Option.toList_none, List.cons_append, List.nil_append, Int32.reduceAdd, Int32.reduceLT, Int32.reduceLE, Int32.reduceToNatClampNeg]
theorem x_var {i : Nat} (hi : i < 9) {k : Nat} (hk : k < 16) (q : Nat) (v6 v7 : Value) :
    WP d 7 28 [.ref 37, .ref l, .int (nI k), .int (nI q), .int 5, .int (nI i), v6, v7] [] (mHh xL I J (mRf rc rx rr)) Q = WP d 7 4 [.ref 37, .ref l, .int (nI (k + 1)), .int (nI (q + 1)), .int 5, .int (nI i), v6, v7] [] (mHh xL (mU I 39 k (I 38 i)) J (mRf rc rx rr)) Q := by
  have h1 : ¬ 16 ≤ nI k := by rw [ni_le 16 (by decide) (by omega)]; omega
  have h2 : mIn (nI k) 16 = true := mIn_nI hk (by omega)
  have h3 : (nI k).toNatClampNeg = k := nI_clamp (by omega)
  have h4 : mIn (nI i) 9 = true := mIn_nI hi (by omega)
  have h5 : (nI i).toNatClampNeg = i := nI_clamp (by omega)
  have h6 : ¬ nI i < 0 := nI_pos (by omega)
  have h7 : nI i < 9 := by rw [in_lt 9 (by decide) (by omega)]; omega
  have k3 : lyK 39 = 1 := by decide +kernel
  have k4 : lyN 39 = 16 := by decide +kernel
  have e1 : ((5 : Int32) = 4) = False := by simp
  simp only [w7_28, w7_30, w7_31, w7_34, w7_36, w7_37, w7_40, w7_41, w7_43, w7_46, w7_48, w7_51, w7_53, w7_54, w7_57, w7_59, w7_61, w7_66, w7_67, w7_70, w7_71, w7_73, w7_74, w7_82, w7_83, w7_86, w7_88, w7_89, w7_90, w7_93, w7_252, w7_255, h1, h2, h3, h4, h5, h6, h7, k3, k4, e1, nI_1, ↓reduceIte, Option.toList_some, Option.toList_none, List.cons_append, List.nil_append, Int32.reduceAdd, Int32.reduceLT, Int32.reduceLE, Int32.reduceToNatClampNeg]
theorem x_bin {k : Nat} (hk : k + 1 < 16) (q : Nat) (v6 v7 : Value) (s o : Int32) (n : Int32) (ho : (s = 43 ∧ o = 0) ∨ (s = 45 ∧ o = 1) ∨ (s = 42 ∧ o = 2)) :
    WP d 7 28 [.ref 37, .ref l, .int (nI (k + 2)), .int (nI q), .int s, .int n, v6, v7] [] (mHh xL I J (mRf rc rx rr)) Q = WP d 7 4 [.ref 37, .ref l, .int (nI (k + 1)), .int (nI (q + 1)), .int s, .int n, .int (I 39 k), .int (I 39 (k + 1))] [] (mHh xL (mU I 39 k (if o = 0 then I 39 k + I 39 (k + 1) else if o = 1 then I 39 k - I 39 (k + 1) else I 39 k * I 39 (k + 1))) J (mRf rc rx rr)) Q := by
  have h1 : 2 ≤ nI (k + 2) := by rw [ni_le 2 (by decide) (by omega)]; omega
  have h2 : mIn (nI k) 16 = true := mIn_nI (by omega) (by omega)
  have h3 : (nI k).toNatClampNeg = k := nI_clamp (by omega)
  have h4 : mIn (nI (k + 1)) 16 = true := mIn_nI (by omega) (by omega)
  have h5 : (nI (k + 1)).toNatClampNeg = k + 1 := nI_clamp (by omega)
  have k3 : lyK 39 = 1 := by decide +kernel
  have k4 : lyN 39 = 16 := by decide +kernel
  have p1 : nI (k + 2) + (-1) = nI (k + 1) := pk_m1 (k + 1)
  rcases ho with ⟨rfl, rfl⟩ | ⟨rfl, rfl⟩ | ⟨rfl, rfl⟩
  · simp (config := { decide := true }) only [w7_28, w7_30, w7_31, w7_34, w7_36, w7_37, w7_96, w7_98, w7_100, w7_103, w7_104, w7_105, w7_111, w7_114, w7_115, w7_118, w7_119, w7_120, w7_121, w7_122, w7_124, w7_125, w7_128, w7_129, w7_130, w7_132, w7_134, w7_136, w7_163, w7_165, w7_167, w7_170, w7_171, w7_174, w7_175, w7_176, w7_177, w7_179, w7_181, w7_182, w7_183, w7_252, w7_255, h1, p1, nI_pred, h2, h3, h4, h5, k3, k4, nI_1, ↓reduceIte, Option.toList_some, Option.toList_none, List.cons_append, List.nil_append, Int32.reduceAdd, Int32.reduceLT, Int32.reduceLE, Int32.reduceToNatClampNeg]
  · simp (config := { decide := true }) only [w7_28, w7_30, w7_31, w7_34, w7_36, w7_37, w7_96, w7_98, w7_100, w7_103, w7_104, w7_105, w7_111, w7_114, w7_115, w7_118, w7_119, w7_120, w7_121, w7_122, w7_124, w7_125, w7_128, w7_129, w7_130, w7_132, w7_134, w7_136, w7_163, w7_165, w7_167, w7_186, w7_188, w7_190, w7_193, w7_194, w7_197, w7_198, w7_199, w7_200, w7_202, w7_204, w7_205, w7_206, w7_252, w7_255, h1, p1, nI_pred, h2, h3, h4, h5, k3, k4, nI_1, ↓reduceIte, Option.toList_some, Option.toList_none, List.cons_append, List.nil_append, Int32.reduceAdd, Int32.reduceLT, Int32.reduceLE, Int32.reduceToNatClampNeg]
  · simp (config := { decide := true }) only [w7_28, w7_30, w7_31, w7_34, w7_36, w7_37, w7_96, w7_98, w7_100, w7_103, w7_104, w7_105, w7_111, w7_114, w7_115, w7_118, w7_119, w7_120, w7_121, w7_122, w7_124, w7_125, w7_128, w7_129, w7_130, w7_132, w7_134, w7_136, w7_163, w7_165, w7_167, w7_186, w7_188, w7_190, w7_209, w7_211, w7_213, w7_216, w7_217, w7_220, w7_221, w7_222, w7_223, w7_225, w7_227, w7_228, w7_229, w7_252, w7_255, h1, p1, nI_pred, h2, h3, h4, h5, k3, k4, nI_1, ↓reduceIte, Option.toList_some, Option.toList_none, List.cons_append, List.nil_append, Int32.reduceAdd, Int32.reduceLT, Int32.reduceLE, Int32.reduceToNatClampNeg]
theorem x_div {k : Nat} (hk : k + 1 < 16) (q : Nat) (v6 v7 : Value) (n : Int32) :
    WP d 7 28 [.ref 37, .ref l, .int (nI (k + 2)), .int (nI q), .int 47, .int n, v6, v7] [] (mHh xL I J (mRf rc rx rr)) Q = if I 39 (k + 1) = 0 then Q (some (.int 0)) (mHh xL I J (mRf rc rx rr)) else WP d 7 4 [.ref 37, .ref l, .int (nI (k + 1)), .int (nI (q + 1)), .int 47, .int n, .int (I 39 k), .int (I 39 (k + 1))] [] (mHh xL (mU I 39 k (I 39 k / I 39 (k + 1))) J (mRf rc rx rr)) Q := by
  have h1 : 2 ≤ nI (k + 2) := by rw [ni_le 2 (by decide) (by omega)]; omega
  have h2 : mIn (nI k) 16 = true := mIn_nI (by omega) (by omega)
  have h3 : (nI k).toNatClampNeg = k := nI_clamp (by omega)
  have h4 : mIn (nI (k + 1)) 16 = true := mIn_nI (by omega) (by omega)
  have h5 : (nI (k + 1)).toNatClampNeg = k + 1 := nI_clamp (by omega)
  have k3 : lyK 39 = 1 := by decide +kernel
  have k4 : lyN 39 = 16 := by decide +kernel
  have p1 : nI (k + 2) + (-1) = nI (k + 1) := pk_m1 (k + 1)
  simp (config := { decide := true }) only [w7_28, w7_30, w7_31, w7_34, w7_36, w7_37, w7_96, w7_98, w7_100, w7_103, w7_104, w7_105, w7_111, w7_114, w7_115, w7_118, w7_119, w7_120, w7_121, w7_122, w7_124, w7_125, w7_128, w7_129, w7_130, w7_132, w7_134, w7_136, w7_163, w7_165, w7_167, w7_186, w7_188, w7_190, w7_209, w7_211, w7_213, w7_232, w7_234, h1, p1, nI_pred, h2, h3, h4, h5, k3, k4, ↓reduceIte, Option.toList_some, Option.toList_none, List.cons_append, List.nil_append, Int32.reduceAdd, Int32.reduceLT, Int32.reduceLE, Int32.reduceToNatClampNeg]
  split
  · simp only [w7_237, w7_238]
  · rename_i h0
    simp only [w7_239, w7_240, w7_243, w7_244, w7_245, w7_246, w7_248, w7_250, w7_251, w7_252, w7_255, nI_pred, h2, h3, k3, k4, h0, nI_1, not_false_eq_true]
theorem x_unl {k : Nat} (hk : k + 1 < 16) (q t : Nat) (ht : q ≤ t) (ht2 : t < 400) (v6 v7 : Value) :
    WP (d + 1) 7 28 [.ref 37, .ref l, .int (nI (k + 2)), .int (nI q), .int 6, .int (nI t), v6, v7] [] (mHh xL I J (mRf rc rx rr)) Q = WP (d + 1) 7 4 [.ref 37, .ref l, .int (nI k), .int (nI (if I 39 k < I 39 (k + 1) then q + 1 else t + 1)), .int 6, .int (nI t), .int (I 39 k), .int (I 39 (k + 1))] [] (mHh xL I J (mRf rc rx rr)) Q := by
  have h1 : 2 ≤ nI (k + 2) := by rw [ni_le 2 (by decide) (by omega)]; omega
  have h2 : mIn (nI k) 16 = true := mIn_nI (by omega) (by omega)
  have h3 : (nI k).toNatClampNeg = k := nI_clamp (by omega)
  have h4 : mIn (nI (k + 1)) 16 = true := mIn_nI (by omega) (by omega)
  have h5 : (nI (k + 1)).toNatClampNeg = k + 1 := nI_clamp (by omega)
  have k3 : lyK 39 = 1 := by decide +kernel
  have k4 : lyN 39 = 16 := by decide +kernel
  have p1 : nI (k + 2) + (-1) = nI (k + 1) := pk_m1 (k + 1)
  have p2 : nI (k + 1) + (-1) = nI k := pk_m1 k
  simp (config := { decide := true }) only [w7_28, w7_30, w7_31, w7_34, w7_36, w7_37, w7_96, w7_98, w7_100, w7_103, w7_104, w7_105, w7_111, w7_114, w7_115, w7_118, w7_119, w7_120, w7_121, w7_122, w7_124, w7_125, w7_128, w7_129, w7_130, w7_132, w7_134, w7_136, w7_139, w7_142, w7_144, w7_146, h1, p1, p2, nI_pred, h2, h3, h4, h5, k3, k4, ↓reduceIte, Option.toList_some, Option.toList_none, List.cons_append, List.nil_append, Int32.reduceAdd, Int32.reduceLT, Int32.reduceLE, Int32.reduceToNatClampNeg]
  split
  · rename_i h0
    have h0' : ¬ I 39 k < I 39 (k + 1) := by rw [Int32.lt_iff_toInt_lt]; rw [Int32.le_iff_toInt_le] at h0; omega
    have e : (if nI q < nI t then nI t else nI q) = nI t := by
      by_cases c : q = t
      · subst c; split <;> rfl
      · rw [if_pos (nI_lt (by omega) (by omega))]
    simp only [w7_153, w7_154, w7_156, e, w7_159, w7_160, w7_252, w7_255, nI_1, h0', ↓reduceIte]
  · rename_i h0
    have h0' : I 39 k < I 39 (k + 1) := by rw [Int32.lt_iff_toInt_lt]; rw [Int32.le_iff_toInt_le] at h0; omega
    simp only [w7_149, w7_150, w7_159, w7_160, w7_252, w7_255, nI_1, h0', ↓reduceIte]
theorem x_ans (t q n : Int32) (v6 v7 : Value) :
    WP d 7 28 [.ref 37, .ref l, .int t, .int q, .int 7, .int n, v6, v7] [] (mHh xL I J (mRf rc rx rr)) Q = WP d 7 258 [.ref 37, .ref l, .int t, .int q, .int 7, .int n, v6, v7] [] (mHh xL I J (mRf rc rx rr)) Q := by
  simp (config := { decide := true }) only [w7_28, w7_30, w7_31, w7_34, w7_36, w7_37, w7_96, w7_98, w7_100, ↓reduceIte, Option.toList_some, Option.toList_none, List.cons_append, List.nil_append, Int32.reduceAdd, Int32.reduceLT, Int32.reduceLE, Int32.reduceToNatClampNeg]
theorem la_n {l : Nat} (h : mLa l) : (l ≠ 38 ∧ l ≠ 39 ∧ l ≠ 40) ∧ (l + 1 ≠ 38 ∧ l + 1 ≠ 39 ∧ l + 1 ≠ 40) ∧ l + 2 ≠ 38 ∧ l + 2 ≠ 39 ∧ l + 2 ≠ 40 := by
  have h1 : mLaL.all (fun l => decide ((l ≠ 38 ∧ l ≠ 39 ∧ l ≠ 40) ∧ (l + 1 ≠ 38 ∧ l + 1 ≠ 39 ∧ l + 1 ≠ 40) ∧ l + 2 ≠ 38 ∧ l + 2 ≠ 39 ∧ l + 2 ≠ 40)) = true := by decide +kernel
  have h2 := List.all_eq_true.mp h1 l h
  simpa using h2
theorem mU_f {α : Type} {f : Nat → Nat → α} {a k b : Nat} {v : α} (h : b ≠ a) : mU f a k v b = f b := by rw [mU, if_neg h]
theorem mXt_push {I : Nat → Nat → Int32} {st : List Int32} {v : Int32} (h : mXt (I 39) st) : mXt (mU I 39 st.length v 39) (v :: st) :=
  ⟨mU_s _ _ _ _, mXt_keep (n := st.length) (Nat.le_refl _) (fun k hk => mU_k (by omega)) h⟩
theorem x_seg (hl : mLa l) {V : Nat → Int32} {ms : Nat → Bool} (h0 : ∀ i, ms i = false → V i = 0) {sz : Nat} (hz : sz ≤ 400) {P : Option Value → mHp → Prop} : ∀ (c : mCod) (q m : Nat) (st : List Int32) (I : Nat → Nat → Int32) (v4 v5 v6 v7 : Value),
    mCw c st.length = some m → q + c.length ≤ sz → I l 3 = nI sz → mXa (I (l + 1)) (I (l + 2)) (c.map (mXs ms)) q → mXt (I 39) st → (∀ i, i < 9 → ms i = true → I 38 i = V i) →
    (∀ (I' : Nat → Nat → Int32), (∀ a, a ≠ 39 → I' a = I a) → mCs V c st = none → P (some (.int 0)) (mHh xL I' J (mRf rc rx rr))) →
    (∀ (I' : Nat → Nat → Int32) (st' : List Int32) (v4 v5 v6 v7 : Value), (∀ a, a ≠ 39 → I' a = I a) → mCs V c st = some st' → st'.length = m → mXt (I' 39) st' → WP d 7 4 [.ref 37, .ref l, .int (nI m), .int (nI (q + c.length)), v4, v5, v6, v7] [] (mHh xL I' J (mRf rc rx rr)) P) →
    WP d 7 4 [.ref 37, .ref l, .int (nI st.length), .int (nI q), v4, v5, v6, v7] [] (mHh xL I J (mRf rc rx rr)) P := by
  obtain ⟨⟨-, n1, -⟩, ⟨-, n2, -⟩, -, n3, -⟩ := la_n hl
  intro c
  induction c with
  | nil =>
    intro q m st I v4 v5 v6 v7 hw hq hs hx ht hv _ hS
    simp only [mCw, Option.some.injEq] at hw
    have := hS I st v4 v5 v6 v7 (fun a _ => rfl) rfl hw ht
    rw [← hw] at this
    exact this
  | cons p c ih =>
    obtain ⟨k, v⟩ := p
    intro q m st I v4 v5 v6 v7 hw hq hs hx ht hv hN hS
    simp only [List.length_cons] at hq
    simp only [List.map_cons, mXa] at hx
    obtain ⟨x1, x2, hx⟩ := hx
    rw [x_load hl (by omega) hz hs, x1, x2]
    have go : ∀ (st1 : List Int32) (w : Int32) (j : Nat) (v4 v5 v6 v7 : Value), mCw c st1.length = some m → mXt (mU I 39 j w 39) st1 → mCs V ((k, v) :: c) st = mCs V c st1 → WP d 7 4 [.ref 37, .ref l, .int (nI st1.length), .int (nI (q + 1)), v4, v5, v6, v7] [] (mHh xL (mU I 39 j w) J (mRf rc rx rr)) P := by
      intro st1 w j u4 u5 u6 u7 hw1 ht1 e1
      refine ih (q + 1) m st1 (mU I 39 j w) u4 u5 u6 u7 hw1 (by omega) (by rw [mU_a n1]; exact hs) (by rw [mU_f n2, mU_f n3]; exact hx) ht1 (fun i hi hm => by rw [mU_a (by omega)]; exact hv i hi hm) ?_ ?_
      · intro I' hI e
        exact hN I' (fun a ha => by rw [hI a ha, mU_f ha]) (by rw [e1]; exact e)
      · intro I' st' w4 w5 w6 w7 hI e hm ht'
        have := hS I' st' w4 w5 w6 w7 (fun a ha => by rw [hI a ha, mU_f ha]) (by rw [e1]; exact e) hm ht'
        rw [List.length_cons, show q + (c.length + 1) = q + 1 + c.length by omega] at this
        exact this
    rw [mCw] at hw
    by_cases k2 : k < 2
    · rw [if_pos k2] at hw
      split at hw
      · rename_i hc
        obtain ⟨c1, c2, c3⟩ := hc
        by_cases k0 : k = 0
        · subst k0
          have e : mXs ms (0, v) = (4, v) := rfl
          rw [e, x_int c2 c1]
          exact go (v :: st) v st.length _ _ _ _ hw (mXt_push ht) (mCs_0 _ _ _ _)
        · have k1 : k = 1 := by omega
          subst k1
          have c4 := c3 rfl
          obtain ⟨j, hj, rfl⟩ := nI_of c2
          have hj9 : j < 9 := by rw [in_lt 9 (by decide) hj] at c4; exact c4
          have ej : (nI j).toNatClampNeg = j := nI_clamp hj
          have e3 : mCs V ((1, nI j) :: c) st = mCs V c (V j :: st) := by rw [mCs_1, ej]
          by_cases hm : ms j = true
          · have e : mXs ms (1, nI j) = (5, nI j) := by show (if ms (nI j).toNatClampNeg = true then ((5 : Int32), nI j) else (4, 0)) = _; rw [ej, if_pos hm]
            rw [e, x_var hj9 c1, hv j hj9 hm]
            exact go (V j :: st) (V j) st.length _ _ _ _ hw (mXt_push ht) e3
          · have hm : ms j = false := by simpa using hm
            have e : mXs ms (1, nI j) = (4, 0) := by show (if ms (nI j).toNatClampNeg = true then ((5 : Int32), nI j) else (4, 0)) = _; rw [ej, hm]; rfl
            rw [e, x_int (by decide) c1]
            have e0 := h0 j hm
            rw [e0] at e3
            exact go (0 :: st) 0 st.length _ _ _ _ hw (mXt_push ht) e3
      · cases hw
    · rw [if_neg k2] at hw
      split at hw
      · rename_i hc
        obtain ⟨c1, c2, c3⟩ := hc
        obtain ⟨b, a, r, rfl⟩ : ∃ b a r, st = b :: a :: r := by
          cases st with
          | nil => simp at c1
          | cons b st => cases st with
            | nil => simp at c1
            | cons a r => exact ⟨b, a, r, rfl⟩
        simp only [List.length_cons] at hw c2 ⊢
        rw [show r.length + 1 + 1 - 1 = r.length + 1 by omega] at hw
        obtain ⟨t1, t2, t3⟩ := ht
        simp only [List.length_cons] at t1
        have bin : ∀ (s o : Int32), mXs ms (k, v) = (s, 0) → ((s = 43 ∧ o = 0) ∨ (s = 45 ∧ o = 1) ∨ (s = 42 ∧ o = 2)) → ¬ k = 0 → ¬ k = 1 → ¬ k = 5 → mOp k a b = (if o = 0 then a + b else if o = 1 then a - b else a * b) → WP d 7 28 [.ref 37, .ref l, .int (nI (r.length + 1 + 1)), .int (nI q), .int (mXs ms (k, v)).1, .int (mXs ms (k, v)).2, v6, v7] [] (mHh xL I J (mRf rc rx rr)) P := by
          intro s o e ho k0 k1 k5 eo
          rw [e, x_bin (k := r.length) (by omega) q v6 v7 s o 0 ho, t1, t2, ← eo]
          exact go (mOp k a b :: r) (mOp k a b) r.length _ _ _ _ hw (mXt_push t3) (mCs_o V k0 k1 (fun z => k5 z.1) _ _ _)
        have k4 : k = 2 ∨ k = 3 ∨ k = 4 ∨ k = 5 := by omega
        rcases k4 with rfl | rfl | rfl | rfl
        · exact bin 43 0 rfl (Or.inl ⟨rfl, rfl⟩) (by decide) (by decide) (by decide) rfl
        · exact bin 45 1 rfl (Or.inr (Or.inl ⟨rfl, rfl⟩)) (by decide) (by decide) (by decide) rfl
        · exact bin 42 2 rfl (Or.inr (Or.inr ⟨rfl, rfl⟩)) (by decide) (by decide) (by decide) rfl
        · have e : mXs ms (5, v) = (47, 0) := rfl
          rw [e, x_div (k := r.length) (by omega) q v6 v7 0, t1, t2]
          by_cases hb : b = 0
          · rw [if_pos hb]
            exact hN I (fun _ _ => rfl) (mCs_n V hb _ _ _)
          · rw [if_neg hb]
            exact go (mOp 5 a b :: r) (mOp 5 a b) r.length _ _ _ _ hw (mXt_push t3) (mCs_o V (by decide) (by decide) (fun z => hb z.2) _ _ _)
      · cases hw
abbrev mIf := mCod × mCod × mCod
def mXl (ms : Nat → Bool) : List mIf → mCod → Nat → List (Int32 × Int32)
  | [], e, _ => e.map (mXs ms)
  | (a, b, t) :: r, e, q => a.map (mXs ms) ++ (b.map (mXs ms) ++ ((6, nI (q + a.length + b.length + 1 + t.length)) :: (t.map (mXs ms) ++ ((7, 0) :: mXl ms r e (q + a.length + b.length + t.length + 2)))))
def mLo : List mIf → mCod → Prop
  | [], e => mCw e 0 = some 1
  | (a, b, t) :: r, e => mCw a 0 = some 1 ∧ mCw b 0 = some 1 ∧ mCw b 1 = some 2 ∧ mCw t 0 = some 1 ∧ mLo r e
def mC1 (V : Nat → Int32) (e : mCod) : Int32 := match mCs V e [] with
  | some (x :: _) => x
  | _ => 0
/-- what a law tells -/
def mLe (V : Nat → Int32) : List mIf → mCod → Int32
  | [], e => mC1 V e
  | (a, b, t) :: r, e => match mCs V a [] with
    | some st => match mCs V b st with
      | some (y :: x :: _) => if x < y then mC1 V t else mLe V r e
      | _ => 0
    | _ => 0
theorem mXa_app {S N : Nat → Int32} : ∀ {A B : List (Int32 × Int32)} {q : Nat}, mXa S N (A ++ B) q → mXa S N A q ∧ mXa S N B (q + A.length) := by
  intro A
  induction A with
  | nil => intro B q h; exact ⟨trivial, h⟩
  | cons p A ih =>
    intro B q h
    obtain ⟨h1, h2, h3⟩ := h
    obtain ⟨h4, h5⟩ := ih h3
    refine ⟨⟨h1, h2, h4⟩, ?_⟩
    rw [List.length_cons, show q + (A.length + 1) = q + 1 + A.length by omega]
    exact h5
theorem x_law (hl : mLa l) {V : Nat → Int32} {ms : Nat → Bool} (h0 : ∀ i, ms i = false → V i = 0) {sz : Nat} (hz : sz ≤ 400) : ∀ (is : List mIf) (e : mCod) (q : Nat) (I : Nat → Nat → Int32) (v4 v5 v6 v7 : Value),
    mLo is e → q + (mXl ms is e q).length = sz → I l 3 = nI sz → mXa (I (l + 1)) (I (l + 2)) (mXl ms is e q) q → (∀ i, i < 9 → ms i = true → I 38 i = V i) →
    (∀ (I' : Nat → Nat → Int32), (∀ a, a ≠ 39 → I' a = I a) → Q (some (.int (mLe V is e))) (mHh xL I' J (mRf rc rx rr))) →
    WP (d + 1) 7 4 [.ref 37, .ref l, .int 0, .int (nI q), v4, v5, v6, v7] [] (mHh xL I J (mRf rc rx rr)) Q := by
  obtain ⟨⟨-, n1, -⟩, ⟨-, n2, -⟩, -, n3, -⟩ := la_n hl
  intro is
  induction is with
  | nil =>
    intro e q I v4 v5 v6 v7 ho hq hs hx hv hQ
    simp only [mXl, List.length_map] at hq hx
    refine x_seg hl h0 hz e q 1 [] I v4 v5 v6 v7 ho (by omega) hs hx trivial hv ?_ ?_
    · intro I' hI en
      have := hQ I' hI
      rw [mLe, mC1, en] at this
      exact this
    · intro I' st' u4 u5 u6 u7 hI en hm ht
      rw [x_end (sz := sz) hl (by omega) (by omega) (by rw [hI l n1]; exact hs)]
      obtain ⟨x, rfl⟩ : ∃ x, st' = [x] := by
        match st', hm with
        | [x], _ => exact ⟨x, rfl⟩
      rw [show nI 1 = nI (0 + 1) from rfl, x_top (by omega)]
      have := hQ I' hI
      rw [mLe, mC1, en] at this
      obtain ⟨t1, -⟩ := ht
      rw [show I' 39 0 = x from t1]
      exact this
  | cons p is ih =>
    obtain ⟨a, b, t⟩ := p
    intro e q I v4 v5 v6 v7 ho hq hs hx hv hQ
    obtain ⟨o1, -, o2, o3, o4⟩ := ho
    rw [mXl] at hx hq
    simp only [List.length_append, List.length_map, List.length_cons] at hq
    obtain ⟨x1, hx⟩ := mXa_app hx
    obtain ⟨x2, hx⟩ := mXa_app hx
    obtain ⟨x3, x4, hx⟩ := hx
    obtain ⟨x5, hx⟩ := mXa_app hx
    obtain ⟨x6, x7, hx⟩ := hx
    simp only [List.length_map] at x2 x3 x4 x5 x6 x7 hx
    refine x_seg hl h0 hz a q 1 [] I v4 v5 v6 v7 o1 (by omega) hs x1 trivial hv ?_ ?_
    · intro I' hI en
      have := hQ I' hI
      rw [mLe, en] at this
      exact this
    · intro I1 st1 u4 u5 u6 u7 hI1 en1 hm1 ht1
      have e1 : nI 1 = nI st1.length := by rw [hm1]
      rw [e1]
      refine x_seg hl h0 hz b (q + a.length) 2 st1 I1 u4 u5 u6 u7 (by rw [hm1]; exact o2) (by omega) (by rw [hI1 l n1]; exact hs) (by rw [hI1 _ n2, hI1 _ n3]; exact x2) ht1 (fun i hi hm => by rw [hI1 38 (by decide)]; exact hv i hi hm) ?_ ?_
      · intro I' hI en
        have := hQ I' (fun c hc => by rw [hI c hc, hI1 c hc])
        rw [mLe, en1] at this
        simp only [en] at this
        exact this
      · intro I2 st2 w4 w5 w6 w7 hI2 en2 hm2 ht2
        have f2 : ∀ c, c ≠ 39 → I2 c = I c := fun c hc => by rw [hI2 c hc, hI1 c hc]
        obtain ⟨y, x, rfl⟩ : ∃ y x, st2 = [y, x] := by
          match st2, hm2 with
          | [y, x], _ => exact ⟨y, x, rfl⟩
        obtain ⟨t1, t2, -⟩ := ht2
        have t1 : I2 39 1 = y := t1
        have t2 : I2 39 0 = x := t2
        have hQ2 : ∀ (I' : Nat → Nat → Int32), (∀ a, a ≠ 39 → I' a = I a) → Q (some (.int (if x < y then mC1 V t else mLe V is e))) (mHh xL I' J (mRf rc rx rr)) := by
          intro I' hI
          have := hQ I' hI
          rw [mLe, en1] at this
          simp only [en2] at this
          exact this
        rw [x_load hl (by omega) hz (by rw [f2 l n1]; exact hs), f2 _ n2, f2 _ n3, x3, x4]
        rw [show nI 2 = nI (0 + 2) from rfl, x_unl (k := 0) (by omega) (q + a.length + b.length) _ (by omega) (by omega), t1, t2]
        by_cases hc : x < y
        · simp only [hc, ↓reduceIte] at hQ2 ⊢
          refine x_seg hl h0 hz t _ 1 [] I2 _ _ _ _ o3 (by omega) (by rw [f2 l n1]; exact hs) (by rw [f2 _ n2, f2 _ n3]; exact x5) trivial (fun i hi hm => by rw [f2 38 (by decide)]; exact hv i hi hm) ?_ ?_
          · intro I' hI en
            have := hQ2 I' (fun c hc => by rw [hI c hc, f2 c hc])
            rw [mC1, en] at this
            exact this
          · intro I3 st3 z4 z5 z6 z7 hI3 en3 hm3 ht3
            have f3 : ∀ c, c ≠ 39 → I3 c = I c := fun c hc => by rw [hI3 c hc, f2 c hc]
            rw [x_load hl (by omega) hz (by rw [f3 l n1]; exact hs), f3 _ n2, f3 _ n3, x6, x7, x_ans]
            obtain ⟨w, rfl⟩ : ∃ w, st3 = [w] := by
              match st3, hm3 with
              | [w], _ => exact ⟨w, rfl⟩
            rw [show nI 1 = nI (0 + 1) from rfl, x_top (by omega)]
            have := hQ2 I3 f3
            rw [mC1, en3] at this
            obtain ⟨s1, -⟩ := ht3
            rw [show I3 39 0 = w from s1]
            exact this
        · simp only [hc, ↓reduceIte] at hQ2 ⊢
          have eq1 : q + a.length + b.length + 1 + t.length + 1 = q + a.length + b.length + t.length + 2 := by omega
          rw [eq1] at hx ⊢
          refine ih e _ I2 _ _ _ _ o4 (by omega) (by rw [f2 l n1]; exact hs) (by rw [f2 _ n2, f2 _ n3]; exact hx) (fun i hi hm => by rw [f2 38 (by decide)]; exact hv i hi hm) ?_
          intro I' hI
          exact hQ2 I' (fun c hc => by rw [hI c hc, f2 c hc])
/-- a law as it stands in the glass's rows -/
def mXw (I : Nat → Nat → Int32) (l : Nat) (ms : Nat → Bool) (is : List mIf) (e : mCod) : Prop := mLo is e ∧ (mXl ms is e 0).length ≤ 400 ∧ I l 3 = nI (mXl ms is e 0).length ∧ mXa (I (l + 1)) (I (l + 2)) (mXl ms is e 0) 0
theorem c7 (hl : mLa l) {V : Nat → Int32} {ms : Nat → Bool} {is : List mIf} {e : mCod} (h0 : ∀ i, ms i = false → V i = 0) (hw : mXw I l ms is e) (hv : ∀ i, i < 9 → ms i = true → I 38 i = V i)
    (hQ : ∀ (I' : Nat → Nat → Int32), (∀ a, a ≠ 39 → I' a = I a) → Q (some (.int (mLe V is e))) (mHh xL I' J (mRf rc rx rr))) :
    WP (d + 1) 7 0 [.ref 37, .ref l, mDum, mDum, mDum, mDum, mDum, mDum] [] (mHh xL I J (mRf rc rx rr)) Q := by
  obtain ⟨w1, w2, w3, w4⟩ := hw
  simp only [w7_0, w7_1, w7_2, w7_3]
  exact x_law hl h0 w2 is e 0 I _ _ _ _ w1 (by omega) w3 w4 hv hQ
end LAW
