/-! The model's cut. -/
def mRwT (I : Nat → Nat → Int32) (J : Nat → Nat → Int64) (W : Nat → Int32) (L j : Nat) : Prop := I 183 j = nI (kk W L j) ∧ I 184 j = nI (tp W L j) ∧ (kk W L j = 2 → I 185 j = nI (kv W L j)) ∧ (kk W L j = 1 ∨ 20 ≤ kk W L j → J 186 j = kn W L j)
def mTk (I : Nat → Nat → Int32) (J : Nat → Nat → Int64) (W : Nat → Int32) (L n : Nat) : Prop := (n ≤ 401 ∧ 0 < n ∧ I 180 10 = nI n) ∧ (∀ k, k < n → mRwT I J W L k) ∧ (∀ k, k + 1 < n → kk W L k ≠ 0) ∧ (n = 401 ∨ kk W L (n - 1) = 0)
def fMk (I I' : Nat → Nat → Int32) : Prop := (∀ a, a ≠ 180 → a ≠ 183 → a ≠ 184 → a ≠ 185 → I' a = I a) ∧ ∀ j, j ≠ 10 → I' 180 j = I 180 j
def fMj (J J' : Nat → Nat → Int64) : Prop := ∀ a, a ≠ 186 → J' a = J a
theorem fMk_t {I I' : Nat → Nat → Int32} (f : fMk I I') {L : Nat} {W : Nat → Int32} (h : xTm I L W) : xTm I' L W := by
  rw [xTm, f.1 182 (by decide) (by decide) (by decide) (by decide), f.2 4 (by decide)]
  exact h
theorem fMj_J {J J' : Nat → Nat → Int64} (f : fMj J J') (h : kJ J) : kJ J' := by
  intro i hi
  rw [f 12 (by decide), f 187 (by decide)]
  exact h i hi
theorem mtI_f {I I' : Nat → Nat → Int32} (f : fMk I I') (k : Nat) (g p x : Int32) : fMk I (mtI I' k g p x) := by
  refine ⟨fun a h0 h3 h4 h5 => ?_, fun j hj => ?_⟩
  · rw [mtI, mU_f h0, mU_f h5, mU_f h4, mU_f h3, f.1 a h0 h3 h4 h5]
  · rw [mtI, mU_k hj, mU_a (by decide), mU_a (by decide), mU_a (by decide), f.2 j hj]
theorem mtI_r {I : Nat → Nat → Int32} {J : Nat → Nat → Int64} {W : Nat → Int32} {L k : Nat} (h : ∀ j, j < k → mRwT I J W L j) {x : Int32} {w : Int64} (h2 : kk W L k = 2 → x = nI (kv W L k)) (h3 : kk W L k = 1 ∨ 20 ≤ kk W L k → w = kn W L k) : ∀ j, j < k + 1 → mRwT (mtI I k (nI (kk W L k)) (nI (tp W L k)) x) (mU J 186 k w) W L j := by
  intro j hj
  by_cases e : j = k
  · subst e
    refine ⟨?_, ?_, fun z => ?_, fun z => ?_⟩
    · rw [mtI, mU_a (by decide), mU_a (by decide), mU_a (by decide), mU_s]
    · rw [mtI, mU_a (by decide), mU_a (by decide), mU_s]
    · rw [mtI, mU_a (by decide), mU_s]; exact h2 z
    · rw [mU_s]; exact h3 z
  · obtain ⟨q1, q2, q3, q4⟩ := h j (by omega)
    refine ⟨?_, ?_, fun z => ?_, fun z => ?_⟩
    · rw [mtI, mU_a (by decide), mU_a (by decide), mU_a (by decide), mU_k e]; exact q1
    · rw [mtI, mU_a (by decide), mU_a (by decide), mU_k e]; exact q2
    · rw [mtI, mU_a (by decide), mU_k e]; exact q3 z
    · rw [mU_k e]; exact q4 z
theorem sgK_2 : ∀ c, c < 256 → sgK c ≠ 1 ∧ sgK c ≠ 2 ∧ sgK c < 20 := by decide +kernel
theorem wdK_2 (x : Int64) : wdK x ≠ 2 := by
  rw [wdK]
  cases kidx x with
  | none => exact (by decide)
  | some i => show 20 + i ≠ 2; omega
theorem sk_1 {W : Nat → Int32} {L p : Nat} (h : pAt isBl W L p = true) : sk W L p = sk W L (p + 1) := by
  have hl : p < L := by
    rw [pAt] at h
    exact of_decide_eq_true (Bool.and_eq_true_iff.1 h).1
  rw [sk, sk, show L - p = (L - (p + 1)) + 1 by omega, rE, if_pos h]
theorem sk_0 {W : Nat → Int32} {L p : Nat} (h : pAt isBl W L p = false) : sk W L p = p := by
  rw [sk]
  cases hn : L - p with
  | zero => rfl
  | succ n => rw [rE, if_neg (by rw [h]; decide)]
section LXE
variable {d : Nat} {xL : Nat} {I : Nat → Nat → Int32} {J : Nat → Nat → Int64} {rc rx rr : Nat} {Q : Option Value → mHp → Prop} {L : Nat} {W : Nat → Int32}
theorem c142w (h : xTm I L W) {i : Nat} {v2 v6 v7 : Value} : ∀ n j, j + n = L → i ≤ j → ∀ a : Nat, (j - i ≤ 8 → a = wN W (j - i) i 0) → (∀ a : Nat, (rE (pAt isLt W L) n j - i ≤ 8 → a = wN W (rE (pAt isLt W L) n j - i) i 0) → WP (d + 2) 142 124 [.ref 180, .int (nI i), v2, .int (nI (rE (pAt isLt W L) n j - i)), .long (lN a), mDum, v6, v7] [] (mHh xL I J (mRf rc rx rr)) Q) → ∀ z2, v2 = .int z2 → WP (d + 2) 142 85 [.ref 180, .int (nI i), v2, .int (nI (j - i)), .long (lN a), mDum, v6, v7] [] (mHh xL I J (mRf rc rx rr)) Q := by
  have hL := h.1
  intro n
  induction n with
  | zero =>
    intro j hj hij a ha hq z2 hz
    subst hz
    have ej : nI i + nI (j - i) = nI j := by rw [nI_add]; congr 1; omega
    have hp : pAt isLt W L j = false := by rw [pAt, decide_eq_false (by omega), Bool.false_and]
    rw [w142_85]
    simp only [w142_86, w142_87, w142_88, ej, w142_89, c143 h (show j < 2 ^ 31 by omega), ↓reduceIte, Option.toList_some, Option.toList_none, List.cons_append, List.nil_append, Int32.reduceAdd, Int32.reduceLT, Int32.reduceLE, Int32.reduceToNatClampNeg, w142_92, c145 (btL_lt W L j), btL_p (show isLt 0 = false by decide), hp, sB_f, w142_95]
    exact hq a ha
  | succ n ih =>
    intro j hj hij a ha hq z2 hz
    subst hz
    have ej : nI i + nI (j - i) = nI j := by rw [nI_add]; congr 1; omega
    rw [w142_85]
    simp only [w142_86, w142_87, w142_88, ej, w142_89, c143 h (show j < 2 ^ 31 by omega), ↓reduceIte, Option.toList_some, Option.toList_none, List.cons_append, List.nil_append, Int32.reduceAdd, Int32.reduceLT, Int32.reduceLE, Int32.reduceToNatClampNeg, w142_92, c145 (btL_lt W L j), btL_p (show isLt 0 = false by decide), w142_95]
    rw [rE] at hq
    by_cases hp : pAt isLt W L j = true
    · rw [if_pos hp] at hq
      have hb : isLt (bt W j) = true := by
        rw [pAt] at hp
        exact (Bool.and_eq_true_iff.1 hp).2
      have h9 : 97 ≤ bt W j := by
        rw [isLt] at hb
        exact of_decide_eq_true (Bool.and_eq_true_iff.1 hb).1
      have eb : btL W L j = bt W j := by rw [btL, if_pos (show j < L by omega)]
      have e1 : j + 1 - i = (j - i) + 1 := by omega
      have g8 : (8 ≤ nI (j - i)) ↔ 8 ≤ j - i := ni_le 8 (by decide) (by omega)
      simp only [hp, sB_t, o01, ↓reduceIte, w142_98, w142_99, w142_101, g8]
      by_cases h8 : 8 ≤ j - i
      · have := ih (j + 1) (by omega) (by omega) a (fun z => absurd z (by omega)) hq z2 rfl
        simp only [h8, ↓reduceIte, w142_118, nI_1, w142_121, ← e1]
        exact this
      · have ea : a * 27 + (bt W j - 96) = wN W (j + 1 - i) i 0 := by
          rw [ha (by omega), e1, wN_s, show i + (j - i) = j by omega]
        have := ih (j + 1) (by omega) (by omega) (a * 27 + (bt W j - 96)) (fun _ => ea) hq z2 rfl
        simp only [h8, ↓reduceIte, w142_104, w142_106, w142_107, w142_108, w142_109, ej, w142_110, c143 h (show j < 2 ^ 31 by omega), eb, ↓reduceIte, Option.toList_some, Option.toList_none, List.cons_append, List.nil_append, Int32.reduceAdd, Int32.reduceLT, Int32.reduceLE, Int32.reduceToNatClampNeg, w142_113, c135 (bt_lt W j) h9, w142_116, w142_118, nI_1, w142_121, ← e1]
        exact this
    · have hp2 : pAt isLt W L j = false := by simpa using hp
      rw [if_neg hp] at hq
      simp only [hp2, sB_f, ↓reduceIte]
      exact hq a ha
theorem c142k (hJ : kJ J) {v1 v2 v3 : Value} {x : Int64} : ∀ n j, j + n = 20 → ∀ g, WP (d + 2) 142 146 [.ref 180, v1, v2, v3, .long x, mDum, .int g, .int (nI j)] [] (mHh xL I J (mRf rc rx rr)) Q = WP (d + 2) 142 179 [.ref 180, v1, v2, v3, .long x, mDum, .int (match fnd (fun i => decide (kw i = x)) n j with | some i => nI (20 + i) | none => g), .int (nI 20)] [] (mHh xL I J (mRf rc rx rr)) Q := by
  intro n
  induction n with
  | zero =>
    intro j hj g
    have e : j = 20 := by omega
    subst e
    have g1 : (20 : Int32) ≤ nI 20 := by decide
    rw [w142_146, fnd]
    simp only [w142_148, w142_150, g1, ↓reduceIte]
  | succ n ih =>
    intro j hj g
    have g1 : ¬ (20 : Int32) ≤ nI j := by rw [ni_le 20 (by decide) (by omega)]; omega
    have a1 : mIn (nI j) 20 = true := mIn_nI (by omega) (by omega)
    have a2 : (nI j).toNatClampNeg = j := nI_clamp (by omega)
    rw [w142_146, fnd]
    simp only [w142_148, w142_150, g1, ↓reduceIte, w142_153, w142_154, w142_157, w142_159, a1, a2, (hJ j (by omega)).2, w142_160, w142_162, w142_163, lg_cmp_eq]
    by_cases hk : kw j = x
    · have e : (20 : Int32) + nI j = nI (20 + j) := nI_add 20 j
      have nn : fnd (fun i => decide (kw i = x)) n (j + 1) = none := by
        cases hf : fnd (fun i => decide (kw i = x)) n (j + 1) with
        | none => rfl
        | some i =>
          exfalso
          obtain ⟨h1, h2, h3, -⟩ := fnd_some _ _ hf
          have := kw_d i (by omega) j (by omega) ((of_decide_eq_true h3).trans hk.symm)
          omega
      have := ih (j + 1) (by omega) (nI (20 + j))
      rw [nn] at this
      simp only [hk.symm, eq_comm, ↓reduceIte] at this ⊢
      simp only [w142_166, w142_168, w142_170, e, w142_171, w142_173, nI_1, w142_176, decide_true, ↓reduceIte]
      exact this
    · have hk2 : ¬ x = kw j := fun z => hk z.symm
      simp only [hk, hk2, decide_false, ↓reduceIte, w142_173, nI_1, w142_176, Bool.false_eq_true]
      exact ih (j + 1) (by omega) g
theorem c142d (h : xTm I L W) {i : Nat} {v2 v5 v6 v7 : Value} : ∀ n j, j + n = L → i ≤ j → ∀ a : Int32, (j - i ≤ 4 → a = nI (dN' W (j - i) i 0)) → (∀ a : Int32, (rE (pAt isDg W L) n j - i ≤ 4 → a = nI (dN' W (rE (pAt isDg W L) n j - i) i 0)) → WP (d + 2) 142 250 [.ref 180, .int (nI i), v2, .int (nI (rE (pAt isDg W L) n j - i)), .int a, v5, v6, v7] [] (mHh xL I J (mRf rc rx rr)) Q) → ∀ z2, v2 = .int z2 → WP (d + 2) 142 208 [.ref 180, .int (nI i), v2, .int (nI (j - i)), .int a, v5, v6, v7] [] (mHh xL I J (mRf rc rx rr)) Q := by
  have hL := h.1
  intro n
  induction n with
  | zero =>
    intro j hj hij a ha hq z2 hz
    subst hz
    have ej : nI i + nI (j - i) = nI j := by rw [nI_add]; congr 1; omega
    have hp : pAt isDg W L j = false := by rw [pAt, decide_eq_false (by omega), Bool.false_and]
    rw [w142_208]
    simp only [w142_209, w142_210, w142_211, ej, w142_212, c143 h (show j < 2 ^ 31 by omega), ↓reduceIte, Option.toList_some, Option.toList_none, List.cons_append, List.nil_append, Int32.reduceAdd, Int32.reduceLT, Int32.reduceLE, Int32.reduceToNatClampNeg, w142_215, c146 (btL_lt W L j), btL_p (show isDg 0 = false by decide), hp, sB_f, w142_218]
    exact hq a ha
  | succ n ih =>
    intro j hj hij a ha hq z2 hz
    subst hz
    have ej : nI i + nI (j - i) = nI j := by rw [nI_add]; congr 1; omega
    rw [w142_208]
    simp only [w142_209, w142_210, w142_211, ej, w142_212, c143 h (show j < 2 ^ 31 by omega), ↓reduceIte, Option.toList_some, Option.toList_none, List.cons_append, List.nil_append, Int32.reduceAdd, Int32.reduceLT, Int32.reduceLE, Int32.reduceToNatClampNeg, w142_215, c146 (btL_lt W L j), btL_p (show isDg 0 = false by decide), w142_218]
    rw [rE] at hq
    by_cases hp : pAt isDg W L j = true
    · rw [if_pos hp] at hq
      have hb : isDg (bt W j) = true := by
        rw [pAt] at hp
        exact (Bool.and_eq_true_iff.1 hp).2
      have h9 : 48 ≤ bt W j := by
        rw [isDg] at hb
        exact of_decide_eq_true (Bool.and_eq_true_iff.1 hb).1
      have eb : btL W L j = bt W j := by rw [btL, if_pos (show j < L by omega)]
      have e1 : j + 1 - i = (j - i) + 1 := by omega
      have g8 : (4 ≤ nI (j - i)) ↔ 4 ≤ j - i := ni_le 4 (by decide) (by omega)
      simp only [hp, sB_t, o01, ↓reduceIte, w142_221, w142_222, w142_223, g8]
      by_cases h8 : 4 ≤ j - i
      · have := ih (j + 1) (by omega) (by omega) a (fun z => absurd z (by omega)) hq z2 rfl
        simp only [h8, ↓reduceIte, w142_244, nI_1, w142_247, ← e1]
        exact this
      · have ea : 10 * a + nI (bt W j) - 48 = nI (dN' W (j + 1 - i) i 0) := by
          rw [ha (by omega), e1, dN_s, show i + (j - i) = j by omega, show (10 : Int32) = nI 10 from rfl, show (48 : Int32) = nI 48 from rfl, nI_mlx, nI_add, nI_sbx (by omega)]
          congr 1
          omega
        have := ih (j + 1) (by omega) (by omega) (10 * a + nI (bt W j) - 48) (fun _ => ea) hq z2 rfl
        simp only [h8, ↓reduceIte, w142_226, w142_228, w142_230, w142_231, w142_232, w142_233, w142_234, ej, w142_235, c143 h (show j < 2 ^ 31 by omega), eb, ↓reduceIte, Option.toList_some, Option.toList_none, List.cons_append, List.nil_append, Int32.reduceAdd, Int32.reduceLT, Int32.reduceLE, Int32.reduceToNatClampNeg, w142_238, w142_239, w142_241, w142_242, w142_244, nI_1, w142_247, ← e1]
        exact this
    · have hp2 : pAt isDg W L j = false := by simpa using hp
      rw [if_neg hp] at hq
      simp only [hp2, sB_f, ↓reduceIte]
      exact hq a ha
end LXE
