/-! Hours gone by, as the glass has them. -/
def sB (η : mHs) (ρ : Nat → Int32) : Nat → Nat → Int32
  | 0 => ρ
  | k + 1 => sHr η (sB η ρ k) (sMrk η (sB η ρ k))
def sTk (η : mHs) (s : Int32) (ρ : Nat → Int32) : Int32 := if sSlp η ρ s then sR12 (sMrk η ρ + 1) else sMrk η ρ
def sP (η : mHs) (s : Int32) (ρ : Nat → Int32) : Nat → Nat → Int32
  | 0 => ρ
  | k + 1 => sHr η (sP η s ρ k) (sTk η s (sP η s ρ k))
section BEH
variable {d : Nat} {xL : Nat} {I : Nat → Nat → Int32} {J : Nat → Nat → Int64} {rc rx rr : Nat} {Q : Option Value → mHp → Prop} {a o : Nat} {η : mHs} {ρ : Nat → Int32}
theorem sHr_5 (v : Int32) (hk : hOk η) {n : Nat} (h : ρ 5 = nI n) : sHr η ρ v 5 = nI (n + 1) := by
  have := hk.1
  rw [sHr, if_neg (by omega), if_pos rfl, h]; exact nI_1 n
theorem sB_ok (hk : hOk η) (ho : rOk η ρ) {n : Nat} (h5 : ρ 5 = nI n) : ∀ k, n + k ≤ 2 ^ 30 → rOk η (sB η ρ k) ∧ sB η ρ k 5 = nI (n + k) := by
  intro k
  induction k with
  | zero => intro _; exact ⟨ho, h5⟩
  | succ k ih =>
    intro hn
    obtain ⟨i1, i2⟩ := ih (by omega)
    exact ⟨sHr_ok hk i1 _ ⟨n + k, by omega, i2⟩, sHr_5 _ hk i2⟩
theorem sP_ok (hk : hOk η) (ho : rOk η ρ) (s : Int32) {n : Nat} (h5 : ρ 5 = nI n) : ∀ k, n + k ≤ 2 ^ 30 → rOk η (sP η s ρ k) ∧ sP η s ρ k 5 = nI (n + k) := by
  intro k
  induction k with
  | zero => intro _; exact ⟨ho, h5⟩
  | succ k ih =>
    intro hn
    obtain ⟨i1, i2⟩ := ih (by omega)
    exact ⟨sHr_ok hk i1 _ ⟨n + k, by omega, i2⟩, sHr_5 _ hk i2⟩
theorem c17 (ha : mSt a) (hk : hOk η) (hh : mXh I rc η) (hr : mRw I a = ρ) (ho : rOk η ρ) {m n : Nat} (h5 : ρ 5 = nI m) (hm : m + n ≤ 2 ^ 30) (hQ : ∀ I' : Nat → Nat → Int32, fA a I I' → mRw I' a = sB η ρ n → Q (some (.int (sMrk η (sB η ρ n)))) (mHh xL I' J (mRf rc rx rr))) :
    WP (d + 4) 17 0 [.ref 37, .ref a, .int (nI n), mDum, mDum] [] (mHh xL I J (mRf rc rx rr)) Q := by
  simp only [w17_0, w17_1, w17_2]
  refine c4 ha hk hh hr ho ?_
  intro I1 f1 _
  simp only [↓reduceIte, Option.toList_some, Option.toList_none, List.cons_append, List.nil_append, Int32.reduceAdd, Int32.reduceLT, Int32.reduceLE, Int32.reduceToNatClampNeg, w17_5, w17_6, w17_7]
  have L : ∀ k, k ≤ n → ∀ (I' : Nat → Nat → Int32), fA a I I' → mRw I' a = sB η ρ k → WP (d + 4) 17 9 [.ref 37, .ref a, .int (nI n), .int (sMrk η (sB η ρ k)), .int (nI k)] [] (mHh xL I' J (mRf rc rx rr)) Q := by
    refine iter_dn ?_ ?_
    · intro k hk1 ih I' f r
      have h1 : ¬ nI n ≤ nI k := nI_ge hk1 (by omega)
      obtain ⟨ok, -⟩ := sB_ok hk ho h5 k (by omega)
      obtain ⟨ok', -⟩ := sB_ok hk ho h5 (k + 1) (by omega)
      simp only [w17_9, w17_11, w17_12, h1, ↓reduceIte, w17_15, w17_16, w17_17, w17_18]
      refine c16 ha hk (fA_h ha f hh) r ok _ ?_
      intro I2 f2 r2
      simp only [↓reduceIte, Option.toList_some, Option.toList_none, List.cons_append, List.nil_append, Int32.reduceAdd, Int32.reduceLT, Int32.reduceLE, Int32.reduceToNatClampNeg, w17_21, w17_22, w17_23, w17_24]
      refine c4 ha hk (fA_h ha (fA_t f f2) hh) r2 ok' ?_
      intro I3 f3 _
      simp only [↓reduceIte, Option.toList_some, Option.toList_none, List.cons_append, List.nil_append, Int32.reduceAdd, Int32.reduceLT, Int32.reduceLE, Int32.reduceToNatClampNeg, w17_27, w17_28, w17_31, nI_1]
      exact ih I3 (fA_t (fA_t f f2) (fX_a f3)) (fX_r ha f3 r2)
    · intro I' f r
      have h1 : nI n ≤ nI n := nI_le (Nat.le_refl _) (by omega)
      simp only [w17_9, w17_11, w17_12, h1, ↓reduceIte, w17_34, w17_35]
      exact hQ I' f r
  exact L 0 (by omega) I1 (fX_a f1) (fX_r ha f1 hr)
theorem c15 (ha : mSt a) (hk : hOk η) (hh : mXh I rc η) (hr : mRw I a = ρ) (ho : rOk η ρ) (s : Int32) {m n : Nat} (h5 : ρ 5 = nI m) (hm : m + n ≤ 2 ^ 30) (hQ : ∀ I' : Nat → Nat → Int32, fA a I I' → mRw I' a = sP η s ρ n → Q (some (.int (sMrk η (sP η s ρ n)))) (mHh xL I' J (mRf rc rx rr))) :
    WP (d + 4) 15 0 [.ref 37, .ref a, .int (nI n), .int s, mDum, mDum, mDum] [] (mHh xL I J (mRf rc rx rr)) Q := by
  simp only [w15_0, w15_1, w15_2]
  refine c4 ha hk hh hr ho ?_
  intro I1 f1 _
  simp only [↓reduceIte, Option.toList_some, Option.toList_none, List.cons_append, List.nil_append, Int32.reduceAdd, Int32.reduceLT, Int32.reduceLE, Int32.reduceToNatClampNeg, w15_5, w15_7, w15_8]
  have L : ∀ k, k ≤ n → ∀ (I' : Nat → Nat → Int32) (v6 : Value), fA a I I' → mRw I' a = sP η s ρ k → WP (d + 4) 15 10 [.ref 37, .ref a, .int (nI n), .int s, .int (sMrk η (sP η s ρ k)), .int (nI k), v6] [] (mHh xL I' J (mRf rc rx rr)) Q := by
    refine iter_dn ?_ ?_
    · intro k hk1 ih I' v6 f r
      have h1 : ¬ nI n ≤ nI k := nI_ge hk1 (by omega)
      obtain ⟨ok, -⟩ := sP_ok hk ho s h5 k (by omega)
      obtain ⟨ok', -⟩ := sP_ok hk ho s h5 (k + 1) (by omega)
      have hh1 := fA_h ha f hh
      have e : WP (d + 4) 15 10 [.ref 37, .ref a, .int (nI n), .int s, .int (sMrk η (sP η s ρ k)), .int (nI k), v6] [] (mHh xL I' J (mRf rc rx rr)) Q = WP (d + 4) 15 40 [.ref 37, .ref a, .int (nI n), .int s, .int (sMrk η (sP η s ρ k)), .int (nI k), v6] [.int (sTk η s (sP η s ρ k))] (mHh xL I' J (mRf rc rx rr)) Q := by
        simp only [w15_10, w15_12, w15_13, h1, ↓reduceIte, w15_16, w15_17, w15_18, ha, w15_21, w15_22, c12 hh1 s r (mRw_5 r).1, ↓reduceIte, Option.toList_some, Option.toList_none, List.cons_append, List.nil_append, Int32.reduceAdd, Int32.reduceLT, Int32.reduceLE, Int32.reduceToNatClampNeg, w15_25]
        rw [sTk]
        by_cases hs : sSlp η (sP η s ρ k) s = true
        · rw [if_pos hs, if_pos hs, if_neg (by decide)]
          simp only [w15_28, w15_30, w15_31, w15_32, w15_34, w15_35, sR12]
        · rw [if_neg hs, if_neg hs, if_pos rfl]
          simp only [w15_38]
      rw [e]
      simp only [w15_40, w15_42, w15_43, w15_44, w15_46]
      refine c16 ha hk hh1 r ok _ ?_
      intro I2 f2 r2
      simp only [↓reduceIte, Option.toList_some, Option.toList_none, List.cons_append, List.nil_append, Int32.reduceAdd, Int32.reduceLT, Int32.reduceLE, Int32.reduceToNatClampNeg, w15_49, w15_50, w15_51, w15_52]
      refine c4 ha hk (fA_h ha (fA_t f f2) hh) r2 ok' ?_
      intro I3 f3 _
      simp only [↓reduceIte, Option.toList_some, Option.toList_none, List.cons_append, List.nil_append, Int32.reduceAdd, Int32.reduceLT, Int32.reduceLE, Int32.reduceToNatClampNeg, w15_55, w15_57, w15_60, nI_1]
      exact ih I3 _ (fA_t (fA_t f f2) (fX_a f3)) (fX_r ha f3 r2)
    · intro I' v6 f r
      have h1 : nI n ≤ nI n := nI_le (Nat.le_refl _) (by omega)
      simp only [w15_10, w15_12, w15_13, h1, ↓reduceIte, w15_63, w15_65]
      exact hQ I' f r
  exact L 0 (by omega) I1 _ (fX_a f1) (fX_r ha f1 hr)
end BEH
