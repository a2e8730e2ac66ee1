/-! Hours gone by, as the model has them; rows copied. -/
def mNw (I : Nat → Nat → Int32) (ρ : Nat → Int32) : Prop := mR8 I 212 0 = ρ
theorem mNw_at {I : Nat → Nat → Int32} {ρ : Nat → Int32} (h : mNw I ρ) {k : Nat} (hk : k < 8) : I 212 k = ρ k := by
  have := mR8_at h hk
  rw [Nat.zero_add] at this; exact this
theorem mNw_o {I I' : Nat → Nat → Int32} {ρ : Nat → Int32} (h : I' 212 = I 212) (hr : mNw I ρ) : mNw I' ρ := by
  unfold mNw mR8 at *
  rw [h]; exact hr
theorem mR8_of {I : Nat → Nat → Int32} {a b : Nat} {ρ : Nat → Int32} (h : ∀ k, k < 8 → I a (b + k) = ρ k) (h8 : ∀ k, 8 ≤ k → ρ k = 0) : mR8 I a b = ρ := by
  funext k
  rw [mR8]
  by_cases hk : k < 8
  · rw [if_pos hk, h k hk]
  · rw [if_neg hk, h8 k (by omega)]
theorem mR8_8 {I : Nat → Nat → Int32} {a b : Nat} {ρ : Nat → Int32} (h : mR8 I a b = ρ) : ∀ k, 8 ≤ k → ρ k = 0 := by
  intro k hk; subst h; rw [mR8, if_neg (by omega)]
/-- all but the scratch, the row that is tried on, the lots' seed and whether there are slips -/
def fC (I I' : Nat → Nat → Int32) : Prop := (∀ a, a ≠ 210 → a ≠ 211 → a ≠ 213 → a ≠ 214 → a ≠ 180 → I' a = I a) ∧ ∀ k, k ≠ 48 → k ≠ 51 → k ≠ 52 → I' 180 k = I 180 k
theorem fC_t {I I1 I2 : Nat → Nat → Int32} (h1 : fC I I1) (h2 : fC I1 I2) : fC I I2 := ⟨fun a x y z u w => by rw [h2.1 a x y z u w, h1.1 a x y z u w], fun k x y z => by rw [h2.2 k x y z, h1.2 k x y z]⟩
theorem fH_C {I I' : Nat → Nat → Int32} (h : fH I I') : fC I I' := ⟨h.1, fun k x _ _ => h.2 k x⟩
theorem fC_h {I I' : Nat → Nat → Int32} {s : Nat} {η : mHs} (h : fC I I') (hh : mMh I s η) : mMh I' s η := mMh_keep (fun a p q => h.1 a (by omega) (by omega) (by omega) (by omega) (by omega)) (h.2 18 (by decide) (by decide) (by decide)) hh
theorem fC_n {I I' : Nat → Nat → Int32} {ρ : Nat → Int32} (h : fC I I') (hr : mNw I ρ) : mNw I' ρ := mNw_o (h.1 212 (by decide) (by decide) (by decide) (by decide) (by decide)) hr
theorem fH_5 {I I' : Nat → Nat → Int32} (h : fH I I') : I' 180 51 = I 180 51 ∧ I' 180 52 = I 180 52 := ⟨h.2 51 (by decide), h.2 52 (by decide)⟩
section MGO
variable {d : Nat} {xL : Nat} {I : Nat → Nat → Int32} {J : Nat → Nat → Int64} {rc rx rr : Nat} {Q : Option Value → mHp → Prop} {s : Nat} {η : mHs} {ρ : Nat → Int32}
theorem c197s (hh : mMh I s η) (hk : hOk η) (hr : mRr I ρ) (ho : rOk η ρ) (h2 : I 180 52 = 1) (hQ : ∀ I' : Nat → Nat → Int32, fH I I' → mRr I' (sHr η ρ (sMrk η ρ)) → Q none (mHh xL I' J (mRf rc rx rr))) :
    WP (d + 5) 197 0 [.ref 180] [] (mHh xL I J (mRf rc rx rr)) Q := by
  have e1 : ((1 : Int32) = 0) = False := by simp
  simp only [w197_0, w197_1, w197_2, w197_5, w197_8, w197_9, w197_12, w197_15, w197_16, w197_19, w197_20, w197_21, w197_23, w197_24, w197_27, w197_28, w197_31, w197_34, h2, e1, ↓reduceIte]
  refine c172 hh hr ?_
  intro I1 f1
  simp only [↓reduceIte, Option.toList_some, Option.toList_none, List.cons_append, List.nil_append, Int32.reduceAdd, Int32.reduceLT, Int32.reduceLE, Int32.reduceToNatClampNeg, w197_0, w197_1, w197_2, w197_5, w197_8, w197_9, w197_12, w197_15, w197_16, w197_19, w197_20, w197_21, w197_23, w197_24, w197_27, w197_28, w197_31, w197_34]
  refine c200 (fM_h f1 hh) hk (fM_r f1 hr) ho _ ?_
  intro I2 f2 r2
  simp only [↓reduceIte, Option.toList_some, Option.toList_none, List.cons_append, List.nil_append, Int32.reduceAdd, Int32.reduceLT, Int32.reduceLE, Int32.reduceToNatClampNeg, w197_0, w197_1, w197_2, w197_5, w197_8, w197_9, w197_12, w197_15, w197_16, w197_19, w197_20, w197_21, w197_23, w197_24, w197_27, w197_28, w197_31, w197_34]
  exact hQ I2 (fH_t (fM_H f1) f2) r2
theorem c197n (hh : mMh I s η) (hk : hOk η) (hr : mRr I ρ) (ho : rOk η ρ) (h2 : I 180 52 = 0) {z : Int32} (hl : I 180 51 = z) (hQ : ∀ I' : Nat → Nat → Int32, fH I I' → mRr I' (sHr η ρ (sTk η z ρ)) → Q none (mHh xL I' J (mRf rc rx rr))) :
    WP (d + 5) 197 0 [.ref 180] [] (mHh xL I J (mRf rc rx rr)) Q := by
  simp only [w197_0, w197_1, w197_2, w197_5, h2, ↓reduceIte, w197_8, w197_9, c198 hh hr hl, ↓reduceIte, Option.toList_some, Option.toList_none, List.cons_append, List.nil_append, Int32.reduceAdd, Int32.reduceLT, Int32.reduceLE, Int32.reduceToNatClampNeg, w197_12]
  rw [sTk] at hQ
  by_cases hs : sSlp η ρ z = true
  · rw [if_pos hs] at hQ
    have e : ¬ sB01 (sSlp η ρ z) = 0 := by rw [hs]; decide
    simp only [e, ↓reduceIte, w197_15, w197_16]
    refine c172 hh hr ?_
    intro I1 f1
    simp only [↓reduceIte, Option.toList_some, Option.toList_none, List.cons_append, List.nil_append, Int32.reduceAdd, Int32.reduceLT, Int32.reduceLE, Int32.reduceToNatClampNeg, w197_0, w197_1, w197_2, w197_5, w197_8, w197_9, w197_12, w197_15, w197_16, w197_19, w197_20, w197_21, w197_23, w197_24, w197_27, w197_28, w197_31, w197_34]
    refine c200 (fM_h f1 hh) hk (fM_r f1 hr) ho _ ?_
    intro I2 f2 r2
    simp only [↓reduceIte, Option.toList_some, Option.toList_none, List.cons_append, List.nil_append, Int32.reduceAdd, Int32.reduceLT, Int32.reduceLE, Int32.reduceToNatClampNeg, w197_0, w197_1, w197_2, w197_5, w197_8, w197_9, w197_12, w197_15, w197_16, w197_19, w197_20, w197_21, w197_23, w197_24, w197_27, w197_28, w197_31, w197_34]
    exact hQ I2 (fH_t (fM_H f1) f2) r2
  · rw [if_neg hs] at hQ
    have hs' : sSlp η ρ z = false := by simpa using hs
    have e : sB01 (sSlp η ρ z) = 0 := by rw [hs']; rfl
    simp only [e, ↓reduceIte, w197_27, w197_28]
    refine c172 hh hr ?_
    intro I1 f1
    simp only [↓reduceIte, Option.toList_some, Option.toList_none, List.cons_append, List.nil_append, Int32.reduceAdd, Int32.reduceLT, Int32.reduceLE, Int32.reduceToNatClampNeg, w197_0, w197_1, w197_2, w197_5, w197_8, w197_9, w197_12, w197_15, w197_16, w197_19, w197_20, w197_21, w197_23, w197_24, w197_27, w197_28, w197_31, w197_34]
    refine c200 (fM_h f1 hh) hk (fM_r f1 hr) ho _ ?_
    intro I2 f2 r2
    simp only [↓reduceIte, Option.toList_some, Option.toList_none, List.cons_append, List.nil_append, Int32.reduceAdd, Int32.reduceLT, Int32.reduceLE, Int32.reduceToNatClampNeg, w197_0, w197_1, w197_2, w197_5, w197_8, w197_9, w197_12, w197_15, w197_16, w197_19, w197_20, w197_21, w197_23, w197_24, w197_27, w197_28, w197_31, w197_34]
    exact hQ I2 (fH_t (fM_H f1) f2) r2
theorem c196s (hh : mMh I s η) (hk : hOk η) (hr : mRr I ρ) (ho : rOk η ρ) (h2 : I 180 52 = 1) {m n : Nat} (h5 : ρ 5 = nI m) (hm : m + n ≤ 2 ^ 30) (hQ : ∀ I' : Nat → Nat → Int32, fH I I' → mRr I' (sB η ρ n) → Q none (mHh xL I' J (mRf rc rx rr))) :
    WP (d + 6) 196 0 [.ref 180, .int (nI n), mDum] [] (mHh xL I J (mRf rc rx rr)) Q := by
  simp only [w196_0, w196_1]
  have L : ∀ k, k ≤ n → ∀ (I' : Nat → Nat → Int32), fH I I' → mRr I' (sB η ρ k) → WP (d + 6) 196 2 [.ref 180, .int (nI n), .int (nI k)] [] (mHh xL I' J (mRf rc rx rr)) Q := by
    refine iter_dn ?_ ?_
    · intro k hk1 ih I' f r
      have h1 : ¬ nI n ≤ nI k := nI_ge hk1 (by omega)
      obtain ⟨ok, -⟩ := sB_ok hk ho h5 k (by omega)
      rw [w196_2]
      simp only [w196_0, w196_1, w196_3, w196_4, w196_7, w196_8, w196_11, w196_14, w196_17, h1, ↓reduceIte]
      refine c197s (fH_h f hh) hk r ok (by rw [(fH_5 f).2]; exact h2) ?_
      intro I2 f2 r2
      simp only [↓reduceIte, Option.toList_some, Option.toList_none, List.cons_append, List.nil_append, Int32.reduceAdd, Int32.reduceLT, Int32.reduceLE, Int32.reduceToNatClampNeg, w196_0, w196_1, w196_3, w196_4, w196_7, w196_8, w196_11, w196_14, w196_17, nI_1]
      exact ih I2 (fH_t f f2) r2
    · intro I' f r
      have h1 : nI n ≤ nI n := nI_le (Nat.le_refl _) (by omega)
      rw [w196_2]
      simp only [w196_0, w196_1, w196_3, w196_4, w196_7, w196_8, w196_11, w196_14, w196_17, h1, ↓reduceIte]
      exact hQ I' f r
  exact L 0 (by omega) I fH_0 hr
theorem c196n (hh : mMh I s η) (hk : hOk η) (hr : mRr I ρ) (ho : rOk η ρ) (h2 : I 180 52 = 0) {z : Int32} (hl : I 180 51 = z) {m n : Nat} (h5 : ρ 5 = nI m) (hm : m + n ≤ 2 ^ 30) (hQ : ∀ I' : Nat → Nat → Int32, fH I I' → mRr I' (sP η z ρ n) → Q none (mHh xL I' J (mRf rc rx rr))) :
    WP (d + 6) 196 0 [.ref 180, .int (nI n), mDum] [] (mHh xL I J (mRf rc rx rr)) Q := by
  simp only [w196_0, w196_1]
  have L : ∀ k, k ≤ n → ∀ (I' : Nat → Nat → Int32), fH I I' → mRr I' (sP η z ρ k) → WP (d + 6) 196 2 [.ref 180, .int (nI n), .int (nI k)] [] (mHh xL I' J (mRf rc rx rr)) Q := by
    refine iter_dn ?_ ?_
    · intro k hk1 ih I' f r
      have h1 : ¬ nI n ≤ nI k := nI_ge hk1 (by omega)
      obtain ⟨ok, -⟩ := sP_ok hk ho z h5 k (by omega)
      rw [w196_2]
      simp only [w196_0, w196_1, w196_3, w196_4, w196_7, w196_8, w196_11, w196_14, w196_17, h1, ↓reduceIte]
      refine c197n (fH_h f hh) hk r ok (by rw [(fH_5 f).2]; exact h2) (z := z) (by rw [(fH_5 f).1]; exact hl) ?_
      intro I2 f2 r2
      simp only [↓reduceIte, Option.toList_some, Option.toList_none, List.cons_append, List.nil_append, Int32.reduceAdd, Int32.reduceLT, Int32.reduceLE, Int32.reduceToNatClampNeg, w196_0, w196_1, w196_3, w196_4, w196_7, w196_8, w196_11, w196_14, w196_17, nI_1]
      exact ih I2 (fH_t f f2) r2
    · intro I' f r
      have h1 : nI n ≤ nI n := nI_le (Nat.le_refl _) (by omega)
      rw [w196_2]
      simp only [w196_0, w196_1, w196_3, w196_4, w196_7, w196_8, w196_11, w196_14, w196_17, h1, ↓reduceIte]
      exact hQ I' f r
  exact L 0 (by omega) I fH_0 hr
theorem c216s (hh : mMh I s η) (hk : hOk η) (hr : mRr I ρ) (ho : rOk η ρ) (h2 : I 180 52 = 1) {m n : Nat} (h5 : ρ 5 = nI m) (hm : m + n ≤ 2 ^ 30) (hQ : ∀ I' : Nat → Nat → Int32, fH I I' → mRr I' (sB η ρ n) → Q (some (.int (sMrk η (sB η ρ n)))) (mHh xL I' J (mRf rc rx rr))) :
    WP (d + 7) 216 0 [.ref 180, .int (nI n)] [] (mHh xL I J (mRf rc rx rr)) Q := by
  simp only [w216_0, w216_1, w216_2, w216_5, w216_6, w216_9]
  refine c196s hh hk hr ho h2 h5 hm ?_
  intro I1 f1 r1
  simp only [↓reduceIte, Option.toList_some, Option.toList_none, List.cons_append, List.nil_append, Int32.reduceAdd, Int32.reduceLT, Int32.reduceLE, Int32.reduceToNatClampNeg, w216_0, w216_1, w216_2, w216_5, w216_6, w216_9]
  refine c172 (fH_h f1 hh) r1 ?_
  intro I2 f2
  simp only [↓reduceIte, Option.toList_some, Option.toList_none, List.cons_append, List.nil_append, Int32.reduceAdd, Int32.reduceLT, Int32.reduceLE, Int32.reduceToNatClampNeg, w216_0, w216_1, w216_2, w216_5, w216_6, w216_9]
  exact hQ I2 (fH_t f1 (fM_H f2)) (fM_r f2 r1)
theorem c216n (hh : mMh I s η) (hk : hOk η) (hr : mRr I ρ) (ho : rOk η ρ) (h2 : I 180 52 = 0) {z : Int32} (hl : I 180 51 = z) {m n : Nat} (h5 : ρ 5 = nI m) (hm : m + n ≤ 2 ^ 30) (hQ : ∀ I' : Nat → Nat → Int32, fH I I' → mRr I' (sP η z ρ n) → Q (some (.int (sMrk η (sP η z ρ n)))) (mHh xL I' J (mRf rc rx rr))) :
    WP (d + 7) 216 0 [.ref 180, .int (nI n)] [] (mHh xL I J (mRf rc rx rr)) Q := by
  simp only [w216_0, w216_1, w216_2, w216_5, w216_6, w216_9]
  refine c196n hh hk hr ho h2 hl h5 hm ?_
  intro I1 f1 r1
  simp only [↓reduceIte, Option.toList_some, Option.toList_none, List.cons_append, List.nil_append, Int32.reduceAdd, Int32.reduceLT, Int32.reduceLE, Int32.reduceToNatClampNeg, w216_0, w216_1, w216_2, w216_5, w216_6, w216_9]
  refine c172 (fH_h f1 hh) r1 ?_
  intro I2 f2
  simp only [↓reduceIte, Option.toList_some, Option.toList_none, List.cons_append, List.nil_append, Int32.reduceAdd, Int32.reduceLT, Int32.reduceLE, Int32.reduceToNatClampNeg, w216_0, w216_1, w216_2, w216_5, w216_6, w216_9]
  exact hQ I2 (fH_t f1 (fM_H f2)) (fM_r f2 r1)
theorem c171 (hh : mMh I s η) (hn : mNw I ρ) (hQ : ∀ I' : Nat → Nat → Int32, fC I I' → mRr I' ρ → I' 180 51 = η.2.2.2.2.1 → I' 180 52 = 0 → Q none (mHh xL I' J (mRf rc rx rr))) :
    WP d 171 0 [.ref 180, mDum] [] (mHh xL I J (mRf rc rx rr)) Q := by
  have hs := hh.1
  have s1 : mIn (nI s) 2 = true := mIn_nI (by omega) (by omega)
  have s2 : (nI s).toNatClampNeg = s := nI_clamp (by omega)
  simp only [w171_0, w171_1]
  have L : ∀ k, k ≤ 8 → ∀ (I' : Nat → Nat → Int32), (∀ a, a ≠ 213 → I' a = I a) → (∀ j, j < k → I' 213 j = ρ j) → WP d 171 2 [.ref 180, .int (nI k)] [] (mHh xL I' J (mRf rc rx rr)) Q := by
    refine iter_dn ?_ ?_
    · intro k hk ih I' f r
      have h1 : ¬ 8 ≤ nI k := by rw [ni_le 8 (by decide) (by omega)]; omega
      have h2 : mIn (nI k) 8 = true := mIn_nI (by omega) (by omega)
      have h3 : (nI k).toNatClampNeg = k := nI_clamp (by omega)
      have h4 : I' 212 k = ρ k := by rw [f 212 (by decide)]; exact mNw_at hn (by omega)
      rw [w171_2]
      simp only [w171_0, w171_1, w171_3, w171_5, w171_8, w171_9, w171_12, w171_13, w171_14, w171_17, w171_18, w171_19, w171_20, w171_23, w171_26, w171_27, w171_28, w171_31, w171_32, w171_35, w171_36, w171_39, w171_40, w171_41, w171_44, h1, h2, h3, h4, ↓reduceIte, nI_1]
      refine ih _ (fun a ha => by rw [mU_f ha, f a ha]) ?_
      intro j hj
      by_cases e : j = k
      · subst e; exact mU_s _ _ _ _
      · rw [mU_k e]; exact r j (by omega)
    · intro I' f r
      have h1 : 8 ≤ nI 8 := by decide
      have hl : I' 180 18 = nI s := by rw [f 180 (by decide)]; exact hh.2.1
      have he : I' 199 s = η.2.2.2.2.1 := by rw [f 199 (by decide)]; exact hh.2.2.2.2.2.1
      rw [w171_2]
      simp only [w171_0, w171_1, w171_3, w171_5, w171_8, w171_9, w171_12, w171_13, w171_14, w171_17, w171_18, w171_19, w171_20, w171_23, w171_26, w171_27, w171_28, w171_31, w171_32, w171_35, w171_36, w171_39, w171_40, w171_41, w171_44, h1, ↓reduceIte, hl, s1, s2, he]
      refine hQ _ ⟨fun a x y z u w => by rw [mU_f w, mU_f w, f a z], fun k x y z => by rw [mU_k z, mU_k y, f 180 (by decide)]⟩ ?_ ?_ ?_
      · unfold mRr
        refine mR8_of (fun k hk => ?_) (mR8_8 hn)
        rw [mU_f (by decide), mU_f (by decide), Nat.zero_add]; exact r k hk
      · rw [mU_k (by decide), mU_s]
      · rw [mU_s]
  exact L 0 (by omega) I (fun _ _ => rfl) (fun j hj => absurd hj (by omega))
theorem c204 (hh : mMh I s η) (hn : mNw I ρ) (hQ : ∀ I' : Nat → Nat → Int32, fC I I' → mRr I' ρ → I' 180 52 = 1 → Q none (mHh xL I' J (mRf rc rx rr))) :
    WP (d + 1) 204 0 [.ref 180] [] (mHh xL I J (mRf rc rx rr)) Q := by
  simp only [w204_0, w204_1, w204_4, w204_5, w204_6, w204_9]
  refine c171 hh hn ?_
  intro I1 f1 r1 _ _
  simp only [↓reduceIte, Option.toList_some, Option.toList_none, List.cons_append, List.nil_append, Int32.reduceAdd, Int32.reduceLT, Int32.reduceLE, Int32.reduceToNatClampNeg, w204_0, w204_1, w204_4, w204_5, w204_6, w204_9]
  refine hQ _ ⟨fun a x y z u w => by rw [mU_f w, f1.1 a x y z u w], fun k x y z => by rw [mU_k z, f1.2 k x y z]⟩ (mRr_o (mU_f (by decide)) r1) (mU_s _ _ _ _)
end MGO
