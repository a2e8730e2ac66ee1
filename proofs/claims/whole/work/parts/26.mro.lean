/-! The model's house and row, and what it tells by them. -/
def mMh (I : Nat → Nat → Int32) (s : Nat) (η : mHs) : Prop := s < 2 ∧ I 180 18 = nI s ∧ I 190 s = nI η.1 ∧ I 193 s = nI η.2.1 ∧ I 198 s = η.2.2.2.1 ∧ I 199 s = η.2.2.2.2.1 ∧ (∀ p, p < η.1 → I 191 (5 * s + p) = hT η 0 p ∧ I 192 (5 * s + p) = hT η 1 p) ∧ (∀ i, i < η.2.1 → I 194 (6 * s + i) = hT η 2 i ∧ I 195 (6 * s + i) = hT η 3 i ∧ I 196 (6 * s + i) = hT η 4 i ∧ I 197 (6 * s + i) = hT η 5 i) ∧ (∀ k, k < 4 → mMw I (4 * s + k) (hL η k))
theorem mMh_keep {I I' : Nat → Nat → Int32} {s : Nat} {η : mHs} (h : ∀ a, 190 ≤ a → a ≤ 208 → I' a = I a) (h8 : I' 180 18 = I 180 18) (hh : mMh I s η) : mMh I' s η := by
  obtain ⟨h0, h1, h2, h3, h4, h5, h6, h7, h9⟩ := hh
  refine ⟨h0, by rw [h8]; exact h1, by rw [h 190 (by decide) (by decide)]; exact h2, by rw [h 193 (by decide) (by decide)]; exact h3, by rw [h 198 (by decide) (by decide)]; exact h4, by rw [h 199 (by decide) (by decide)]; exact h5, ?_, ?_, fun k hk => mMw_keep (fun a p q => h a (by omega) q) (h9 k hk)⟩
  · rw [h 191 (by decide) (by decide), h 192 (by decide) (by decide)]; exact h6
  · rw [h 194 (by decide) (by decide), h 195 (by decide) (by decide), h 196 (by decide) (by decide), h 197 (by decide) (by decide)]; exact h7
/-- a row of eight -/
def mR8 (I : Nat → Nat → Int32) (a b : Nat) : Nat → Int32 := fun k => if k < 8 then I a (b + k) else 0
theorem mR8_at {I : Nat → Nat → Int32} {a b : Nat} {ρ : Nat → Int32} (h : mR8 I a b = ρ) {k : Nat} (hk : k < 8) : I a (b + k) = ρ k := by subst h; rw [mR8, if_pos hk]
/-- the row that is tried on -/
def mRr (I : Nat → Nat → Int32) (ρ : Nat → Int32) : Prop := mR8 I 213 0 = ρ
theorem mRr_at {I : Nat → Nat → Int32} {ρ : Nat → Int32} (h : mRr I ρ) {k : Nat} (hk : k < 8) : I 213 k = ρ k := by
  have := mR8_at h hk
  rw [Nat.zero_add] at this; exact this
/-- all but the variables, the pile, whether something is broken -/
def fM (I I' : Nat → Nat → Int32) : Prop := (∀ a, a ≠ 210 → a ≠ 211 → a ≠ 180 → I' a = I a) ∧ ∀ k, k ≠ 48 → I' 180 k = I 180 k
theorem fM_t {I I1 I2 : Nat → Nat → Int32} (h1 : fM I I1) (h2 : fM I1 I2) : fM I I2 := ⟨fun a x y z => by rw [h2.1 a x y z, h1.1 a x y z], fun k x => by rw [h2.2 k x, h1.2 k x]⟩
theorem fL_m {I I' : Nat → Nat → Int32} (h : fL I I') : fM I I' := ⟨fun a _ y z => h.1 a y z, h.2⟩
theorem fM_v {I I' : Nat → Nat → Int32} (h : ∀ a, a ≠ 210 → I' a = I a) : fM I I' := ⟨fun a x _ _ => h a x, fun k _ => by rw [h 180 (by decide)]⟩
theorem fM_h {I I' : Nat → Nat → Int32} {s : Nat} {η : mHs} (h : fM I I') (hh : mMh I s η) : mMh I' s η := mMh_keep (fun a p q => h.1 a (by omega) (by omega) (by omega)) (h.2 18 (by decide)) hh
theorem fM_r {I I' : Nat → Nat → Int32} {ρ : Nat → Int32} (h : fM I I') (hr : mRr I ρ) : mRr I' ρ := by
  have e := h.1 213 (by decide) (by decide) (by decide)
  unfold mRr mR8 at *
  rw [e]; exact hr
section MRO
variable {d : Nat} {xL : Nat} {I : Nat → Nat → Int32} {J : Nat → Nat → Int64} {rc rx rr : Nat} {Q : Option Value → mHp → Prop} {s : Nat} {η : mHs} {ρ : Nat → Int32}
theorem c175 (hr : mRr I ρ) : WP d 175 0 [.ref 180] [] (mHh xL I J (mRf rc rx rr)) Q = Q (some (.int (rS ρ))) (mHh xL I J (mRf rc rx rr)) := by
  simp only [w175_0, w175_1, w175_4, w175_5, w175_6, w175_7, w175_10, w175_11, w175_12, w175_13, w175_14, w175_17, w175_18, w175_19, w175_20, w175_21, w175_24, w175_25, w175_26, w175_27, w175_28, w175_31, w175_32, w175_33, w175_34, mRr_at hr (show 0 < 8 by decide), mRr_at hr (show 1 < 8 by decide), mRr_at hr (show 2 < 8 by decide), mRr_at hr (show 3 < 8 by decide), mRr_at hr (show 4 < 8 by decide), rS]
theorem c176 (hr : mRr I ρ) : WP d 176 0 [.ref 180, mDum, mDum] [] (mHh xL I J (mRf rc rx rr)) Q = Q (some (.int (rM ρ))) (mHh xL I J (mRf rc rx rr)) := by
  simp only [w176_0, w176_1, w176_2, w176_3]
  have key : ∀ k, k ≤ 5 → WP d 176 4 [.ref 180, .int (pM ρ k), .int (nI k)] [] (mHh xL I J (mRf rc rx rr)) Q = Q (some (.int (rM ρ))) (mHh xL I J (mRf rc rx rr)) := by
    refine iter_dn ?_ ?_
    · intro k hk ih
      have h1 : ¬ 5 ≤ nI k := by rw [ni_le 5 (by decide) (by omega)]; omega
      have h2 : mIn (nI k) 8 = true := mIn_nI (by omega) (by omega)
      have h3 : (nI k).toNatClampNeg = k := nI_clamp (by omega)
      have h4 : I 213 k = ρ k := mRr_at hr (by omega)
      rw [← ih, pM, mMx, w176_4]
      simp only [w176_0, w176_1, w176_2, w176_3, w176_5, w176_6, w176_9, w176_10, w176_13, w176_14, w176_15, w176_16, w176_19, w176_20, w176_23, w176_24, w176_25, w176_26, w176_29, w176_32, w176_33, h1, h2, h3, h4, ↓reduceIte, nI_1]
      by_cases h5 : ρ k ≤ pM ρ k
      · have h6 : ¬ pM ρ k < ρ k := by rw [Int32.lt_iff_toInt_lt]; rw [Int32.le_iff_toInt_le] at h5; omega
        simp only [h5, h6, ↓reduceIte]
      · have h6 : pM ρ k < ρ k := by rw [Int32.lt_iff_toInt_lt]; rw [Int32.le_iff_toInt_le] at h5; omega
        simp only [h5, h6, ↓reduceIte]
    · have h1 : 5 ≤ nI 5 := by decide
      rw [w176_4]
      simp only [w176_0, w176_1, w176_2, w176_3, w176_5, w176_6, w176_9, w176_10, w176_13, w176_14, w176_15, w176_16, w176_19, w176_20, w176_23, w176_24, w176_25, w176_26, w176_29, w176_32, w176_33, h1, ↓reduceIte]
      rfl
  exact key 0 (by omega)
theorem c174 (hr : mRr I ρ) (hQ : ∀ I' : Nat → Nat → Int32, (∀ a, a ≠ 210 → I' a = I a) → (∀ i, i < 9 → I' 210 i = rV ρ i) → Q none (mHh xL I' J (mRf rc rx rr))) :
    WP (d + 1) 174 0 [.ref 180, mDum] [] (mHh xL I J (mRf rc rx rr)) Q := by
  simp only [w174_0, w174_1]
  have key : ∀ k, k ≤ 9 → ∀ I' : Nat → Nat → Int32, (∀ a, a ≠ 210 → I' a = I a) → (∀ i, i < k → I' 210 i = 0) → WP (d + 1) 174 2 [.ref 180, .int (nI k)] [] (mHh xL I' J (mRf rc rx rr)) Q := by
    refine iter_dn ?_ ?_
    · intro k hk ih I' f z
      have h1 : ¬ 9 ≤ nI k := by rw [ni_le 9 (by decide) (by omega)]; omega
      have h2 : mIn (nI k) 9 = true := mIn_nI (by omega) (by omega)
      have h3 : (nI k).toNatClampNeg = k := nI_clamp (by omega)
      rw [w174_2]
      simp only [w174_0, w174_1, w174_3, w174_5, w174_8, w174_9, w174_12, w174_13, w174_14, w174_15, w174_18, w174_21, w174_22, w174_25, w174_26, w174_27, w174_30, w174_31, w174_32, w174_35, w174_36, w174_37, w174_40, w174_41, w174_42, w174_44, w174_45, w174_46, w174_47, w174_50, w174_51, w174_52, w174_55, w174_57, w174_58, w174_59, w174_60, w174_63, w174_65, w174_66, w174_69, w174_70, h1, h2, h3, ↓reduceIte, nI_1]
      refine ih _ (fun a ha => by rw [mU_f ha, f a ha]) ?_
      intro i hi
      by_cases e : i = k
      · subst e; exact mU_s _ _ _ _
      · rw [mU_k e]; exact z i (by omega)
    · intro I' f z
      have h1 : 9 ≤ nI 9 := by decide
      have r1 : mRr I' ρ := fM_r (fM_v f) hr
      have r2 : mRr (mU (mU (mU I' 210 0 (rS ρ)) 210 4 (ρ 5 - ρ 5 / 24 * 24)) 210 5 (ρ 6)) ρ := fM_r (fM_v (I := I) (fun a ha => by rw [mU_f ha, mU_f ha, mU_f ha, f a ha])) hr
      have n5 : ∀ x, mU I' 210 0 x 213 = I' 213 := fun x => mU_f (by decide)
      have n6 : ∀ x y, mU (mU I' 210 0 x) 210 4 y 213 = I' 213 := fun x y => by rw [mU_f (by decide), mU_f (by decide)]
      rw [w174_2]
      simp only [w174_0, w174_1, w174_3, w174_5, w174_8, w174_9, w174_12, w174_13, w174_14, w174_15, w174_18, w174_21, w174_22, w174_25, w174_26, w174_27, w174_30, w174_31, w174_32, w174_35, w174_36, w174_37, w174_40, w174_41, w174_42, w174_44, w174_45, w174_46, w174_47, w174_50, w174_51, w174_52, w174_55, w174_57, w174_58, w174_59, w174_60, w174_63, w174_65, w174_66, w174_69, w174_70, h1, ↓reduceIte, c175 r1, ↓reduceIte, Option.toList_some, Option.toList_none, List.cons_append, List.nil_append, Int32.reduceAdd, Int32.reduceLT, Int32.reduceLE, Int32.reduceToNatClampNeg, n5, n6, mRr_at r1 (show 5 < 8 by decide), mRr_at r1 (show 6 < 8 by decide)]
      rw [c176 r2]
      simp only [w174_0, w174_1, w174_3, w174_5, w174_8, w174_9, w174_12, w174_13, w174_14, w174_15, w174_18, w174_21, w174_22, w174_25, w174_26, w174_27, w174_30, w174_31, w174_32, w174_35, w174_36, w174_37, w174_40, w174_41, w174_42, w174_44, w174_45, w174_46, w174_47, w174_50, w174_51, w174_52, w174_55, w174_57, w174_58, w174_59, w174_60, w174_63, w174_65, w174_66, w174_69, w174_70, ↓reduceIte, Option.toList_some, Option.toList_none, List.cons_append, List.nil_append, Int32.reduceAdd, Int32.reduceLT, Int32.reduceLE, Int32.reduceToNatClampNeg]
      refine hQ _ (fun a ha => by rw [mU_f ha, mU_f ha, mU_f ha, mU_f ha, f a ha]) (i9 ?_ ?_ ?_ ?_ ?_ ?_ ?_ ?_ ?_)
      · rw [mU_k (by decide), mU_k (by decide), mU_k (by decide), mU_s, rV0]
      · rw [mU_k (by decide), mU_k (by decide), mU_k (by decide), mU_k (by decide), z 1 (by decide)]; rfl
      · rw [mU_k (by decide), mU_k (by decide), mU_k (by decide), mU_k (by decide), z 2 (by decide)]; rfl
      · rw [mU_k (by decide), mU_k (by decide), mU_k (by decide), mU_k (by decide), z 3 (by decide)]; rfl
      · rw [mU_k (by decide), mU_k (by decide), mU_s, rV4]; rfl
      · rw [mU_k (by decide), mU_s, rV5]
      · rw [mU_k (by decide), mU_k (by decide), mU_k (by decide), mU_k (by decide), z 6 (by decide)]; rfl
      · rw [mU_k (by decide), mU_k (by decide), mU_k (by decide), mU_k (by decide), z 7 (by decide)]; rfl
      · rw [mU_s, rV8]
  exact key 0 (by omega) I (fun _ _ => rfl) (fun i hi => absurd hi (by omega))
theorem c180 (v m : Int32) {h : mHp} : WP d 180 0 [.int v, .int 0, .int m] [] h Q = Q (some (.int (sHd v m))) h := by
  simp only [w180_0, w180_1, w180_2, sHd]
  by_cases h1 : v < 0
  · have h2 : ¬ 0 ≤ v := by rw [Int32.le_iff_toInt_le]; rw [Int32.lt_iff_toInt_lt] at h1; omega
    simp only [h1, h2, ↓reduceIte, w180_5, w180_6, w180_19]
  · have h2 : 0 ≤ v := by rw [Int32.le_iff_toInt_le]; rw [Int32.lt_iff_toInt_lt] at h1; omega
    simp only [h1, h2, ↓reduceIte, w180_9, w180_10, w180_11]
    by_cases h3 : m < v
    · have h4 : ¬ v ≤ m := by rw [Int32.le_iff_toInt_le]; rw [Int32.lt_iff_toInt_lt] at h3; omega
      simp only [h3, h4, ↓reduceIte, w180_14, w180_15, w180_19]
    · have h4 : v ≤ m := by rw [Int32.le_iff_toInt_le]; rw [Int32.lt_iff_toInt_lt] at h3; omega
      simp only [h3, h4, ↓reduceIte, w180_18, w180_19]
def sB01 (b : Bool) : Int32 := if b then 1 else 0
theorem c170 (v l m : Int32) {h : mHp} : WP d 170 0 [.int v, .int l, .int m] [] h Q = Q (some (.int (sB01 (decide (l ≤ v) && decide (v ≤ m))))) h := by
  have nb1 : narrow .boolean (.int 1) = .int 1 := by decide
  have nb0 : narrow .boolean (.int 0) = .int 0 := by decide
  simp only [w170_0, w170_1, w170_2]
  by_cases h1 : l ≤ v
  · have h2 : ¬ v < l := by rw [Int32.lt_iff_toInt_lt]; rw [Int32.le_iff_toInt_le] at h1; omega
    simp only [h1, h2, ↓reduceIte, w170_5, w170_6, w170_7]
    by_cases h3 : v ≤ m
    · have h4 : ¬ m < v := by rw [Int32.lt_iff_toInt_lt]; rw [Int32.le_iff_toInt_le] at h3; omega
      simp only [h3, h4, ↓reduceIte, w170_10, w170_11, w170_15, nb1]; rfl
    · have h4 : m < v := by rw [Int32.lt_iff_toInt_lt]; rw [Int32.le_iff_toInt_le] at h3; omega
      simp only [h3, h4, ↓reduceIte, w170_14, w170_15, nb0]; rfl
  · have h2 : v < l := by rw [Int32.lt_iff_toInt_lt]; rw [Int32.le_iff_toInt_le] at h1; omega
    simp only [h1, h2, ↓reduceIte, w170_14, w170_15, nb0]; rfl
theorem c177' {V : Nat → Int32} (hh : mMh I s η) {k : Nat} {kk x : Int32} (hk : k < 4) (hkk : kk = nI k) (hx : x = mLe V (mDf k).1 (mDf k).2) (hv : ∀ i, i < 9 → I 210 i = V i)
    (hQ : ∀ (I' : Nat → Nat → Int32), fL I I' → Q (some (.int (sL η k V))) (mHh xL I' J (mRf rc rx rr))) :
    WP (d + 1) 177 0 [.ref 180, .int kk, .int x, mDum, mDum, mDum, mDum] [] (mHh xL I J (mRf rc rx rr)) Q := by
  subst hkk
  exact c177 hh.1 hk hh.2.1 (hh.2.2.2.2.2.2.2.2 k hk) hx hv hQ
theorem sR_y (x : Int32) : sRest η ρ = if sL η 0 (rV ρ) < 0 then 0 else sR12 (sL η 0 (rV ρ)) := rfl
theorem c173 (hh : mMh I s η) (hr : mRr I ρ) (hQ : ∀ (I' : Nat → Nat → Int32), fM I I' → Q (some (.int (sRest η ρ))) (mHh xL I' J (mRf rc rx rr))) :
    WP (d + 2) 173 0 [.ref 180, mDum] [] (mHh xL I J (mRf rc rx rr)) Q := by
  simp only [w173_0, w173_1, w173_4, w173_5, w173_6, w173_7, w173_10, w173_11, w173_12, w173_15, w173_16, w173_17, w173_20, w173_21, w173_24, w173_25, w173_27, w173_28]
  refine c174 hr ?_
  intro I1 f1 v1
  simp only [↓reduceIte, Option.toList_some, Option.toList_none, List.cons_append, List.nil_append, Int32.reduceAdd, Int32.reduceLT, Int32.reduceLE, Int32.reduceToNatClampNeg, w173_0, w173_1, w173_4, w173_5, w173_6, w173_7, w173_10, w173_11, w173_12, w173_15, w173_16, w173_17, w173_20, w173_21, w173_24, w173_25, w173_27, w173_28, v1 0 (by decide)]
  refine c177' (V := rV ρ) (fM_h (fM_v f1) hh) (k := 0) (by decide) rfl rfl v1 ?_
  intro I2 f2
  have hq := hQ I2 (fM_t (fM_v f1) (fL_m f2))
  rw [sRest] at hq
  simp only [↓reduceIte, Option.toList_some, Option.toList_none, List.cons_append, List.nil_append, Int32.reduceAdd, Int32.reduceLT, Int32.reduceLE, Int32.reduceToNatClampNeg, w173_0, w173_1, w173_4, w173_5, w173_6, w173_7, w173_10, w173_11, w173_12, w173_15, w173_16, w173_17, w173_20, w173_21, w173_24, w173_25, w173_27, w173_28]
  by_cases h : sL η 0 (rV ρ) < 0
  · rw [if_pos h] at hq
    have h2 : ¬ 0 ≤ sL η 0 (rV ρ) := by rw [Int32.le_iff_toInt_le]; rw [Int32.lt_iff_toInt_lt] at h; omega
    simp only [h2, ↓reduceIte]; exact hq
  · rw [if_neg h] at hq
    have h2 : 0 ≤ sL η 0 (rV ρ) := by rw [Int32.le_iff_toInt_le]; rw [Int32.lt_iff_toInt_lt] at h; omega
    simp only [h2, ↓reduceIte]; exact hq
theorem c179 (hh : mMh I s η) (hr : mRr I ρ) (hQ : ∀ (I' : Nat → Nat → Int32), fM I I' → Q (some (.int (sJmp η ρ))) (mHh xL I' J (mRf rc rx rr))) :
    WP (d + 3) 179 0 [.ref 180, mDum] [] (mHh xL I J (mRf rc rx rr)) Q := by
  simp only [w179_0, w179_1, w179_4, w179_5, w179_6, w179_9, w179_10, w179_13, w179_14, w179_15, w179_16, w179_17, w179_18, w179_19, w179_22, w179_23, w179_25, w179_28]
  refine c173 hh hr ?_
  intro I1 f1
  simp only [↓reduceIte, Option.toList_some, Option.toList_none, List.cons_append, List.nil_append, Int32.reduceAdd, Int32.reduceLT, Int32.reduceLE, Int32.reduceToNatClampNeg, w179_0, w179_1, w179_4, w179_5, w179_6, w179_9, w179_10, w179_13, w179_14, w179_15, w179_16, w179_17, w179_18, w179_19, w179_22, w179_23, w179_25, w179_28]
  refine c174 (fM_r f1 hr) ?_
  intro I2 f2 v2
  simp only [↓reduceIte, Option.toList_some, Option.toList_none, List.cons_append, List.nil_append, Int32.reduceAdd, Int32.reduceLT, Int32.reduceLE, Int32.reduceToNatClampNeg, w179_0, w179_1, w179_4, w179_5, w179_6, w179_9, w179_10, w179_13, w179_14, w179_15, w179_16, w179_17, w179_18, w179_19, w179_22, w179_23, w179_25, w179_28]
  have f3 : fM I (mU I2 210 3 (sRest η ρ)) := fM_t f1 (fM_v (fun a ha => by rw [mU_f ha, f2 a ha]))
  refine c177' (V := fun i => if i = 3 then sRest η ρ else rV ρ i) (fM_h f3 hh) (k := 3) (by decide) rfl rfl ?_ ?_
  · intro i hi
    by_cases e : i = 3
    · subst e; rw [mU_s, if_pos rfl]
    · rw [mU_k e, if_neg e, v2 i hi]
  · intro I3 f4
    simp only [↓reduceIte, Option.toList_some, Option.toList_none, List.cons_append, List.nil_append, Int32.reduceAdd, Int32.reduceLT, Int32.reduceLE, Int32.reduceToNatClampNeg, w179_0, w179_1, w179_4, w179_5, w179_6, w179_9, w179_10, w179_13, w179_14, w179_15, w179_16, w179_17, w179_18, w179_19, w179_22, w179_23, w179_25, w179_28, c180]
    exact hQ I3 (fM_t f3 (fL_m f4))
theorem c172 (hh : mMh I s η) (hr : mRr I ρ) (hQ : ∀ (I' : Nat → Nat → Int32), fM I I' → Q (some (.int (sMrk η ρ))) (mHh xL I' J (mRf rc rx rr))) :
    WP (d + 4) 172 0 [.ref 180] [] (mHh xL I J (mRf rc rx rr)) Q := by
  simp only [w172_0, w172_1, w172_4, w172_5, w172_8, w172_9, w172_12, w172_14, w172_15, w172_16, w172_17, w172_19, w172_20]
  refine c173 hh hr ?_
  intro I1 f1
  simp only [↓reduceIte, Option.toList_some, Option.toList_none, List.cons_append, List.nil_append, Int32.reduceAdd, Int32.reduceLT, Int32.reduceLE, Int32.reduceToNatClampNeg, w172_0, w172_1, w172_4, w172_5, w172_8, w172_9, w172_12, w172_14, w172_15, w172_16, w172_17, w172_19, w172_20]
  refine c179 (fM_h f1 hh) (fM_r f1 hr) ?_
  intro I2 f2
  have r2 := fM_r (fM_t f1 f2) hr
  simp only [↓reduceIte, Option.toList_some, Option.toList_none, List.cons_append, List.nil_append, Int32.reduceAdd, Int32.reduceLT, Int32.reduceLE, Int32.reduceToNatClampNeg, w172_0, w172_1, w172_4, w172_5, w172_8, w172_9, w172_12, w172_14, w172_15, w172_16, w172_17, w172_19, w172_20, mRr_at r2 (show 6 < 8 by decide)]
  exact hQ I2 (fM_t f1 f2)
theorem c182 (hh : mMh I s η) (hk : hOk η) (hr : mRr I ρ) {p : Nat} (hp : p < η.1) (v : Int32) (hQ : ∀ (I' : Nat → Nat → Int32), (∀ a, a ≠ 210 → I' a = I a) → (∀ i, i < 9 → I' 210 i = if i = 1 then ρ p else if i = 2 then hT η 1 p else if i = 3 then v else rV ρ i) → Q none (mHh xL I' J (mRf rc rx rr))) :
    WP (d + 2) 182 0 [.ref 180, .int (nI p), .int v] [] (mHh xL I J (mRf rc rx rr)) Q := by
  have hn := hk.1
  have hs := hh.1
  have h1 : mIn (nI p) 8 = true := mIn_nI (by omega) (by omega)
  have h2 : (nI p).toNatClampNeg = p := nI_clamp (by omega)
  have h3 : mIn (nI (5 * s + p)) 10 = true := mIn_nI (by omega) (by omega)
  have h4 : (nI (5 * s + p)).toNatClampNeg = 5 * s + p := nI_clamp (by omega)
  have a3 : 5 * nI s = nI (5 * s) := pk_mul 5 s
  simp only [w182_0, w182_1, w182_4, w182_5, w182_8, w182_9, w182_10, w182_13, w182_14, w182_15, w182_16, w182_17, w182_20, w182_21, w182_22, w182_25, w182_26, w182_27, w182_30, w182_31, w182_32, w182_33, w182_34, w182_35, w182_36, w182_39, w182_40, w182_41, w182_42]
  refine c174 hr ?_
  intro I1 f1 v1
  have hh1 := fM_h (fM_v f1) hh
  have hr1 := fM_r (fM_v f1) hr
  have n1 : ∀ x, mU I1 210 1 x 192 = I1 192 := fun x => mU_f (by decide)
  have n2 : ∀ x, mU I1 210 1 x 180 = I1 180 := fun x => mU_f (by decide)
  simp only [↓reduceIte, Option.toList_some, Option.toList_none, List.cons_append, List.nil_append, Int32.reduceAdd, Int32.reduceLT, Int32.reduceLE, Int32.reduceToNatClampNeg, w182_0, w182_1, w182_4, w182_5, w182_8, w182_9, w182_10, w182_13, w182_14, w182_15, w182_16, w182_17, w182_20, w182_21, w182_22, w182_25, w182_26, w182_27, w182_30, w182_31, w182_32, w182_33, w182_34, w182_35, w182_36, w182_39, w182_40, w182_41, w182_42, h1, h2, h3, h4, n1, n2, hh1.2.1, a3, nI_add, mRr_at hr1 (show p < 8 by omega), (hh1.2.2.2.2.2.2.1 p hp).2]
  refine hQ _ (fun a ha => by rw [mU_f ha, mU_f ha, mU_f ha, f1 a ha]) ?_
  intro i hi
  by_cases e3 : i = 3
  · subst e3; rw [mU_s, if_neg (by decide), if_neg (by decide), if_pos rfl]
  · rw [mU_k e3]
    by_cases e2 : i = 2
    · subst e2; rw [mU_s, if_neg (by decide), if_pos rfl]
    · rw [mU_k e2]
      by_cases e1 : i = 1
      · subst e1; rw [mU_s, if_pos rfl]
      · rw [mU_k e1, if_neg e1, if_neg e2, if_neg e3]; exact v1 i hi
theorem c181 (hh : mMh I s η) (hk : hOk η) (hr : mRr I ρ) {p : Nat} (hp : p < η.1) (v : Int32) (hQ : ∀ (I' : Nat → Nat → Int32), fM I I' → Q (some (.int (sDft η ρ p v))) (mHh xL I' J (mRf rc rx rr))) :
    WP (d + 3) 181 0 [.ref 180, .int (nI p), .int v] [] (mHh xL I J (mRf rc rx rr)) Q := by
  have hn := hk.1
  have h1 : mIn (nI p) 8 = true := mIn_nI (by omega) (by omega)
  have h2 : (nI p).toNatClampNeg = p := nI_clamp (by omega)
  simp only [w181_0, w181_1, w181_2, w181_3, w181_6, w181_7, w181_10, w181_12, w181_13, w181_14, w181_15, w181_16, w181_17, w181_20, w181_21, w181_22, w181_25, w181_26, w181_28, w181_31]
  refine c182 hh hk hr hp v ?_
  intro I1 f1 v1
  have hr1 : mRr (mU I1 210 6 (nI p)) ρ := fM_r (fM_v (I := I) (fun a ha => by rw [mU_f ha, f1 a ha])) hr
  have f3 : fM I (mU I1 210 6 (nI p)) := fM_v (fun a ha => by rw [mU_f ha, f1 a ha])
  simp only [↓reduceIte, Option.toList_some, Option.toList_none, List.cons_append, List.nil_append, Int32.reduceAdd, Int32.reduceLT, Int32.reduceLE, Int32.reduceToNatClampNeg, w181_0, w181_1, w181_2, w181_3, w181_6, w181_7, w181_10, w181_12, w181_13, w181_14, w181_15, w181_16, w181_17, w181_20, w181_21, w181_22, w181_25, w181_26, w181_28, w181_31, h1, h2, mRr_at hr1 (show p < 8 by omega)]
  refine c177' (V := fun i => if i = 1 then ρ p else if i = 2 then hT η 1 p else if i = 3 then v else if i = 6 then nI p else rV ρ i) (fM_h f3 hh) (k := 2) (by decide) rfl rfl ?_ ?_
  · intro i hi
    by_cases e : i = 6
    · subst e; rw [mU_s, if_neg (by decide), if_neg (by decide), if_neg (by decide), if_pos rfl]
    · rw [mU_k e, v1 i hi, if_neg e]
  · intro I3 f4
    simp only [↓reduceIte, Option.toList_some, Option.toList_none, List.cons_append, List.nil_append, Int32.reduceAdd, Int32.reduceLT, Int32.reduceLE, Int32.reduceToNatClampNeg, w181_0, w181_1, w181_2, w181_3, w181_6, w181_7, w181_10, w181_12, w181_13, w181_14, w181_15, w181_16, w181_17, w181_20, w181_21, w181_22, w181_25, w181_26, w181_28, w181_31, c180]
    exact hQ I3 (fM_t f3 (fL_m f4))
theorem c186 (hh : mMh I s η) (hk : hOk η) (hr : mRr I ρ) {i : Nat} (hi : i < η.2.1) (v : Int32) (hQ : ∀ (I' : Nat → Nat → Int32), fM I I' → Q (some (.int (sChg η ρ i v))) (mHh xL I' J (mRf rc rx rr))) :
    WP (d + 3) 186 0 [.ref 180, .int (nI i), .int v, mDum] [] (mHh xL I J (mRf rc rx rr)) Q := by
  have hn := hk.1
  have hn2 := hk.2.1
  have hs := hh.1
  obtain ⟨w, hw, ew⟩ := hk.2.2.2.1 i hi
  have h1 : mIn (nI w) 8 = true := mIn_nI (by omega) (by omega)
  have h2 : (nI w).toNatClampNeg = w := nI_clamp (by omega)
  have h3 : mIn (nI (6 * s + i)) 12 = true := mIn_nI (by omega) (by omega)
  have h4 : (nI (6 * s + i)).toNatClampNeg = 6 * s + i := nI_clamp (by omega)
  have a3 : 6 * nI s = nI (6 * s) := pk_mul 6 s
  have h5 : I 194 (6 * s + i) = nI w := by rw [← ew]; exact (hh.2.2.2.2.2.2.2.1 i hi).1
  simp only [w186_0, w186_1, w186_4, w186_6, w186_7, w186_10, w186_11, w186_12, w186_13, w186_14, w186_15, w186_16, w186_17, w186_18, w186_21, w186_22, w186_25, w186_27, w186_28, w186_29, w186_30, w186_33, w186_35, w186_36, w186_39, w186_41, w186_42, w186_45, w186_46, w186_47, w186_48, w186_49, w186_50, w186_51, w186_52, w186_53, w186_56, w186_57, w186_58, w186_59, w186_62, w186_64, w186_65, w186_66, w186_69, w186_70, w186_72, w186_75, hh.2.1, a3, nI_add, h3, h4, h5]
  refine c182 hh hk hr hw v ?_
  intro I1 f1 v1
  have hh1 := fM_h (fM_v f1) hh
  have f3 : fM I (mU (mU I1 210 6 (nI i)) 210 7 (hT η 5 i)) := fM_v (fun a ha => by rw [mU_f ha, mU_f ha, f1 a ha])
  have hr1 := fM_r f3 hr
  have n1 : ∀ x, mU I1 210 6 x 197 = I1 197 := fun x => mU_f (by decide)
  have n2 : ∀ x, mU I1 210 6 x 180 = I1 180 := fun x => mU_f (by decide)
  have eV : sChg η ρ i v = sHd (sL η 1 (fun j => if j = 1 then ρ w else if j = 2 then hT η 1 w else if j = 3 then v else if j = 6 then nI i else if j = 7 then hT η 5 i else rV ρ j)) 20 := by
    rw [sChg, ew, h2]
  have e7 : mU (mU I1 210 6 (nI i)) 210 7 (hT η 5 i) 210 7 = hT η 5 i := mU_s _ _ _ _
  rw [eV] at hQ
  simp only [↓reduceIte, Option.toList_some, Option.toList_none, List.cons_append, List.nil_append, Int32.reduceAdd, Int32.reduceLT, Int32.reduceLE, Int32.reduceToNatClampNeg, w186_0, w186_1, w186_4, w186_6, w186_7, w186_10, w186_11, w186_12, w186_13, w186_14, w186_15, w186_16, w186_17, w186_18, w186_21, w186_22, w186_25, w186_27, w186_28, w186_29, w186_30, w186_33, w186_35, w186_36, w186_39, w186_41, w186_42, w186_45, w186_46, w186_47, w186_48, w186_49, w186_50, w186_51, w186_52, w186_53, w186_56, w186_57, w186_58, w186_59, w186_62, w186_64, w186_65, w186_66, w186_69, w186_70, w186_72, w186_75, n1, n2, hh1.2.1, a3, nI_add, h3, h4, (hh1.2.2.2.2.2.2.2.1 i hi).2.2.2, h1, h2, mRr_at hr1 (show w < 8 by omega), e7]
  refine c177' (V := fun j => if j = 1 then ρ w else if j = 2 then hT η 1 w else if j = 3 then v else if j = 6 then nI i else if j = 7 then hT η 5 i else rV ρ j) (fM_h f3 hh) (k := 1) (by decide) rfl rfl ?_ ?_
  · intro j hj
    by_cases e : j = 7
    · subst e; rw [mU_s, if_neg (by decide), if_neg (by decide), if_neg (by decide), if_neg (by decide), if_pos rfl]
    · rw [mU_k e]
      by_cases e6 : j = 6
      · subst e6; rw [mU_s, if_neg (by decide), if_neg (by decide), if_neg (by decide), if_pos rfl]
      · rw [mU_k e6, v1 j hj, if_neg e6, if_neg e]
  · intro I3 f4
    simp only [↓reduceIte, Option.toList_some, Option.toList_none, List.cons_append, List.nil_append, Int32.reduceAdd, Int32.reduceLT, Int32.reduceLE, Int32.reduceToNatClampNeg, w186_0, w186_1, w186_4, w186_6, w186_7, w186_10, w186_11, w186_12, w186_13, w186_14, w186_15, w186_16, w186_17, w186_18, w186_21, w186_22, w186_25, w186_27, w186_28, w186_29, w186_30, w186_33, w186_35, w186_36, w186_39, w186_41, w186_42, w186_45, w186_46, w186_47, w186_48, w186_49, w186_50, w186_51, w186_52, w186_53, w186_56, w186_57, w186_58, w186_59, w186_62, w186_64, w186_65, w186_66, w186_69, w186_70, w186_72, w186_75, c180]
    exact hQ I3 (fM_t f3 (fL_m f4))
theorem c185 (hh : mMh I s η) (hk : hOk η) (hr : mRr I ρ) {i : Nat} (hi : i < η.2.1) (v : Int32) :
    WP (d + 1) 185 0 [.ref 180, .int (nI i), .int v] [] (mHh xL I J (mRf rc rx rr)) Q = Q (some (.int (sB01 (dn η ρ v i)))) (mHh xL I J (mRf rc rx rr)) := by
  have hn2 := hk.2.1
  have hs := hh.1
  have nb1 : narrow .boolean (.int 1) = .int 1 := by decide
  have nb0 : narrow .boolean (.int 0) = .int 0 := by decide
  have h3 : mIn (nI (6 * s + i)) 12 = true := mIn_nI (by omega) (by omega)
  have h4 : (nI (6 * s + i)).toNatClampNeg = 6 * s + i := nI_clamp (by omega)
  have a3 : 6 * nI s = nI (6 * s) := pk_mul 6 s
  obtain ⟨-, t1, t2, -⟩ := hh.2.2.2.2.2.2.2.1 i hi
  have e : (decide (hT η 3 i ≤ v) && decide (v ≤ hT η 4 i)) = sIn η v i := rfl
  simp only [w185_0, w185_1, w185_4, w185_6, w185_7, w185_8, w185_9, w185_10, w185_11, mRr_at hr (show 7 < 8 by decide), dn]
  by_cases h : ((ρ 7 >>> (nI i &&& 31)) &&& 1) = 0
  · rw [if_pos h, decide_eq_true h, Bool.and_true]
    simp only [w185_0, w185_1, w185_4, w185_6, w185_7, w185_8, w185_9, w185_10, w185_11, w185_14, w185_15, w185_16, w185_19, w185_21, w185_22, w185_25, w185_26, w185_27, w185_28, w185_29, w185_30, w185_33, w185_35, w185_36, w185_39, w185_40, w185_41, w185_42, w185_43, w185_46, w185_49, w185_50, w185_53, w185_54, hh.2.1, a3, nI_add, h3, h4, t1, t2, c170, ↓reduceIte, Option.toList_some, Option.toList_none, List.cons_append, List.nil_append, Int32.reduceAdd, Int32.reduceLT, Int32.reduceLE, Int32.reduceToNatClampNeg, e]
    cases sIn η v i
    · simp (config := { decide := true }) only [w185_0, w185_1, w185_4, w185_6, w185_7, w185_8, w185_9, w185_10, w185_11, w185_14, w185_15, w185_16, w185_19, w185_21, w185_22, w185_25, w185_26, w185_27, w185_28, w185_29, w185_30, w185_33, w185_35, w185_36, w185_39, w185_40, w185_41, w185_42, w185_43, w185_46, w185_49, w185_50, w185_53, w185_54, sB01, ↓reduceIte, nb0]
    · simp (config := { decide := true }) only [w185_0, w185_1, w185_4, w185_6, w185_7, w185_8, w185_9, w185_10, w185_11, w185_14, w185_15, w185_16, w185_19, w185_21, w185_22, w185_25, w185_26, w185_27, w185_28, w185_29, w185_30, w185_33, w185_35, w185_36, w185_39, w185_40, w185_41, w185_42, w185_43, w185_46, w185_49, w185_50, w185_53, w185_54, sB01, ↓reduceIte, nb1]
  · rw [if_neg h, decide_eq_false h, Bool.and_false]
    simp (config := { decide := true }) only [w185_0, w185_1, w185_4, w185_6, w185_7, w185_8, w185_9, w185_10, w185_11, w185_14, w185_15, w185_16, w185_19, w185_21, w185_22, w185_25, w185_26, w185_27, w185_28, w185_29, w185_30, w185_33, w185_35, w185_36, w185_39, w185_40, w185_41, w185_42, w185_43, w185_46, w185_49, w185_50, w185_53, w185_54, sB01, nb0, ↓reduceIte]
end MRO
