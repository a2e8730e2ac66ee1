/-! The model's house and row, and what it tells by them. -/
def mMh (I : Nat → Nat → Int32) (s : Nat) (η : mHs) : Prop := s < 2 ∧ I 180 18 = nI s ∧ I 190 s = nI η.1 ∧ I 193 s = nI η.2.1 ∧ I 198 s = η.2.2.2.1 ∧ I 199 s = η.2.2.2.2.1 ∧ (∀ p, p < η.1 → I 191 (5 * s + p) = hT η 0 p ∧ I 192 (5 * s + p) = hT η 1 p) ∧ (∀ i, i < η.2.1 → I 194 (6 * s + i) = hT η 2 i ∧ I 195 (6 * s + i) = hT η 3 i ∧ I 196 (6 * s + i) = hT η 4 i ∧ I 197 (6 * s + i) = hT η 5 i) ∧ (∀ k, k < 4 → mMw I (4 * s + k) (hL η k))
theorem mMh_keep {I I' : Nat → Nat → Int32} {s : Nat} {η : mHs} (h : ∀ a, 190 ≤ a → a ≤ 208 → I' a = I a) (h8 : I' 180 18 = I 180 18) (hh : mMh I s η) : mMh I' s η := by
  obtain ⟨h0, h1, h2, h3, h4, h5, h6, h7, h9⟩ := hh
  refine ⟨h0, by rw [h8]; exact h1, by rw [h 190 (by decide) (by decide)]; exact h2, by rw [h 193 (by decide) (by decide)]; exact h3, by rw [h 198 (by decide) (by decide)]; exact h4, by rw [h 199 (by decide) (by decide)]; exact h5, ?_, ?_, fun k hk => mMw_keep (fun a p q => h a (by omega) q) (h9 k hk)⟩
  · rw [h 191 (by decide) (by decide), h 192 (by decide) (by decide)]; exact h6
  · rw [h 194 (by decide) (by decide), h 195 (by decide) (by decide), h 196 (by decide) (by decide), h 197 (by decide) (by decide)]; exact h7
/-- a row of eight -/
def mR8 (I : Nat → Nat → Int32) (a b : Nat) : Nat → Int32 := fun k => if k < 8 then I a (b + k) else 0
theorem mR8_at {I : Nat → Nat → Int32} {a b : Nat} {ρ : Nat → Int32} (h : mR8 I a b = ρ) {k : Nat} (hk : k < 8) : I a (b + k) = ρ k := by subst h; rw [mR8, if_pos hk]
/-- the row that is tried on -/
def mRr (I : Nat → Nat → Int32) (ρ : Nat → Int32) : Prop := mR8 I 213 0 = ρ
theorem mRr_at {I : Nat → Nat → Int32} {ρ : Nat → Int32} (h : mRr I ρ) {k : Nat} (hk : k < 8) : I 213 k = ρ k := by
  have := mR8_at h hk
  rw [Nat.zero_add] at this; exact this
/-- all but the variables, the pile, whether something is broken -/
def fM (I I' : Nat → Nat → Int32) : Prop := (∀ a, a ≠ 210 → a ≠ 211 → a ≠ 180 → I' a = I a) ∧ ∀ k, k ≠ 48 → I' 180 k = I 180 k
theorem fM_t {I I1 I2 : Nat → Nat → Int32} (h1 : fM I I1) (h2 : fM I1 I2) : fM I I2 := ⟨fun a x y z => by rw [h2.1 a x y z, h1.1 a x y z], fun k x => by rw [h2.2 k x, h1.2 k x]⟩
theorem fL_m {I I' : Nat → Nat → Int32} (h : fL I I') : fM I I' := ⟨fun a _ y z => h.1 a y z, h.2⟩
theorem fM_v {I I' : Nat → Nat → Int32} (h : ∀ a, a ≠ 210 → I' a = I a) : fM I I' := ⟨fun a x _ _ => h a x, fun k _ => by rw [h 180 (by decide)]⟩
theorem fM_h {I I' : Nat → Nat → Int32} {s : Nat} {η : mHs} (h : fM I I') (hh : mMh I s η) : mMh I' s η := mMh_keep (fun a p q => h.1 a (by omega) (by omega) (by omega)) (h.2 18 (by decide)) hh
theorem fM_r {I I' : Nat → Nat → Int32} {ρ : Nat → Int32} (h : fM I I') (hr : mRr I ρ) : mRr I' ρ := by
  have e := h.1 213 (by decide) (by decide) (by decide)
  unfold mRr mR8 at *
  rw [e]; exact hr
section MRO
variable {d : Nat} {xL : Nat} {I : Nat → Nat → Int32} {J : Nat → Nat → Int64} {rc rx rr : Nat} {Q : Option Value → mHp → Prop} {s : Nat} {η : mHs} {ρ : Nat → Int32}
theorem c175 (hr : mRr I ρ) : WP d 175 0 [.ref 180] [] (mHh xL I J (mRf rc rx rr)) Q = Q (some (.int (rS ρ))) (mHh xL I J (mRf rc rx rr)) := by
  simp only [w175_0, w175_1, w175_4, w175_5, w175_6, w175_7, w175_10, w175_11, w175_12, w175_13, w175_14, w175_17, w175_18, w175_19, w175_20, w175_21, w175_24, w175_25, w175_26, w175_27, w175_28, w175_31, w175_32, w175_33, w175_34, mRr_at hr (show 0 < 8 by decide), mRr_at hr (show 1 < 8 by decide), mRr_at hr (show 2 < 8 by decide), mRr_at hr (show 3 < 8 by decide), mRr_at hr (show 4 < 8 by decide), rS]
theorem c176 (hr : mRr I ρ) : WP d 176 0 [.ref 180, mDum, mDum] [] (mHh xL I J (mRf rc rx rr)) Q = Q (some (.int (rM ρ))) (mHh xL I J (mRf rc rx rr)) := by
  simp only [w176_0, w176_1, w176_2, w176_3]
  have key : ∀ k, k ≤ 5 → WP d 176 4 [.ref 180, .int (pM ρ k), .int (nI k)] [] (mHh xL I J (mRf rc rx rr)) Q = Q (some (.int (rM ρ))) (mHh xL I J (mRf rc rx rr)) := by
    refine iter_dn ?_ ?_
    · intro k hk ih
      have h1 : ¬ 5 ≤ nI k := by rw [ni_le 5 (by decide) (by omega)]; omega
      have h2 : mIn (nI k) 8 = true := mIn_nI (by omega) (by omega)
      have h3 : (nI k).toNatClampNeg = k := nI_clamp (by omega)
      have h4 : I 213 k = ρ k := mRr_at hr (by omega)
      rw [← ih, pM, mMx, w176_4]
      simp only [w176_0, w176_1, w176_2, w176_3, w176_5, w176_6, w176_9, w176_10, w176_13, w176_14, w176_15, w176_16, w176_19, w176_20, w176_23, w176_24, w176_25, w176_26, w176_29, w176_32, w176_33, h1, h2, h3, h4, ↓reduceIte, nI_1]
      by_cases h5 : ρ k ≤ pM ρ k
      · have h6 : ¬ pM ρ k < ρ k := by rw [Int32.lt_iff_toInt_lt]; rw [Int32.le_iff_toInt_le] at h5; omega
        simp only [h5, h6, ↓reduceIte]
      · have h6 : pM ρ k < ρ k := by rw [Int32.lt_iff_toInt_lt]; rw [Int32.le_iff_toInt_le] at h5; omega
        simp only [h5, h6, ↓reduceIte]
    · have h1 : 5 ≤ nI 5 := by decide
      rw [w176_4]
      simp only [w176_0, w176_1, w176_2, w176_3, w176_5, w176_6, w176_9, w176_10, w176_13, w176_14, w176_15, w176_16, w176_19, w176_20, w176_23, w176_24, w176_25, w176_26, w176_29, w176_32, w176_33, h1, ↓reduceIte]
      rfl
  exact key 0 (by omega)
theorem c174 (hr : mRr I ρ) (hQ : ∀ I' : Nat → Nat → Int32, (∀ a, a ≠ 210 → I' a = I a) → (∀ i, i < 9 → I' 210 i = rV ρ i) → Q none (mHh xL I' J (mRf rc rx rr))) :
    WP (d + 1) 174 0 [.ref 180, mDum] [] (mHh xL I J (mRf rc rx rr)) Q := by
  simp only [w174_0, w174_1]
  have key : ∀ k, k ≤ 9 → ∀ I' : Nat → Nat → Int32, (∀ a, a ≠ 210 → I' a = I a) → (∀ i, i < k → I' 210 i = 0) → WP (d + 1) 174 2 [.ref 180, .int (nI k)] [] (mHh xL I' J (mRf rc rx rr)) Q := by
    refine iter_dn ?_ ?_
    · intro k hk ih I' f z
      have h1 : ¬ 9 ≤ nI k := by rw [ni_le 9 (by decide) (by omega)]; omega
      have h2 : mIn (nI k) 9 = true := mIn_nI (by omega) (by omega)
      have h3 : (nI k).toNatClampNeg = k := nI_clamp (by omega)
      rw [w174_2]
      simp only [w174_0, w174_1, w174_3, w174_5, w174_8, w174_9, w174_12, w174_13, w174_14, w174_15, w174_18, w174_21, w174_22, w174_25, w174_26, w174_27, w174_30, w174_31, w174_32, w174_35, w174_36, w174_37, w174_40, w174_41, w174_42, w174_44, w174_45, w174_46, w174_47, w174_50, w174_51, w174_52, w174_55, w174_57, w174_58, w174_59, w174_60, w174_63, w174_65, w174_66, w174_69, w174_70, h1, h2, h3, ↓reduceIte, nI_1]
      refine ih _ (fun a ha => by rw [mU_f ha, f a ha]) ?_
      intro i hi
      by_cases e : i = k
      · subst e; exact mU_s _ _ _ _
      · rw [mU_k e]; exact z i (by omega)
    · intro I' f z
      have h1 : 9 ≤ nI 9 := by decide
      have r1 : mRr I' ρ := fM_r (fM_v f) hr
      have r2 : mRr (mU (mU (mU I' 210 0 (rS ρ)) 210 4 (ρ 5 - ρ 5 / 24 * 24)) 210 5 (ρ 6)) ρ := fM_r (fM_v (I := I) (fun a ha => by rw [mU_f ha, mU_f ha, mU_f ha, f a ha])) hr
      have n5 : ∀ x, mU I' 210 0 x 213 = I' 213 := fun x => mU_f (by decide)
      have n6 : ∀ x y, mU (mU I' 210 0 x) 210 4 y 213 = I' 213 := fun x y => by rw [mU_f (by decide), mU_f (by decide)]
      rw [w174_2]
      simp only [w174_0, w174_1, w174_3, w174_5, w174_8, w174_9, w174_12, w174_13, w174_14, w174_15, w174_18, w174_21, w174_22, w174_25, w174_26, w174_27, w174_30, w174_31, w174_32, w174_35, w174_36, w174_37, w174_40, w174_41, w174_42, w174_44, w174_45, w174_46, w174_47, w174_50, w174_51, w174_52, w174_55, w174_57, w174_58, w174_59, w174_60, w174_63, w174_65, w174_66, w174_69, w174_70, h1, ↓reduceIte, c175 r1, ↓reduceIte, Option.toList_some, Option.toList_none, List.cons_append, List.nil_append, Int32.reduceAdd, Int32.reduceLT, Int32.reduceLE, Int32.reduceToNatClampNeg, n5, n6, mRr_at r1 (show 5 < 8 by decide), mRr_at r1 (show 6 < 8 by decide)]
      rw [c176 r2]
      simp only [w174_0, w174_1, w174_3, w174_5, w174_8, w174_9, w174_12, w174_13, w174_14, w174_15, w174_18, w174_21, w174_22, w174_25, w174_26, w174_27, w174_30, w174_31, w174_32, w174_35, w174_36, w174_37, w174_40, w174_41, w174_42, w174_44, w174_45, w174_46, w174_47, w174_50, w174_51, w174_52, w174_55, w174_57, w174_58, w174_59, w174_60, w174_63, w174_65, w174_66, w174_69, w174_70, ↓reduceIte, Option.toList_some, Option.toList_none, List.cons_append, List.nil_append, Int32.reduceAdd, Int32.reduceLT, Int32.reduceLE, Int32.reduceToNatClampNeg]
      refine hQ _ (fun a ha => by rw [mU_f ha, mU_f ha, mU_f ha, mU_f ha, f a ha]) (i9 ?_ ?_ ?_ ?_ ?_ ?_ ?_ ?_ ?_)
      · rw [mU_k (by decide), mU_k (by decide), mU_k (by decide), mU_s, rV0]
      · rw [mU_k (by decide), mU_k (by decide), mU_k (by decide), mU_k (by decide), z 1 (by decide)]; rfl
      · rw [mU_k (by decide), mU_k (by decide), mU_k (by decide), mU_k (by decide), z 2 (by decide)]; rfl
      · rw [mU_k (by decide), mU_k (by decide), mU_k (by decide), mU_k (by decide), z 3 (by decide)]; rfl
      · rw [mU_k (by decide), mU_k (by decide), mU_s, rV4]; rfl
      · rw [mU_k (by decide), mU_s, rV5]
      · rw [mU_k (by decide), mU_k (by decide), mU_k (by decide), mU_k (by decide), z 6 (by decide)]; rfl
      · rw [mU_k (by decide), mU_k (by decide), mU_k (by decide), mU_k (by decide), z 7 (by decide)]; rfl
      · rw [mU_s, rV8]
  exact key 0 (by omega) I (fun _ _ => rfl) (fun i hi => absurd hi (by omega))
end MRO
