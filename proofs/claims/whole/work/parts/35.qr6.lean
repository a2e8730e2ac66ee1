/-! Queries: tapping of the model. -/
section QR6
variable {d : Nat} {xL : Nat} {I : Nat → Nat → Int32} {J : Nat → Nat → Int64} {rr : Nat} {Q : Option Value → mHp → Prop} {s o : Nat} {η : mHs} {ρ : Nat → Int32}
theorem c214 (hb : zB I s η ρ) {rc rx : Nat} (v n : Int32) (hQ : ∀ I', fB I I' → Q (some (.int (q_tapping η ρ v n))) (mHh xL I' J (mRf rc rx rr))) : WP (d + 8) 214 0 [.ref 180, .int v, .int n, mDum] [] (mHh xL I J (mRf rc rx rr)) Q := by
  have hb0 := hb
  obtain ⟨hk, hh, hn, ho, m, hm, e5⟩ := hb
  obtain ⟨t, ht, et⟩ := ho.2.2.2.1
  simp only [w214_0, w214_1, c203, ↓reduceIte, Option.toList_some, Option.toList_none, List.cons_append, List.nil_append, Int32.reduceAdd, Int32.reduceLT, Int32.reduceLE, Int32.reduceToNatClampNeg, w214_4, q_tapping] at hQ ⊢
  by_cases hv : isM v = true
  · by_cases h : sW n 0 60 = true
    · rw [hv, h] at hQ
      obtain ⟨n, -, hn', rfl⟩ := (sW_iff (a := 0) (b := 60) rfl rfl).1 h
      have ec : (nI n).toNatClampNeg = n := nI_clamp (by omega)
      have ect : (nI t).toNatClampNeg = t := nI_clamp (by omega)
      rw [ec, et, ect] at hQ
      simp only [sB_t hv, sB_t h, o01, ↓reduceIte, w214_0, w214_1, w214_4, w214_7, w214_8, w214_11, w214_14, w214_15, w214_16, w214_17, w214_19, w214_22, w214_24, w214_25, w214_26, w214_27, w214_29, w214_32, w214_33, w214_36, w214_37, w214_40, w214_42, w214_43, w214_44, w214_45, w214_46, w214_47, w214_48, w214_49, w214_52, w214_53, w214_56, w214_57, w214_58, w214_61, w214_64, w214_66, c215, ↓reduceIte, Option.toList_some, Option.toList_none, List.cons_append, List.nil_append, Int32.reduceAdd, Int32.reduceLT, Int32.reduceLE, Int32.reduceToNatClampNeg]
      have L : ∀ k, k ≤ 10 - t → (∀ I', fB I I' → Q (some (.int (fin2 (fnd (fun k => decide (sMrk η (sB η (rT ρ k) n) = v)) (10 - t - k) k)))) (mHh xL I' J (mRf rc rx rr))) → ∀ (I' : Nat → Nat → Int32), fB I I' → WP (d + 8) 214 18 [.ref 180, .int v, .int (nI n), .int (nI k)] [] (mHh xL I' J (mRf rc rx rr)) Q := by
        refine iter_dn ?_ ?_
        · intro k hk1 ih hF I' f
          have b1 := fB_B f hb0
          have r2 : I' 212 6 = nI t := by rw [mNw_at b1.2.2.1 (by decide : 6 < 8), et]
          have h1 : ¬ 9 < nI (t + k) := i_le ((in_le 9 (by decide) (by omega)).2 (by omega))
          obtain ⟨ok, e5'⟩ := rT_ok (k := k) ho et (by omega)
          rw [show 10 - t - k = (10 - t - (k + 1)) + 1 by omega, fnd] at hF
          rw [w214_18]
          simp only [w214_0, w214_1, w214_4, w214_7, w214_8, w214_11, w214_14, w214_15, w214_16, w214_17, w214_19, w214_22, w214_24, w214_25, w214_26, w214_27, w214_29, w214_32, w214_33, w214_36, w214_37, w214_40, w214_42, w214_43, w214_44, w214_45, w214_46, w214_47, w214_48, w214_49, w214_52, w214_53, w214_56, w214_57, w214_58, w214_61, w214_64, w214_66, r2, nI_add, h1, ↓reduceIte]
          refine c204 b1.2.1 b1.2.2.1 ?_
          intro I1 f1 r1 l1
          have n80 : ∀ x, mU I1 213 6 x 180 = I1 180 := fun x => mU_f (by decide)
          simp only [↓reduceIte, Option.toList_some, Option.toList_none, List.cons_append, List.nil_append, Int32.reduceAdd, Int32.reduceLT, Int32.reduceLE, Int32.reduceToNatClampNeg, w214_0, w214_1, w214_4, w214_7, w214_8, w214_11, w214_14, w214_15, w214_16, w214_17, w214_19, w214_22, w214_24, w214_25, w214_26, w214_27, w214_29, w214_32, w214_33, w214_36, w214_37, w214_40, w214_42, w214_43, w214_44, w214_45, w214_46, w214_47, w214_48, w214_49, w214_52, w214_53, w214_56, w214_57, w214_58, w214_61, w214_64, w214_66, mRr_at r1 (show 6 < 8 by decide)]
          refine c216s (fB_h (fB_w (fB_t f (fC_B f1))) hh) hk (ρ := rT ρ k) (mRr_u (by omega) r1) ok (by rw [n80]; exact l1) (by rw [e5']; exact e5) (by omega) ?_
          intro I2 f2 _
          have q2 := fB_t (fB_w (w := 6) (x := ρ 6 + nI k) (fB_t f (fC_B f1))) (fH_B f2)
          simp only [↓reduceIte, Option.toList_some, Option.toList_none, List.cons_append, List.nil_append, Int32.reduceAdd, Int32.reduceLT, Int32.reduceLE, Int32.reduceToNatClampNeg, w214_0, w214_1, w214_4, w214_7, w214_8, w214_11, w214_14, w214_15, w214_16, w214_17, w214_19, w214_22, w214_24, w214_25, w214_26, w214_27, w214_29, w214_32, w214_33, w214_36, w214_37, w214_40, w214_42, w214_43, w214_44, w214_45, w214_46, w214_47, w214_48, w214_49, w214_52, w214_53, w214_56, w214_57, w214_58, w214_61, w214_64, w214_66]
          by_cases hc : sMrk η (sB η (rT ρ k) n) = v
          · rw [if_pos (decide_eq_true hc)] at hF
            simp only [hc, ↓reduceIte, w214_0, w214_1, w214_4, w214_7, w214_8, w214_11, w214_14, w214_15, w214_16, w214_17, w214_19, w214_22, w214_24, w214_25, w214_26, w214_27, w214_29, w214_32, w214_33, w214_36, w214_37, w214_40, w214_42, w214_43, w214_44, w214_45, w214_46, w214_47, w214_48, w214_49, w214_52, w214_53, w214_56, w214_57, w214_58, w214_61, w214_64, w214_66]
            exact hF I2 q2
          · have hc' : ¬ (decide (sMrk η (sB η (rT ρ k) n) = v) = true) := by simpa using hc
            rw [if_neg hc'] at hF
            simp only [hc, ↓reduceIte, w214_0, w214_1, w214_4, w214_7, w214_8, w214_11, w214_14, w214_15, w214_16, w214_17, w214_19, w214_22, w214_24, w214_25, w214_26, w214_27, w214_29, w214_32, w214_33, w214_36, w214_37, w214_40, w214_42, w214_43, w214_44, w214_45, w214_46, w214_47, w214_48, w214_49, w214_52, w214_53, w214_56, w214_57, w214_58, w214_61, w214_64, w214_66, nI_1]
            exact ih hF I2 q2
        · intro hF I' f
          have b1 := fB_B f hb0
          have r2 : I' 212 6 = nI t := by rw [mNw_at b1.2.2.1 (by decide : 6 < 8), et]
          have h1 : 9 < nI (t + (10 - t)) := (ni_lt 9 (by decide) (by omega)).2 (by omega)
          rw [show 10 - t - (10 - t) = 0 by omega] at hF
          rw [w214_18]
          simp only [w214_0, w214_1, w214_4, w214_7, w214_8, w214_11, w214_14, w214_15, w214_16, w214_17, w214_19, w214_22, w214_24, w214_25, w214_26, w214_27, w214_29, w214_32, w214_33, w214_36, w214_37, w214_40, w214_42, w214_43, w214_44, w214_45, w214_46, w214_47, w214_48, w214_49, w214_52, w214_53, w214_56, w214_57, w214_58, w214_61, w214_64, w214_66, r2, nI_add, h1, ↓reduceIte]
          exact hF I' f
      exact L 0 (by omega) hQ _ fB_0
    · have h' : sW n 0 60 = false := by simpa using h
      rw [h', Bool.and_false] at hQ
      simp only [sB_t hv, sB_f h', o01, ↓reduceIte, w214_0, w214_1, w214_4, w214_7, w214_8, w214_11, w214_14, w214_15, w214_16, w214_17, w214_19, w214_22, w214_24, w214_25, w214_26, w214_27, w214_29, w214_32, w214_33, w214_36, w214_37, w214_40, w214_42, w214_43, w214_44, w214_45, w214_46, w214_47, w214_48, w214_49, w214_52, w214_53, w214_56, w214_57, w214_58, w214_61, w214_64, w214_66, c215, ↓reduceIte, Option.toList_some, Option.toList_none, List.cons_append, List.nil_append, Int32.reduceAdd, Int32.reduceLT, Int32.reduceLE, Int32.reduceToNatClampNeg]
      exact hQ I fB_0
  · have h' : isM v = false := by simpa using hv
    rw [h', Bool.false_and] at hQ
    simp only [sB_f h', ↓reduceIte, w214_0, w214_1, w214_4, w214_7, w214_8, w214_11, w214_14, w214_15, w214_16, w214_17, w214_19, w214_22, w214_24, w214_25, w214_26, w214_27, w214_29, w214_32, w214_33, w214_36, w214_37, w214_40, w214_42, w214_43, w214_44, w214_45, w214_46, w214_47, w214_48, w214_49, w214_52, w214_53, w214_56, w214_57, w214_58, w214_61, w214_64, w214_66]
    exact hQ I fB_0
end QR6
