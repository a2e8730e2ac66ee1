/-! Queries: settles of the model. -/
section QRE
variable {d : Nat} {xL : Nat} {I : Nat → Nat → Int32} {J : Nat → Nat → Int64} {rr : Nat} {Q : Option Value → mHp → Prop} {s o : Nat} {η : mHs} {ρ : Nat → Int32}
theorem c208 (hb : zB I s η ρ) {rc rx : Nat} (hQ : ∀ I', fB I I' → Q (some (.int (q_settles η ρ))) (mHh xL I' J (mRf rc rx rr))) : WP (d + 7) 208 0 [.ref 180, mDum] [] (mHh xL I J (mRf rc rx rr)) Q := by
  have e201 : (201 : Int32) = nI 201 := rfl
  simp only [w208_0, w208_1, w208_4]
  rw [e201]
  refine c206 (n := 201) hb (by omega) ?_
  intro I1 f1 t
  simp only [↓reduceIte, Option.toList_some, Option.toList_none, List.cons_append, List.nil_append, Int32.reduceAdd, Int32.reduceLT, Int32.reduceLE, Int32.reduceToNatClampNeg, w208_7, w208_8]
  have key : ∀ k, k ≤ 201 → Q (some (.int (fin2 (fnd (fun k => al (sB η ρ (k + 1)) (sB η ρ k)) (201 - k) k)))) (mHh xL I1 J (mRf rc rx rr)) → WP (d + 7) 208 9 [.ref 180, .int (nI k)] [] (mHh xL I1 J (mRf rc rx rr)) Q := by
    refine iter_dn ?_ ?_
    · intro k hk1 ih hF
      have h1 : ¬ 200 < nI k := i_le ((in_le 200 (by decide) (by omega)).2 (by omega))
      rw [show 201 - k = (200 - k) + 1 by omega, fnd] at hF
      rw [w208_9]
      simp only [w208_0, w208_1, w208_4, w208_7, w208_8, w208_10, w208_13, w208_16, w208_17, w208_18, w208_19, w208_20, w208_21, w208_24, w208_27, w208_28, w208_29, w208_32, w208_35, w208_37, h1, ↓reduceIte, nI_1, c207 (i := k) (j := k + 1) (by omega) (by omega) (t k (by omega)) (t (k + 1) (by omega)), ↓reduceIte, Option.toList_some, Option.toList_none, List.cons_append, List.nil_append, Int32.reduceAdd, Int32.reduceLT, Int32.reduceLE, Int32.reduceToNatClampNeg]
      rw [al_c]
      by_cases hc : al (sB η ρ (k + 1)) (sB η ρ k) = true
      · rw [if_pos hc] at hF
        simp only [sB_t hc, o01, ↓reduceIte, w208_0, w208_1, w208_4, w208_7, w208_8, w208_10, w208_13, w208_16, w208_17, w208_18, w208_19, w208_20, w208_21, w208_24, w208_27, w208_28, w208_29, w208_32, w208_35, w208_37]
        exact hF
      · rw [if_neg hc] at hF
        have hc' : al (sB η ρ (k + 1)) (sB η ρ k) = false := by simpa using hc
        simp only [sB_f hc', ↓reduceIte, w208_0, w208_1, w208_4, w208_7, w208_8, w208_10, w208_13, w208_16, w208_17, w208_18, w208_19, w208_20, w208_21, w208_24, w208_27, w208_28, w208_29, w208_32, w208_35, w208_37, nI_1]
        exact ih (by rw [show 201 - (k + 1) = 200 - k by omega]; exact hF)
    · intro hF
      have h1 : 200 < nI 201 := by decide
      rw [w208_9]
      simp only [w208_0, w208_1, w208_4, w208_7, w208_8, w208_10, w208_13, w208_16, w208_17, w208_18, w208_19, w208_20, w208_21, w208_24, w208_27, w208_28, w208_29, w208_32, w208_35, w208_37, h1, ↓reduceIte]
      exact hF
  exact key 0 (by omega) (hQ I1 f1)
end QRE
