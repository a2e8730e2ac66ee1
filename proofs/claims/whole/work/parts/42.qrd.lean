/-! Moods hour by hour, as the model keeps them; settles of the model. -/
theorem al_t {σ τ : Nat → Int32} (h : ∀ q, q < 5 → σ q = τ q) : al σ τ = true := by
  rw [al, decide_eq_true_eq]; exact ⟨h 0 (by omega), h 1 (by omega), h 2 (by omega), h 3 (by omega), h 4 (by omega)⟩
theorem al_q {σ τ : Nat → Int32} (h : al σ τ = true) : ∀ q, q < 5 → σ q = τ q := by
  rw [al, decide_eq_true_eq] at h
  obtain ⟨h0, h1, h2, h3, h4⟩ := h
  intro q hq
  have : q = 0 ∨ q = 1 ∨ q = 2 ∨ q = 3 ∨ q = 4 := by omega
  rcases this with rfl | rfl | rfl | rfl | rfl <;> assumption
theorem al_c {σ τ : Nat → Int32} : al σ τ = al τ σ := by
  cases h : al τ σ with
  | true => exact al_t (fun q hq => (al_q h q hq).symm)
  | false =>
    cases h2 : al σ τ with
    | false => rfl
    | true => rw [al_t (fun q hq => (al_q h2 q hq).symm)] at h; exact h
section QRD
variable {d : Nat} {xL : Nat} {I : Nat → Nat → Int32} {J : Nat → Nat → Int64} {rc rx rr : Nat} {Q : Option Value → mHp → Prop} {s o : Nat} {η : mHs} {ρ : Nat → Int32}
theorem c207 {σ τ : Nat → Int32} {i j : Nat} (hi : i ≤ 300) (hj : j ≤ 300) (h1 : ∀ p, p < 5 → I 216 (5 * i + p) = σ p) (h2 : ∀ p, p < 5 → I 216 (5 * j + p) = τ p) :
    WP d 207 0 [.ref 180, .int (nI i), .int (nI j), mDum] [] (mHh xL I J (mRf rc rx rr)) Q = Q (some (.int (sB01 (al σ τ)))) (mHh xL I J (mRf rc rx rr)) := by
  simp only [w207_0, w207_1]
  have e5 : ∀ k, 5 * nI k = nI (5 * k) := fun k => pk_mul 5 k
  have key : ∀ p, p ≤ 5 → (∀ q, q < p → σ q = τ q) → WP d 207 2 [.ref 180, .int (nI i), .int (nI j), .int (nI p)] [] (mHh xL I J (mRf rc rx rr)) Q = Q (some (.int (sB01 (al σ τ)))) (mHh xL I J (mRf rc rx rr)) := by
    refine iter_dn ?_ ?_
    · intro p hp ih hq
      have g1 : ¬ 5 ≤ nI p := by rw [ni_le 5 (by decide) (by omega)]; omega
      have a1 : mIn (nI (5 * i + p)) 1505 = true := mIn_nI (by omega) (by omega)
      have a2 : (nI (5 * i + p)).toNatClampNeg = 5 * i + p := nI_clamp (by omega)
      have a3 : mIn (nI (5 * j + p)) 1505 = true := mIn_nI (by omega) (by omega)
      have a4 : (nI (5 * j + p)).toNatClampNeg = 5 * j + p := nI_clamp (by omega)
      rw [w207_2]
      simp only [w207_0, w207_1, w207_3, w207_4, w207_7, w207_8, w207_11, w207_12, w207_13, w207_14, w207_15, w207_16, w207_17, w207_18, w207_21, w207_22, w207_23, w207_24, w207_25, w207_26, w207_27, w207_30, w207_31, w207_32, w207_35, w207_38, w207_39, g1, ↓reduceIte, e5, nI_add, a1, a2, a3, a4, h1 p hp, h2 p hp, nI_1, nb0]
      by_cases hc : σ p = τ p
      · rw [if_pos hc]
        refine ih ?_
        intro q hq2
        by_cases e : q = p
        · subst e; exact hc
        · exact hq q (by omega)
      · rw [if_neg hc]
        have : al σ τ = false := by
          cases h : al σ τ with
          | false => rfl
          | true => exact absurd (al_q h p hp) hc
        rw [this]; rfl
    · intro hq
      have g1 : 5 ≤ nI 5 := by decide
      rw [w207_2]
      simp only [w207_0, w207_1, w207_3, w207_4, w207_7, w207_8, w207_11, w207_12, w207_13, w207_14, w207_15, w207_16, w207_17, w207_18, w207_21, w207_22, w207_23, w207_24, w207_25, w207_26, w207_27, w207_30, w207_31, w207_32, w207_35, w207_38, w207_39, g1, ↓reduceIte, nb1, sB_t (al_t hq)]
  exact key 0 (by omega) (fun q hq => absurd hq (by omega))
theorem fB_m {I I' : Nat → Nat → Int32} {w : Nat} {x : Int32} (h : fB I I') : fB I (mU I' 216 w x) := ⟨fun a p => by rw [mU_f (by omega), h.1 a p], fun k x y z => by rw [mU_f (by decide), h.2 k x y z]⟩
theorem c206 (hb : zB I s η ρ) {n : Nat} (hn : n ≤ 300) (hQ : ∀ I', fB I I' → (∀ j, j ≤ n → ∀ p, p < 5 → I' 216 (5 * j + p) = sB η ρ j p) → Q none (mHh xL I' J (mRf rc rx rr))) :
    WP (d + 6) 206 0 [.ref 180, .int (nI n), mDum, mDum] [] (mHh xL I J (mRf rc rx rr)) Q := by
  obtain ⟨hk, hh, hr, ho, m, hm, e5⟩ := hb
  have e5' : ∀ k, 5 * nI k = nI (5 * k) := fun k => pk_mul 5 k
  simp only [w206_0, w206_1]
  refine c204 hh hr ?_
  intro I1 f1 r1 l1
  simp only [↓reduceIte, Option.toList_some, Option.toList_none, List.cons_append, List.nil_append, Int32.reduceAdd, Int32.reduceLT, Int32.reduceLE, Int32.reduceToNatClampNeg, w206_4, w206_5]
  have L : ∀ k, k ≤ n + 1 → ∀ (I' : Nat → Nat → Int32) (v3 : Value), fB I I' → mRr I' (sB η ρ k) → I' 180 52 = 1 → (∀ j, j < k → ∀ p, p < 5 → I' 216 (5 * j + p) = sB η ρ j p) → WP (d + 6) 206 6 [.ref 180, .int (nI n), .int (nI k), v3] [] (mHh xL I' J (mRf rc rx rr)) Q := by
    refine iter_dn ?_ ?_
    · intro k hk1 ih I' v3 f r l t
      have h1 : ¬ nI n < nI k := nI_nlt (by omega) (by omega)
      obtain ⟨ok, -⟩ := sB_ok hk ho e5 k (by omega)
      rw [w206_6]
      simp only [w206_7, w206_8, h1, ↓reduceIte, w206_11, w206_12]
      have M : ∀ p, p ≤ 5 → ∀ (I' : Nat → Nat → Int32), fB I I' → mRr I' (sB η ρ k) → I' 180 52 = 1 → (∀ j, j < k → ∀ p, p < 5 → I' 216 (5 * j + p) = sB η ρ j p) → (∀ q, q < p → I' 216 (5 * k + q) = sB η ρ k q) → WP (d + 6) 206 13 [.ref 180, .int (nI n), .int (nI k), .int (nI p)] [] (mHh xL I' J (mRf rc rx rr)) Q := by
        refine iter_dn ?_ ?_
        · intro p hp ih2 I' f r l t u
          have g1 : ¬ 5 ≤ nI p := by rw [ni_le 5 (by decide) (by omega)]; omega
          have a1 : mIn (nI (5 * k + p)) 1505 = true := mIn_nI (by omega) (by omega)
          have a2 : (nI (5 * k + p)).toNatClampNeg = 5 * k + p := nI_clamp (by omega)
          have a3 : mIn (nI p) 8 = true := mIn_nI (by omega) (by omega)
          have a4 : (nI p).toNatClampNeg = p := nI_clamp (by omega)
          rw [w206_13]
          simp only [w206_0, w206_1, w206_4, w206_5, w206_7, w206_8, w206_11, w206_12, w206_14, w206_15, w206_18, w206_19, w206_22, w206_23, w206_24, w206_25, w206_26, w206_27, w206_28, w206_31, w206_32, w206_33, w206_34, w206_37, w206_40, w206_41, w206_44, w206_47, w206_50, g1, ↓reduceIte, e5', nI_add, a1, a2, a3, a4, mRr_at r (show p < 8 by omega), nI_1]
          refine ih2 _ (fB_m f) (mRr_o (mU_f (by decide)) r) (by rw [mU_f (by decide)]; exact l) ?_ ?_
          · intro j hj q hq
            rw [mU_k (by omega)]; exact t j hj q hq
          · intro q hq
            by_cases e : q = p
            · subst e; exact mU_s _ _ _ _
            · rw [mU_k (by omega)]; exact u q (by omega)
        · intro I' f r l t u
          have g1 : 5 ≤ nI 5 := by decide
          rw [w206_13]
          simp only [w206_14, w206_15, g1, ↓reduceIte, w206_40, w206_41]
          refine c197s (fB_h f hh) hk r ok l ?_
          intro I3 f3 r3
          simp only [↓reduceIte, Option.toList_some, Option.toList_none, List.cons_append, List.nil_append, Int32.reduceAdd, Int32.reduceLT, Int32.reduceLE, Int32.reduceToNatClampNeg, w206_44, w206_47, nI_1]
          have e216 : I3 216 = I' 216 := f3.1 216 (by decide) (by decide) (by decide) (by decide) (by decide)
          refine ih I3 _ (fB_t f (fH_B f3)) r3 (by rw [(fH_5 f3).2]; exact l) ?_
          intro j hj q hq
          rw [e216]
          by_cases e : j = k
          · subst e; exact u q hq
          · exact t j (by omega) q hq
      exact M 0 (by omega) I' f r l t (fun q hq => absurd hq (by omega))
    · intro I' v3 f r l t
      have h1 : nI n < nI (n + 1) := nI_lt (by omega) (by omega)
      rw [w206_6]
      simp only [w206_7, w206_8, h1, ↓reduceIte, w206_50]
      exact hQ I' f (fun j hj => t j (by omega))
  exact L 0 (by omega) I1 _ (fC_B f1) r1 l1 (fun j hj => absurd hj (by omega))
end QRD
