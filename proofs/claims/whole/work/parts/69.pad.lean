/-! Pairs, as the model reckons them. -/
theorem f_bit : ∀ s, s < 32 → ∀ b, b < 5 → ((nI s >>> (nI b &&& 31)) &&& 1) = sB01 (s.testBit b) := by decide +kernel
theorem f_lo2 : ∀ s, s < 32 → 0 < s → ∀ c, c < 5 → c ≠ lo s → c < lo s → s.testBit c = false := by decide +kernel
section PAD
variable {d : Nat} {xL : Nat} {I : Nat → Nat → Int32} {J : Nat → Nat → Int64} {rc rx rr : Nat} {Q : Option Value → mHp → Prop} {s : Nat} {η : mHs} {ρ : mRo5}
theorem c229 {b : Nat} (hp : 0 < b) (h32 : b < 32) {h : mHp} : WP d 229 0 [.int (nI b), mDum] [] h Q = Q (some (.int (nI (lo b)))) h := by
  obtain ⟨l1, l2, l3⟩ := f_lo b h32 hp
  simp only [w229_0, w229_1]
  have key : ∀ k, k ≤ lo b → WP d 229 2 [.int (nI b), .int (nI k)] [] h Q = Q (some (.int (nI (lo b)))) h := by
    refine iter_dn ?_ ?_
    · intro k hk ih
      have e := f_bit b h32 k (by omega)
      rw [l3 k (by omega) hk] at e
      rw [← ih, w229_2]
      simp only [w229_0, w229_1, w229_3, w229_4, w229_5, w229_6, w229_7, w229_10, w229_13, w229_16, w229_17, e, sB_f, ↓reduceIte, nI_1]
    · have e := f_bit b h32 _ l2
      rw [l1] at e
      rw [w229_2]
      simp only [w229_0, w229_1, w229_3, w229_4, w229_5, w229_6, w229_7, w229_10, w229_13, w229_16, w229_17, e, sB_t, o01, ↓reduceIte]
  exact key 0 (by omega)
theorem c231 {a b : Nat} (ha : a ≤ 20) (hb : b ≤ 20) {h : mHp} : WP d 231 0 [.int (nI a), .int (nI b)] [] h Q = Q (some (.int (nI (if a < b then b - a else a - b)))) h := by
  simp only [w231_0, w231_1, w231_2]
  by_cases hc : a < b
  · have g1 : ¬ nI b ≤ nI a := nI_ge hc (by omega)
    simp only [g1, hc, ↓reduceIte, w231_0, w231_1, w231_2, w231_5, w231_6, w231_7, w231_8, w231_11, w231_12, w231_13, w231_14, pk_sub (Nat.le_of_lt hc)]
  · have g1 : nI b ≤ nI a := nI_le (by omega) (by omega)
    simp only [g1, hc, ↓reduceIte, w231_0, w231_1, w231_2, w231_5, w231_6, w231_7, w231_8, w231_11, w231_12, w231_13, w231_14, pk_sub (show b ≤ a by omega)]
/-- what the table holds, the row now being this -/
theorem c230 (hr : mNw I ρ) (hρ : ∀ p, p < 5 → pX ρ p ≤ 20 ∧ ρ p = nI (pX ρ p)) {F : Nat → Int32} {a b r : Nat} (ha : a < 5) (hb : b < 5) (h32 : r < 32) (hF : I 218 (rm r b) = F (rm r b)) : WP (d + 1) 230 0 [.ref 180, .int (nI a), .int (nI b), .int (nI r)] [] (mHh xL I J (mRf rc rx rr)) Q = Q (some (.int (pW ρ F r a b))) (mHh xL I J (mRf rc rx rr)) := by
  have a1 : mIn (nI a) 8 = true := mIn_nI (by omega) (by omega)
  have a2 : (nI a).toNatClampNeg = a := nI_clamp (by omega)
  have b1 : mIn (nI b) 8 = true := mIn_nI (by omega) (by omega)
  have b2 : (nI b).toNatClampNeg = b := nI_clamp (by omega)
  have e1 : I 212 a = nI (pX ρ a) := by rw [mNw_at hr (by omega)]; exact (hρ a ha).2
  have e2 : I 212 b = nI (pX ρ b) := by rw [mNw_at hr (by omega)]; exact (hρ b hb).2
  have r1 := (f_rm r h32 b hb).1.1
  have c1 : mIn (nI (rm r b)) 32 = true := mIn_nI (by omega) (by omega)
  have c2 : (nI (rm r b)).toNatClampNeg = rm r b := nI_clamp (by omega)
  simp only [w230_0, w230_1, w230_4, w230_5, a1, a2, e1, w230_6, w230_7, w230_10, w230_11, b1, b2, e2, w230_12, c231 (hρ a ha).1 (hρ b hb).1, ↓reduceIte, Option.toList_some, Option.toList_none, List.cons_append, List.nil_append, Int32.reduceAdd, Int32.reduceLT, Int32.reduceLE, Int32.reduceToNatClampNeg, w230_15, w230_18, w230_19, w230_20, w230_23, w230_24, w230_25, w230_26, w230_27, w230_28, w230_29, f_and r h32 b hb, w230_30, c1, c2, hF, w230_31, w230_32]
  rfl
theorem fB_p {I I' : Nat → Nat → Int32} {w : Nat} {x : Int32} (h : fB I I') : fB I (mU I' 218 w x) := ⟨fun a p => by rw [mU_f (by omega), h.1 a p], fun k x y z => by rw [mU_f (by decide), h.2 k x y z]⟩
theorem c228 (hb : zB I s η ρ) (hQ : ∀ I', fB I I' → (∀ q, q < 2 ^ η.1 → I' 218 q = pFn ρ q) → Q none (mHh xL I' J (mRf rc rx rr))) : WP (d + 2) 228 0 [.ref 180, mDum, mDum, mDum, mDum] [] (mHh xL I J (mRf rc rx rr)) Q := by
  have hb0 := hb
  obtain ⟨hk, hh, hr, ho, -⟩ := hb
  have hn5 := hk.1
  have hs := hh.1
  have s1 : mIn (nI s) 2 = true := mIn_nI (by omega) (by omega)
  have s2 : (nI s).toNatClampNeg = s := nI_clamp (by omega)
  have h32 := pow5 hn5
  have hρ := pX_ok ho
  have z1 : mIn 0 32 = true := by decide
  have z2 : (0 : Int32).toNatClampNeg = 0 := rfl
  simp only [w228_0, w228_1, w228_4, w228_5, w228_6, z1, z2, w228_7, w228_8]
  have L : ∀ k, k ≤ 2 ^ η.1 - 1 → ∀ (I' : Nat → Nat → Int32) (v2 v3 v4 : Value), fB I I' → (∀ q, q < k + 1 → I' 218 q = pFn ρ q) → WP (d + 2) 228 9 [.ref 180, .int (nI (k + 1)), v2, v3, v4] [] (mHh xL I' J (mRf rc rx rr)) Q := by
    refine iter_dn ?_ ?_
    · intro k hk1 ih I' v2 v3 v4 f t
      have bD := fB_B f hb0
      have g1 : ¬ nI (2 ^ η.1) ≤ nI (k + 1) := nI_ge (by omega) (by omega)
      obtain ⟨l1, l2, l3⟩ := f_lo (k + 1) (by omega) (by omega)
      obtain ⟨⟨r1, r2⟩, r3⟩ := f_rm (k + 1) (by omega) _ l2
      obtain ⟨r5, r4⟩ := r2 l1
      have a1 : mIn (nI (k + 1)) 32 = true := mIn_nI (by omega) (by omega)
      have a2 : (nI (k + 1)).toNatClampNeg = k + 1 := nI_clamp (by omega)
      have a3 : mIn (nI (rm (k + 1) (lo (k + 1)))) 32 = true := mIn_nI (by omega) (by omega)
      have a4 : (nI (rm (k + 1) (lo (k + 1)))).toNatClampNeg = rm (k + 1) (lo (k + 1)) := nI_clamp (by omega)
      rw [w228_9]
      simp only [w228_10, w228_11, w228_12, w228_15, w228_16, w228_19, bD.2.1.2.1, s1, s2, bD.2.1.2.2.1, w228_20, bSh _ (show η.1 < 7 by omega), w228_21, g1, ↓reduceIte, w228_24, w228_25, c229 (show 0 < k + 1 by omega) (show k + 1 < 32 by omega), ↓reduceIte, Option.toList_some, Option.toList_none, List.cons_append, List.nil_append, Int32.reduceAdd, Int32.reduceLT, Int32.reduceLE, Int32.reduceToNatClampNeg, w228_28, w228_29, w228_30, w228_31, w228_32, w228_33, w228_34, w228_35, f_and (k + 1) (by omega) _ l2, w228_36, w228_37, w228_38, w228_41, w228_42, w228_43, w228_46, w228_47, a3, a4, t _ (show rm (k + 1) (lo (k + 1)) < k + 1 from r4), w228_48, a1, a2, w228_49, w228_50, w228_51, w228_52, nI_1]
      have M : ∀ j, j ≤ 4 - lo (k + 1) → ∀ (I' : Nat → Nat → Int32), fB I I' → (∀ q, q < k + 1 → I' 218 q = pFn ρ q) → I' 218 (k + 1) = pIn ρ (pFn ρ) (rm (k + 1) (lo (k + 1))) (lo (k + 1)) j → WP (d + 2) 228 54 [.ref 180, .int (nI (k + 1)), .int (nI (lo (k + 1))), .int (nI (rm (k + 1) (lo (k + 1)))), .int (nI (lo (k + 1) + 1 + j))] [] (mHh xL I' J (mRf rc rx rr)) Q := by
        refine iter_dn ?_ ?_
        · intro j hj ih2 I' f t t2
          have bD := fB_B f hb0
          have g2 : ¬ 5 ≤ nI (lo (k + 1) + 1 + j) := by rw [ni_le 5 (by decide) (by omega)]; omega
          rw [pIn] at ih2
          rw [w228_54]
          simp only [w228_56, w228_57, g2, ↓reduceIte, w228_60, w228_61, w228_63, w228_64, w228_65, f_bit _ r1 (lo (k + 1) + 1 + j) (by omega), w228_66, w228_67]
          by_cases hbit : (rm (k + 1) (lo (k + 1))).testBit (lo (k + 1) + 1 + j) = true
          · obtain ⟨⟨q1, q2⟩, q3⟩ := f_rm _ r1 (lo (k + 1) + 1 + j) (by omega)
            obtain ⟨q5, q4⟩ := q2 hbit
            have hF : ∀ I' : Nat → Nat → Int32, (∀ q, q < k + 1 → I' 218 q = pFn ρ q) → I' 218 (rm (rm (k + 1) (lo (k + 1))) (lo (k + 1) + 1 + j)) = pFn ρ (rm (rm (k + 1) (lo (k + 1))) (lo (k + 1) + 1 + j)) := fun I' t => t _ (by omega)
            simp only [sB_t hbit, ↓reduceIte, w228_70, w228_71, w228_72, w228_74, w228_75, c230 bD.2.2.1 hρ l2 (show lo (k + 1) + 1 + j < 5 by omega) r1 (hF I' t), ↓reduceIte, Option.toList_some, Option.toList_none, List.cons_append, List.nil_append, Int32.reduceAdd, Int32.reduceLT, Int32.reduceLE, Int32.reduceToNatClampNeg, w228_78, w228_79, w228_82, w228_83, a1, a2, t2, w228_84]
            by_cases hc : pW ρ (pFn ρ) (rm (k + 1) (lo (k + 1))) (lo (k + 1)) (lo (k + 1) + 1 + j) < pIn ρ (pFn ρ) (rm (k + 1) (lo (k + 1))) (lo (k + 1)) j
            · rw [if_pos ⟨hbit, hc⟩] at ih2
              simp only [i_lt hc, ↓reduceIte, w228_87, w228_88, w228_91, w228_92, w228_93, w228_94, w228_96, w228_97, c230 bD.2.2.1 hρ l2 (show lo (k + 1) + 1 + j < 5 by omega) r1 (hF I' t), ↓reduceIte, Option.toList_some, Option.toList_none, List.cons_append, List.nil_append, Int32.reduceAdd, Int32.reduceLT, Int32.reduceLE, Int32.reduceToNatClampNeg, w228_100, a1, a2, w228_101, w228_104, nI_1]
              refine ih2 _ (fB_p f) ?_ (mU_s _ _ _ _)
              intro q hq
              rw [mU_k (by omega)]; exact t q hq
            · rw [if_neg (fun z => hc z.2)] at ih2
              simp only [i_nlt hc, ↓reduceIte, w228_101, w228_104, nI_1]
              exact ih2 I' f t t2
          · have hbit2 : (rm (k + 1) (lo (k + 1))).testBit (lo (k + 1) + 1 + j) = false := by simpa using hbit
            have z01 : ((0 : Int32) = 1) = False := by simp
            rw [if_neg (fun z => hbit z.1)] at ih2
            simp only [sB_f hbit2, z01, ↓reduceIte, w228_101, w228_104, nI_1]
            exact ih2 I' f t t2
        · intro I' f t t2
          have g2 : 5 ≤ nI (lo (k + 1) + 1 + (4 - lo (k + 1))) := (ni_le 5 (by decide) (by omega)).2 (by omega)
          rw [w228_54]
          simp only [w228_56, w228_57, g2, ↓reduceIte, w228_107, w228_110, nI_1]
          refine ih I' _ _ _ f ?_
          intro q hq
          by_cases e : q = k + 1
          · subst e; rw [t2, pFn_s (by omega) (by omega)]; rfl
          · exact t q (by omega)
      refine M 0 (by omega) _ (fB_p f) ?_ (mU_s _ _ _ _)
      intro q hq
      rw [mU_k (by omega)]; exact t q hq
    · intro I' v2 v3 v4 f t
      have bD := fB_B f hb0
      have e1 : 2 ^ η.1 - 1 + 1 = 2 ^ η.1 := by have := Nat.two_pow_pos η.1; omega
      rw [e1] at t ⊢
      have g1 : nI (2 ^ η.1) ≤ nI (2 ^ η.1) := nI_le (Nat.le_refl _) (by omega)
      rw [w228_9]
      simp only [w228_10, w228_11, w228_12, w228_15, w228_16, w228_19, bD.2.1.2.1, s1, s2, bD.2.1.2.2.1, w228_20, bSh _ (show η.1 < 7 by omega), w228_21, g1, ↓reduceIte, w228_113]
      exact hQ I' f t
  refine L 0 (Nat.zero_le _) _ _ _ _ (fB_p fB_0) ?_
  intro q hq
  have : q = 0 := by omega
  subst this
  rw [mU_s]; rfl
theorem c232 (hr : mNw I ρ) (hρ : ∀ p, p < 5 → pX ρ p ≤ 20 ∧ ρ p = nI (pX ρ p)) {m : Nat} (hm : m ≤ 32) (t : ∀ q, q < m → I 218 q = pFn ρ q) {b : Nat} (hp : 0 < b) (hbm : b < m) : WP (d + 2) 232 0 [.ref 180, .int (nI b), mDum, mDum, mDum] [] (mHh xL I J (mRf rc rx rr)) Q = Q (some (.int (fin2 (pOf ρ b)))) (mHh xL I J (mRf rc rx rr)) := by
  obtain ⟨l1, l2, l3⟩ := f_lo b (by omega) hp
  obtain ⟨⟨r1, r2⟩, r3⟩ := f_rm b (by omega) _ l2
  obtain ⟨r5, r4⟩ := r2 l1
  have a1 : mIn (nI b) 32 = true := mIn_nI (by omega) (by omega)
  have a2 : (nI b).toNatClampNeg = b := nI_clamp (by omega)
  simp only [w232_0, w232_1, c229 hp (show b < 32 by omega), ↓reduceIte, Option.toList_some, Option.toList_none, List.cons_append, List.nil_append, Int32.reduceAdd, Int32.reduceLT, Int32.reduceLE, Int32.reduceToNatClampNeg, w232_4, w232_5, w232_6, w232_7, w232_8, w232_9, w232_10, w232_11, f_and b (by omega) _ l2, w232_12, w232_13, w232_14, w232_15, w232_16, nI_1]
  have M : ∀ j, j ≤ 4 - lo b → WP (d + 2) 232 18 [.ref 180, .int (nI b), .int (nI (lo b)), .int (nI (rm b (lo b))), .int (nI (lo b + 1 + j))] [] (mHh xL I J (mRf rc rx rr)) Q = Q (some (.int (fin2 (fnd (fun c => (rm b (lo b)).testBit c && decide (pW ρ (pFn ρ) (rm b (lo b)) (lo b) c = pFn ρ b)) (4 - lo b - j) (lo b + 1 + j))))) (mHh xL I J (mRf rc rx rr)) := by
    refine iter_dn ?_ ?_
    · intro j hj ih
      have g2 : ¬ 5 ≤ nI (lo b + 1 + j) := by rw [ni_le 5 (by decide) (by omega)]; omega
      rw [show 4 - lo b - j = (4 - lo b - (j + 1)) + 1 by omega, fnd, w232_18]
      simp only [w232_20, w232_21, g2, ↓reduceIte, w232_24, w232_25, w232_27, w232_28, w232_29, f_bit _ r1 (lo b + 1 + j) (by omega), w232_30, w232_31]
      by_cases hbit : (rm b (lo b)).testBit (lo b + 1 + j) = true
      · obtain ⟨⟨q1, q2⟩, q3⟩ := f_rm _ r1 (lo b + 1 + j) (by omega)
        obtain ⟨q5, q4⟩ := q2 hbit
        simp only [sB_t hbit, hbit, ↓reduceIte, Bool.true_and, w232_34, w232_35, w232_36, w232_38, w232_39, c230 hr hρ l2 (show lo b + 1 + j < 5 by omega) r1 (t (rm (rm b (lo b)) (lo b + 1 + j)) (by omega)), ↓reduceIte, Option.toList_some, Option.toList_none, List.cons_append, List.nil_append, Int32.reduceAdd, Int32.reduceLT, Int32.reduceLE, Int32.reduceToNatClampNeg, w232_42, w232_43, w232_46, w232_47, a1, a2, t b hbm, w232_48]
        by_cases hc : pW ρ (pFn ρ) (rm b (lo b)) (lo b) (lo b + 1 + j) = pFn ρ b
        · simp only [hc, decide_true, ↓reduceIte, w232_51, w232_53]; rfl
        · simp only [hc, decide_false, Bool.false_eq_true, ↓reduceIte, w232_54, w232_57, nI_1]
          exact ih
      · have hbit2 : (rm b (lo b)).testBit (lo b + 1 + j) = false := by simpa using hbit
        have z01 : ((0 : Int32) = 1) = False := by simp
        simp only [sB_f hbit2, hbit2, z01, Bool.false_and, Bool.false_eq_true, ↓reduceIte, w232_54, w232_57, nI_1]
        exact ih
    · have g2 : 5 ≤ nI (lo b + 1 + (4 - lo b)) := (ni_le 5 (by decide) (by omega)).2 (by omega)
      rw [Nat.sub_self, fnd, w232_18]
      simp only [w232_20, w232_21, g2, ↓reduceIte, w232_60, w232_62]; rfl
  exact M 0 (by omega)
theorem c227 (hb : zB I s η ρ) (i : Int32) (hQ : ∀ I', fB I I' → Q (some (.int (q_pairs η ρ i))) (mHh xL I' J (mRf rc rx rr))) : WP (d + 4) 227 0 [.ref 180, .int i, mDum, mDum, mDum] [] (mHh xL I J (mRf rc rx rr)) Q := by
  have hb0 := hb
  obtain ⟨hk, hh, hr, ho, -⟩ := hb
  have hn5 := hk.1
  have hs := hh.1
  have s1 : mIn (nI s) 2 = true := mIn_nI (by omega) (by omega)
  have s2 : (nI s).toNatClampNeg = s := nI_clamp (by omega)
  have h32 := pow5 hn5
  have hpos := Nat.two_pow_pos η.1
  have hρ := pX_ok ho
  obtain ⟨⟨F1, F2⟩, F3⟩ := f_full η.1 (by omega)
  by_cases hi : i = -1 ∨ isP η i = true
  · have e : WP (d + 4) 227 0 [.ref 180, .int i, mDum, mDum, mDum] [] (mHh xL I J (mRf rc rx rr)) Q = WP (d + 4) 227 15 [.ref 180, .int i, mDum, mDum, mDum] [] (mHh xL I J (mRf rc rx rr)) Q := by
      by_cases h1 : i = -1
      · simp only [w227_0, w227_1, w227_2, h1, ↓reduceIte]
      · have h2 : isP η i = true := hi.resolve_left h1
        simp only [w227_0, w227_1, w227_2, h1, ↓reduceIte, w227_5, w227_6, w227_7, c169 hh hk, ↓reduceIte, Option.toList_some, Option.toList_none, List.cons_append, List.nil_append, Int32.reduceAdd, Int32.reduceLT, Int32.reduceLE, Int32.reduceToNatClampNeg, w227_10, sB_t h2, o01]
    rw [e]
    simp only [w227_15, w227_16]
    refine c228 hb0 ?_
    intro I1 f1 t
    have bD := fB_B f1 hb0
    have hF := hQ I1 f1
    have em : nI (2 ^ η.1) - 1 = nI (2 ^ η.1 - 1) := pk_sub (b := 1) (by omega)
    simp only [↓reduceIte, Option.toList_some, Option.toList_none, List.cons_append, List.nil_append, Int32.reduceAdd, Int32.reduceLT, Int32.reduceLE, Int32.reduceToNatClampNeg, w227_19, w227_20, w227_21, w227_24, w227_25, w227_28, bD.2.1.2.1, s1, s2, bD.2.1.2.2.1, w227_29, bSh _ (show η.1 < 7 by omega), w227_30, w227_31, em, w227_32, w227_33, w227_34, w227_35]
    by_cases h1 : i = -1
    · rw [q_pairs, if_pos h1] at hF
      have a1 : mIn (nI (2 ^ η.1 - 1)) 32 = true := mIn_nI (by omega) (by omega)
      have a2 : (nI (2 ^ η.1 - 1)).toNatClampNeg = 2 ^ η.1 - 1 := nI_clamp (by omega)
      have hv := (pV ρ (fun p hp => (hρ p hp).1) _ _ (Nat.le_refl _) F1).1
      rw [F2] at hv
      have e2 : nI η.1 / 2 = nI (η.1 / 2) := pk_div (d := 2) (by omega) (by decide) (by decide)
      have e3 : 10000 * nI (η.1 / 2) = nI (10000 * (η.1 / 2)) := pk_mul 10000 _
      simp only [h1, ↓reduceIte, w227_38, w227_39, w227_42, w227_43, a1, a2, t _ (show 2 ^ η.1 - 1 < 2 ^ η.1 by omega), hv, w227_44, w227_47, w227_48, w227_51, w227_52, w227_55, bD.2.1.2.1, s1, s2, bD.2.1.2.2.1, w227_56, w227_57, e2, w227_58, e3, w227_59, Int32.sub_add_cancel, w227_60]
      exact hF
    · have h3 : isP η i = true := hi.resolve_left h1
      rw [q_pairs, if_neg h1, if_pos h3] at hF
      obtain ⟨q, hq, rfl⟩ := (isP_iff hk).1 h3
      have a2 : (nI q).toNatClampNeg = q := nI_clamp (by omega)
      rw [a2] at hF
      simp only [h1, ↓reduceIte]
      obtain ⟨X, hX⟩ : ∃ X, X = pPar ρ 5 (2 ^ η.1 - 1) q := ⟨_, rfl⟩
      rw [← hX] at hF
      have L : ∀ f b, b < 2 ^ η.1 → bn b ≤ f → b.testBit q = true → X = pPar ρ f b q → ∀ v3 v4, WP (d + 4) 227 61 [.ref 180, .int (nI q), .int (nI b), v3, v4] [] (mHh xL I1 J (mRf rc rx rr)) Q := by
        intro f
        induction f with
        | zero =>
          intro b hb1 hb2 hb3
          have := f_pos b (by omega) q (by omega) hb3
          have := (f_bn b (by omega)).2.1 this
          omega
        | succ f ih =>
          intro b hb1 hb2 hb3 hpp v3 v4
          have hp := f_pos b (by omega) q (by omega) hb3
          obtain ⟨l1, l2, l3⟩ := f_lo b (by omega) hp
          obtain ⟨⟨r1, r2⟩, r3⟩ := f_rm b (by omega) _ l2
          obtain ⟨r5, r4⟩ := r2 l1
          obtain ⟨-, q2, -, -⟩ := pFacts (fun p hp => (hρ p hp).1) hp (show b < 32 by omega)
          have eql : (nI (lo b) = nI q) ↔ q = lo b := by rw [nI_eq (by omega) (by omega)]; exact ⟨fun z => z.symm, fun z => z.symm⟩
          rw [pPar] at hpp
          rw [w227_61]
          simp only [w227_62, c229 hp (show b < 32 by omega), ↓reduceIte, Option.toList_some, Option.toList_none, List.cons_append, List.nil_append, Int32.reduceAdd, Int32.reduceLT, Int32.reduceLE, Int32.reduceToNatClampNeg, w227_65, w227_66, w227_67, w227_68, c232 bD.2.2.1 hρ h32 t hp hb1, w227_71, w227_73, w227_74, w227_75, eql]
          by_cases e1 : q = lo b
          · rw [if_pos e1] at hpp
            simp only [e1, ↓reduceIte, w227_78, w227_80]
            rw [hpp] at hF
            exact hF
          · rw [if_neg e1] at hpp
            have hb4 : (rm b (lo b)).testBit q = true := by rw [r3 q (by omega), hb3, decide_eq_false e1]; rfl
            simp only [e1, ↓reduceIte, w227_81, w227_83, w227_84]
            cases ho2 : pOf ρ b with
            | none =>
              rw [ho2] at hpp
              have n2 : ¬ (fin2 none = nI q) := by
                intro z
                have := nI_pos (n := q) (by omega)
                rw [← z] at this
                exact this (by decide)
              have n3 : fin2 none < 0 := by decide
              simp only [n2, n3, ↓reduceIte, w227_89, w227_90, w227_91, w227_92, w227_93, w227_94, w227_95, f_and b (by omega) _ l2, w227_96, w227_97, w227_99, w227_111]
              exact ih _ (by omega) (by omega) hb4 hpp _ _
            | some c =>
              rw [ho2] at hpp
              obtain ⟨w1, w2, w3, w4, w5⟩ := q2 c ho2
              obtain ⟨⟨t1, t2⟩, t3⟩ := f_rm _ r1 c w2
              obtain ⟨t5, t4⟩ := t2 w3
              have eqc : (fin2 (some c) = nI q) ↔ q = c := by
                show nI c = nI q ↔ _
                rw [nI_eq (by omega) (by omega)]; exact ⟨fun z => z.symm, fun z => z.symm⟩
              have n3 : ¬ nI c < 0 := nI_pos (by omega)
              have efc : fin2 (some c) = nI c := rfl
              dsimp only at hpp
              simp only [eqc]
              by_cases e2 : q = c
              · rw [if_pos e2] at hpp
                rw [hpp] at hF
                simp only [e2, ↓reduceIte, w227_87, w227_88]
                exact hF
              · rw [if_neg e2] at hpp
                simp only [e2, n3, ↓reduceIte, w227_89, w227_90, w227_91, w227_92, w227_93, w227_94, w227_95, f_and b (by omega) _ l2, w227_96, w227_97, w227_99, w227_102, w227_103, w227_104, efc, w227_106, w227_107, w227_108, w227_109, f_and _ r1 c w2, w227_110, w227_111]
                exact ih _ (by omega) (by omega) (by rw [t3 q (by omega), hb4, decide_eq_false e2]; rfl) hpp _ _
      exact L 5 _ (by omega) (by rw [F2]; omega) (by rw [F3 q (by omega)]; exact decide_eq_true hq) hX _ _
  · have h1 : ¬ i = -1 := fun z => hi (Or.inl z)
    have h2 : ¬ isP η i = true := fun z => hi (Or.inr z)
    have h3 : isP η i = false := by simpa using h2
    have hF := hQ I fB_0
    rw [q_pairs, if_neg h1, if_neg h2] at hF
    simp only [w227_0, w227_1, w227_2, h1, ↓reduceIte, w227_5, w227_6, w227_7, c169 hh hk, ↓reduceIte, Option.toList_some, Option.toList_none, List.cons_append, List.nil_append, Int32.reduceAdd, Int32.reduceLT, Int32.reduceLE, Int32.reduceToNatClampNeg, w227_10, sB_f h3, w227_13, w227_14]
    exact hF
end PAD
