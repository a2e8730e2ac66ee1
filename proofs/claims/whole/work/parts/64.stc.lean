/-! The whole state between calls, and what is done by hand: the model. -/
def zHi (I : Nat → Nat → Int32) (u : Nat) (H : Nat → mRo5) : Prop := u ≤ 40 ∧ I 180 54 = nI u ∧ ∀ i, i < u → ∀ k, k < 8 → I 215 (8 * (u - 1 - i) + k) = H i k
def zSl (I : Nat → Nat → Int32) (g : Nat) (K : Nat → mRo5) : Prop := g < 8 ∧ ∀ k, k < 3 → I 226 k = sB01 (g.testBit k) ∧ (g.testBit k = true → ∀ j, j < 8 → I 227 (8 * k + j) = K k j)
def zTp (I : Nat → Nat → Int32) (L : Nat) (W : Nat → Int32) : Prop := L ≤ 2000 ∧ I 180 2 = nI L ∧ ∀ i, i < L → I 181 i = W i
def zV (Z I : Nat → Nat → Int32) (s : Nat) (η : mHs) (ρ : mRo5) (u : Nat) (H : Nat → mRo5) (g : Nat) (K : Nat → mRo5) (t : Nat) (τ : mTo) (L : Nat) (W : Nat → Int32) (pl : Int32) : Prop := zB I s η ρ ∧ zHi I u H ∧ zSl I g K ∧ zK I t τ ∧ zTp I L W ∧ I 180 17 = pl ∧ (∀ a, (a < 180 ∨ (182 ≤ a ∧ a ≤ 209) ∨ a = 219) → I a = Z a)
/-- what a call of the model may write, the lasting things but the row now and the history left as they are -/
def fD (I I' : Nat → Nat → Int32) : Prop := (∀ a, ¬ (a = 180 ∨ a = 215 ∨ (210 ≤ a ∧ a ≤ 214) ∨ (216 ≤ a ∧ a ≤ 218) ∨ (220 ≤ a ∧ a ≤ 221) ∨ a = 225) → I' a = I a) ∧ ∀ k, k ≠ 48 → k ≠ 51 → k ≠ 52 → k ≠ 54 → I' 180 k = I 180 k
theorem fD_t {I I1 I2 : Nat → Nat → Int32} (h1 : fD I I1) (h2 : fD I1 I2) : fD I I2 := ⟨fun a x => by rw [h2.1 a x, h1.1 a x], fun k x y z w => by rw [h2.2 k x y z w, h1.2 k x y z w]⟩
theorem fB_D {I I' : Nat → Nat → Int32} (h : fB I I') : fD I I' := ⟨fun a x => h.1 a (by omega), fun k x y z _ => h.2 k x y z⟩
theorem fD_0 {I : Nat → Nat → Int32} : fD I I := ⟨fun _ _ => rfl, fun _ _ _ _ _ => rfl⟩
theorem fD_h {I I' : Nat → Nat → Int32} {s : Nat} {η : mHs} (h : fD I I') (hh : mMh I s η) : mMh I' s η := mMh_keep (fun a p q => h.1 a (by omega)) (h.2 18 (by decide) (by decide) (by decide) (by decide)) hh
section STC
variable {d : Nat} {xL : Nat} {Z I : Nat → Nat → Int32} {J : Nat → Nat → Int64} {rc rx rr : Nat} {Q : Option Value → mHp → Prop} {s : Nat} {η : mHs} {ρ : mRo5} {u : Nat} {H : Nat → mRo5} {g : Nat} {K : Nat → mRo5} {t : Nat} {τ : mTo} {L : Nat} {W : Nat → Int32} {pl : Int32}
theorem fB_V {I' : Nat → Nat → Int32} (f : fB I I') (h : zV Z I s η ρ u H g K t τ L W pl) : zV Z I' s η ρ u H g K t τ L W pl := by
  obtain ⟨h1, ⟨a1, a2, a3⟩, ⟨b1, b2⟩, h4, ⟨c1, c2, c3⟩, h6⟩ := h
  refine ⟨fB_B f h1, ⟨a1, by rw [f.2 54 (by decide) (by decide) (by decide)]; exact a2, fun i hi k hk => by rw [f.1 215 (by decide)]; exact a3 i hi k hk⟩, ⟨b1, fun k hk => ?_⟩, zK_B f h4, ⟨c1, by rw [f.2 2 (by decide) (by decide) (by decide)]; exact c2, fun i hi => by rw [f.1 181 (by decide)]; exact c3 i hi⟩, by rw [f.2 17 (by decide) (by decide) (by decide)]; exact h6.1, fun a ha => by rw [f.1 a (by omega)]; exact h6.2 a ha⟩
  rw [f.1 226 (by decide), f.1 227 (by decide)]; exact b2 k hk
theorem zV_new {I' : Nat → Nat → Int32} {ρ' : mRo5} {u' : Nat} {H' : Nat → mRo5} (h : zV Z I s η ρ u H g K t τ L W pl) (f : fD I I') (hz : zHi I' u' H') (hn : mNw I' ρ') (ok : rOk η ρ') (hm : ∃ m, m ≤ 2 ^ 29 ∧ ρ' 5 = nI m) : zV Z I' s η ρ' u' H' g K t τ L W pl := by
  obtain ⟨h1, -, ⟨b1, b2⟩, ⟨k1, k2, k3⟩, ⟨c1, c2, c3⟩, h6⟩ := h
  have ff : ∀ k, k ≠ 48 → k ≠ 51 → k ≠ 52 → k ≠ 54 → I' 180 k = I 180 k := f.2
  refine ⟨⟨h1.1, fD_h f h1.2.1, hn, ok, hm⟩, hz, ⟨b1, fun k hk => ?_⟩, ⟨k1, ?_, fun i hi => ?_⟩, ⟨c1, ?_, fun i hi => by rw [f.1 181 (by decide)]; exact c3 i hi⟩, ?_⟩
  · rw [f.1 226 (by decide), f.1 227 (by decide)]; exact b2 k hk
  · rw [ff 62 (by decide) (by decide) (by decide) (by decide)]; exact k2
  · rw [f.1 222 (by decide), f.1 223 (by decide), f.1 224 (by decide)]; exact k3 i hi
  · rw [ff 2 (by decide) (by decide) (by decide) (by decide)]; exact c2
  · exact ⟨by rw [ff 17 (by decide) (by decide) (by decide) (by decide)]; exact h6.1, fun a ha => by rw [f.1 a (by omega)]; exact h6.2 a ha⟩
theorem mNw_of {ρ' : mRo5} (h : ∀ k, k < 8 → I 212 k = ρ' k) (h8 : ∀ k, 8 ≤ k → ρ' k = 0) : mNw I ρ' := mR8_of (fun k hk => by rw [Nat.zero_add]; exact h k hk) h8
theorem mRr_8 {ρ' : mRo5} (h : mRr I ρ') : ∀ k, 8 ≤ k → ρ' k = 0 := mR8_8 h
theorem mNw_8 {ρ' : mRo5} (h : mNw I ρ') : ∀ k, 8 ≤ k → ρ' k = 0 := mR8_8 h
theorem c137 {ρ' : mRo5} (hr : mRr I ρ') (hQ : ∀ I' : Nat → Nat → Int32, (∀ a, a ≠ 212 → I' a = I a) → mNw I' ρ' → Q none (mHh xL I' J (mRf rc rx rr))) : WP d 137 0 [.ref 180, mDum] [] (mHh xL I J (mRf rc rx rr)) Q := by
  simp only [w137_0, w137_1]
  have key : ∀ k, k ≤ 8 → ∀ I' : Nat → Nat → Int32, (∀ a, a ≠ 212 → I' a = I a) → (∀ j, j < k → I' 212 j = ρ' j) → WP d 137 2 [.ref 180, .int (nI k)] [] (mHh xL I' J (mRf rc rx rr)) Q := by
    refine iter_dn ?_ ?_
    · intro k hk ih I' f t
      have g1 : ¬ 8 ≤ nI k := by rw [ni_le 8 (by decide) (by omega)]; omega
      have a1 : mIn (nI k) 8 = true := mIn_nI (by omega) (by omega)
      have a2 : (nI k).toNatClampNeg = k := nI_clamp (by omega)
      have e1 : I' 213 k = ρ' k := by rw [f 213 (by decide)]; exact mRr_at hr hk
      rw [w137_2]
      simp only [w137_0, w137_1, w137_3, w137_5, w137_8, w137_9, w137_12, w137_13, w137_14, w137_17, w137_18, w137_19, w137_20, w137_23, w137_26, g1, ↓reduceIte, a1, a2, e1, nI_1]
      refine ih _ (fun a p => by rw [mU_f p, f a p]) ?_
      intro j hj
      by_cases e : j = k
      · subst e; exact mU_s _ _ _ _
      · rw [mU_k e]; exact t j (by omega)
    · intro I' f t
      have g1 : 8 ≤ nI 8 := by decide
      rw [w137_2]
      simp only [w137_0, w137_1, w137_3, w137_5, w137_8, w137_9, w137_12, w137_13, w137_14, w137_17, w137_18, w137_19, w137_20, w137_23, w137_26, g1, ↓reduceIte]
      exact hQ I' f (mNw_of t (mRr_8 hr))
  exact key 0 (by omega) I (fun _ _ => rfl) (fun j hj => absurd hj (by omega))
theorem c190 {ρ' : mRo5} (hz : zHi I u H) (hn : mNw I ρ) (hr : mRr I ρ') (hQ : ∀ I' : Nat → Nat → Int32, (∀ a, a ≠ 212 → a ≠ 215 → a ≠ 180 → I' a = I a) → (∀ k, k ≠ 54 → I' 180 k = I 180 k) → zHi I' (min (u + 1) 40) (hP ρ H) → mNw I' ρ' → Q none (mHh xL I' J (mRf rc rx rr))) : WP (d + 1) 190 0 [.ref 180, mDum] [] (mHh xL I J (mRf rc rx rr)) Q := by
  obtain ⟨h1, h2, h3⟩ := hz
  have e8 : ∀ k, 8 * nI k = nI (8 * k) := fun k => pk_mul 8 k
  have tail : ∀ (n : Nat) (I1 : Nat → Nat → Int32) (v1 : Int32), n + 1 = min (u + 1) 40 → (∀ a, a ≠ 215 → a ≠ 180 → I1 a = I a) → (∀ k, k ≠ 54 → I1 180 k = I 180 k) → I1 180 54 = nI n → (∀ i, i < n → ∀ k, k < 8 → I1 215 (8 * (n - 1 - i) + k) = H i k) → ∀ v1, WP (d + 1) 190 49 [.ref 180, v1] [] (mHh xL I1 J (mRf rc rx rr)) Q := by
    intro n I1 _ en f1 g1 h54 hh v1
    have n40 : n < 40 := by omega
    have key : ∀ k, k ≤ 8 → ∀ I' : Nat → Nat → Int32, (∀ a, a ≠ 215 → I' a = I1 a) → (∀ j, j < 8 * n → I' 215 j = I1 215 j) → (∀ j, j < k → I' 215 (8 * n + j) = ρ j) → WP (d + 1) 190 51 [.ref 180, .int (nI k)] [] (mHh xL I' J (mRf rc rx rr)) Q := by
      refine iter_dn ?_ ?_
      · intro k hk ih I' f t1 t2
        have g1 : ¬ 8 ≤ nI k := by rw [ni_le 8 (by decide) (by omega)]; omega
        have a1 : mIn (nI k) 8 = true := mIn_nI (by omega) (by omega)
        have a2 : (nI k).toNatClampNeg = k := nI_clamp (by omega)
        have a3 : mIn (nI (8 * n + k)) 320 = true := mIn_nI (by omega) (by omega)
        have a4 : (nI (8 * n + k)).toNatClampNeg = 8 * n + k := nI_clamp (by omega)
        have e1 : I' 212 k = ρ k := by rw [f 212 (by decide), f1 212 (by decide) (by decide)]; exact mNw_at hn hk
        have e2 : I' 180 54 = nI n := by rw [f 180 (by decide)]; exact h54
        rw [w190_51]
        simp only [w190_52, w190_54, g1, ↓reduceIte, w190_57, w190_58, w190_61, w190_63, w190_64, e2, w190_67, e8, w190_68, w190_69, nI_add, w190_70, w190_71, w190_74, w190_75, a1, a2, e1, w190_76, a3, a4, w190_77, w190_80, nI_1]
        refine ih _ (fun a p => by rw [mU_f p, f a p]) ?_ ?_
        · intro j hj
          rw [mU_k (by omega)]; exact t1 j hj
        · intro j hj
          by_cases e : j = k
          · subst e; exact mU_s _ _ _ _
          · rw [mU_k (by omega)]; exact t2 j (by omega)
      · intro I' f t1 t2
        have g2 : 8 ≤ nI 8 := by decide
        have e2 : I' 180 54 = nI n := by rw [f 180 (by decide)]; exact h54
        have r2 : mRr (mU I' 180 54 (nI (n + 1))) ρ' := mRr_o (by rw [mU_f (by decide), f 213 (by decide), f1 213 (by decide) (by decide)]) hr
        rw [w190_51]
        simp only [w190_52, w190_54, g2, ↓reduceIte, w190_83, w190_84, w190_85, e2, w190_88, w190_89, nI_1, w190_90, w190_93, w190_94]
        refine c137 r2 ?_
        intro I2 f2 n2
        simp only [↓reduceIte, Option.toList_some, Option.toList_none, List.cons_append, List.nil_append, Int32.reduceAdd, Int32.reduceLT, Int32.reduceLE, Int32.reduceToNatClampNeg, w190_97]
        refine hQ I2 ?_ ?_ ⟨by omega, ?_, ?_⟩ n2
        · intro a p q r
          rw [f2 a p, mU_f r, f a q, f1 a q r]
        · intro k hk
          rw [f2 180 (by decide), mU_k hk, f 180 (by decide), g1 k hk]
        · rw [f2 180 (by decide), mU_s, en]
        · intro i hi k hk
          rw [f2 215 (by decide), mU_f (by decide)]
          rw [← en] at hi ⊢
          by_cases e : i = 0
          · subst e
            rw [show 8 * (n + 1 - 1 - 0) + k = 8 * n + k by omega, hP, if_pos rfl]
            exact t2 k hk
          · rw [show 8 * (n + 1 - 1 - i) + k = 8 * (n - 1 - (i - 1)) + k by omega, hP, if_neg e, t1 _ (by omega)]
            exact hh (i - 1) (by omega) k hk
    simp only [w190_49, w190_50]
    exact key 0 (by omega) I1 (fun _ _ => rfl) (fun _ _ => rfl) (fun j hj => absurd hj (by omega))
  simp only [w190_0, w190_1, h2, w190_4, w190_6]
  by_cases h0 : u = 40
  · subst h0
    have g1 : nI 40 = 40 := rfl
    simp only [g1, ↓reduceIte, w190_9, w190_10]
    have key : ∀ k, k ≤ 312 → ∀ I' : Nat → Nat → Int32, (∀ a, a ≠ 215 → I' a = I a) → (∀ j, j < k → I' 215 j = I 215 (j + 8)) → (∀ j, k ≤ j → I' 215 j = I 215 j) → WP (d + 1) 190 11 [.ref 180, .int (nI k)] [] (mHh xL I' J (mRf rc rx rr)) Q := by
      refine iter_dn ?_ ?_
      · intro k hk ih I' f t1 t2
        have g1 : ¬ 312 ≤ nI k := by rw [ni_le 312 (by decide) (by omega)]; omega
        have a1 : mIn (nI k) 320 = true := mIn_nI (by omega) (by omega)
        have a2 : (nI k).toNatClampNeg = k := nI_clamp (by omega)
        have a3 : mIn (nI (k + 8)) 320 = true := mIn_nI (by omega) (by omega)
        have a4 : (nI (k + 8)).toNatClampNeg = k + 8 := nI_clamp (by omega)
        have e9 : nI k + 8 = nI (k + 8) := nI_add k 8
        rw [w190_11]
        simp only [w190_12, w190_15, g1, ↓reduceIte, w190_18, w190_19, w190_22, w190_23, w190_24, w190_27, w190_28, w190_30, e9, w190_31, a3, a4, w190_32, a1, a2, w190_33, w190_36, nI_1]
        refine ih _ (fun a p => by rw [mU_f p, f a p]) ?_ ?_
        · intro j hj
          by_cases e : j = k
          · subst e; rw [mU_s]; exact t2 _ (by omega)
          · rw [mU_k e]; exact t1 j (by omega)
        · intro j hj
          rw [mU_k (by omega)]; exact t2 j (by omega)
      · intro I' f t1 t2
        have g2 : 312 ≤ nI 312 := by decide
        have e2 : I' 180 54 = nI 40 := by rw [f 180 (by decide)]; exact h2
        have e3 : nI 40 - 1 = nI 39 := rfl
        rw [w190_11]
        simp only [w190_12, w190_15, g2, ↓reduceIte, w190_39, w190_40, w190_41, e2, w190_44, w190_45, e3, w190_46]
        refine tail 39 _ 0 (by omega) ?_ ?_ (mU_s _ _ _ _) ?_ _
        · intro a p q
          rw [mU_f q, f a p]
        · intro k hk
          rw [mU_k hk, f 180 (by decide)]
        · intro i hi k hk
          rw [mU_f (by decide), t1 _ (by omega), show 8 * (39 - 1 - i) + k + 8 = 8 * (40 - 1 - i) + k by omega]
          exact h3 i (by omega) k hk
    exact key 0 (by omega) I (fun _ _ => rfl) (fun j hj => absurd hj (by omega)) (fun _ _ => rfl)
  · have g1 : ¬ nI u = 40 := fun z => h0 ((in_eq 40 (by decide) (by omega)).1 z)
    simp only [g1, ↓reduceIte]
    exact tail u I 0 (by omega) (fun _ _ _ => rfl) (fun _ _ => rfl) h2 h3 _
theorem fD_r {I1 I2 : Nat → Nat → Int32} (h1 : ∀ a, a ≠ 212 → a ≠ 215 → a ≠ 180 → I2 a = I1 a) (h2 : ∀ k, k ≠ 54 → I2 180 k = I1 180 k) : fD I1 I2 := ⟨fun a x => h1 a (by omega) (by omega) (by omega), fun k _ _ _ z => h2 k z⟩
theorem c189 (hV : zV Z I s η ρ u H g K t τ L W pl) {k : Nat} (hk : k < 8) {kk : Int32} (ek : kk = nI k) (x : Int32) (ok : rOk η (rU ρ k x)) (hm : ∃ m, m ≤ 2 ^ 29 ∧ rU ρ k x 5 = nI m) (hQ : ∀ I' : Nat → Nat → Int32, zV Z I' s η (rU ρ k x) (min (u + 1) 40) (hP ρ H) g K t τ L W pl → mRr I' (rU ρ k x) → Q (some (.int 1)) (mHh xL I' J (mRf rc rx rr))) : WP (d + 2) 189 0 [.ref 180, .int kk, .int x] [] (mHh xL I J (mRf rc rx rr)) Q := by
  obtain ⟨b1, hz, -⟩ := id hV
  subst ek
  have a1 : mIn (nI k) 8 = true := mIn_nI (by omega) (by omega)
  have a2 : (nI k).toNatClampNeg = k := nI_clamp (by omega)
  simp only [w189_0, w189_1]
  refine c171 b1.2.1 b1.2.2.1 ?_
  intro I1 f1 r1 _ _
  have F1 := fB_V (fC_B f1) hV
  have hz1 : zHi (mU I1 213 k x) u H := by
    obtain ⟨q1, q2, q3⟩ := F1.2.1
    exact ⟨q1, by rw [mU_f (by decide)]; exact q2, fun i hi j hj => by rw [mU_f (by decide)]; exact q3 i hi j hj⟩
  simp only [↓reduceIte, Option.toList_some, Option.toList_none, List.cons_append, List.nil_append, Int32.reduceAdd, Int32.reduceLT, Int32.reduceLE, Int32.reduceToNatClampNeg, w189_4, w189_5, w189_8, w189_9, w189_10, a1, a2, w189_11, w189_12]
  refine c190 hz1 (mNw_o (mU_f (by decide)) F1.1.2.2.1) (mRr_u hk r1) ?_
  intro I2 f2 g2 z2 n2
  simp only [↓reduceIte, Option.toList_some, Option.toList_none, List.cons_append, List.nil_append, Int32.reduceAdd, Int32.reduceLT, Int32.reduceLE, Int32.reduceToNatClampNeg, w189_15, w189_16, nb1]
  exact hQ I2 (zV_new hV (fD_t (fB_D (fB_w (fC_B f1))) (fD_r f2 g2)) z2 n2 ok hm) (mRr_o (f2 213 (by decide) (by decide) (by decide)) (mRr_u hk r1))
theorem c188 (hV : zV Z I s η ρ u H g K t τ L W pl) (hQ1 : ρ 6 = 9 → Q (some (.int (-1))) (mHh xL I J (mRf rc rx rr))) (hQ2 : ¬ ρ 6 = 9 → ∀ I', zV Z I' s η (rT ρ 1) (min (u + 1) 40) (hP ρ H) g K t τ L W pl → Q (some (.int (sMrk η (rT ρ 1)))) (mHh xL I' J (mRf rc rx rr))) : WP (d + 5) 188 0 [.ref 180] [] (mHh xL I J (mRf rc rx rr)) Q := by
  obtain ⟨b1, hz, -⟩ := id hV
  obtain ⟨hk, hh, hr, ho, m, hm, e5⟩ := b1
  obtain ⟨t6, ht6, e6⟩ := ho.2.2.2.1
  have a1 : I 212 6 = ρ 6 := mNw_at hr (by omega)
  simp only [w188_0, w188_1, w188_4, w188_6, a1, w188_7, w188_9]
  by_cases h9 : ρ 6 = 9
  · simp only [h9, ↓reduceIte, w188_12, w188_13]
    exact hQ1 h9
  · have h9' : t6 ≠ 9 := fun z => h9 (by rw [e6, z]; rfl)
    obtain ⟨ok, e50⟩ := rT_ok (k := 1) ho e6 (by omega)
    simp only [h9, ↓reduceIte, w188_14, w188_15, w188_17, w188_18, w188_21, w188_23, a1, w188_24, w188_25, w188_26]
    refine c189 hV (k := 6) (by decide) rfl (ρ 6 + 1) ok ⟨m, hm, by rw [← e5]; exact e50⟩ ?_
    intro I1 v1 r1
    simp only [↓reduceIte, Option.toList_some, Option.toList_none, List.cons_append, List.nil_append, Int32.reduceAdd, Int32.reduceLT, Int32.reduceLE, Int32.reduceToNatClampNeg, w188_29, w188_30, w188_31]
    refine c172 v1.1.2.1 r1 ?_
    intro I2 f2
    simp only [↓reduceIte, Option.toList_some, Option.toList_none, List.cons_append, List.nil_append, Int32.reduceAdd, Int32.reduceLT, Int32.reduceLE, Int32.reduceToNatClampNeg, w188_34]
    exact hQ2 h9 I2 (fB_V (fM_B f2) v1)
theorem c191 (hV : zV Z I s η ρ u H g K t τ L W pl) (hQ1 : ρ 6 = 0 → Q (some (.int (-1))) (mHh xL I J (mRf rc rx rr))) (hQ2 : ¬ ρ 6 = 0 → ∀ I', zV Z I' s η (rU ρ 6 0) (min (u + 1) 40) (hP ρ H) g K t τ L W pl → Q (some (.int (ρ 6))) (mHh xL I' J (mRf rc rx rr))) : WP (d + 3) 191 0 [.ref 180, mDum] [] (mHh xL I J (mRf rc rx rr)) Q := by
  obtain ⟨b1, hz, -⟩ := id hV
  obtain ⟨hk, hh, hr, ho, m, hm, e5⟩ := b1
  have a1 : I 212 6 = ρ 6 := mNw_at hr (by omega)
  simp only [w191_0, w191_1, w191_4, w191_6, a1, w191_7, w191_8, w191_9]
  by_cases h0 : ρ 6 = 0
  · simp only [h0, ↓reduceIte, w191_12, w191_13]
    exact hQ1 h0
  · obtain ⟨ok, e50⟩ := rU6_ok ho
    simp only [h0, ↓reduceIte, w191_14, w191_15, w191_17, w191_18]
    refine c189 hV (k := 6) (by decide) rfl 0 ok ⟨m, hm, by rw [← e5]; exact e50⟩ ?_
    intro I1 v1 _
    simp only [↓reduceIte, Option.toList_some, Option.toList_none, List.cons_append, List.nil_append, Int32.reduceAdd, Int32.reduceLT, Int32.reduceLE, Int32.reduceToNatClampNeg, w191_21, w191_22, w191_23]
    exact hQ2 h0 I1 v1
theorem c192 (hV : zV Z I s η ρ u H g K t τ L W pl) (i : Int32) (b : Bool) (hQ1 : sFo η ρ i b = false → Q (some (.int 0)) (mHh xL I J (mRf rc rx rr))) (hQ2 : sFo η ρ i b = true → ∀ I', zV Z I' s η (rU ρ 7 (ρ 7 ^^^ (1 <<< (i &&& 31)))) (min (u + 1) 40) (hP ρ H) g K t τ L W pl → Q (some (.int 1)) (mHh xL I' J (mRf rc rx rr))) : WP (d + 3) 192 0 [.ref 180, .int i, .int (sB01 b)] [] (mHh xL I J (mRf rc rx rr)) Q := by
  obtain ⟨b1, hz, -⟩ := id hV
  obtain ⟨hk, hh, hr, ho, m, hm, e5⟩ := b1
  have h6 := hk.2.1
  have h64 := pow6 h6
  have a7 : I 212 7 = ρ 7 := mNw_at hr (by omega)
  simp only [w192_0, w192_1, w192_2, c184 hh hk, ↓reduceIte, Option.toList_some, Option.toList_none, List.cons_append, List.nil_append, Int32.reduceAdd, Int32.reduceLT, Int32.reduceLE, Int32.reduceToNatClampNeg, w192_5]
  by_cases h1 : isD η i = true
  · obtain ⟨j, hj, rfl⟩ := (isD_iff hk).1 h1
    obtain ⟨f, hf, ef⟩ := ho.2.2.2.2.1
    have eb : (ρ 7 >>> (nI j &&& 31)) &&& 1 = sB01 (f.testBit j) := by rw [ef, bB1 f (by omega) j (by omega), sB_n]
    have e : WP (d + 3) 192 8 [.ref 180, .int (nI j), .int (sB01 b)] [] (mHh xL I J (mRf rc rx rr)) Q = WP (d + 3) 192 28 [.ref 180, .int (nI j), .int (sB01 b)] [.int (sB01 (f.testBit j))] (mHh xL I J (mRf rc rx rr)) Q := by
      simp only [w192_8, w192_9, w192_12, w192_14, a7, w192_15, w192_16, w192_17, w192_18, eb, w192_19, w192_20]
      cases f.testBit j with
      | true => simp only [sB_t, ↓reduceIte, w192_23, w192_24]
      | false =>
        have z01 : ((0 : Int32) = 1) = False := by simp
        simp only [sB_f, z01, ↓reduceIte, w192_27]
    simp only [sB_t h1, o01, ↓reduceIte]
    rw [e]
    simp only [w192_28, w192_29]
    by_cases hc : sB01 (f.testBit j) = sB01 b
    · rw [if_pos hc, w192_56, w192_57 (hx := nb0)]
      exact hQ1 (by rw [sFo, eb, decide_eq_true hc]; simp)
    · obtain ⟨ok, e50⟩ := rUf_ok hk ho hj
      rw [if_neg hc]
      simp only [w192_32, w192_33, w192_35, w192_36, w192_39, w192_41, a7, w192_42, w192_43, w192_44, w192_45, w192_46]
      refine c189 hV (k := 7) (by decide) rfl _ ok ⟨m, hm, by rw [← e5]; exact e50⟩ ?_
      intro I1 v1 _
      simp only [↓reduceIte, Option.toList_some, Option.toList_none, List.cons_append, List.nil_append, Int32.reduceAdd, Int32.reduceLT, Int32.reduceLE, Int32.reduceToNatClampNeg, w192_49, o01, ↓reduceIte, w192_52, w192_53, w192_57, nb1]
      exact hQ2 (by rw [sFo, h1, eb, decide_eq_false hc]; rfl) I1 v1
  · have h2 : isD η i = false := by simpa using h1
    simp only [sB_f h2, ↓reduceIte, w192_56, w192_57, nb0]
    exact hQ1 (by rw [sFo, h2, Bool.false_and])
theorem c193 (hV : zV Z I s η ρ u H g K t τ L W pl) (p : Int32) (b : Bool) (hQ1 : sCh η ρ p b = false → Q (some (.int 0)) (mHh xL I J (mRf rc rx rr))) (hQ2 : sCh η ρ p b = true → ∀ I', zV Z I' s η (rU ρ p.toNatClampNeg (ρ p.toNatClampNeg + sUp b)) (min (u + 1) 40) (hP ρ H) g K t τ L W pl → Q (some (.int 1)) (mHh xL I' J (mRf rc rx rr))) : WP (d + 3) 193 0 [.ref 180, .int p, .int (sB01 b)] [] (mHh xL I J (mRf rc rx rr)) Q := by
  obtain ⟨b1, hz, -⟩ := id hV
  obtain ⟨hk, hh, hr, ho, m, hm, e5⟩ := b1
  have h5 := hk.1
  simp only [w193_0, w193_1, w193_2, c169 hh hk, ↓reduceIte, Option.toList_some, Option.toList_none, List.cons_append, List.nil_append, Int32.reduceAdd, Int32.reduceLT, Int32.reduceLE, Int32.reduceToNatClampNeg, w193_5]
  by_cases h1 : isP η p = true
  · obtain ⟨j, hj, rfl⟩ := (isP_iff hk).1 h1
    have a1 : mIn (nI j) 8 = true := mIn_nI (by omega) (by omega)
    have a2 : (nI j).toNatClampNeg = j := nI_clamp (by omega)
    have a3 : I 212 j = ρ j := mNw_at hr (by omega)
    rw [a2] at hQ2
    have e : WP (d + 3) 193 8 [.ref 180, .int (nI j), .int (sB01 b)] [] (mHh xL I J (mRf rc rx rr)) Q = WP (d + 3) 193 24 [.ref 180, .int (nI j), .int (sB01 b)] [.int (sTop b), .int (ρ j)] (mHh xL I J (mRf rc rx rr)) Q := by
      simp only [w193_8, w193_9, w193_12, w193_13, a1, a2, a3, w193_14, w193_15]
      cases b with
      | true => simp only [sB_t, o01, ↓reduceIte, w193_18, w193_20, sTop]
      | false => simp only [sB_f, ↓reduceIte, w193_23, sTop, Bool.false_eq_true]
    have e2 : WP (d + 3) 193 27 [.ref 180, .int (nI j), .int (sB01 b)] [] (mHh xL I J (mRf rc rx rr)) Q = WP (d + 3) 193 44 [.ref 180, .int (nI j), .int (sB01 b)] [.int (sUp b), .int (ρ j), .int (nI j), .ref 180] (mHh xL I J (mRf rc rx rr)) Q := by
      simp only [w193_27, w193_28, w193_29, w193_30, w193_33, w193_34, a1, a2, a3, w193_35, w193_36]
      cases b with
      | true => simp only [sB_t, o01, ↓reduceIte, w193_39, w193_40, sUp]
      | false => simp only [sB_f, ↓reduceIte, w193_43, sUp, Bool.false_eq_true]
    simp only [sB_t h1, o01, ↓reduceIte]
    rw [e, w193_24]
    by_cases hc : ρ j = sTop b
    · rw [if_pos hc, w193_55, w193_56 (hx := nb0)]
      exact hQ1 (by rw [sCh, a2, decide_eq_true hc]; simp)
    · obtain ⟨n, hn, en⟩ := ho.1 j (by omega)
      have hc2 := hc
      rw [en] at hc2
      obtain ⟨k, hk2, ek⟩ := sUp_ok hn hc2
      have ok : rOk η (rU ρ j (ρ j + sUp b)) := by rw [en, ek]; exact rU_B ho hj h5 hk2
      rw [if_neg hc, e2]
      simp only [w193_44, w193_45]
      refine c189 hV (k := j) (by omega) rfl _ ok ⟨m, hm, by rw [rU_5 (by omega)]; exact e5⟩ ?_
      intro I1 v1 _
      simp only [↓reduceIte, Option.toList_some, Option.toList_none, List.cons_append, List.nil_append, Int32.reduceAdd, Int32.reduceLT, Int32.reduceLE, Int32.reduceToNatClampNeg, w193_48, o01, ↓reduceIte, w193_51, w193_52, w193_56, nb1]
      exact hQ2 (by rw [sCh, h1, a2, decide_eq_false hc]; rfl) I1 v1
  · have h2 : isP η p = false := by simpa using h1
    simp only [sB_f h2, ↓reduceIte, w193_55, w193_56, nb0]
    exact hQ1 (by rw [sCh, h2, Bool.false_and])
theorem c194 (hV : zV Z I s η ρ u H g K t τ L W pl) {m : Nat} (e5 : ρ 5 = nI m) (hm : m + 200 ≤ 2 ^ 29) (n : Int32) (hQ1 : sW n 0 200 = false → Q (some (.int (-1))) (mHh xL I J (mRf rc rx rr))) (hQ2 : n = 0 → Q (some (.int (ρ 5))) (mHh xL I J (mRf rc rx rr))) (hQ3 : ∀ k, 0 < k → k ≤ 200 → n = nI k → ∀ I', zV Z I' s η (sP η η.2.2.2.2.1 ρ k) (min (u + 1) 40) (hP ρ H) g K t τ L W pl → Q (some (.int (sP η η.2.2.2.2.1 ρ k 5))) (mHh xL I' J (mRf rc rx rr))) : WP (d + 8) 194 0 [.ref 180, .int n] [] (mHh xL I J (mRf rc rx rr)) Q := by
  obtain ⟨b1, hz, -⟩ := id hV
  obtain ⟨hk, hh, hr, ho, -⟩ := b1
  have a5 : I 212 5 = ρ 5 := mNw_at hr (by omega)
  simp only [w194_0, w194_1, c195, ↓reduceIte, Option.toList_some, Option.toList_none, List.cons_append, List.nil_append, Int32.reduceAdd, Int32.reduceLT, Int32.reduceLE, Int32.reduceToNatClampNeg, w194_4]
  by_cases h1 : sW n 0 200 = true
  · obtain ⟨k, -, hk2, rfl⟩ := (sW_iff (a := 0) (b := 200) rfl rfl).1 h1
    simp only [sB_t h1, o01, ↓reduceIte, w194_9, w194_10]
    by_cases h0 : k = 0
    · subst h0
      have g1 : nI 0 = 0 := rfl
      simp only [g1, ↓reduceIte, w194_13, w194_14, w194_17, w194_18, a5, w194_19]
      exact hQ2 rfl
    · have g1 : ¬ nI k = 0 := nI_ne0 (by omega) (by omega)
      simp only [g1, ↓reduceIte, w194_20, w194_21]
      refine c171 hh hr ?_
      intro I1 f1 r1 l1 l2
      simp only [↓reduceIte, Option.toList_some, Option.toList_none, List.cons_append, List.nil_append, Int32.reduceAdd, Int32.reduceLT, Int32.reduceLE, Int32.reduceToNatClampNeg, w194_24, w194_25, w194_26]
      refine c196n (fC_h f1 hh) hk r1 ho l2 l1 e5 (by omega) ?_
      intro I2 f2 r2
      have F2 : fB I I2 := fB_t (fC_B f1) (fH_B f2)
      have V2 := fB_V F2 hV
      obtain ⟨ok, e50⟩ := sP_ok hk ho η.2.2.2.2.1 e5 k (by omega)
      simp only [↓reduceIte, Option.toList_some, Option.toList_none, List.cons_append, List.nil_append, Int32.reduceAdd, Int32.reduceLT, Int32.reduceLE, Int32.reduceToNatClampNeg, w194_29, w194_30]
      refine c190 V2.2.1 V2.1.2.2.1 r2 ?_
      intro I3 f3 g3 z3 n3
      have V3 := zV_new hV (fD_t (fB_D F2) (fD_r f3 g3)) z3 n3 ok ⟨m + k, by omega, e50⟩
      simp only [↓reduceIte, Option.toList_some, Option.toList_none, List.cons_append, List.nil_append, Int32.reduceAdd, Int32.reduceLT, Int32.reduceLE, Int32.reduceToNatClampNeg, w194_33, w194_34, w194_37, w194_38, mNw_at n3 (show 5 < 8 by decide), w194_39]
      exact hQ3 k (by omega) hk2 rfl I3 V3
  · have h2 : sW n 0 200 = false := by simpa using h1
    simp only [sB_f h2, ↓reduceIte, w194_7, w194_8]
    exact hQ1 h2
end STC
