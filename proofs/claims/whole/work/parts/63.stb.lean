/-! What is done by hand: the glass, the rest. -/
def byt (x s : Int32) : Int32 := vp_nar .byte (Int32.toInt8 (x >>> (s &&& 31))).toInt32
def wU (W : Nat → Int32) (i : Nat) (x : Int32) : Nat → Int32 := fun j => if j = i then x else W j
def wA (W : Nat → Int32) (L : Nat) (x : Int32) : Nat → Int32 := wU (wU (wU (wU W L (byt x 24)) (L + 1) (byt x 16)) (L + 2) (byt x 8)) (L + 3) (byt x 0)
def wF (W : Nat → Int32) (L : Nat) (a b c d e : Int32) : Nat → Int32 := wA (wA (wA (wA (wA W L a) (L + 4) b) (L + 8) c) (L + 12) d) (L + 16) e
def tU (τ : mTo) (t : Nat) (x : Nat × Int32 × Bool) : mTo := fun j => if j = t then x else τ j
def kU (K : Nat → mRo5) (s : Nat) (ρ : mRo5) : Nat → mRo5 := fun k => if k = s then ρ else K k
def sTl (t : Nat) (i v : Int32) : Bool := decide (t < 20) && (sW i 0 24 && isM v)
section STB
variable {d : Nat} {xL : Nat} {Z I : Nat → Nat → Int32} {J : Nat → Nat → Int64} {rr : Nat} {Q : Option Value → mHp → Prop} {o : Nat} {η : mHs} {ρ : mRo5} {u : Nat} {H : Nat → mRo5} {g : Nat} {K : Nat → mRo5} {t : Nat} {τ : mTo} {L : Nat} {W : Nat → Int32} {pl : Int32}
theorem c96 (hV : xV Z I o η ρ u H g K t τ L W pl) (hH : 0 < u → rOk η (H 0) ∧ ∃ m, m ≤ 2 ^ 29 ∧ H 0 5 = nI m) (hQ1 : u = 0 → Q (some (.int 0)) (mHh xL I J (mRf o o rr))) (hQ2 : 0 < u → ∀ I', xV Z I' o η (H 0) (u - 1) (fun i => H (i + 1)) g K t τ L W pl → Q (some (.int 1)) (mHh xL I' J (mRf o o rr))) : WP (d + 2) 96 0 [.ref 7] [] (mHh xL I J (mRf o o rr)) Q := by
  obtain ⟨v1, ⟨h1, h2, nx, h3, h4, h5⟩, v3, v4, v5, v6⟩ := hV
  simp only [w96_0, w96_1, w96_4, w96_5, w96_8, w24_0, w24_1, h2, w24_4]
  by_cases h0 : u = 0
  · have e : nI u = 0 := by rw [h0]; rfl
    simp only [e, ↓reduceIte, w24_7, w24_8, nb0, ↓reduceIte, Option.toList_some, Option.toList_none, List.cons_append, List.nil_append, Int32.reduceAdd, Int32.reduceLT, Int32.reduceLE, Int32.reduceToNatClampNeg, w96_11]
    exact hQ1 h0
  · have e : ¬ nI u = 0 := nI_ne0 (by omega) (by omega)
    have h6 := hH (by omega)
    have ea : nI nx + 40 = nI (nx + 40) := nI_add nx 40
    have eb : nI (nx + 40) - 1 = nI (nx + 39) := nI_pred (nx + 39)
    have er := rm40 (nx + 39) (by omega)
    have eu : nI u - 1 = nI (u - 1) := pk_sub (b := 1) (by omega)
    have n12 : mU I 66 1 (nI ((nx + 39) % 40)) 66 2 = nI u := by rw [mU_k (by decide)]; exact h2
    have n21 : mU (mU I 66 1 (nI ((nx + 39) % 40))) 66 2 (nI (u - 1)) 66 1 = nI ((nx + 39) % 40) := by rw [mU_k (by decide), mU_s]
    have a1 : mIn (nI ((nx + 39) % 40)) 40 = true := mIn_nI (by omega) (by omega)
    have a2 : (nI ((nx + 39) % 40)).toNatClampNeg = (nx + 39) % 40 := nI_clamp (by omega)
    obtain ⟨b1, b2⟩ := hs40 ((nx + 39) % 40) (by omega)
    simp only [e, ↓reduceIte, w24_9, w24_10, w24_11, h4, w24_14, w24_16, ea, w24_17, w24_18, eb, w24_19, w24_21, er, w24_22, w24_25, w24_26, w24_27, n12, w24_30, w24_31, eu, w24_32, w24_35, w24_36, w24_37, w24_40, w24_41, n21, w24_44 (hi := a1) (hb := (by rw [a2]; exact b1)), s163, w24_45, c59 s163 b2, ↓reduceIte, Option.toList_some, Option.toList_none, List.cons_append, List.nil_append, Int32.reduceAdd, Int32.reduceLT, Int32.reduceLE, Int32.reduceToNatClampNeg, w24_48, w24_49, nb1, w96_11]
    have f : ∀ a, a ≠ 66 → a ≠ 163 → a ≠ 164 → mCp 163 (68 + 2 * ((nx + 39) % 40)) (mU (mU I 66 1 (nI ((nx + 39) % 40))) 66 2 (nI (u - 1))) a = I a := by
      intro a p q r
      rw [mCp_o (by omega) (by omega), mU_f p, mU_f p]
    refine hQ2 (by omega) _ ⟨⟨v1.1, mXh_keep (fun b hb => f b (by omega) (by omega) (by omega)) v1.2.1, ?_, h6.1, h6.2⟩, ⟨by omega, ?_, (nx + 39) % 40, by omega, ?_, ?_⟩, xSl_k (fun a h => f a (by omega) (by omega) (by omega)) v3, xK_k (fun a p q => f a (by omega) (by omega) (by omega)) v4, xTp_k (fun a h => f a (by omega) (by omega) (by omega)) v5, ?_⟩
    · rw [mRw_cp s163 b2]
      refine mRw_keep (I := I) ?_ ?_ (h5 0 (by omega))
      · rw [mU_f (by omega), mU_f (by omega)]
      · rw [mU_f (by omega), mU_f (by omega)]
    · rw [mCp_o (by decide) (by decide), mU_s]
    · rw [mCp_o (by decide) (by decide), mU_k (by decide), mU_s]
    · intro i hi
      have := h5 (i + 1) (by omega)
      rw [show (nx + 39 - (i + 1)) % 40 = ((nx + 39) % 40 + 39 - i) % 40 by omega] at this
      exact mRw_keep (f _ (by omega) (by omega) (by omega)) (f _ (by omega) (by omega) (by omega)) this
    · exact ⟨by rw [f 7 (by decide) (by decide) (by decide)]; exact v6.1, fun a ha => by rw [f a (by omega) (by omega) (by omega)]; exact v6.2 a ha⟩
theorem mXh_k2 {I I' : Nat → Nat → Int32} {o : Nat} {η : mHs} (hk : ∀ b, (16 ≤ b ∧ b < 37) ∨ (41 ≤ b ∧ b < 62) → I' b = I b) (h : mXh I o η) : mXh I' o η := by
  obtain ⟨ho, h1, h2, h3, h4, h5, h6, h7⟩ := h
  have q' : ∀ j, j < 21 → I' (o + j) = I (o + j) := by
    intro j hj
    refine hk _ ?_
    rcases ho with rfl | rfl <;> omega
  have q0 : I' o = I o := q' 0 (by omega)
  refine ⟨ho, by rw [q0]; exact h1, by rw [q0]; exact h2, by rw [q0]; exact h3, by rw [q0]; exact h4, ?_, ?_, ?_⟩
  · rw [q' 2 (by omega), q' 3 (by omega)]; exact h5
  · rw [q' 5 (by omega), q' 6 (by omega), q' 7 (by omega), q' 8 (by omega)]; exact h6
  · intro k hk4
    exact mXw_keep (by have := q' (9 + 3 * k) (by omega); rw [← Nat.add_assoc] at this; exact this) (by have := q' (9 + 3 * k + 1) (by omega); rw [← Nat.add_assoc, ← Nat.add_assoc] at this; exact this) (by have := q' (9 + 3 * k + 2) (by omega); rw [← Nat.add_assoc, ← Nat.add_assoc] at this; exact this) (h7 k hk4)
theorem xB_k2 {I I' : Nat → Nat → Int32} {o : Nat} {η : mHs} {ρ : mRo5} (h : ∀ a, (16 ≤ a ∧ a < 37) ∨ (41 ≤ a ∧ a < 62) ∨ a = 163 ∨ a = 164 → I' a = I a) (hb : xB I o η ρ) : xB I' o η ρ :=
  ⟨hb.1, mXh_k2 (fun b hb => h b (by omega)) hb.2.1, mRw_keep (h 163 (by decide)) (h 164 (by decide)) hb.2.2.1, hb.2.2.2⟩
theorem gS : ∀ g, g < 8 → ∀ s, s < 3 → (nI g ||| (1 <<< (nI s &&& 31)) = nI (g ||| 2 ^ s) ∧ g ||| 2 ^ s < 8) ∧ ∀ k, k < 3 → (g ||| 2 ^ s).testBit k = (g.testBit k || decide (k = s)) := by decide +kernel
theorem gT : ∀ g, g < 8 → ∀ s, s < 3 → ((nI g >>> (nI s &&& 31)) &&& 1) = sB01 (g.testBit s) := by decide +kernel
theorem c97 (hV : xV Z I o η ρ u H g K t τ L W pl) (s : Int32) (hQ1 : sW s 0 2 = false → Q (some (.int 0)) (mHh xL I J (mRf o o rr))) (hQ2 : ∀ k, k < 3 → s = nI k → ∀ I', xV Z I' o η ρ u H (g ||| 2 ^ k) (kU K k ρ) t τ L W pl → Q (some (.int 1)) (mHh xL I' J (mRf o o rr))) : WP (d + 1) 97 0 [.ref 7, .int s] [] (mHh xL I J (mRf o o rr)) Q := by
  obtain ⟨v1, v2, ⟨h1, h2, h3⟩, v4, v5, v6⟩ := hV
  simp only [w97_0, w97_1, w97_2, w97_3, c95, ↓reduceIte, Option.toList_some, Option.toList_none, List.cons_append, List.nil_append, Int32.reduceAdd, Int32.reduceLT, Int32.reduceLE, Int32.reduceToNatClampNeg, w97_6]
  by_cases h : sW s 0 2 = true
  · obtain ⟨k, -, hk, rfl⟩ := (sW_iff (a := 0) (b := 2) rfl rfl).1 h
    have a1 : mIn (nI k) 3 = true := mIn_nI (by omega) (by omega)
    have a2 : (nI k).toNatClampNeg = k := nI_clamp (by omega)
    obtain ⟨b1, b2⟩ := hs3 k (by omega)
    obtain ⟨⟨e1, e2⟩, e3⟩ := gS g h1 k (by omega)
    have e7 : mCp (174 + 2 * k) 163 I 7 16 = nI g := by rw [mCp_o (by omega) (by omega)]; exact h2
    simp only [sB_t h, o01, ↓reduceIte, w97_11, w97_12, w97_15, w97_16 (hi := a1) (hb := (by rw [a2]; exact b1)), w97_17, w97_18, b2, w97_21, c59 b2 s163, ↓reduceIte, Option.toList_some, Option.toList_none, List.cons_append, List.nil_append, Int32.reduceAdd, Int32.reduceLT, Int32.reduceLE, Int32.reduceToNatClampNeg, w97_24, w97_25, w97_26, e7, w97_29, w97_30, w97_31, w97_32, e1, w97_33, w97_36, w97_37, nb1]
    have f : ∀ a, a ≠ 7 → a ≠ 174 + 2 * k → a ≠ 174 + 2 * k + 1 → mU (mCp (174 + 2 * k) 163 I) 7 16 (nI (g ||| 2 ^ k)) a = I a := by
      intro a p q r
      rw [mU_f p, mCp_o q r]
    refine hQ2 k (by omega) rfl _ ⟨xB_k2 (fun a h => f a (by omega) (by omega) (by omega)) v1, xHi_k (fun a p q => f a (by omega) (by omega) (by omega)) v2, ⟨e2, mU_s _ _ _ _, ?_⟩, xK_k (fun a p q => f a (by omega) (by omega) (by omega)) v4, xTp_k (fun a h => f a (by omega) (by omega) (by omega)) v5, ?_⟩
    · intro j hj hg
      rw [e3 j hj] at hg
      by_cases e : j = k
      · subst e
        rw [kU, if_pos rfl]
        refine mRw_keep (I := mCp (174 + 2 * j) 163 I) (mU_f (by omega)) (mU_f (by omega)) ?_
        rw [mRw_cp b2 s163]; exact v1.2.2.1
      · rw [kU, if_neg e]
        rw [decide_eq_false e, Bool.or_false] at hg
        exact mRw_keep (f _ (by omega) (by omega) (by omega)) (f _ (by omega) (by omega) (by omega)) (h3 j hj hg)
    · exact ⟨by rw [mU_k (by decide), mCp_o (by omega) (by omega)]; exact v6.1, fun a ha => by rw [f a (by omega) (by omega) (by omega)]; exact v6.2 a ha⟩
  · have h2 : sW s 0 2 = false := by simpa using h
    simp only [sB_f h2, ↓reduceIte, w97_9, w97_10, nb0]
    exact hQ1 h2
theorem c98 (hV : xV Z I o η ρ u H g K t τ L W pl) (s : Int32) (hK : ∀ k, k < 3 → g.testBit k = true → rOk η (K k) ∧ ∃ m, m ≤ 2 ^ 29 ∧ K k 5 = nI m) (hQ1 : (sW s 0 2 && g.testBit s.toNatClampNeg) = false → Q (some (.int 0)) (mHh xL I J (mRf o o rr))) (hQ2 : ∀ k, k < 3 → s = nI k → g.testBit k = true → ∀ I', xV Z I' o η (K k) 0 H g K t τ L W pl → Q (some (.int 1)) (mHh xL I' J (mRf o o rr))) : WP (d + 1) 98 0 [.ref 7, .int s] [] (mHh xL I J (mRf o o rr)) Q := by
  obtain ⟨v1, ⟨u1, u2, nx, u3, u4, u5⟩, ⟨h1, h2, h3⟩, v4, v5, v6⟩ := hV
  simp only [w98_0, w98_1, w98_2, w98_3, c95, ↓reduceIte, Option.toList_some, Option.toList_none, List.cons_append, List.nil_append, Int32.reduceAdd, Int32.reduceLT, Int32.reduceLE, Int32.reduceToNatClampNeg, w98_6]
  by_cases h : sW s 0 2 = true
  · obtain ⟨k, -, hk, rfl⟩ := (sW_iff (a := 0) (b := 2) rfl rfl).1 h
    have a1 : mIn (nI k) 3 = true := mIn_nI (by omega) (by omega)
    have a2 : (nI k).toNatClampNeg = k := nI_clamp (by omega)
    obtain ⟨b1, b2⟩ := hs3 k (by omega)
    simp only [sB_t h, o01, ↓reduceIte, w98_9, w98_10, h2, w98_13, w98_14, w98_15, w98_16, gT g h1 k (by omega), w98_17]
    by_cases hg : g.testBit k = true
    · simp only [sB_t hg, o01, ↓reduceIte, w98_22, w98_23, w98_26, w98_27, w98_30, w98_31 (hi := a1) (hb := (by rw [a2]; exact b1)), s163, w98_32, c59 s163 b2, ↓reduceIte, Option.toList_some, Option.toList_none, List.cons_append, List.nil_append, Int32.reduceAdd, Int32.reduceLT, Int32.reduceLE, Int32.reduceToNatClampNeg, w98_35, w98_36, w98_39, w98_40, w98_43, w98_44, nb1]
      obtain ⟨k1, k2⟩ := hK k (by omega) hg
      have f : ∀ a, a ≠ 66 → a ≠ 163 → a ≠ 164 → mU (mCp 163 (174 + 2 * k) I) 66 2 0 a = I a := by
        intro a p q r
        rw [mU_f p, mCp_o q (by omega)]
      refine hQ2 k (by omega) rfl hg _ ⟨⟨v1.1, mXh_keep (fun b hb => f b (by omega) (by omega) (by omega)) v1.2.1, ?_, k1, k2⟩, ⟨by omega, mU_s _ _ _ _, nx, u3, ?_, fun i hi => absurd hi (by omega)⟩, xSl_k (fun a h => f a (by omega) (by omega) (by omega)) ⟨h1, h2, h3⟩, xK_k (fun a p q => f a (by omega) (by omega) (by omega)) v4, xTp_k (fun a h => f a (by omega) (by omega) (by omega)) v5, ?_⟩
      · refine mRw_keep (I := mCp 163 (174 + 2 * k) I) (mU_f (by omega)) (mU_f (by omega)) ?_
        rw [mRw_cp s163 b2]; exact h3 k (by omega) hg
      · rw [mU_k (by decide), mCp_o (by decide) (by decide)]; exact u4
      · exact ⟨by rw [f 7 (by decide) (by decide) (by decide)]; exact v6.1, fun a ha => by rw [f a (by omega) (by omega) (by omega)]; exact v6.2 a ha⟩
    · have hg2 : g.testBit k = false := by simpa using hg
      simp only [sB_f hg2, ↓reduceIte, w98_20, w98_21, nb0]
      exact hQ1 (by rw [a2, hg2, Bool.and_false])
  · have h2 : sW s 0 2 = false := by simpa using h
    simp only [sB_f h2, ↓reduceIte, w98_20, w98_21, nb0]
    exact hQ1 (by rw [h2, Bool.false_and])
theorem xV_b {I' : Nat → Nat → Int32} {t' : Nat} {τ' : mTo} (hV : xV Z I o η ρ u H g K t τ L W pl) (f : ∀ a, ¬ (62 ≤ a ∧ a ≤ 65) → I' a = I a) (h : xK I' t' τ') : xV Z I' o η ρ u H g K t' τ' L W pl := by
  obtain ⟨v1, v2, v3, v4, v5, v6⟩ := hV
  exact ⟨xB_k (fun a h => f a (by omega)) v1, xHi_k (fun a p q => f a (by omega)) v2, xSl_k (fun a h => f a (by omega)) v3, h, xTp_k (fun a h => f a (by omega)) v5, by rw [f 7 (by decide)]; exact v6.1, fun a ha => by rw [f a (by omega)]; exact v6.2 a ha⟩
theorem vnb (b : Bool) : vp_nar .boolean (sB01 b) = sB01 b := by cases b <;> decide
theorem c126 (hV : xV Z I o η ρ u H g K t τ L W pl) (i v : Int32) (b : Bool) (hQ1 : sTl t i v = false → Q (some (.int (-1))) (mHh xL I J (mRf o o rr))) (hQ2 : t < 20 → ∀ j, j ≤ 24 → i = nI j → isM v = true → ∀ I', xV Z I' o η ρ u H g K (t + 1) (tU τ t (j, v, b)) L W pl → Q (some (.int (nI t))) (mHh xL I' J (mRf o o rr))) : WP (d + 2) 126 0 [.ref 7, .int i, .int v, .int (sB01 b)] [] (mHh xL I J (mRf o o rr)) Q := by
  obtain ⟨k1, k2, k3⟩ := hV.2.2.2.1
  simp only [w126_0, w126_1, w126_2, w126_4, c95, ↓reduceIte, Option.toList_some, Option.toList_none, List.cons_append, List.nil_append, Int32.reduceAdd, Int32.reduceLT, Int32.reduceLE, Int32.reduceToNatClampNeg, w126_7]
  by_cases h : sW i 0 24 = true
  · simp only [sB_t h, o01, ↓reduceIte, w126_10, w126_11, c100, ↓reduceIte, Option.toList_some, Option.toList_none, List.cons_append, List.nil_append, Int32.reduceAdd, Int32.reduceLT, Int32.reduceLE, Int32.reduceToNatClampNeg, w126_14]
    by_cases h2 : isM v = true
    · simp only [sB_t h2, o01, ↓reduceIte, w126_19, w126_20, w126_23, w126_24, w126_25, w126_26, w1_0, w1_1, k2, w1_4, w1_6]
      by_cases h3 : t < 20
      · obtain ⟨j, -, hj, rfl⟩ := (sW_iff (a := 0) (b := 24) rfl rfl).1 h
        have g1 : nI t < 20 := (in_lt 20 (by decide) (by omega)).2 h3
        have a1 : mIn (nI t) 20 = true := mIn_nI (by omega) (by omega)
        have a2 : (nI t).toNatClampNeg = t := nI_clamp (by omega)
        have e1 : ∀ x y, mU I 63 x y 62 3 = nI t := fun x y => by rw [mU_a (by decide)]; exact k2
        have e2 : ∀ x y z w, mU (mU I 63 x y) 64 z w 62 3 = nI t := fun x y z w => by rw [mU_a (by decide)]; exact e1 x y
        have e3 : ∀ x y z w p q, mU (mU (mU I 63 x y) 64 z w) 65 p q 62 3 = nI t := fun x y z w p q => by rw [mU_a (by decide)]; exact e2 x y z w
        simp only [g1, ↓reduceIte, w1_11, w1_12, w1_15, w1_16, k2, w1_19, w1_20, a1, a2, w1_21, w1_22, w1_25, w1_26, e1, w1_29, w1_30, w1_31, w1_32, w1_35, w1_36, e2, w1_39, w1_40, vnb, w1_41, w1_42, w1_43, e3, w1_46, w1_47, nI_1, w1_48, w1_51, w1_52, mU_s, w1_55, w1_56, nI_pred, w1_57, ↓reduceIte, Option.toList_some, Option.toList_none, List.cons_append, List.nil_append, Int32.reduceAdd, Int32.reduceLT, Int32.reduceLE, Int32.reduceToNatClampNeg, w126_29]
        refine hQ2 h3 j hj rfl h2 _ (xV_b hV (fun a ha => ?_) ⟨by omega, mU_s _ _ _ _, ?_⟩)
        · rw [mU_f (by omega), mU_f (by omega), mU_f (by omega), mU_f (by omega)]
        · intro p hp
          by_cases e : p = t
          · subst e
            rw [tU, if_pos rfl]
            refine ⟨hj, ?_, ?_, ?_⟩
            · rw [mU_a (by decide), mU_a (by decide), mU_a (by decide), mU_s]
            · rw [mU_a (by decide), mU_a (by decide), mU_s]
            · rw [mU_a (by decide), mU_s]
          · obtain ⟨w1, w2, w3, w4⟩ := k3 p (by omega)
            rw [tU, if_neg e]
            refine ⟨w1, ?_, ?_, ?_⟩
            · rw [mU_a (by decide), mU_a (by decide), mU_a (by decide), mU_k e]; exact w2
            · rw [mU_a (by decide), mU_a (by decide), mU_k e, mU_a (by decide)]; exact w3
            · rw [mU_a (by decide), mU_k e, mU_a (by decide), mU_a (by decide)]; exact w4
      · have g1 : ¬ nI t < 20 := fun z => h3 ((in_lt 20 (by decide) (by omega)).1 z)
        simp only [g1, ↓reduceIte, w1_9, w1_10, ↓reduceIte, Option.toList_some, Option.toList_none, List.cons_append, List.nil_append, Int32.reduceAdd, Int32.reduceLT, Int32.reduceLE, Int32.reduceToNatClampNeg, w126_29]
        exact hQ1 (by rw [sTl, decide_eq_false h3, Bool.false_and])
    · have e2 : isM v = false := by simpa using h2
      simp only [sB_f e2, ↓reduceIte, w126_17, w126_18]
      exact hQ1 (by rw [sTl, e2, Bool.and_false, Bool.and_false])
  · have e2 : sW i 0 24 = false := by simpa using h
    simp only [sB_f e2, ↓reduceIte, w126_17, w126_18]
    exact hQ1 (by rw [sTl, e2, Bool.false_and, Bool.and_false])
theorem c127 (hV : xV Z I o η ρ u H g K t τ L W pl) (hQ : ∀ I', xV Z I' o η ρ u H g K 0 τ L W pl → Q (some (.int (nI t))) (mHh xL I' J (mRf o o rr))) : WP d 127 0 [.ref 7, mDum] [] (mHh xL I J (mRf o o rr)) Q := by
  obtain ⟨k1, k2, k3⟩ := hV.2.2.2.1
  simp only [w127_0, w127_1, w127_4, w127_7, w127_8, w127_9, w127_12, w127_13, w127_16, w127_17, k2]
  refine hQ _ (xV_b hV (fun a ha => mU_f (by omega)) ⟨by omega, mU_s _ _ _ _, fun i hi => absurd hi (by omega)⟩)
theorem xV_t {I' : Nat → Nat → Int32} {L' : Nat} {W' : Nat → Int32} (hV : xV Z I o η ρ u H g K t τ L W pl) (f : ∀ a, a ≠ 8 → a ≠ 9 → I' a = I a) (h : xTp I' L' W') : xV Z I' o η ρ u H g K t τ L' W' pl := by
  obtain ⟨v1, v2, v3, v4, v5, v6⟩ := hV
  exact ⟨xB_k2 (fun a h => f a (by omega) (by omega)) v1, xHi_k (fun a p q => f a (by omega) (by omega)) v2, xSl_k (fun a h => f a (by omega) (by omega)) v3, xK_k (fun a p q => f a (by omega) (by omega)) v4, h, by rw [f 7 (by decide) (by decide)]; exact v6.1, fun a ha => by rw [f a (by omega) (by omega)]; exact v6.2 a ha⟩
theorem c62 {rc rx : Nat} (h : xTp I L W) (hL : L + 4 ≤ 2000) (x : Int32) (hQ : ∀ I' : Nat → Nat → Int32, (∀ a, a ≠ 8 → a ≠ 9 → I' a = I a) → xTp I' (L + 4) (wA W L x) → Q none (mHh xL I' J (mRf rc rx rr))) : WP d 62 0 [.ref 8, .int x, mDum] [] (mHh xL I J (mRf rc rx rr)) Q := by
  have st : ∀ (s s' : Int32) (L : Nat) (W : Nat → Int32) (I : Nat → Nat → Int32), ¬ s < 0 → s + (-8) = s' → L < 2000 → xTp I L W → (∀ I' : Nat → Nat → Int32, (∀ a, a ≠ 8 → a ≠ 9 → I' a = I a) → xTp I' (L + 1) (wU W L (byt x s)) → WP d 62 3 [.ref 8, .int x, .int s'] [] (mHh xL I' J (mRf rc rx rr)) Q) → WP d 62 3 [.ref 8, .int x, .int s] [] (mHh xL I J (mRf rc rx rr)) Q := by
    intro s s' L W I hs es hL h go
    obtain ⟨h1, h2, h3⟩ := h
    have g1 : ¬ nI L < 0 := nI_pos (by omega)
    have g2 : ¬ 2000 ≤ nI L := by rw [ni_le 2000 (by decide) (by omega)]; omega
    have a1 : mIn (nI L) 2000 = true := mIn_nI (by omega) (by omega)
    have a2 : (nI L).toNatClampNeg = L := nI_clamp (by omega)
    have e1 : ∀ x y, mU I 9 x y 8 1 = nI L := fun x y => by rw [mU_a (by decide)]; exact h2
    rw [w62_3]
    simp only [w62_4, hs, ↓reduceIte, w62_7, w62_8, h2, w62_11, g1, w62_14, w62_15, w62_18, w62_21, g2, w62_24, w62_25, w62_28, w62_29, w62_32, w62_33, w62_34, w62_35, w62_36, a1, a2, w62_37, w62_38, w62_39, e1, w62_42, w62_43, nI_1, w62_44, w62_47, es, w62_50]
    refine go _ (fun a p q => by rw [mU_f p, mU_f q]) ⟨by omega, mU_s _ _ _ _, ?_⟩
    intro i hi
    rw [mU_f (by decide)]
    by_cases e : i = L
    · subst e; rw [mU_s, wU, if_pos rfl]; rfl
    · rw [mU_k e, wU, if_neg e]; exact h3 i (by omega)
  rw [w62_0, w62_2]
  refine st 24 16 L W I (by decide) (by decide) (by omega) h ?_
  intro I1 f1 h1
  refine st 16 8 (L + 1) _ I1 (by decide) (by decide) (by omega) h1 ?_
  intro I2 f2 h2
  refine st 8 0 (L + 2) _ I2 (by decide) (by decide) (by omega) h2 ?_
  intro I3 f3 h3
  refine st 0 (-8) (L + 3) _ I3 (by decide) (by decide) (by omega) h3 ?_
  intro I4 f4 h4
  have g1 : ((-8 : Int32) < 0) = True := by simp
  rw [w62_3]
  simp only [w62_4, g1, ↓reduceIte, w62_53]
  exact hQ I4 (fun a p q => by rw [f4 a p q, f3 a p q, f2 a p q, f1 a p q]) h4
theorem c77 (hV : xV Z I o η ρ u H g K t τ L W pl) (a b c e f : Int32) (hQ1 : ¬ L + 20 ≤ 2000 → Q (some (.int (-1))) (mHh xL I J (mRf o o rr))) (hQ2 : L + 20 ≤ 2000 → ∀ I', xV Z I' o η ρ u H g K t τ (L + 20) (wF W L a b c e f) pl → Q (some (.int (nI (L + 20)))) (mHh xL I' J (mRf o o rr))) : WP (d + 1) 77 0 [.ref 7, .int a, .int b, .int c, .int e, .int f] [] (mHh xL I J (mRf o o rr)) Q := by
  obtain ⟨l1, l2, l3⟩ := hV.2.2.2.2.1
  have e20 : nI L + 20 = nI (L + 20) := nI_add L 20
  have eg : (nI (L + 20) ≤ 2000) ↔ L + 20 ≤ 2000 := in_le 2000 (by decide) (by omega)
  simp only [w77_0, w77_1, w77_4, l2, w77_7, w77_9, e20, w77_10, w77_13, eg]
  by_cases h : L + 20 ≤ 2000
  · simp only [h, ↓reduceIte, w77_18, w77_19, w77_22, w77_23]
    refine c62 hV.2.2.2.2.1 (by omega) a ?_
    intro I1 f1 h1
    simp only [↓reduceIte, Option.toList_some, Option.toList_none, List.cons_append, List.nil_append, Int32.reduceAdd, Int32.reduceLT, Int32.reduceLE, Int32.reduceToNatClampNeg, w77_26, w77_27, w77_30, w77_31]
    refine c62 h1 (by omega) b ?_
    intro I2 f2 h2
    simp only [↓reduceIte, Option.toList_some, Option.toList_none, List.cons_append, List.nil_append, Int32.reduceAdd, Int32.reduceLT, Int32.reduceLE, Int32.reduceToNatClampNeg, w77_34, w77_35, w77_38, w77_39]
    refine c62 h2 (by omega) c ?_
    intro I3 f3 h3
    simp only [↓reduceIte, Option.toList_some, Option.toList_none, List.cons_append, List.nil_append, Int32.reduceAdd, Int32.reduceLT, Int32.reduceLE, Int32.reduceToNatClampNeg, w77_42, w77_43, w77_46, w77_48]
    refine c62 h3 (by omega) e ?_
    intro I4 f4 h4
    simp only [↓reduceIte, Option.toList_some, Option.toList_none, List.cons_append, List.nil_append, Int32.reduceAdd, Int32.reduceLT, Int32.reduceLE, Int32.reduceToNatClampNeg, w77_51, w77_52, w77_55, w77_57]
    refine c62 h4 (by omega) f ?_
    intro I5 f5 h5
    have e5 : I5 8 1 = nI (L + 4 + 4 + 4 + 4 + 4) := h5.2.1
    simp only [↓reduceIte, Option.toList_some, Option.toList_none, List.cons_append, List.nil_append, Int32.reduceAdd, Int32.reduceLT, Int32.reduceLE, Int32.reduceToNatClampNeg, w77_60, w77_61, w77_64, e5, w77_67]
    exact hQ2 h I5 (xV_t hV (fun a p q => by rw [f5 a p q, f4 a p q, f3 a p q, f2 a p q, f1 a p q]) h5)
  · simp only [h, ↓reduceIte, w77_16, w77_17]
    exact hQ1 h
theorem c78 (hV : xV Z I o η ρ u H g K t τ L W pl) (n : Int32) (hQ1 : sW n 0 (nI L) = false → Q (some (.int (-1))) (mHh xL I J (mRf o o rr))) (hQ2 : ∀ k, k ≤ L → n = nI k → ∀ I', xV Z I' o η ρ u H g K t τ (L - k) W pl → Q (some (.int (nI (L - k)))) (mHh xL I' J (mRf o o rr))) : WP d 78 0 [.ref 7, .int n] [] (mHh xL I J (mRf o o rr)) Q := by
  obtain ⟨l1, l2, l3⟩ := hV.2.2.2.2.1
  have hl : (nI L).toInt = (L : Int) := nI_toInt (by omega)
  by_cases h : sW n 0 (nI L) = true
  · obtain ⟨k, -, hk, rfl⟩ := (sW_iff (a := 0) (b := L) rfl hl).1 h
    have g1 : ¬ nI k < 0 := nI_pos (by omega)
    have g2 : nI k ≤ nI L := nI_le hk (by omega)
    simp only [w78_0, w78_1, g1, ↓reduceIte, w78_4, w78_5, w78_6, w78_9, l2, w78_12, g2, w78_17, w78_18, w78_21, w78_22, w78_25, w78_26, pk_sub hk, w78_27, w78_30, w78_31, w78_34, mU_s, w78_37]
    exact hQ2 k hk rfl _ (xV_t hV (fun a p q => mU_f p) ⟨by omega, mU_s _ _ _ _, fun i hi => by rw [mU_f (by decide)]; exact l3 i (by omega)⟩)
  · have h2 : sW n 0 (nI L) = false := by simpa using h
    rw [sW, Bool.and_eq_true, decide_eq_true_eq, decide_eq_true_eq] at h
    by_cases g1 : n < 0
    · simp only [w78_0, w78_1, g1, ↓reduceIte, w78_15, w78_16]
      exact hQ1 h2
    · have g2 : ¬ n ≤ nI L := fun z => h ⟨i_nlt g1, z⟩
      simp only [w78_0, w78_1, g1, ↓reduceIte, w78_4, w78_5, w78_6, w78_9, l2, w78_12, g2, w78_15, w78_16]
      exact hQ1 h2
theorem c81 (hV : xV Z I o η ρ u H g K t τ L W pl) : WP d 81 0 [.ref 7] [] (mHh xL I J (mRf o o rr)) Q = Q (some (.int pl)) (mHh xL I J (mRf o o rr)) := by
  obtain ⟨v1, v2, v3, v4, v5, v6⟩ := hV
  simp only [w81_0, w81_1, w81_4, v6.1]
end STB
