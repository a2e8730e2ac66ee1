/-! The whole state between calls, and what is done by hand: the glass. -/
abbrev mRo5 := Nat → Int32
def xHi (I : Nat → Nat → Int32) (u : Nat) (H : Nat → mRo5) : Prop := u ≤ 40 ∧ I 66 2 = nI u ∧ ∃ nx, nx < 40 ∧ I 66 1 = nI nx ∧ ∀ i, i < u → mRw I (68 + 2 * ((nx + 39 - i) % 40)) = H i
def xSl (I : Nat → Nat → Int32) (g : Nat) (K : Nat → mRo5) : Prop := g < 8 ∧ I 7 16 = nI g ∧ ∀ k, k < 3 → g.testBit k = true → mRw I (174 + 2 * k) = K k
def xTp (I : Nat → Nat → Int32) (L : Nat) (W : Nat → Int32) : Prop := L ≤ 2000 ∧ I 8 1 = nI L ∧ ∀ i, i < L → I 9 i = W i
def xV (Z I : Nat → Nat → Int32) (o : Nat) (η : mHs) (ρ : mRo5) (u : Nat) (H : Nat → mRo5) (g : Nat) (K : Nat → mRo5) (t : Nat) (τ : mTo) (L : Nat) (W : Nat → Int32) (pl : Int32) : Prop := xB I o η ρ ∧ xHi I u H ∧ xSl I g K ∧ xK I t τ ∧ xTp I L W ∧ I 7 17 = pl ∧ (∀ a, (a < 7 ∨ (10 ≤ a ∧ a < 38) ∨ (41 ≤ a ∧ a < 62) ∨ 180 ≤ a) → I a = Z a)
def hP (ρ : mRo5) (H : Nat → mRo5) : Nat → mRo5 := fun i => if i = 0 then ρ else H (i - 1)
theorem xHi_k {I I' : Nat → Nat → Int32} {u : Nat} {H : Nat → mRo5} (h : ∀ a, 66 ≤ a → a ≤ 147 → I' a = I a) (hh : xHi I u H) : xHi I' u H := by
  obtain ⟨h1, h2, nx, h3, h4, h5⟩ := hh
  refine ⟨h1, by rw [h 66 (by decide) (by decide)]; exact h2, nx, h3, by rw [h 66 (by decide) (by decide)]; exact h4, ?_⟩
  intro i hi
  exact mRw_keep (h _ (by omega) (by omega)) (h _ (by omega) (by omega)) (h5 i hi)
theorem xSl_k {I I' : Nat → Nat → Int32} {g : Nat} {K : Nat → mRo5} (h : ∀ a, a = 7 ∨ (174 ≤ a ∧ a ≤ 179) → I' a = I a) (hh : xSl I g K) : xSl I' g K := by
  obtain ⟨h1, h2, h3⟩ := hh
  refine ⟨h1, by rw [h 7 (Or.inl rfl)]; exact h2, ?_⟩
  intro k hk hg
  exact mRw_keep (h _ (by omega)) (h _ (by omega)) (h3 k hk hg)
theorem xTp_k {I I' : Nat → Nat → Int32} {L : Nat} {W : Nat → Int32} (h : ∀ a, a = 8 ∨ a = 9 → I' a = I a) (hh : xTp I L W) : xTp I' L W := by
  obtain ⟨h1, h2, h3⟩ := hh
  refine ⟨h1, by rw [h 8 (Or.inl rfl)]; exact h2, ?_⟩
  intro k hk
  rw [h 9 (Or.inr rfl)]; exact h3 k hk
theorem xK_k {I I' : Nat → Nat → Int32} {t : Nat} {τ : mTo} (h : ∀ a, 62 ≤ a → a ≤ 65 → I' a = I a) (hh : xK I t τ) : xK I' t τ := by
  obtain ⟨h1, h2, h3⟩ := hh
  refine ⟨h1, by rw [h 62 (by decide) (by decide)]; exact h2, fun i hi => ?_⟩
  rw [h 63 (by decide) (by decide), h 64 (by decide) (by decide), h 65 (by decide) (by decide)]
  exact h3 i hi
theorem xB_k {I I' : Nat → Nat → Int32} {o : Nat} {η : mHs} {ρ : mRo5} (h : ∀ a, a < 37 ∨ (41 ≤ a ∧ a < 62) ∨ a = 163 ∨ a = 164 → I' a = I a) (hb : xB I o η ρ) : xB I' o η ρ :=
  ⟨hb.1, mXh_keep (fun b hb => h b (by omega)) hb.2.1, mRw_keep (h 163 (by decide)) (h 164 (by decide)) hb.2.2.1, hb.2.2.2⟩
theorem fQ_V {Z I I' : Nat → Nat → Int32} {o : Nat} {η : mHs} {ρ : mRo5} {u : Nat} {H : Nat → mRo5} {g : Nat} {K : Nat → mRo5} {t : Nat} {τ : mTo} {L : Nat} {W : Nat → Int32} {pl : Int32} (f : fQ I I') (h : xV Z I o η ρ u H g K t τ L W pl) : xV Z I' o η ρ u H g K t τ L W pl := by
  obtain ⟨h1, h2, h3, h4, h5, h6⟩ := h
  exact ⟨fQ_B f h1, xHi_k (fun a h7 h8 => f a (by omega)) h2, xSl_k (fun a h => f a (by omega)) h3, xK_q f h4, xTp_k (fun a h => f a (by omega)) h5, by rw [f 7 (by decide)]; exact h6.1, fun a ha => by rw [f a (by omega)]; exact h6.2 a ha⟩
theorem hs40 : ∀ n, n < 40 → mRc 67 n = some (68 + 2 * n) ∧ mSt (68 + 2 * n) := by
  have h : (List.range 40).all (fun n => decide (mRc 67 n = some (68 + 2 * n)) && decide ((68 + 2 * n) ∈ mStL)) = true := by decide +kernel
  intro n hn
  have := List.all_eq_true.mp h n (List.mem_range.2 hn)
  simp only [Bool.and_eq_true, decide_eq_true_eq] at this
  exact this
theorem hs3 : ∀ n, n < 3 → mRc 169 n = some (174 + 2 * n) ∧ mSt (174 + 2 * n) := by
  have h : (List.range 3).all (fun n => decide (mRc 169 n = some (174 + 2 * n)) && decide ((174 + 2 * n) ∈ mStL)) = true := by decide +kernel
  intro n hn
  have := List.all_eq_true.mp h n (List.mem_range.2 hn)
  simp only [Bool.and_eq_true, decide_eq_true_eq] at this
  exact this
theorem rm40 (n : Nat) (h : n < 2 ^ 31) : nI n - nI n / 40 * 40 = nI (n % 40) := pk_rem (d := 40) h (by decide) (by decide)
section STA
variable {d : Nat} {xL : Nat} {Z I : Nat → Nat → Int32} {J : Nat → Nat → Int64} {rr : Nat} {Q : Option Value → mHp → Prop} {o : Nat} {η : mHs} {ρ : mRo5} {u : Nat} {H : Nat → mRo5} {g : Nat} {K : Nat → mRo5} {t : Nat} {τ : mTo} {L : Nat} {W : Nat → Int32} {pl : Int32}
theorem c23 {rc rx : Nat} (hh : xHi I u H) (hr : mRw I 163 = ρ) (hQ : ∀ I' : Nat → Nat → Int32, (∀ a, ¬ (66 ≤ a ∧ a ≤ 147) → I' a = I a) → xHi I' (min (u + 1) 40) (hP ρ H) → Q none (mHh xL I' J (mRf rc rx rr))) : WP (d + 1) 23 0 [.ref 66, .ref 163] [] (mHh xL I J (mRf rc rx rr)) Q := by
  obtain ⟨h1, h2, nx, h3, h4, h5⟩ := hh
  have a1 : mIn (nI nx) 40 = true := mIn_nI (by omega) (by omega)
  have a2 : (nI nx).toNatClampNeg = nx := nI_clamp (by omega)
  obtain ⟨b1, b2⟩ := hs40 nx h3
  have n66 : ∀ k, mCp (68 + 2 * nx) 163 I 66 k = I 66 k := fun k => by rw [mCp_o (by omega) (by omega)]
  have e1 := rm40 (nx + 1) (by omega)
  have em : (if 40 < nI (u + 1) then 40 else nI (u + 1)) = nI (min (u + 1) 40) := by
    by_cases hc : u + 1 ≤ 40
    · rw [if_neg (i_le ((in_le 40 (by decide) (by omega)).2 hc)), Nat.min_eq_left hc]
    · have : u = 40 := by omega
      subst this; decide
  have n12 : mU (mCp (68 + 2 * nx) 163 I) 66 1 (nI ((nx + 1) % 40)) 66 2 = nI u := by rw [mU_k (by decide), n66]; exact h2
  simp only [w23_0, w23_1, w23_4, w23_5, h4, w23_8 (hi := a1) (hb := (by rw [a2]; exact b1)), w23_9, b2, w23_10, c59 b2 s163, ↓reduceIte, Option.toList_some, Option.toList_none, List.cons_append, List.nil_append, Int32.reduceAdd, Int32.reduceLT, Int32.reduceLE, Int32.reduceToNatClampNeg, w23_13, w23_14, w23_15, n66, w23_18, w23_19, nI_1, w23_20, w23_22, e1, w23_23, w23_26, w23_27, w23_28, n12, w23_31, w23_32, w23_33, w23_35, em, w23_38, w23_41]
  refine hQ _ ?_ ?_
  · intro a ha
    rw [mU_f (by omega), mU_f (by omega), mCp_o (by omega) (by omega)]
  · refine ⟨by omega, mU_s _ _ _ _, (nx + 1) % 40, by omega, by rw [mU_k (by decide), mU_s], ?_⟩
    intro i hi
    refine mRw_keep (I := mCp (68 + 2 * nx) 163 I) ?_ ?_ ?_
    · rw [mU_f (by omega), mU_f (by omega)]
    · rw [mU_f (by omega), mU_f (by omega)]
    · by_cases e : i = 0
      · subst e
        rw [show ((nx + 1) % 40 + 39 - 0) % 40 = nx by omega, mRw_cp b2 s163]
        exact hr
      · rw [show ((nx + 1) % 40 + 39 - i) % 40 = (nx + 39 - (i - 1)) % 40 by omega, hP, if_neg e]
        have ne : (nx + 39 - (i - 1)) % 40 ≠ nx := by omega
        exact mRw_keep (mCp_o (by omega) (by omega)) (mCp_o (by omega) (by omega)) (h5 (i - 1) (by omega))
/-- what stands once a thing done by hand is kept, and the row now is another -/
theorem xV_new {I I1 I2 : Nat → Nat → Int32} {ρ' : mRo5} (hV : xV Z I o η ρ u H g K t τ L W pl) (f1 : ∀ a, ¬ (66 ≤ a ∧ a ≤ 147) → I1 a = I a) (h1 : xHi I1 (min (u + 1) 40) (hP ρ H)) (f2 : ∀ a, ¬ (38 ≤ a ∧ a ≤ 40) → a ≠ 163 → a ≠ 164 → I2 a = I1 a) (hr : mRw I2 163 = ρ') (ok : rOk η ρ') (hm : ∃ m, m ≤ 2 ^ 29 ∧ ρ' 5 = nI m) : xV Z I2 o η ρ' (min (u + 1) 40) (hP ρ H) g K t τ L W pl := by
  obtain ⟨v1, v2, v3, v4, v5, v6⟩ := hV
  have f : ∀ a, ¬ (66 ≤ a ∧ a ≤ 147) → ¬ (38 ≤ a ∧ a ≤ 40) → a ≠ 163 → a ≠ 164 → I2 a = I a := fun a p q r s => by rw [f2 a q r s, f1 a p]
  refine ⟨⟨v1.1, mXh_keep (fun b hb => f b (by omega) (by omega) (by omega) (by omega)) v1.2.1, hr, ok, hm⟩, xHi_k (fun a p q => f2 a (by omega) (by omega) (by omega)) h1, xSl_k (fun a h => f a (by omega) (by omega) (by omega) (by omega)) v3, xK_k (fun a p q => f a (by omega) (by omega) (by omega) (by omega)) v4, xTp_k (fun a h => f a (by omega) (by omega) (by omega) (by omega)) v5, ?_⟩
  exact ⟨by rw [f 7 (by decide) (by decide) (by decide) (by decide)]; exact v6.1, fun a ha => by rw [f a (by omega) (by omega) (by omega) (by omega)]; exact v6.2 a ha⟩
theorem xB_keep {I I1 : Nat → Nat → Int32} (f1 : ∀ a, ¬ (66 ≤ a ∧ a ≤ 147) → I1 a = I a) (h : xB I o η ρ) : xB I1 o η ρ := xB_k (fun a ha => f1 a (by omega)) h
theorem c90 (hV : xV Z I o η ρ u H g K t τ L W pl) (hQ1 : ρ 6 = 9 → Q (some (.int (-1))) (mHh xL I J (mRf o o rr))) (hQ2 : ¬ ρ 6 = 9 → ∀ I', xV Z I' o η (rT ρ 1) (min (u + 1) 40) (hP ρ H) g K t τ L W pl → Q (some (.int (sMrk η (rT ρ 1)))) (mHh xL I' J (mRf o o rr))) : WP (d + 5) 90 0 [.ref 7] [] (mHh xL I J (mRf o o rr)) Q := by
  obtain ⟨hb, hh, -⟩ := id hV
  obtain ⟨hk, hx, hr, ho, m, hm, e5⟩ := hb
  obtain ⟨t6, ht6, e6⟩ := ho.2.2.2.1
  have r6 : I 163 2 = nI t6 := by rw [(mRw_5 hr).2.1, e6]
  simp only [w90_0, w90_1, s163, w90_4, r6, w90_7, w90_9]
  by_cases h9 : t6 = 9
  · have g1 : ¬ nI t6 < 9 := by rw [h9]; decide
    simp only [g1, ↓reduceIte, w90_12, w90_13]
    exact hQ1 (by rw [e6, h9]; rfl)
  · have g1 : nI t6 < 9 := (in_lt 9 (by decide) (by omega)).2 (by omega)
    have h9' : ¬ ρ 6 = 9 := by rw [e6]; intro z; exact h9 ((in_eq 9 (by decide) (by omega)).1 z)
    simp only [g1, ↓reduceIte, w90_14, w90_15, w90_18, w90_19, w90_22]
    refine c23 hh hr ?_
    intro I1 f1 h1
    have b1 := xB_keep f1 hV.1
    have r1 : I1 163 2 = ρ 6 := (mRw_5 b1.2.2.1).2.1
    obtain ⟨ok, e50⟩ := rT_ok (k := 1) ho e6 (by omega)
    have one : ρ 6 + 1 = ρ 6 + nI 1 := rfl
    have r2 : mRw (mU I1 163 2 (ρ 6 + nI 1)) 163 = rT ρ 1 := mRw_t b1.2.2.1
    have hx2 : mXh (mU I1 163 2 (ρ 6 + nI 1)) o η := mXh_keep (fun b hb => mU_f (by omega)) b1.2.1
    simp only [↓reduceIte, Option.toList_some, Option.toList_none, List.cons_append, List.nil_append, Int32.reduceAdd, Int32.reduceLT, Int32.reduceLE, Int32.reduceToNatClampNeg, w90_25, w90_26, w90_29, s163, w90_30, r1, w90_33, w90_34, one, w90_35, w90_38, w90_39, w90_42, w90_43, w90_46]
    refine c4 s163 hk hx2 r2 ok ?_
    intro I2 f2 _
    simp only [↓reduceIte, Option.toList_some, Option.toList_none, List.cons_append, List.nil_append, Int32.reduceAdd, Int32.reduceLT, Int32.reduceLE, Int32.reduceToNatClampNeg, w90_49]
    refine hQ2 h9' I2 (xV_new hV f1 h1 (fun a p q r => ?_) (fX_r s163 f2 r2) ok ⟨m, hm, by rw [e50]; exact e5⟩)
    rw [f2 a (by omega) (by omega) (by omega), mU_f q]
theorem rU6_ok (ho : rOk η ρ) : rOk η (rU ρ 6 0) ∧ rU ρ 6 0 5 = ρ 5 := by
  obtain ⟨h1, h2, h3, h4, h6, h7⟩ := ho
  refine ⟨⟨?_, ?_, ?_, ⟨0, by omega, ?_⟩, ?_, ?_⟩, ?_⟩
  · intro p hp; rw [rU, if_neg (by omega)]; exact h1 p hp
  · intro p hp hp5; rw [rU, if_neg (by omega)]; exact h2 p hp hp5
  · rw [rU, if_neg (by omega)]; exact h3
  · rw [rU, if_pos rfl]; rfl
  · rw [rU, if_neg (by omega)]; exact h6
  · intro k hk; rw [rU, if_neg (by omega)]; exact h7 k hk
  · rw [rU, if_neg (by omega)]
theorem c91 (hV : xV Z I o η ρ u H g K t τ L W pl) (hQ1 : ρ 6 = 0 → Q (some (.int (-1))) (mHh xL I J (mRf o o rr))) (hQ2 : ¬ ρ 6 = 0 → ∀ I', xV Z I' o η (rU ρ 6 0) (min (u + 1) 40) (hP ρ H) g K t τ L W pl → Q (some (.int (ρ 6))) (mHh xL I' J (mRf o o rr))) : WP (d + 2) 91 0 [.ref 7, mDum] [] (mHh xL I J (mRf o o rr)) Q := by
  obtain ⟨hb, hh, -⟩ := id hV
  obtain ⟨hk, hx, hr, ho, m, hm, e5⟩ := hb
  have r6 : I 163 2 = ρ 6 := (mRw_5 hr).2.1
  simp only [w91_0, w91_1, s163, w91_4, r6, w91_7, w91_8, w91_9]
  by_cases h0 : ρ 6 = 0
  · simp only [h0, ↓reduceIte, w91_12, w91_13]
    exact hQ1 h0
  · simp only [h0, ↓reduceIte, w91_14, w91_15, w91_18, w91_19, w91_22]
    refine c23 hh hr ?_
    intro I1 f1 h1
    have b1 := xB_keep f1 hV.1
    obtain ⟨ok, e50⟩ := rU6_ok ho
    simp only [↓reduceIte, Option.toList_some, Option.toList_none, List.cons_append, List.nil_append, Int32.reduceAdd, Int32.reduceLT, Int32.reduceLE, Int32.reduceToNatClampNeg, w91_25, w91_26, w91_29, s163, w91_30, w91_33, w91_34]
    refine hQ2 h0 _ (xV_new hV f1 h1 (fun a p q r => ?_) (mRw_t b1.2.2.1) ok ⟨m, hm, by rw [e50]; exact e5⟩)
    rw [mU_f q]
theorem rUf_ok (hk : hOk η) (ho : rOk η ρ) {i : Nat} (hi : i < η.2.1) : rOk η (rU ρ 7 (ρ 7 ^^^ (1 <<< (nI i &&& 31)))) ∧ rU ρ 7 (ρ 7 ^^^ (1 <<< (nI i &&& 31))) 5 = ρ 5 := by
  obtain ⟨h1, h2, h3, h4, ⟨f, hf, ef⟩, h7⟩ := ho
  have h6 := hk.2.1
  have h64 := pow6 h6
  have bX : ∀ f, f < 64 → ∀ k, k < 6 → nI f ^^^ (1 <<< (nI k &&& 31)) = nI (f ^^^ 2 ^ k) := by decide +kernel
  refine ⟨⟨?_, ?_, ?_, ?_, ⟨f ^^^ 2 ^ i, ?_, ?_⟩, ?_⟩, ?_⟩
  · intro p hp; rw [rU, if_neg (by omega)]; exact h1 p hp
  · intro p hp hp5; rw [rU, if_neg (by omega)]; exact h2 p hp hp5
  · rw [rU, if_neg (by omega)]; exact h3
  · rw [rU, if_neg (by omega)]; exact h4
  · exact Nat.xor_lt_two_pow hf (Nat.pow_lt_pow_right (by decide) hi)
  · rw [rU, if_pos rfl, ef, bX f (by omega) i (by omega)]
  · intro k hk; rw [rU, if_neg (by omega)]; exact h7 k hk
  · rw [rU, if_neg (by omega)]
/-- whether it is forbidden, or allowed, now -/
def sFo (η : mHs) (ρ : mRo5) (i : Int32) (b : Bool) : Bool := isD η i && !(decide ((ρ 7 >>> (i &&& 31)) &&& 1 = sB01 b))
theorem c92 (hV : xV Z I o η ρ u H g K t τ L W pl) (i : Int32) (b : Bool) (hQ1 : sFo η ρ i b = false → Q (some (.int 0)) (mHh xL I J (mRf o o rr))) (hQ2 : sFo η ρ i b = true → ∀ I', xV Z I' o η (rU ρ 7 (ρ 7 ^^^ (1 <<< (i &&& 31)))) (min (u + 1) 40) (hP ρ H) g K t τ L W pl → Q (some (.int 1)) (mHh xL I' J (mRf o o rr))) : WP (d + 2) 92 0 [.ref 7, .int i, .int (sB01 b)] [] (mHh xL I J (mRf o o rr)) Q := by
  obtain ⟨hb, hh, -⟩ := id hV
  obtain ⟨hk, hx, hr, ho, m, hm, e5⟩ := hb
  have h6 := hk.2.1
  have r7 : I 163 3 = ρ 7 := (mRw_5 hr).2.2
  simp only [w92_0, w92_1, w92_2, c85 hx, ↓reduceIte, Option.toList_some, Option.toList_none, List.cons_append, List.nil_append, Int32.reduceAdd, Int32.reduceLT, Int32.reduceLE, Int32.reduceToNatClampNeg, w92_5]
  by_cases h1 : isD η i = true
  · have e : WP (d + 2) 92 8 [.ref 7, .int i, .int (sB01 b)] [] (mHh xL I J (mRf o o rr)) Q = WP (d + 2) 92 28 [.ref 7, .int i, .int (sB01 b)] [.int (sB01 b), .int ((ρ 7 >>> (i &&& 31)) &&& 1)] (mHh xL I J (mRf o o rr)) Q := by
      simp only [w92_8, w92_9, s163, w92_12, r7, w92_15, w92_16, w92_17, w92_18, w92_19, w92_20]
      cases b with
      | true => simp only [sB_t, o01, ↓reduceIte, w92_23, w92_24]
      | false => simp only [sB_f, ↓reduceIte, w92_27]
    simp only [sB_t h1, o01, ↓reduceIte]
    rw [e, w92_28]
    by_cases hc : (ρ 7 >>> (i &&& 31)) &&& 1 = sB01 b
    · rw [if_pos hc, w92_31, w92_32 (hx := nb0)]
      exact hQ1 (by rw [sFo, decide_eq_true hc]; simp)
    · obtain ⟨j, hj, rfl⟩ := (isD_iff hk).1 h1
      rw [if_neg hc]
      simp only [w92_33, w92_34, w92_37, w92_38, w92_41]
      refine c23 hh hr ?_
      intro I1 f1 h2
      have b1 := xB_keep f1 hV.1
      have q7 : I1 163 3 = ρ 7 := (mRw_5 b1.2.2.1).2.2
      obtain ⟨ok, e50⟩ := rUf_ok hk ho hj
      simp only [↓reduceIte, Option.toList_some, Option.toList_none, List.cons_append, List.nil_append, Int32.reduceAdd, Int32.reduceLT, Int32.reduceLE, Int32.reduceToNatClampNeg, w92_44, w92_45, w92_48, s163, w92_49, q7, w92_52, w92_53, w92_54, w92_55, w92_56, w92_59, w92_60, nb1]
      refine hQ2 (by rw [sFo, h1, decide_eq_false hc]; rfl) _ (xV_new hV f1 h2 (fun a p q r => ?_) (mRw_f b1.2.2.1) ok ⟨m, hm, by rw [e50]; exact e5⟩)
      rw [mU_f q]
  · have h2 : isD η i = false := by simpa using h1
    simp only [sB_f h2, ↓reduceIte, w92_31, w92_32, nb0]
    exact hQ1 (by rw [sFo, h2, Bool.false_and])
def sTop (b : Bool) : Int32 := if b then 20 else 0
def sUp (b : Bool) : Int32 := if b then 1 else -1
def sCh (η : mHs) (ρ : mRo5) (p : Int32) (b : Bool) : Bool := isP η p && !(decide (ρ p.toNatClampNeg = sTop b))
theorem sUp_ok {b : Bool} {n : Nat} (hn : n ≤ 20) (h : ¬ nI n = sTop b) : ∃ k, k ≤ 20 ∧ nI n + sUp b = nI k := by
  cases b with
  | true =>
    refine ⟨n + 1, ?_, nI_1 n⟩
    have : n ≠ 20 := fun z => h (by rw [z]; rfl)
    omega
  | false =>
    cases n with
    | zero => exact absurd rfl h
    | succ n => exact ⟨n, by omega, pk_m1 n⟩
theorem c93 (hV : xV Z I o η ρ u H g K t τ L W pl) (p : Int32) (b : Bool) (hQ1 : sCh η ρ p b = false → Q (some (.int 0)) (mHh xL I J (mRf o o rr))) (hQ2 : sCh η ρ p b = true → ∀ I', xV Z I' o η (rU ρ p.toNatClampNeg (ρ p.toNatClampNeg + sUp b)) (min (u + 1) 40) (hP ρ H) g K t τ L W pl → Q (some (.int 1)) (mHh xL I' J (mRf o o rr))) : WP (d + 2) 93 0 [.ref 7, .int p, .int (sB01 b)] [] (mHh xL I J (mRf o o rr)) Q := by
  obtain ⟨hb, hh, -⟩ := id hV
  obtain ⟨hk, hx, hr, ho, m, hm, e5⟩ := hb
  have h5 := hk.1
  obtain ⟨-, -, k3, k4, -⟩ := st_k s163
  simp only [w93_0, w93_1, w93_2, c83 hx, ↓reduceIte, Option.toList_some, Option.toList_none, List.cons_append, List.nil_append, Int32.reduceAdd, Int32.reduceLT, Int32.reduceLE, Int32.reduceToNatClampNeg, w93_5]
  by_cases h1 : isP η p = true
  · obtain ⟨j, hj, rfl⟩ := (isP_iff hk).1 h1
    have a1 : mIn (nI j) 5 = true := mIn_nI (by omega) (by omega)
    have a2 : (nI j).toNatClampNeg = j := nI_clamp (by omega)
    rw [a2] at hQ2
    have e : WP (d + 2) 93 8 [.ref 7, .int (nI j), .int (sB01 b)] [] (mHh xL I J (mRf o o rr)) Q = WP (d + 2) 93 27 [.ref 7, .int (nI j), .int (sB01 b)] [.int (sTop b), .int (ρ j)] (mHh xL I J (mRf o o rr)) Q := by
      simp only [w93_8, w93_9, s163, w93_12, w93_15, w93_16, k3, k4, a1, a2, mRw_p hr (show j < 5 by omega), w93_17, w93_18]
      cases b with
      | true => simp only [sB_t, o01, ↓reduceIte, w93_21, w93_23, sTop]
      | false => simp only [sB_f, ↓reduceIte, w93_26, sTop, Bool.false_eq_true]
    simp only [sB_t h1, o01, ↓reduceIte]
    rw [e, w93_27]
    by_cases hc : ρ j = sTop b
    · rw [if_pos hc, w93_30, w93_31 (hx := nb0)]
      exact hQ1 (by rw [sCh, a2, decide_eq_true hc]; simp)
    · rw [if_neg hc]
      simp only [w93_32, w93_33, w93_36, w93_37, w93_40]
      refine c23 hh hr ?_
      intro I1 f1 h2
      have b1 := xB_keep f1 hV.1
      obtain ⟨n, hn, en⟩ := ho.1 j (by omega)
      rw [en] at hc
      obtain ⟨k, hk2, ek⟩ := sUp_ok hn hc
      have q7 : I1 (163 + 1) j = ρ j := mRw_p b1.2.2.1 (by omega)
      have e2 : WP (d + 2) 93 53 [.ref 7, .int (nI j), .int (sB01 b)] [.int (ρ j), .int (nI j), .ref (163 + 1)] (mHh xL I1 J (mRf o o rr)) Q = WP (d + 2) 93 62 [.ref 7, .int (nI j), .int (sB01 b)] [.int (sUp b), .int (ρ j), .int (nI j), .ref (163 + 1)] (mHh xL I1 J (mRf o o rr)) Q := by
        simp only [w93_53, w93_54]
        cases b with
        | true => simp only [sB_t, o01, ↓reduceIte, w93_57, w93_58, sUp]
        | false => simp only [sB_f, ↓reduceIte, w93_61, sUp, Bool.false_eq_true]
      simp only [↓reduceIte, Option.toList_some, Option.toList_none, List.cons_append, List.nil_append, Int32.reduceAdd, Int32.reduceLT, Int32.reduceLE, Int32.reduceToNatClampNeg, w93_43, w93_44, w93_47, s163, w93_50, w93_51, w93_52, k3, k4, a1, a2, q7]
      rw [e2]
      simp only [w93_62, w93_63, k3, k4, a1, a2, w93_64, w93_65, nb1]
      have ok : rOk η (rU ρ j (ρ j + sUp b)) := by rw [en, ek]; exact rU_B ho hj h5 hk2
      refine hQ2 (by rw [sCh, h1, a2, en, decide_eq_false hc]; rfl) _ (xV_new hV f1 h2 (fun a p q r => ?_) (mRw_u (by omega) b1.2.2.1) ok ⟨m, hm, by rw [rU_5 (by omega)]; exact e5⟩)
      rw [mU_f r]
  · have h2 : isP η p = false := by simpa using h1
    simp only [sB_f h2, ↓reduceIte, w93_30, w93_31, nb0]
    exact hQ1 (by rw [sCh, h2, Bool.false_and])
theorem c94 (hV : xV Z I o η ρ u H g K t τ L W pl) {m : Nat} (e5 : ρ 5 = nI m) (hm : m + 200 ≤ 2 ^ 29) (n : Int32) (hQ1 : sW n 0 200 = false → Q (some (.int (-1))) (mHh xL I J (mRf o o rr))) (hQ2 : n = 0 → Q (some (.int (ρ 5))) (mHh xL I J (mRf o o rr))) (hQ3 : ∀ k, 0 < k → k ≤ 200 → n = nI k → ∀ I', xV Z I' o η (sP η η.2.2.2.2.1 ρ k) (min (u + 1) 40) (hP ρ H) g K t τ L W pl → Q (some (.int (sP η η.2.2.2.2.1 ρ k 5))) (mHh xL I' J (mRf o o rr))) : WP (d + 5) 94 0 [.ref 7, .int n] [] (mHh xL I J (mRf o o rr)) Q := by
  obtain ⟨hb, hh, -⟩ := id hV
  obtain ⟨hk, hx, hr, ho, -⟩ := hb
  have hHo := hx.1
  have r5 : I 163 1 = ρ 5 := (mRw_5 hr).1
  simp only [w94_0, w94_1, w94_2, w94_5, c95, ↓reduceIte, Option.toList_some, Option.toList_none, List.cons_append, List.nil_append, Int32.reduceAdd, Int32.reduceLT, Int32.reduceLE, Int32.reduceToNatClampNeg, w94_8]
  by_cases h1 : sW n 0 200 = true
  · obtain ⟨k, -, hk2, rfl⟩ := (sW_iff (a := 0) (b := 200) rfl rfl).1 h1
    simp only [sB_t h1, o01, ↓reduceIte, w94_13, w94_14]
    by_cases h0 : k = 0
    · subst h0
      have g1 : nI 0 ≤ 0 := by decide
      simp only [g1, ↓reduceIte, w94_48, w94_49, s163, w94_52, r5, w94_55]
      exact hQ2 rfl
    · have g1 : ¬ nI k ≤ 0 := nI_nle (by omega) (by omega)
      simp only [g1, ↓reduceIte, w94_17, w94_18, w94_21, w94_22, w94_25]
      refine c23 hh hr ?_
      intro I1 f1 h2
      have b1 := xB_keep f1 hV.1
      have es : I1 o 15 = η.2.2.2.2.1 := b1.2.1.2.2.2.2.1
      simp only [↓reduceIte, Option.toList_some, Option.toList_none, List.cons_append, List.nil_append, Int32.reduceAdd, Int32.reduceLT, Int32.reduceLE, Int32.reduceToNatClampNeg, w94_28, w94_29, w94_32, w94_33, w94_36, w94_37, w94_38, hHo, w94_41, es, w94_44]
      refine c15 s163 hk b1.2.1 b1.2.2.1 ho _ e5 (by omega) ?_
      intro I2 f2 r2
      obtain ⟨ok, e50⟩ := sP_ok hk ho η.2.2.2.2.1 e5 k (by omega)
      simp only [↓reduceIte, Option.toList_some, Option.toList_none, List.cons_append, List.nil_append, Int32.reduceAdd, Int32.reduceLT, Int32.reduceLE, Int32.reduceToNatClampNeg, w94_47, w94_48, w94_49, s163, w94_52, (mRw_5 r2).1, w94_55]
      refine hQ3 k (by omega) hk2 rfl I2 (xV_new hV f1 h2 (fun a p q r => ?_) r2 ok ⟨m + k, by omega, e50⟩)
      exact f2 a (by omega) (by omega) (by omega) q (by omega)
  · have h2 : sW n 0 200 = false := by simpa using h1
    simp only [sB_f h2, ↓reduceIte, w94_11, w94_12]
    exact hQ1 h2
end STA
