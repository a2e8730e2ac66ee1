/-! A game, as the glass plays it. -/
def fG (b : Nat) (I I' : Nat → Nat → Int32) : Prop := ∀ a, ¬ (38 ≤ a ∧ a ≤ 40) → ¬ (150 ≤ a ∧ a < b) → I' a = I a
theorem fG_t {b : Nat} {I I1 I2 : Nat → Nat → Int32} (h1 : fG b I I1) (h2 : fG b I1 I2) : fG b I I2 := fun a x y => by rw [h2 a x y, h1 a x y]
theorem fG_w {b c : Nat} {I I' : Nat → Nat → Int32} (h : fG b I I') (hbc : b ≤ c) : fG c I I' := fun a x y => h a x (by omega)
theorem fG_h {b o : Nat} {I I' : Nat → Nat → Int32} {η : mHs} (hf : fG b I I') (h : mXh I o η) : mXh I' o η := mXh_keep (fun a ha => hf a (by omega) (by omega)) h
theorem hs5 : ∀ n, n < 5 → mRc 149 n = some (150 + 2 * n) ∧ mSt (150 + 2 * n) := by
  have h : (List.range 5).all (fun n => decide (mRc 149 n = some (150 + 2 * n)) && decide ((150 + 2 * n) ∈ mStL)) = true := by decide +kernel
  intro n hn
  have := List.all_eq_true.mp h n (List.mem_range.2 hn)
  simp only [Bool.and_eq_true, decide_eq_true_eq] at this
  exact this
theorem rU_i (ρ : mRo5) (w : Nat) : rU ρ w (ρ w) = ρ := by
  funext q
  by_cases h : q = w
  · subst h; exact rU_s
  · exact rU_n h
theorem min_lo {x y : Nat} (hx : x < 2 ^ 31) (hy : y < 2 ^ 31) : (if nI x < nI y then nI x else nI y) = nI (min y x) := by
  by_cases h : x < y
  · rw [if_pos ((nI_ltI hx hy).2 h), Nat.min_eq_right (Nat.le_of_lt h)]
  · rw [if_neg (fun z => h ((nI_ltI hx hy).1 z)), Nat.min_eq_left (by omega)]
theorem max_lo {x y : Nat} (hx : x < 2 ^ 31) (hy : y < 2 ^ 31) : (if nI y < nI x then nI x else nI y) = nI (max y x) := by
  by_cases h : y < x
  · rw [if_pos ((nI_ltI hy hx).2 h), Nat.max_eq_right (Nat.le_of_lt h)]
  · rw [if_neg (fun z => h ((nI_ltI hy hx).1 z)), Nat.max_eq_left (by omega)]
theorem gAx_9 {η : mHs} {V : mRo5 → Nat} {ρ : mRo5} {t : Nat} (h : ¬ (ρ 6).toNatClampNeg + t ≤ 9) : ∀ k, gAx η V ρ t k = none := by
  intro k
  induction k with
  | zero => rfl
  | succ k ih => rw [gAx, if_neg (by rw [gOk, decide_eq_false h]; simp), ih]
section GAB
variable {xL : Nat} {J : Nat → Nat → Int64} {rc rx rr : Nat} {η : mHs}
def P21 (xL : Nat) (J : Nat → Nat → Int64) (rc rx rr : Nat) (η : mHs) (k : Nat) : Prop := ∀ (D : Nat) (ρ : mRo5) (m : Nat) (f : Int) (fl : Int32) (c : Nat) (I : Nat → Nat → Int32) (Q : Option Value → mHp → Prop), 2 * k + 5 ≤ D → mXh I rc η → mRw I (150 + 2 * k) = ρ → rOk η ρ → ρ 5 = nI m → m + k ≤ 2 ^ 30 → fl.toInt = f → -1 ≤ f → f < c → c ≤ 101 →
    (∀ r I', r ≤ 101 → gR f c (gV η k ρ) r → fG (150 + 2 * k) I I' → Q (some (.int (nI r))) (mHh xL I' J (mRf rc rx rr))) → WP D 21 0 [.ref 148, .ref 37, .int (nI k), .int fl, .int (nI c), mDum] [] (mHh xL I J (mRf rc rx rr)) Q
def P20 (xL : Nat) (J : Nat → Nat → Int64) (rc rx rr : Nat) (η : mHs) (k : Nat) : Prop := ∀ (D : Nat) (ρ : mRo5) (m t : Nat) (f : Int) (fl : Int32) (c : Nat) (I : Nat → Nat → Int32) (Q : Option Value → mHp → Prop), 2 * k + 6 ≤ D → mXh I rc η → mRw I (152 + 2 * k) = ρ → rOk η ρ → ρ 5 = nI m → m + k + 1 ≤ 2 ^ 30 → (ρ 6).toNatClampNeg + t ≤ 9 → fl.toInt = f → -1 ≤ f → f < c → c ≤ 101 →
    (∀ r I', r ≤ 101 → gR f c (gG η (gV η k) ρ t 7) r → fG (152 + 2 * k) I I' → Q (some (.int (nI r))) (mHh xL I' J (mRf rc rx rr))) → WP D 20 0 [.ref 148, .ref 37, .int (nI (k + 1)), .int (nI t), .int fl, .int (nI c), mDum, mDum, mDum, mDum, mDum, mDum] [] (mHh xL I J (mRf rc rx rr)) Q
theorem p21_0 : P21 xL J rc rx rr η 0 := by
  intro D ρ m f fl c I Q hD hh hr ho h5 hm hf hf1 hfc hc hQ
  obtain ⟨D, rfl⟩ : ∃ k, D = k + 1 := ⟨D - 1, by omega⟩
  obtain ⟨b1, b2⟩ := hs5 0 (by decide)
  obtain ⟨x, hx, ex⟩ := rS_le ho
  have g1 : nI 0 < 1 := by decide
  have a1 : mIn 0 5 = true := by decide
  have a2 : (0 : Int32).toNatClampNeg = 0 := rfl
  have ev : gV η 0 ρ = x := by rw [gV, ex, nI_clamp (by omega)]
  simp only [w21_0, w21_1, w21_2, g1, ↓reduceIte, w21_10, w21_11, w21_14, w21_15 (hb := b1), b2, w21_16, c57 b2, ↓reduceIte, Option.toList_some, Option.toList_none, List.cons_append, List.nil_append, Int32.reduceAdd, Int32.reduceLT, Int32.reduceLE, Int32.reduceToNatClampNeg, w21_19, mT5_r hr, ex]
  refine hQ x I (by omega) ?_ (fun _ _ _ => rfl)
  rw [ev]
  unfold gR
  omega
theorem p20_k (hk : hOk η) {k : Nat} (hk4 : k < 4) (h21 : P21 xL J rc rx rr η k) : P20 xL J rc rx rr η k := by
  intro D ρ m t f fl c I Q hD hh hr ho h5 hm h9 hf hf1 hfc hc hQ
  obtain ⟨D, rfl⟩ : ∃ j, D = j + 5 := ⟨D - 5, by omega⟩
  have hn6 := hk.2.1
  obtain ⟨b1, b2⟩ := hs5 (k + 1) (by omega)
  obtain ⟨n1, n2⟩ := hs5 k (by omega)
  have e150 : 150 + 2 * (k + 1) = 152 + 2 * k := by omega
  rw [e150] at b1 b2
  obtain ⟨t6, ht6, e6⟩ := ho.2.2.2.1
  have h9' := h9
  rw [e6, nI_clamp (by omega)] at h9'
  obtain ⟨okT, e5T⟩ := rT_ok (k := t) ho e6 h9'
  have g1 : ¬ nI (k + 1) < 1 := fun z => by have := (in_lt 1 (by decide) (by omega)).1 z; omega
  have g2 : nI (k + 1) ≤ 4 := (in_le 4 (by decide) (by omega)).2 (by omega)
  have a1 : mIn (nI (k + 1)) 5 = true := mIn_nI (by omega) (by omega)
  have a2 : (nI (k + 1)).toNatClampNeg = k + 1 := nI_clamp (by omega)
  have a3 : mIn (nI k) 5 = true := mIn_nI (by omega) (by omega)
  have a4 : (nI k).toNatClampNeg = k := nI_clamp (by omega)
  have hgV : ∀ j, gOk η ρ t j = true → gV η k (gC η ρ t j) ≤ 100 := by
    intro j hj
    obtain ⟨q1, q2, -, -⟩ := gC_ok hk ho hj h5 (by omega)
    exact gV_le hk k _ _ q1 q2 (by omega)
  have h00 : gOk η ρ t 0 = true := by rw [gOk, decide_eq_true h9]; rfl
  -- the next state made of the last, with the taps
  have mk : ∀ I' : Nat → Nat → Int32, fG (152 + 2 * k) I I' → mRw (mU (mCp (150 + 2 * k) (152 + 2 * k) I') (150 + 2 * k) 2 (ρ 6 + nI t)) (150 + 2 * k) = rT ρ t ∧ fG (152 + 2 * k) I (mU (mCp (150 + 2 * k) (152 + 2 * k) I') (150 + 2 * k) 2 (ρ 6 + nI t)) ∧ mCp (150 + 2 * k) (152 + 2 * k) I' (150 + 2 * k) 2 = ρ 6 ∧ mU (mCp (150 + 2 * k) (152 + 2 * k) I') (150 + 2 * k) 2 (ρ 6 + nI t) (150 + 2 * k) 3 = ρ 7 := by
    intro I' f1
    have r1 : mRw (mCp (150 + 2 * k) (152 + 2 * k) I') (150 + 2 * k) = ρ := by
      rw [mRw_cp n2 b2]
      exact mRw_keep (f1 _ (by omega) (by omega)) (f1 _ (by omega) (by omega)) hr
    refine ⟨mRw_t r1, ?_, (mRw_5 r1).2.1, ?_⟩
    · intro a x y
      rw [mU_f (by omega), mCp_o (by omega) (by omega)]; exact f1 a x y
    · rw [mU_k (by decide)]; exact (mRw_5 r1).2.2
  obtain ⟨q1, q2, q3, q4⟩ := mk I (fun _ _ _ => rfl)
  have ek : nI (k + 1) - 1 = nI k := nI_pred k
  have hbody : ∀ (j L : Nat) (I' : Nat → Nat → Int32) (x : Int32) (lo : Int32), j < 7 → L ≤ 101 → f < L → gOk η ρ t j = true → fG (152 + 2 * k) I I' → gR f c (gG η (gV η k) ρ t j) L → gTr η ρ t j = true →
      (WP (D + 5) 20 128 [.ref 148, .ref 37, .int (nI (k + 1)), .int (nI t), .int fl, .int (nI c), .ref (152 + 2 * k), .ref (150 + 2 * k), .int (sMrk η (rT ρ t)), .int (sDn η (rT ρ t) (sMrk η (rT ρ t))), .int (nI L), .int lo] [.int (ρ 7), .ref (150 + 2 * k)] (mHh xL (mU (mCp (150 + 2 * k) (152 + 2 * k) I') (150 + 2 * k) 2 (ρ 6 + nI t)) J (mRf rc rx rr)) Q = WP (D + 5) 20 142 [.ref 148, .ref 37, .int (nI (k + 1)), .int (nI t), .int fl, .int (nI c), .ref (152 + 2 * k), .ref (150 + 2 * k), .int (sMrk η (rT ρ t)), .int (sDn η (rT ρ t) (sMrk η (rT ρ t))), .int (nI L), .int lo] [.int x, .int (ρ 7), .ref (150 + 2 * k)] (mHh xL (mU (mCp (150 + 2 * k) (152 + 2 * k) I') (150 + 2 * k) 2 (ρ 6 + nI t)) J (mRf rc rx rr)) Q) →
      rU (rT ρ t) 7 (ρ 7 ||| x) = gD ρ t j →
      (∀ (L' : Nat) (I2 : Nat → Nat → Int32), L' ≤ 101 → fG (152 + 2 * k) I I2 → gR f c (gG η (gV η k) ρ t (j + 1)) L' → WP (D + 5) 20 73 [.ref 148, .ref 37, .int (nI (k + 1)), .int (nI t), .int fl, .int (nI c), .ref (152 + 2 * k), .ref (150 + 2 * k), .int (sMrk η (rT ρ t)), .int (sDn η (rT ρ t) (sMrk η (rT ρ t))), .int (nI L'), .int (lo + 1)] [] (mHh xL I2 J (mRf rc rx rr)) Q) →
      WP (D + 5) 20 104 [.ref 148, .ref 37, .int (nI (k + 1)), .int (nI t), .int fl, .int (nI c), .ref (152 + 2 * k), .ref (150 + 2 * k), .int (sMrk η (rT ρ t)), .int (sDn η (rT ρ t) (sMrk η (rT ρ t))), .int (nI L), .int lo] [] (mHh xL I' J (mRf rc rx rr)) Q := by
    intro j L I' x lo hj hL hfL hok f1 hR htr hx hD2 go
    obtain ⟨p1, p2, p3, p4⟩ := mk I' f1
    obtain ⟨ok1, ok2, ok3, ok4⟩ := gC_ok hk ho hok h5 (by omega)
    simp only [w20_104, w20_106, n2, b2, w20_108, c59 n2 b2, ↓reduceIte, Option.toList_some, Option.toList_none, List.cons_append, List.nil_append, Int32.reduceAdd, Int32.reduceLT, Int32.reduceLE, Int32.reduceToNatClampNeg, w20_111, w20_113, w20_114, p3, w20_117, w20_118, w20_119, w20_122, w20_124, w20_125, p4]
    rw [hx]
    have r3 : mRw (mU (mU (mCp (150 + 2 * k) (152 + 2 * k) I') (150 + 2 * k) 2 (ρ 6 + nI t)) (150 + 2 * k) 3 (ρ 7 ||| x)) (150 + 2 * k) = gD ρ t j := by rw [mRw_f p1, hD2]
    have f3 : fG (152 + 2 * k) I (mU (mU (mCp (150 + 2 * k) (152 + 2 * k) I') (150 + 2 * k) 2 (ρ 6 + nI t)) (150 + 2 * k) 3 (ρ 7 ||| x)) := fun a x y => by rw [mU_f (by omega)]; exact p2 a x y
    simp only [w20_142, n2, w20_143, w20_146, w20_147, w20_149, w20_151]
    refine c16 n2 hk (fG_h f3 hh) r3 ok3 _ ?_
    intro I4 f4 r4
    have F4 : fG (152 + 2 * k) I I4 := fun a x y => by rw [f4 a (by omega) (by omega) (by omega) (by omega) (by omega)]; exact f3 a x y
    have e47 : I4 (152 + 2 * k) 3 = ρ 7 := by rw [F4 _ (by omega) (by omega)]; exact (mRw_5 hr).2.2
    have r5 : mRw (mU I4 (150 + 2 * k) 3 (ρ 7)) (150 + 2 * k) = gC η ρ t j := mRw_f r4
    have F5 : fG (152 + 2 * k) I (mU I4 (150 + 2 * k) 3 (ρ 7)) := fun a x y => by rw [mU_f (by omega)]; exact F4 a x y
    have emin : (if nI L < nI c then nI L else nI c) = nI (min c L) := min_lo (by omega) (by omega)
    simp only [↓reduceIte, Option.toList_some, Option.toList_none, List.cons_append, List.nil_append, Int32.reduceAdd, Int32.reduceLT, Int32.reduceLE, Int32.reduceToNatClampNeg, w20_154, w20_155, w20_157, b2, w20_159, e47, n2, w20_162, w20_165, w20_167, w20_168, w20_169, w20_170, w20_171, ek, w20_172, w20_174, w20_176, w20_178, emin, w20_181]
    refine h21 (D + 4) (gC η ρ t j) (m + 1) f fl (min c L) _ _ (by omega) (fG_h F5 hh) r5 ok1 ok2 (by omega) hf hf1 (by omega) (by omega) ?_
    intro r I6 hr6 hR6 f6
    have emin2 : (if nI r < nI L then nI r else nI L) = nI (min L r) := min_lo (by omega) (by omega)
    simp only [↓reduceIte, Option.toList_some, Option.toList_none, List.cons_append, List.nil_append, Int32.reduceAdd, Int32.reduceLT, Int32.reduceLE, Int32.reduceToNatClampNeg, w20_184, emin2, w20_187, w20_189, w20_192]
    refine go (min L r) I6 (by omega) (fG_t F5 (fG_w f6 (by omega))) ?_
    rw [gG, if_pos htr]
    exact gR_min hR hfL hR6 hfc
  have L : ∀ j, j ≤ 7 → ∀ (L : Nat) (I' : Nat → Nat → Int32), L ≤ 101 → fG (152 + 2 * k) I I' → gR f c (gG η (gV η k) ρ t j) L → (j = 0 → f < L) → WP (D + 5) 20 73 [.ref 148, .ref 37, .int (nI (k + 1)), .int (nI t), .int fl, .int (nI c), .ref (152 + 2 * k), .ref (150 + 2 * k), .int (sMrk η (rT ρ t)), .int (sDn η (rT ρ t) (sMrk η (rT ρ t))), .int (nI L), .int (nI j - 1)] [] (mHh xL I' J (mRf rc rx rr)) Q := by
    have done : ∀ (L : Nat) (I' : Nat → Nat → Int32) (lo : Int32), L ≤ 101 → fG (152 + 2 * k) I I' → gR f c (gG η (gV η k) ρ t 7) L → WP (D + 5) 20 195 [.ref 148, .ref 37, .int (nI (k + 1)), .int (nI t), .int fl, .int (nI c), .ref (152 + 2 * k), .ref (150 + 2 * k), .int (sMrk η (rT ρ t)), .int (sDn η (rT ρ t) (sMrk η (rT ρ t))), .int (nI L), .int lo] [] (mHh xL I' J (mRf rc rx rr)) Q := by
      intro L I' lo hL f1 hR
      simp only [w20_195, w20_197]
      exact hQ L I' hL hR f1
    have mono : ∀ i j, gG η (gV η k) ρ t (j + i) ≤ gG η (gV η k) ρ t j := by
      intro i j
      induction i with
      | zero => exact Nat.le_refl _
      | succ i ih =>
        rw [← Nat.add_assoc, gG]
        split
        · exact Nat.le_trans (Nat.min_le_left _ _) ih
        · exact ih
    refine iter_dn ?_ ?_
    · intro j hj ih L I' hL f1 hR h0
      have gl : (nI L ≤ fl) ↔ (L : Int) ≤ f := by rw [Int32.le_iff_toInt_le, nI_toInt (by omega), hf]
      have elo : (nI j - 1) + 1 = nI (j + 1) - 1 := by rw [Int32.sub_add_cancel, nI_pred]
      have g6 : ¬ 6 ≤ nI j - 1 := by
        cases j with
        | zero => decide
        | succ j => rw [nI_pred, ni_le 6 (by decide) (by omega)]; omega
      rw [w20_73]
      simp only [w20_75, w20_77, g6, ↓reduceIte, w20_80, w20_82, w20_84, gl]
      by_cases hle : (L : Int) ≤ f
      · rw [if_pos hle]
        refine done L I' _ hL f1 ?_
        have hm2 := mono (7 - j) j
        rw [show j + (7 - j) = 7 by omega] at hm2
        unfold gR at hR ⊢
        left
        refine ⟨?_, hle⟩
        rcases hR with h | h | h
        · omega
        · omega
        · omega
      · rw [if_neg hle]
        have hfL : f < L := by omega
        simp only [w20_87, w20_89, w20_90]
        cases j with
        | zero =>
          have e1 : nI 0 - 1 = -1 := rfl
          simp only [e1, ↓reduceIte]
          refine hbody 0 L I' 0 (-1) (by omega) hL hfL h00 f1 hR rfl ?_ ?_ ?_
          · simp only [w20_128, w20_130, w20_131, ↓reduceIte, w20_134, w20_135]
          · rw [Int32.or_zero, show gD ρ t 0 = rT ρ t from if_pos rfl, ← rT_7 ρ t, rU_i]
          · intro L' I2 hL' f2 hR2
            have e3 : (-1 : Int32) + 1 = nI (0 + 1) - 1 := by decide
            rw [e3]
            exact ih L' I2 hL' f2 hR2 (fun z => by omega)
        | succ j =>
          rw [nI_pred] at *
          have n1' : ¬ nI j = -1 := by
            intro z
            have := nI_pos (n := j) (by omega)
            rw [z] at this
            exact this (by decide)
          simp only [n1', ↓reduceIte, w20_93, w20_95, w20_97, w20_98, w20_99, w20_100, w20_101]
          have eb : ((sDn η (rT ρ t) (sMrk η (rT ρ t)) >>> (nI j &&& 31)) &&& 1 = 1) ↔ gTr η ρ t (j + 1) = true := by
            have e0 : gTr η ρ t (j + 1) = (decide (j < η.2.1) && dn η (rT ρ t) (sMrk η (rT ρ t)) j) := by
              rw [gTr, decide_eq_false (by omega), Bool.false_or, show j + 1 - 1 = j by omega]
            rw [e0]
            by_cases hjd : j < η.2.1
            · rw [decide_eq_true hjd, Bool.true_and]; exact dn_bit hk okT _ hjd
            · rw [decide_eq_false hjd, Bool.false_and]
              have h64 := pow6 hn6
              have hl := dN_lt η (rT ρ t) (sMrk η (rT ρ t)) η.2.1
              have hp : 2 ^ η.2.1 ≤ 2 ^ j := Nat.pow_le_pow_right (by decide) (by omega)
              rw [dN_eq hk okT, bB1 _ (by omega) j (by omega), Nat.testBit_lt_two_pow (by omega)]
              decide
          simp only [eb]
          by_cases htr : gTr η ρ t (j + 1) = true
          · rw [if_pos htr]
            have hok := gTr_ok hk ho h9 htr
            have hjd : j < η.2.1 := by
              rw [gTr, decide_eq_false (by omega), Bool.false_or, Bool.and_eq_true, decide_eq_true_eq] at htr
              have := htr.1; omega
            refine hbody (j + 1) L I' (1 <<< (nI j &&& 31)) (nI j) (by omega) hL hfL hok f1 hR htr ?_ ?_ ?_
            · simp only [w20_128, w20_130, w20_131, n1', ↓reduceIte, w20_138, w20_139, w20_141]
            · rw [bSh j (by omega), gD, if_neg (by omega), rF, rT_7, show j + 1 - 1 = j by omega]
            · intro L' I2 hL' f2 hR2
              rw [elo, nI_pred]
              exact ih L' I2 hL' f2 hR2 (fun z => by omega)
          · rw [if_neg htr]
            simp only [w20_189, w20_192, elo, nI_pred]
            refine ih L I' hL f1 ?_ (fun z => by omega)
            rw [gG, if_neg htr]; exact hR
    · intro L I' hL f1 hR h0
      have g6 : 6 ≤ nI 7 - 1 := by decide
      rw [w20_73]
      simp only [w20_75, w20_77, g6, ↓reduceIte]
      exact done L I' _ hL f1 hR
  simp only [w20_0, w20_1, w20_2, g1, ↓reduceIte, w20_5, w20_6, w20_7, g2, w20_12, w20_13, w20_16, w20_17 (hi := a1) (hb := (by rw [a2]; exact b1)), w20_18, w20_20, w20_21, w20_24, w20_25, w20_26, ek, w20_27 (hi := a3) (hb := (by rw [a4]; exact n1)), w20_28, w20_30, w20_32, n2, w20_34, c59 n2 b2, ↓reduceIte, Option.toList_some, Option.toList_none, List.cons_append, List.nil_append, Int32.reduceAdd, Int32.reduceLT, Int32.reduceLE, Int32.reduceToNatClampNeg, w20_37, w20_39, w20_40, q3, w20_43, w20_44, w20_45, w20_48, w20_49, w20_51]
  refine c4 n2 hk (fG_h q2 hh) q1 okT ?_
  intro I2 f2 _
  have F2 : fG (152 + 2 * k) I I2 := fun a x y => by rw [f2 a (by omega) (by omega) (by omega)]; exact q2 a x y
  simp only [↓reduceIte, Option.toList_some, Option.toList_none, List.cons_append, List.nil_append, Int32.reduceAdd, Int32.reduceLT, Int32.reduceLE, Int32.reduceToNatClampNeg, w20_54, w20_56, w20_57, w20_59, w20_61, c10 n2 hk (fG_h F2 hh) (fX_r n2 f2 q1), w20_64, w20_66, w20_68, w20_70, w20_71]
  refine L 0 (by omega) 101 I2 (by omega) F2 ?_ (fun _ => by omega)
  unfold gR
  right; left
  exact ⟨hc, hc⟩
theorem p21_s (hk : hOk η) {k : Nat} (hk4 : k < 4) (h20 : P20 xL J rc rx rr η k) : P21 xL J rc rx rr η (k + 1) := by
  intro D ρ m f fl c I Q hD hh hr ho h5 hm hf hf1 hfc hc hQ
  obtain ⟨D, rfl⟩ : ∃ j, D = j + 1 := ⟨D - 1, by omega⟩
  obtain ⟨b1, b2⟩ := hs5 (k + 1) (by omega)
  have e150 : 150 + 2 * (k + 1) = 152 + 2 * k := by omega
  rw [e150] at b1 b2 hr hQ
  obtain ⟨t6, ht6, e6⟩ := ho.2.2.2.1
  have ec6 : (ρ 6).toNatClampNeg = t6 := by rw [e6]; exact nI_clamp (by omega)
  have g1 : ¬ nI (k + 1) < 1 := fun z => by have := (in_lt 1 (by decide) (by omega)).1 z; omega
  have g2 : nI (k + 1) ≤ 4 := (in_le 4 (by decide) (by omega)).2 (by omega)
  have a1 : mIn (nI (k + 1)) 5 = true := mIn_nI (by omega) (by omega)
  have a2 : (nI (k + 1)).toNatClampNeg = k + 1 := nI_clamp (by omega)
  have val : ∀ t, t6 + t ≤ 9 → (gAx η (gV η k) ρ t 7).getD 0 = gG η (gV η k) ρ t 7 := by
    intro t ht
    have h00 : gOk η ρ t 0 = true := by rw [gOk, ec6, decide_eq_true ht]; rfl
    obtain ⟨q1, q2, -, -⟩ := gC_ok hk ho h00 h5 (by omega)
    have := gV_le hk k _ _ q1 q2 (by omega)
    rw [gG_x hk ho (by rw [ec6]; exact ht) (by omega)]; rfl
  have z0 : (0 : Int32) = nI 0 := rfl
  have z1 : (1 : Int32) = nI 1 := rfl
  simp only [w21_0, w21_1, w21_2, g1, ↓reduceIte, w21_5, w21_6, w21_7, g2, w21_20, w21_21, w21_22, w21_23, w21_24, w21_25, w21_27]
  rw [z0]
  refine h20 D ρ m 0 f fl c I _ (by omega) hh hr ho h5 (by omega) (by rw [ec6]; omega) hf hf1 hfc hc ?_
  intro r0 I1 hr0 hR0 f1
  have e16 : I1 (152 + 2 * k) 2 = nI t6 := by rw [f1 _ (by omega) (by omega), ← e6]; exact (mRw_5 hr).2.1
  have glc : (nI c ≤ nI r0) ↔ c ≤ r0 := nI_leI (by omega) (by omega)
  simp only [↓reduceIte, Option.toList_some, Option.toList_none, List.cons_append, List.nil_append, Int32.reduceAdd, Int32.reduceLT, Int32.reduceLE, Int32.reduceToNatClampNeg, w21_30, w21_32, w21_34, w21_36, glc]
  by_cases hcr : c ≤ r0
  · rw [if_pos hcr]
    simp only [w21_75, w21_77]
    refine hQ r0 I1 hr0 ?_ f1
    rw [gV, val 0 (by omega)]
    exact gR_top hR0 hcr hfc
  · rw [if_neg hcr]
    simp only [w21_39, w21_40, w21_43, w21_44 (hi := a1) (hb := (by rw [a2]; exact b1)), b2, w21_45, e16, w21_48, w21_50]
    by_cases h9 : t6 = 9
    · have g3 : 9 ≤ nI t6 := by rw [h9]; decide
      simp only [g3, ↓reduceIte, w21_75, w21_77]
      refine hQ r0 I1 hr0 ?_ f1
      rw [gV, val 0 (by omega), gAx_9 (by rw [ec6]; omega)]
      show gR f c (max (gG η (gV η k) ρ 0 7) 0) r0
      rw [Nat.max_eq_left (Nat.zero_le _)]
      exact hR0
    · have g3 : ¬ 9 ≤ nI t6 := by rw [ni_le 9 (by decide) (by omega)]; omega
      have flr : ∃ fl' : Int32, (if fl < nI r0 then nI r0 else fl) = fl' ∧ fl'.toInt = (if f < (r0 : Int) then (r0 : Int) else f) := by
        refine ⟨_, rfl, ?_⟩
        have e : (fl < nI r0) ↔ f < (r0 : Int) := by rw [Int32.lt_iff_toInt_lt, hf, nI_toInt (by omega)]
        by_cases hfr : f < (r0 : Int)
        · rw [if_pos (e.2 hfr), if_pos hfr]; exact nI_toInt (by omega)
        · rw [if_neg (fun z => hfr (e.1 z)), if_neg hfr]; exact hf
      obtain ⟨fl', el, ef⟩ := flr
      simp only [g3, ↓reduceIte, w21_53, w21_55, w21_56, w21_57, w21_58, w21_59, w21_60, w21_62, el, w21_65, w21_67]
      rw [z1]
      refine h20 D ρ m 1 _ fl' c I1 _ (by omega) (fG_h f1 hh) (mRw_keep (f1 _ (by omega) (by omega)) (f1 _ (by omega) (by omega)) hr) ho h5 (by omega) (by rw [ec6]; omega) ef (by split <;> omega) (by split <;> omega) hc ?_
      intro r1 I2 hr1 hR1 f2
      have em : (if nI r0 < nI r1 then nI r1 else nI r0) = nI (max r0 r1) := max_lo (by omega) (by omega)
      simp only [↓reduceIte, Option.toList_some, Option.toList_none, List.cons_append, List.nil_append, Int32.reduceAdd, Int32.reduceLT, Int32.reduceLE, Int32.reduceToNatClampNeg, w21_70, em, w21_73, w21_75, w21_77]
      refine hQ (max r0 r1) I2 (by omega) ?_ (fG_t f1 f2)
      rw [gV, val 0 (by omega), val 1 (by omega)]
      exact gR_max hR0 (by omega) hR1 hfc
theorem p20_a (hk : hOk η) : ∀ k, k < 4 → P20 xL J rc rx rr η k := by
  intro k
  induction k with
  | zero => intro _; exact p20_k hk (by decide) p21_0
  | succ k ih => intro h; exact p20_k hk h (p21_s hk (by omega) (ih (by omega)))
end GAB
