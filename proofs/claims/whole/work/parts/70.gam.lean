/-! A game: what it is worth, and that only what is done need be forbidden. -/
def gD (ρ : mRo5) (t j : Nat) : mRo5 := if j = 0 then rT ρ t else rF (rT ρ t) (2 ^ (j - 1))
def gC (η : mHs) (ρ : mRo5) (t j : Nat) : mRo5 := rU (sHr η (gD ρ t j) (sMrk η (rT ρ t))) 7 (ρ 7)
def gOk (η : mHs) (ρ : mRo5) (t j : Nat) : Bool := decide ((ρ 6).toNatClampNeg + t ≤ 9) && (decide (j = 0) || (decide (j - 1 < η.2.1) && !((ρ 7).toNatClampNeg.testBit (j - 1))))
def gAx (η : mHs) (V : mRo5 → Nat) (ρ : mRo5) (t : Nat) : Nat → Option Nat
  | 0 => none
  | k + 1 => if gOk η ρ t k then some (match gAx η V ρ t k with
    | none => V (gC η ρ t k)
    | some x => min x (V (gC η ρ t k))) else gAx η V ρ t k
def gV (η : mHs) : Nat → mRo5 → Nat
  | 0, ρ => (rS ρ).toNatClampNeg
  | n + 1, ρ => max ((gAx η (gV η n) ρ 0 7).getD 0) ((gAx η (gV η n) ρ 1 7).getD 0)
def gTr (η : mHs) (ρ : mRo5) (t j : Nat) : Bool := decide (j = 0) || (decide (j - 1 < η.2.1) && dn η (rT ρ t) (sMrk η (rT ρ t)) (j - 1))
def gG (η : mHs) (V : mRo5 → Nat) (ρ : mRo5) (t : Nat) : Nat → Nat
  | 0 => 101
  | k + 1 => if gTr η ρ t k then min (gG η V ρ t k) (V (gC η ρ t k)) else gG η V ρ t k
theorem rU_n {ρ : mRo5} {w q : Nat} {x : Int32} (h : q ≠ w) : rU ρ w x q = ρ q := if_neg h
theorem rU_s {ρ : mRo5} {w : Nat} {x : Int32} : rU ρ w x w = x := if_pos rfl
theorem rV_7 (ρ : mRo5) (x : Int32) : rV (rU ρ 7 x) = rV ρ := by
  have s : rS (rU ρ 7 x) = rS ρ := by
    rw [rS, rS, rU_n (by decide), rU_n (by decide), rU_n (by decide), rU_n (by decide), rU_n (by decide)]
  have m : rM (rU ρ 7 x) = rM ρ := by
    rw [rM, rM, rU_n (by decide), rU_n (by decide), rU_n (by decide), rU_n (by decide), rU_n (by decide)]
  have h : rH (rU ρ 7 x) = rH ρ := by rw [rH, rH, rU_n (by decide)]
  funext i
  rw [rV, rV, s, m, h, rU_n (by decide)]
theorem sMrk_7 (η : mHs) (ρ : mRo5) (x : Int32) : sMrk η (rU ρ 7 x) = sMrk η ρ := by
  have r : sRest η (rU ρ 7 x) = sRest η ρ := by rw [sRest, sRest, rV_7]
  have j : sJmp η (rU ρ 7 x) = sJmp η ρ := by rw [sJmp, sJmp, r, rV_7]
  rw [sMrk, sMrk, r, j, rU_n (by decide)]
theorem rU_c {ρ : mRo5} {w z : Nat} {x y : Int32} (h : w ≠ z) : rU (rU ρ z x) w y = rU (rU ρ w y) z x := by
  funext q
  by_cases h1 : q = w
  · subst h1; rw [rU_s, rU_n h, rU_s]
  · by_cases h2 : q = z
    · subst h2; rw [rU_n h1, rU_s, rU_s]
    · rw [rU_n h1, rU_n h2, rU_n h2, rU_n h1]
theorem sH1_7 {η : mHs} (hk : hOk η) (v : Int32) (ρ : mRo5) (x : Int32) : ∀ k, k ≤ η.2.1 → (∀ i, i < k → dn η (rU ρ 7 x) v i = dn η ρ v i) → sH1 η v (rU ρ 7 x) k = rU (sH1 η v ρ k) 7 x := by
  intro k
  induction k with
  | zero => intro _ _; rfl
  | succ k ih =>
    intro hk1 h
    have i1 := ih (by omega) (fun i hi => h i (by omega))
    have e := h k (by omega)
    obtain ⟨w, hw, ew⟩ := hk.2.2.2.1 k (by omega)
    have h5 := hk.1
    have ec : (hT η 2 k).toNatClampNeg = w := by rw [ew]; exact nI_clamp (by omega)
    rw [sH1, sH1, e, ec, i1]
    have es : sChg η (rU (sH1 η v ρ k) 7 x) k v = sChg η (sH1 η v ρ k) k v := by
      rw [sChg, sChg, ec, rU_n (show w ≠ 7 by omega), rV_7]
    split
    · rw [es, rU_c (show w ≠ 7 by omega)]
    · rfl
theorem sHr_7 {η : mHs} (hk : hOk η) (v : Int32) (ρ : mRo5) (x : Int32) (h : ∀ i, i < η.2.1 → dn η (rU ρ 7 x) v i = dn η ρ v i) : sHr η (rU ρ 7 x) v = rU (sHr η ρ v) 7 x := by
  have h5 := hk.1
  have e1 := sH1_7 hk v ρ x η.2.1 (Nat.le_refl _) h
  funext q
  by_cases h7 : q = 7
  · subst h7
    rw [rU_s, sHr, if_neg (by omega), if_neg (by omega), e1, rU_s]
  · rw [rU_n h7, sHr, sHr, e1, rU_n (by decide : (5 : Nat) ≠ 7)]
    by_cases hq : q < η.1
    · rw [if_pos hq, if_pos hq, sDft, sDft, rU_n h7, rV_7]
    · rw [if_neg hq, if_neg hq]
      by_cases hq5 : q = 5
      · rw [if_pos hq5, if_pos hq5]
      · rw [if_neg hq5, if_neg hq5, rU_n h7]
theorem rT_7 (ρ : mRo5) (t : Nat) : rT ρ t 7 = ρ 7 := rU_n (by decide)
/-- what is not done need not be forbidden -/
theorem gC_0 {η : mHs} {ρ : mRo5} (hk : hOk η) (ho : rOk η ρ) {t j : Nat} (hj : j < η.2.1) (hb : (ρ 7).toNatClampNeg.testBit j = false) (hd : ¬ dn η (rT ρ t) (sMrk η (rT ρ t)) j = true) : gC η ρ t (j + 1) = gC η ρ t 0 := by
  obtain ⟨f, hf, ef⟩ := ho.2.2.2.2.1
  have h6 := hk.2.1
  have h64 := pow6 h6
  have hp : 2 ^ j < 2 ^ η.2.1 := Nat.pow_lt_pow_right (by decide) hj
  have hf64 : f < 64 := by omega
  have hj64 : 2 ^ j < 64 := by omega
  have e1 : ρ 7 ||| nI (2 ^ j) = nI (f ||| 2 ^ j) := by rw [ef, bOr f hf64 _ hj64]
  have ho64 : f ||| 2 ^ j < 64 := by have := or_f hf hp; omega
  rw [ef, nI_clamp (by omega)] at hb
  have hs : sIn η (sMrk η (rT ρ t)) j = false := by
    rw [dn, rT_7, ef, bB1 f hf64 j (by omega), hb] at hd
    cases hx : sIn η (sMrk η (rT ρ t)) j with
    | false => rfl
    | true => rw [hx] at hd; exact absurd (by decide) hd
  have hD : gD ρ t (j + 1) = rU (rT ρ t) 7 (nI (f ||| 2 ^ j)) := by
    rw [gD, if_neg (by omega), rF, rT_7, show j + 1 - 1 = j by omega, e1]
  have h0 : gD ρ t 0 = rT ρ t := if_pos rfl
  have hdn : ∀ i, i < η.2.1 → dn η (rU (rT ρ t) 7 (nI (f ||| 2 ^ j))) (sMrk η (rT ρ t)) i = dn η (rT ρ t) (sMrk η (rT ρ t)) i := by
    intro i hi
    rw [dn, dn, rU_s, rT_7, ef, bB1 f hf64 i (by omega), bB1 _ ho64 i (by omega), Nat.testBit_or]
    by_cases e : i = j
    · subst e; rw [hs]; rfl
    · rw [Nat.testBit_two_pow_of_ne (fun z => e z.symm), Bool.or_false]
  rw [gC, gC, hD, h0, sHr_7 hk _ _ _ hdn]
  funext q
  by_cases h7 : q = 7
  · subst h7; rw [rU_s, rU_s]
  · rw [rU_n h7, rU_n h7, rU_n h7]
theorem gTr_ok {η : mHs} {ρ : mRo5} (hk : hOk η) (ho : rOk η ρ) {t j : Nat} (h9 : (ρ 6).toNatClampNeg + t ≤ 9) (h : gTr η ρ t j = true) : gOk η ρ t j = true := by
  obtain ⟨f, hf, ef⟩ := ho.2.2.2.2.1
  have h64 := pow6 hk.2.1
  have h6 := hk.2.1
  rw [gOk, decide_eq_true h9, Bool.true_and]
  by_cases hj : j = 0
  · rw [decide_eq_true hj, Bool.true_or]
  · rw [gTr, decide_eq_false hj, Bool.false_or, Bool.and_eq_true, decide_eq_true_eq, dn, Bool.and_eq_true, decide_eq_true_eq, rT_7, ef, bB1 f (by omega) _ (by omega)] at h
    rw [decide_eq_true h.1, ef, nI_clamp (by omega)]
    have := h.2.2
    cases hx : f.testBit (j - 1) with
    | false => simp
    | true => rw [hx] at this; exact absurd this (by decide)
theorem gAx_s {η : mHs} {V : mRo5 → Nat} {ρ : mRo5} {t : Nat} (h0 : gOk η ρ t 0 = true) : ∀ k, ∃ x, gAx η V ρ t (k + 1) = some x ∧ (∀ j, j < k + 1 → gOk η ρ t j = true → x ≤ V (gC η ρ t j)) ∧ ∃ j, j < k + 1 ∧ gOk η ρ t j = true ∧ x = V (gC η ρ t j) := by
  intro k
  induction k with
  | zero =>
    refine ⟨V (gC η ρ t 0), ?_, ?_, 0, by omega, h0, rfl⟩
    · rw [gAx, if_pos h0]; rfl
    · intro j hj _
      have : j = 0 := by omega
      subst this; exact Nat.le_refl _
  | succ k ih =>
    obtain ⟨x, e, h1, j0, h2, h3, h4⟩ := ih
    rw [gAx]
    by_cases hc : gOk η ρ t (k + 1) = true
    · rw [if_pos hc, e]
      refine ⟨min x (V (gC η ρ t (k + 1))), rfl, ?_, ?_⟩
      · intro j hj hj2
        by_cases e2 : j = k + 1
        · subst e2; exact Nat.min_le_right _ _
        · exact Nat.le_trans (Nat.min_le_left _ _) (h1 j (by omega) hj2)
      · by_cases hx : x ≤ V (gC η ρ t (k + 1))
        · exact ⟨j0, by omega, h3, by rw [Nat.min_eq_left hx]; exact h4⟩
        · exact ⟨k + 1, by omega, hc, by rw [Nat.min_eq_right (by omega)]⟩
    · rw [if_neg hc]
      refine ⟨x, e, ?_, j0, by omega, h3, h4⟩
      intro j hj hj2
      by_cases e2 : j = k + 1
      · subst e2; exact absurd hj2 hc
      · exact h1 j (by omega) hj2
theorem gG_s {η : mHs} {V : mRo5 → Nat} {ρ : mRo5} {t : Nat} (h101 : V (gC η ρ t 0) ≤ 101) : ∀ k, (∀ j, j < k + 1 → gTr η ρ t j = true → gG η V ρ t (k + 1) ≤ V (gC η ρ t j)) ∧ ∃ j, j < k + 1 ∧ gTr η ρ t j = true ∧ gG η V ρ t (k + 1) = V (gC η ρ t j) := by
  have h0 : gTr η ρ t 0 = true := rfl
  intro k
  induction k with
  | zero =>
    have e : gG η V ρ t (0 + 1) = V (gC η ρ t 0) := by
      rw [gG, if_pos h0, gG]; exact Nat.min_eq_right h101
    refine ⟨?_, 0, by omega, h0, e⟩
    intro j hj _
    have : j = 0 := by omega
    subst this; rw [e]; exact Nat.le_refl _
  | succ k ih =>
    obtain ⟨h1, j0, h2, h3, h4⟩ := ih
    rw [gG]
    by_cases hc : gTr η ρ t (k + 1) = true
    · rw [if_pos hc]
      refine ⟨?_, ?_⟩
      · intro j hj hj2
        by_cases e2 : j = k + 1
        · subst e2; exact Nat.min_le_right _ _
        · exact Nat.le_trans (Nat.min_le_left _ _) (h1 j (by omega) hj2)
      · by_cases hx : gG η V ρ t (k + 1) ≤ V (gC η ρ t (k + 1))
        · exact ⟨j0, by omega, h3, by rw [Nat.min_eq_left hx]; exact h4⟩
        · exact ⟨k + 1, by omega, hc, by rw [Nat.min_eq_right (by omega)]⟩
    · rw [if_neg hc]
      refine ⟨?_, j0, by omega, h3, h4⟩
      intro j hj hj2
      by_cases e2 : j = k + 1
      · subst e2; exact absurd hj2 hc
      · exact h1 j (by omega) hj2
theorem gG_x {η : mHs} {V : mRo5 → Nat} {ρ : mRo5} {t : Nat} (hk : hOk η) (ho : rOk η ρ) (h9 : (ρ 6).toNatClampNeg + t ≤ 9) (h101 : V (gC η ρ t 0) ≤ 101) : gAx η V ρ t 7 = some (gG η V ρ t 7) := by
  have h0 : gOk η ρ t 0 = true := by rw [gOk, decide_eq_true h9]; rfl
  obtain ⟨x, e, a1, j1, a2, a3, a4⟩ := gAx_s (V := V) h0 6
  obtain ⟨b1, j2, b2, b3, b4⟩ := gG_s (η := η) (V := V) (ρ := ρ) (t := t) h101 6
  have le1 : x ≤ gG η V ρ t 7 := by
    show x ≤ gG η V ρ t (6 + 1)
    rw [b4]; exact a1 j2 b2 (gTr_ok hk ho h9 b3)
  have le2 : gG η V ρ t 7 ≤ x := by
    rw [a4]
    by_cases hc : gTr η ρ t j1 = true
    · exact b1 j1 a2 hc
    · have hj : ¬ j1 = 0 := fun z => hc (by rw [z]; rfl)
      rw [gOk, decide_eq_true h9, Bool.true_and, decide_eq_false hj, Bool.false_or, Bool.and_eq_true, decide_eq_true_eq] at a3
      rw [gTr, decide_eq_false hj, Bool.false_or, decide_eq_true a3.1, Bool.true_and] at hc
      have := gC_0 (t := t) hk ho a3.1 (by have := a3.2; simpa using this) hc
      rw [show j1 - 1 + 1 = j1 by omega] at this
      rw [this]
      exact b1 0 (by omega) rfl
  have : x = gG η V ρ t 7 := by omega
  rw [show gAx η V ρ t 7 = gAx η V ρ t (6 + 1) from rfl, e, this]
theorem gC_ok {η : mHs} {ρ : mRo5} (hk : hOk η) (ho : rOk η ρ) {t j : Nat} (h : gOk η ρ t j = true) {m : Nat} (h5 : ρ 5 = nI m) (hm : m < 2 ^ 30) : rOk η (gC η ρ t j) ∧ gC η ρ t j 5 = nI (m + 1) ∧ rOk η (gD ρ t j) ∧ gD ρ t j 5 = nI m := by
  obtain ⟨t6, ht6, e6⟩ := ho.2.2.2.1
  rw [gOk, Bool.and_eq_true, decide_eq_true_eq] at h
  obtain ⟨h9, hj⟩ := h
  rw [e6, nI_clamp (by omega)] at h9
  obtain ⟨ok1, e1⟩ := rT_ok (k := t) ho e6 h9
  have okD : rOk η (gD ρ t j) ∧ gD ρ t j 5 = nI m := by
    rw [gD]
    by_cases h0 : j = 0
    · rw [if_pos h0]; exact ⟨ok1, by rw [e1]; exact h5⟩
    · rw [if_neg h0]
      rw [decide_eq_false h0, Bool.false_or, Bool.and_eq_true, decide_eq_true_eq] at hj
      obtain ⟨a, b⟩ := rF_ok hk ok1 (b := 2 ^ (j - 1)) (Nat.pow_lt_pow_right (by decide) hj.1)
      exact ⟨a, by rw [b, e1]; exact h5⟩
  have ok2 := sHr_ok hk okD.1 (sMrk η (rT ρ t)) ⟨m, hm, okD.2⟩
  have e5 := sHr_5 (sMrk η (rT ρ t)) hk okD.2
  obtain ⟨g1, g2, g3, g4, g5, g6⟩ := ok2
  refine ⟨⟨?_, ?_, ?_, ?_, ?_, ?_⟩, ?_, okD⟩
  · intro p hp; rw [gC, rU_n (by omega)]; exact g1 p hp
  · intro p hp hp5; rw [gC, rU_n (by omega)]; exact g2 p hp hp5
  · rw [gC, rU_n (by omega)]; exact g3
  · rw [gC, rU_n (by omega)]; exact g4
  · rw [gC, rU_s]; exact ho.2.2.2.2.1
  · intro k hk; rw [gC, rU_n (by omega)]; exact g6 k hk
  · rw [gC, rU_n (by omega)]; exact e5
theorem rS_le {η : mHs} {ρ : mRo5} (ho : rOk η ρ) : ∃ n, n ≤ 100 ∧ rS ρ = nI n := by
  obtain ⟨a, ha, ea⟩ := ho.1 0 (by omega)
  obtain ⟨b, hb, eb⟩ := ho.1 1 (by omega)
  obtain ⟨c, hc, ec⟩ := ho.1 2 (by omega)
  obtain ⟨e, he, ee⟩ := ho.1 3 (by omega)
  obtain ⟨f, hf, ef⟩ := ho.1 4 (by omega)
  exact ⟨a + b + c + e + f, by omega, by rw [rS, ea, eb, ec, ee, ef, nI_add, nI_add, nI_add, nI_add]⟩
theorem gOk_0 {η : mHs} {ρ : mRo5} (ho : rOk η ρ) : gOk η ρ 0 0 = true := by
  obtain ⟨t6, ht6, e6⟩ := ho.2.2.2.1
  rw [gOk, e6, nI_clamp (by omega), decide_eq_true (by omega)]; rfl
theorem gV_le {η : mHs} (hk : hOk η) : ∀ n (ρ : mRo5) (m : Nat), rOk η ρ → ρ 5 = nI m → m + n ≤ 2 ^ 30 → gV η n ρ ≤ 100 := by
  intro n
  induction n with
  | zero =>
    intro ρ m ho _ _
    obtain ⟨x, hx, e⟩ := rS_le ho
    rw [gV, e, nI_clamp (by omega)]; exact hx
  | succ n ih =>
    intro ρ m ho h5 hm
    have key : ∀ t k, (gAx η (gV η n) ρ t k).getD 0 ≤ 100 := by
      intro t k
      induction k with
      | zero => exact Nat.zero_le _
      | succ k ih2 =>
        rw [gAx]
        by_cases hc : gOk η ρ t k = true
        · obtain ⟨a, b, -, -⟩ := gC_ok hk ho hc h5 (by omega)
          have := ih _ _ a b (by omega)
          rw [if_pos hc]
          cases gAx η (gV η n) ρ t k with
          | none => exact this
          | some x => exact Nat.le_trans (Nat.min_le_right _ _) this
        · rw [if_neg hc]; exact ih2
    rw [gV]
    exact Nat.max_le.2 ⟨key 0 7, key 1 7⟩
/-- what a narrowed search tells of a value: below, above, or just it -/
def gR (f : Int) (c v r : Nat) : Prop := ((v : Int) ≤ f ∧ (r : Int) ≤ f) ∨ (c ≤ v ∧ c ≤ r) ∨ (f < v ∧ v < c ∧ r = v)
theorem gR_min {f : Int} {c m L v r : Nat} (h : gR f c m L) (hL : f < L) (hr : gR f (min c L) v r) (hfc : f < c) : gR f c (min m v) (min L r) := by
  unfold gR at *
  have e1 : min c L = if c ≤ L then c else L := by split <;> omega
  have e2 : min m v = if m ≤ v then m else v := by split <;> omega
  have e3 : min L r = if L ≤ r then L else r := by split <;> omega
  rw [e1] at hr
  rw [e2, e3]
  split at hr <;> split <;> split <;> omega
theorem gR_max {f : Int} {c v0 v1 r0 r1 : Nat} (h0 : gR f c v0 r0) (hr : r0 < c) (h1 : gR (if f < (r0 : Int) then (r0 : Int) else f) c v1 r1) (hfc : f < c) : gR f c (max v0 v1) (max r0 r1) := by
  unfold gR at *
  have e2 : max v0 v1 = if v0 ≤ v1 then v1 else v0 := by split <;> omega
  have e3 : max r0 r1 = if r0 ≤ r1 then r1 else r0 := by split <;> omega
  rw [e2, e3]
  split at h1 <;> split <;> split <;> omega
theorem gR_top {f : Int} {c v0 v1 r0 : Nat} (h0 : gR f c v0 r0) (hr : c ≤ r0) (hfc : f < c) : gR f c (max v0 v1) r0 := by
  unfold gR at *
  omega
