/-! Pairs: what both reckon, and that it is the same. -/
def pX (ρ : mRo5) (p : Nat) : Nat := (ρ p).toNatClampNeg
def pO (ρ : mRo5) (a b : Nat) : Nat := if pX ρ a < pX ρ b then pX ρ b - pX ρ a else pX ρ a - pX ρ b
def rm (s b : Nat) : Nat := if s.testBit b then s - 2 ^ b else s
def lo (s : Nat) : Nat := (fnd s.testBit 5 0).getD 0
theorem f_rm : ∀ s, s < 32 → ∀ b, b < 5 → (rm s b < 32 ∧ (s.testBit b = true → bn (rm s b) + 1 = bn s ∧ rm s b < s)) ∧ ∀ c, c < 5 → (rm s b).testBit c = (s.testBit c && !decide (c = b)) := by decide +kernel
theorem f_lo : ∀ s, s < 32 → 0 < s → s.testBit (lo s) = true ∧ lo s < 5 ∧ ∀ c, c < 5 → c < lo s → s.testBit c = false := by decide +kernel
theorem f_bn : ∀ s, s < 32 → bn s ≤ 5 ∧ (0 < s → 0 < bn s) ∧ (0 < bn s → 0 < s) := by decide +kernel
theorem f_and : ∀ s, s < 32 → ∀ b, b < 5 → nI s &&& ((1 <<< (nI b &&& 31)) ^^^ (-1)) = nI (rm s b) := by decide +kernel
theorem i_4 (a b c e : Int32) : a - b + (c - e) = a + c - (b + e) := by
  rw [Int32.sub_eq_add_neg, Int32.sub_eq_add_neg c e, Int32.sub_eq_add_neg, Int32.neg_add, Int32.sub_eq_add_neg, Int32.add_assoc, ← Int32.add_assoc (-b), Int32.add_comm (-b) c, Int32.add_assoc c, ← Int32.add_assoc a]
def pW (ρ : mRo5) (F : Nat → Int32) (r a b : Nat) : Int32 := nI (pO ρ a b) - 10000 + F (rm r b)
def pIn (ρ : mRo5) (F : Nat → Int32) (r a : Nat) : Nat → Int32
  | 0 => F r
  | j + 1 => if r.testBit (a + 1 + j) = true ∧ pW ρ F r a (a + 1 + j) < pIn ρ F r a j then pW ρ F r a (a + 1 + j) else pIn ρ F r a j
def pSt (ρ : mRo5) (F : Nat → Int32) (s : Nat) : Int32 := pIn ρ F (rm s (lo s)) (lo s) (4 - lo s)
def pTb (ρ : mRo5) : Nat → Nat → Int32
  | 0 => fun _ => 0
  | k + 1 => fun s => if s = k then (if k = 0 then 0 else pSt ρ (pTb ρ k) k) else pTb ρ k s
def pFn (ρ : mRo5) (s : Nat) : Int32 := pTb ρ (s + 1) s
theorem pTb_s {ρ : mRo5} {s : Nat} : ∀ k, s < k → pTb ρ k s = pFn ρ s := by
  intro k
  induction k with
  | zero => intro h; omega
  | succ k ih =>
    intro h
    by_cases e : s = k
    · subst e; rfl
    · show (if s = k then (if k = 0 then 0 else pSt ρ (pTb ρ k) k) else pTb ρ k s) = _
      rw [if_neg e]; exact ih (by omega)
theorem pIn_c {ρ : mRo5} {F G : Nat → Int32} {r a : Nat} (h0 : F r = G r) (h : ∀ b, b < 5 → r.testBit b = true → F (rm r b) = G (rm r b)) : ∀ j, a + j < 5 → pIn ρ F r a j = pIn ρ G r a j := by
  intro j
  induction j with
  | zero => intro _; exact h0
  | succ j ih =>
    intro hj
    have i := ih (by omega)
    by_cases hb : r.testBit (a + 1 + j) = true
    · have e := h _ (by omega) hb
      rw [pIn, pIn, i, pW, pW, e]
    · rw [pIn, pIn, if_neg (fun z => hb z.1), if_neg (fun z => hb z.1), i]
theorem pFn_0 {ρ : mRo5} : pFn ρ 0 = 0 := rfl
theorem pFn_s {ρ : mRo5} {s : Nat} (h : 0 < s) (h32 : s < 32) : pFn ρ s = pSt ρ (pFn ρ) s := by
  obtain ⟨l1, l2, l3⟩ := f_lo s h32 h
  obtain ⟨⟨r1, r2⟩, r3⟩ := f_rm s h32 _ l2
  obtain ⟨-, r4⟩ := r2 l1
  have e : pFn ρ s = pSt ρ (pTb ρ s) s := by
    show (if s = s then (if s = 0 then 0 else pSt ρ (pTb ρ s) s) else pTb ρ s s) = _
    rw [if_pos rfl, if_neg (by omega)]
  rw [e, pSt, pSt]
  refine pIn_c (pTb_s s r4) ?_ _ (by omega)
  intro b hb hbit
  obtain ⟨⟨-, q2⟩, -⟩ := f_rm _ r1 b hb
  exact pTb_s s (by have := (q2 hbit).2; omega)
theorem pIn_min (ρ : mRo5) (F : Nat → Int32) (r a : Nat) : ∀ j, pIn ρ F r a j ≤ F r ∧ (∀ i, i < j → r.testBit (a + 1 + i) = true → pIn ρ F r a j ≤ pW ρ F r a (a + 1 + i)) ∧ (pIn ρ F r a j = F r ∨ ∃ i, i < j ∧ r.testBit (a + 1 + i) = true ∧ pIn ρ F r a j = pW ρ F r a (a + 1 + i)) := by
  intro j
  induction j with
  | zero => exact ⟨Int32.le_refl _, fun i hi => absurd hi (by omega), Or.inl rfl⟩
  | succ j ih =>
    obtain ⟨i1, i2, i3⟩ := ih
    rw [pIn]
    by_cases hc : r.testBit (a + 1 + j) = true ∧ pW ρ F r a (a + 1 + j) < pIn ρ F r a j
    · rw [if_pos hc]
      have hl : pW ρ F r a (a + 1 + j) ≤ pIn ρ F r a j := by have := hc.2; rw [Int32.lt_iff_toInt_lt] at this; rw [Int32.le_iff_toInt_le]; omega
      refine ⟨Int32.le_trans hl i1, ?_, Or.inr ⟨j, by omega, hc.1, rfl⟩⟩
      intro i hi hb
      by_cases e : i = j
      · subst e; exact Int32.le_refl _
      · exact Int32.le_trans hl (i2 i (by omega) hb)
    · rw [if_neg hc]
      refine ⟨i1, ?_, ?_⟩
      · intro i hi hb
        by_cases e : i = j
        · subst e
          have : ¬ pW ρ F r a (a + 1 + i) < pIn ρ F r a i := fun z => hc ⟨hb, z⟩
          exact i_nlt this
        · exact i2 i (by omega) hb
      · rcases i3 with h | ⟨i, h1, h2, h3⟩
        · exact Or.inl h
        · exact Or.inr ⟨i, by omega, h2, h3⟩
def pM' (ρ : mRo5) (s : Nat) : Nat := ((pFn ρ s).toInt + 10000 * (bn s / 2 : Nat)).toNat
theorem pO_le {ρ : mRo5} (hρ : ∀ p, p < 5 → pX ρ p ≤ 20) {a b : Nat} (ha : a < 5) (hb : b < 5) : pO ρ a b ≤ 20 := by
  have h1 := hρ a ha
  have h2 := hρ b hb
  rw [pO]; split <;> omega
theorem pW_v {ρ : mRo5} {r a b m k : Nat} (e : pFn ρ (rm r b) = nI m - nI k) : pW ρ (pFn ρ) r a b = nI (pO ρ a b + m) - nI (10000 + k) := by
  have e1 : (10000 : Int32) = nI 10000 := rfl
  rw [pW, e, e1, i_4, nI_add, nI_add]
theorem pV (ρ : mRo5) (hρ : ∀ p, p < 5 → pX ρ p ≤ 20) : ∀ n s, s ≤ n → s < 32 → pFn ρ s = nI (pM' ρ s) - nI (10000 * (bn s / 2)) ∧ pM' ρ s ≤ 20 * (bn s / 2) := by
  have fin : ∀ s m, pFn ρ s = nI m - nI (10000 * (bn s / 2)) → m < 2 ^ 20 → bn s ≤ 5 → pM' ρ s = m := by
    intro s m e hm hb
    rw [pM', e, pk_sub_toInt (by omega) (by omega)]
    omega
  intro n
  induction n with
  | zero =>
    intro s hs _
    have : s = 0 := by omega
    subst this
    have e := fin 0 0 (by rw [pFn_0]; decide) (by decide) (by decide)
    rw [e, pFn_0]
    exact ⟨by decide, by decide⟩
  | succ n ih =>
    intro s hs h32
    by_cases h0 : s ≤ n
    · exact ih s h0 h32
    have hp : 0 < s := by omega
    obtain ⟨l1, l2, l3⟩ := f_lo s h32 hp
    obtain ⟨⟨r1, r2⟩, r3⟩ := f_rm s h32 _ l2
    obtain ⟨r5, r4⟩ := r2 l1
    obtain ⟨b1, b2, b3⟩ := f_bn s h32
    obtain ⟨ir1, ir2⟩ := ih (rm s (lo s)) (by omega) r1
    have hpair : ∀ b, b < 5 → (rm s (lo s)).testBit b = true → pW ρ (pFn ρ) (rm s (lo s)) (lo s) b = nI (pO ρ (lo s) b + pM' ρ (rm (rm s (lo s)) b)) - nI (10000 * (bn s / 2)) ∧ pO ρ (lo s) b + pM' ρ (rm (rm s (lo s)) b) ≤ 20 * (bn s / 2) := by
      intro b hb hbit
      obtain ⟨⟨q1, q2⟩, q3⟩ := f_rm _ r1 b hb
      obtain ⟨q5, q4⟩ := q2 hbit
      obtain ⟨iq1, iq2⟩ := ih (rm (rm s (lo s)) b) (by omega) q1
      have ol := pO_le hρ l2 hb
      refine ⟨?_, by omega⟩
      rw [pW_v iq1]
      congr 2; omega
    obtain ⟨m1, m2, m3⟩ := pIn_min ρ (pFn ρ) (rm s (lo s)) (lo s) (4 - lo s)
    have es : pFn ρ s = pIn ρ (pFn ρ) (rm s (lo s)) (lo s) (4 - lo s) := pFn_s hp h32
    rw [← es] at m1 m2 m3
    rcases m3 with h | ⟨i, h1, h2, h3⟩
    · by_cases hodd : bn s % 2 = 1
      · have e2 : 10000 * (bn (rm s (lo s)) / 2) = 10000 * (bn s / 2) := by omega
        rw [ir1, e2] at h
        have := fin s _ h (by omega) b1
        rw [this]
        exact ⟨h, by omega⟩
      · exfalso
        have hb := b2 hp
        obtain ⟨c1, c2, c3⟩ := f_bn _ r1
        obtain ⟨d1, d2, d3⟩ := f_lo _ r1 (c3 (by omega))
        have hgt : lo s < lo (rm s (lo s)) := by
          have := r3 _ d2
          rw [this, Bool.and_eq_true] at d1
          by_cases hx : lo (rm s (lo s)) < lo s
          · rw [l3 _ d2 hx] at d1; exact absurd d1.1 (by decide)
          · have hne : lo (rm s (lo s)) ≠ lo s := by
              intro z
              have := d1.2
              rw [z] at this
              simp at this
            omega
        obtain ⟨w1, w2⟩ := hpair _ d2 d1
        have hm := m2 (lo (rm s (lo s)) - (lo s + 1)) (by omega) (by rw [show lo s + 1 + (lo (rm s (lo s)) - (lo s + 1)) = lo (rm s (lo s)) by omega]; exact d1)
        rw [show lo s + 1 + (lo (rm s (lo s)) - (lo s + 1)) = lo (rm s (lo s)) by omega, w1, h, ir1, Int32.le_iff_toInt_le, pk_sub_toInt (by omega) (by omega), pk_sub_toInt (by omega) (by omega)] at hm
        omega
    · obtain ⟨w1, w2⟩ := hpair _ (by omega) h2
      rw [w1] at h3
      have := fin s _ h3 (by omega) b1
      rw [this]
      exact ⟨h3, w2⟩
def pOf (ρ : mRo5) (s : Nat) : Option Nat := fnd (fun b => (rm s (lo s)).testBit b && decide (pW ρ (pFn ρ) (rm s (lo s)) (lo s) b = pFn ρ s)) (4 - lo s) (lo s + 1)
theorem fnd_some {p : Nat → Bool} {x : Nat} : ∀ n k, fnd p n k = some x → k ≤ x ∧ x < k + n ∧ p x = true ∧ ∀ j, k ≤ j → j < x → p j = false := by
  intro n
  induction n with
  | zero => intro k h; cases h
  | succ n ih =>
    intro k h
    rw [fnd] at h
    by_cases hp : p k = true
    · rw [if_pos hp] at h
      injection h with h; subst h
      exact ⟨Nat.le_refl _, by omega, hp, fun j h1 h2 => absurd h1 (by omega)⟩
    · rw [if_neg hp] at h
      obtain ⟨h1, h2, h3, h4⟩ := ih (k + 1) h
      refine ⟨by omega, by omega, h3, ?_⟩
      intro j hj1 hj2
      by_cases e : j = k
      · subst e; simpa using hp
      · exact h4 j (by omega) hj2
theorem fnd_none {p : Nat → Bool} : ∀ n k, fnd p n k = none → ∀ j, k ≤ j → j < k + n → p j = false := by
  intro n
  induction n with
  | zero => intro k _ j h1 h2; omega
  | succ n ih =>
    intro k h j h1 h2
    rw [fnd] at h
    by_cases hp : p k = true
    · rw [if_pos hp] at h; cases h
    · rw [if_neg hp] at h
      by_cases e : j = k
      · subst e; simpa using hp
      · exact ih (k + 1) h j (by omega) (by omega)
/-- of a set: the least, and the first choice that makes it -/
theorem pFacts {ρ : mRo5} (hρ : ∀ p, p < 5 → pX ρ p ≤ 20) {s : Nat} (hp : 0 < s) (h32 : s < 32) :
    (∀ b, lo s < b → b < 5 → (rm s (lo s)).testBit b = true → pM' ρ s ≤ pO ρ (lo s) b + pM' ρ (rm (rm s (lo s)) b)) ∧
    (∀ b, pOf ρ s = some b → lo s < b ∧ b < 5 ∧ (rm s (lo s)).testBit b = true ∧ pM' ρ s = pO ρ (lo s) b + pM' ρ (rm (rm s (lo s)) b) ∧ ∀ c, lo s < c → c < b → (rm s (lo s)).testBit c = true → pM' ρ s < pO ρ (lo s) c + pM' ρ (rm (rm s (lo s)) c)) ∧
    (pOf ρ s = none → bn s % 2 = 1 ∧ pM' ρ s = pM' ρ (rm s (lo s)) ∧ ∀ c, lo s < c → c < 5 → (rm s (lo s)).testBit c = true → pM' ρ s < pO ρ (lo s) c + pM' ρ (rm (rm s (lo s)) c)) ∧
    (bn s % 2 = 1 → pM' ρ s ≤ pM' ρ (rm s (lo s))) := by
  obtain ⟨l1, l2, l3⟩ := f_lo s h32 hp
  obtain ⟨⟨r1, r2⟩, r3⟩ := f_rm s h32 _ l2
  obtain ⟨r5, r4⟩ := r2 l1
  obtain ⟨b1, b2, b3⟩ := f_bn s h32
  obtain ⟨v1, v2⟩ := pV ρ hρ s s (Nat.le_refl _) h32
  obtain ⟨ir1, ir2⟩ := pV ρ hρ 32 (rm s (lo s)) (by omega) r1
  have hpair : ∀ b, b < 5 → (rm s (lo s)).testBit b = true → pW ρ (pFn ρ) (rm s (lo s)) (lo s) b = nI (pO ρ (lo s) b + pM' ρ (rm (rm s (lo s)) b)) - nI (10000 * (bn s / 2)) ∧ pO ρ (lo s) b + pM' ρ (rm (rm s (lo s)) b) ≤ 20 * (bn s / 2) := by
    intro b hb hbit
    obtain ⟨⟨q1, q2⟩, q3⟩ := f_rm _ r1 b hb
    obtain ⟨q5, q4⟩ := q2 hbit
    obtain ⟨iq1, iq2⟩ := pV ρ hρ 32 (rm (rm s (lo s)) b) (by omega) q1
    have ol := pO_le hρ l2 hb
    refine ⟨?_, by omega⟩
    rw [pW_v iq1]
    congr 2; omega
  have cmp : ∀ x y : Nat, x ≤ 200 → y ≤ 200 → ((nI x - nI (10000 * (bn s / 2)) ≤ nI y - nI (10000 * (bn s / 2))) ↔ x ≤ y) := by
    intro x y hx hy
    rw [Int32.le_iff_toInt_le, pk_sub_toInt (by omega) (by omega), pk_sub_toInt (by omega) (by omega)]
    omega
  have ceq : ∀ x y : Nat, x ≤ 200 → y ≤ 200 → ((nI x - nI (10000 * (bn s / 2)) = nI y - nI (10000 * (bn s / 2))) ↔ x = y) := by
    intro x y hx hy
    rw [← Int32.toInt_inj, pk_sub_toInt (by omega) (by omega), pk_sub_toInt (by omega) (by omega)]
    omega
  obtain ⟨m1, m2, m3⟩ := pIn_min ρ (pFn ρ) (rm s (lo s)) (lo s) (4 - lo s)
  have es : pFn ρ s = pIn ρ (pFn ρ) (rm s (lo s)) (lo s) (4 - lo s) := pFn_s hp h32
  rw [← es] at m1 m2 m3
  have A : ∀ b, lo s < b → b < 5 → (rm s (lo s)).testBit b = true → pM' ρ s ≤ pO ρ (lo s) b + pM' ρ (rm (rm s (lo s)) b) := by
    intro b hb1 hb2 hbit
    have hm := m2 (b - (lo s + 1)) (by omega) (by rw [show lo s + 1 + (b - (lo s + 1)) = b by omega]; exact hbit)
    obtain ⟨w1, w2⟩ := hpair b hb2 hbit
    rw [show lo s + 1 + (b - (lo s + 1)) = b by omega, w1, v1] at hm
    exact (cmp _ _ (by omega) (by omega)).1 hm
  have N : ∀ c, lo s < c → c < 5 → (rm s (lo s)).testBit c = true → ((rm s (lo s)).testBit c && decide (pW ρ (pFn ρ) (rm s (lo s)) (lo s) c = pFn ρ s)) = false → pM' ρ s < pO ρ (lo s) c + pM' ρ (rm (rm s (lo s)) c) := by
    intro c hc1 hc2 hbit hne
    have hle := A c hc1 hc2 hbit
    obtain ⟨w1, w2⟩ := hpair c hc2 hbit
    rw [hbit, Bool.true_and, decide_eq_false_iff_not, w1, v1, ceq _ _ (by omega) (by omega)] at hne
    omega
  refine ⟨A, ?_, ?_, ?_⟩
  · intro b hb
    obtain ⟨h1, h2, h3, h4⟩ := fnd_some _ _ hb
    rw [Bool.and_eq_true, decide_eq_true_eq] at h3
    obtain ⟨w1, w2⟩ := hpair b (by omega) h3.1
    have e := h3.2
    rw [w1, v1, ceq _ _ (by omega) (by omega)] at e
    exact ⟨by omega, by omega, h3.1, e.symm, fun c hc1 hc2 hbit => N c hc1 (by omega) hbit (h4 c (by omega) hc2)⟩
  · intro hn
    have h4 := fnd_none _ _ hn
    have M : ∀ c, lo s < c → c < 5 → (rm s (lo s)).testBit c = true → pM' ρ s < pO ρ (lo s) c + pM' ρ (rm (rm s (lo s)) c) := fun c hc1 hc2 hbit => N c hc1 hc2 hbit (h4 c (by omega) (by omega))
    rcases m3 with h | ⟨i, h1, h2, h3⟩
    · by_cases hodd : bn s % 2 = 1
      · refine ⟨hodd, ?_, M⟩
        have e2 : 10000 * (bn (rm s (lo s)) / 2) = 10000 * (bn s / 2) := by omega
        rw [ir1, e2, v1, ceq _ _ (by omega) (by omega)] at h
        exact h
      · exfalso
        have e2 : bn s / 2 = bn (rm s (lo s)) / 2 + 1 := by have := b2 hp; omega
        rw [v1, ir1, ← Int32.toInt_inj, pk_sub_toInt (by omega) (by omega), pk_sub_toInt (by omega) (by omega)] at h
        omega
    · exfalso
      have h5 := h4 (lo s + 1 + i) (by omega) (by omega)
      rw [h2, ← h3] at h5
      simp at h5
  · intro hodd
    have e2 : 10000 * (bn (rm s (lo s)) / 2) = 10000 * (bn s / 2) := by omega
    rw [v1, ir1, e2] at m1
    exact (cmp _ _ (by omega) (by omega)).1 m1
