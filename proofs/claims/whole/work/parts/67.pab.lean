/-! Pairs: the search, and what it finds. -/
def pPar (ρ : mRo5) : Nat → Nat → Nat → Int32
  | 0, _, _ => -2
  | f + 1, s, i => if i = lo s then fin2 (pOf ρ s) else match pOf ρ s with
    | some b => if i = b then nI (lo s) else pPar ρ f (rm (rm s (lo s)) b) i
    | none => pPar ρ f (rm s (lo s)) i
abbrev pBt := Nat × (Nat → Int32)
def pLp (g : Nat → pBt → pBt) : Nat → Nat → pBt → pBt
  | 0, _, B => B
  | k + 1, o, B => pLp g k (o + 1) (g o B)
def pRun (ρ : mRo5) (n : Nat) : Nat → Nat → Nat → Nat → (Nat → Int32) → pBt → pBt
  | 0, _, _, much, T, B => if much < B.1 then (much, T) else B
  | f + 1, p, al, much, T, B => if ¬ T p = -1 then pRun ρ n f (p + 1) al much T B else
      if 0 < al then pRun ρ n f (p + 1) (al - 1) much (wU T p (-2)) (pLp (fun o B => if T o = -1 then pRun ρ n f (p + 1) al (much + pO ρ p o) (wU (wU T p (nI o)) o (nI p)) B else B) (n - (p + 1)) (p + 1) B)
      else pLp (fun o B => if T o = -1 then pRun ρ n f (p + 1) al (much + pO ρ p o) (wU (wU T p (nI o)) o (nI p)) B else B) (n - (p + 1)) (p + 1) B
theorem pLp_add (g : Nat → pBt → pBt) : ∀ k1 k2 o B, pLp g (k1 + k2) o B = pLp g k2 (o + k1) (pLp g k1 o B) := by
  intro k1
  induction k1 with
  | zero => intro k2 o B; rw [Nat.zero_add]; rfl
  | succ k1 ih =>
    intro k2 o B
    rw [show k1 + 1 + k2 = (k1 + k2) + 1 by omega, pLp, ih, pLp, show o + 1 + k1 = o + (k1 + 1) by omega]
/-- a step that takes what is less -/
def pTk (v : Nat → Prop) [DecidablePred v] (c : Nat → Nat) (A : Nat → Nat → Int32) : Nat → pBt → pBt := fun o B => if v o then (if c o < B.1 then (c o, A o) else B) else B
theorem pTk_gt {v : Nat → Prop} [DecidablePred v] {c : Nat → Nat} {A : Nat → Nat → Int32} {m : Nat} : ∀ k o B, (∀ j, o ≤ j → j < o + k → v j → m < c j) → (m < B.1 → m < (pLp (pTk v c A) k o B).1) ∧ (B.1 ≤ m → pLp (pTk v c A) k o B = B) := by
  intro k
  induction k with
  | zero => intro o B _; exact ⟨fun h => h, fun _ => rfl⟩
  | succ k ih =>
    intro o B h
    have ih := ih (o + 1) (pTk v c A o B) (fun j h1 h2 h3 => h j (by omega) (by omega) h3)
    by_cases hv : v o
    · have hm := h o (Nat.le_refl _) (by omega) hv
      by_cases hc : c o < B.1
      · have e : pTk v c A o B = (c o, A o) := by rw [pTk, if_pos hv, if_pos hc]
        rw [pLp]
        rw [e] at ih ⊢
        exact ⟨fun _ => ih.1 hm, fun z => by omega⟩
      · have e : pTk v c A o B = B := by rw [pTk, if_pos hv, if_neg hc]
        rw [pLp]
        rw [e] at ih ⊢
        exact ih
    · have e : pTk v c A o B = B := by rw [pTk, if_neg hv]
      rw [pLp]
      rw [e] at ih ⊢
      exact ih
theorem pTk_ge {v : Nat → Prop} [DecidablePred v] {c : Nat → Nat} {A : Nat → Nat → Int32} {m : Nat} : ∀ k o B, (∀ j, o ≤ j → j < o + k → v j → m ≤ c j) → B.1 ≤ m → pLp (pTk v c A) k o B = B := by
  intro k
  induction k with
  | zero => intro o B _ _; rfl
  | succ k ih =>
    intro o B h hB
    have e : pTk v c A o B = B := by
      by_cases hv : v o
      · have hm := h o (Nat.le_refl _) (by omega) hv
        rw [pTk, if_pos hv, if_neg (by omega)]
      · rw [pTk, if_neg hv]
    rw [pLp, e]
    exact ih (o + 1) B (fun j h1 h2 h3 => h j (by omega) (by omega) h3) hB
theorem pTk_min {v : Nat → Prop} [DecidablePred v] {c : Nat → Nat} {A : Nat → Nat → Int32} {m s : Nat} (hs : v s) (hc : c s = m) : ∀ k o B, o ≤ s → s < o + k → (∀ j, o ≤ j → j < s → v j → m < c j) → (∀ j, s < j → j < o + k → v j → m ≤ c j) → pLp (pTk v c A) k o B = if m < B.1 then (m, A s) else B := by
  intro k o B h1 h2 h3 h4
  rw [show k = (s - o) + ((o + k - s - 1) + 1) by omega, pLp_add, show o + (s - o) = s by omega, pLp]
  obtain ⟨g1, g2⟩ := pTk_gt (v := v) (c := c) (A := A) (m := m) (s - o) o B (fun j q1 q2 q3 => h3 j q1 (by omega) q3)
  by_cases hm : m < B.1
  · have g3 := g1 hm
    have e : pTk v c A s (pLp (pTk v c A) (s - o) o B) = (m, A s) := by rw [pTk, if_pos hs, hc, if_pos g3]
    rw [e, if_pos hm]
    exact pTk_ge (m := m) _ _ _ (fun j q1 q2 q3 => h4 j (by omega) (by omega) q3) (Nat.le_refl _)
  · have g3 := g2 (by omega)
    have e : pTk v c A s (pLp (pTk v c A) (s - o) o B) = B := by rw [g3, pTk, if_pos hs, hc, if_neg hm]
    rw [e, if_neg hm]
    exact pTk_ge (m := m) _ _ _ (fun j q1 q2 q3 => h4 j (by omega) (by omega) q3) (by omega)
theorem f_zero : ∀ s, s < 32 → (∀ c, c < 5 → s.testBit c = false) → s = 0 := by decide +kernel
theorem f_low : ∀ s, s < 32 → ∀ p, p < 5 → s.testBit p = true → (∀ c, c < p → s.testBit c = false) → lo s = p := by decide +kernel
theorem f_pos : ∀ s, s < 32 → ∀ p, p < 5 → s.testBit p = true → 0 < s := by decide +kernel
/-- one more, or fewer, to go does not matter -/
theorem pPar_f {ρ : mRo5} (hρ : ∀ p, p < 5 → pX ρ p ≤ 20) : ∀ f g s i, s < 32 → bn s ≤ f → bn s ≤ g → i < 5 → s.testBit i = true → pPar ρ f s i = pPar ρ g s i := by
  intro f
  induction f with
  | zero =>
    intro g s i h32 hf hg hi hb
    have := f_pos s h32 i hi hb
    have := (f_bn s h32).2.1 this
    omega
  | succ f ih =>
    intro g s i h32 hf hg hi hb
    have hp := f_pos s h32 i hi hb
    obtain ⟨g, rfl⟩ : ∃ k, g = k + 1 := ⟨g - 1, by have := (f_bn s h32).2.1 hp; omega⟩
    obtain ⟨l1, l2, l3⟩ := f_lo s h32 hp
    obtain ⟨⟨r1, r2⟩, r3⟩ := f_rm s h32 _ l2
    obtain ⟨r5, r4⟩ := r2 l1
    obtain ⟨-, q2, -, -⟩ := pFacts hρ hp h32
    rw [pPar, pPar]
    by_cases e : i = lo s
    · rw [if_pos e, if_pos e]
    · rw [if_neg e, if_neg e]
      have hb2 : (rm s (lo s)).testBit i = true := by rw [r3 i hi, hb, decide_eq_false e]; rfl
      cases ho : pOf ρ s with
      | none => exact ih g _ i r1 (by omega) (by omega) hi hb2
      | some b =>
        obtain ⟨w1, w2, w3, w4, w5⟩ := q2 b ho
        obtain ⟨⟨t1, t2⟩, t3⟩ := f_rm _ r1 b w2
        obtain ⟨t5, t4⟩ := t2 w3
        dsimp only
        by_cases e2 : i = b
        · rw [if_pos e2, if_pos e2]
        · rw [if_neg e2, if_neg e2]
          exact ih g _ i t1 (by omega) (by omega) hi (by rw [t3 i hi, hb2, decide_eq_false e2]; rfl)
/-- whom each of a set is with; the others as they are -/
def pA (ρ : mRo5) (s : Nat) (T : Nat → Int32) : Nat → Int32 := fun q => if q < 5 ∧ s.testBit q = true then pPar ρ 5 s q else T q
theorem pR {ρ : mRo5} (hρ : ∀ p, p < 5 → pX ρ p ≤ 20) {n : Nat} (hn : n ≤ 5) : ∀ f p, p + f = n → ∀ (al much : Nat) (T : Nat → Int32) (B : pBt) (s : Nat), s < 32 → (∀ q, q < 5 → (s.testBit q = true ↔ (q < n ∧ T q = -1))) → (∀ q, q < p → s.testBit q = false) → al = bn s % 2 →
    pRun ρ n f p al much T B = if much + pM' ρ s < B.1 then (much + pM' ρ s, pA ρ s T) else B := by
  intro f
  induction f with
  | zero =>
    intro p hp al much T B s h32 hT hq hal
    have : s = 0 := f_zero s h32 (fun c hc => by
      by_cases h : c < p
      · exact hq c h
      · cases hb : s.testBit c with
        | false => rfl
        | true => have := ((hT c hc).1 hb).1; omega)
    subst this
    have e : pA ρ 0 T = T := by
      funext q
      rw [pA, if_neg (fun z => by have := z.2; simp at this)]
    have e2 : pM' ρ 0 = 0 := by
      have := (pV ρ hρ 0 0 (Nat.le_refl _) (by decide)).2
      have h0 : bn 0 = 0 := by decide
      rw [h0] at this; omega
    rw [pRun, e, e2, Nat.add_zero]
  | succ f ih =>
    intro p hp al much T B s h32 hT hq hal
    rw [pRun]
    by_cases hTp : T p = -1
    · have hbp : s.testBit p = true := (hT p (by omega)).2 ⟨by omega, hTp⟩
      have hpos := f_pos s h32 p (by omega) hbp
      have hlo := f_low s h32 p (by omega) hbp hq
      obtain ⟨⟨r1, r2⟩, r3⟩ := f_rm s h32 p (by omega)
      obtain ⟨r5, r4⟩ := r2 hbp
      obtain ⟨Q1, Q2, Q3, Q4⟩ := pFacts hρ hpos h32
      rw [hlo] at Q1 Q2 Q3 Q4
      rw [if_neg (fun z => z hTp)]
      have hrb : ∀ o, p < o → o < 5 → ((rm s p).testBit o = true ↔ (o < n ∧ T o = -1)) := by
        intro o h1 h2
        rw [r3 o h2, decide_eq_false (by omega : ¬ o = p), Bool.not_false, Bool.and_true]
        exact hT o h2
      have hg : (fun (o : Nat) (B : pBt) => if T o = -1 then pRun ρ n f (p + 1) al (much + pO ρ p o) (wU (wU T p (nI o)) o (nI p)) B else B) = fun o B => if T o = -1 then pRun ρ n f (p + 1) al (much + pO ρ p o) (wU (wU T p (nI o)) o (nI p)) B else B := rfl
      have step : ∀ o B, p < o → o < n → (if T o = -1 then pRun ρ n f (p + 1) al (much + pO ρ p o) (wU (wU T p (nI o)) o (nI p)) B else B) = pTk (fun o => T o = -1) (fun o => much + (pO ρ p o + pM' ρ (rm (rm s p) o))) (fun o => pA ρ (rm (rm s p) o) (wU (wU T p (nI o)) o (nI p))) o B := by
        intro o B h1 h2
        by_cases hTo : T o = -1
        · have hb : (rm s p).testBit o = true := (hrb o h1 (by omega)).2 ⟨h2, hTo⟩
          obtain ⟨⟨t1, t2⟩, t3⟩ := f_rm _ r1 o (by omega)
          obtain ⟨t5, t4⟩ := t2 hb
          rw [if_pos hTo, pTk, if_pos hTo]
          have := ih (p + 1) (by omega) al (much + pO ρ p o) (wU (wU T p (nI o)) o (nI p)) B (rm (rm s p) o) t1 ?_ ?_ (by omega)
          · rw [this, Nat.add_assoc]
          · intro q hq5
            rw [t3 q hq5, r3 q hq5]
            by_cases e1 : q = o
            · subst e1
              have n1 : ¬ nI p = -1 := by
                intro z
                have := nI_pos (n := p) (by omega)
                rw [z] at this
                exact this (by decide)
              rw [decide_eq_true rfl, wU, if_pos rfl]
              simp [n1]
            · by_cases e2 : q = p
              · subst e2
                have n1 : ¬ nI o = -1 := by
                  intro z
                  have := nI_pos (n := o) (by omega)
                  rw [z] at this
                  exact this (by decide)
                rw [wU, if_neg e1, wU, if_pos rfl]
                simp [n1]
              · rw [wU, if_neg e1, wU, if_neg e2, decide_eq_false e1, decide_eq_false e2]
                simp only [Bool.not_false, Bool.and_true]
                exact hT q hq5
          · intro q hqp
            rw [t3 q (by omega), r3 q (by omega)]
            by_cases e : q = p
            · subst e; simp
            · rw [hq q (by omega)]; rfl
        · rw [if_neg hTo, pTk, if_neg hTo]
      have hloop : ∀ k o B, p < o → o + k = n → pLp (fun o B => if T o = -1 then pRun ρ n f (p + 1) al (much + pO ρ p o) (wU (wU T p (nI o)) o (nI p)) B else B) k o B = pLp (pTk (fun o => T o = -1) (fun o => much + (pO ρ p o + pM' ρ (rm (rm s p) o))) (fun o => pA ρ (rm (rm s p) o) (wU (wU T p (nI o)) o (nI p)))) k o B := by
        intro k
        induction k with
        | zero => intro o B _ _; rfl
        | succ k ihk =>
          intro o B h1 h2
          rw [pLp, pLp, step o B h1 (by omega)]
          exact ihk (o + 1) _ (by omega) (by omega)
      rw [hloop _ _ _ (by omega) (by omega)]
      have par : ∀ q, q < 5 → s.testBit q = true → pPar ρ 5 s q = (if q = p then fin2 (pOf ρ s) else match pOf ρ s with | some b => if q = b then nI p else pPar ρ 4 (rm (rm s p) b) q | none => pPar ρ 4 (rm s p) q) := by
        intro q _ _
        rw [pPar, hlo]
      have b5 := (f_bn s h32).1
      cases ho : pOf ρ s with
      | some b =>
        obtain ⟨w1, w2, w3, w4, w5⟩ := Q2 b ho
        have hbn := (hrb b w1 w2).1 w3
        obtain ⟨⟨t1, t2⟩, t3⟩ := f_rm _ r1 b w2
        obtain ⟨t5, t4⟩ := t2 w3
        have main := pTk_min (v := fun o => T o = -1) (c := fun o => much + (pO ρ p o + pM' ρ (rm (rm s p) o))) (A := fun o => pA ρ (rm (rm s p) o) (wU (wU T p (nI o)) o (nI p))) (m := much + pM' ρ s) (s := b) hbn.2 (by show much + (pO ρ p b + pM' ρ (rm (rm s p) b)) = _; rw [← w4]) (n - (p + 1)) (p + 1) B (by omega) (by omega) (fun j q1 q2 q3 => by
            have := w5 j (by omega) q2 ((hrb j (by omega) (by omega)).2 ⟨by omega, q3⟩)
            show _ < much + _
            omega) (fun j q1 q2 q3 => by
            have := Q1 j (by omega) (by omega) ((hrb j (by omega) (by omega)).2 ⟨by omega, q3⟩)
            show _ ≤ much + _
            omega)
        have eA : pA ρ (rm (rm s p) b) (wU (wU T p (nI b)) b (nI p)) = pA ρ s T := by
          funext q
          by_cases h5 : q < 5
          · by_cases hb : s.testBit q = true
            · have eL : pA ρ s T q = pPar ρ 5 s q := by rw [pA, if_pos ⟨h5, hb⟩]
              rw [eL, par q h5 hb, ho, pA, t3 q h5, r3 q h5, hb]
              by_cases e1 : q = p
              · subst e1
                have e2 : ¬ q = b := by omega
                rw [if_pos rfl, if_neg (by simp), wU, if_neg e2, wU, if_pos rfl]; rfl
              · by_cases e2 : q = b
                · subst e2
                  rw [if_neg e1, if_neg (by simp), wU, if_pos rfl]
                  dsimp only
                  rw [if_pos rfl]
                · have hb3 : (rm (rm s p) b).testBit q = true := by rw [t3 q h5, r3 q h5, hb, decide_eq_false e1, decide_eq_false e2]; rfl
                  rw [if_neg e1, if_pos ⟨h5, by rw [decide_eq_false e1, decide_eq_false e2]; rfl⟩]
                  dsimp only
                  rw [if_neg e2]
                  exact pPar_f hρ _ _ _ _ t1 (by omega) (by omega) h5 hb3
            · have eL : pA ρ s T q = T q := by rw [pA, if_neg (fun z => hb z.2)]
              have e1 : ¬ q = p := fun z => hb (by rw [z]; exact hbp)
              have hb2 : s.testBit q = false := by simpa using hb
              have e2 : ¬ q = b := by
                intro z
                rw [z] at hb2
                have := r3 b w2
                rw [w3, hb2] at this
                simp at this
              rw [eL, pA, if_neg (by rw [t3 q h5, r3 q h5, hb2]; simp), wU, if_neg e2, wU, if_neg e1]
          · rw [pA, pA, if_neg (fun z => h5 z.1), if_neg (fun z => h5 z.1), wU, if_neg (by omega), wU, if_neg (by omega)]
        rw [eA] at main
        rw [main]
        by_cases ha : 0 < al
        · rw [if_pos ha]
          have hodd : bn s % 2 = 1 := by omega
          have h4 := Q4 hodd
          rw [ih (p + 1) (by omega) (al - 1) much (wU T p (-2)) _ (rm s p) r1 ?_ ?_ (by omega)]
          · by_cases hm : much + pM' ρ s < B.1
            · rw [if_pos hm, if_neg (by show ¬ much + pM' ρ (rm s p) < much + pM' ρ s; omega)]
            · rw [if_neg hm, if_neg (by omega)]
          · intro q hq5
            rw [r3 q hq5]
            by_cases e : q = p
            · subst e
              have n1 : ¬ ((-2 : Int32) = -1) := by decide
              rw [wU, if_pos rfl]; simp [n1]
            · rw [wU, if_neg e, decide_eq_false e, Bool.not_false, Bool.and_true]
              exact hT q hq5
          · intro q hqp
            rw [r3 q (by omega)]
            by_cases e : q = p
            · subst e; simp
            · rw [hq q (by omega)]; rfl
        · rw [if_neg ha]
      | none =>
        obtain ⟨hodd, w4, w5⟩ := Q3 ho
        have ha : 0 < al := by omega
        obtain ⟨g1, g2⟩ := pTk_gt (v := fun o => T o = -1) (c := fun o => much + (pO ρ p o + pM' ρ (rm (rm s p) o))) (A := fun o => pA ρ (rm (rm s p) o) (wU (wU T p (nI o)) o (nI p))) (m := much + pM' ρ s) (n - (p + 1)) (p + 1) B (fun j q1 q2 q3 => by
            have := w5 j (by omega) (by omega) ((hrb j (by omega) (by omega)).2 ⟨by omega, q3⟩)
            show _ < much + _
            omega)
        rw [if_pos ha]
        have eA : pA ρ (rm s p) (wU T p (-2)) = pA ρ s T := by
          funext q
          by_cases h5 : q < 5
          · by_cases hb : s.testBit q = true
            · have eL : pA ρ s T q = pPar ρ 5 s q := by rw [pA, if_pos ⟨h5, hb⟩]
              rw [eL, par q h5 hb, ho, pA, r3 q h5, hb]
              by_cases e1 : q = p
              · subst e1
                rw [if_pos rfl, if_neg (by simp), wU, if_pos rfl]; rfl
              · have hb3 : (rm s p).testBit q = true := by rw [r3 q h5, hb, decide_eq_false e1]; rfl
                rw [if_neg e1, if_pos ⟨h5, by rw [decide_eq_false e1]; rfl⟩]
                exact pPar_f hρ _ _ _ _ r1 (by omega) (by omega) h5 hb3
            · have eL : pA ρ s T q = T q := by rw [pA, if_neg (fun z => hb z.2)]
              have e1 : ¬ q = p := fun z => hb (by rw [z]; exact hbp)
              have hb2 : s.testBit q = false := by simpa using hb
              rw [eL, pA, if_neg (by rw [r3 q h5, hb2]; simp), wU, if_neg e1]
          · rw [pA, pA, if_neg (fun z => h5 z.1), if_neg (fun z => h5 z.1), wU, if_neg (by omega)]
        rw [ih (p + 1) (by omega) (al - 1) much (wU T p (-2)) _ (rm s p) r1 ?_ ?_ (by omega), eA, ← w4]
        · by_cases hm : much + pM' ρ s < B.1
          · rw [if_pos hm, if_pos (g1 hm)]
          · rw [if_neg hm, g2 (by omega), if_neg hm]
        · intro q hq5
          rw [r3 q hq5]
          by_cases e : q = p
          · subst e
            have n1 : ¬ ((-2 : Int32) = -1) := by decide
            rw [wU, if_pos rfl]; simp [n1]
          · rw [wU, if_neg e, decide_eq_false e, Bool.not_false, Bool.and_true]
            exact hT q hq5
        · intro q hqp
          rw [r3 q (by omega)]
          by_cases e : q = p
          · subst e; simp
          · rw [hq q (by omega)]; rfl
    · rw [if_pos hTp]
      refine ih (p + 1) (by omega) al much T B s h32 hT ?_ hal
      intro q hqp
      by_cases e : q = p
      · subst e
        cases hb : s.testBit q with
        | false => rfl
        | true => exact absurd ((hT q (by omega)).1 hb).2 hTp
      · exact hq q (by omega)
