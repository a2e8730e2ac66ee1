/-! What the constructors leave. -/
def eL7 : eHp := eS56.2.2.2.2.2.2
def eI : Nat → Nat → Int32 := lkU eB eL7.2.1
def eJ : Nat → Nat → Int64 := lkU (fun _ _ => 0) eL7.2.2.1
def ρ0 : mRo5 := fun _ => 0
theorem eI_t : (eI 4 0 = 9 ∧ eI 4 1 = 10 ∧ eI 4 2 = 13 ∧ eI 4 3 = 32) ∧ (eI 5 0 = 59 ∧ eI 5 1 = 61 ∧ eI 5 2 = 43 ∧ eI 5 3 = 45 ∧ eI 5 4 = 42 ∧ eI 5 5 = 47 ∧ eI 5 6 = 60 ∧ eI 5 7 = 40 ∧ eI 5 8 = 41) := by decide +kernel
theorem eI_l : ∀ k, k < 5 → eI 219 k = nI (lv k) := by decide +kernel
theorem eJ_k : ∀ i, i < 20 → eJ 12 i = kw i ∧ eJ 187 i = kw i := by decide +kernel
theorem eI_m : ∀ k, k < 4 → eI (16 + 9 + 3 * k) 2 = mMk k ∧ eI (41 + 9 + 3 * k) 2 = mMk k := by decide +kernel
theorem eI_h : eI 41 12 = nI 0 ∧ eI 41 13 = nI 0 ∧ eI 41 14 = 0 ∧ eI 41 15 = 0 := by decide +kernel
theorem eI_w : (eI 50 3 = nI 1 ∧ eI 51 0 = 5 ∧ eI 52 0 = 0) ∧ (eI 53 3 = nI 3 ∧ eI 54 0 = 5 ∧ eI 55 0 = 1 ∧ eI 54 1 = 5 ∧ eI 55 1 = 7 ∧ eI 54 2 = 43 ∧ eI 55 2 = 0) ∧ (eI 56 3 = nI 1 ∧ eI 57 0 = 5 ∧ eI 58 0 = 1) ∧ (eI 59 3 = nI 1 ∧ eI 60 0 = 4 ∧ eI 61 0 = 1) := by decide +kernel
theorem eI_r : (∀ k, k < 5 → eI 164 k = 0) ∧ eI 163 1 = 0 ∧ eI 163 2 = 0 ∧ eI 163 3 = 0 := by decide +kernel
theorem eI_x : eI 66 2 = nI 0 ∧ eI 66 1 = nI 0 ∧ eI 7 16 = nI 0 ∧ eI 62 3 = nI 0 ∧ eI 8 1 = nI 0 ∧ eI 7 17 = -1 := by decide +kernel
theorem eI_z : eI 180 18 = nI 0 ∧ eI 190 0 = nI 0 ∧ eI 193 0 = nI 0 ∧ eI 198 0 = 0 ∧ eI 199 0 = 0 ∧ eI 180 54 = nI 0 ∧ eI 180 62 = nI 0 ∧ eI 180 2 = nI 0 ∧ eI 180 17 = -1 := by decide +kernel
theorem eI_y : (∀ k, k < 4 → eI 200 k = eI 201 k) ∧ (∀ k, k < 8 → eI 212 k = 0) ∧ ∀ k, k < 3 → eI 226 k = 0 := by decide +kernel
theorem eL_l : eL7.1 = [(6, 0), (6, 1), (6, 2), (7, 109), (7, 4), (7, 9), (99, 0)] ++ mLyt := by decide +kernel
/-- the references -/
def eKs : List (Nat × Nat) := eL7.2.2.2.filterMap fun p => p.2.1.map fun j => (p.1, j)
def eKb (K : List (Nat × Nat)) (a k : Nat) : Bool := K.any fun p => Nat.beq p.1 a && Nat.beq p.2 k
theorem eKb_m {K : List (Nat × Nat)} {a k : Nat} (h : eKb K a k = true) : (a, k) ∈ K := by
  simp only [eKb, List.any_eq_true, Bool.and_eq_true] at h
  obtain ⟨p, h1, h2, h3⟩ := h
  obtain ⟨b, j⟩ := p
  have h2 : b = a := Nat.eq_of_beq_eq_true h2
  have h3 : j = k := Nat.eq_of_beq_eq_true h3
  subst h2 h3
  exact h1
theorem lkU_no {K : List (Nat × Nat)} {a k : Nat} (hk : eKb K a k = false) : ∀ l : List (Nat × Option Nat × Option Nat), (l.all fun p => match p.2.1 with | some j => eKb K p.1 j | none => p.2.2.isNone) = true → lkU (fun _ _ => none) l a k = none := by
  intro l
  induction l with
  | nil => intro _; rfl
  | cons p l ih =>
    intro h
    rw [List.all_cons, Bool.and_eq_true] at h
    obtain ⟨b, j, v⟩ := p
    rw [lkU]
    by_cases e : b = a ∧ (j = none ∨ j = some k)
    · rw [if_pos e]
      obtain ⟨rfl, e | e⟩ := e
      · subst e
        have h1 := h.1
        dsimp only at h1
        exact Option.isNone_iff_eq_none.1 h1
      · subst e
        have h1 := h.1
        dsimp only at h1
        rw [hk] at h1; cases h1
    · rw [if_neg e]; exact ih h.2
theorem eK_1 : (eL7.2.2.2.all fun p => match p.2.1 with | some j => eKb eKs p.1 j | none => p.2.2.isNone) = true := by decide +kernel
theorem eK_2 : (mRl.all fun e => eKb eKs e.1 e.2.1) = true := by decide +kernel
theorem eK_3 : eKb eKs 37 3 = true ∧ eKb eKs 7 15 = true ∧ eKb eKs 10 1 = true := by decide +kernel
theorem eK_4 : (eKs.all fun p => decide (lkU (fun _ _ => none) eL7.2.2.2 p.1 p.2 = mRf 41 41 16 p.1 p.2)) = true := by decide +kernel
theorem eK_f : lkU (fun _ _ => none) eL7.2.2.2 = mRf 41 41 16 := by
  funext a k
  cases h : eKb eKs a k with
  | true =>
    have := List.all_eq_true.1 eK_4 _ (eKb_m h)
    exact of_decide_eq_true this
  | false =>
    rw [lkU_no h _ eK_1]
    have n1 : ¬ (a = 37 ∧ k = 3) := fun z => by rw [z.1, z.2, eK_3.1] at h; cases h
    have n2 : ¬ (a = 7 ∧ k = 15) := fun z => by rw [z.1, z.2, eK_3.2.1] at h; cases h
    have n3 : ¬ (a = 10 ∧ k = 1) := fun z => by rw [z.1, z.2, eK_3.2.2] at h; cases h
    rw [mRf, if_neg n1, if_neg n2, if_neg n3, mRc]
    have hf : mRl.find? (fun e => e.1 == a && e.2.1 == k) = none := by
      rw [List.find?_eq_none]
      intro p hp hq
      have := List.all_eq_true.1 eK_2 _ hp
      simp only [Bool.and_eq_true, beq_iff_eq] at hq
      rw [hq.1, hq.2, h] at this
      cases this
    rw [hf]; rfl
theorem hOk_0 : hOk η0 := by
  refine ⟨by decide, by decide, fun p hp => absurd hp (Nat.not_lt_zero _), fun p hp => absurd hp (Nat.not_lt_zero _), ?_⟩
  intro k hk
  have : k = 0 ∨ k = 1 ∨ k = 2 ∨ k = 3 := by omega
  rcases this with rfl | rfl | rfl | rfl <;> (show mCw _ 0 = some 1) <;> decide
theorem rOk_0 : rOk η0 ρ0 := ⟨fun _ _ => ⟨0, by decide, rfl⟩, fun _ _ _ => rfl, ⟨0, by decide, rfl⟩, ⟨0, by decide, rfl⟩, ⟨0, by decide, rfl⟩, fun _ _ => rfl⟩
section INI
variable {xL : Nat} {xs : Nat → Int32} {I : Nat → Nat → Int32}
theorem ini_x (h : ∀ a, a ≠ 6 → I a = eI a) (H K : Nat → mRo5) (τ : mTo) (W : Nat → Int32) : xV I I 41 η0 ρ0 0 H 0 K 0 τ 0 W (-1) := by
  obtain ⟨x1, x2, x3, x4, x5, x6⟩ := eI_x
  refine ⟨⟨hOk_0, ⟨Or.inr rfl, ?_, ?_, ?_, ?_, fun p hp => absurd hp (Nat.not_lt_zero _), fun p hp => absurd hp (Nat.not_lt_zero _), fun k hk => ?_⟩, ?_, rOk_0, 0, by decide, rfl⟩, ⟨by decide, ?_, 0, by decide, ?_, fun i hi => absurd hi (Nat.not_lt_zero _)⟩, ⟨by decide, ?_, fun k _ hg => ?_⟩, ⟨by decide, ?_, fun i hi => absurd hi (Nat.not_lt_zero _)⟩, ⟨by decide, ?_, fun i hi => absurd hi (Nat.not_lt_zero _)⟩, ?_, fun _ _ => rfl⟩
  · rw [h 41 (by decide)]; exact eI_h.1
  · rw [h 41 (by decide)]; exact eI_h.2.1
  · rw [h 41 (by decide)]; exact eI_h.2.2.1
  · rw [h 41 (by decide)]; exact eI_h.2.2.2
  · obtain ⟨w0, w1, w2, w3⟩ := eI_w
    have e : k = 0 ∨ k = 1 ∨ k = 2 ∨ k = 3 := by omega
    rcases e with rfl | rfl | rfl | rfl
    · refine ⟨(show mCw _ 0 = some 1 by decide), by decide, ?_, ?_⟩
      · show I 50 3 = _; rw [h 50 (by decide)]; exact w0.1
      · show mXa (I 51) (I 52) _ 0; rw [h 51 (by decide), h 52 (by decide)]; exact ⟨w0.2.1, w0.2.2, trivial⟩
    · refine ⟨(show mCw _ 0 = some 1 by decide), by decide, ?_, ?_⟩
      · show I 53 3 = _; rw [h 53 (by decide)]; exact w1.1
      · show mXa (I 54) (I 55) _ 0; rw [h 54 (by decide), h 55 (by decide)]; exact ⟨w1.2.1, w1.2.2.1, w1.2.2.2.1, w1.2.2.2.2.1, w1.2.2.2.2.2.1, w1.2.2.2.2.2.2, trivial⟩
    · refine ⟨(show mCw _ 0 = some 1 by decide), by decide, ?_, ?_⟩
      · show I 56 3 = _; rw [h 56 (by decide)]; exact w2.1
      · show mXa (I 57) (I 58) _ 0; rw [h 57 (by decide), h 58 (by decide)]; exact ⟨w2.2.1, w2.2.2, trivial⟩
    · refine ⟨(show mCw _ 0 = some 1 by decide), by decide, ?_, ?_⟩
      · show I 59 3 = _; rw [h 59 (by decide)]; exact w3.1
      · show mXa (I 60) (I 61) _ 0; rw [h 60 (by decide), h 61 (by decide)]; exact ⟨w3.2.1, w3.2.2, trivial⟩
  · funext k
    rw [mRw, h 163 (by decide), h 164 (by decide)]
    by_cases c : k < 5
    · rw [if_pos c]; exact eI_r.1 k c
    · rw [if_neg c, eI_r.2.1, eI_r.2.2.1, eI_r.2.2.2]
      repeat' split
      all_goals rfl
  · rw [h 66 (by decide)]; exact x1
  · rw [h 66 (by decide)]; exact x2
  · rw [h 7 (by decide)]; exact x3
  · rw [Nat.zero_testBit] at hg; cases hg
  · rw [h 62 (by decide)]; exact x4
  · rw [h 8 (by decide)]; exact x5
  · rw [h 7 (by decide)]; exact x6
theorem ini_z (h : ∀ a, a ≠ 6 → I a = eI a) (H K : Nat → mRo5) (τ : mTo) (W : Nat → Int32) : zV I I 0 η0 ρ0 0 H 0 K 0 τ 0 W (-1) := by
  obtain ⟨z1, z2, z3, z4, z5, z6, z7, z8, z9⟩ := eI_z
  obtain ⟨y1, y2, y3⟩ := eI_y
  refine ⟨⟨hOk_0, ⟨by decide, ?_, ?_, ?_, ?_, ?_, fun p hp => absurd hp (Nat.not_lt_zero _), fun p hp => absurd hp (Nat.not_lt_zero _), fun k hk => ?_⟩, ?_, rOk_0, 0, by decide, rfl⟩, ⟨by decide, ?_, fun i hi => absurd hi (Nat.not_lt_zero _)⟩, ⟨by decide, fun k hk => ⟨?_, fun hg => ?_⟩⟩, ⟨by decide, ?_, fun i hi => absurd hi (Nat.not_lt_zero _)⟩, ⟨by decide, ?_, fun i hi => absurd hi (Nat.not_lt_zero _)⟩, ?_, fun _ _ => rfl⟩
  · rw [h 180 (by decide)]; exact z1
  · rw [h 190 (by decide)]; exact z2
  · rw [h 193 (by decide)]; exact z3
  · rw [h 198 (by decide)]; exact z4
  · rw [h 199 (by decide)]; exact z5
  · show I 200 (4 * 0 + k) = I 201 (4 * 0 + k)
    rw [h 200 (by decide), h 201 (by decide), Nat.mul_zero, Nat.zero_add]; exact y1 k hk
  · exact mNw_of (fun k hk => by rw [h 212 (by decide)]; exact y2 k hk) (fun _ _ => rfl)
  · rw [h 180 (by decide)]; exact z6
  · rw [h 226 (by decide), y3 k hk, Nat.zero_testBit]; rfl
  · rw [Nat.zero_testBit] at hg; cases hg
  · rw [h 180 (by decide)]; exact z7
  · rw [h 180 (by decide)]; exact z8
  · rw [h 180 (by decide)]; exact z9
theorem ini_l (h : ∀ a, a ≠ 6 → I a = eI a) (h6 : ∀ j, j < xL → I 6 j = xs j) : lIx xL xs 0 I eJ 41 16 := by
  refine ⟨Or.inr ⟨rfl, rfl⟩, ⟨⟨?_, ?_, fun k hk => ?_⟩, eJ_k, fun k hk => ?_, fun k hk => ?_, h6⟩, 0, η0, ρ0, 0, fun _ => ρ0, 0, fun _ => ρ0, 0, fun _ => (0, 0, false), 0, fun _ => 0, -1, ini_x h _ _ _ _, ini_z h _ _ _ _, fun i hi => absurd hi (Nat.not_lt_zero _), ⟨0, Nat.zero_le _, rfl⟩, fun i hi => absurd hi (Nat.not_lt_zero _), fun k _ hg => ?_⟩
  · rw [h 4 (by decide)]; exact eI_t.1
  · rw [h 5 (by decide)]; exact eI_t.2
  · rw [h 219 (by decide)]; exact eI_l k hk
  · rw [h _ (by omega)]; exact (eI_m k hk).1
  · rw [h _ (by omega)]; exact (eI_m k hk).2
  · rw [Nat.zero_testBit] at hg; cases hg
end INI
