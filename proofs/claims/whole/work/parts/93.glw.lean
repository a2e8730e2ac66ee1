/-! The grammar of a law, behind its sign '='. -/
def bd {A B C : Type} (x : A ⊕ B) (k : B → A ⊕ C) : A ⊕ C := match x with
  | .inl a => .inl a
  | .inr b => k b
theorem bd_r {A B C : Type} {x : A ⊕ B} {k : B → A ⊕ C} {c : C} (h : bd x k = .inr c) : ∃ b, x = .inr b ∧ k b = .inr c := by
  cases x with
  | inl a => cases h
  | inr b => exact ⟨b, rfl, h⟩
/-- to take a token of a sort -/
def pTt (W : Nat → Int32) (L κ t : Nat) : (Nat × Nat) ⊕ Nat := if kk W L t = κ then nx t else .inl (1, t)
abbrev pLr := (Nat × Nat) ⊕ (Nat × List mIf × mCod)
def pLe (W : Nat → Int32) (L t : Nat) : pLr := bd (pE W L 2000 3 0 t) fun p => bd (pTt W L 4 p.1) fun t2 => .inr (t2, [], p.2)
/-- an if: its three sums, and where it ends -/
def pIf (W : Nat → Int32) (L t : Nat) : (Nat × Nat) ⊕ (Nat × mIf) := bd (nx t) fun t1 => bd (pE W L 2000 3 0 t1) fun p => bd (pTt W L 13 p.1) fun t3 => bd (pE W L 2000 3 0 t3) fun q => bd (pTt W L 29 q.1) fun t5 => bd (pE W L 2000 3 0 t5) fun r => bd (pTt W L 30 r.1) fun t7 => .inr (t7, p.2, q.2, r.2)
/-- n: how many ifs may still come -/
def pL (W : Nat → Int32) (L : Nat) : Nat → Nat → pLr
  | 0, t => if kk W L t = 28 then .inl (2, t) else pLe W L t
  | n + 1, t => if kk W L t = 28 then bd (pIf W L t) fun p => bd (pL W L n p.1) fun r => .inr (r.1, p.2 :: r.2.1, r.2.2) else pLe W L t
theorem pTt_r {W : Nat → Int32} {L κ t t1 : Nat} (h : kLv W L t) (k03 : κ ≠ 0 ∧ κ ≠ 3) (e : pTt W L κ t = .inr t1) : kk W L t = κ ∧ t1 = t + 1 ∧ kLv W L t1 := by
  rw [pTt] at e
  by_cases c : kk W L t = κ
  · rw [if_pos c] at e
    have := nx_r h (by rw [c]; exact k03) e
    exact ⟨c, this.1, this.2⟩
  · rw [if_neg c] at e; cases e
theorem pE3_ok {W : Nat → Int32} {L t : Nat} {p : Nat × mCod} (h : kLv W L t) (e : pE W L 2000 3 0 t = .inr p) : kLv W L p.1 ∧ t + p.2.length ≤ p.1 ∧ t < p.1 ∧ mCw p.2 0 = some 1 ∧ mCw p.2 1 = some 2 := by
  obtain ⟨t', c⟩ := p
  obtain ⟨h1, h2, h3, h4⟩ := pE_ok W L 2000 3 0 t t' c h (by decide) (by decide) e
  exact ⟨h1, h2, h3 (by decide), (h4 0).2.2.1 rfl (by decide), (h4 1).2.2.1 rfl (by decide)⟩
theorem pLe_ok {W : Nat → Int32} {L t : Nat} {r : Nat × List mIf × mCod} (h : kLv W L t) (e : pLe W L t = .inr r) : kLv W L r.1 ∧ r.2.1 = [] ∧ t + r.2.2.length < r.1 ∧ mCw r.2.2 0 = some 1 := by
  obtain ⟨p, e1, e⟩ := bd_r e
  obtain ⟨t2, e2, e⟩ := bd_r e
  cases e
  obtain ⟨a1, a2, a3, a4, -⟩ := pE3_ok h e1
  obtain ⟨-, b2, b3⟩ := pTt_r a1 (by decide) e2
  exact ⟨b3, rfl, by show t + p.2.length < t2; omega, a4⟩
theorem pIf_ok {W : Nat → Int32} {L t : Nat} {p : Nat × mIf} (h : kLv W L t) (k : kk W L t = 28) (e : pIf W L t = .inr p) : kLv W L p.1 ∧ t + p.2.1.length + p.2.2.1.length + p.2.2.2.length + 4 ≤ p.1 ∧ mCw p.2.1 0 = some 1 ∧ mCw p.2.2.1 0 = some 1 ∧ mCw p.2.2.1 1 = some 2 ∧ mCw p.2.2.2 0 = some 1 := by
  obtain ⟨t1, e1, e⟩ := bd_r e
  obtain ⟨p1, e2, e⟩ := bd_r e
  obtain ⟨t3, e3, e⟩ := bd_r e
  obtain ⟨p3, e4, e⟩ := bd_r e
  obtain ⟨t5, e5, e⟩ := bd_r e
  obtain ⟨p5, e6, e⟩ := bd_r e
  obtain ⟨t7, e7, e⟩ := bd_r e
  cases e
  obtain ⟨a1, a2⟩ := nx_r h (by rw [k]; decide) e1
  obtain ⟨b1, b2, b3, b4, b5⟩ := pE3_ok a2 e2
  obtain ⟨-, c2, c3⟩ := pTt_r b1 (by decide) e3
  obtain ⟨d1, d2, d3, d4, d5⟩ := pE3_ok c3 e4
  obtain ⟨-, f2, f3⟩ := pTt_r d1 (by decide) e5
  obtain ⟨g1, g2, g3, g4, g5⟩ := pE3_ok f3 e6
  obtain ⟨-, h2, h3⟩ := pTt_r g1 (by decide) e7
  exact ⟨h3, by show t + p1.2.length + p3.2.length + p5.2.length + 4 ≤ t7; omega, b4, d4, d5, g4⟩
theorem pL_ok {W : Nat → Int32} {L : Nat} (ms : Nat → Bool) : ∀ n t (r : Nat × List mIf × mCod), kLv W L t → pL W L n t = .inr r → kLv W L r.1 ∧ r.2.1.length ≤ n ∧ mLo r.2.1 r.2.2 ∧ ∀ q, t + (mXl ms r.2.1 r.2.2 q).length < r.1 := by
  have last : ∀ n t (r : Nat × List mIf × mCod), kLv W L t → pLe W L t = .inr r → kLv W L r.1 ∧ r.2.1.length ≤ n ∧ mLo r.2.1 r.2.2 ∧ ∀ q, t + (mXl ms r.2.1 r.2.2 q).length < r.1 := by
    intro n t r h e
    obtain ⟨t', is, c⟩ := r
    obtain ⟨a1, a2, a3, a4⟩ := pLe_ok h e
    change is = [] at a2
    subst a2
    refine ⟨a1, Nat.zero_le _, a4, fun q => ?_⟩
    show t + (c.map (mXs ms)).length < t'
    rw [List.length_map]; exact a3
  intro n
  induction n with
  | zero =>
    intro t r h e
    rw [pL] at e
    by_cases k : kk W L t = 28
    · rw [if_pos k] at e; cases e
    · rw [if_neg k] at e; exact last 0 t r h e
  | succ n ih =>
    intro t r h e
    rw [pL] at e
    by_cases k : kk W L t = 28
    · rw [if_pos k] at e
      obtain ⟨p, e1, e⟩ := bd_r e
      obtain ⟨r1, e2, e⟩ := bd_r e
      cases e
      obtain ⟨a1, a2, a3, a4, a5, a6⟩ := pIf_ok h k e1
      obtain ⟨b1, b2, b3, b4⟩ := ih p.1 r1 a1 e2
      obtain ⟨tp', x, y, z⟩ := p
      refine ⟨b1, by show (_ :: r1.2.1).length ≤ n + 1; rw [List.length_cons]; omega, ⟨a3, a4, a5, a6, b3⟩, fun q => ?_⟩
      have := b4 (q + x.length + y.length + z.length + 2)
      show t + (x.map (mXs ms) ++ (y.map (mXs ms) ++ ((6, nI (q + x.length + y.length + 1 + z.length)) :: (z.map (mXs ms) ++ ((7, 0) :: mXl ms r1.2.1 r1.2.2 (q + x.length + y.length + z.length + 2)))))).length < r1.1
      rw [List.length_append, List.length_append, List.length_cons, List.length_append, List.length_cons, List.length_map, List.length_map, List.length_map]
      change tp' + _ < r1.1 at this
      change t + x.length + y.length + z.length + 4 ≤ tp' at a2
      omega
    · rw [if_neg k] at e; exact last (n + 1) t r h e
section GLW
variable {d : Nat} {xL : Nat} {I : Nat → Nat → Int32} {J : Nat → Nat → Int64} {rc rx rr : Nat} {Q : Option Value → mHp → Prop} {L : Nat} {W : Nat → Int32} {t f i l : Nat} {ms : Nat → Bool} {M : Int32}
theorem c52f (e3 : ¬ I 10 3 = 0) {x : Int32} : WP (d + 2) 52 0 [.ref 10, .ref l, .int x, mDum, mDum] [] (mHh xL I J (mRf rc rx rr)) Q = Q none (mHh xL I J (mRf rc rx rr)) := by
  have g4 : ¬ (400 : Int32) ≤ 0 := by decide
  simp only [w52_0, w52_1, w52_2, w52_3, c53f (d := d) e3, ↓reduceIte, Option.toList_some, Option.toList_none, List.cons_append, List.nil_append, Int32.reduceAdd, Int32.reduceLT, Int32.reduceLE, Int32.reduceToNatClampNeg, w52_6, w52_7, w52_8, w52_9, w52_12, g4, w52_15, w52_16, w52_19, e3, w52_71]
theorem c52 (hl : mLa l) (hM : ∀ v, v < 9 → ((M >>> (nI v &&& 31)) &&& 1 = 1 ↔ ms v = true)) (h : gRD I J W L t 0 0) (h2 : I l 2 = M) {s : Nat} (hs : I l 3 = nI s) (hst : s < t) (hP : gPost xL rc rx rr l s ms I J W L Q (pE W L 2000 3 0 t)) : WP (d + 23) 52 0 [.ref 10, .ref l, .int 0, mDum, mDum] [] (mHh xL I J (mRf rc rx rr)) Q := by
  have ht := h.2.1.1
  have hg : gWt 3 = 3 := rfl
  have hd : gDp 3 0 = 23 := rfl
  exact gE_all hl hM 2000 3 (by decide) 0 t (d + 23) I s Q (by decide) (by omega) (by omega) h h2 hs hst hP
end GLW
