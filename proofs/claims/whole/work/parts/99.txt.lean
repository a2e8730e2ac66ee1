/-! The grammar of a text: what is told, one by one, and what is found wrong in it (the later faults: the first one is kept). -/
abbrev yW := Nat × Nat
abbrev yX := (Nat × Nat) ⊕ (Nat × yW)
abbrev pNs := List (Int64 × Nat)
def yU (c : Bool) (f i : Nat) (w : yW) : yW := if w.1 = 0 ∧ c = true then (f, i) else w
/-- a token of a sort is taken; g: what is found wrong at it -/
def sSt (W : Nat → Int32) (L κ : Nat) (g : Nat → yW → yW) (r : yX) : yX := bd r fun p => bd (pTt W L κ p.1) fun t1 => .inr (t1, g p.1 p.2)
def psN (N : pNs) : List Int64 := (N.filter (fun p => decide (p.2 < 10))).map (fun p => p.1)
def dsN (N : pNs) : List Int64 := (N.filter (fun p => !decide (p.2 < 10))).map (fun p => p.1)
def pnN (N : pNs) : List Nat := (N.filter (fun p => decide (p.2 < 10))).map (fun p => p.2)
def fIx (x : Int64) : List Int64 → Nat → Option Nat
  | [], _ => none
  | y :: r, k => if y = x then some k else fIx x r (k + 1)
def isN (N : pNs) (x : Int64) : Bool := decide (x ∈ N.map (fun p => p.1))
def gNo : Nat → yW → yW := fun _ w => w
def gTw (W : Nat → Int32) (L : Nat) (N : pNs) : Nat → yW → yW := fun i w => yU (isN N (kn W L i)) 3 i w
def gKw (W : Nat → Int32) (L : Nat) (N : pNs) : Nat → yW → yW := fun i w => yU (fIx (kn W L i) (psN N) 0).isNone 4 i w
def gIw (W : Nat → Int32) (L m : Nat) : Nat → yW → yW := fun i w => yU (decide (m < kv W L i)) 5 i w
def oN : Option Nat → Int32
  | none => -1
  | some i => nI i
def vWh (x : Int64) (N : pNs) : Int32 := oN (fIx x (psN N) 0)
abbrev pSg := mHs × pNs × yW
abbrev pSr := (Nat × Nat) ⊕ (Nat × pSg)
def rPer (W : Nat → Int32) (L t : Nat) (σ : pSg) : yX := sSt W L 4 gNo (sSt W L 2 (gIw W L 9) (sSt W L 2 (gIw W L 20) (sSt W L 1 (gTw W L σ.2.1) (sSt W L 20 gNo (.inr (t, σ.2.2))))))
def uPer (W : Nat → Int32) (L t : Nat) (σ : pSg) (w : yW) : pSg := ((σ.1.1 + 1, σ.1.2.1, mU (mU σ.1.2.2.1 0 σ.1.1 (nI (kv W L (t + 2)))) 1 σ.1.1 (nI (kv W L (t + 3))), σ.1.2.2.2), σ.2.1 ++ [(kn W L (t + 1), σ.1.1)], w)
def sPer (W : Nat → Int32) (L t : Nat) (σ : pSg) : pSr := if σ.1.1 = 5 then .inl (2, t) else bd (rPer W L t σ) fun p => .inr (p.1, uPer W L t σ p.2)
def rDoi (W : Nat → Int32) (L t : Nat) (σ : pSg) : yX := sSt W L 4 gNo (sSt W L 2 (gIw W L 20) (sSt W L 2 (gIw W L 11) (sSt W L 2 (gIw W L 11) (sSt W L 1 (gKw W L σ.2.1) (sSt W L 1 (gTw W L σ.2.1) (sSt W L 21 gNo (.inr (t, σ.2.2))))))))
def uDoi (W : Nat → Int32) (L t : Nat) (σ : pSg) (w : yW) : pSg := ((σ.1.1, σ.1.2.1 + 1, mU (mU (mU (mU σ.1.2.2.1 2 σ.1.2.1 (vWh (kn W L (t + 2)) σ.2.1)) 3 σ.1.2.1 (nI (kv W L (t + 3)))) 4 σ.1.2.1 (nI (kv W L (t + 4)))) 5 σ.1.2.1 (nI (kv W L (t + 5))), σ.1.2.2.2), σ.2.1 ++ [(kn W L (t + 1), 10)], w)
def sDoi (W : Nat → Int32) (L t : Nat) (σ : pSg) : pSr := if σ.1.2.1 = 6 then .inl (2, t) else bd (rDoi W L t σ) fun p => .inr (p.1, uDoi W L t σ p.2)
def rInt (W : Nat → Int32) (L κ m t : Nat) (σ : pSg) : yX := sSt W L 4 gNo (sSt W L 2 (gIw W L m) (sSt W L κ gNo (.inr (t, σ.2.2))))
def uSli (W : Nat → Int32) (L t : Nat) (σ : pSg) (w : yW) : pSg := ((σ.1.1, σ.1.2.1, σ.1.2.2.1, nI (kv W L (t + 1)), σ.1.2.2.2.2), σ.2.1, w)
def uSee (W : Nat → Int32) (L t : Nat) (σ : pSg) (w : yW) : pSg := ((σ.1.1, σ.1.2.1, σ.1.2.2.1, σ.1.2.2.2.1, nI (kv W L (t + 1)), σ.1.2.2.2.2.2), σ.2.1, w)
def uLaw (k : Nat) (σ : pSg) (r : Nat × List mIf × mCod) : pSg := ((σ.1.1, σ.1.2.1, σ.1.2.2.1, σ.1.2.2.2.1, σ.1.2.2.2.2.1, fun j => if j = k then some r.2 else hL σ.1 j), σ.2.1, σ.2.2)
def sTell (W : Nat → Int32) (L t : Nat) (σ : pSg) : pSr :=
  if kk W L t = 20 then sPer W L t σ
  else if kk W L t = 21 then sDoi W L t σ
  else if 22 ≤ kk W L t ∧ kk W L t ≤ 25 then bd (pLaw W L t) fun r => .inr (r.1, uLaw (kk W L t - 22) σ r)
  else if kk W L t = 26 then bd (rInt W L 26 100 t σ) fun p => .inr (p.1, uSli W L t σ p.2)
  else if kk W L t = 27 then bd (rInt W L 27 9999 t σ) fun p => .inr (p.1, uSee W L t σ p.2)
  else .inl (1, t)
def sText (W : Nat → Int32) (L : Nat) : Nat → Nat → pSg → pSr
  | 0, t, _ => .inl (1, t)
  | n + 1, t, σ => if kk W L t = 0 then .inr (t, σ) else bd (sTell W L t σ) fun p => sText W L n p.1 p.2
def η0 : mHs := (0, 0, fun _ _ => 0, 0, 0, fun _ => none)
def sRd (W : Nat → Int32) (L : Nat) : (Nat × Nat) ⊕ mHs := bd (sText W L 402 0 (η0, [], (0, 0))) fun p => if p.2.2.2.1 = 0 then .inr p.2.1 else .inl p.2.2.2
/-- what stands of what is told so far -/
def σOk (t : Nat) (σ : pSg) : Prop := σ.1.1 ≤ 5 ∧ σ.1.2.1 ≤ 6 ∧ (psN σ.2.1).length = σ.1.1 ∧ (dsN σ.2.1).length = σ.1.2.1 ∧ σ.2.1.length = σ.1.1 + σ.1.2.1 ∧ pnN σ.2.1 = List.range σ.1.1 ∧ (σ.2.2.1 < 6 ∧ (σ.2.2.1 ≠ 0 → σ.2.2.2 < t)) ∧ (∀ k, k < 4 → mLo (hW σ.1 k).1 (hW σ.1 k).2) ∧ (σ.2.2.1 = 0 → (∀ p, p < σ.1.1 → ∃ n, n ≤ 20 ∧ hT σ.1 0 p = nI n) ∧ (∀ i, i < σ.1.2.1 → ∃ n, n < σ.1.1 ∧ hT σ.1 2 i = nI n))
theorem yU_0 {c : Bool} {f i : Nat} {w : yW} (hf : f ≠ 0) (h : (yU c f i w).1 = 0) : w.1 = 0 ∧ c = false ∧ yU c f i w = w := by
  rw [yU] at h ⊢
  by_cases e : w.1 = 0 ∧ c = true
  · rw [if_pos e] at h; exact absurd h hf
  · rw [if_neg e] at h ⊢
    refine ⟨h, ?_, rfl⟩
    cases c with
    | false => rfl
    | true => exact absurd ⟨h, rfl⟩ e
theorem yU_lt {c : Bool} {f i t t' : Nat} {w : yW} (hf : f < 6) (h : w.1 < 6 ∧ (w.1 ≠ 0 → w.2 < t)) (hi : i < t') (ht : t ≤ t') : (yU c f i w).1 < 6 ∧ ((yU c f i w).1 ≠ 0 → (yU c f i w).2 < t') := by
  rw [yU]
  split
  · exact ⟨hf, fun _ => hi⟩
  · exact ⟨h.1, fun z => Nat.lt_of_lt_of_le (h.2 z) ht⟩
theorem sSt_r {W : Nat → Int32} {L κ : Nat} {g : Nat → yW → yW} {r : yX} {p : Nat × yW} (k03 : κ ≠ 0 ∧ κ ≠ 3) (hl : ∀ q, r = .inr q → kLv W L q.1) (h : sSt W L κ g r = .inr p) : ∃ q, r = .inr q ∧ kk W L q.1 = κ ∧ p.1 = q.1 + 1 ∧ kLv W L p.1 ∧ p.2 = g q.1 q.2 := by
  obtain ⟨q, e1, h⟩ := bd_r h
  obtain ⟨t1, e2, h⟩ := bd_r h
  cases h
  obtain ⟨a1, a2, a3⟩ := pTt_r (hl q e1) k03 e2
  exact ⟨q, e1, a1, a2, a3, rfl⟩
theorem kLv_0 {W : Nat → Int32} {L t : Nat} {w : yW} (h : kLv W L t) : ∀ q, (Sum.inr (t, w) : yX) = .inr q → kLv W L q.1 := by
  intro q e; cases e; exact h
theorem rPer_r {W : Nat → Int32} {L t : Nat} {σ : pSg} {p : Nat × yW} (h : kLv W L t) (e : rPer W L t σ = .inr p) : p.1 = t + 5 ∧ kLv W L (t + 5) ∧ (kk W L (t + 1) = 1 ∧ kk W L (t + 2) = 2 ∧ kk W L (t + 3) = 2) ∧ p.2 = gIw W L 9 (t + 3) (gIw W L 20 (t + 2) (gTw W L σ.2.1 (t + 1) σ.2.2)) := by
  have l1 : ∀ q, sSt W L 20 gNo (.inr (t, σ.2.2)) = .inr q → kLv W L q.1 := fun q e => (sSt_r (by decide) (kLv_0 h) e).elim fun _ a => a.2.2.2.1
  have l2 : ∀ q, sSt W L 1 (gTw W L σ.2.1) (sSt W L 20 gNo (.inr (t, σ.2.2))) = .inr q → kLv W L q.1 := fun q e => (sSt_r (by decide) l1 e).elim fun _ a => a.2.2.2.1
  have l3 : ∀ q, sSt W L 2 (gIw W L 20) (sSt W L 1 (gTw W L σ.2.1) (sSt W L 20 gNo (.inr (t, σ.2.2)))) = .inr q → kLv W L q.1 := fun q e => (sSt_r (by decide) l2 e).elim fun _ a => a.2.2.2.1
  have l4 : ∀ q, sSt W L 2 (gIw W L 9) (sSt W L 2 (gIw W L 20) (sSt W L 1 (gTw W L σ.2.1) (sSt W L 20 gNo (.inr (t, σ.2.2))))) = .inr q → kLv W L q.1 := fun q e => (sSt_r (by decide) l3 e).elim fun _ a => a.2.2.2.1
  obtain ⟨q5, e5, -, a5, b5, c5⟩ := sSt_r (by decide) l4 e
  obtain ⟨q4, e4, k4, a4, -, c4⟩ := sSt_r (by decide) l3 e5
  obtain ⟨q3, e3, k3, a3, -, c3⟩ := sSt_r (by decide) l2 e4
  obtain ⟨q2, e2, k2, a2, -, c2⟩ := sSt_r (by decide) l1 e3
  obtain ⟨q1, e1, k1, a1, -, c1⟩ := sSt_r (by decide) (kLv_0 h) e2
  cases e1
  dsimp only at a1 c1
  have z2 : q2.1 = t + 1 := a1
  have z3 : q3.1 = t + 2 := by omega
  have z4 : q4.1 = t + 3 := by omega
  have z5 : q5.1 = t + 4 := by omega
  have zp : p.1 = t + 5 := by omega
  rw [zp] at b5
  rw [z2] at k2 c2; rw [z3] at k3 c3; rw [z4] at k4 c4
  refine ⟨zp, b5, ⟨k2, k3, k4⟩, ?_⟩
  rw [c5, c4, c3, c2, c1]; rfl
theorem rDoi_r {W : Nat → Int32} {L t : Nat} {σ : pSg} {p : Nat × yW} (h : kLv W L t) (e : rDoi W L t σ = .inr p) : p.1 = t + 7 ∧ kLv W L (t + 7) ∧ (kk W L (t + 1) = 1 ∧ kk W L (t + 2) = 1 ∧ kk W L (t + 3) = 2 ∧ kk W L (t + 4) = 2 ∧ kk W L (t + 5) = 2) ∧ p.2 = gIw W L 20 (t + 5) (gIw W L 11 (t + 4) (gIw W L 11 (t + 3) (gKw W L σ.2.1 (t + 2) (gTw W L σ.2.1 (t + 1) σ.2.2)))) := by
  have l1 : ∀ q, sSt W L 21 gNo (.inr (t, σ.2.2)) = .inr q → kLv W L q.1 := fun q e => (sSt_r (by decide) (kLv_0 h) e).elim fun _ a => a.2.2.2.1
  have l2 : ∀ q, sSt W L 1 (gTw W L σ.2.1) (sSt W L 21 gNo (.inr (t, σ.2.2))) = .inr q → kLv W L q.1 := fun q e => (sSt_r (by decide) l1 e).elim fun _ a => a.2.2.2.1
  have l3 : ∀ q, sSt W L 1 (gKw W L σ.2.1) (sSt W L 1 (gTw W L σ.2.1) (sSt W L 21 gNo (.inr (t, σ.2.2)))) = .inr q → kLv W L q.1 := fun q e => (sSt_r (by decide) l2 e).elim fun _ a => a.2.2.2.1
  have l4 : ∀ q, sSt W L 2 (gIw W L 11) (sSt W L 1 (gKw W L σ.2.1) (sSt W L 1 (gTw W L σ.2.1) (sSt W L 21 gNo (.inr (t, σ.2.2))))) = .inr q → kLv W L q.1 := fun q e => (sSt_r (by decide) l3 e).elim fun _ a => a.2.2.2.1
  have l5 : ∀ q, sSt W L 2 (gIw W L 11) (sSt W L 2 (gIw W L 11) (sSt W L 1 (gKw W L σ.2.1) (sSt W L 1 (gTw W L σ.2.1) (sSt W L 21 gNo (.inr (t, σ.2.2)))))) = .inr q → kLv W L q.1 := fun q e => (sSt_r (by decide) l4 e).elim fun _ a => a.2.2.2.1
  have l6 : ∀ q, sSt W L 2 (gIw W L 20) (sSt W L 2 (gIw W L 11) (sSt W L 2 (gIw W L 11) (sSt W L 1 (gKw W L σ.2.1) (sSt W L 1 (gTw W L σ.2.1) (sSt W L 21 gNo (.inr (t, σ.2.2))))))) = .inr q → kLv W L q.1 := fun q e => (sSt_r (by decide) l5 e).elim fun _ a => a.2.2.2.1
  obtain ⟨q7, e7, -, a7, b7, c7⟩ := sSt_r (by decide) l6 e
  obtain ⟨q6, e6, k6, a6, -, c6⟩ := sSt_r (by decide) l5 e7
  obtain ⟨q5, e5, k5, a5, -, c5⟩ := sSt_r (by decide) l4 e6
  obtain ⟨q4, e4, k4, a4, -, c4⟩ := sSt_r (by decide) l3 e5
  obtain ⟨q3, e3, k3, a3, -, c3⟩ := sSt_r (by decide) l2 e4
  obtain ⟨q2, e2, k2, a2, -, c2⟩ := sSt_r (by decide) l1 e3
  obtain ⟨q1, e1, k1, a1, -, c1⟩ := sSt_r (by decide) (kLv_0 h) e2
  cases e1
  dsimp only at a1 c1
  have z2 : q2.1 = t + 1 := a1
  have z3 : q3.1 = t + 2 := by omega
  have z4 : q4.1 = t + 3 := by omega
  have z5 : q5.1 = t + 4 := by omega
  have z6 : q6.1 = t + 5 := by omega
  have zp : p.1 = t + 7 := by omega
  rw [zp] at b7
  rw [z2] at k2 c2; rw [z3] at k3 c3; rw [z4] at k4 c4; rw [z5] at k5 c5; rw [z6] at k6 c6
  refine ⟨zp, b7, ⟨k2, k3, k4, k5, k6⟩, ?_⟩
  rw [c7, c6, c5, c4, c3, c2, c1]; rfl
theorem rInt_r {W : Nat → Int32} {L κ m t : Nat} {σ : pSg} {p : Nat × yW} (k03 : κ ≠ 0 ∧ κ ≠ 3) (h : kLv W L t) (e : rInt W L κ m t σ = .inr p) : p.1 = t + 3 ∧ kLv W L (t + 3) ∧ kk W L (t + 1) = 2 ∧ p.2 = gIw W L m (t + 1) σ.2.2 := by
  have l1 : ∀ q, sSt W L κ gNo (.inr (t, σ.2.2)) = .inr q → kLv W L q.1 := fun q e => (sSt_r k03 (kLv_0 h) e).elim fun _ a => a.2.2.2.1
  have l2 : ∀ q, sSt W L 2 (gIw W L m) (sSt W L κ gNo (.inr (t, σ.2.2))) = .inr q → kLv W L q.1 := fun q e => (sSt_r (by decide) l1 e).elim fun _ a => a.2.2.2.1
  obtain ⟨q3, e3, -, a3, b3, c3⟩ := sSt_r (by decide) l2 e
  obtain ⟨q2, e2, k2, a2, -, c2⟩ := sSt_r (by decide) l1 e3
  obtain ⟨q1, e1, k1, a1, -, c1⟩ := sSt_r k03 (kLv_0 h) e2
  cases e1
  dsimp only at a1 c1
  have z2 : q2.1 = t + 1 := a1
  have zp : p.1 = t + 3 := by omega
  rw [zp] at b3
  rw [z2] at k2 c2
  refine ⟨zp, b3, k2, ?_⟩
  rw [c3, c2, c1]; rfl
theorem fIx_lt {x : Int64} : ∀ (l : List Int64) (k i : Nat), fIx x l k = some i → k ≤ i ∧ i < k + l.length := by
  intro l
  induction l with
  | nil => intro k i h; cases h
  | cons y r ih =>
    intro k i h
    rw [fIx] at h
    rw [List.length_cons]
    split at h
    · cases h; omega
    · have := ih (k + 1) i h; omega
theorem psN_p {N : pNs} {x : Int64} {a : Nat} (h : a < 10) : psN (N ++ [(x, a)]) = psN N ++ [x] ∧ dsN (N ++ [(x, a)]) = dsN N ∧ pnN (N ++ [(x, a)]) = pnN N ++ [a] := by
  simp [psN, dsN, pnN, List.filter_append, h]
theorem psN_d {N : pNs} {x : Int64} : psN (N ++ [(x, 10)]) = psN N ∧ dsN (N ++ [(x, 10)]) = dsN N ++ [x] ∧ pnN (N ++ [(x, 10)]) = pnN N := by
  simp [psN, dsN, pnN, List.filter_append]
theorem hW_u {η : mHs} {k j : Nat} {r : List mIf × mCod} {a b : Nat} {T : Nat → Nat → Int32} {x y : Int32} : hW (a, b, T, x, y, fun j => if j = k then some r else hL η j) j = if j = k then r else hW η j := by
  show ((if j = k then some r else hL η j).getD (mDf j)) = _
  split <;> rfl
theorem σOk_0 : σOk 0 (η0, [], (0, 0)) := by
  refine ⟨by decide, by decide, rfl, rfl, rfl, rfl, ⟨by decide, fun z => absurd rfl z⟩, ?_, fun _ => ⟨fun p hp => absurd hp (Nat.not_lt_zero _), fun p hp => absurd hp (Nat.not_lt_zero _)⟩⟩
  intro k hk
  have : k = 0 ∨ k = 1 ∨ k = 2 ∨ k = 3 := by omega
  rcases this with rfl | rfl | rfl | rfl <;> (show mCw _ 0 = some 1) <;> decide
theorem σOk_per {W : Nat → Int32} {L t : Nat} {σ : pSg} {w : yW} (h5 : ¬ σ.1.1 = 5) (ok : σOk t σ) (hw : w = gIw W L 9 (t + 3) (gIw W L 20 (t + 2) (gTw W L σ.2.1 (t + 1) σ.2.2))) : σOk (t + 5) (uPer W L t σ w) := by
  obtain ⟨a1, a2, a3, a4, a5, a6, a7, a8, a9⟩ := ok
  obtain ⟨p1, p2, p3⟩ := psN_p (N := σ.2.1) (x := kn W L (t + 1)) (show σ.1.1 < 10 by omega)
  have b1 := yU_lt (c := isN σ.2.1 (kn W L (t + 1))) (f := 3) (i := t + 1) (t' := t + 2) (by decide) a7 (by omega) (by omega)
  have b2 := yU_lt (c := decide (20 < kv W L (t + 2))) (f := 5) (i := t + 2) (t' := t + 3) (by decide) b1 (by omega) (by omega)
  have b3 := yU_lt (c := decide (9 < kv W L (t + 3))) (f := 5) (i := t + 3) (t' := t + 5) (by decide) b2 (by omega) (by omega)
  subst hw
  refine ⟨by show σ.1.1 + 1 ≤ 5; omega, a2, ?_, ?_, ?_, ?_, b3, a8, fun z => ?_⟩
  · show (psN (σ.2.1 ++ [(kn W L (t + 1), σ.1.1)])).length = σ.1.1 + 1
    rw [p1, List.length_append, a3]; rfl
  · show (dsN (σ.2.1 ++ [(kn W L (t + 1), σ.1.1)])).length = σ.1.2.1
    rw [p2]; exact a4
  · show (σ.2.1 ++ [(kn W L (t + 1), σ.1.1)]).length = σ.1.1 + 1 + σ.1.2.1
    rw [List.length_append, a5, List.length_singleton]; omega
  · show pnN (σ.2.1 ++ [(kn W L (t + 1), σ.1.1)]) = List.range (σ.1.1 + 1)
    rw [p3, a6, List.range_succ]
  · obtain ⟨z1, -, -⟩ := yU_0 (by decide) z
    obtain ⟨z2, c2, -⟩ := yU_0 (by decide) z1
    obtain ⟨z3, -, -⟩ := yU_0 (by decide) z2
    obtain ⟨t1, t2⟩ := a9 z3
    have c2 : ¬ 20 < kv W L (t + 2) := by simpa using c2
    refine ⟨fun p hp => ?_, fun i hi => ?_⟩
    · change p < σ.1.1 + 1 at hp
      show ∃ n, n ≤ 20 ∧ mU (mU σ.1.2.2.1 0 σ.1.1 (nI (kv W L (t + 2)))) 1 σ.1.1 (nI (kv W L (t + 3))) 0 p = nI n
      rw [mU_a (by decide)]
      by_cases e : p = σ.1.1
      · subst e; rw [mU_s]; exact ⟨_, by omega, rfl⟩
      · rw [mU_k e]; exact t1 p (by omega)
    · obtain ⟨n, n1, n2⟩ := t2 i hi
      refine ⟨n, by show n < σ.1.1 + 1; omega, ?_⟩
      show mU (mU σ.1.2.2.1 0 σ.1.1 (nI (kv W L (t + 2)))) 1 σ.1.1 (nI (kv W L (t + 3))) 2 i = nI n
      rw [mU_a (by decide), mU_a (by decide)]; exact n2
theorem σOk_doi {W : Nat → Int32} {L t : Nat} {σ : pSg} {w : yW} (h5 : ¬ σ.1.2.1 = 6) (ok : σOk t σ) (hw : w = gIw W L 20 (t + 5) (gIw W L 11 (t + 4) (gIw W L 11 (t + 3) (gKw W L σ.2.1 (t + 2) (gTw W L σ.2.1 (t + 1) σ.2.2))))) : σOk (t + 7) (uDoi W L t σ w) := by
  obtain ⟨a1, a2, a3, a4, a5, a6, a7, a8, a9⟩ := ok
  obtain ⟨p1, p2, p3⟩ := psN_d (N := σ.2.1) (x := kn W L (t + 1))
  have b1 := yU_lt (c := isN σ.2.1 (kn W L (t + 1))) (f := 3) (i := t + 1) (t' := t + 2) (by decide) a7 (by omega) (by omega)
  have b2 := yU_lt (c := (fIx (kn W L (t + 2)) (psN σ.2.1) 0).isNone) (f := 4) (i := t + 2) (t' := t + 3) (by decide) b1 (by omega) (by omega)
  have b3 := yU_lt (c := decide (11 < kv W L (t + 3))) (f := 5) (i := t + 3) (t' := t + 4) (by decide) b2 (by omega) (by omega)
  have b4 := yU_lt (c := decide (11 < kv W L (t + 4))) (f := 5) (i := t + 4) (t' := t + 5) (by decide) b3 (by omega) (by omega)
  have b5 := yU_lt (c := decide (20 < kv W L (t + 5))) (f := 5) (i := t + 5) (t' := t + 7) (by decide) b4 (by omega) (by omega)
  subst hw
  refine ⟨a1, by show σ.1.2.1 + 1 ≤ 6; omega, ?_, ?_, ?_, ?_, b5, a8, fun z => ?_⟩
  · show (psN (σ.2.1 ++ [(kn W L (t + 1), 10)])).length = σ.1.1
    rw [p1]; exact a3
  · show (dsN (σ.2.1 ++ [(kn W L (t + 1), 10)])).length = σ.1.2.1 + 1
    rw [p2, List.length_append, a4]; rfl
  · show (σ.2.1 ++ [(kn W L (t + 1), 10)]).length = σ.1.1 + (σ.1.2.1 + 1)
    rw [List.length_append, a5, List.length_singleton]; omega
  · show pnN (σ.2.1 ++ [(kn W L (t + 1), 10)]) = List.range σ.1.1
    rw [p3]; exact a6
  · obtain ⟨z1, -, -⟩ := yU_0 (by decide) z
    obtain ⟨z2, -, -⟩ := yU_0 (by decide) z1
    obtain ⟨z3, -, -⟩ := yU_0 (by decide) z2
    obtain ⟨z4, c4, -⟩ := yU_0 (by decide) z3
    obtain ⟨z5, -, -⟩ := yU_0 (by decide) z4
    obtain ⟨t1, t2⟩ := a9 z5
    refine ⟨fun p hp => ?_, fun i hi => ?_⟩
    · show ∃ n, n ≤ 20 ∧ mU (mU (mU (mU σ.1.2.2.1 2 σ.1.2.1 (vWh (kn W L (t + 2)) σ.2.1)) 3 σ.1.2.1 (nI (kv W L (t + 3)))) 4 σ.1.2.1 (nI (kv W L (t + 4)))) 5 σ.1.2.1 (nI (kv W L (t + 5))) 0 p = nI n
      rw [mU_a (by decide), mU_a (by decide), mU_a (by decide), mU_a (by decide)]; exact t1 p hp
    · change i < σ.1.2.1 + 1 at hi
      show ∃ n, n < σ.1.1 ∧ mU (mU (mU (mU σ.1.2.2.1 2 σ.1.2.1 (vWh (kn W L (t + 2)) σ.2.1)) 3 σ.1.2.1 (nI (kv W L (t + 3)))) 4 σ.1.2.1 (nI (kv W L (t + 4)))) 5 σ.1.2.1 (nI (kv W L (t + 5))) 2 i = nI n
      rw [mU_a (by decide), mU_a (by decide), mU_a (by decide)]
      by_cases e : i = σ.1.2.1
      · subst e
        rw [mU_s, vWh]
        cases e2 : fIx (kn W L (t + 2)) (psN σ.2.1) 0 with
        | none => rw [e2] at c4; cases c4
        | some j =>
          have := (fIx_lt _ _ _ e2).2
          exact ⟨j, by omega, rfl⟩
      · rw [mU_k e]; exact t2 i (by omega)
theorem σOk_w {W : Nat → Int32} {L m t : Nat} {σ : pSg} (ok : σOk t σ) : ((gIw W L m (t + 1) σ.2.2).1 < 6 ∧ ((gIw W L m (t + 1) σ.2.2).1 ≠ 0 → (gIw W L m (t + 1) σ.2.2).2 < t + 3)) ∧ ((gIw W L m (t + 1) σ.2.2).1 = 0 → σ.2.2.1 = 0) := ⟨yU_lt (c := decide (m < kv W L (t + 1))) (f := 5) (i := t + 1) (t' := t + 3) (by decide) ok.2.2.2.2.2.2.1 (by omega) (by omega), fun z => (yU_0 (by decide) z).1⟩
theorem σOk_law {t t' k : Nat} {σ : pSg} {r : Nat × List mIf × mCod} (ok : σOk t σ) (ht : t ≤ t') (hr : mLo r.2.1 r.2.2) : σOk t' (uLaw k σ r) := by
  obtain ⟨a1, a2, a3, a4, a5, a6, a7, a8, a9⟩ := ok
  refine ⟨a1, a2, a3, a4, a5, a6, ⟨a7.1, fun z => Nat.lt_of_lt_of_le (a7.2 z) ht⟩, fun j hj => ?_, a9⟩
  show mLo (hW (σ.1.1, σ.1.2.1, σ.1.2.2.1, σ.1.2.2.2.1, σ.1.2.2.2.2.1, fun j => if j = k then some r.2 else hL σ.1 j) j).1 (hW (σ.1.1, σ.1.2.1, σ.1.2.2.1, σ.1.2.2.2.1, σ.1.2.2.2.2.1, fun j => if j = k then some r.2 else hL σ.1 j) j).2
  rw [hW_u]
  split
  · exact hr
  · exact a8 j hj
theorem pLaw_ok {W : Nat → Int32} {L t : Nat} {r : Nat × List mIf × mCod} (ms : Nat → Bool) (h : kLv W L t) (k03 : kk W L t ≠ 0 ∧ kk W L t ≠ 3) (e : pLaw W L t = .inr r) : t + 2 < r.1 ∧ kLv W L r.1 ∧ r.2.1.length ≤ 4 ∧ mLo r.2.1 r.2.2 ∧ ∀ q, t + 2 + (mXl ms r.2.1 r.2.2 q).length < r.1 := by
  obtain ⟨t1, e1, e⟩ := bd_r e
  obtain ⟨t2, e2, e⟩ := bd_r e
  obtain ⟨a1, a2⟩ := nx_r h k03 e1
  obtain ⟨-, b1, b2⟩ := pTt_r a2 (by decide) e2
  obtain ⟨c1, c2, c3, c4⟩ := pL_ok ms 4 t2 r b2 e
  have := c4 0
  exact ⟨by omega, c1, c2, c3, fun q => by have := c4 q; omega⟩
theorem sTell_ok {W : Nat → Int32} {L t : Nat} {σ : pSg} {p : Nat × pSg} (h : kLv W L t) (ok : σOk t σ) (e : sTell W L t σ = .inr p) : t < p.1 ∧ kLv W L p.1 ∧ σOk p.1 p.2 := by
  rw [sTell] at e
  by_cases k20 : kk W L t = 20
  · rw [if_pos k20, sPer] at e
    by_cases h5 : σ.1.1 = 5
    · rw [if_pos h5] at e; cases e
    · rw [if_neg h5] at e
      obtain ⟨q, e1, e⟩ := bd_r e
      cases e
      obtain ⟨a1, a2, a3, a4⟩ := rPer_r h e1
      show t < q.1 ∧ kLv W L q.1 ∧ σOk q.1 (uPer W L t σ q.2)
      rw [a1]
      exact ⟨by omega, a2, σOk_per h5 ok a4⟩
  · rw [if_neg k20] at e
    by_cases k21 : kk W L t = 21
    · rw [if_pos k21, sDoi] at e
      by_cases h5 : σ.1.2.1 = 6
      · rw [if_pos h5] at e; cases e
      · rw [if_neg h5] at e
        obtain ⟨q, e1, e⟩ := bd_r e
        cases e
        obtain ⟨a1, a2, a3, a4⟩ := rDoi_r h e1
        show t < q.1 ∧ kLv W L q.1 ∧ σOk q.1 (uDoi W L t σ q.2)
        rw [a1]
        exact ⟨by omega, a2, σOk_doi h5 ok a4⟩
    · rw [if_neg k21] at e
      by_cases k22 : 22 ≤ kk W L t ∧ kk W L t ≤ 25
      · rw [if_pos k22] at e
        obtain ⟨r, e1, e⟩ := bd_r e
        cases e
        obtain ⟨a1, a2, a3, a4, -⟩ := pLaw_ok (fun _ => true) h (by omega) e1
        exact ⟨by show t < r.1; omega, a2, σOk_law ok (by show t ≤ r.1; omega) a4⟩
      · rw [if_neg k22] at e
        have fin : ∀ {κ m : Nat} {q : Nat × yW} {σ' : pSg}, κ ≠ 0 ∧ κ ≠ 3 → rInt W L κ m t σ = .inr q → (σ'.1.1 = σ.1.1 ∧ σ'.1.2.1 = σ.1.2.1 ∧ σ'.1.2.2.1 = σ.1.2.2.1 ∧ σ'.1.2.2.2.2.2 = σ.1.2.2.2.2.2) → σ'.2.1 = σ.2.1 → σ'.2.2 = q.2 → t < q.1 ∧ kLv W L q.1 ∧ σOk q.1 σ' := by
          intro κ m q σ' k03 e1 ⟨s1, s2, s3, s4⟩ s5 s6
          obtain ⟨a1, a2, a3, a4⟩ := rInt_r k03 h e1
          obtain ⟨w1, w2⟩ := σOk_w (W := W) (L := L) (m := m) ok
          rw [a1]
          refine ⟨by omega, a2, ?_⟩
          obtain ⟨b1, b2, b3, b4, b5, b6, b7, b8, b9⟩ := ok
          obtain ⟨⟨P', D', T', sl', se', w'⟩, N', q'⟩ := σ'
          dsimp only at s1 s2 s3 s4 s5 s6
          subst s1 s2 s3 s5 s6
          rw [a4]
          refine ⟨b1, b2, b3, b4, b5, b6, w1, fun k hk => ?_, fun z => b9 (w2 z)⟩
          have := b8 k hk
          rw [hW, hL, ← s4] at this
          exact this
        by_cases k26 : kk W L t = 26
        · rw [if_pos k26] at e
          obtain ⟨q, e1, e⟩ := bd_r e
          cases e
          exact fin (σ' := uSli W L t σ q.2) (by decide) e1 ⟨rfl, rfl, rfl, rfl⟩ rfl rfl
        · rw [if_neg k26] at e
          by_cases k27 : kk W L t = 27
          · rw [if_pos k27] at e
            obtain ⟨q, e1, e⟩ := bd_r e
            cases e
            exact fin (σ' := uSee W L t σ q.2) (by decide) e1 ⟨rfl, rfl, rfl, rfl⟩ rfl rfl
          · rw [if_neg k27] at e; cases e
theorem sText_ok {W : Nat → Int32} {L : Nat} : ∀ n t (σ : pSg) (p : Nat × pSg), kLv W L t → σOk t σ → sText W L n t σ = .inr p → kLv W L p.1 ∧ σOk p.1 p.2 := by
  intro n
  induction n with
  | zero => intro t σ p _ _ e; cases e
  | succ n ih =>
    intro t σ p h ok e
    rw [sText] at e
    by_cases k0 : kk W L t = 0
    · rw [if_pos k0] at e; cases e; exact ⟨h, ok⟩
    · rw [if_neg k0] at e
      obtain ⟨q, e1, e⟩ := bd_r e
      obtain ⟨a1, a2, a3⟩ := sTell_ok h ok e1
      exact ih q.1 q.2 p a2 a3 e
theorem kLv_z {W : Nat → Int32} {L : Nat} : kLv W L 0 := ⟨by decide, fun j hj => absurd hj (Nat.not_lt_zero _)⟩
theorem sRd_ok {W : Nat → Int32} {L : Nat} {η : mHs} (e : sRd W L = .inr η) : hOk η := by
  obtain ⟨p, e1, e⟩ := bd_r e
  obtain ⟨-, b1, b2, b3, b4, b5, b6, b7, b8, b9⟩ := sText_ok 402 0 _ p kLv_z σOk_0 e1
  split at e
  · rename_i w0
    cases e
    obtain ⟨c1, c2⟩ := b9 w0
    exact ⟨b1, b2, c1, c2, b8⟩
  · cases e
