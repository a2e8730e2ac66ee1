/-! The grammar of a sum: where it ends and what it comes to, or the fault and its token. -/
def nx (t : Nat) : (Nat × Nat) ⊕ Nat := if t = 400 then .inl (2, t) else .inr (t + 1)
/-- modes: 0 a unit, 1 a part, 2 what comes behind a unit, 3 a sum, 4 what comes behind a part -/
def pE (W : Nat → Int32) (L : Nat) : Nat → Nat → Nat → Nat → (Nat × Nat) ⊕ (Nat × mCod)
  | 0, _, _, t => .inl (1, t)
  | n + 1, m, o, t =>
    if m = 0 then
      if kk W L t = 2 then (match nx t with | .inl f => .inl f | .inr t1 => .inr (t1, [(0, nI (kv W L t))]))
      else if 31 ≤ kk W L t ∧ kk W L t ≤ 39 then (match nx t with | .inl f => .inl f | .inr t1 => .inr (t1, [(1, nI (kk W L t - 31))]))
      else if kk W L t = 6 then
        (if 6 ≤ o then .inl (2, t) else match nx t with
          | .inl f => .inl f
          | .inr t1 => match pE W L n 3 (o + 1) t1 with
            | .inl f => .inl f
            | .inr (t2, c) => if kk W L t2 = 7 then (match nx t2 with | .inl f => .inl f | .inr t3 => .inr (t3, c)) else .inl (1, t2))
      else .inl (1, t)
    else if m = 1 then
      match pE W L n 0 o t with
      | .inl f => .inl f
      | .inr (t1, c1) => match pE W L n 2 o t1 with
        | .inl f => .inl f
        | .inr (t2, c2) => .inr (t2, c1 ++ c2)
    else if m = 2 then
      if kk W L t = 10 ∨ kk W L t = 15 then match nx t with
        | .inl f => .inl f
        | .inr t1 => match pE W L n 0 o t1 with
          | .inl f => .inl f
          | .inr (t2, c1) => match pE W L n 2 o t2 with
            | .inl f => .inl f
            | .inr (t3, c2) => .inr (t3, c1 ++ ((if kk W L t = 10 then 4 else 5), 0) :: c2)
      else .inr (t, [])
    else if m = 3 then
      match pE W L n 1 o t with
      | .inl f => .inl f
      | .inr (t1, c1) => match pE W L n 4 o t1 with
        | .inl f => .inl f
        | .inr (t2, c2) => .inr (t2, c1 ++ c2)
    else
      if kk W L t = 8 ∨ kk W L t = 9 then match nx t with
        | .inl f => .inl f
        | .inr t1 => match pE W L n 1 o t1 with
          | .inl f => .inl f
          | .inr (t2, c1) => match pE W L n 4 o t2 with
            | .inl f => .inl f
            | .inr (t3, c2) => .inr (t3, c1 ++ ((if kk W L t = 8 then 2 else 3), 0) :: c2)
      else .inr (t, [])
/-- a token that can be come to -/
def kLv (W : Nat → Int32) (L t : Nat) : Prop := t ≤ 400 ∧ ∀ j, j < t → kk W L j ≠ 0 ∧ kk W L j ≠ 3
theorem nx_r {W : Nat → Int32} {L t t1 : Nat} (h : kLv W L t) (hk : kk W L t ≠ 0 ∧ kk W L t ≠ 3) (e : nx t = .inr t1) : t1 = t + 1 ∧ kLv W L t1 := by
  rw [nx] at e
  by_cases h4 : t = 400
  · rw [if_pos h4] at e; cases e
  · rw [if_neg h4] at e
    cases e
    refine ⟨rfl, by have := h.1; omega, fun j hj => ?_⟩
    by_cases e : j = t
    · subst e; exact hk
    · exact h.2 j (by omega)
theorem nx_l {t : Nat} {f : Nat × Nat} (e : nx t = .inl f) : t = 400 ∧ f = (2, t) := by
  rw [nx] at e
  by_cases h4 : t = 400
  · rw [if_pos h4] at e; cases e; exact ⟨h4, rfl⟩
  · rw [if_neg h4] at e; cases e
theorem dN_le (W : Nat → Int32) : ∀ n i a, dN' W n i a + 23 ≤ (a + 23) * 10 ^ n := by
  intro n
  induction n with
  | zero => intro i a; rw [dN']; simp
  | succ n ih =>
    intro i a
    rw [dN']
    refine Nat.le_trans (ih _ _) ?_
    have hb := bt_lt W i
    rw [Nat.pow_succ, Nat.mul_comm (10 ^ n) 10, ← Nat.mul_assoc]
    exact Nat.mul_le_mul_right _ (by omega)
theorem kk_2 {W : Nat → Int32} {L k : Nat} (h : kk W L k = 2) : tp W L k < L ∧ isLt (bt W (tp W L k)) = false ∧ isDg (bt W (tp W L k)) = true ∧ tEnd W L (tp W L k) - tp W L k ≤ 4 := by
  rw [kk, tKd] at h
  split at h
  · cases h
  · rename_i h0
    split at h
    · split at h
      · cases h
      · exact absurd h (wdK_2 _)
    · rename_i h1
      split at h
      · rename_i h2
        split at h
        · cases h
        · rename_i h3
          exact ⟨by omega, by simpa using h1, h2, by omega⟩
      · exact absurd h (sgK_2 _ (bt_lt W _)).2.1
theorem kk_w {W : Nat → Int32} {L k : Nat} (h : kk W L k = 1 ∨ 20 ≤ kk W L k) : tp W L k < L ∧ isLt (bt W (tp W L k)) = true := by
  rw [kk, tKd] at h
  split at h
  · omega
  · rename_i h0
    split at h
    · rename_i h1
      exact ⟨by omega, h1⟩
    · split at h
      · split at h <;> omega
      · have := sgK_2 _ (bt_lt W (tp W L k))
        omega
theorem kv_le {W : Nat → Int32} {L k : Nat} (h : kk W L k = 2) : kv W L k < 2 ^ 31 := by
  have h4 := (kk_2 h).2.2.2
  have := dN_le W (tEnd W L (tp W L k) - tp W L k) (tp W L k) 0
  have h5 : (10 : Nat) ^ (tEnd W L (tp W L k) - tp W L k) ≤ 10 ^ 4 := Nat.pow_le_pow_right (by decide) h4
  rw [kv]
  omega
theorem tkW_2 {W : Nat → Int32} {L k : Nat} (h : kk W L k = 2) : tkW W L (tp W L k) = lN (kv W L k) := by
  obtain ⟨h1, h2, h3, -⟩ := kk_2 h
  rw [tkW, if_neg (by omega), if_neg (by rw [h2]; decide), if_pos h3]; rfl
theorem tkW_w {W : Nat → Int32} {L k : Nat} (h : kk W L k = 1 ∨ 20 ≤ kk W L k) : tkW W L (tp W L k) = kn W L k := by
  obtain ⟨h1, h2⟩ := kk_w h
  rw [tkW, if_neg (by omega), if_pos h2]; rfl
theorem kLv_n {I : Nat → Nat → Int32} {J : Nat → Nat → Int64} {W : Nat → Int32} {L n t : Nat} (h : gTk I J W L n) (ht : kLv W L t) : t < n := by
  obtain ⟨⟨h1, h2, -⟩, -, -, h5⟩ := h
  rcases Nat.lt_or_ge t n with x | x
  · exact x
  · exfalso
    have := ht.1
    rcases h5 with h5 | h5 | h5
    · omega
    · exact (ht.2 (n - 1) (by omega)).1 h5
    · exact (ht.2 (n - 1) (by omega)).2 h5
theorem kLv_m {I : Nat → Nat → Int32} {J : Nat → Nat → Int64} {W : Nat → Int32} {L n t : Nat} (h : mTk I J W L n) (ht : kLv W L t) : t < n := by
  obtain ⟨⟨h1, h2, -⟩, -, -, h5⟩ := h
  rcases Nat.lt_or_ge t n with x | x
  · exact x
  · exfalso
    have := ht.1
    rcases h5 with h5 | h5
    · omega
    · exact (ht.2 (n - 1) (by omega)).1 h5
theorem cw_app : ∀ a b n, mCw (a ++ b) n = (mCw a n).bind (mCw b) := by
  intro a
  induction a with
  | nil => intro b n; rfl
  | cons p a ih =>
    intro b n
    obtain ⟨k, v⟩ := p
    rw [List.cons_append, mCw, mCw]
    split
    · split
      · exact ih b _
      · rfl
    · split
      · exact ih b _
      · rfl
theorem cw_op {k : Nat} (hk : k = 2 ∨ k = 3 ∨ k = 4 ∨ k = 5) {n : Nat} (hn : 2 ≤ n ∧ n ≤ 16) (c : mCod) : mCw ((k, 0) :: c) n = mCw c (n - 1) := by
  rw [mCw, if_neg (by omega), if_pos ⟨hn.1, hn.2, by omega⟩]
/-- a sum well read: it goes on, it is no longer than its tokens, it leaves one number more -/
theorem pE_ok (W : Nat → Int32) (L : Nat) : ∀ n m o t t' c, kLv W L t → o ≤ 6 → m ≤ 4 → pE W L n m o t = .inr (t', c) → kLv W L t' ∧ t + c.length ≤ t' ∧ (m = 0 ∨ m = 1 ∨ m = 3 → t < t') ∧ ∀ s, ((m = 0 → s + (13 - 2 * o) ≤ 16 → mCw c s = some (s + 1)) ∧ (m = 1 → s + (14 - 2 * o) ≤ 16 → mCw c s = some (s + 1)) ∧ (m = 3 → s + (15 - 2 * o) ≤ 16 → mCw c s = some (s + 1)) ∧ (m = 2 → s + (14 - 2 * o) ≤ 16 → mCw c (s + 1) = some (s + 1)) ∧ (m = 4 → s + (15 - 2 * o) ≤ 16 → mCw c (s + 1) = some (s + 1))) := by
  intro n
  induction n with
  | zero => intro m o t t' c _ _ _ h; rw [pE] at h; cases h
  | succ n ih =>
    intro m o t t' c hl ho hm h
    rw [pE] at h
    split at h
    · rename_i m0
      subst m0
      split at h
      · rename_i k2
        cases e : nx t with
        | inl f => rw [e] at h; cases h
        | inr t1 =>
          rw [e] at h; dsimp only at h
          cases h
          obtain ⟨e1, e2⟩ := nx_r hl (by omega) e
          refine ⟨e2, by simp; omega, fun _ => by omega, fun s => ⟨fun _ hs => ?_, fun z => by omega, fun z => by omega, fun z => by omega, fun z => by omega⟩⟩
          rw [mCw, if_pos (by decide), if_pos ⟨by omega, nI_pos (kv_le k2), fun z => by cases z⟩, mCw]
      · split at h
        · rename_i kv'
          cases e : nx t with
          | inl f => rw [e] at h; cases h
          | inr t1 =>
            rw [e] at h; dsimp only at h
            cases h
            obtain ⟨e1, e2⟩ := nx_r hl (by omega) e
            refine ⟨e2, by simp; omega, fun _ => by omega, fun s => ⟨fun _ hs => ?_, fun z => by omega, fun z => by omega, fun z => by omega, fun z => by omega⟩⟩
            rw [mCw, if_pos (by decide), if_pos ⟨by omega, nI_pos (by omega), fun _ => (in_lt 9 (by decide) (by omega)).2 (by omega)⟩, mCw]
        · split at h
          · rename_i k6
            split at h
            · cases h
            · rename_i o6
              cases e : nx t with
              | inl f => rw [e] at h; cases h
              | inr t1 =>
                rw [e] at h; dsimp only at h
                obtain ⟨e1, e2⟩ := nx_r hl (by omega) e
                cases e3 : pE W L n 3 (o + 1) t1 with
                | inl f => rw [e3] at h; cases h
                | inr r =>
                  obtain ⟨t2, c2⟩ := r
                  rw [e3] at h; dsimp only at h
                  obtain ⟨i1, i2, i3, i4⟩ := ih 3 (o + 1) t1 t2 c2 e2 (by omega) (by omega) e3
                  split at h
                  · rename_i k7
                    cases e4 : nx t2 with
                    | inl f => rw [e4] at h; cases h
                    | inr t3 =>
                      rw [e4] at h; dsimp only at h
                      cases h
                      obtain ⟨e5, e6⟩ := nx_r i1 (by omega) e4
                      have := i3 (by omega)
                      refine ⟨e6, by omega, fun _ => by omega, fun s => ⟨fun _ hs => (i4 s).2.2.1 rfl (by omega), fun z => by omega, fun z => by omega, fun z => by omega, fun z => by omega⟩⟩
                  · cases h
          · cases h
    · split at h
      · rename_i m1
        subst m1
        cases e3 : pE W L n 0 o t with
        | inl f => rw [e3] at h; cases h
        | inr r =>
          obtain ⟨t1, c1⟩ := r
          rw [e3] at h; dsimp only at h
          obtain ⟨i1, i2, i3, i4⟩ := ih 0 o t t1 c1 hl ho (by omega) e3
          cases e4 : pE W L n 2 o t1 with
          | inl f => rw [e4] at h; cases h
          | inr r =>
            obtain ⟨t2, c2⟩ := r
            rw [e4] at h; dsimp only at h
            cases h
            obtain ⟨j1, j2, j3, j4⟩ := ih 2 o t1 _ c2 i1 ho (by omega) e4
            have := i3 (by omega)
            refine ⟨j1, by rw [List.length_append]; omega, fun _ => by omega, fun s => ⟨fun z => by omega, fun _ hs => ?_, fun z => by omega, fun z => by omega, fun z => by omega⟩⟩
            rw [cw_app, (i4 s).1 rfl (by omega)]
            exact (j4 s).2.2.2.1 rfl (by omega)
      · split at h
        · rename_i m2
          subst m2
          split at h
          · rename_i ko
            cases e : nx t with
            | inl f => rw [e] at h; cases h
            | inr t1 =>
              rw [e] at h; dsimp only at h
              obtain ⟨e1, e2⟩ := nx_r hl (by omega) e
              cases e3 : pE W L n 0 o t1 with
              | inl f => rw [e3] at h; cases h
              | inr r =>
                obtain ⟨t2, c1⟩ := r
                rw [e3] at h; dsimp only at h
                obtain ⟨i1, i2, i3, i4⟩ := ih 0 o t1 t2 c1 e2 ho (by omega) e3
                cases e4 : pE W L n 2 o t2 with
                | inl f => rw [e4] at h; cases h
                | inr r =>
                  obtain ⟨t3, c2⟩ := r
                  rw [e4] at h; dsimp only at h
                  cases h
                  obtain ⟨j1, j2, j3, j4⟩ := ih 2 o t2 _ c2 i1 ho (by omega) e4
                  refine ⟨j1, by rw [List.length_append, List.length_cons]; omega, fun z => by omega, fun s => ⟨fun z => by omega, fun z => by omega, fun z => by omega, fun _ hs => ?_, fun z => by omega⟩⟩
                  rw [cw_app, (i4 (s + 1)).1 rfl (by omega)]
                  refine Eq.trans (cw_op (k := if kk W L t = 10 then 4 else 5) (n := s + 1 + 1) (by split <;> omega) (by omega) c2) ?_
                  exact (j4 s).2.2.2.1 rfl (by omega)
          · cases h
            exact ⟨hl, Nat.le_refl _, fun z => by omega, fun s => ⟨fun z => by omega, fun z => by omega, fun z => by omega, fun _ _ => rfl, fun z => by omega⟩⟩
        · split at h
          · rename_i m3
            subst m3
            cases e3 : pE W L n 1 o t with
            | inl f => rw [e3] at h; cases h
            | inr r =>
              obtain ⟨t1, c1⟩ := r
              rw [e3] at h; dsimp only at h
              obtain ⟨i1, i2, i3, i4⟩ := ih 1 o t t1 c1 hl ho (by omega) e3
              cases e4 : pE W L n 4 o t1 with
              | inl f => rw [e4] at h; cases h
              | inr r =>
                obtain ⟨t2, c2⟩ := r
                rw [e4] at h; dsimp only at h
                cases h
                obtain ⟨j1, j2, j3, j4⟩ := ih 4 o t1 _ c2 i1 ho (by omega) e4
                have := i3 (by omega)
                refine ⟨j1, by rw [List.length_append]; omega, fun _ => by omega, fun s => ⟨fun z => by omega, fun z => by omega, fun _ hs => ?_, fun z => by omega, fun z => by omega⟩⟩
                rw [cw_app, (i4 s).2.1 rfl (by omega)]
                exact (j4 s).2.2.2.2 rfl (by omega)
          · split at h
            · rename_i ko
              cases e : nx t with
              | inl f => rw [e] at h; cases h
              | inr t1 =>
                rw [e] at h; dsimp only at h
                obtain ⟨e1, e2⟩ := nx_r hl (by omega) e
                cases e3 : pE W L n 1 o t1 with
                | inl f => rw [e3] at h; cases h
                | inr r =>
                  obtain ⟨t2, c1⟩ := r
                  rw [e3] at h; dsimp only at h
                  obtain ⟨i1, i2, i3, i4⟩ := ih 1 o t1 t2 c1 e2 ho (by omega) e3
                  cases e4 : pE W L n 4 o t2 with
                  | inl f => rw [e4] at h; cases h
                  | inr r =>
                    obtain ⟨t3, c2⟩ := r
                    rw [e4] at h; dsimp only at h
                    cases h
                    obtain ⟨j1, j2, j3, j4⟩ := ih 4 o t2 _ c2 i1 ho (by omega) e4
                    refine ⟨j1, by rw [List.length_append, List.length_cons]; omega, fun z => by omega, fun s => ⟨fun z => by omega, fun z => by omega, fun z => by omega, fun z => by omega, fun _ hs => ?_⟩⟩
                    rw [cw_app, (i4 (s + 1)).2.1 rfl (by omega)]
                    refine Eq.trans (cw_op (k := if kk W L t = 8 then 2 else 3) (n := s + 1 + 1) (by split <;> omega) (by omega) c2) ?_
                    exact (j4 s).2.2.2.2 rfl (by omega)
            · cases h
              exact ⟨hl, Nat.le_refl _, fun z => by omega, fun s => ⟨fun z => by omega, fun z => by omega, fun z => by omega, fun z => by omega, fun _ _ => rfl⟩⟩
