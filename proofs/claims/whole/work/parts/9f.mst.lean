/-! The model's reader, step by step. -/
def yMw (I : Nat → Nat → Int32) (W : Nat → Int32) (L t : Nat) (w : yW) : Prop := L ≤ 2000 ∧ I 180 15 = nI w.1 ∧ w.1 < 6 ∧ (w.1 ≠ 0 → I 180 16 = nI (tp W L w.2) ∧ w.2 < t)
def yMx (I : Nat → Nat → Int32) (J : Nat → Nat → Int64) (W : Nat → Int32) (L : Nat) : yX → Prop
  | .inl f => ∃ t, mRD I J W L t f.1 f.2 ∧ f.1 ≠ 0
  | .inr p => mRD I J W L p.1 0 0 ∧ yMw I W L p.1 p.2
def fYm (I I' : Nat → Nat → Int32) : Prop := (∀ a, a ≠ 180 → I' a = I a) ∧ ∀ j, j ≠ 11 → j ≠ 13 → j ≠ 14 → j ≠ 15 → j ≠ 16 → I' 180 j = I 180 j
theorem fYm_0 {I : Nat → Nat → Int32} : fYm I I := ⟨fun _ _ => rfl, fun _ _ _ _ _ _ => rfl⟩
theorem fYm_t {I I1 I2 : Nat → Nat → Int32} (h1 : fYm I I1) (h2 : fYm I1 I2) : fYm I I2 := ⟨fun a x => by rw [h2.1 a x, h1.1 a x], fun j x y z u v => by rw [h2.2 j x y z u v, h1.2 j x y z u v]⟩
theorem fM1_y {I I' : Nat → Nat → Int32} (h : fM1 I I') : fYm I I' := ⟨h.1, fun j x y z _ _ => h.2 j x y z⟩
def yNm (I : Nat → Nat → Int32) (J : Nat → Nat → Int64) (N : pNs) : Prop := I 180 20 = nI N.length ∧ N.length ≤ 11 ∧ ∀ k p, N[k]? = some p → J 188 k = p.1 ∧ I 189 k = nI p.2 ∧ p.2 ≤ 10
def yWr (I : Nat → Nat → Int32) (k p : Int32) : Nat → Nat → Int32 := if I 180 15 = 0 then mU (mU I 180 15 k) 180 16 p else I
theorem yWr_f (I : Nat → Nat → Int32) (k p : Int32) : fYm I (yWr I k p) := by
  rw [yWr]
  split
  · exact ⟨fun a h => by rw [mU_f h, mU_f h], fun j _ _ _ h5 h6 => by rw [mU_k h6, mU_k h5]⟩
  · exact fYm_0
theorem yWr_k (I : Nat → Nat → Int32) (k p : Int32) (j : Nat) (h5 : j ≠ 15) (h6 : j ≠ 16) : yWr I k p 180 j = I 180 j := by
  rw [yWr]
  split
  · rw [mU_k h6, mU_k h5]
  · rfl
theorem yWr_r {I : Nat → Nat → Int32} {J : Nat → Nat → Int64} {W : Nat → Int32} {L t f i : Nat} (h : mRD I J W L t f i) (k p : Int32) : mRD (yWr I k p) J W L t f i :=
  mRD_keep h (fun j hj => yWr_k I k p j (by omega) (by omega)) ((yWr_f I k p).1 183 (by decide)) ((yWr_f I k p).1 184 (by decide)) ((yWr_f I k p).1 185 (by decide))
theorem yWr_w {I : Nat → Nat → Int32} {W : Nat → Int32} {L t t' i k : Nat} {w : yW} (h : yMw I W L t w) (hk : k < 6) (ht : t ≤ t') (hi : i < t') : yMw (yWr I (nI k) (nI (tp W L i))) W L t' (yU true k i w) := by
  obtain ⟨h0, h1, h2, h3⟩ := h
  have e : (I 180 15 = 0) ↔ w.1 = 0 := by rw [h1]; exact in_eq 0 (by decide) (by omega)
  rw [yWr, yU]
  by_cases c : w.1 = 0
  · rw [if_pos (e.2 c), if_pos ⟨c, rfl⟩]
    exact ⟨h0, by rw [mU_k (by decide), mU_s], hk, fun _ => ⟨mU_s _ _ _ _, hi⟩⟩
  · rw [if_neg (fun z => c (e.1 z)), if_neg (fun z => c z.1)]
    exact ⟨h0, h1, h2, fun z => ⟨(h3 z).1, by have := (h3 z).2; omega⟩⟩
theorem yMw_up {I : Nat → Nat → Int32} {W : Nat → Int32} {L t t' : Nat} {w : yW} (h : yMw I W L t w) (ht : t ≤ t') : yMw I W L t' w := ⟨h.1, h.2.1, h.2.2.1, fun z => ⟨(h.2.2.2 z).1, by have := (h.2.2.2 z).2; omega⟩⟩
theorem yMx_k {I I' : Nat → Nat → Int32} {J J' : Nat → Nat → Int64} {W : Nat → Int32} {L : Nat} {r : yX} (h : yMx I J W L r) (e : ∀ j, (j = 10 ∨ j = 11 ∨ j = 13 ∨ j = 14 ∨ j = 15 ∨ j = 16) → I' 180 j = I 180 j) (e3 : I' 183 = I 183) (e4 : I' 184 = I 184) (e5 : I' 185 = I 185) (j6 : J' 186 = J 186) : yMx I' J' W L r := by
  have k : ∀ t f i, mRD I J W L t f i → mRD I' J' W L t f i := by
    intro t f i g
    obtain ⟨⟨n, h1, h2, h3⟩, g2⟩ := mRD_keep g (fun j hj => e j (by omega)) e3 e4 e5
    refine ⟨⟨n, h1, fun q hq => ?_, h3⟩, g2⟩
    have := h2 q hq
    rw [mRwT] at this ⊢
    rw [j6]; exact this
  cases r with
  | inl f => obtain ⟨t, g, h0⟩ := h; exact ⟨t, k _ _ _ g, h0⟩
  | inr p =>
    obtain ⟨g, w⟩ := h
    refine ⟨k _ _ _ g, ?_⟩
    rw [yMw, e 15 (by omega), e 16 (by omega)]; exact w
theorem yNm_k {I I' : Nat → Nat → Int32} {J J' : Nat → Nat → Int64} {N : pNs} (h : yNm I J N) (e : I' 180 20 = I 180 20) (e9 : I' 189 = I 189) (j8 : J' 188 = J 188) : yNm I' J' N := by
  obtain ⟨h1, h2, h3⟩ := h
  exact ⟨by rw [e]; exact h1, h2, by rw [e9, j8]; exact h3⟩
theorem kk_lt {W : Nat → Int32} {L k : Nat} (h : kk W L k ≠ 0) : tp W L k < L := by
  rcases Nat.lt_or_ge (tp W L k) L with x | x
  · exact x
  · exact absurd (by rw [kk, tKd, if_pos x]) h
theorem tp_up {W : Nat → Int32} {L t : Nat} (h : kLv W L t) : ∀ n i, i + (n + 1) ≤ t → tp W L i < tp W L (i + (n + 1)) := by
  intro n
  induction n with
  | zero => intro i hi; exact tp_lt W L (kk_lt (h.2 i (by omega)).1)
  | succ n ih =>
    intro i hi
    exact Nat.lt_trans (ih i (by omega)) (tp_lt W L (kk_lt (h.2 (i + (n + 1)) (by omega)).1))
theorem tp_ij {W : Nat → Int32} {L t i j : Nat} (h : kLv W L t) (hj : j ≤ t) (hi : i < j) : tp W L i < tp W L j := by
  have := tp_up h (j - i - 1) i (by omega)
  rw [show i + (j - i - 1 + 1) = j by omega] at this
  exact this
section MST
variable {d : Nat} {xL : Nat} {I : Nat → Nat → Int32} {J : Nat → Nat → Int64} {rc rx rr : Nat} {Q : Option Value → mHp → Prop} {L : Nat} {W : Nat → Int32} {t f i : Nat} {N : pNs} {r : yX} {w : yW}
theorem c155 (e13 : I 180 13 = 0) (hi : i < 403) (h4 : I 184 i = nI (tp W L i)) (hb : tp W L i < 2 ^ 31) (h5 : I 180 15 = nI w.1) (h6 : w.1 < 6) {k : Nat} (hk : k < 6) (hw : w.1 ≠ 0 → I 180 16 = nI (tp W L w.2) ∧ (tp W L w.2 < tp W L i ∨ (w.2 = i ∧ w.1 ≤ k))) {y : Int32} (hy : y = nI k) : WP d 155 0 [.ref 180, .int y, .int (nI i), mDum] [] (mHh xL I J (mRf rc rx rr)) Q = Q none (mHh xL (yWr I (nI k) (nI (tp W L i))) J (mRf rc rx rr)) := by
  subst hy
  have m1 : mIn (nI i) 403 = true := mIn_nI (by omega) (by omega)
  have m2 : (nI i).toNatClampNeg = i := nI_clamp (by omega)
  have n0 : ¬ (0 : Int32) < 0 := by decide
  have e : (nI w.1 = 0) ↔ w.1 = 0 := in_eq 0 (by decide) (by omega)
  rw [yWr, h5]
  simp only [w155_0, w155_1, w155_4, w155_5, m1, m2, h4, w155_6, w155_7, w155_8, e13, w155_11, n0, ↓reduceIte, w155_14, w155_15, h5, w155_18, e]
  by_cases c : w.1 = 0
  · simp only [if_pos c, w155_46, w155_47, w155_48, w155_51, w155_52, w155_53, w155_56]
  · obtain ⟨q1, q2⟩ := hw c
    simp only [if_neg c, w155_21, w155_22, w155_23, q1, w155_26]
    rcases q2 with q2 | ⟨q2, q3⟩
    · have g : nI (tp W L w.2) < nI (tp W L i) := by
        have := nI_ge (a := tp W L i) (b := tp W L w.2)
        exact Int32.not_le.1 (nI_ge q2 (by omega))
      simp only [g, ↓reduceIte, w155_45]
    · rw [q2]
      have g : ¬ nI (tp W L i) < nI (tp W L i) := fun z => Int32.lt_irrefl z
      have g2 : ¬ nI k < nI w.1 := fun z => (Int32.not_le.2 z) (nI_le q3 (by omega))
      simp only [g, ↓reduceIte, w155_29, w155_30, w155_31, q1, q2, w155_34, w155_37, w155_38, w155_39, h5, w155_42, g2, w155_45]
end MST
