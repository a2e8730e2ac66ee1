/-! The glass reads a unit. -/
def fR1 (I I' : Nat → Nat → Int32) : Prop := (∀ a, a ≠ 10 → I' a = I a) ∧ ∀ j, j ≠ 2 → j ≠ 3 → j ≠ 4 → I' 10 j = I 10 j
def fRd (l : Nat) (I I' : Nat → Nat → Int32) : Prop := (∀ a, a ≠ 10 → a ≠ l → a ≠ l + 1 → a ≠ l + 2 → I' a = I a) ∧ (∀ j, j ≠ 2 → j ≠ 3 → j ≠ 4 → I' 10 j = I 10 j) ∧ ∀ j, j ≠ 3 → I' l j = I l j
theorem fRd_0 {l : Nat} {I : Nat → Nat → Int32} : fRd l I I := ⟨fun _ _ _ _ _ => rfl, fun _ _ _ _ => rfl, fun _ _ => rfl⟩
theorem fRd_t {l : Nat} {I I1 I2 : Nat → Nat → Int32} (h1 : fRd l I I1) (h2 : fRd l I1 I2) : fRd l I I2 := ⟨fun a x y z w => by rw [h2.1 a x y z w, h1.1 a x y z w], fun j x y z => by rw [h2.2.1 j x y z, h1.2.1 j x y z], fun j x => by rw [h2.2.2 j x, h1.2.2 j x]⟩
theorem fR1_d {l : Nat} (hl : mLa l) {I I' : Nat → Nat → Int32} (h : fR1 I I') : fRd l I I' := by
  have := la_kx l hl
  exact ⟨fun a x _ _ _ => h.1 a x, h.2, fun j _ => by rw [h.1 l (by omega)]⟩
theorem laU_d {l : Nat} (hl : mLa l) (I : Nat → Nat → Int32) (s : Nat) (x y : Int32) : fRd l I (laU I l s x y) := by
  have := la_kx l hl
  refine ⟨fun a _ h1 h2 h3 => ?_, fun j _ _ _ => ?_, fun j hj => ?_⟩
  · rw [laU, mU_f h1, mU_f h3, mU_f h2]
  · rw [laU, mU_a (by omega), mU_a (by omega), mU_a (by omega)]
  · rw [laU, mU_k hj, mU_a (by omega), mU_a (by omega)]
theorem laU_r {l : Nat} (I : Nat → Nat → Int32) (s : Nat) (x y : Int32) : laU I l s x y l 3 = nI (s + 1) ∧ laU I l s x y (l + 1) s = x ∧ laU I l s x y (l + 2) s = y ∧ ∀ q, q ≠ s → laU I l s x y (l + 1) q = I (l + 1) q ∧ laU I l s x y (l + 2) q = I (l + 2) q := by
  refine ⟨mU_s _ _ _ _, ?_, ?_, fun q hq => ⟨?_, ?_⟩⟩
  · rw [laU, mU_a (by omega), mU_a (by omega), mU_s]
  · rw [laU, mU_a (by omega), mU_s]
  · rw [laU, mU_a (by omega), mU_a (by omega), mU_k hq]
  · rw [laU, mU_a (by omega), mU_k hq, mU_a (by omega)]
theorem fR1_fl (I : Nat → Nat → Int32) (f p : Int32) : fR1 I (gFl I f p) := by
  rw [gFl]
  split
  · exact ⟨fun a ha => by rw [mU_f ha, mU_f ha], fun j _ h3 h4 => by rw [mU_k h4, mU_k h3]⟩
  · exact ⟨fun _ _ => rfl, fun _ _ _ _ => rfl⟩
theorem fR1_go (I : Nat → Nat → Int32) (x : Int32) : fR1 I (mU I 10 2 x) := ⟨fun a ha => by rw [mU_f ha], fun j h2 _ _ => by rw [mU_k h2]⟩
theorem gRD_la {l : Nat} (hl : mLa l) {I : Nat → Nat → Int32} {J : Nat → Nat → Int64} {W : Nat → Int32} {L t f i : Nat} (h : gRD I J W L t f i) (s : Nat) (x y : Int32) : gRD (laU I l s x y) J W L t f i := by
  have k := la_kx l hl
  refine gRD_keep h (fun j _ => ?_) ?_ ?_ ?_
  · rw [laU, mU_a (by omega), mU_a (by omega), mU_a (by omega)]
  · rw [laU, mU_a (by omega), mU_a (by omega), mU_a (by omega)]
  · rw [laU, mU_f (by omega), mU_f (by omega), mU_f (by omega)]
  · rw [laU, mU_f (by omega), mU_f (by omega), mU_f (by omega)]
theorem xa_k {S N S' N' : Nat → Int32} : ∀ (c : List (Int32 × Int32)) (q : Nat), mXa S N c q → (∀ j, j < q + c.length → S' j = S j ∧ N' j = N j) → mXa S' N' c q := by
  intro c
  induction c with
  | nil => intro q _ _; trivial
  | cons p c ih =>
    intro q h hj
    have e := hj q (by rw [List.length_cons]; omega)
    exact ⟨e.1.trans h.1, e.2.trans h.2.1, ih (q + 1) h.2.2 (fun j hq => hj j (by rw [List.length_cons]; omega))⟩
theorem xa_a {S N : Nat → Int32} : ∀ (a b : List (Int32 × Int32)) (q : Nat), mXa S N a q → mXa S N b (q + a.length) → mXa S N (a ++ b) q := by
  intro a
  induction a with
  | nil => intro b q _ h; exact h
  | cons p a ih =>
    intro b q h h2
    refine ⟨h.1, h.2.1, ih b (q + 1) h.2.2 ?_⟩
    rw [show q + 1 + a.length = q + (p :: a).length by rw [List.length_cons]; omega]
    exact h2
theorem gk_f : ∀ k, k < 40 → (nI (gk k) = 4 ↔ k = 2) ∧ (nI (gk k) < 111 ↔ k < 31) ∧ ¬ 120 ≤ nI (gk k) ∧ (nI (gk k) = 40 ↔ k = 6) ∧ (31 ≤ k → nI (gk k) - 111 = nI (k - 31)) ∧ (nI (gk k) = 42 ↔ k = 10) ∧ (nI (gk k) = 47 ↔ k = 15) ∧ (nI (gk k) = 43 ↔ k = 8) ∧ (nI (gk k) = 45 ↔ k = 9) := by decide +kernel
def gPost (xL rc rx rr l s : Nat) (ms : Nat → Bool) (I : Nat → Nat → Int32) (J : Nat → Nat → Int64) (W : Nat → Int32) (L : Nat) (Q : Option Value → mHp → Prop) : (Nat × Nat) ⊕ (Nat × mCod) → Prop
  | .inl f => ∀ I' t', fRd l I I' → gRD I' J W L t' f.1 f.2 → (∃ s', s' ≤ 400 ∧ I' l 3 = nI s') → f.1 ≠ 0 → Q none (mHh xL I' J (mRf rc rx rr))
  | .inr r => ∀ I', fRd l I I' → gRD I' J W L r.1 0 0 → I' l 3 = nI (s + r.2.length) → (∀ q, q < s → I' (l + 1) q = I (l + 1) q ∧ I' (l + 2) q = I (l + 2) q) → mXa (I' (l + 1)) (I' (l + 2)) (r.2.map (mXs ms)) s → Q none (mHh xL I' J (mRf rc rx rr))
def gDp : Nat → Nat → Nat
  | 0, o => 3 * (6 - o) + 3
  | 1, o => 3 * (6 - o) + 4
  | 2, o => 3 * (6 - o) + 4
  | _, o => 3 * (6 - o) + 5
def gWt : Nat → Nat
  | 0 => 1
  | 1 => 2
  | 2 => 2
  | _ => 3
def gRun (xL rc rx rr l D o t : Nat) (I : Nat → Nat → Int32) (J : Nat → Nat → Int64) (Q : Option Value → mHp → Prop) : Nat → Prop
  | 0 => WP D 54 0 [.ref 10, .ref l, .int (nI o), mDum] [] (mHh xL I J (mRf rc rx rr)) Q
  | 1 => WP D 53 0 [.ref 10, .ref l, .int (nI o), mDum, mDum] [] (mHh xL I J (mRf rc rx rr)) Q
  | 2 => ∀ k v4, k < t → WP D 53 8 [.ref 10, .ref l, .int (nI o), .int (nI k), v4] [] (mHh xL I J (mRf rc rx rr)) Q
  | 3 => WP D 52 0 [.ref 10, .ref l, .int (nI o), mDum, mDum] [] (mHh xL I J (mRf rc rx rr)) Q
  | _ => ∀ k v4, k < t → WP D 52 8 [.ref 10, .ref l, .int (nI o), .int (nI k), v4] [] (mHh xL I J (mRf rc rx rr)) Q
def gOK (xL rc rx rr l : Nat) (ms : Nat → Bool) (M : Int32) (J : Nat → Nat → Int64) (W : Nat → Int32) (L n m : Nat) : Prop := ∀ o t D I s Q, o ≤ 6 → gDp m o ≤ D → 4 * (402 - t) + gWt m ≤ n → gRD I J W L t 0 0 → I l 2 = M → I l 3 = nI s → s < t → gPost xL rc rx rr l s ms I J W L Q (pE W L n m o t) → gRun xL rc rx rr l D o t I J Q m
section GUN
variable {d : Nat} {xL : Nat} {I : Nat → Nat → Int32} {J : Nat → Nat → Int64} {rc rx rr : Nat} {Q : Option Value → mHp → Prop} {L : Nat} {W : Nat → Int32} {t f i l : Nat} {ms : Nat → Bool} {M : Int32}
theorem c44n (h : gRD I J W L t 0 i) {κ : Nat} (hk : kk W L t = κ) (hκ : κ ≠ 0 ∧ κ ≠ 3) {y : Int32} (hy : y = nI (gk κ)) (hQ : ∀ I', fR1 I I' → (∀ f, nx t = .inl f → gRD I' J W L t f.1 f.2) → (∀ t1, nx t = .inr t1 → gRD I' J W L t1 0 0) → Q none (mHh xL I' J (mRf rc rx rr))) : WP (d + 2) 44 0 [.ref 10, .int y] [] (mHh xL I J (mRf rc rx rr)) Q := by
  have hlt : κ < 40 := by rw [← hk]; exact tKd_lt W L _
  have ht := h.2.1.1
  subst hy
  rw [c44 h hlt, if_pos hk]
  by_cases t4 : t = 400
  · rw [if_pos t4]
    have := gRD_fl h (g := 2) (by decide) (by decide)
    rw [if_pos rfl, if_pos rfl] at this
    refine hQ _ (fR1_fl _ _ _) (fun f e => ?_) (fun t1 e => ?_)
    · obtain ⟨-, e2⟩ := nx_l e
      rw [e2]; exact this
    · rw [nx, if_pos t4] at e; cases e
  · rw [if_neg t4, if_pos rfl]
    have := gRD_go h (by omega) (by rw [hk]; exact hκ)
    refine hQ _ (fR1_go _ _) (fun f e => ?_) (fun t1 e => ?_)
    · rw [nx, if_neg t4] at e; cases e
    · rw [nx, if_neg t4] at e; cases e; exact this
theorem c44m (h : gRD I J W L t 0 i) {κ : Nat} (hk : kk W L t ≠ κ) (hlt : κ < 40) {y : Int32} (hy : y = nI (gk κ)) (hQ : ∀ I', fR1 I I' → gRD I' J W L t 1 t → Q none (mHh xL I' J (mRf rc rx rr))) : WP (d + 2) 44 0 [.ref 10, .int y] [] (mHh xL I J (mRf rc rx rr)) Q := by
  subst hy
  rw [c44 h hlt, if_neg hk]
  have := gRD_fl h (g := 1) (by decide) (by decide)
  rw [if_pos rfl, if_pos rfl] at this
  exact hQ _ (fR1_fl _ _ _) this
theorem c44f (h : gRD I J W L t f i) (f0 : f ≠ 0) {κ : Nat} (hlt : κ < 40) {y : Int32} (hy : y = nI (gk κ)) : WP (d + 2) 44 0 [.ref 10, .int y] [] (mHh xL I J (mRf rc rx rr)) Q = Q none (mHh xL I J (mRf rc rx rr)) := by
  subst hy
  have e : ¬ I 10 3 = 0 := by rw [h.2.2.2.1, in_eq 0 (by decide) (by have := h.2.2.2.2.1; omega)]; exact f0
  rw [c44 h hlt, gFl, gFl, if_neg e, if_neg e, if_neg f0]
  congr 2
  repeat' split
  all_goals rfl
theorem c30 (hl : mLa l) {s v : Nat} (hs : I l 3 = nI s) (h4 : s < 400) (hm : (I l 2 >>> (nI v &&& 31)) &&& 1 = 1 ↔ ms v = true) (hv : v < 2 ^ 31) : WP (d + 1) 30 0 [.ref l, .int (nI v)] [] (mHh xL I J (mRf rc rx rr)) Q = Q none (mHh xL (laU I l s (mXs ms (1, nI v)).1 (mXs ms (1, nI v)).2) J (mRf rc rx rr)) := by
  have e : mXs ms (1, nI v) = if ms v then (5, nI v) else (4, 0) := by
    rw [mXs, if_neg (show ¬ (1 : Nat) = 0 by decide), if_pos rfl, nI_clamp hv]
  rw [e]
  simp only [w30_0, w30_1 (ha := hl), w30_4, w30_5, w30_6, w30_7, w30_8, w30_9, hm]
  by_cases hc : ms v = true
  · simp only [hc, ↓reduceIte, w30_12, w30_13, w30_14, w30_15 (hb := hl), c31 hl hs (show s ≤ 400 by omega), if_neg (show ¬ s = 400 by omega), ↓reduceIte, Option.toList_some, Option.toList_none, List.cons_append, List.nil_append, Int32.reduceAdd, Int32.reduceLT, Int32.reduceLE, Int32.reduceToNatClampNeg, w30_18, w30_27]
  · have hc' : ms v = false := by simpa using hc
    simp only [hc', Bool.false_eq_true, ↓reduceIte, w30_21, w30_22, w30_23, w30_24 (hb := hl), c31 hl hs (show s ≤ 400 by omega), if_neg (show ¬ s = 400 by omega), ↓reduceIte, Option.toList_some, Option.toList_none, List.cons_append, List.nil_append, Int32.reduceAdd, Int32.reduceLT, Int32.reduceLE, Int32.reduceToNatClampNeg, w30_27]
theorem gPost_c {s : Nat} {I1 : Nat → Nat → Int32} {c1 : mCod} {r r2 : (Nat × Nat) ⊕ (Nat × mCod)} (f1 : fRd l I I1) (p1 : ∀ q, q < s → I1 (l + 1) q = I (l + 1) q ∧ I1 (l + 2) q = I (l + 2) q) (x1 : mXa (I1 (l + 1)) (I1 (l + 2)) (c1.map (mXs ms)) s) (h : gPost xL rc rx rr l s ms I J W L Q r) (hl : ∀ f, r2 = .inl f → r = .inl f) (hr : ∀ t2 c2, r2 = .inr (t2, c2) → r = .inr (t2, c1 ++ c2)) : gPost xL rc rx rr l (s + c1.length) ms I1 J W L Q r2 := by
  cases r2 with
  | inl f =>
    rw [hl f rfl] at h
    intro I' t' f2 g2 s2 n2
    exact h I' t' (fRd_t f1 f2) g2 s2 n2
  | inr p =>
    obtain ⟨t2, c2⟩ := p
    rw [hr t2 c2 rfl] at h
    intro I' f2 g2 s2 p2 x2
    refine h I' (fRd_t f1 f2) g2 ?_ (fun q hq => ?_) ?_
    · rw [s2]
      show nI (s + c1.length + c2.length) = nI (s + (c1 ++ c2).length)
      rw [List.length_append, Nat.add_assoc]
    · obtain ⟨a1, a2⟩ := p2 q (by omega)
      obtain ⟨b1, b2⟩ := p1 q hq
      exact ⟨a1.trans b1, a2.trans b2⟩
    · show mXa _ _ ((c1 ++ c2).map (mXs ms)) s
      rw [List.map_append]
      refine xa_a _ _ _ (xa_k _ _ x1 (fun j hj => ?_)) ?_
      · rw [List.length_map] at hj
        exact p2 j hj
      · rw [List.length_map]; exact x2
end GUN
