/-! All of both sides between two calls of the law. -/
def hrs (n : Nat) (ρ : mRo5) : Prop := ∃ m, m ≤ 200 * n ∧ ρ 5 = nI m
def bas (xL : Nat) (xs : Nat → Int32) (I : Nat → Nat → Int32) (J : Nat → Nat → Int64) : Prop := kI I ∧ kJ J ∧ xMk I 16 ∧ xMk I 41 ∧ ∀ j, j < xL → I 6 j = xs j
def lCo (n : Nat) (η : mHs) (ρ : mRo5) (u : Nat) (H : Nat → mRo5) (g : Nat) (K : Nat → mRo5) (L : Nat) (W : Nat → Int32) : Prop := (∀ i, i < L → vp_nar .byte (W i) = W i) ∧ hrs n ρ ∧ (∀ i, i < u → rOk η (H i) ∧ hrs n (H i)) ∧ ∀ k, k < 3 → g.testBit k = true → rOk η (K k) ∧ hrs n (K k)
def lOo (o o' : Nat) : Prop := (o = 16 ∧ o' = 41) ∨ (o = 41 ∧ o' = 16)
def lIx (xL : Nat) (xs : Nat → Int32) (n : Nat) (I : Nat → Nat → Int32) (J : Nat → Nat → Int64) (o o' : Nat) : Prop := lOo o o' ∧ bas xL xs I J ∧ ∃ s η ρ u H g K t τ L W pl, xV I I o η ρ u H g K t τ L W pl ∧ zV I I s η ρ u H g K t τ L W pl ∧ lCo n η ρ u H g K L W
theorem hrs_s {n : Nat} {ρ : mRo5} (h : hrs n ρ) : hrs (n + 1) ρ := by
  obtain ⟨m, h1, h2⟩ := h
  exact ⟨m, by omega, h2⟩
theorem hrs_m {n : Nat} {ρ : mRo5} (h : hrs n ρ) (hn : n ≤ 512) : ∃ m, m ≤ 2 ^ 29 ∧ ρ 5 = nI m := by
  obtain ⟨m, h1, h2⟩ := h
  exact ⟨m, by omega, h2⟩
section INV
variable {Z I I' : Nat → Nat → Int32} {J : Nat → Nat → Int64} {o o' s : Nat} {η : mHs} {ρ : mRo5} {u : Nat} {H : Nat → mRo5} {g : Nat} {K : Nat → mRo5} {t : Nat} {τ : mTo} {L : Nat} {W : Nat → Int32} {pl : Int32} {xL n : Nat} {xs : Nat → Int32}
theorem zV_up (e : ∀ a, 180 ≤ a → I' a = I a) (h : zV Z I s η ρ u H g K t τ L W pl) : zV I' I' s η ρ u H g K t τ L W pl := by
  obtain ⟨⟨a1, a2, a3, a4, a5⟩, ⟨b1, b2, b3⟩, c, k, tt, p, -⟩ := h
  have e8 : I' 180 = I 180 := e 180 (by decide)
  refine ⟨⟨a1, mMh_keep (fun a h1 _ => e a (by omega)) (by rw [e8]) a2, mNw_o (e 212 (by decide)) a3, a4, a5⟩, ⟨b1, by rw [e8]; exact b2, by rw [e 215 (by decide)]; exact b3⟩, zSl_k (e 226 (by decide)) (e 227 (by decide)) c, zK_k (fun a h1 _ => e a (by omega)) (by rw [e8]) k, zTp_k (e 181 (by decide)) (by rw [e8]) tt, by rw [e8]; exact p, fun _ _ => rfl⟩
theorem xV_up (e : ∀ a, a < 180 → I' a = I a) (h : xV Z I o η ρ u H g K t τ L W pl) : xV I' I' o η ρ u H g K t τ L W pl := by
  obtain ⟨a, b, c, k, tt, p, -⟩ := h
  exact ⟨xB_k (fun a ha => e a (by omega)) a, xHi_k (fun a _ _ => e a (by omega)) b, xSl_k (fun a ha => e a (by omega)) c, xK_k (fun a _ _ => e a (by omega)) k, xTp_k (fun a ha => e a (by omega)) tt, by rw [e 7 (by decide)]; exact p, fun _ _ => rfl⟩
theorem kI_k (e : ∀ a, a = 4 ∨ a = 5 ∨ a = 219 → I' a = I a) (h : kI I) : kI I' := by
  obtain ⟨h1, h2, h3⟩ := h
  refine ⟨?_, ?_, fun k hk => ?_⟩
  · rw [e 4 (by omega)]; exact h1
  · rw [e 5 (by omega)]; exact h2
  · rw [e 219 (by omega)]; exact h3 k hk
theorem bas_x (b : bas xL xs I J) (f : ∀ a, (a < 7 ∨ (10 ≤ a ∧ a < 38) ∨ (41 ≤ a ∧ a < 62) ∨ 180 ≤ a) → I' a = I a) : bas xL xs I' J := by
  obtain ⟨b1, b2, b3, b4, b5⟩ := b
  exact ⟨kI_k (fun a ha => f a (by omega)) b1, b2, xMk_k b3 (fun k hk => f _ (by omega)), xMk_k b4 (fun k hk => f _ (by omega)), fun j hj => by rw [f 6 (by decide)]; exact b5 j hj⟩
theorem bas_z (b : bas xL xs I J) (f : ∀ a, (a < 180 ∨ (182 ≤ a ∧ a ≤ 209) ∨ a = 219) → I' a = I a) : bas xL xs I' J := by
  obtain ⟨b1, b2, b3, b4, b5⟩ := b
  exact ⟨kI_k (fun a ha => f a (by omega)) b1, b2, xMk_k b3 (fun k hk => f _ (by omega)), xMk_k b4 (fun k hk => f _ (by omega)), fun j hj => by rw [f 6 (by decide)]; exact b5 j hj⟩
theorem lIx_mk {I1 I2 : Nat → Nat → Int32} (ho : lOo o o') (b : bas xL xs I J) (h1 : xV I I1 o η ρ u H g K t τ L W pl) (h2 : zV I1 I2 s η ρ u H g K t τ L W pl) (c : lCo n η ρ u H g K L W) : lIx xL xs n I2 J o o' := by
  have f1 := h1.2.2.2.2.2.2
  have f2 := h2.2.2.2.2.2.2
  exact ⟨ho, bas_z (bas_x b f1) f2, s, η, ρ, u, H, g, K, t, τ, L, W, pl, xV_up (fun a ha => f2 a (Or.inl ha)) h1, zV_up (fun _ _ => rfl) h2, c⟩
/-- what the model stands on behind the glass's call -/
theorem zV_x {I1 : Nat → Nat → Int32} {η' : mHs} {ρ' : mRo5} {u' : Nat} {H' : Nat → mRo5} {g' : Nat} {K' : Nat → mRo5} {t' : Nat} {τ' : mTo} {L' : Nat} {W' : Nat → Int32} {pl' : Int32} (h1 : xV I I1 o η' ρ' u' H' g' K' t' τ' L' W' pl') (h2 : zV I I s η ρ u H g K t τ L W pl) : zV I1 I1 s η ρ u H g K t τ L W pl :=
  zV_up (fun a ha => h1.2.2.2.2.2.2 a (Or.inr (Or.inr (Or.inr ha)))) h2
theorem lCo_q (c : lCo n η ρ u H g K L W) : lCo (n + 1) η ρ u H g K L W := ⟨c.1, hrs_s c.2.1, fun i hi => ⟨(c.2.2.1 i hi).1, hrs_s (c.2.2.1 i hi).2⟩, fun k hk z => ⟨(c.2.2.2 k hk z).1, hrs_s (c.2.2.2 k hk z).2⟩⟩
theorem lCo_p {ρ' : mRo5} (c : lCo n η ρ u H g K L W) (ok : rOk η ρ) (h : hrs (n + 1) ρ') : lCo (n + 1) η ρ' (min (u + 1) 40) (hP ρ H) g K L W := by
  have c' := lCo_q c
  refine ⟨c'.1, h, fun i hi => ?_, c'.2.2.2⟩
  rw [hP]
  by_cases e : i = 0
  · rw [if_pos e]; exact ⟨ok, c'.2.1⟩
  · rw [if_neg e]; exact c'.2.2.1 (i - 1) (by omega)
theorem lCo_u (c : lCo n η ρ u H g K L W) (hu : 0 < u) : lCo (n + 1) η (H 0) (u - 1) (fun i => H (i + 1)) g K L W := by
  have c' := lCo_q c
  exact ⟨c'.1, (c'.2.2.1 0 hu).2, fun i hi => c'.2.2.1 (i + 1) (by omega), c'.2.2.2⟩
theorem lCo_h {k : Nat} (c : lCo n η ρ u H g K L W) (ok : rOk η ρ) (hg : g < 8) (hk : k < 3) : lCo (n + 1) η ρ u H (g ||| 2 ^ k) (kU K k ρ) L W := by
  have c' := lCo_q c
  refine ⟨c'.1, c'.2.1, c'.2.2.1, fun j hj z => ?_⟩
  rw [(gS g hg k hk).2 j hj] at z
  rw [kU]
  by_cases e : j = k
  · rw [if_pos e]; exact ⟨ok, c'.2.1⟩
  · rw [if_neg e]
    rw [decide_eq_false e, Bool.or_false] at z
    exact c'.2.2.2 j hj z
theorem lCo_r {k : Nat} (c : lCo n η ρ u H g K L W) (hk : k < 3) (z : g.testBit k = true) : lCo (n + 1) η (K k) 0 H g K L W := by
  have c' := lCo_q c
  exact ⟨c'.1, (c'.2.2.2 k hk z).2, fun i hi => absurd hi (Nat.not_lt_zero _), c'.2.2.2⟩
theorem lCo_t {L' : Nat} {W' : Nat → Int32} (c : lCo n η ρ u H g K L W) (h : ∀ i, i < L' → vp_nar .byte (W' i) = W' i) : lCo (n + 1) η ρ u H g K L' W' := by
  have c' := lCo_q c
  exact ⟨h, c'.2⟩
theorem lCo_0 {η' : mHs} (ok : hOk η') : lCo n η' (sR0 η') 0 H 0 K 0 W :=
  ⟨fun i hi => absurd hi (Nat.not_lt_zero _), ⟨0, Nat.zero_le _, if_neg (by have := ok.1; omega)⟩, fun i hi => absurd hi (Nat.not_lt_zero _), fun k _ z => by rw [Nat.zero_testBit] at z; cases z⟩
theorem hrs_6 {x : Int32} {k : Nat} (hk : k ≠ 5) (h : hrs n ρ) : hrs (n + 1) (rU ρ k x) := by
  obtain ⟨m, h1, h2⟩ := hrs_s h
  exact ⟨m, h1, by rw [rU, if_neg (fun z => hk z.symm)]; exact h2⟩
theorem hrs_h {k m : Nat} {sd : Int32} (hk : hOk η) (ok : rOk η ρ) (h5 : ρ 5 = nI m) (h1 : m ≤ 200 * n) (hn : n ≤ 512) (k2 : k ≤ 200) : hrs (n + 1) (sP η sd ρ k) :=
  ⟨m + k, by omega, (sP_ok hk ok sd h5 k (by omega)).2⟩
theorem byt_b (x s : Int32) : vp_nar .byte (byt x s) = byt x s := by
  simp [byt, vp_nar, narrow]
theorem wU_b {W : Nat → Int32} {i j : Nat} {x : Int32} (hx : vp_nar .byte x = x) (h : j = i ∨ vp_nar .byte (W j) = W j) : vp_nar .byte (wU W i x j) = wU W i x j := by
  rw [wU]
  by_cases e : j = i
  · rw [if_pos e]; exact hx
  · rw [if_neg e]; exact h.resolve_left e
theorem wA_b {W : Nat → Int32} {L j : Nat} {x : Int32} (h : (L ≤ j ∧ j < L + 4) ∨ vp_nar .byte (W j) = W j) : vp_nar .byte (wA W L x j) = wA W L x j := by
  rw [wA]
  by_cases e3 : j = L + 3
  · exact wU_b (byt_b _ _) (Or.inl e3)
  refine wU_b (byt_b _ _) (Or.inr ?_)
  by_cases e2 : j = L + 2
  · exact wU_b (byt_b _ _) (Or.inl e2)
  refine wU_b (byt_b _ _) (Or.inr ?_)
  by_cases e1 : j = L + 1
  · exact wU_b (byt_b _ _) (Or.inl e1)
  refine wU_b (byt_b _ _) (Or.inr ?_)
  by_cases e0 : j = L
  · exact wU_b (byt_b _ _) (Or.inl e0)
  exact wU_b (byt_b _ _) (Or.inr (h.resolve_left (by omega)))
theorem wF_b {W : Nat → Int32} {L : Nat} {a b c d e : Int32} (h : ∀ i, i < L → vp_nar .byte (W i) = W i) : ∀ i, i < L + 20 → vp_nar .byte (wF W L a b c d e i) = wF W L a b c d e i := by
  intro i hi
  rw [wF]
  by_cases e4 : L + 16 ≤ i
  · exact wA_b (Or.inl ⟨e4, by omega⟩)
  refine wA_b (Or.inr ?_)
  by_cases e3 : L + 12 ≤ i
  · exact wA_b (Or.inl ⟨e3, by omega⟩)
  refine wA_b (Or.inr ?_)
  by_cases e2 : L + 8 ≤ i
  · exact wA_b (Or.inl ⟨e2, by omega⟩)
  refine wA_b (Or.inr ?_)
  by_cases e1 : L + 4 ≤ i
  · exact wA_b (Or.inl ⟨e1, by omega⟩)
  refine wA_b (Or.inr ?_)
  by_cases e0 : L ≤ i
  · exact wA_b (Or.inl ⟨e0, by omega⟩)
  exact wA_b (Or.inr (h i (by omega)))
end INV
