/-! The model reads a law: one state for both, in a fault or not. -/
abbrev yL := (Nat × Nat) ⊕ (Nat × Nat)
/-- r: the fault, or the token and how long the code is; b: how many branches -/
def yLs (I : Nat → Nat → Int32) (J : Nat → Nat → Int64) (W : Nat → Int32) (L B b : Nat) (r : yL) : Prop := I 180 35 = nI b ∧ match r with
  | .inl f => (∃ t, mRD I J W L t f.1 f.2) ∧ f.1 ≠ 0 ∧ ∃ s, s ≤ B + 405 ∧ I 180 41 = nI s
  | .inr p => mRD I J W L p.1 0 0 ∧ I 180 12 = 0 ∧ I 180 41 = nI p.2 ∧ p.2 ≤ B + p.1
def sTa (W : Nat → Int32) (L κ : Nat) (p : Nat × Nat) : yL := bd (pTt W L κ p.1) fun t1 => .inr (t1, p.2)
def sEx (W : Nat → Int32) (L : Nat) (p : Nat × Nat) : yL := bd (pE W L 2000 3 0 p.1) fun q => .inr (q.1, p.2 + q.2.length)
theorem yLs_b {I : Nat → Nat → Int32} {J : Nat → Nat → Int64} {W : Nat → Int32} {L B b : Nat} {r : yL} (h : yLs I J W L B b r) : I 180 35 = nI b := h.1
theorem yLs_s {I : Nat → Nat → Int32} {J : Nat → Nat → Int64} {W : Nat → Int32} {L B b : Nat} {r : yL} (h : yLs I J W L B b r) : ∃ s, s ≤ B + 405 ∧ I 180 41 = nI s := by
  cases r with
  | inl f => exact h.2.2.2
  | inr p => exact ⟨p.2, by have := h.2.1.2.1; have := h.2.2.2.2; omega, h.2.2.2.1⟩
theorem yLs_13 {I : Nat → Nat → Int32} {J : Nat → Nat → Int64} {W : Nat → Int32} {L B b : Nat} {r : yL} (h : yLs I J W L B b r) : (I 180 13 = 0 ↔ ∃ p, r = .inr p) ∧ (I 180 13 ≤ 0 ↔ ∃ p, r = .inr p) := by
  cases r with
  | inl f =>
    obtain ⟨⟨t, g⟩, f0, -⟩ := h.2
    have hf := g.2.2.2.2.2.1
    rw [g.2.2.2.2.1, in_eq 0 (by decide) (by omega), in_le 0 (by decide) (by omega)]
    exact ⟨⟨fun z => absurd z f0, fun z => by obtain ⟨p, e⟩ := z; cases e⟩, ⟨fun z => absurd (by omega) f0, fun z => by obtain ⟨p, e⟩ := z; cases e⟩⟩
  | inr p =>
    have e := h.2.1.2.2.2.2.1
    rw [e]
    exact ⟨⟨fun _ => ⟨p, rfl⟩, fun _ => rfl⟩, ⟨fun _ => ⟨p, rfl⟩, fun _ => by decide⟩⟩
/-- rows of branches alone are changed -/
def fBr (b : Nat) (I I' : Nat → Nat → Int32) : Prop := (∀ a, ¬ (202 ≤ a ∧ a ≤ 206) → I' a = I a) ∧ ∀ a, 202 ≤ a → a ≤ 206 → ∀ q, q ≠ b → I' a q = I a q
theorem fBr_u {b a : Nat} (ha : 202 ≤ a ∧ a ≤ 206) (I : Nat → Nat → Int32) (x : Int32) : fBr b I (mU I a b x) := by
  refine ⟨fun c hc => mU_f (by omega), fun c _ _ q hq => ?_⟩
  by_cases e : c = a
  · subst e; exact mU_k hq
  · rw [mU_a e]
theorem yLs_k {I I' : Nat → Nat → Int32} {J : Nat → Nat → Int64} {W : Nat → Int32} {L B b c : Nat} {r : yL} (h : yLs I J W L B b r) (f : fBr c I I') : yLs I' J W L B b r := by
  have e := f.1 180 (by decide)
  have k : ∀ {t f i}, mRD I J W L t f i → mRD I' J W L t f i := fun g => mRD_keep g (fun j _ => by rw [e]) (f.1 183 (by decide)) (f.1 184 (by decide)) (f.1 185 (by decide))
  refine ⟨by rw [e]; exact h.1, ?_⟩
  cases r with
  | inl f =>
    obtain ⟨⟨t, g⟩, f0, s, s1, s2⟩ := h.2
    exact ⟨⟨t, k g⟩, f0, s, s1, by rw [e]; exact s2⟩
  | inr p =>
    obtain ⟨g, q1, q2, q3⟩ := h.2
    exact ⟨k g, by rw [e]; exact q1, by rw [e]; exact q2, q3⟩
/-- all that a law may change: branches bl .. bh, code, the law's own ends -/
def fLw (M bl bh j : Nat) (I I' : Nat → Nat → Int32) : Prop := (∀ a, a ≠ 180 → ¬ (200 ≤ a ∧ a ≤ 209) → I' a = I a) ∧ (∀ k, k ≠ 11 → k ≠ 12 → k ≠ 13 → k ≠ 14 → k ≠ 35 → k ≠ 41 → k ≠ 45 → I' 180 k = I 180 k) ∧ (∀ a, 202 ≤ a → a ≤ 206 → ∀ q, (q < bl ∨ bh ≤ q) → I' a q = I a q) ∧ (∀ a, a = 200 ∨ a = 201 → ∀ q, q ≠ j → I' a q = I a q) ∧ fCd M I I'
theorem fLw_0 {M bl bh j : Nat} {I : Nat → Nat → Int32} : fLw M bl bh j I I := ⟨fun _ _ _ => rfl, fun _ _ _ _ _ _ _ _ => rfl, fun _ _ _ _ _ => rfl, fun _ _ _ _ => rfl, fCd_e rfl rfl rfl⟩
theorem fLw_t {M bl bh j : Nat} {I I1 I2 : Nat → Nat → Int32} (h1 : fLw M bl bh j I I1) (h2 : fLw M bl bh j I1 I2) : fLw M bl bh j I I2 := ⟨fun a x y => by rw [h2.1 a x y, h1.1 a x y], fun k a b c d e f g => by rw [h2.2.1 k a b c d e f g, h1.2.1 k a b c d e f g], fun a x y q hq => by rw [h2.2.2.1 a x y q hq, h1.2.2.1 a x y q hq], fun a x q hq => by rw [h2.2.2.2.1 a x q hq, h1.2.2.2.1 a x q hq], fCd_t h1.2.2.2.2 h2.2.2.2.2⟩
theorem fMe_w {M bl bh j : Nat} {I I' : Nat → Nat → Int32} (h : fMe M I I') : fLw M bl bh j I I' := ⟨fun a x y => h.1 a x (by omega) (by omega) (by omega), fun k a b c d _ f g => h.2.1 k a b c d f g, fun a x y q _ => by rw [h.1 a (by omega) (by omega) (by omega) (by omega)], fun a x q _ => by rw [h.1 a (by omega) (by omega) (by omega) (by omega)], h.2.2⟩
theorem fBr_w {M bl bh j b : Nat} {I I' : Nat → Nat → Int32} (hb : bl ≤ b ∧ b < bh) (h : fBr b I I') : fLw M bl bh j I I' := ⟨fun a x y => h.1 a (by omega), fun k _ _ _ _ _ _ _ => by rw [h.1 180 (by decide)], fun a x y q hq => h.2 a x y q (by omega), fun a x q _ => by rw [h.1 a (by omega)], fCd_e (by rw [h.1 180 (by decide)]) (h.1 207 (by decide)) (h.1 208 (by decide))⟩
theorem fLw_up {M bl bl' bh j : Nat} {I I' : Nat → Nat → Int32} (hb : bl ≤ bl') (h : fLw M bl' bh j I I') : fLw M bl bh j I I' := ⟨h.1, h.2.1, fun a x y q hq => h.2.2.1 a x y q (by omega), h.2.2.2⟩
section MLW2
variable {d B b : Nat} {xL : Nat} {I : Nat → Nat → Int32} {J : Nat → Nat → Int64} {rc rx rr : Nat} {Q : Option Value → mHp → Prop} {L : Nat} {W : Nat → Int32} {r : yL}
theorem c154u (h : yLs I J W L B b r) {κ : Nat} (hκ : κ < 40) (h03 : κ ≠ 0 ∧ κ ≠ 3) {y : Int32} (hy : y = nI κ) (hQ : ∀ I', fM1 I I' → yLs I' J W L B b (bd r (sTa W L κ)) → Q none (mHh xL I' J (mRf rc rx rr))) : WP (d + 2) 154 0 [.ref 180, .int y] [] (mHh xL I J (mRf rc rx rr)) Q := by
  cases r with
  | inl f =>
    have hh := h
    obtain ⟨⟨t, g⟩, f0, -⟩ := h.2
    rw [c154f g f0]
    exact hQ I fM1_0 hh
  | inr p =>
    obtain ⟨t, s⟩ := p
    obtain ⟨h35, g, h12, h41, hs⟩ := h
    change mRD I J W L t 0 0 at g
    change I 180 41 = nI s at h41
    change s ≤ B + t at hs
    refine c154t g hκ h03 hy (fun I' r1 q1 q2 => hQ I' r1 ?_)
    have e35 : I' 180 35 = nI b := by rw [r1.2 35 (by decide) (by decide) (by decide)]; exact h35
    have e41 : I' 180 41 = nI s := by rw [r1.2 41 (by decide) (by decide) (by decide)]; exact h41
    have ht := g.2.1
    show yLs I' J W L B b (bd (pTt W L κ t) fun t1 => .inr (t1, s))
    cases c : pTt W L κ t with
    | inl f => exact ⟨e35, ⟨t, (q1 f c).1⟩, (q1 f c).2, s, by omega, e41⟩
    | inr t1 =>
      have et := (pTt_r (g.2.2.1 rfl) h03 c).2.1
      exact ⟨e35, q2 t1 c, by rw [r1.2 12 (by decide) (by decide) (by decide)]; exact h12, e41, by show s ≤ B + t1; omega⟩
theorem c162u (hB : B ≤ 430) (h : yLs I J W L B b r) (hQ : ∀ I', fMe (B + 405) I I' → yLs I' J W L B b (bd r (sEx W L)) → (∀ p q, r = .inr p → pE W L 2000 3 0 p.1 = .inr q → mXa (I' 207) (I' 208) (q.2.map mMp) p.2) → Q none (mHh xL I' J (mRf rc rx rr))) : WP (d + 4) 162 0 [.ref 180, mDum, mDum] [] (mHh xL I J (mRf rc rx rr)) Q := by
  cases r with
  | inl f =>
    obtain ⟨h35, ⟨t, g⟩, f0, s, hs, h41⟩ := h
    refine c162f (M := B + 405) g f0 (fun I' f1 g1 => hQ I' f1 ⟨?_, ⟨t, g1⟩, f0, ?_⟩ (fun p q e => by cases e))
    · rw [f1.2.1 35 (by decide) (by decide) (by decide) (by decide) (by decide) (by decide)]; exact h35
    · obtain ⟨s', q1, q2, q3, -⟩ := f1.2.2 s hs h41
      exact ⟨s', q2, q3⟩
  | inr p =>
    obtain ⟨t, s⟩ := p
    obtain ⟨h35, g, h12, h41, hs⟩ := h
    change mRD I J W L t 0 0 at g
    change I 180 41 = nI s at h41
    change s ≤ B + t at hs
    have ht := g.2.1
    refine c162 (d := d) hB g h12 h41 hs (fun f e I' t' f1 g1 n1 => ?_) (fun t' c e I' f1 g1 y12 y41 _ x1 => ?_)
    · refine hQ I' f1 ?_ (fun p q e1 e2 => ?_)
      · refine ⟨by rw [f1.2.1 35 (by decide) (by decide) (by decide) (by decide) (by decide) (by decide)]; exact h35, ?_⟩
        show match (bd (pE W L 2000 3 0 t) fun q => (.inr (q.1, s + q.2.length) : yL)) with | .inl f => (∃ t, mRD I' J W L t f.1 f.2) ∧ f.1 ≠ 0 ∧ ∃ s, s ≤ B + 405 ∧ I' 180 41 = nI s | .inr p => mRD I' J W L p.1 0 0 ∧ I' 180 12 = 0 ∧ I' 180 41 = nI p.2 ∧ p.2 ≤ B + p.1
        rw [e]
        obtain ⟨s', q1, q2, q3, -⟩ := f1.2.2 s (by omega) h41
        exact ⟨⟨t', g1⟩, n1, s', q2, q3⟩
      · cases e1; rw [e] at e2; cases e2
    · have ok := pE3_ok (g.2.2.1 rfl) e
      refine hQ I' f1 ?_ (fun p q e1 e2 => ?_)
      · refine ⟨by rw [f1.2.1 35 (by decide) (by decide) (by decide) (by decide) (by decide) (by decide)]; exact h35, ?_⟩
        show match (bd (pE W L 2000 3 0 t) fun q => (.inr (q.1, s + q.2.length) : yL)) with | .inl f => (∃ t, mRD I' J W L t f.1 f.2) ∧ f.1 ≠ 0 ∧ ∃ s, s ≤ B + 405 ∧ I' 180 41 = nI s | .inr p => mRD I' J W L p.1 0 0 ∧ I' 180 12 = 0 ∧ I' 180 41 = nI p.2 ∧ p.2 ≤ B + p.1
        rw [e]
        refine ⟨g1, y12, y41, ?_⟩
        have o2 := ok.2.1
        change t + c.length ≤ t' at o2
        show s + c.length ≤ B + t'
        omega
      · cases e1; rw [e] at e2; cases e2; exact x1
theorem c166u (hB : B ≤ 430) (hb : b < 260) (h : yLs I J W L B b r) (hQ : ∀ I', fLw (B + 405) b (b + 1) 0 I I' → yLs I' J W L B (b + 1) (bd r (sEx W L)) → (∀ a, 202 ≤ a → a ≤ 204 → I' a = I a) → (I' 200 = I 200 ∧ I' 201 = I 201) → (∀ p q, r = .inr p → pE W L 2000 3 0 p.1 = .inr q → mXa (I' 207) (I' 208) (q.2.map mMp) p.2 ∧ I' 205 b = nI p.2 ∧ I' 206 b = nI (p.2 + q.2.length)) → Q none (mHh xL I' J (mRf rc rx rr))) : WP (d + 5) 166 0 [.ref 180] [] (mHh xL I J (mRf rc rx rr)) Q := by
  obtain ⟨s0, hs0, e41⟩ := yLs_s h
  have e35 := yLs_b h
  have a1 : mIn (nI b) 260 = true := mIn_nI (by omega) (by omega)
  have a2 : (nI b).toNatClampNeg = b := nI_clamp (by omega)
  simp only [w166_0, w166_1, w166_4, w166_5, e35, w166_8, w166_9, e41, w166_12 (hi := a1), a2, w166_13, w166_14]
  have f1 := fBr_u (b := b) (a := 205) (by decide) I (nI s0)
  have h1 := yLs_k h f1
  have i1 : mU I 205 b (nI s0) 205 b = nI s0 := mU_s _ _ _ _
  have k1 : ∀ a, a ≠ 205 → mU I 205 b (nI s0) a = I a := fun a ha => mU_f ha
  generalize mU I 205 b (nI s0) = I1 at *
  have h13 := (yLs_13 h1).1
  have fin : ∀ I2, fMe (B + 405) I1 I2 → yLs I2 J W L B b (bd r (sEx W L)) → (∀ p q, r = .inr p → pE W L 2000 3 0 p.1 = .inr q → mXa (I2 207) (I2 208) (q.2.map mMp) p.2) → WP (d + 5) 166 24 [.ref 180] [] (mHh xL I2 J (mRf rc rx rr)) Q := by
    intro I2 f2 h2 x2
    obtain ⟨s1, hs1, z41⟩ := yLs_s h2
    have z35 := yLs_b h2
    have y35 : mU I2 206 b (nI s1) 180 35 = nI b := by rw [mU_a (by decide)]; exact z35
    simp only [w166_24, w166_25, w166_28, w166_29, z35, w166_32, w166_33, z41, w166_36 (hi := a1), a2, w166_37, w166_38, w166_39, y35, w166_42, w166_43, nI_1, w166_44, w166_47]
    have f3 := fBr_u (b := b) (a := 206) (by decide) I2 (nI s1)
    have h3 := yLs_k h2 f3
    have i3 : mU I2 206 b (nI s1) 206 b = nI s1 := mU_s _ _ _ _
    have k3 : ∀ a, a ≠ 206 → mU I2 206 b (nI s1) a = I2 a := fun a ha => mU_f ha
    generalize mU I2 206 b (nI s1) = I3 at *
    have f4 : ∀ a, a ≠ 180 → mU I3 180 35 (nI (b + 1)) a = I3 a := fun a ha => mU_f ha
    have g4 : ∀ j, j ≠ 35 → mU I3 180 35 (nI (b + 1)) 180 j = I3 180 j := fun j hj => mU_k hj
    have fw : fLw (B + 405) b (b + 1) 0 I3 (mU I3 180 35 (nI (b + 1))) := ⟨fun a x _ => f4 a x, fun k _ _ _ _ e _ _ => g4 k e, fun a x y q _ => by rw [f4 a (by omega)], fun a x q _ => by rw [f4 a (by omega)], fCd_e (g4 41 (by decide)) (f4 207 (by decide)) (f4 208 (by decide))⟩
    have i4 : mU I3 180 35 (nI (b + 1)) 180 35 = nI (b + 1) := mU_s _ _ _ _
    refine hQ _ (fLw_t (fBr_w ⟨Nat.le_refl _, Nat.lt_succ_self _⟩ f1) (fLw_t (fMe_w f2) (fLw_t (fBr_w ⟨Nat.le_refl _, Nat.lt_succ_self _⟩ f3) fw))) ?_ (fun a p q => ?_) ⟨?_, ?_⟩ (fun p q e1 e2 => ?_)
    · refine ⟨i4, ?_⟩
      have k : ∀ {t f i}, mRD I3 J W L t f i → mRD (mU I3 180 35 (nI (b + 1))) J W L t f i := fun g => mRD_keep g (fun j hj => g4 j (by omega)) (f4 183 (by decide)) (f4 184 (by decide)) (f4 185 (by decide))
      have h32 := h3.2
      revert h32
      cases bd r (sEx W L) with
      | inl f =>
        rintro ⟨⟨t, g⟩, f0, s, s1, s2⟩
        exact ⟨⟨t, k g⟩, f0, s, s1, by rw [g4 41 (by decide)]; exact s2⟩
      | inr p =>
        rintro ⟨g, q1, q2, q3⟩
        exact ⟨k g, by rw [g4 12 (by decide)]; exact q1, by rw [g4 41 (by decide)]; exact q2, q3⟩
    · rw [f4 a (by omega), k3 a (by omega), f2.1 a (by omega) (by omega) (by omega) (by omega), k1 a (by omega)]
    · rw [f4 200 (by decide), k3 200 (by decide), f2.1 200 (by decide) (by decide) (by decide) (by decide), k1 200 (by decide)]
    · rw [f4 201 (by decide), k3 201 (by decide), f2.1 201 (by decide) (by decide) (by decide) (by decide), k1 201 (by decide)]
    · subst e1
      have s0p : nI s0 = nI p.2 := e41.symm.trans h.2.2.2.1
      have h23 := h2
      change yLs I2 J W L B b (bd (pE W L 2000 3 0 p.1) fun q => .inr (q.1, p.2 + q.2.length)) at h23
      rw [e2] at h23
      have s1p : nI s1 = nI (p.2 + q.2.length) := z41.symm.trans h23.2.2.2.1
      refine ⟨?_, ?_, ?_⟩
      · rw [f4 207 (by decide), f4 208 (by decide), k3 207 (by decide), k3 208 (by decide)]; exact x2 p q rfl e2
      · rw [f4 205 (by decide), k3 205 (by decide), f2.1 205 (by decide) (by decide) (by decide) (by decide), i1]; exact s0p
      · rw [f4 206 (by decide), i3]; exact s1p
  by_cases c : ∃ p, r = .inr p
  · have z : I1 180 13 = 0 := h13.2 c
    simp only [w166_17, z, ↓reduceIte, w166_20, w166_21]
    refine c162u (d := d) hB h1 (fun I2 f2 h2 x2 => ?_)
    simp only [↓reduceIte, Option.toList_some, Option.toList_none, List.cons_append, List.nil_append, Int32.reduceAdd, Int32.reduceLT, Int32.reduceLE, Int32.reduceToNatClampNeg]
    exact fin I2 f2 h2 x2
  · have z : ¬ I1 180 13 = 0 := fun e => c (h13.1 e)
    simp only [w166_17, z, ↓reduceIte]
    have er : ∃ f, r = .inl f := by
      cases r with
      | inl f => exact ⟨f, rfl⟩
      | inr p => exact absurd ⟨p, rfl⟩ c
    obtain ⟨f, rfl⟩ := er
    exact fin I1 fMe_0 h1 (fun p q e => by cases e)
end MLW2
