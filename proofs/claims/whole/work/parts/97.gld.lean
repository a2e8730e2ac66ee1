/-! The glass reads a law, from its word on. -/
def pLaw (W : Nat → Int32) (L t : Nat) : pLr := bd (nx t) fun t1 => bd (pTt W L 5 t1) fun t2 => pL W L 4 t2
section GLD
variable {d : Nat} {xL : Nat} {I : Nat → Nat → Int32} {J : Nat → Nat → Int64} {rc rx rr : Nat} {Q : Option Value → mHp → Prop} {L : Nat} {W : Nat → Int32} {t f i l : Nat} {ms : Nat → Bool} {M : Int32}
theorem lPost_t {I1 : Nat → Nat → Int32} (f1 : fRd l I I1) {r : pLr} (h : lPost xL rc rx rr l 0 ms I J W L Q r) : lPost xL rc rx rr l 0 ms I1 J W L Q r := by
  cases r with
  | inl f => exact fun I' f2 g => h I' (fRd_t f1 f2) g
  | inr r => exact fun I' f2 g s1 _ x1 => h I' (fRd_t f1 f2) g s1 (fun q hq => absurd hq (by omega)) x1
theorem c51 (hl : mLa l) (hM : ∀ v, v < 9 → ((M >>> (nI v &&& 31)) &&& 1 = 1 ↔ ms v = true)) (h : gRD I J W L t 0 0) (h2 : I l 2 = M) (k03 : kk W L t ≠ 0 ∧ kk W L t ≠ 3) (hP : lPost xL rc rx rr l 0 ms I J W L Q (pLaw W L t)) : WP (d + 24) 51 0 [.ref 10, .ref l, mDum, mDum] [] (mHh xL I J (mRf rc rx rr)) Q := by
  have hll := la_kx l hl
  have zf : ∀ I : Nat → Nat → Int32, fRd l I (mU I l 3 0) := fun I => ⟨fun a _ h1 _ _ => by rw [mU_f h1], fun j _ _ _ => by rw [mU_a (by omega)], fun j hj => by rw [mU_k hj]⟩
  have zg : ∀ {I : Nat → Nat → Int32} {t f i : Nat}, gRD I J W L t f i → gRD (mU I l 3 0) J W L t f i := by
    intro I t f i g
    refine gRD_keep g (fun j _ => ?_) ?_ ?_ ?_
    · rw [mU_a (by omega)]
    · rw [mU_a (by omega)]
    · rw [mU_f (by omega)]
    · rw [mU_f (by omega)]
  simp only [w51_0, w51_1, w51_2, c39 h, ↓reduceIte, Option.toList_some, Option.toList_none, List.cons_append, List.nil_append, Int32.reduceAdd, Int32.reduceLT, Int32.reduceLE, Int32.reduceToNatClampNeg, w51_5]
  refine c44n (d := d + 21) h (κ := kk W L t) rfl k03 rfl (fun I1 r1 q1 q2 => ?_)
  simp only [↓reduceIte, Option.toList_some, Option.toList_none, List.cons_append, List.nil_append, Int32.reduceAdd, Int32.reduceLT, Int32.reduceLE, Int32.reduceToNatClampNeg, w51_8, w51_9, w51_11]
  rw [pLaw] at hP
  cases e1 : nx t with
  | inl f =>
    rw [e1] at hP
    have g := q1 f e1
    have nf : f.1 ≠ 0 := by rw [(nx_l e1).2]; exact (by decide : (2 : Nat) ≠ 0)
    simp only [c44f (d := d + 21) (κ := 5) (y := 61) g nf (by decide) (by decide), ↓reduceIte, Option.toList_some, Option.toList_none, List.cons_append, List.nil_append, Int32.reduceAdd, Int32.reduceLT, Int32.reduceLE, Int32.reduceToNatClampNeg, w51_14, w51_15, w51_16 (ha := hl), w51_19, w51_20]
    have hg : gFS (mU I1 l 3 0) J W L l f.1 f.2 := ⟨⟨t, zg g⟩, nf, 0, by decide, mU_s _ _ _ _⟩
    rw [x21f hg]
    exact hP _ (fRd_t (fR1_d hl r1) (zf I1)) hg
  | inr t1 =>
    rw [e1] at hP; dsimp only [bd] at hP
    have g1 := q2 t1 e1
    have et := (nx_r h.2.1 k03 e1).1
    refine c44t (d := d + 21) g1 (κ := 5) (by decide) (by decide) (by decide) (fun I2 r2 q3 q4 => ?_)
    have fr2 := fRd_t (fR1_d hl r1) (fR1_d hl r2)
    simp only [↓reduceIte, Option.toList_some, Option.toList_none, List.cons_append, List.nil_append, Int32.reduceAdd, Int32.reduceLT, Int32.reduceLE, Int32.reduceToNatClampNeg, w51_14, w51_15, w51_16 (ha := hl), w51_19, w51_20]
    cases e2 : pTt W L 5 t1 with
    | inl f =>
      rw [e2] at hP
      obtain ⟨g, nf⟩ := q3 f e2
      have hg : gFS (mU I2 l 3 0) J W L l f.1 f.2 := ⟨⟨t1, zg g⟩, nf, 0, by decide, mU_s _ _ _ _⟩
      rw [x21f hg]
      exact hP _ (fRd_t fr2 (zf I2)) hg
    | inr t2 =>
      rw [e2] at hP; dsimp only [bd] at hP
      have et2 := (pTt_r g1.2.1 (by decide) e2).2.1
      exact gLw hl hM 4 0 t2 (mU I2 l 3 0) 0 _ Q rfl (zg (q4 t2 e2)) (by rw [mU_k (by decide), fr2.2.2 2 (by decide)]; exact h2) (mU_s _ _ _ _) (by omega) (lPost_t (fRd_t fr2 (zf I2)) hP)
end GLD
