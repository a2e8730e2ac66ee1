/-! The glass reads a law. -/
def lPost (xL rc rx rr l s : Nat) (ms : Nat → Bool) (I : Nat → Nat → Int32) (J : Nat → Nat → Int64) (W : Nat → Int32) (L : Nat) (Q : Option Value → mHp → Prop) : pLr → Prop
  | .inl f => ∀ I', fRd l I I' → gFS I' J W L l f.1 f.2 → Q none (mHh xL I' J (mRf rc rx rr))
  | .inr r => ∀ I', fRd l I I' → gRD I' J W L r.1 0 0 → I' l 3 = nI (s + (mXl ms r.2.1 r.2.2 s).length) → (∀ q, q < s → I' (l + 1) q = I (l + 1) q ∧ I' (l + 2) q = I (l + 2) q) → mXa (I' (l + 1)) (I' (l + 2)) (mXl ms r.2.1 r.2.2 s) s → Q none (mHh xL I' J (mRf rc rx rr))
section GLB
variable {d : Nat} {xL : Nat} {I : Nat → Nat → Int32} {J : Nat → Nat → Int64} {rc rx rr : Nat} {Q : Option Value → mHp → Prop} {L : Nat} {W : Nat → Int32} {t f i l : Nat} {ms : Nat → Bool} {M : Int32}
theorem c44t (h : gRD I J W L t 0 i) {κ : Nat} (hκ : κ < 40) (h03 : κ ≠ 0 ∧ κ ≠ 3) {y : Int32} (hy : y = nI (gk κ)) (hQ : ∀ I', fR1 I I' → (∀ f, pTt W L κ t = .inl f → gRD I' J W L t f.1 f.2 ∧ f.1 ≠ 0) → (∀ t1, pTt W L κ t = .inr t1 → gRD I' J W L t1 0 0) → Q none (mHh xL I' J (mRf rc rx rr))) : WP (d + 2) 44 0 [.ref 10, .int y] [] (mHh xL I J (mRf rc rx rr)) Q := by
  by_cases c : kk W L t = κ
  · have e : pTt W L κ t = nx t := by rw [pTt, if_pos c]
    rw [e] at hQ
    refine c44n h c h03 hy (fun I' r1 q1 q2 => hQ I' r1 (fun f z => ⟨q1 f z, ?_⟩) q2)
    rw [(nx_l z).2]; exact (by decide : (2 : Nat) ≠ 0)
  · have e : pTt W L κ t = .inl (1, t) := by rw [pTt, if_neg c]
    rw [e] at hQ
    refine c44m h c hκ hy (fun I' r1 g => hQ I' r1 (fun f z => ?_) (fun t1 z => by cases z))
    cases z
    exact ⟨g, (by decide : (1 : Nat) ≠ 0)⟩
/-- a sum, with what it leaves in two words -/
theorem c52w (hl : mLa l) (hM : ∀ v, v < 9 → ((M >>> (nI v &&& 31)) &&& 1 = 1 ↔ ms v = true)) (h : gRD I J W L t 0 0) (h2 : I l 2 = M) {s : Nat} (hs : I l 3 = nI s) (hst : s < t) (hF : ∀ f I', pE W L 2000 3 0 t = .inl f → fRd l I I' → gFS I' J W L l f.1 f.2 → Q none (mHh xL I' J (mRf rc rx rr))) (hQ : ∀ p I', pE W L 2000 3 0 t = .inr p → fRd l I I' → gRD I' J W L p.1 0 0 → I' l 3 = nI (s + p.2.length) → (∀ q, q < s → I' (l + 1) q = I (l + 1) q ∧ I' (l + 2) q = I (l + 2) q) → mXa (I' (l + 1)) (I' (l + 2)) (p.2.map (mXs ms)) s → Q none (mHh xL I' J (mRf rc rx rr))) : WP (d + 23) 52 0 [.ref 10, .ref l, .int 0, mDum, mDum] [] (mHh xL I J (mRf rc rx rr)) Q := by
  refine c52 hl hM h h2 hs hst ?_
  cases e : pE W L 2000 3 0 t with
  | inl f => exact fun I' t' f1 g s1 nf => hF f I' e f1 ⟨⟨t', g⟩, nf, s1⟩
  | inr p => exact fun I' f1 g s1 p1 x1 => hQ p I' e f1 g s1 p1 x1
theorem gLe (hl : mLa l) (hM : ∀ v, v < 9 → ((M >>> (nI v &&& 31)) &&& 1 = 1 ↔ ms v = true)) (h : gRD I J W L t 0 0) (h2 : I l 2 = M) {s : Nat} (hs : I l 3 = nI s) (hst : s < t) {v2 v3 : Value} (hP : lPost xL rc rx rr l s ms I J W L Q (pLe W L t)) : WP (d + 24) 51 125 [.ref 10, .ref l, v2, v3] [] (mHh xL I J (mRf rc rx rr)) Q := by
  have hll := la_kx l hl
  simp only [w51_125, w51_126, w51_127, w51_128]
  rw [pLe] at hP
  refine c52w hl hM h h2 hs hst (fun f I1 e f1 g => ?_) (fun p I1 e f1 g1 s1 p1 x1 => ?_)
  · rw [e] at hP
    have e3 := gFS_3 g
    have hh := g
    obtain ⟨⟨t1, g1⟩, f0, -⟩ := g
    simp only [↓reduceIte, Option.toList_some, Option.toList_none, List.cons_append, List.nil_append, Int32.reduceAdd, Int32.reduceLT, Int32.reduceLE, Int32.reduceToNatClampNeg, w51_131, w51_132, w51_134, c44f (d := d + 21) (κ := 4) (y := 59) g1 f0 (by decide) (by decide), w51_137]
    exact hP I1 f1 hh
  · rw [e] at hP
    change lPost xL rc rx rr l s ms I J W L Q (bd (pTt W L 4 p.1) fun t2 => .inr (t2, [], p.2)) at hP
    have ok := pE3_ok h.2.1 e
    have tb := g1.2.1.1
    simp only [↓reduceIte, Option.toList_some, Option.toList_none, List.cons_append, List.nil_append, Int32.reduceAdd, Int32.reduceLT, Int32.reduceLE, Int32.reduceToNatClampNeg, w51_131, w51_132, w51_134]
    refine c44t (d := d + 21) g1 (κ := 4) (by decide) (by decide) (by decide) (fun I2 r2 q1 q2 => ?_)
    simp only [↓reduceIte, Option.toList_some, Option.toList_none, List.cons_append, List.nil_append, Int32.reduceAdd, Int32.reduceLT, Int32.reduceLE, Int32.reduceToNatClampNeg, w51_137]
    have z3 : I2 l 3 = nI (s + p.2.length) := by rw [r2.1 l (by omega)]; exact s1
    cases e5 : pTt W L 4 p.1 with
    | inl f =>
      rw [e5] at hP
      obtain ⟨u1, u2⟩ := q1 f e5
      exact hP I2 (fRd_t f1 (fR1_d hl r2)) ⟨⟨p.1, u1⟩, u2, s + p.2.length, by omega, z3⟩
    | inr t2 =>
      rw [e5] at hP
      refine hP I2 (fRd_t f1 (fR1_d hl r2)) (q2 t2 e5) ?_ (fun q hq => ?_) ?_
      · show I2 l 3 = nI (s + (p.2.map (mXs ms)).length)
        rw [List.length_map]; exact z3
      · rw [r2.1 (l + 1) (by omega), r2.1 (l + 2) (by omega)]; exact p1 q hq
      · show mXa (I2 (l + 1)) (I2 (l + 2)) (p.2.map (mXs ms)) s
        rw [r2.1 (l + 1) (by omega), r2.1 (l + 2) (by omega)]; exact x1
end GLB
