/-! A game, as the model lays it out and goes back through it. -/
def gP (η : mHs) (o : Option mRo5) (mv : Nat) : Option mRo5 := match o with
  | some r => if gOk η r (mv / 7) (mv % 7) then some (gC η r (mv / 7) (mv % 7)) else none
  | none => none
def gN (η : mHs) (ρ : mRo5) : Nat → Nat → Option mRo5
  | 0, _ => some ρ
  | L + 1, i => gP η (gN η ρ L (i / 14)) (i % 14)
def tE (I : Nat → Nat → Int32) (x : Nat) (o : Option mRo5) : Prop := match o with
  | some r => ∀ k, k < 8 → I 220 (8 * x + k) = r k
  | none => I 220 (8 * x + 5) = -1
theorem tE_k {I I' : Nat → Nat → Int32} {x : Nat} {o : Option mRo5} (h : ∀ k, k < 8 → I' 220 (8 * x + k) = I 220 (8 * x + k)) (t : tE I x o) : tE I' x o := by
  cases o with
  | none => show I' 220 (8 * x + 5) = -1; rw [h 5 (by decide)]; exact t
  | some r => intro k hk; rw [h k hk]; exact t k hk
theorem gN_ok {η : mHs} {ρ : mRo5} (hk : hOk η) (ho : rOk η ρ) {m : Nat} (h5 : ρ 5 = nI m) (hm : m + 8 < 2 ^ 30) : ∀ L i r, L ≤ 4 → gN η ρ L i = some r → rOk η r ∧ r 5 = nI (m + L) := by
  intro L
  induction L with
  | zero =>
    intro i r _ h
    injection h with h; subst h; exact ⟨ho, h5⟩
  | succ L ih =>
    intro i r hL h
    rw [gN] at h
    cases hx : gN η ρ L (i / 14) with
    | none => rw [hx] at h; cases h
    | some q =>
      rw [hx, gP] at h
      obtain ⟨a, b⟩ := ih (i / 14) q (by omega) hx
      by_cases hg : gOk η q (i % 14 / 7) (i % 14 % 7) = true
      · rw [if_pos hg] at h
        injection h with h; subst h
        obtain ⟨c, e, -, -⟩ := gC_ok hk a hg b (by omega)
        exact ⟨c, by rw [e]; congr 1⟩
      · rw [if_neg hg] at h; cases h
/-- what a row laid out may write -/
def fS (I I' : Nat → Nat → Int32) : Prop := (∀ a, a ≠ 210 → a ≠ 211 → a ≠ 213 → a ≠ 214 → a ≠ 180 → a ≠ 220 → I' a = I a) ∧ ∀ k, k ≠ 48 → I' 180 k = I 180 k
theorem fS_t {I I1 I2 : Nat → Nat → Int32} (h1 : fS I I1) (h2 : fS I1 I2) : fS I I2 := ⟨fun a x y z u w v => by rw [h2.1 a x y z u w v, h1.1 a x y z u w v], fun k x => by rw [h2.2 k x, h1.2 k x]⟩
theorem fH_S {I I' : Nat → Nat → Int32} (h : fH I I') : fS I I' := ⟨fun a x y z u w _ => h.1 a x y z u w, h.2⟩
theorem fS_h {I I' : Nat → Nat → Int32} {s : Nat} {η : mHs} (h : fS I I') (hh : mMh I s η) : mMh I' s η := mMh_keep (fun a p q => h.1 a (by omega) (by omega) (by omega) (by omega) (by omega) (by omega)) (h.2 18 (by decide)) hh
theorem fS_l {I I' : Nat → Nat → Int32} (h : fS I I') (hl : lvI I) : lvI I' := fun k hk => by rw [h.1 219 (by decide) (by decide) (by decide) (by decide) (by decide) (by decide)]; exact hl k hk
section GAE
variable {d : Nat} {xL : Nat} {I : Nat → Nat → Int32} {J : Nat → Nat → Int64} {rc rx rr : Nat} {Q : Option Value → mHp → Prop} {s : Nat} {η : mHs} {ρ : mRo5}
theorem c238v (hh : mMh I s η) (hk : hOk η) (hr : mRr I ρ) (ho : rOk η ρ) {m : Nat} (h5 : ρ 5 = nI m) (hm : m < 2 ^ 30) (h52 : I 180 52 = 1) {mv : Nat} (hv : mv < 14) (hQ1 : gP η (some ρ) mv = none → Q (some (.int 0)) (mHh xL I J (mRf rc rx rr))) (hQ2 : ∀ r, gP η (some ρ) mv = some r → ∀ I', fH I I' → mRr I' r → Q (some (.int 1)) (mHh xL I' J (mRf rc rx rr))) : WP (d + 6) 238 0 [.ref 180, .int (nI mv), mDum, mDum, mDum] [] (mHh xL I J (mRf rc rx rr)) Q := by
  have hm7 : 7 * (mv / 7) + mv % 7 = mv := by omega
  have c := c238 (d := d) (xL := xL) (J := J) (rc := rc) (rx := rx) (rr := rr) (Q := Q) hh hk hr ho h5 hm h52 (t := mv / 7) (j := mv % 7) (by omega) (by omega) (fun hg => hQ1 (by rw [gP, if_neg (by rw [hg]; decide)])) (fun hg => hQ2 _ (by rw [gP, if_pos hg]))
  rw [hm7] at c
  exact c
theorem c236 (hh : mMh I s η) (hk : hOk η) (hl : lvI I) (h52 : I 180 52 = 1) {L b : Nat} (hL : L < 3) (hb1 : lv L ≤ b) (hb2 : b < lv (L + 1)) {o : Option mRo5} (ht : tE I b o) {m : Nat} (hm : m + 8 < 2 ^ 30) (hok : ∀ r, o = some r → rOk η r ∧ r 5 = nI m)
    (hQ : ∀ I' : Nat → Nat → Int32, fS I I' → (∀ x k, k < 8 → (x < lv (L + 1) + 14 * (b - lv L) ∨ lv (L + 1) + 14 * (b - lv L) + 14 ≤ x) → I' 220 (8 * x + k) = I 220 (8 * x + k)) → (∀ mv, mv < 14 → tE I' (lv (L + 1) + 14 * (b - lv L) + mv) (gP η o mv)) → Q none (mHh xL I' J (mRf rc rx rr))) :
    WP (d + 7) 236 0 [.ref 180, .int (nI b), .int (nI L), mDum, mDum, mDum, mDum] [] (mHh xL I J (mRf rc rx rr)) Q := by
  obtain ⟨l1, l2, l3⟩ := lv_s L (by omega)
  have l4 := l3 hL
  have l5 : lv (L + 2) ≤ 2955 := (lv_s (L + 1) (by omega)).2.1
  have e8 : ∀ k, 8 * nI k = nI (8 * k) := fun k => pk_mul 8 k
  have a5 : mIn 5 8 = true := by decide
  have n5 : (5 : Int32).toNatClampNeg = 5 := rfl
  simp only [w236_0, w236_1]
  obtain ⟨c0, hc0⟩ : ∃ c0, c0 = lv (L + 1) + 14 * (b - lv L) := ⟨_, rfl⟩
  rw [← hc0] at hQ
  have hc1 : c0 + 14 ≤ 2955 := by omega
  have hbc : b < c0 := by omega
  have key : ∀ mv, mv ≤ 14 → ∀ (I' : Nat → Nat → Int32) (v4 v5 v6 : Value), fS I I' → (∀ x k, k < 8 → (x < c0 ∨ c0 + mv ≤ x) → I' 220 (8 * x + k) = I 220 (8 * x + k)) → (∀ j, j < mv → tE I' (c0 + j) (gP η o j)) → WP (d + 7) 236 2 [.ref 180, .int (nI b), .int (nI L), .int (nI mv), v4, v5, v6] [] (mHh xL I' J (mRf rc rx rr)) Q := by
    refine iter_dn ?_ ?_
    · intro mv hv ih I' v4 v5 v6 f ko t
      have g1 : ¬ 14 ≤ nI mv := by rw [ni_le 14 (by decide) (by omega)]; omega
      rw [w236_2]
      simp only [w236_3, w236_5, g1, ↓reduceIte, w236_8, w236_9, w236_10]
      refine c237 (show b < 2955 by omega) ?_
      intro I1 f1 r1
      have F1 : fS I I1 := fS_t f ⟨fun a p q r w u _ => f1 a r, fun k _ => by rw [f1 180 (by decide)]⟩
      have e220 : I1 220 = I' 220 := f1 220 (by decide)
      have rb : ∀ k, k < 8 → I1 213 k = I 220 (8 * b + k) := fun k hk => by rw [r1 k hk, ko b k hk (Or.inl hbc)]
      -- the row is laid down for the move
      have cpy : ∀ (I2 : Nat → Nat → Int32) (z4 : Int32) (v5 v6 : Value), fS I I2 → I2 220 = I' 220 → (match gP η o mv with | some r => ∀ k, k < 8 → I2 213 k = r k | none => I2 213 5 = -1) → WP (d + 7) 236 49 [.ref 180, .int (nI b), .int (nI L), .int (nI mv), .int z4, v5, v6] [] (mHh xL I2 J (mRf rc rx rr)) Q := by
        intro I2 z4 v5 v6 f2 e2 h2
        have hl2 := fS_l f2 hl
        simp only [w236_49, w236_51, w236_52, w236_53, w236_54, w236_55, c239 hl2 (show L < 4 by omega) hb1 (show b < 2955 by omega), ↓reduceIte, Option.toList_some, Option.toList_none, List.cons_append, List.nil_append, Int32.reduceAdd, Int32.reduceLT, Int32.reduceLE, Int32.reduceToNatClampNeg, w236_58, e8, ← hc0, w236_59, w236_61, w236_62]
        have L2 : ∀ k, k ≤ 8 → ∀ I3 : Nat → Nat → Int32, (∀ a, a ≠ 220 → I3 a = I2 a) → (∀ x, (x < 8 * (c0 + mv) ∨ 8 * (c0 + mv) + 8 ≤ x) → I3 220 x = I2 220 x) → (∀ j, j < k → I3 220 (8 * (c0 + mv) + j) = I2 213 j) → WP (d + 7) 236 64 [.ref 180, .int (nI b), .int (nI L), .int (nI mv), .int z4, .int (nI (8 * (c0 + mv))), .int (nI k)] [] (mHh xL I3 J (mRf rc rx rr)) Q := by
          refine iter_dn ?_ ?_
          · intro k hk ih2 I3 f3 k3 t3
            have g2 : ¬ 8 ≤ nI k := by rw [ni_le 8 (by decide) (by omega)]; omega
            have a1 : mIn (nI k) 8 = true := mIn_nI (by omega) (by omega)
            have a2 : (nI k).toNatClampNeg = k := nI_clamp (by omega)
            have a3 : mIn (nI (8 * (c0 + mv) + k)) 23640 = true := mIn_nI (by omega) (by omega)
            have a4 : (nI (8 * (c0 + mv) + k)).toNatClampNeg = 8 * (c0 + mv) + k := nI_clamp (by omega)
            have e13 : I3 213 k = I2 213 k := by rw [f3 213 (by decide)]
            rw [w236_64]
            simp only [w236_66, w236_68, g2, ↓reduceIte, w236_71, w236_72, w236_75, w236_77, w236_79, nI_add, w236_80, w236_81, w236_84, w236_86, a1, a2, e13, w236_87, a3, a4, w236_88, w236_91, nI_1]
            refine ih2 _ (fun a p => by rw [mU_f p, f3 a p]) ?_ ?_
            · intro x hx
              rw [mU_k (by omega)]; exact k3 x hx
            · intro j hj
              by_cases e : j = k
              · subst e; exact mU_s _ _ _ _
              · rw [mU_k (by omega)]; exact t3 j (by omega)
          · intro I3 f3 k3 t3
            have g2 : 8 ≤ nI 8 := by decide
            have F3 : fS I I3 := fS_t f2 ⟨fun a _ _ _ _ _ v => f3 a v, fun k _ => by rw [f3 180 (by decide)]⟩
            rw [w236_64]
            simp only [w236_66, w236_68, g2, ↓reduceIte, w236_94, w236_97, nI_1]
            refine ih I3 _ _ _ F3 ?_ ?_
            · intro x k hk hx
              rw [k3 _ (by omega), e2]
              exact ko x k hk (by omega)
            · intro j hj
              by_cases e : j = mv
              · subst e
                cases hg : gP η o j with
                | none =>
                  rw [hg] at h2
                  show I3 220 (8 * (c0 + j) + 5) = -1
                  rw [t3 5 (by decide)]; exact h2
                | some r =>
                  rw [hg] at h2
                  intro k hk
                  rw [t3 k hk]; exact h2 k hk
              · exact tE_k (fun k hk => by rw [k3 _ (by omega), e2]) (t j (by omega))
        exact L2 0 (by omega) I2 (fun _ _ => rfl) (fun _ _ => rfl) (fun j hj => absurd hj (by omega))
      have no : ∀ (I2 : Nat → Nat → Int32) (v4 v5 v6 : Value), fS I I2 → I2 220 = I' 220 → gP η o mv = none → WP (d + 7) 236 34 [.ref 180, .int (nI b), .int (nI L), .int (nI mv), v4, v5, v6] [] (mHh xL I2 J (mRf rc rx rr)) Q := by
        intro I2 v4 v5 v6 f2 e2 hg
        simp only [w236_34, w236_35, w236_37, w236_39, ↓reduceIte, w236_42, w236_43, w236_46, w236_47, w236_48]
        refine cpy _ 0 _ _ ⟨fun a x y z u w v => by rw [mU_f z, f2.1 a x y z u w v], fun k hk => by rw [mU_f (by decide), f2.2 k hk]⟩ (by rw [mU_f (by decide)]; exact e2) ?_
        rw [hg]
        exact mU_s _ _ _ _
      cases o with
      | none =>
        have e5 : I1 213 5 = -1 := by rw [rb 5 (by decide)]; exact ht
        have g2 : ((-1 : Int32) < 0) = True := by simp
        simp only [↓reduceIte, Option.toList_some, Option.toList_none, List.cons_append, List.nil_append, Int32.reduceAdd, Int32.reduceLT, Int32.reduceLE, Int32.reduceToNatClampNeg, w236_13, w236_14, w236_17, w236_18, e5, w236_19, g2]
        exact no I1 _ _ _ F1 e220 rfl
      | some r =>
        obtain ⟨ok, e5⟩ := hok r rfl
        have R1 : mRr I1 r := mR8_of (fun k hk => by rw [Nat.zero_add, rb k hk]; exact ht k hk) ok.2.2.2.2.2
        have e5' : I1 213 5 = nI m := by rw [mRr_at R1 (by omega)]; exact e5
        have g2 : ¬ nI m < 0 := nI_pos (by omega)
        simp only [↓reduceIte, Option.toList_some, Option.toList_none, List.cons_append, List.nil_append, Int32.reduceAdd, Int32.reduceLT, Int32.reduceLE, Int32.reduceToNatClampNeg, w236_13, w236_14, w236_17, w236_18, e5', w236_19, g2, w236_22, w236_23, w236_24]
        refine c238v (fS_h F1 hh) hk R1 ok e5 (by omega) (by rw [F1.2 52 (by decide)]; exact h52) hv ?_ ?_
        · intro hg
          simp only [↓reduceIte, Option.toList_some, Option.toList_none, List.cons_append, List.nil_append, Int32.reduceAdd, Int32.reduceLT, Int32.reduceLE, Int32.reduceToNatClampNeg, w236_27]
          exact no I1 _ _ _ F1 e220 hg
        · intro r' hg I2 f2 r2
          simp only [↓reduceIte, Option.toList_some, Option.toList_none, List.cons_append, List.nil_append, Int32.reduceAdd, Int32.reduceLT, Int32.reduceLE, Int32.reduceToNatClampNeg, w236_27, o01, ↓reduceIte, w236_30, w236_31, w236_35, w236_37, w236_39]
          refine cpy I2 1 _ _ (fS_t F1 (fH_S f2)) (by rw [f2.1 220 (by decide) (by decide) (by decide) (by decide) (by decide), e220]) ?_
          rw [hg]
          intro k hk
          exact mRr_at r2 hk
    · intro I' v4 v5 v6 f ko t
      have g1 : 14 ≤ nI 14 := by decide
      rw [w236_2]
      simp only [w236_3, w236_5, g1, ↓reduceIte, w236_100]
      exact hQ I' f ko t
  exact key 0 (by omega) I _ _ _ ⟨fun _ _ _ _ _ _ _ => rfl, fun _ _ => rfl⟩ (fun _ _ _ _ => rfl) (fun j hj => absurd hj (by omega))
end GAE
