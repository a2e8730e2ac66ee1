/-! The model reads what is told: its state, its half; a person. -/
def hfR (s a q : Nat) : Prop := (a = 180 ∧ (11 ≤ q ∧ q ≤ 16 ∨ q = 20 ∨ q = 35 ∨ q = 41 ∨ q = 45)) ∨ a = 189 ∨ a = 209 ∨ ((a = 190 ∨ a = 193 ∨ a = 198 ∨ a = 199) ∧ q = s) ∨ ((a = 191 ∨ a = 192) ∧ 5 * s ≤ q ∧ q < 5 * s + 5) ∨ ((194 ≤ a ∧ a ≤ 197) ∧ 6 * s ≤ q ∧ q < 6 * s + 6) ∨ ((a = 200 ∨ a = 201) ∧ 4 * s ≤ q ∧ q < 4 * s + 4) ∨ ((202 ≤ a ∧ a ≤ 206) ∧ 130 * s ≤ q ∧ q < 130 * s + 130) ∨ ((a = 207 ∨ a = 208) ∧ 420 * s ≤ q ∧ q < 420 * s + 420)
def fYt (s : Nat) (I I' : Nat → Nat → Int32) : Prop := ∀ a q, ¬ hfR s a q → I' a q = I a q
def jYt (J J' : Nat → Nat → Int64) : Prop := ∀ a, a ≠ 188 → J' a = J a
theorem fYt_0 {s : Nat} {I : Nat → Nat → Int32} : fYt s I I := fun _ _ _ => rfl
theorem fYt_t {s : Nat} {I I1 I2 : Nat → Nat → Int32} (h1 : fYt s I I1) (h2 : fYt s I1 I2) : fYt s I I2 := fun a q h => by rw [h2 a q h, h1 a q h]
theorem fYm_h {s : Nat} {I I' : Nat → Nat → Int32} (h : fYm I I') : fYt s I I' := by
  intro a q hn
  by_cases e : a = 180
  · subst e
    refine h.2 q ?_ ?_ ?_ ?_ ?_ <;> (unfold hfR at hn; omega)
  · rw [h.1 a e]
theorem fYt_u {s a q : Nat} (h : hfR s a q) (I : Nat → Nat → Int32) (x : Int32) : fYt s I (mU I a q x) := by
  intro c p hn
  by_cases e : c = a
  · subst e
    by_cases e2 : p = q
    · subst e2; exact absurd h hn
    · exact mU_k e2
  · rw [mU_f e]
def yHs (I : Nat → Nat → Int32) (s : Nat) (η : mHs) (b c : Nat) : Prop := I 190 s = nI η.1 ∧ I 193 s = nI η.2.1 ∧ I 198 s = η.2.2.2.1 ∧ I 199 s = η.2.2.2.2.1 ∧ (∀ p, p < η.1 → I 191 (5 * s + p) = hT η 0 p ∧ I 192 (5 * s + p) = hT η 1 p) ∧ (∀ i, i < η.2.1 → I 194 (6 * s + i) = hT η 2 i ∧ I 195 (6 * s + i) = hT η 3 i ∧ I 196 (6 * s + i) = hT η 4 i ∧ I 197 (6 * s + i) = hT η 5 i) ∧ (∀ k, k < 4 → mMwQ I (4 * s + k) (130 * s) b (420 * s) c (hL η k))
/-- all but where the reader stands -/
def yS0 (I : Nat → Nat → Int32) (J : Nat → Nat → Int64) (s t : Nat) (σ : pSg) : Prop := I 180 12 = 0 ∧ I 180 19 = nI s ∧ yNm I J σ.2.1 ∧ ∃ b c, I 180 35 = nI (130 * s + b) ∧ I 180 41 = nI (420 * s + c) ∧ 4 * b ≤ t ∧ c ≤ t ∧ yHs I s σ.1 (130 * s + b) (420 * s + c)
def yS (I : Nat → Nat → Int32) (J : Nat → Nat → Int64) (W : Nat → Int32) (L s t : Nat) (σ : pSg) : Prop := yMx I J W L (.inr (t, σ.2.2)) ∧ yS0 I J s t σ
def yTl (xL rc rx rr s : Nat) (I : Nat → Nat → Int32) (J : Nat → Nat → Int64) (W : Nat → Int32) (L : Nat) (Q : Option Value → mHp → Prop) : pSr → Prop
  | .inl f => ∀ I' J', fYt s I I' → jYt J J' → yMx I' J' W L (.inl f) → Q none (mHh xL I' J' (mRf rc rx rr))
  | .inr p => ∀ I' J', fYt s I I' → jYt J J' → yS I' J' W L s p.1 p.2 → Q none (mHh xL I' J' (mRf rc rx rr))
theorem mRD_i {I : Nat → Nat → Int32} {J : Nat → Nat → Int64} {W : Nat → Int32} {L t i : Nat} (h : mRD I J W L t 0 0) (hi : i ≤ t) : mRwT I J W L i := by
  obtain ⟨⟨n, hn⟩, h2, h3, -⟩ := h
  have hl := kLv_m hn (h3 rfl)
  exact hn.2.1 i (by omega)
theorem yMx_13 {I : Nat → Nat → Int32} {J : Nat → Nat → Int64} {W : Nat → Int32} {L : Nat} {r : yX} (h : yMx I J W L r) : (I 180 13 = 0 ↔ ∃ p, r = .inr p) ∧ (I 180 13 ≤ 0 ↔ ∃ p, r = .inr p) := by
  cases r with
  | inl f =>
    obtain ⟨t, g, f0⟩ := h
    have hf := g.2.2.2.2.2.1
    rw [g.2.2.2.2.1, in_eq 0 (by decide) (by omega), in_le 0 (by decide) (by omega)]
    exact ⟨⟨fun z => absurd z f0, fun z => by obtain ⟨p, e⟩ := z; cases e⟩, ⟨fun z => absurd (by omega) f0, fun z => by obtain ⟨p, e⟩ := z; cases e⟩⟩
  | inr p =>
    have e := h.1.2.2.2.2.1
    rw [e]
    exact ⟨⟨fun _ => ⟨p, rfl⟩, fun _ => rfl⟩, ⟨fun _ => ⟨p, rfl⟩, fun _ => by decide⟩⟩
theorem mMwQ_e {I I' : Nat → Nat → Int32} {j bl bh lo hi : Nat} {w : Option (List mIf × mCod)} (e : ∀ a, 200 ≤ a → a ≤ 208 → I' a = I a) (h : mMwQ I j bl bh lo hi w) : mMwQ I' j bl bh lo hi w :=
  mMwQ_keep (fun q _ _ => by rw [e 207 (by decide) (by decide), e 208 (by decide) (by decide)]; exact ⟨rfl, rfl⟩) (fun a p q _ _ _ => by rw [e a (by omega) (by omega)]) (by rw [e 200 (by decide) (by decide)]) (by rw [e 201 (by decide) (by decide)]) h
section MTE
variable {d : Nat} {xL : Nat} {I : Nat → Nat → Int32} {J : Nat → Nat → Int64} {rc rx rr : Nat} {Q : Option Value → mHp → Prop} {L : Nat} {W : Nat → Int32} {t s : Nat} {σ : pSg} {w : yW}
theorem c150x (h : yMx I J W L (.inr (t, w))) {κ : Nat} (hk : kk W L t = κ) (h03 : κ ≠ 0 ∧ κ ≠ 3) {x y : Int32} (hE : x = y → ∀ I', fYm I I' → yMx I' J W L (.inl (2, t)) → Q none (mHh xL I' J (mRf rc rx rr))) (hN : x ≠ y → ∀ I', fYm I I' → yMx I' J W L (sSt W L κ gNo (.inr (t, w))) → Q none (mHh xL I' J (mRf rc rx rr))) : WP (d + 2) 150 0 [.ref 180, .int x, .int y] [] (mHh xL I J (mRf rc rx rr)) Q := by
  have g : mRD I J W L t 0 0 := h.1
  simp only [w150_0, w150_1, w150_2]
  by_cases e : x = y
  · have m1 := mRD_fl g (g := 2) (by decide) (by decide)
    have ff := mFlt_f I 2 (nI (tp W L t))
    have e13 : ¬ mFlt I 2 (nI (tp W L t)) 180 13 = 0 := by
      have e := m1.2.2.2.2.1
      change mFlt I 2 (nI (tp W L t)) 180 13 = nI 2 at e
      rw [e]; decide
    simp only [if_pos e, w150_5, w150_6, w150_7, c151 (d := d + 1) g, ↓reduceIte, Option.toList_some, Option.toList_none, List.cons_append, List.nil_append, Int32.reduceAdd, Int32.reduceLT, Int32.reduceLE, Int32.reduceToNatClampNeg, w150_10, w150_11, w150_14, e13, w150_21]
    exact hE e _ (fM1_y ff) ⟨t, m1, (by decide : (2 : Nat) ≠ 0)⟩
  · have e13 : I 180 13 = 0 := g.2.2.2.2.1
    simp only [if_neg e, w150_10, w150_11, w150_14, e13, ↓reduceIte, w150_17, w150_18]
    refine c152x (d := d) h hk h03 (fun I1 f1 g1 => ?_)
    simp only [↓reduceIte, Option.toList_some, Option.toList_none, List.cons_append, List.nil_append, Int32.reduceAdd, Int32.reduceLT, Int32.reduceLE, Int32.reduceToNatClampNeg, w150_21]
    exact hN e I1 f1 g1
theorem y149p (hs : s < 2) (h : yS I J W L s t σ) (ok : σOk t σ) (k20 : kk W L t = 20) {v1 v2 : Value} (hP : yTl xL rc rx rr s I J W L Q (sPer W L t σ)) : WP (d + 4) 149 56 [.ref 180, v1, v2] [] (mHh xL I J (mRf rc rx rr)) Q := by
  obtain ⟨hx, h12, h19, hn, b, c, h35, h41, hb, hc, u1, u2, u3, u4, u5, u6, u7⟩ := h
  have hg : mRD I J W L t 0 0 := hx.1
  have p5 := ok.1
  have ht := hg.2.1
  rw [sPer] at hP
  have s1 : mIn (nI s) 2 = true := mIn_nI (by omega) (by omega)
  have s2 : (nI s).toNatClampNeg = s := nI_clamp (by omega)
  have e5 : (nI σ.1.1 = 5) ↔ σ.1.1 = 5 := in_eq 5 (by decide) (by omega)
  simp only [w149_56, w149_57, w149_58, w149_61, w149_62, h19, w149_65 (hi := s1), s2, u1, w149_66, w149_67]
  refine c150x (d := d + 1) hx k20 (by decide) (fun e I1 f1 g1 => ?_) (fun e I1 f1 g1 => ?_)
  · rw [if_pos (e5.1 e)] at hP
    have z := (yMx_13 g1).2
    have zn : ¬ I1 180 13 ≤ 0 := fun e => by obtain ⟨p, e⟩ := z.1 e; cases e
    simp only [↓reduceIte, Option.toList_some, Option.toList_none, List.cons_append, List.nil_append, Int32.reduceAdd, Int32.reduceLT, Int32.reduceLE, Int32.reduceToNatClampNeg, w149_70, w149_71, w149_74, zn, w149_77]
    exact hP I1 J (fYm_h f1) (fun _ _ => rfl) g1
  · have ne : ¬ σ.1.1 = 5 := fun z => e (e5.2 z)
    rw [if_neg ne] at hP
    have z := (yMx_13 g1).2
    simp only [↓reduceIte, Option.toList_some, Option.toList_none, List.cons_append, List.nil_append, Int32.reduceAdd, Int32.reduceLT, Int32.reduceLE, Int32.reduceToNatClampNeg, w149_70, w149_71, w149_74]
    by_cases cz : ∃ p, sSt W L 20 gNo (.inr (t, σ.2.2)) = .inr p
    · have zy := z.2 cz
      have y19 : I1 180 19 = nI s := by rw [f1.2 19 (by decide) (by decide) (by decide) (by decide) (by decide)]; exact h19
      have y190 : I1 190 s = nI σ.1.1 := by rw [f1.1 190 (by decide)]; exact u1
      have m5 : (5 : Int32) * nI s = nI (5 * s) := pk_mul 5 s
      have a5 : nI (5 * s) + nI σ.1.1 = nI (5 * s + σ.1.1) := nI_add _ _
      have b1 : mIn (nI (5 * s + σ.1.1)) 10 = true := mIn_nI (by omega) (by omega)
      have b2 : (nI (5 * s + σ.1.1)).toNatClampNeg = 5 * s + σ.1.1 := nI_clamp (by omega)
      simp only [zy, ↓reduceIte, w149_78, w149_79, w149_80, y19, w149_83, m5, w149_84, w149_85, w149_88, w149_89, w149_92 (hi := s1), s2, y190, w149_93, a5, w149_94, w149_95, w149_96]
      refine c153 (d := d) g1 (yNm_k hn (f1.2 20 (by decide) (by decide) (by decide) (by decide) (by decide)) (f1.1 189 (by decide)) rfl) (fun I2 x f2 g2 v2 => ?_)
      simp only [↓reduceIte, Option.toList_some, Option.toList_none, List.cons_append, List.nil_append, Int32.reduceAdd, Int32.reduceLT, Int32.reduceLE, Int32.reduceToNatClampNeg, w149_99, w149_100, w149_101, w149_104, w149_105, w149_106, w149_108]
      refine c156 (d := d + 1) g2 (m := 20) (by decide) rfl (fun I3 y f3 g3 v3 => ?_)
      simp only [↓reduceIte, Option.toList_some, Option.toList_none, List.cons_append, List.nil_append, Int32.reduceAdd, Int32.reduceLT, Int32.reduceLE, Int32.reduceToNatClampNeg, w149_111 (hi := b1), b2, w149_112, w149_113, w149_116, w149_117, w149_118, w149_120]
      refine c156 (d := d + 1) (yMx_k g3 (fun j _ => by rw [mU_f (by decide)]) (mU_f (by decide)) (mU_f (by decide)) (mU_f (by decide)) rfl) (m := 9) (by decide) rfl (fun I4 z' f4 g4 v4 => ?_)
      have y419 : mU I4 192 (5 * s + σ.1.1) z' 180 19 = nI s := by
        rw [mU_f (by decide), f4.2 19 (by decide) (by decide) (by decide) (by decide) (by decide), mU_f (by decide), f3.2 19 (by decide) (by decide) (by decide) (by decide) (by decide), f2.2 19 (by decide) (by decide) (by decide) (by decide) (by decide)]; exact y19
      have y4190 : mU I4 192 (5 * s + σ.1.1) z' 190 s = nI σ.1.1 := by
        rw [mU_f (by decide), f4.1 190 (by decide), mU_f (by decide), f3.1 190 (by decide), f2.1 190 (by decide)]; exact y190
      simp only [↓reduceIte, Option.toList_some, Option.toList_none, List.cons_append, List.nil_append, Int32.reduceAdd, Int32.reduceLT, Int32.reduceLE, Int32.reduceToNatClampNeg, w149_123 (hi := b1), b2, w149_124, w149_125, w149_126, w149_127, w149_130, w149_131, y419, w149_134 (hi := s1), s2, y4190, w149_135]
      have e4 : ∀ a, a ≠ 180 → a ≠ 191 → a ≠ 192 → mU I4 192 (5 * s + σ.1.1) z' a = I a := fun a h0 h1 h2 => by rw [mU_f h2, f4.1 a h0, mU_f h1, f3.1 a h0, f2.1 a h0, f1.1 a h0]
      have e48 : ∀ j, j ≠ 11 → j ≠ 13 → j ≠ 14 → j ≠ 15 → j ≠ 16 → mU I4 192 (5 * s + σ.1.1) z' 180 j = I 180 j := fun j a b c d e => by rw [mU_f (by decide), f4.2 j a b c d e, mU_f (by decide), f3.2 j a b c d e, f2.2 j a b c d e, f1.2 j a b c d e]
      have e491 : mU I4 192 (5 * s + σ.1.1) z' 191 = mU I 191 (5 * s + σ.1.1) y 191 := by
        rw [mU_f (by decide), f4.1 191 (by decide)]
        funext j
        by_cases e : j = 5 * s + σ.1.1
        · subst e; rw [mU_s, mU_s]
        · rw [mU_k e, mU_k e, f3.1 191 (by decide), f2.1 191 (by decide), f1.1 191 (by decide)]
      have e492 : mU I4 192 (5 * s + σ.1.1) z' 192 = mU I 192 (5 * s + σ.1.1) z' 192 := by
        funext j
        by_cases e : j = 5 * s + σ.1.1
        · subst e; rw [mU_s, mU_s]
        · rw [mU_k e, mU_k e, f4.1 192 (by decide), mU_f (by decide), f3.1 192 (by decide), f2.1 192 (by decide), f1.1 192 (by decide)]
      have fr4 : fYt s I (mU I4 192 (5 * s + σ.1.1) z') := fYt_t (fYm_h f1) (fYt_t (fYm_h f2) (fYt_t (fYm_h f3) (fYt_t (fYt_u (by unfold hfR; omega) I3 y) (fYt_t (fYm_h f4) (fYt_u (by unfold hfR; omega) I4 z')))))
      have g5 := yMx_k (I' := mU I4 192 (5 * s + σ.1.1) z') g4 (fun j _ => by rw [mU_f (by decide)]) (mU_f (by decide)) (mU_f (by decide)) (mU_f (by decide)) rfl
      have n5 : yNm (mU I4 192 (5 * s + σ.1.1) z') J σ.2.1 := yNm_k hn (e48 20 (by decide) (by decide) (by decide) (by decide) (by decide)) (e4 189 (by decide) (by decide) (by decide)) rfl
      generalize mU I4 192 (5 * s + σ.1.1) z' = I5 at *
      have lN : σ.2.1.length < 11 := by have := ok.2.2.2.2.1; have := ok.2.1; omega
      refine c157 (d := d) (i := t + 1) g5 n5 lN (by omega) (fun p e => ?_) (fun f I6 e f6 g6 => ?_) (fun p I6 e f6 g6 => ?_)
      · obtain ⟨q2, q3, q4, q5, ⟨r2, r3, r4, r5⟩, z2, z3, z4⟩ := rPer_q (σ := σ) (hg.2.2.1 rfl) e
        rw [v2 q2 q3 r2 r3, z2]
      · have z6 := (yMx_13 g6).1
        have zn : ¬ I6 180 13 = 0 := fun e => by obtain ⟨p, e⟩ := z6.1 e; cases e
        simp only [↓reduceIte, Option.toList_some, Option.toList_none, List.cons_append, List.nil_append, Int32.reduceAdd, Int32.reduceLT, Int32.reduceLE, Int32.reduceToNatClampNeg, w149_138, w149_139, w149_142, zn, w149_280]
        have eR : rPer W L t σ = .inl f := e
        rw [eR] at hP
        exact hP I6 J (fYt_t fr4 (fYm_h f6)) (fun _ _ => rfl) g6
      · have eR : rPer W L t σ = .inr p := e
        rw [eR] at hP
        obtain ⟨q2, q3, q4, q5, ⟨r2, r3, r4, r5⟩, z2, z3, z4⟩ := rPer_q (σ := σ) (hg.2.2.1 rfl) e
        obtain ⟨y1, y2, ⟨y3, y4, y5⟩, y6⟩ := rPer_r (hg.2.2.1 rfl) eR
        have x2 := v3 q3 q4 r3 r4
        have x3 := v4 q4 q5 r4 r5
        rw [z3] at x2; rw [z4] at x3
        subst x2 x3
        have ex6 : J 186 (t + 1) = kn W L (t + 1) := by
          have g6' : mRD I6 J W L p.1 0 0 := g6.1
          exact (mRD_i g6' (by omega)).2.2.2 (Or.inl y3)
        have z6 : mU (mU I6 189 σ.2.1.length (nI σ.1.1)) 180 20 (nI (σ.2.1.length + 1)) 180 13 = 0 := by rw [mU_k (by decide), mU_f (by decide)]; exact (yMx_13 g6).1.2 ⟨p, rfl⟩
        have z619 : mU (mU I6 189 σ.2.1.length (nI σ.1.1)) 180 20 (nI (σ.2.1.length + 1)) 180 19 = nI s := by rw [mU_k (by decide), mU_f (by decide), f6.2 19 (by decide) (by decide) (by decide) (by decide) (by decide)]; exact y419
        have z6190 : mU (mU I6 189 σ.2.1.length (nI σ.1.1)) 180 20 (nI (σ.2.1.length + 1)) 190 s = nI σ.1.1 := by rw [mU_f (by decide), mU_f (by decide), f6.1 190 (by decide)]; exact y4190
        simp only [↓reduceIte, Option.toList_some, Option.toList_none, List.cons_append, List.nil_append, Int32.reduceAdd, Int32.reduceLT, Int32.reduceLE, Int32.reduceToNatClampNeg, w149_138, w149_139, z6, w149_142, w149_145, w149_146, w149_149, w149_150, z619, w149_153, w149_154 (hi := s1), s2, z6190, w149_155, w149_156, nI_1, w149_157 (hi := s1), w149_158, w149_280]
        rw [ex6]
        have k7 : ∀ a, a ≠ 180 → a ≠ 189 → a ≠ 190 → mU (mU (mU I6 189 σ.2.1.length (nI σ.1.1)) 180 20 (nI (σ.2.1.length + 1))) 190 s (nI (σ.1.1 + 1)) a = I5 a := fun a h0 h1 h2 => by rw [mU_f h2, mU_f h0, mU_f h1, f6.1 a h0]
        have k78 : ∀ j, j ≠ 11 → j ≠ 13 → j ≠ 14 → j ≠ 15 → j ≠ 16 → j ≠ 20 → mU (mU (mU I6 189 σ.2.1.length (nI σ.1.1)) 180 20 (nI (σ.2.1.length + 1))) 190 s (nI (σ.1.1 + 1)) 180 j = I 180 j := fun j a b c d e f => by rw [mU_f (by decide), mU_k f, mU_f (by decide), f6.2 j a b c d e, e48 j a b c d e]
        have k7x : ∀ j, (j = 10 ∨ j = 11 ∨ j = 13 ∨ j = 14 ∨ j = 15 ∨ j = 16) → mU (mU (mU I6 189 σ.2.1.length (nI σ.1.1)) 180 20 (nI (σ.2.1.length + 1))) 190 s (nI (σ.1.1 + 1)) 180 j = I6 180 j := fun j hj => by rw [mU_f (by decide), mU_k (by omega), mU_f (by decide)]
        have k720 : mU (mU (mU I6 189 σ.2.1.length (nI σ.1.1)) 180 20 (nI (σ.2.1.length + 1))) 190 s (nI (σ.1.1 + 1)) 180 20 = nI (σ.2.1.length + 1) := by rw [mU_f (by decide), mU_s]
        have k7190 : ∀ q, mU (mU (mU I6 189 σ.2.1.length (nI σ.1.1)) 180 20 (nI (σ.2.1.length + 1))) 190 s (nI (σ.1.1 + 1)) 190 q = if q = s then nI (σ.1.1 + 1) else I 190 q := by
          intro q
          by_cases e : q = s
          · subst e; rw [mU_s, if_pos rfl]
          · rw [mU_k e, if_neg e, mU_f (by decide), mU_f (by decide), f6.1 190 (by decide), e4 190 (by decide) (by decide) (by decide)]
        have k7189 : mU (mU (mU I6 189 σ.2.1.length (nI σ.1.1)) 180 20 (nI (σ.2.1.length + 1))) 190 s (nI (σ.1.1 + 1)) 189 = mU I6 189 σ.2.1.length (nI σ.1.1) 189 := by rw [mU_f (by decide), mU_f (by decide)]
        have fr7 : fYt s I (mU (mU (mU I6 189 σ.2.1.length (nI σ.1.1)) 180 20 (nI (σ.2.1.length + 1))) 190 s (nI (σ.1.1 + 1))) := fYt_t fr4 (fYt_t (fYm_h f6) (fYt_t (fYt_u (by unfold hfR; omega) _ _) (fYt_t (fYt_u (by unfold hfR; omega) _ _) (fYt_u (by unfold hfR; omega) _ _))))
        have k3 : mU (mU (mU I6 189 σ.2.1.length (nI σ.1.1)) 180 20 (nI (σ.2.1.length + 1))) 190 s (nI (σ.1.1 + 1)) 183 = I6 183 := by rw [mU_f (by decide), mU_f (by decide), mU_f (by decide)]
        have k4 : mU (mU (mU I6 189 σ.2.1.length (nI σ.1.1)) 180 20 (nI (σ.2.1.length + 1))) 190 s (nI (σ.1.1 + 1)) 184 = I6 184 := by rw [mU_f (by decide), mU_f (by decide), mU_f (by decide)]
        have k5 : mU (mU (mU I6 189 σ.2.1.length (nI σ.1.1)) 180 20 (nI (σ.2.1.length + 1))) 190 s (nI (σ.1.1 + 1)) 185 = I6 185 := by rw [mU_f (by decide), mU_f (by decide), mU_f (by decide)]
        generalize mU (mU (mU I6 189 σ.2.1.length (nI σ.1.1)) 180 20 (nI (σ.2.1.length + 1))) 190 s (nI (σ.1.1 + 1)) = I7 at *
        refine hP I7 _ fr7 (fun a ha => mU_f ha) ⟨yMx_k g6 k7x k3 k4 k5 (mU_f (by decide)), ?_, ?_, ⟨?_, ?_, fun q p' hq => ?_⟩, b, c, ?_, ?_, by show 4 * b ≤ p.1; omega, by show c ≤ p.1; omega, ?_, ?_, ?_, ?_, ?_, ?_, ?_⟩
        · rw [k78 12 (by decide) (by decide) (by decide) (by decide) (by decide) (by decide)]; exact h12
        · rw [k78 19 (by decide) (by decide) (by decide) (by decide) (by decide) (by decide)]; exact h19
        · rw [k720]; show _ = nI (σ.2.1 ++ [(kn W L (t + 1), σ.1.1)]).length; rw [List.length_append]; rfl
        · show (σ.2.1 ++ [(kn W L (t + 1), σ.1.1)]).length ≤ 11; rw [List.length_append, List.length_singleton]; omega
        · change (σ.2.1 ++ [(kn W L (t + 1), σ.1.1)])[q]? = some p' at hq
          rw [k7189]
          by_cases e : q = σ.2.1.length
          · subst e
            rw [List.getElem?_append_right (Nat.le_refl _), Nat.sub_self] at hq
            cases hq
            exact ⟨mU_s _ _ _ _, mU_s _ _ _ _, by show σ.1.1 ≤ 10; omega⟩
          · have : q < σ.2.1.length := by
              have := (List.getElem?_eq_some_iff.1 hq).1
              rw [List.length_append, List.length_singleton] at this
              omega
            rw [List.getElem?_append_left this] at hq
            rw [mU_k e, mU_k e, f6.1 189 (by decide), e4 189 (by decide) (by decide) (by decide)]
            exact hn.2.2 q p' hq
        · rw [k78 35 (by decide) (by decide) (by decide) (by decide) (by decide) (by decide)]; exact h35
        · rw [k78 41 (by decide) (by decide) (by decide) (by decide) (by decide) (by decide)]; exact h41
        · rw [k7190 s, if_pos rfl]; rfl
        · rw [k7 193 (by decide) (by decide) (by decide), e4 193 (by decide) (by decide) (by decide)]; exact u2
        · rw [k7 198 (by decide) (by decide) (by decide), e4 198 (by decide) (by decide) (by decide)]; exact u3
        · rw [k7 199 (by decide) (by decide) (by decide), e4 199 (by decide) (by decide) (by decide)]; exact u4
        · intro q hq
          change q < σ.1.1 + 1 at hq
          show _ = mU (mU σ.1.2.2.1 0 σ.1.1 (nI (kv W L (t + 2)))) 1 σ.1.1 (nI (kv W L (t + 3))) 0 q ∧ _ = mU (mU σ.1.2.2.1 0 σ.1.1 (nI (kv W L (t + 2)))) 1 σ.1.1 (nI (kv W L (t + 3))) 1 q
          rw [k7 191 (by decide) (by decide) (by decide), k7 192 (by decide) (by decide) (by decide), e491, e492, mU_a (show (0 : Nat) ≠ 1 by decide)]
          by_cases e : q = σ.1.1
          · subst e; rw [mU_s, mU_s, mU_s, mU_s]; exact ⟨rfl, rfl⟩
          · refine ⟨?_, ?_⟩
            · rw [mU_k (by omega), mU_k e]; exact (u5 q (by omega)).1
            · rw [mU_k (by omega), mU_k e, mU_a (by decide)]; exact (u5 q (by omega)).2
        · intro i hi
          show _ = mU (mU σ.1.2.2.1 0 σ.1.1 (nI (kv W L (t + 2)))) 1 σ.1.1 (nI (kv W L (t + 3))) 2 i ∧ _ = mU (mU σ.1.2.2.1 0 σ.1.1 (nI (kv W L (t + 2)))) 1 σ.1.1 (nI (kv W L (t + 3))) 3 i ∧ _ = mU (mU σ.1.2.2.1 0 σ.1.1 (nI (kv W L (t + 2)))) 1 σ.1.1 (nI (kv W L (t + 3))) 4 i ∧ _ = mU (mU σ.1.2.2.1 0 σ.1.1 (nI (kv W L (t + 2)))) 1 σ.1.1 (nI (kv W L (t + 3))) 5 i
          rw [k7 194 (by decide) (by decide) (by decide), e4 194 (by decide) (by decide) (by decide), k7 195 (by decide) (by decide) (by decide), e4 195 (by decide) (by decide) (by decide), k7 196 (by decide) (by decide) (by decide), e4 196 (by decide) (by decide) (by decide), k7 197 (by decide) (by decide) (by decide), e4 197 (by decide) (by decide) (by decide)]
          rw [mU_a (by decide), mU_a (by decide), mU_a (by decide), mU_a (by decide), mU_a (by decide), mU_a (by decide), mU_a (by decide), mU_a (by decide)]
          exact u6 i hi
        · intro k hk
          exact mMwQ_e (fun a p q => by rw [k7 a (by omega) (by omega) (by omega), e4 a (by omega) (by omega) (by omega)]) (u7 k hk)
    · have zn : ¬ I1 180 13 ≤ 0 := fun e => cz (z.1 e)
      simp only [zn, ↓reduceIte, w149_77]
      cases eS : sSt W L 20 gNo (.inr (t, σ.2.2)) with
      | inr p => exact absurd ⟨p, eS⟩ cz
      | inl f =>
        rw [eS] at g1
        have eR : rPer W L t σ = .inl f := by rw [rPer, eS]; rfl
        rw [eR] at hP
        exact hP I1 J (fYm_h f1) (fun _ _ => rfl) g1
end MTE
