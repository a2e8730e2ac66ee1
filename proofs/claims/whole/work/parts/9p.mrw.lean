/-! The model: read, from the tokens on. -/
/-- what read may change in the model's rows, its side aside: r: it took the text -/
def fZx (s : Nat) (b : Bool) (I I' : Nat → Nat → Int32) : Prop := ∀ a q, ¬ hfR s a q → ¬ (a = 180 ∧ (q = 17 ∨ q = 19)) → (b = true → ¬ (a = 180 ∧ (q = 18 ∨ q = 51 ∨ q = 52 ∨ q = 54 ∨ q = 62)) ∧ a ≠ 212 ∧ a ≠ 213 ∧ a ≠ 226) → I' a q = I a q
theorem fZx_h {s : Nat} {b : Bool} {I I' : Nat → Nat → Int32} (h : fYt s I I') : fZx s b I I' := fun a q h1 _ _ => h a q h1
theorem fZx_t {s : Nat} {b : Bool} {I I1 I2 : Nat → Nat → Int32} (h1 : fZx s b I I1) (h2 : fZx s b I1 I2) : fZx s b I I2 := fun a q x y z => by rw [h2 a q x y z, h1 a q x y z]
theorem fZx_17 {s : Nat} {b : Bool} {I : Nat → Nat → Int32} {x : Int32} : fZx s b I (mU I 180 17 x) := by
  intro a q _ h _
  by_cases e : a = 180
  · subst e; rw [mU_k (fun z => h ⟨rfl, Or.inl z⟩)]
  · rw [mU_a e]
theorem mMw_of {I : Nat → Nat → Int32} {s k bh hi : Nat} {w : Option (List mIf × mCod)} (hk : k < 4) (hb : bh ≤ 130 * s + 130) (hc : hi ≤ 420 * s + 420) (h : mMwQ I (4 * s + k) (130 * s) bh (420 * s) hi w) : mMw I (4 * s + k) w := by
  have e : (4 * s + k) / 4 = s := by omega
  rw [mMw, e]
  exact mMwQ_mono hb hc h
section MRW
variable {d : Nat} {xL : Nat} {I : Nat → Nat → Int32} {J : Nat → Nat → Int64} {rc rx rr : Nat} {Q : Option Value → mHp → Prop} {L : Nat} {W : Nat → Int32} {s : Nat}
theorem y141f (hF : ∀ f I' J', sRd W L = .inl f → f.1 ≠ 0 → f.1 < 6 → fZx s false I I' → jYt J J' → I' 180 17 = nI (tp W L f.2) → Q (some (.int (nI f.1))) (mHh xL I' J' (mRf rc rx rr))) {f : Nat × Nat} {I' : Nat → Nat → Int32} {J' : Nat → Nat → Int64} {v1 : Value} (eS : sText W L 402 0 (η0, [], (0, 0)) = .inl f) (fr : fYt s I I') (jr : jYt J J') (g : yMx I' J' W L (.inl f)) : WP d 141 134 [.ref 180, v1] [] (mHh xL I' J' (mRf rc rx rr)) Q := by
  have z := (yMx_13 g).2
  have zn : ¬ I' 180 13 ≤ 0 := fun e => by obtain ⟨p, e⟩ := z.1 e; cases e
  obtain ⟨t, g, f0⟩ := g
  have e13 := g.2.2.2.2.1
  have e14 := g.2.2.2.2.2.2 f0
  have f6 := g.2.2.2.2.2.1
  have y13 : mU I' 180 17 (nI (tp W L f.2)) 180 13 = nI f.1 := by rw [mU_k (by decide)]; exact e13
  have zn2 : ¬ nI f.1 ≤ 0 := by rw [← e13]; exact zn
  simp only [w141_134, w141_135, w141_136, w141_139, zn, ↓reduceIte, w141_142, w141_143, e14, w141_146, w141_164, w141_167, w141_168, y13, w141_171, zn2, w141_174, w141_175, w141_178]
  exact hF f _ J' (by rw [sRd, eS]; rfl) f0 f6 (fZx_t (fZx_h fr) fZx_17) jr (mU_s _ _ _ _)
theorem y141g (hs : s < 2) (hF : ∀ f I' J', sRd W L = .inl f → f.1 ≠ 0 → f.1 < 6 → fZx s false I I' → jYt J J' → I' 180 17 = nI (tp W L f.2) → Q (some (.int (nI f.1))) (mHh xL I' J' (mRf rc rx rr))) (hG : ∀ η' I' J', sRd W L = .inr η' → fZx s true I I' → jYt J J' → mMh I' s η' → mNw I' (sR0 η') → I' 180 54 = 0 → I' 180 62 = 0 → (∀ k, k < 3 → I' 226 k = 0) → I' 180 17 = -1 → Q (some (.int 0)) (mHh xL I' J' (mRf rc rx rr))) {t : Nat} {σ : pSg} {I' : Nat → Nat → Int32} {J' : Nat → Nat → Int64} {v1 : Value} (hv : ∃ x, v1 = .int x) (eS : sText W L 402 0 (η0, [], (0, 0)) = .inr (t, σ)) (fr : fYt s I I') (jr : jYt J J') (h : yS I' J' W L s t σ) (ok : σOk t σ) : WP (d + 1) 141 134 [.ref 180, v1] [] (mHh xL I' J' (mRf rc rx rr)) Q := by
  obtain ⟨x1, rfl⟩ := hv
  have hg : mRD I' J' W L t 0 0 := h.1.1
  have hw : yMw I' W L t σ.2.2 := h.1.2
  obtain ⟨hx, h12, h19, hn, b, c, h35, h41, hb, hc, u1, u2, u3, u4, u5, u6, u7⟩ := h
  have ht : t ≤ 400 := hg.2.1
  have e13 : I' 180 13 = 0 := hg.2.2.2.2.1
  have z13 : I' 180 13 ≤ 0 := by rw [e13]; decide
  have e15 : I' 180 15 = nI σ.2.2.1 := hw.2.1
  have w6 : σ.2.2.1 < 6 := hw.2.2.1
  have le : (nI σ.2.2.1 ≤ 0) ↔ σ.2.2.1 ≤ 0 := in_le 0 (by decide) (by omega)
  by_cases w0 : σ.2.2.1 = 0
  · have c0 : nI σ.2.2.1 ≤ 0 := le.2 (by omega)
    have y13 : mU I' 180 17 (-1) 180 13 ≤ 0 := by rw [mU_k (by decide)]; exact z13
    have y15 : mU I' 180 17 (-1) 180 15 ≤ 0 := by rw [mU_k (by decide), e15]; exact c0
    have y19 : mU I' 180 17 (-1) 180 19 = nI s := by rw [mU_k (by decide)]; exact h19
    simp only [w141_134, w141_135, w141_136, w141_139, z13, ↓reduceIte, w141_149, w141_150, e15, c0, w141_153, w141_163, w141_164, w141_167, w141_168, y13, w141_171, w141_179, w141_180, y15, w141_183, w141_191, w141_192, w141_193, y19, w141_196, w141_199, w141_200]
    have k2 : ∀ a, a ≠ 180 → mU (mU I' 180 17 (-1)) 180 18 (nI s) a = I' a := fun a ha => by rw [mU_f ha, mU_f ha]
    have k3 : ∀ j, j ≠ 17 → j ≠ 18 → mU (mU I' 180 17 (-1)) 180 18 (nI s) 180 j = I' 180 j := fun j h1 h2 => by rw [mU_k h2, mU_k h1]
    have k17 : mU (mU I' 180 17 (-1)) 180 18 (nI s) 180 17 = -1 := by rw [mU_k (by decide), mU_s]
    have k18 : mU (mU I' 180 17 (-1)) 180 18 (nI s) 180 18 = nI s := mU_s _ _ _ _
    generalize mU (mU I' 180 17 (-1)) 180 18 (nI s) = I1 at *
    refine c136 (d := d) hs ok.1 k18 (by rw [k2 190 (by decide)]; exact u1) (fun I2 f2 g2 r2 => ?_)
    simp only [↓reduceIte, Option.toList_some, Option.toList_none, List.cons_append, List.nil_append, Int32.reduceAdd, Int32.reduceLT, Int32.reduceLE, Int32.reduceToNatClampNeg, w141_203, w141_204]
    refine c137 r2 (fun I3 f3 n3 => ?_)
    simp only [↓reduceIte, Option.toList_some, Option.toList_none, List.cons_append, List.nil_append, Int32.reduceAdd, Int32.reduceLT, Int32.reduceLE, Int32.reduceToNatClampNeg, w141_207, w141_208, w141_209, w141_212, w141_213, w141_214, w141_217, w141_218]
    have k4 : ∀ a, a ≠ 180 → mU (mU I3 180 54 0) 180 62 0 a = I3 a := fun a ha => by rw [mU_f ha, mU_f ha]
    have k5 : ∀ j, j ≠ 54 → j ≠ 62 → mU (mU I3 180 54 0) 180 62 0 180 j = I3 180 j := fun j h1 h2 => by rw [mU_k h2, mU_k h1]
    have k54 : mU (mU I3 180 54 0) 180 62 0 180 54 = 0 := by rw [mU_k (by decide), mU_s]
    have k62 : mU (mU I3 180 54 0) 180 62 0 180 62 = 0 := mU_s _ _ _ _
    generalize mU (mU I3 180 54 0) 180 62 0 = I4 at *
    have er : sRd W L = .inr σ.1 := by
      rw [sRd, eS]
      show (if σ.2.2.1 = 0 then _ else _) = _
      rw [if_pos w0]
    have q0 : ∀ a, a ≠ 180 → a ≠ 212 → a ≠ 213 → I4 a = I' a := fun a h1 h2 h3 => by rw [k4 a h1, f3 a h2, f2 a h1 h3, k2 a h1]
    have q1 : ∀ j, j ≠ 17 → j ≠ 18 → j ≠ 51 → j ≠ 52 → j ≠ 54 → j ≠ 62 → I4 180 j = I' 180 j := fun j a b c d e f => by rw [k5 j e f, f3 180 (by decide), g2 j c d, k3 j a b]
    have q17 : I4 180 17 = -1 := by rw [k5 17 (by decide) (by decide), f3 180 (by decide), g2 17 (by decide) (by decide)]; exact k17
    have q18 : I4 180 18 = nI s := by rw [k5 18 (by decide) (by decide), f3 180 (by decide), g2 18 (by decide) (by decide)]; exact k18
    have q212 : I4 212 = I3 212 := k4 212 (by decide)
    have n4 : mNw I4 (sR0 σ.1) := by
      have e3 : ∀ k, (if k < σ.1.1 then I1 191 (5 * s + k) else 0) = sR0 σ.1 k := by
        intro k
        rw [sR0]
        by_cases e : k < σ.1.1
        · rw [if_pos e, if_pos e, k2 191 (by decide)]; exact (u5 k e).1
        · rw [if_neg e, if_neg e]
      refine mNw_of (fun k hk => ?_) (fun k hk => by rw [sR0, if_neg (by have := ok.1; omega)])
      rw [q212, ← e3 k]
      exact mNw_at n3 hk
    have key : ∀ k, k ≤ 3 → ∀ I5 : Nat → Nat → Int32, (∀ a, a ≠ 226 → I5 a = I4 a) → (∀ j, j < k → I5 226 j = 0) → WP (d + 1) 141 219 [.ref 180, .int (nI k)] [] (mHh xL I5 J' (mRf rc rx rr)) Q := by
      refine iter_dn ?_ ?_
      · intro k hk ih I5 f t
        have g1 : ¬ 3 ≤ nI k := by rw [ni_le 3 (by decide) (by omega)]; omega
        have a1 : mIn (nI k) 3 = true := mIn_nI (by omega) (by omega)
        have a2 : (nI k).toNatClampNeg = k := nI_clamp (by omega)
        rw [w141_219]
        simp only [w141_220, w141_221, g1, ↓reduceIte, w141_224, w141_225, w141_228, w141_229, w141_230 (hi := a1), a2, nb_b.2, w141_231, nI_1, w141_234]
        refine ih _ (fun a h => by rw [mU_f h, f a h]) (fun j hj => ?_)
        by_cases e : j = k
        · subst e; exact mU_s _ _ _ _
        · rw [mU_k e]; exact t j (by omega)
      · intro I5 f t
        have g1 : 3 ≤ nI 3 := by decide
        rw [w141_219]
        simp only [w141_220, w141_221, g1, ↓reduceIte, w141_237, w141_238]
        have p0 : ∀ a, a ≠ 180 → a ≠ 212 → a ≠ 213 → a ≠ 226 → I5 a = I' a := fun a h1 h2 h3 h4 => by rw [f a h4, q0 a h1 h2 h3]
        have p1 : ∀ j, I5 180 j = I4 180 j := fun j => by rw [f 180 (by decide)]
        refine hG σ.1 I5 J' er (fZx_t (fZx_h fr) ?_) jr ⟨hs, by rw [p1]; exact q18, ?_, ?_, ?_, ?_, fun p hp => ?_, fun i hi => ?_, fun k hk => ?_⟩ ?_ (by rw [p1]; exact k54) (by rw [p1]; exact k62) t (by rw [p1]; exact q17)
        · intro a q x y z
          obtain ⟨z1, z2, z3, z4⟩ := z rfl
          by_cases e : a = 180
          · subst e
            rw [p1, q1 q (fun e => y ⟨rfl, Or.inl e⟩) (fun e => z1 ⟨rfl, Or.inl e⟩) (fun e => z1 ⟨rfl, Or.inr (Or.inl e)⟩) (fun e => z1 ⟨rfl, Or.inr (Or.inr (Or.inl e))⟩) (fun e => z1 ⟨rfl, by omega⟩) (fun e => z1 ⟨rfl, by omega⟩)]
          · rw [p0 a e z2 z3 z4]
        · rw [p0 190 (by decide) (by decide) (by decide) (by decide)]; exact u1
        · rw [p0 193 (by decide) (by decide) (by decide) (by decide)]; exact u2
        · rw [p0 198 (by decide) (by decide) (by decide) (by decide)]; exact u3
        · rw [p0 199 (by decide) (by decide) (by decide) (by decide)]; exact u4
        · rw [p0 191 (by decide) (by decide) (by decide) (by decide), p0 192 (by decide) (by decide) (by decide) (by decide)]; exact u5 p hp
        · rw [p0 194 (by decide) (by decide) (by decide) (by decide), p0 195 (by decide) (by decide) (by decide) (by decide), p0 196 (by decide) (by decide) (by decide) (by decide), p0 197 (by decide) (by decide) (by decide) (by decide)]; exact u6 i hi
        · exact mMw_of hk (by omega) (by omega) (mMwQ_e (fun a h1 h2 => p0 a (by omega) (by omega) (by omega) (by omega)) (u7 k hk))
        · exact mNw_of (fun k hk => by rw [f 212 (by decide)]; exact mNw_at n4 hk) (mNw_8 n4)
    exact key 0 (by omega) I4 (fun _ _ => rfl) (fun j hj => absurd hj (by omega))
  · have c0 : ¬ nI σ.2.2.1 ≤ 0 := fun z => by have := le.1 z; omega
    have e16 := (hw.2.2.2 w0).1
    have y13 : mU I' 180 17 (nI (tp W L σ.2.2.2)) 180 13 ≤ 0 := by rw [mU_k (by decide)]; exact z13
    have y15 : mU I' 180 17 (nI (tp W L σ.2.2.2)) 180 15 = nI σ.2.2.1 := by rw [mU_k (by decide)]; exact e15
    simp only [w141_134, w141_135, w141_136, w141_139, z13, ↓reduceIte, w141_149, w141_150, e15, c0, w141_153, w141_156, w141_157, e16, w141_160, w141_164, w141_167, w141_168, y13, w141_171, w141_179, w141_180, y15, w141_183, w141_186, w141_187, w141_190]
    refine hF σ.2.2 _ J' ?_ w0 w6 (fZx_t (fZx_h fr) fZx_17) jr (mU_s _ _ _ _)
    rw [sRd, eS]
    show (if σ.2.2.1 = 0 then _ else _) = _
    rw [if_neg w0]
theorem y141k (hs : s < 2) (hF : ∀ f I' J', sRd W L = .inl f → f.1 ≠ 0 → f.1 < 6 → fZx s false I I' → jYt J J' → I' 180 17 = nI (tp W L f.2) → Q (some (.int (nI f.1))) (mHh xL I' J' (mRf rc rx rr))) (hG : ∀ η' I' J', sRd W L = .inr η' → fZx s true I I' → jYt J J' → mMh I' s η' → mNw I' (sR0 η') → I' 180 54 = 0 → I' 180 62 = 0 → (∀ k, k < 3 → I' 226 k = 0) → I' 180 17 = -1 → Q (some (.int 0)) (mHh xL I' J' (mRf rc rx rr))) {v1 : Value} (hv : ∃ x, v1 = .int x) : ∀ n t (σ : pSg) (I' : Nat → Nat → Int32) (J' : Nat → Nat → Int64), 402 ≤ n + t → yS I' J' W L s t σ → σOk t σ → fYt s I I' → jYt J J' → sText W L n t σ = sText W L 402 0 (η0, [], (0, 0)) → WP (d + 10) 141 112 [.ref 180, v1] [] (mHh xL I' J' (mRf rc rx rr)) Q := by
  intro n
  induction n with
  | zero =>
    intro t σ I' J' hn h
    have : t ≤ 400 := h.1.1.2.1
    omega
  | succ n ih =>
    intro t σ I' J' hn h ok fr jr eT
    have hg : mRD I' J' W L t 0 0 := h.1.1
    have e13 : I' 180 13 = 0 := hg.2.2.2.2.1
    have cc0 := fun Q' => c148 (d := d + 9) (xL := xL) (rc := rc) (rx := rx) (rr := rr) (Q := Q') (κ := 0) hg (by decide) (show (0 : Int32) = nI 0 from rfl)
    rw [sText] at eT
    rw [w141_112]
    by_cases c0 : kk W L t = 0
    · rw [if_pos c0] at eT
      simp only [c0, decide_true, sB_t] at cc0
      simp only [w141_113, w141_116, e13, ↓reduceIte, w141_119, w141_120, w141_121, cc0, ↓reduceIte, Option.toList_some, Option.toList_none, List.cons_append, List.nil_append, Int32.reduceAdd, Int32.reduceLT, Int32.reduceLE, Int32.reduceToNatClampNeg, w141_124, o01]
      exact y141g hs hF hG hv eT.symm fr jr h ok
    · rw [if_neg c0] at eT
      simp only [c0, decide_false, sB_f] at cc0
      simp only [w141_113, w141_116, e13, ↓reduceIte, w141_119, w141_120, w141_121, cc0, ↓reduceIte, Option.toList_some, Option.toList_none, List.cons_append, List.nil_append, Int32.reduceAdd, Int32.reduceLT, Int32.reduceLE, Int32.reduceToNatClampNeg, w141_124, w141_127, w141_128]
      refine c149 (d := d) hs h ok ?_
      cases e : sTell W L t σ with
      | inl f =>
        rw [e] at eT
        intro I4 J4 f4 j4 g4
        have z := (yMx_13 g4).1
        have zn : ¬ I4 180 13 = 0 := fun e => by obtain ⟨p, e⟩ := z.1 e; cases e
        simp only [↓reduceIte, Option.toList_some, Option.toList_none, List.cons_append, List.nil_append, Int32.reduceAdd, Int32.reduceLT, Int32.reduceLE, Int32.reduceToNatClampNeg, w141_131]
        rw [w141_112]
        simp only [w141_113, w141_116, zn, ↓reduceIte]
        exact y141f hF eT.symm (fYt_t fr f4) (fun a ha => by rw [j4 a ha, jr a ha]) g4
      | inr p =>
        rw [e] at eT
        obtain ⟨a1, a2, a3⟩ := sTell_ok (hg.2.2.1 rfl) ok e
        intro I4 J4 f4 j4 g4
        simp only [↓reduceIte, Option.toList_some, Option.toList_none, List.cons_append, List.nil_append, Int32.reduceAdd, Int32.reduceLT, Int32.reduceLE, Int32.reduceToNatClampNeg, w141_131]
        exact ih p.1 p.2 I4 J4 (by omega) g4 a3 (fYt_t fr f4) (fun a ha => by rw [j4 a ha, jr a ha]) eT
end MRW
