/-! The model reads a law, whole. -/
def nxs (p : Nat × Nat) : yL := bd (nx p.1) fun t1 => .inr (t1, p.2)
def rIf (W : Nat → Int32) (L : Nat) (p : Nat × Nat) : yL := bd (bd (bd (bd (bd (bd (nxs p) (sEx W L)) (sTa W L 13)) (sEx W L)) (sTa W L 29)) (sEx W L)) (sTa W L 30)
theorem rIf_c (W : Nat → Int32) (L t s : Nat) : (∃ f, rIf W L (t, s) = .inl f ∧ pIf W L t = .inl f) ∨ (∃ t1 p t3 q t5 z t7, nx t = .inr t1 ∧ pE W L 2000 3 0 t1 = .inr p ∧ pTt W L 13 p.1 = .inr t3 ∧ pE W L 2000 3 0 t3 = .inr q ∧ pTt W L 29 q.1 = .inr t5 ∧ pE W L 2000 3 0 t5 = .inr z ∧ pTt W L 30 z.1 = .inr t7 ∧ rIf W L (t, s) = .inr (t7, s + p.2.length + q.2.length + z.2.length) ∧ pIf W L t = .inr (t7, p.2, q.2, z.2)) := by
  simp only [rIf, pIf, nxs]
  cases e1 : nx t with
  | inl f => exact Or.inl ⟨f, rfl, rfl⟩
  | inr t1 =>
    simp only [bd, sEx]
    cases e2 : pE W L 2000 3 0 t1 with
    | inl f => exact Or.inl ⟨f, rfl, rfl⟩
    | inr p =>
      simp only [bd, sTa]
      cases e3 : pTt W L 13 p.1 with
      | inl f => exact Or.inl ⟨f, rfl, rfl⟩
      | inr t3 =>
        simp only [bd, sEx]
        cases e4 : pE W L 2000 3 0 t3 with
        | inl f => exact Or.inl ⟨f, rfl, rfl⟩
        | inr q =>
          simp only [bd, sTa]
          cases e5 : pTt W L 29 q.1 with
          | inl f => exact Or.inl ⟨f, rfl, rfl⟩
          | inr t5 =>
            simp only [bd, sEx]
            cases e6 : pE W L 2000 3 0 t5 with
            | inl f => exact Or.inl ⟨f, rfl, rfl⟩
            | inr z =>
              simp only [bd, sTa]
              cases e7 : pTt W L 30 z.1 with
              | inl f => exact Or.inl ⟨f, rfl, rfl⟩
              | inr t7 => exact Or.inr ⟨t1, p, t3, q, t5, z, t7, rfl, e2, e3, e4, e5, e6, e7, rfl, rfl⟩
def yLq (xL rc rx rr B bl bh j b0 : Nat) (I : Nat → Nat → Int32) (J : Nat → Nat → Int64) (W : Nat → Int32) (L : Nat) (Q : Option Value → mHp → Prop) (b s : Nat) : pLr → Prop
  | .inl f => ∀ I', fLw (B + 405) bl bh j I I' → (∃ t, mRD I' J W L t f.1 f.2) → f.1 ≠ 0 → Q none (mHh xL I' J (mRf rc rx rr))
  | .inr r => ∀ I' s', fLw (B + 405) bl bh j I I' → mRD I' J W L r.1 0 0 → I' 180 12 = 0 → I' 200 j = nI b0 → I' 201 j = nI (b + r.2.1.length + 1) → I' 180 35 = nI (b + r.2.1.length + 1) → I' 180 41 = nI s' → s ≤ s' → s' ≤ B + r.1 → mMbR I' s s' r.2.1 r.2.2 b → Q none (mHh xL I' J (mRf rc rx rr))
def yLr (xL rc rx rr B bl bh j b0 : Nat) (I : Nat → Nat → Int32) (J : Nat → Nat → Int64) (W : Nat → Int32) (L : Nat) (Q : Option Value → mHp → Prop) (b : Nat) (P : Nat → pLr) : yL → Prop
  | .inl f => yLq xL rc rx rr B bl bh j b0 I J W L Q b 0 (.inl f)
  | .inr p => yLq xL rc rx rr B bl bh j b0 I J W L Q b p.2 (P p.1)
theorem fLw_j {M b bh j : Nat} {I I' : Nat → Nat → Int32} (hb : b + 1 ≤ bh) (h : fLw M b (b + 1) 0 I I') (e : I' 200 = I 200 ∧ I' 201 = I 201) : fLw M b bh j I I' := ⟨h.1, h.2.1, fun a x y q hq => h.2.2.1 a x y q (by omega), fun a x q _ => by rcases x with rfl | rfl; rw [e.1]; rw [e.2], h.2.2.2.2⟩
theorem nb_b : vp_nar .boolean 1 = 1 ∧ vp_nar .boolean 0 = 0 := by decide
section MLW3
variable {d B b : Nat} {xL : Nat} {I : Nat → Nat → Int32} {J : Nat → Nat → Int64} {rc rx rr : Nat} {Q : Option Value → mHp → Prop} {L : Nat} {W : Nat → Int32} {r : yL} {s k b0 bh : Nat}
theorem c152u {p : Nat × Nat} (h : yLs I J W L B b (.inr p)) (hk : kk W L p.1 ≠ 0 ∧ kk W L p.1 ≠ 3) (hQ : ∀ I', fM1 I I' → yLs I' J W L B b (nxs p) → Q none (mHh xL I' J (mRf rc rx rr))) : WP (d + 1) 152 0 [.ref 180] [] (mHh xL I J (mRf rc rx rr)) Q := by
  obtain ⟨t, s⟩ := p
  obtain ⟨h35, g, h12, h41, hs⟩ := h
  change mRD I J W L t 0 0 at g
  change I 180 41 = nI s at h41
  change s ≤ B + t at hs
  change kk W L t ≠ 0 ∧ kk W L t ≠ 3 at hk
  have ht := g.2.1
  refine c152n g hk (fun I' r1 q1 q2 => hQ I' r1 ?_)
  have e35 : I' 180 35 = nI b := by rw [r1.2 35 (by decide) (by decide) (by decide)]; exact h35
  have e41 : I' 180 41 = nI s := by rw [r1.2 41 (by decide) (by decide) (by decide)]; exact h41
  show yLs I' J W L B b (bd (nx t) fun t1 => .inr (t1, s))
  cases c : nx t with
  | inl f => exact ⟨e35, ⟨t, q1 f c⟩, by rw [(nx_l c).2]; exact (by decide : (2 : Nat) ≠ 0), s, by omega, e41⟩
  | inr t1 =>
    have et := (nx_r (g.2.2.1 rfl) hk c).1
    exact ⟨e35, q2 t1 c, by rw [r1.2 12 (by decide) (by decide) (by decide)]; exact h12, e41, by show s ≤ B + t1; omega⟩
theorem yLast (hB : B ≤ 430) (hs : s < 2) (hk : k < 4) (h19 : I 180 19 = nI s) (h : yLs I J W L B b r) (hb : b + 1 ≤ bh) (hbh : bh ≤ 260) {v3 : Value} (hP : yLr xL rc rx rr B b bh (4 * s + k) b0 I J W L Q b (pLe W L) r) : WP (d + 6) 161 129 [.ref 180, .int (nI k), .int (nI b0), v3] [] (mHh xL I J (mRf rc rx rr)) Q := by
  have a1 : mIn (nI b) 260 = true := mIn_nI (by omega) (by omega)
  have a2 : (nI b).toNatClampNeg = b := nI_clamp (by omega)
  have e35 := yLs_b h
  simp only [w161_129, w161_130, w161_133, w161_134, e35, w161_137, w161_138 (hi := a1), a2, nb_b.2, w161_139, w161_140]
  have f1 := fBr_u (b := b) (a := 202) (by decide) I 0
  have h1 := yLs_k h f1
  have i1 : mU I 202 b 0 202 b = 0 := mU_s _ _ _ _
  have k1 : ∀ a, a ≠ 202 → mU I 202 b 0 a = I a := fun a ha => mU_f ha
  generalize mU I 202 b 0 = I1 at *
  refine c166u (d := d) hB (show b < 260 by omega) h1 (fun I2 f2 h2 p2 q2 x2 => ?_)
  simp only [↓reduceIte, Option.toList_some, Option.toList_none, List.cons_append, List.nil_append, Int32.reduceAdd, Int32.reduceLT, Int32.reduceLE, Int32.reduceToNatClampNeg, w161_143, w161_144, w161_145]
  refine c154u (d := d + 3) (y := 4) h2 (κ := 4) (by decide) (by decide) rfl (fun I3 f3 h3 => ?_)
  have z := (yLs_13 h3).2
  have fr : fLw (B + 405) b bh (4 * s + k) I I3 := fLw_t (fBr_w ⟨Nat.le_refl _, by omega⟩ f1) (fLw_t (fLw_j hb f2 q2) (fMe_w (fM1_e f3)))
  simp only [↓reduceIte, Option.toList_some, Option.toList_none, List.cons_append, List.nil_append, Int32.reduceAdd, Int32.reduceLT, Int32.reduceLE, Int32.reduceToNatClampNeg, w161_148, w161_149, w161_152]
  cases r with
  | inl f =>
    have zn : ¬ I3 180 13 ≤ 0 := fun e => by obtain ⟨p, e⟩ := z.1 e; cases e
    simp only [zn, ↓reduceIte, w161_155]
    exact hP I3 fr h3.2.1 h3.2.2.1
  | inr p =>
    obtain ⟨t, c⟩ := p
    change yLq xL rc rx rr B b bh (4 * s + k) b0 I J W L Q b c (pLe W L t) at hP
    change I3 180 13 ≤ 0 ↔ ∃ p, bd (bd (pE W L 2000 3 0 t) fun q => .inr (q.1, c + q.2.length)) (sTa W L 4) = .inr p at z
    change yLs I3 J W L B (b + 1) (bd (bd (pE W L 2000 3 0 t) fun q => .inr (q.1, c + q.2.length)) (sTa W L 4)) at h3
    rw [pLe] at hP
    cases e1 : pE W L 2000 3 0 t with
    | inl f =>
      rw [e1] at hP z h3
      have zn : ¬ I3 180 13 ≤ 0 := fun e => by obtain ⟨p, e⟩ := z.1 e; cases e
      simp only [zn, ↓reduceIte, w161_155]
      exact hP I3 fr h3.2.1 h3.2.2.1
    | inr p =>
      rw [e1] at hP z h3
      change yLq xL rc rx rr B b bh (4 * s + k) b0 I J W L Q b c (bd (pTt W L 4 p.1) fun t2 => .inr (t2, [], p.2)) at hP
      change I3 180 13 ≤ 0 ↔ ∃ q, (bd (pTt W L 4 p.1) fun t1 => .inr (t1, c + p.2.length) : yL) = .inr q at z
      change yLs I3 J W L B (b + 1) (bd (pTt W L 4 p.1) fun t1 => .inr (t1, c + p.2.length)) at h3
      obtain ⟨x1, x5, x6⟩ := x2 (t, c) p rfl e1
      cases e2 : pTt W L 4 p.1 with
      | inl f =>
        rw [e2] at hP z h3
        have zn : ¬ I3 180 13 ≤ 0 := fun e => by obtain ⟨p, e⟩ := z.1 e; cases e
        simp only [zn, ↓reduceIte, w161_155]
        exact hP I3 fr h3.2.1 h3.2.2.1
      | inr t2 =>
        rw [e2] at hP z h3
        have zy : I3 180 13 ≤ 0 := z.2 ⟨_, rfl⟩
        obtain ⟨g35, g, g12, g41, gB⟩ := h3
        change mRD I3 J W L t2 0 0 at g
        change I3 180 41 = nI (c + p.2.length) at g41
        change c + p.2.length ≤ B + t2 at gB
        have h8 : mIn (nI (4 * s + k)) 8 = true := mIn_nI (by omega) (by omega)
        have h9 : (nI (4 * s + k)).toNatClampNeg = 4 * s + k := nI_clamp (by omega)
        have a3 : 4 * nI s = nI (4 * s) := pk_mul 4 s
        have a5 : nI (4 * s) + nI k = nI (4 * s + k) := nI_add _ _
        have e19 : I3 180 19 = nI s := by rw [fr.2.1 19 (by decide) (by decide) (by decide) (by decide) (by decide) (by decide) (by decide)]; exact h19
        have y19 : mU I3 200 (4 * s + k) (nI b0) 180 19 = nI s := by rw [mU_a (by decide)]; exact e19
        have y35 : mU I3 200 (4 * s + k) (nI b0) 180 35 = nI (b + 1) := by rw [mU_a (by decide)]; exact g35
        simp only [zy, ↓reduceIte, w161_156, w161_157, w161_160, w161_161, w161_162, e19, w161_165, a3, w161_166, w161_167, a5, w161_168, w161_169 (hi := h8), h9, w161_170, w161_171, w161_174, w161_175, w161_176, y19, w161_179, w161_180, w161_181, w161_182, w161_183, y35, w161_186 (hi := h8), w161_187]
        have k5 : ∀ a, a ≠ 200 → a ≠ 201 → mU (mU I3 200 (4 * s + k) (nI b0)) 201 (4 * s + k) (nI (b + 1)) a = I3 a := fun a h1 h2 => by rw [mU_f h2, mU_f h1]
        have f5 : fLw (B + 405) b bh (4 * s + k) I3 (mU (mU I3 200 (4 * s + k) (nI b0)) 201 (4 * s + k) (nI (b + 1))) := ⟨fun a _ y => k5 a (by omega) (by omega), fun k _ _ _ _ _ _ _ => by rw [k5 180 (by decide) (by decide)], fun a x y q _ => by rw [k5 a (by omega) (by omega)], fun a x q hq => by rcases x with rfl | rfl; rw [mU_a (by decide), mU_k hq]; rw [mU_k hq, mU_a (by decide)], fCd_e (by rw [k5 180 (by decide) (by decide)]) (k5 207 (by decide) (by decide)) (k5 208 (by decide) (by decide))⟩
        refine hP _ (c + p.2.length) (fLw_t fr f5) (mRD_keep g (fun j _ => by rw [k5 180 (by decide) (by decide)]) (k5 183 (by decide) (by decide)) (k5 184 (by decide) (by decide)) (k5 185 (by decide) (by decide))) (by rw [k5 180 (by decide) (by decide)]; exact g12) (by rw [mU_a (by decide), mU_s]) (mU_s _ _ _ _) (by rw [k5 180 (by decide) (by decide)]; exact g35) (by rw [k5 180 (by decide) (by decide)]; exact g41) (by omega) gB ⟨c, ?_, ?_, ?_, ⟨Nat.le_refl _, Nat.le_refl _⟩, ?_⟩
        · rw [k5 202 (by decide) (by decide), f3.1 202 (by decide), p2 202 (by decide) (by decide)]; exact i1
        · rw [k5 205 (by decide) (by decide), f3.1 205 (by decide)]; exact x5
        · rw [k5 206 (by decide) (by decide), f3.1 206 (by decide)]; exact x6
        · rw [k5 207 (by decide) (by decide), k5 208 (by decide) (by decide), f3.1 207 (by decide), f3.1 208 (by decide)]; exact x1
end MLW3
