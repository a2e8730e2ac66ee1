/-! The glass reads a law: what it does in a fault. -/
def gFS (I : Nat → Nat → Int32) (J : Nat → Nat → Int64) (W : Nat → Int32) (L l f i : Nat) : Prop := (∃ t, gRD I J W L t f i) ∧ f ≠ 0 ∧ ∃ s, s ≤ 400 ∧ I l 3 = nI s
def leU (I : Nat → Nat → Int32) (l u : Nat) (x : Int32) : Nat → Nat → Int32 := mU I (l + 2) u x
section GLA
variable {d : Nat} {xL : Nat} {I : Nat → Nat → Int32} {J : Nat → Nat → Int64} {rc rx rr : Nat} {Q : Option Value → mHp → Prop} {L : Nat} {W : Nat → Int32} {t f i l : Nat}
theorem gFS_3 (h : gFS I J W L l f i) : ¬ I 10 3 = 0 := by
  obtain ⟨⟨t, g⟩, f0, -⟩ := h
  have := g.2.2.2.2.1
  rw [g.2.2.2.1, in_eq 0 (by decide) (by omega)]; exact f0
theorem gFS_la (hl : mLa l) (h : gFS I J W L l f i) {x y : Int32} (hQ : ∀ I', fRd l I I' → gFS I' J W L l f i → Q none (mHh xL I' J (mRf rc rx rr))) : WP d 31 0 [.ref l, .int x, .int y] [] (mHh xL I J (mRf rc rx rr)) Q := by
  have hh := h
  obtain ⟨⟨t, g⟩, f0, s, s4, hs⟩ := h
  rw [c31 hl hs s4]
  by_cases e : s = 400
  · rw [if_pos e]; exact hQ I fRd_0 hh
  · rw [if_neg e]
    exact hQ _ (laU_d hl I s x y) ⟨⟨t, gRD_la hl g s x y⟩, f0, s + 1, by omega, mU_s _ _ _ _⟩
theorem c32 (hl : mLa l) {s u : Nat} (hs : I l 3 = nI s) (h4 : s ≤ 400) (hu : u ≤ 400) : WP d 32 0 [.ref l, .int (nI u)] [] (mHh xL I J (mRf rc rx rr)) Q = Q none (mHh xL (if u < s then leU I l u (nI (s - 1)) else I) J (mRf rc rx rr)) := by
  obtain ⟨-, -, k3, k4, -⟩ := la_kx l hl
  have g0 : ¬ nI u < 0 := nI_pos (by omega)
  by_cases c : u < s
  · have g1 : ¬ nI s ≤ nI u := nI_ge c (by omega)
    have m1 : mIn (nI u) (lyN (l + 2)) = true := by rw [k4]; exact mIn_nI (by omega) (by omega)
    have m2 : (nI u).toNatClampNeg = u := nI_clamp (by omega)
    have e1 : nI s - 1 = nI (s - 1) := nI_sbx (b := 1) (by omega)
    rw [if_pos c]
    simp only [w32_0, w32_1, g0, ↓reduceIte, w32_4, w32_5, w32_6 (ha := hl), hs, w32_9, g1, w32_12, w32_13 (ha := hl), w32_16, w32_17, w32_18 (ha := hl), w32_21, w32_22, e1, w32_23 (ha := k3) (hi := m1), m2, w32_24]
    rfl
  · have g1 : nI s ≤ nI u := nI_le (by omega) (by omega)
    rw [if_neg c]
    simp only [w32_0, w32_1, g0, ↓reduceIte, w32_4, w32_5, w32_6 (ha := hl), hs, w32_9, g1, w32_24]
theorem leU_d (hl : mLa l) (I : Nat → Nat → Int32) (u : Nat) (x : Int32) : fRd l I (leU I l u x) := by
  have := la_kx l hl
  refine ⟨fun a _ _ _ h3 => ?_, fun j _ _ _ => ?_, fun j _ => ?_⟩
  · rw [leU, mU_f h3]
  · rw [leU, mU_a (by omega)]
  · rw [leU, mU_a (by omega)]
theorem gRD_le (hl : mLa l) (h : gRD I J W L t f i) (u : Nat) (x : Int32) : gRD (leU I l u x) J W L t f i := by
  have k := la_kx l hl
  refine gRD_keep h (fun j _ => ?_) ?_ ?_ ?_
  · rw [leU, mU_a (by omega)]
  · rw [leU, mU_a (by omega)]
  · rw [leU, mU_f (by omega)]
  · rw [leU, mU_f (by omega)]
theorem x125f (h : gFS I J W L l f i) {v2 v3 : Value} : WP (d + 24) 51 125 [.ref 10, .ref l, v2, v3] [] (mHh xL I J (mRf rc rx rr)) Q = Q none (mHh xL I J (mRf rc rx rr)) := by
  have e3 := gFS_3 h
  obtain ⟨⟨t, g⟩, f0, -⟩ := h
  simp only [w51_125, w51_126, w51_127, w51_128, c52f (d := d + 21) e3, ↓reduceIte, Option.toList_some, Option.toList_none, List.cons_append, List.nil_append, Int32.reduceAdd, Int32.reduceLT, Int32.reduceLE, Int32.reduceToNatClampNeg, w51_131, w51_132, w51_134, c44f (d := d + 21) (κ := 4) (y := 59) g f0 (by decide) (by decide), w51_137]
theorem x21f (h : gFS I J W L l f i) {x : Int32} {v3 : Value} : WP (d + 24) 51 21 [.ref 10, .ref l, .int x, v3] [] (mHh xL I J (mRf rc rx rr)) Q = Q none (mHh xL I J (mRf rc rx rr)) := by
  have e3 := gFS_3 h
  rw [w51_21]
  by_cases c : 4 < x
  · simp only [w51_22, w51_23, c, ↓reduceIte]
    exact x125f h
  · simp only [w51_22, w51_23, c, ↓reduceIte, w51_26, w51_27, w51_30, e3]
    exact x125f h
theorem x107f (hl : mLa l) (h : gFS I J W L l f i) {x : Int32} {u : Nat} (hu : u ≤ 400) (hQ : ∀ I', fRd l I I' → gFS I' J W L l f i → Q none (mHh xL I' J (mRf rc rx rr))) : WP (d + 24) 51 107 [.ref 10, .ref l, .int x, .int (nI u)] [] (mHh xL I J (mRf rc rx rr)) Q := by
  simp only [w51_107, w51_108, w51_110, w51_111 (hb := hl)]
  refine gFS_la hl h ?_
  intro I1 f1 h1
  have hh := h1
  obtain ⟨⟨t, g⟩, f0, s, s4, hs⟩ := h1
  simp only [↓reduceIte, Option.toList_some, Option.toList_none, List.cons_append, List.nil_append, Int32.reduceAdd, Int32.reduceLT, Int32.reduceLE, Int32.reduceToNatClampNeg, w51_114, w51_115, w51_116 (hb := hl), c32 hl hs s4 hu, w51_119, w51_122]
  by_cases c : u < s
  · rw [if_pos c]
    have h2 : gFS (leU I1 l u (nI (s - 1))) J W L l f i := ⟨⟨t, gRD_le hl g u _⟩, f0, s, s4, by rw [leU, mU_a (by omega)]; exact hs⟩
    rw [x21f h2]
    exact hQ _ (fRd_t f1 (leU_d hl I1 u (nI (s - 1)))) h2
  · rw [if_neg c, x21f hh]
    exact hQ _ f1 hh
theorem x101f (hl : mLa l) (h : gFS I J W L l f i) {x : Int32} {u : Nat} (hu : u ≤ 400) (hQ : ∀ I', fRd l I I' → gFS I' J W L l f i → Q none (mHh xL I' J (mRf rc rx rr))) : WP (d + 24) 51 101 [.ref 10, .ref l, .int x, .int (nI u)] [] (mHh xL I J (mRf rc rx rr)) Q := by
  have hh := h
  obtain ⟨⟨t, g⟩, f0, -⟩ := h
  simp only [w51_101, w51_102, w51_104, c44f (d := d + 21) (κ := 30) (y := 110) g f0 (by decide) (by decide), ↓reduceIte, Option.toList_some, Option.toList_none, List.cons_append, List.nil_append, Int32.reduceAdd, Int32.reduceLT, Int32.reduceLE, Int32.reduceToNatClampNeg]
  exact x107f hl hh hu hQ
theorem x83f (hl : mLa l) (h : gFS I J W L l f i) {x : Int32} {v3 : Value} (hQ : ∀ I', fRd l I I' → gFS I' J W L l f i → Q none (mHh xL I' J (mRf rc rx rr))) : WP (d + 24) 51 83 [.ref 10, .ref l, .int x, v3] [] (mHh xL I J (mRf rc rx rr)) Q := by
  have hh := h
  obtain ⟨-, -, s, s4, hs⟩ := h
  simp only [w51_83, w51_84 (ha := hl), hs, w51_87, w51_88, w51_89, w51_91, w51_92 (hb := hl)]
  refine gFS_la hl hh ?_
  intro I1 f1 h1
  simp only [↓reduceIte, Option.toList_some, Option.toList_none, List.cons_append, List.nil_append, Int32.reduceAdd, Int32.reduceLT, Int32.reduceLE, Int32.reduceToNatClampNeg, w51_95, w51_96, w51_97, w51_98, c52f (d := d + 21) (gFS_3 h1)]
  exact x101f hl h1 s4 (fun I' f2 h2 => hQ I' (fRd_t f1 f2) h2)
theorem x77f (hl : mLa l) (h : gFS I J W L l f i) {x : Int32} {v3 : Value} (hQ : ∀ I', fRd l I I' → gFS I' J W L l f i → Q none (mHh xL I' J (mRf rc rx rr))) : WP (d + 24) 51 77 [.ref 10, .ref l, .int x, v3] [] (mHh xL I J (mRf rc rx rr)) Q := by
  have hh := h
  obtain ⟨⟨t, g⟩, f0, -⟩ := h
  simp only [w51_77, w51_78, w51_80, c44f (d := d + 21) (κ := 29) (y := 109) g f0 (by decide) (by decide), ↓reduceIte, Option.toList_some, Option.toList_none, List.cons_append, List.nil_append, Int32.reduceAdd, Int32.reduceLT, Int32.reduceLE, Int32.reduceToNatClampNeg]
  exact x83f hl hh hQ
theorem x71f (hl : mLa l) (h : gFS I J W L l f i) {x : Int32} {v3 : Value} (hQ : ∀ I', fRd l I I' → gFS I' J W L l f i → Q none (mHh xL I' J (mRf rc rx rr))) : WP (d + 24) 51 71 [.ref 10, .ref l, .int x, v3] [] (mHh xL I J (mRf rc rx rr)) Q := by
  simp only [w51_71, w51_72, w51_73, w51_74, c52f (d := d + 21) (gFS_3 h), ↓reduceIte, Option.toList_some, Option.toList_none, List.cons_append, List.nil_append, Int32.reduceAdd, Int32.reduceLT, Int32.reduceLE, Int32.reduceToNatClampNeg]
  exact x77f hl h hQ
theorem x65f (hl : mLa l) (h : gFS I J W L l f i) {x : Int32} {v3 : Value} (hQ : ∀ I', fRd l I I' → gFS I' J W L l f i → Q none (mHh xL I' J (mRf rc rx rr))) : WP (d + 24) 51 65 [.ref 10, .ref l, .int x, v3] [] (mHh xL I J (mRf rc rx rr)) Q := by
  have hh := h
  obtain ⟨⟨t, g⟩, f0, -⟩ := h
  simp only [w51_65, w51_66, w51_68, c44f (d := d + 21) (κ := 13) (y := 60) g f0 (by decide) (by decide), ↓reduceIte, Option.toList_some, Option.toList_none, List.cons_append, List.nil_append, Int32.reduceAdd, Int32.reduceLT, Int32.reduceLE, Int32.reduceToNatClampNeg]
  exact x71f hl hh hQ
theorem x59f (hl : mLa l) (h : gFS I J W L l f i) {x : Int32} {v3 : Value} (hQ : ∀ I', fRd l I I' → gFS I' J W L l f i → Q none (mHh xL I' J (mRf rc rx rr))) : WP (d + 24) 51 59 [.ref 10, .ref l, .int x, v3] [] (mHh xL I J (mRf rc rx rr)) Q := by
  simp only [w51_59, w51_60, w51_61, w51_62, c52f (d := d + 21) (gFS_3 h), ↓reduceIte, Option.toList_some, Option.toList_none, List.cons_append, List.nil_append, Int32.reduceAdd, Int32.reduceLT, Int32.reduceLE, Int32.reduceToNatClampNeg]
  exact x65f hl h hQ
end GLA
