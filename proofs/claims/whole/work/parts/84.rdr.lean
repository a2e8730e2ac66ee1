/-! The glass's reader: what it stands at, how it takes, how it fails. -/
def gRD (I : Nat → Nat → Int32) (J : Nat → Nat → Int64) (W : Nat → Int32) (L t f i : Nat) : Prop := (∃ n, gTk I J W L n) ∧ kLv W L t ∧ I 10 2 = nI t ∧ I 10 3 = nI f ∧ f < 6 ∧ (f ≠ 0 → I 10 4 = nI (tp W L i))
theorem gk_i : ∀ a, a < 40 → ∀ b, b < 40 → (nI (gk a) = nI (gk b) ↔ a = b) := by decide +kernel
theorem la_kx : ∀ l ∈ mLaL, lyK (l + 1) = 1 ∧ lyN (l + 1) = 400 ∧ lyK (l + 2) = 1 ∧ lyN (l + 2) = 400 ∧ 17 < l ∧ l < 60 := by decide +kernel
/-- how a fault is set down -/
def gFl (I : Nat → Nat → Int32) (f p : Int32) : Nat → Nat → Int32 := if I 10 3 = 0 then mU (mU I 10 3 f) 10 4 p else I
def laU (I : Nat → Nat → Int32) (l s : Nat) (x y : Int32) : Nat → Nat → Int32 := mU (mU (mU I (l + 1) s x) (l + 2) s y) l 3 (nI (s + 1))
theorem gRD_keep {I I' : Nat → Nat → Int32} {J : Nat → Nat → Int64} {W : Nat → Int32} {L t f i : Nat} (h : gRD I J W L t f i) (e10 : ∀ j, j = 2 ∨ j = 3 ∨ j = 4 → I' 10 j = I 10 j) (e11 : I' 11 4 = I 11 4) (e13 : I' 13 = I 13) (e15 : I' 15 = I 15) : gRD I' J W L t f i := by
  obtain ⟨⟨n, ⟨a1, a2, a3⟩, b, c⟩, h2, h3, h4, h5, h6⟩ := h
  refine ⟨⟨n, ⟨a1, a2, by rw [e11]; exact a3⟩, by rw [e13, e15]; exact b, c⟩, h2, by rw [e10 2 (by omega)]; exact h3, by rw [e10 3 (by omega)]; exact h4, h5, fun z => by rw [e10 4 (by omega)]; exact h6 z⟩
theorem gRD_fl {I : Nat → Nat → Int32} {J : Nat → Nat → Int64} {W : Nat → Int32} {L t f i : Nat} (h : gRD I J W L t f i) {g : Nat} (hg : g < 6) (g0 : g ≠ 0) : gRD (gFl I (nI g) (nI (tp W L t))) J W L t (if f = 0 then g else f) (if f = 0 then t else i) := by
  have hh := h
  obtain ⟨⟨n, ⟨a1, a2, a3⟩, b, c⟩, h2, h3, h4, h5, h6⟩ := h
  rw [gFl]
  by_cases f0 : f = 0
  · subst f0
    have e : I 10 3 = 0 := h4
    rw [if_pos e, if_pos rfl, if_pos rfl]
    refine ⟨⟨n, ⟨a1, a2, ?_⟩, ?_, c⟩, h2, ?_, ?_, hg, fun _ => mU_s _ _ _ _⟩
    · rw [mU_a (by decide), mU_a (by decide)]; exact a3
    · rw [mU_f (by decide), mU_f (by decide), mU_f (by decide), mU_f (by decide)]; exact b
    · rw [mU_k (by decide), mU_k (by decide)]; exact h3
    · rw [mU_k (by decide), mU_s]
  · have e : ¬ I 10 3 = 0 := by rw [h4, in_eq 0 (by decide) (by omega)]; exact f0
    rw [if_neg e, if_neg f0, if_neg f0]
    exact hh
theorem gRD_go {I : Nat → Nat → Int32} {J : Nat → Nat → Int64} {W : Nat → Int32} {L t i : Nat} (h : gRD I J W L t 0 i) (ht : t < 400) (hk : kk W L t ≠ 0 ∧ kk W L t ≠ 3) : gRD (mU I 10 2 (nI (t + 1))) J W L (t + 1) 0 0 := by
  obtain ⟨⟨n, ⟨a1, a2, a3⟩, b, c⟩, h2, h3, h4, h5, h6⟩ := h
  refine ⟨⟨n, ⟨a1, a2, ?_⟩, ?_, c⟩, ⟨by omega, fun j hj => ?_⟩, mU_s _ _ _ _, ?_, h5, fun z => absurd rfl z⟩
  · rw [mU_a (by decide)]; exact a3
  · rw [mU_f (by decide), mU_f (by decide)]; exact b
  · by_cases e : j = t
    · subst e; exact hk
    · exact h2.2 j (by omega)
  · rw [mU_k (by decide)]; exact h4
section RDR
variable {d : Nat} {xL : Nat} {I : Nat → Nat → Int32} {J : Nat → Nat → Int64} {rc rx rr : Nat} {Q : Option Value → mHp → Prop} {L : Nat} {W : Nat → Int32} {t f i : Nat}
theorem c39 (h : gRD I J W L t f i) : WP d 39 0 [.ref 10] [] (mHh xL I J (mRf rc rx rr)) Q = Q (some (.int (nI (gk (kk W L t))))) (mHh xL I J (mRf rc rx rr)) := by
  obtain ⟨⟨n, hn⟩, h2, h3, -⟩ := h
  have hl := kLv_n hn h2
  obtain ⟨⟨a1, a2, a3⟩, b, -⟩ := hn
  have g1 : ¬ nI n ≤ nI t := nI_ge hl (by omega)
  have m1 : mIn (nI t) 401 = true := mIn_nI (by omega) (by omega)
  have m2 : (nI t).toNatClampNeg = t := nI_clamp (by omega)
  simp only [w39_0, w39_1, w39_4, w39_5, w39_8, w39_11, w39_14, w39_15, w39_18, w39_21, w39_22, w39_25, w39_26, w39_29, w39_30, h3, a3, g1, ↓reduceIte, m1, m2, (b t hl).1]
theorem c46 (h : gRD I J W L t f i) : WP d 46 0 [.ref 10] [] (mHh xL I J (mRf rc rx rr)) Q = Q (some (.long (tkW W L (tp W L t)))) (mHh xL I J (mRf rc rx rr)) := by
  obtain ⟨⟨n, hn⟩, h2, h3, -⟩ := h
  have hl := kLv_n hn h2
  obtain ⟨⟨a1, a2, a3⟩, b, -⟩ := hn
  have g1 : ¬ nI n ≤ nI t := nI_ge hl (by omega)
  have m1 : mIn (nI t) 401 = true := mIn_nI (by omega) (by omega)
  have m2 : (nI t).toNatClampNeg = t := nI_clamp (by omega)
  simp only [w46_0, w46_1, w46_4, w46_5, w46_8, w46_11, w46_14, w46_15, w46_18, w46_21, w46_22, w46_25, w46_26, w46_29, w46_30, h3, a3, g1, ↓reduceIte, m1, m2, (b t hl).2.2]
theorem c43 (h : gRD I J W L t f i) : WP d 43 0 [.ref 10] [] (mHh xL I J (mRf rc rx rr)) Q = Q (some (.int (nI (tp W L t)))) (mHh xL I J (mRf rc rx rr)) := by
  obtain ⟨⟨n, hn⟩, h2, h3, -⟩ := h
  have hl := kLv_n hn h2
  obtain ⟨⟨a1, a2, a3⟩, b, -⟩ := hn
  have g1 : ¬ nI n ≤ nI t := nI_ge hl (by omega)
  have m1 : mIn (nI t) 401 = true := mIn_nI (by omega) (by omega)
  have m2 : (nI t).toNatClampNeg = t := nI_clamp (by omega)
  simp only [w43_0, w43_1, w43_4, w43_5, w43_8, w43_11, w43_14, w43_15, w43_18, w43_21, w43_22, w43_25, w43_26, w43_29, w43_30, h3, a3, g1, ↓reduceIte, m1, m2, (b t hl).2.1]
theorem c42 (h : gRD I J W L t f i) {g : Int32} : WP (d + 1) 42 0 [.ref 10, .int g] [] (mHh xL I J (mRf rc rx rr)) Q = Q none (mHh xL (gFl I g (nI (tp W L t))) J (mRf rc rx rr)) := by
  rw [gFl]
  by_cases e : I 10 3 = 0
  · have h' : gRD (mU I 10 3 g) J W L t f i ∨ True := Or.inr trivial
    have c := c43 (d := d) (xL := xL) (rc := rc) (rx := rx) (rr := rr) (Q := fun v h9 => WP (d + 1) 42 17 [.ref 10, .int g] (v.toList ++ [.ref 10]) h9 Q) (I := mU I 10 3 g) (J := J) (W := W) (L := L) (t := t) (f := 0) (i := 0)
    have hr : WP d 43 0 [.ref 10] [] (mHh xL (mU I 10 3 g) J (mRf rc rx rr)) (fun v h9 => WP (d + 1) 42 17 [.ref 10, .int g] (v.toList ++ [.ref 10]) h9 Q) = WP (d + 1) 42 17 [.ref 10, .int g] [.int (nI (tp W L t)), .ref 10] (mHh xL (mU I 10 3 g) J (mRf rc rx rr)) Q := by
      obtain ⟨⟨n, hn⟩, h2, h3, -⟩ := h
      have hl := kLv_n hn h2
      obtain ⟨⟨a1, a2, a3⟩, b, -⟩ := hn
      have g1 : ¬ nI n ≤ nI t := nI_ge hl (by omega)
      have m1 : mIn (nI t) 401 = true := mIn_nI (by omega) (by omega)
      have m2 : (nI t).toNatClampNeg = t := nI_clamp (by omega)
      have z1 : mU I 10 3 g 10 2 = nI t := by rw [mU_k (by decide)]; exact h3
      have z2 : mU I 10 3 g 11 4 = nI n := by rw [mU_a (by decide)]; exact a3
      have z3 : mU I 10 3 g 15 t = nI (tp W L t) := by rw [mU_a (by decide)]; exact (b t hl).2.1
      simp only [w43_0, w43_1, w43_4, w43_5, w43_8, w43_11, w43_14, w43_15, w43_18, w43_21, w43_22, w43_25, w43_26, w43_29, w43_30, z1, z2, z3, g1, ↓reduceIte, m1, m2, ↓reduceIte, Option.toList_some, Option.toList_none, List.cons_append, List.nil_append, Int32.reduceAdd, Int32.reduceLT, Int32.reduceLE, Int32.reduceToNatClampNeg]
    rw [if_pos e]
    simp only [w42_0, w42_1, e, w42_4, ↓reduceIte, w42_7, w42_8, w42_9, w42_12, w42_13, w42_14, hr, w42_17, w42_20]
  · rw [if_neg e]
    simp only [w42_0, w42_1, e, w42_4, ↓reduceIte, w42_20]
theorem c44 (h : gRD I J W L t f i) {κ : Nat} (hκ : κ < 40) : WP (d + 2) 44 0 [.ref 10, .int (nI (gk κ))] [] (mHh xL I J (mRf rc rx rr)) Q = Q none (mHh xL (if kk W L t = κ then (if t = 400 then gFl I (nI 2) (nI (tp W L t)) else if f = 0 then mU I 10 2 (nI (t + 1)) else I) else gFl I (nI 1) (nI (tp W L t))) J (mRf rc rx rr)) := by
  have hk := gk_i (kk W L t) (tKd_lt W L _) κ hκ
  have h3 := h.2.2.1
  have h4 := h.2.2.2.1
  have hf := h.2.2.2.2.1
  have ht := h.2.1.1
  have e1 : nI 1 = 1 := rfl
  have e2 : nI 2 = 2 := rfl
  simp only [w44_0, w44_1, c39 h, ↓reduceIte, Option.toList_some, Option.toList_none, List.cons_append, List.nil_append, Int32.reduceAdd, Int32.reduceLT, Int32.reduceLE, Int32.reduceToNatClampNeg, w44_4, w44_5, hk]
  by_cases ek : kk W L t = κ
  · have g4 : (nI t < 400) ↔ ¬ t = 400 := by rw [in_lt 400 (by decide) (by omega)]; omega
    simp only [ek, ↓reduceIte, w44_16, w44_17, h3, w44_20, w44_23, g4]
    by_cases t4 : t = 400
    · simp only [t4, not_true_eq_false, ↓reduceIte, w44_26, w44_27, w44_28]
      rw [← t4]
      simp only [c42 (d := d) h, ↓reduceIte, Option.toList_some, Option.toList_none, List.cons_append, List.nil_append, Int32.reduceAdd, Int32.reduceLT, Int32.reduceLE, Int32.reduceToNatClampNeg, w44_31, w44_51, e2]
    · have gf : (nI f = 0) ↔ f = 0 := in_eq 0 (by decide) (by omega)
      simp only [t4, not_false_eq_true, ↓reduceIte, w44_34, w44_35, h4, w44_38, gf]
      by_cases f0 : f = 0
      · simp only [f0, ↓reduceIte, w44_41, w44_42, w44_43, h3, w44_46, w44_47, nI_1, w44_48, w44_51]
      · simp only [f0, ↓reduceIte, w44_51]
  · simp only [ek, ↓reduceIte, w44_8, w44_9, w44_10, c42 (d := d) h, ↓reduceIte, Option.toList_some, Option.toList_none, List.cons_append, List.nil_append, Int32.reduceAdd, Int32.reduceLT, Int32.reduceLE, Int32.reduceToNatClampNeg, w44_13, w44_51, e1]
theorem c31 {l : Nat} (hl : mLa l) {s : Nat} (hs : I l 3 = nI s) (h4 : s ≤ 400) {x y : Int32} : WP d 31 0 [.ref l, .int x, .int y] [] (mHh xL I J (mRf rc rx rr)) Q = Q none (mHh xL (if s = 400 then I else laU I l s x y) J (mRf rc rx rr)) := by
  obtain ⟨k1, k2, k3, k4, -⟩ := la_kx l hl
  have g4 : (400 ≤ nI s) ↔ s = 400 := by rw [ni_le 400 (by decide) (by omega)]; omega
  simp only [w31_0, w31_1 (ha := hl), hs, w31_4, w31_7, g4]
  by_cases s4 : s = 400
  · simp only [s4, ↓reduceIte, w31_40]
  · have m1 : mIn (nI s) 400 = true := mIn_nI (by omega) (by omega)
    have m2 : (nI s).toNatClampNeg = s := nI_clamp (by omega)
    have z1 : mU I (l + 1) s x l 3 = nI s := by rw [mU_a (by omega)]; exact hs
    have z2 : mU (mU I (l + 1) s x) (l + 2) s y l 3 = nI s := by rw [mU_a (by omega)]; exact z1
    have m3 : mIn (nI s) (lyN (l + 1)) = true := by rw [k2]; exact m1
    have m4 : mIn (nI s) (lyN (l + 2)) = true := by rw [k4]; exact m1
    simp only [s4, ↓reduceIte, w31_10, w31_11 (ha := hl), w31_14, w31_15 (ha := hl), hs, w31_18, w31_19 (ha := k1) (hi := m3), m2, w31_20, w31_21 (ha := hl), w31_24, w31_25 (ha := hl), z1, w31_28, w31_29 (ha := k3) (hi := m4), w31_30, w31_31, w31_32 (ha := hl), z2, w31_35, w31_36, nI_1, w31_37 (ha := hl), w31_40]
    rfl
end RDR
