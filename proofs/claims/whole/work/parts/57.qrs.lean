/-! Queries: parts. -/
def tB (ρ : Nat → Int32) (b : Nat) : Nat → Int32
  | 0 => 0
  | k + 1 => tB ρ b k + ((nI b >>> (nI k &&& 31)) &&& 1) * ρ k
def pt (t : Nat → Bool) : Nat → Nat × Option Nat
  | 0 => (0, none)
  | b + 1 => if t b then ((pt t b).1 + 1, match (pt t b).2 with | none => some b | some x => some x) else pt t b
theorem pt_z (t : Nat → Bool) : ∀ b, ((pt t b).1 = 0 ↔ (pt t b).2 = none) ∧ (pt t b).1 ≤ b ∧ ∀ x, (pt t b).2 = some x → x < b := by
  intro b
  induction b with
  | zero => exact ⟨⟨fun _ => rfl, fun _ => rfl⟩, Nat.le_refl _, fun x h => by cases h⟩
  | succ b ih =>
    obtain ⟨i1, i2, i3⟩ := ih
    rw [pt]
    split
    · refine ⟨⟨fun z => by simp at z, fun z => ?_⟩, by show (pt t b).1 + 1 ≤ b + 1; omega, ?_⟩
      · exfalso
        revert z
        show (match (pt t b).2 with | none => some b | some x => some x) = none → False
        cases (pt t b).2 <;> (intro z; cases z)
      · intro x
        show (match (pt t b).2 with | none => some b | some x => some x) = some x → x < b + 1
        cases hx : (pt t b).2 with
        | none => intro z; injection z with z; omega
        | some y => intro z; injection z with z; have := i3 y hx; omega
    · exact ⟨i1, by omega, fun x h => by have := i3 x h; omega⟩
def pT (η : mHs) (ρ : Nat → Int32) (v : Int32) (b : Nat) : Bool := decide (tB ρ b η.1 = v)
def q_parts (η : mHs) (ρ : Nat → Int32) (v w : Int32) : Int32 := if sW v 0 100 && sW w 0 1 then (if w = 0 then nI (pt (pT η ρ v) (2 ^ η.1)).1 else fkI (pt (pT η ρ v) (2 ^ η.1)).2) else -1
theorem fkI_m2 {o : Option Nat} {D : Nat} (hD : D < 2 ^ 31) (h : ∀ x, o = some x → x < D) : (fkI o = -2) ↔ o = none := by
  cases o with
  | none => exact ⟨fun _ => rfl, fun _ => rfl⟩
  | some x =>
    have := h x rfl
    refine ⟨fun z => ?_, fun z => by cases z⟩
    exfalso
    have h2 := nI_pos (n := x) (by omega)
    have z2 : nI x = -2 := z
    rw [z2] at h2
    exact h2 (by decide)
theorem pow5 {k : Nat} (h : k ≤ 5) : 2 ^ k ≤ 32 := by
  have := Nat.pow_le_pow_right (show 0 < 2 by decide) h
  have h2 : 2 ^ 5 = 32 := by decide
  omega
section QRS
variable {d : Nat} {xL : Nat} {I : Nat → Nat → Int32} {J : Nat → Nat → Int64} {rr : Nat} {Q : Option Value → mHp → Prop} {s o : Nat} {η : mHs} {ρ : Nat → Int32}
theorem c121 (hb : xB I o η ρ) (b : Nat) : WP (d + 1) 121 0 [.ref 7, .int (nI b), mDum, mDum] [] (mHh xL I J (mRf o o rr)) Q = Q (some (.int (tB ρ b η.1))) (mHh xL I J (mRf o o rr)) := by
  obtain ⟨hk, hh, hr, ho, -⟩ := hb
  have hn5 := hk.1
  have hHo := hh.1
  obtain ⟨-, -, k3, k4, -⟩ := st_k s163
  simp only [w121_0, w121_1, w121_2, w121_3]
  have key : ∀ k, k ≤ η.1 → WP (d + 1) 121 4 [.ref 7, .int (nI b), .int (tB ρ b k), .int (nI k)] [] (mHh xL I J (mRf o o rr)) Q = Q (some (.int (tB ρ b η.1))) (mHh xL I J (mRf o o rr)) := by
    refine iter_dn ?_ ?_
    · intro k hk1 ih
      have g1 : ¬ nI η.1 ≤ nI k := nI_ge hk1 (by omega)
      have a1 : mIn (nI k) 5 = true := mIn_nI (by omega) (by omega)
      have a2 : (nI k).toNatClampNeg = k := nI_clamp (by omega)
      have e1 : I (163 + 1) k = ρ k := mRw_p hr (by omega)
      rw [← ih, tB, w121_4]
      simp only [w121_0, w121_1, w121_2, w121_3, w121_5, w121_6, w121_9, w121_12, w121_15, w121_16, w121_17, w121_18, w121_19, w121_20, w121_21, w121_22, w121_25, w121_28, w121_29, w121_30, w121_31, w121_32, w121_33, w121_36, w121_39, w121_40, hHo, hh.2.1, g1, ↓reduceIte, s163, k3, k4, a1, a2, e1, nI_1]
    · have g1 : nI η.1 ≤ nI η.1 := nI_le (Nat.le_refl _) (by omega)
      rw [w121_4]
      simp only [w121_0, w121_1, w121_2, w121_3, w121_5, w121_6, w121_9, w121_12, w121_15, w121_16, w121_17, w121_18, w121_19, w121_20, w121_21, w121_22, w121_25, w121_28, w121_29, w121_30, w121_31, w121_32, w121_33, w121_36, w121_39, w121_40, hHo, hh.2.1, g1, ↓reduceIte]
  exact key 0 (by omega)
theorem c120 (hb : xB I o η ρ) (v w : Int32) : WP (d + 2) 120 0 [.ref 7, .int v, .int w, mDum, mDum, mDum] [] (mHh xL I J (mRf o o rr)) Q = Q (some (.int (q_parts η ρ v w))) (mHh xL I J (mRf o o rr)) := by
  have hb0 := hb
  obtain ⟨hk, hh, hr, ho, -⟩ := hb
  have hn5 := hk.1
  have h32 := pow5 hn5
  have hHo := hh.1
  simp only [w120_0, w120_1, w120_2, w120_4, c95, ↓reduceIte, Option.toList_some, Option.toList_none, List.cons_append, List.nil_append, Int32.reduceAdd, Int32.reduceLT, Int32.reduceLE, Int32.reduceToNatClampNeg, w120_7, q_parts]
  by_cases h : sW v 0 100 = true
  · by_cases h' : sW w 0 1 = true
    · rw [h, h']
      simp only [sB_t, o01, ↓reduceIte, w120_10, w120_11, w120_12, w120_13, c95, sB_t h', ↓reduceIte, Option.toList_some, Option.toList_none, List.cons_append, List.nil_append, Int32.reduceAdd, Int32.reduceLT, Int32.reduceLE, Int32.reduceToNatClampNeg, w120_16, w120_21, w120_22, w120_23, w120_25, w120_27, w120_28, Bool.and_self]
      have L : ∀ b, b ≤ 2 ^ η.1 → WP (d + 2) 120 30 [.ref 7, .int v, .int w, .int (nI (pt (pT η ρ v) b).1), .int (fkI (pt (pT η ρ v) b).2), .int (nI b)] [] (mHh xL I J (mRf o o rr)) Q = Q (some (.int (if w = 0 then nI (pt (pT η ρ v) (2 ^ η.1)).1 else fkI (pt (pT η ρ v) (2 ^ η.1)).2))) (mHh xL I J (mRf o o rr)) := by
        refine iter_dn ?_ ?_
        · intro b hb1 ih
          have g1 : ¬ nI (2 ^ η.1) ≤ nI b := nI_ge hb1 (by omega)
          obtain ⟨i1, i2, i3⟩ := pt_z (pT η ρ v) b
          have e2 := fkI_m2 (o := (pt (pT η ρ v) b).2) (D := b) (by omega) i3
          rw [← ih, pt, w120_30]
          simp only [w120_32, w120_33, w120_34, w120_37, hHo, hh.2.1, w120_40, bSh _ (show η.1 < 7 by omega), w120_41, g1, ↓reduceIte, w120_44, w120_45, w120_47, c121 hb0, ↓reduceIte, Option.toList_some, Option.toList_none, List.cons_append, List.nil_append, Int32.reduceAdd, Int32.reduceLT, Int32.reduceLE, Int32.reduceToNatClampNeg, w120_50, w120_51]
          by_cases hc : tB ρ b η.1 = v
          · have hc' : pT η ρ v b = true := decide_eq_true hc
            simp only [hc, hc', ↓reduceIte, w120_54, nI_1, w120_57, w120_59, w120_61, e2]
            cases hx : (pt (pT η ρ v) b).2 with
            | none =>
              simp only [↓reduceIte, w120_64, w120_66, w120_71, w120_73, w120_76, nI_1]
              rfl
            | some x =>
              have n1 : ¬ ((some x : Option Nat) = none) := fun z => by cases z
              simp only [n1, ↓reduceIte, w120_69, w120_71, w120_73, w120_76, nI_1]
          · have hc' : ¬ pT η ρ v b = true := by rw [pT, decide_eq_true_eq]; exact hc
            simp only [hc, hc', ↓reduceIte, w120_73, w120_76, nI_1]
            rfl
        · have g1 : nI (2 ^ η.1) ≤ nI (2 ^ η.1) := nI_le (Nat.le_refl _) (by omega)
          rw [w120_30]
          simp only [w120_32, w120_33, w120_34, w120_37, hHo, hh.2.1, w120_40, bSh _ (show η.1 < 7 by omega), w120_41, g1, ↓reduceIte, w120_79, w120_80]
          by_cases hw : w = 0
          · simp only [hw, ↓reduceIte, w120_83, w120_84, w120_89]
          · simp only [hw, ↓reduceIte, w120_87, w120_89]
      exact L 0 (Nat.zero_le _)
    · have h2 : sW w 0 1 = false := by simpa using h'
      rw [h, h2]
      simp only [sB_t, o01, ↓reduceIte, w120_10, w120_11, w120_12, w120_13, c95, sB_f h2, ↓reduceIte, Option.toList_some, Option.toList_none, List.cons_append, List.nil_append, Int32.reduceAdd, Int32.reduceLT, Int32.reduceLE, Int32.reduceToNatClampNeg, w120_16, w120_19, w120_20, Bool.and_false, Bool.false_eq_true]
  · have h2 : sW v 0 100 = false := by simpa using h
    rw [h2]
    simp only [sB_f, ↓reduceIte, w120_19, w120_20, Bool.false_and, Bool.false_eq_true]
theorem c226 (hb : zB I s η ρ) {rc rx : Nat} (v w : Int32) : WP (d + 2) 226 0 [.ref 180, .int v, .int w, mDum, mDum, mDum, mDum, mDum] [] (mHh xL I J (mRf rc rx rr)) Q = Q (some (.int (q_parts η ρ v w))) (mHh xL I J (mRf rc rx rr)) := by
  have hb0 := hb
  obtain ⟨hk, hh, hr, ho, -⟩ := hb
  have hn5 := hk.1
  have h32 := pow5 hn5
  have hs := hh.1
  have s1 : mIn (nI s) 2 = true := mIn_nI (by omega) (by omega)
  have s2 : (nI s).toNatClampNeg = s := nI_clamp (by omega)
  have e8 : (decide ((0 : Int32) ≤ v) && decide (v ≤ 100)) = sW v 0 100 := rfl
  have e9 : (decide ((0 : Int32) ≤ w) && decide (w ≤ 1)) = sW w 0 1 := rfl
  simp only [w226_0, w226_1, w226_2, w226_4, c170, e8, ↓reduceIte, Option.toList_some, Option.toList_none, List.cons_append, List.nil_append, Int32.reduceAdd, Int32.reduceLT, Int32.reduceLE, Int32.reduceToNatClampNeg, w226_7, q_parts]
  by_cases h : sW v 0 100 = true
  · by_cases h' : sW w 0 1 = true
    · rw [h, h']
      simp only [sB_t, o01, ↓reduceIte, w226_10, w226_11, w226_12, w226_13, c170, e9, sB_t h', ↓reduceIte, Option.toList_some, Option.toList_none, List.cons_append, List.nil_append, Int32.reduceAdd, Int32.reduceLT, Int32.reduceLE, Int32.reduceToNatClampNeg, w226_16, w226_21, w226_22, w226_23, w226_25, w226_27, w226_28, Bool.and_self]
      have L : ∀ b, b ≤ 2 ^ η.1 → ∀ v6 v7 : Value, WP (d + 2) 226 30 [.ref 180, .int v, .int w, .int (nI (pt (pT η ρ v) b).1), .int (fkI (pt (pT η ρ v) b).2), .int (nI b), v6, v7] [] (mHh xL I J (mRf rc rx rr)) Q = Q (some (.int (if w = 0 then nI (pt (pT η ρ v) (2 ^ η.1)).1 else fkI (pt (pT η ρ v) (2 ^ η.1)).2))) (mHh xL I J (mRf rc rx rr)) := by
        refine iter_dn ?_ ?_
        · intro b hb1 ih v6 v7
          have g1 : ¬ nI (2 ^ η.1) ≤ nI b := nI_ge hb1 (by omega)
          obtain ⟨i1, i2, i3⟩ := pt_z (pT η ρ v) b
          have e0 : (nI (pt (pT η ρ v) b).1 = 0) ↔ (pt (pT η ρ v) b).2 = none := by rw [← i1]; exact nI_eq (b := 0) (by omega) (by omega)
          rw [w226_30]
          simp only [w226_32, w226_33, w226_34, w226_37, w226_38, w226_41, hh.2.1, s1, s2, hh.2.2.1, w226_42, bSh _ (show η.1 < 7 by omega), w226_43, g1, ↓reduceIte, w226_46, w226_47, w226_49, w226_50]
          have M : ∀ k, k ≤ η.1 → WP (d + 2) 226 52 [.ref 180, .int v, .int w, .int (nI (pt (pT η ρ v) b).1), .int (fkI (pt (pT η ρ v) b).2), .int (nI b), .int (tB ρ b k), .int (nI k)] [] (mHh xL I J (mRf rc rx rr)) Q = Q (some (.int (if w = 0 then nI (pt (pT η ρ v) (2 ^ η.1)).1 else fkI (pt (pT η ρ v) (2 ^ η.1)).2))) (mHh xL I J (mRf rc rx rr)) := by
            refine iter_dn ?_ ?_
            · intro k hk1 ih2
              have g2 : ¬ nI η.1 ≤ nI k := nI_ge hk1 (by omega)
              have a1 : mIn (nI k) 8 = true := mIn_nI (by omega) (by omega)
              have a2 : (nI k).toNatClampNeg = k := nI_clamp (by omega)
              have e1 : I 212 k = ρ k := mNw_at hr (by omega)
              rw [← ih2, tB, w226_52]
              simp only [w226_54, w226_55, w226_58, w226_59, w226_62, hh.2.1, s1, s2, hh.2.2.1, w226_63, g2, ↓reduceIte, w226_66, w226_68, w226_70, w226_72, w226_73, w226_74, w226_75, w226_76, w226_79, w226_81, a1, a2, e1, w226_82, w226_83, w226_84, w226_86, w226_89, nI_1]
            · have g2 : nI η.1 ≤ nI η.1 := nI_le (Nat.le_refl _) (by omega)
              rw [w226_52]
              simp only [w226_54, w226_55, w226_58, w226_59, w226_62, hh.2.1, s1, s2, hh.2.2.1, w226_63, g2, ↓reduceIte, w226_92, w226_94, w226_95]
              by_cases hc : tB ρ b η.1 = v
              · have hc' : pT η ρ v b = true := decide_eq_true hc
                rw [pt] at ih
                simp only [hc, hc', ↓reduceIte, w226_101, w226_102, e0] at ih ⊢
                cases hx : (pt (pT η ρ v) b).2 with
                | none =>
                  rw [hx] at ih
                  simp only [↓reduceIte, w226_105, w226_107, w226_109, w226_112, w226_115, nI_1]
                  exact ih _ _
                | some x =>
                  rw [hx] at ih
                  have n1 : ¬ ((some x : Option Nat) = none) := fun z => by cases z
                  simp only [n1, ↓reduceIte, w226_109, w226_112, w226_115, nI_1]
                  exact ih _ _
              · have hc' : ¬ pT η ρ v b = true := by rw [pT, decide_eq_true_eq]; exact hc
                rw [pt, if_neg hc'] at ih
                simp only [hc, ↓reduceIte, w226_98, w226_112, w226_115, nI_1]
                exact ih _ _
          exact M 0 (by omega)
        · intro v6 v7
          have g1 : nI (2 ^ η.1) ≤ nI (2 ^ η.1) := nI_le (Nat.le_refl _) (by omega)
          rw [w226_30]
          simp only [w226_32, w226_33, w226_34, w226_37, w226_38, w226_41, hh.2.1, s1, s2, hh.2.2.1, w226_42, bSh _ (show η.1 < 7 by omega), w226_43, g1, ↓reduceIte, w226_118, w226_119]
          by_cases hw : w = 0
          · simp only [hw, ↓reduceIte, w226_122, w226_123, w226_128]
          · simp only [hw, ↓reduceIte, w226_126, w226_128]
      exact L 0 (Nat.zero_le _) _ _
    · have h2 : sW w 0 1 = false := by simpa using h'
      rw [h, h2]
      simp only [sB_t, o01, ↓reduceIte, w226_10, w226_11, w226_12, w226_13, c170, e9, sB_f h2, ↓reduceIte, Option.toList_some, Option.toList_none, List.cons_append, List.nil_append, Int32.reduceAdd, Int32.reduceLT, Int32.reduceLE, Int32.reduceToNatClampNeg, w226_16, w226_19, w226_20, Bool.and_false, Bool.false_eq_true]
  · have h2 : sW v 0 100 = false := by simpa using h
    rw [h2]
    simp only [sB_f, ↓reduceIte, w226_19, w226_20, Bool.false_and, Bool.false_eq_true]
end QRS
