/-! The glass: read, whole. -/
def sR0 (η : mHs) : Nat → Int32 := fun k => if k < η.1 then hT η 0 k else 0
theorem sR0_ok {η : mHs} (h : hOk η) : rOk η (sR0 η) ∧ ∃ m, m ≤ 2 ^ 29 ∧ sR0 η 5 = nI m := by
  have h5 := h.1
  have z : ∀ k, 5 ≤ k → sR0 η k = 0 := fun k hk => if_neg (by omega)
  refine ⟨⟨fun p hp => ?_, fun p h1 h2 => if_neg (by omega), ⟨0, by decide, z 5 (by decide)⟩, ⟨0, by decide, z 6 (by decide)⟩, ⟨0, Nat.two_pow_pos _, z 7 (by decide)⟩, fun k hk => z k (by omega)⟩, 0, by decide, z 5 (by decide)⟩
  by_cases c : p < η.1
  · rw [sR0, if_pos c]; exact h.2.2.1 p c
  · rw [sR0, if_neg c]; exact ⟨0, by decide, rfl⟩
section GRD
variable {d : Nat} {xL : Nat} {Z I : Nat → Nat → Int32} {J : Nat → Nat → Int64} {rc rx rr o o' : Nat} {Q : Option Value → mHp → Prop} {L : Nat} {W : Nat → Int32} {η : mHs} {ρ : mRo5} {u : Nat} {H : Nat → mRo5} {g : Nat} {K : Nat → mRo5} {t : Nat} {τ : mTo} {pl : Int32}
theorem c80 (ho : mHo rx) : WP (d + 1) 80 0 [.ref 7] [] (mHh xL I J (mRf rc rx rr)) Q = Q none (mHh xL (mU (mU (mU (mClr 163 (fun k => if I rx 12 ≤ nI k then 0 else I (rx + 2) k) I) 66 2 0) 62 3 0) 7 16 0) J (mRf rx rx rr)) := by
  simp only [w80_0, w80_1, w80_4, w80_5, w80_8, w80_11, w80_12, w80_15, w80_16, w80_19 (hb := s163), c56 s163 ho, ↓reduceIte, Option.toList_some, Option.toList_none, List.cons_append, List.nil_append, Int32.reduceAdd, Int32.reduceLT, Int32.reduceLE, Int32.reduceToNatClampNeg, w80_22, w80_23, w80_26, w80_27, w80_30, w80_31, w80_34, w80_35, w80_38, w80_39, w80_40, w80_43]
/-- what read leaves in the glass's rows, the text aside -/
def fYz (o' : Nat) (I I' : Nat → Nat → Int32) : Prop := ∀ a, a ≠ 7 → a ≠ 8 → a ≠ 10 → a ≠ 11 → a ≠ 13 → a ≠ 15 → (a < o' ∨ o' + 21 ≤ a) → a ≠ 62 → a ≠ 66 → a ≠ 163 → a ≠ 164 → I' a = I a
def gRz (xL o o' : Nat) (I : Nat → Nat → Int32) (J : Nat → Nat → Int64) (H K : Nat → mRo5) (η : mHs) (ρ : mRo5) (u g t : Nat) (τ : mTo) (W : Nat → Int32) (L : Nat) (Q : Option Value → mHp → Prop) : (Nat × Nat) ⊕ mHs → Prop
  | .inl f => f.1 ≠ 0 → f.1 < 6 → ∀ I' J', fYz o' I I' → jYr o' J J' → xMk I' o' → xV I' I' o η ρ u H g K t τ 0 W (nI (tp W L f.2)) → Q (some (.int (nI f.1))) (mHh xL I' J' (mRf o o o'))
  | .inr η' => ∀ I' J', fYz o' I I' → jYr o' J J' → xMk I' o' → xV I' I' o' η' (sR0 η') 0 H 0 K 0 τ 0 W (-1) → Q (some (.int 0)) (mHh xL I' J' (mRf o' o' o))
theorem c79 (ho : mHo o) (ho' : mHo o') (hne : o ≠ o') (hI : kI I) (hJ : kJ J) (hm : xMk I o') (hV : xV Z I o η ρ u H g K t τ L W pl) (hP : gRz xL o o' I J H K η ρ u g t τ W L Q (sRd W L)) : WP (d + 27) 79 0 [.ref 7, mDum, mDum] [] (mHh xL I J (mRf o o o')) Q := by
  obtain ⟨v1, v2, v3, v4, v5, v6⟩ := hV
  have b1 : 15 < o ∧ o < 42 := by rcases ho with rfl | rfl <;> decide
  have b2 : 15 < o' ∧ o' < 42 ∧ (o + 21 ≤ o' ∨ o' + 21 ≤ o) := by rcases ho with rfl | rfl <;> rcases ho' with rfl | rfl <;> first | decide | exact absurd rfl hne
  simp only [w79_0, w79_1, w79_4, w79_5, w79_8]
  refine c38 (d := d) ho' hI hJ v5 hm ?_
  cases e : sRd W L with
  | inl f =>
    rw [e] at hP
    intro I1 J1 f1 j1 m1 n0 n6 e4
    have nf : ¬ nI f.1 = 0 := by rw [in_eq 0 (by decide) (by omega)]; exact n0
    have y4 : mU I1 8 1 0 10 4 = nI (tp W L f.2) := by rw [mU_a (by decide)]; exact e4
    simp only [↓reduceIte, Option.toList_some, Option.toList_none, List.cons_append, List.nil_append, Int32.reduceAdd, Int32.reduceLT, Int32.reduceLE, Int32.reduceToNatClampNeg, w79_11, w79_12, w79_13, w79_16, w79_17, w79_20, w79_21, nf, w79_24, w79_25, w79_26, w79_29, y4, w79_32, w79_35, w79_36]
    have fr : ∀ a, a ≠ 7 → a ≠ 8 → a ≠ 10 → a ≠ 11 → a ≠ 13 → a ≠ 15 → (a < o' ∨ o' + 21 ≤ a) → mU (mU I1 8 1 0) 7 17 (nI (tp W L f.2)) a = I a := fun a h1 h2 h3 h4 h5 h6 h7 => by rw [mU_f h1, mU_f h2, f1 a h3 h4 h5 h6 h7]
    have f7 : ∀ j, j ≠ 17 → mU (mU I1 8 1 0) 7 17 (nI (tp W L f.2)) 7 j = I 7 j := fun j hj => by rw [mU_k hj, mU_f (by decide), f1 7 (by decide) (by decide) (by decide) (by decide) (by omega)]
    refine hP n0 n6 _ J1 (fun a h1 h2 h3 h4 h5 h6 h7 _ _ _ _ => fr a h1 h2 h3 h4 h5 h6 h7) j1 (xMk_k m1 (fun k hk => by rw [mU_f (by omega), mU_f (by omega)])) ⟨⟨v1.1, ?_, mRw_keep (fr 163 (by decide) (by decide) (by decide) (by decide) (by decide) (by decide) (by omega)) (fr 164 (by decide) (by decide) (by decide) (by decide) (by decide) (by decide) (by omega)) v1.2.2.1, v1.2.2.2⟩, xHi_k (fun a p q => fr a (by omega) (by omega) (by omega) (by omega) (by omega) (by omega) (by omega)) v2, ?_, xK_k (fun a p q => fr a (by omega) (by omega) (by omega) (by omega) (by omega) (by omega) (by omega)) v4, ⟨by decide, ?_, fun i hi => absurd hi (Nat.not_lt_zero _)⟩, mU_s _ _ _ _, fun _ _ => rfl⟩
    · have hx := v1.2.1
      obtain ⟨_, h1, h2, h3, h4, h5, h6, h7⟩ := hx
      have q' : ∀ j, j < 21 → mU (mU I1 8 1 0) 7 17 (nI (tp W L f.2)) (o + j) = I (o + j) := fun j hj => fr _ (by omega) (by omega) (by omega) (by omega) (by omega) (by omega) (by omega)
      have q0 := q' 0 (by omega)
      rw [Nat.add_zero] at q0
      refine ⟨ho, by rw [q0]; exact h1, by rw [q0]; exact h2, by rw [q0]; exact h3, by rw [q0]; exact h4, ?_, ?_, ?_⟩
      · rw [q' 2 (by omega), q' 3 (by omega)]; exact h5
      · rw [q' 5 (by omega), q' 6 (by omega), q' 7 (by omega), q' 8 (by omega)]; exact h6
      · intro k hk4
        exact mXw_keep (by have := q' (9 + 3 * k) (by omega); rw [← Nat.add_assoc] at this; exact this) (by have := q' (9 + 3 * k + 1) (by omega); rw [← Nat.add_assoc, ← Nat.add_assoc] at this; exact this) (by have := q' (9 + 3 * k + 2) (by omega); rw [← Nat.add_assoc, ← Nat.add_assoc] at this; exact this) (h7 k hk4)
    · obtain ⟨g1, g2, g3⟩ := v3
      refine ⟨g1, by rw [f7 16 (by decide)]; exact g2, fun k hk hg => ?_⟩
      exact mRw_keep (fr _ (by omega) (by omega) (by omega) (by omega) (by omega) (by omega) (by omega)) (fr _ (by omega) (by omega) (by omega) (by omega) (by omega) (by omega) (by omega)) (g3 k hk hg)
    · rw [mU_f (by decide), mU_s]; rfl
  | inr η' =>
    rw [e] at hP
    have ok' := sRd_ok e
    intro I1 J1 f1 j1 m1 x1
    simp only [↓reduceIte, Option.toList_some, Option.toList_none, List.cons_append, List.nil_append, Int32.reduceAdd, Int32.reduceLT, Int32.reduceLE, Int32.reduceToNatClampNeg, w79_11, w79_12, w79_13, w79_16, w79_17, w79_20, w79_21, w79_37, w79_38, w79_39, w79_42, w79_43, w79_46, w79_47, w79_48, w79_49, w79_52, w79_55, w79_58, w79_59, w79_62, w79_63, w79_66, w79_67, c80 (d := d + 25) ho', w79_70, w79_71]
    have e2 : ∀ a, a ≠ 7 → a ≠ 8 → mU (mU I1 8 1 0) 7 17 (-1) a = I1 a := fun a h1 h2 => by rw [mU_f h1, mU_f h2]
    have e27 : mU (mU I1 8 1 0) 7 17 (-1) 7 17 = -1 := mU_s _ _ _ _
    have e28 : mU (mU I1 8 1 0) 7 17 (-1) 8 1 = 0 := by rw [mU_a (by decide), mU_s]
    generalize mU (mU I1 8 1 0) 7 17 (-1) = I2 at *
    have p1 : I2 o' 12 = nI η'.1 := by rw [e2 o' (by omega) (by omega)]; exact x1.2.1
    have p2 : ∀ p, p < η'.1 → I2 (o' + 2) p = hT η' 0 p := fun p hp => by rw [e2 _ (by omega) (by omega)]; exact (x1.2.2.2.2.2.1 p hp).1
    have ew : ∀ k, k < 5 → (if I2 o' 12 ≤ nI k then 0 else I2 (o' + 2) k) = sR0 η' k := by
      intro k hk
      rw [p1, sR0]
      by_cases c : k < η'.1
      · rw [if_neg (nI_ge c (by have := ok'.1; omega)), if_pos c, p2 k c]
      · rw [if_pos (nI_le (by omega) (by omega)), if_neg c]
    have e3 : ∀ a, a ≠ 163 → a ≠ 164 → mClr 163 (fun k => if I2 o' 12 ≤ nI k then 0 else I2 (o' + 2) k) I2 a = I2 a := by
      intro a h1 h2
      funext k
      rw [mClr, if_neg (fun z => h2 z.1), if_neg (fun z => h1 z.1)]
    have r3 : mRw (mClr 163 (fun k => if I2 o' 12 ≤ nI k then 0 else I2 (o' + 2) k) I2) 163 = sR0 η' := by
      funext k
      have z : 5 ≤ k → sR0 η' k = 0 := fun hk => if_neg (by have := ok'.1; omega)
      rw [mRw]
      by_cases c : k < 5
      · rw [if_pos c, mClr, if_pos ⟨rfl, c⟩]; exact ew k c
      · rw [if_neg c, z (by omega)]
        have e : ∀ j, (j = 1 ∨ j = 2 ∨ j = 3) → mClr 163 (fun k => if I2 o' 12 ≤ nI k then 0 else I2 (o' + 2) k) I2 163 j = 0 := fun j hj => by rw [mClr, if_neg (fun z => by omega), if_pos ⟨rfl, hj⟩]
        rw [e 1 (by omega), e 2 (by omega), e 3 (by omega)]
        repeat' split
        all_goals rfl
    generalize mClr 163 (fun k => if I2 o' 12 ≤ nI k then 0 else I2 (o' + 2) k) I2 = I3 at *
    have e4 : ∀ a, a ≠ 66 → a ≠ 62 → a ≠ 7 → mU (mU (mU I3 66 2 0) 62 3 0) 7 16 0 a = I3 a := fun a h1 h2 h3 => by rw [mU_f h3, mU_f h2, mU_f h1]
    have s66 : mU (mU (mU I3 66 2 0) 62 3 0) 7 16 0 66 2 = 0 := by rw [mU_a (by decide), mU_a (by decide), mU_s]
    have s661 : mU (mU (mU I3 66 2 0) 62 3 0) 7 16 0 66 1 = I 66 1 := by rw [mU_a (by decide), mU_a (by decide), mU_k (by decide), e3 66 (by decide) (by decide), e2 66 (by decide) (by decide), f1 66 (by decide) (by decide) (by decide) (by decide) (by omega)]
    have s62 : mU (mU (mU I3 66 2 0) 62 3 0) 7 16 0 62 3 = 0 := by rw [mU_a (by decide), mU_s]
    have s7 : mU (mU (mU I3 66 2 0) 62 3 0) 7 16 0 7 16 = 0 := mU_s _ _ _ _
    have s717 : mU (mU (mU I3 66 2 0) 62 3 0) 7 16 0 7 17 = -1 := by rw [mU_k (by decide), mU_f (by decide), mU_f (by decide), e3 7 (by decide) (by decide)]; exact e27
    have hh : mXh (mU (mU (mU I3 66 2 0) 62 3 0) 7 16 0) o' η' := mXh_k2 (fun b hb => by rw [e4 b (by omega) (by omega) (by omega), e3 b (by omega) (by omega), e2 b (by omega) (by omega)]) x1
    have rw3 : mRw (mU (mU (mU I3 66 2 0) 62 3 0) 7 16 0) 163 = sR0 η' := mRw_keep (e4 163 (by decide) (by decide) (by decide)) (e4 164 (by decide) (by decide) (by decide)) r3
    have s8 : mU (mU (mU I3 66 2 0) 62 3 0) 7 16 0 8 1 = 0 := by rw [e4 8 (by decide) (by decide) (by decide), e3 8 (by decide) (by decide)]; exact e28
    obtain ⟨-, -, nx, n1, n2, -⟩ := v2
    refine hP _ J1 (fun a h1 h2 h3 h4 h5 h6 h7 h8 h9 h10 h11 => by rw [e4 a h9 h8 h1, e3 a h10 h11, e2 a h1 h2, f1 a h3 h4 h5 h6 h7]) j1 (xMk_k m1 (fun k hk => by rw [e4 _ (by omega) (by omega) (by omega), e3 _ (by omega) (by omega), e2 _ (by omega) (by omega)])) ⟨⟨ok', hh, rw3, (sR0_ok ok').1, (sR0_ok ok').2⟩, ⟨by decide, s66, nx, n1, by rw [s661]; exact n2, fun i hi => absurd hi (Nat.not_lt_zero _)⟩, ⟨by decide, s7, fun k _ hg => ?_⟩, ⟨by decide, s62, fun i hi => absurd hi (Nat.not_lt_zero _)⟩, ⟨by decide, s8, fun i hi => absurd hi (Nat.not_lt_zero _)⟩, s717, fun _ _ => rfl⟩
    rw [Nat.zero_testBit] at hg; cases hg
end GRD
