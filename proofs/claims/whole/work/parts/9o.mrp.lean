/-! The model: plain, begins. -/
def hf3 (s a q : Nat) : Prop := ((a = 190 ∨ a = 193 ∨ a = 198 ∨ a = 199) ∧ q = s) ∨ ((a = 200 ∨ a = 201) ∧ 4 * s ≤ q ∧ q < 4 * s + 4)
section MRP
variable {d : Nat} {xL : Nat} {I : Nat → Nat → Int32} {J : Nat → Nat → Int64} {rc rx rr : Nat} {Q : Option Value → mHp → Prop} {s : Nat}
theorem c133 (hs : s < 2) (hQ : ∀ I', (∀ a q, ¬ hf3 s a q → I' a q = I a q) → I' 190 s = 0 → I' 193 s = 0 → I' 198 s = 0 → I' 199 s = 0 → (∀ k, k < 4 → I' 200 (4 * s + k) = 0 ∧ I' 201 (4 * s + k) = 0) → Q none (mHh xL I' J (mRf rc rx rr))) : WP d 133 0 [.ref 180, .int (nI s), mDum] [] (mHh xL I J (mRf rc rx rr)) Q := by
  have s1 : mIn (nI s) 2 = true := mIn_nI (by omega) (by omega)
  have s2 : (nI s).toNatClampNeg = s := nI_clamp (by omega)
  simp only [w133_0, w133_1, w133_4, w133_5, w133_6 (hi := s1), s2, w133_7, w133_8, w133_11, w133_12, w133_13 (hi := s1), w133_14, w133_15, w133_18, w133_19, w133_20 (hi := s1), w133_21, w133_22, w133_25, w133_26, w133_27 (hi := s1), w133_28, w133_29]
  have i0 : mU (mU (mU (mU I 190 s 0) 193 s 0) 198 s 0) 199 s 0 190 s = 0 := by rw [mU_a (by decide), mU_a (by decide), mU_a (by decide), mU_s]
  have i3 : mU (mU (mU (mU I 190 s 0) 193 s 0) 198 s 0) 199 s 0 193 s = 0 := by rw [mU_a (by decide), mU_a (by decide), mU_s]
  have i8 : mU (mU (mU (mU I 190 s 0) 193 s 0) 198 s 0) 199 s 0 198 s = 0 := by rw [mU_a (by decide), mU_s]
  have i9 : mU (mU (mU (mU I 190 s 0) 193 s 0) 198 s 0) 199 s 0 199 s = 0 := mU_s _ _ _ _
  have u1 : ∀ (I : Nat → Nat → Int32) (f : Nat) (a q : Nat), (f = 190 ∨ f = 193 ∨ f = 198 ∨ f = 199) → ¬ hf3 s a q → mU I f s 0 a q = I a q := by
    intro I f a q hf hn
    by_cases e : a = f
    · subst e; rw [mU_k (fun z => hn (Or.inl ⟨hf, z⟩))]
    · rw [mU_a e]
  have fr : ∀ a q, ¬ hf3 s a q → mU (mU (mU (mU I 190 s 0) 193 s 0) 198 s 0) 199 s 0 a q = I a q := fun a q hn => by rw [u1 _ 199 a q (by omega) hn, u1 _ 198 a q (by omega) hn, u1 _ 193 a q (by omega) hn, u1 _ 190 a q (by omega) hn]
  generalize mU (mU (mU (mU I 190 s 0) 193 s 0) 198 s 0) 199 s 0 = I1 at *
  have m4 : (4 : Int32) * nI s = nI (4 * s) := pk_mul 4 s
  have key : ∀ k, k ≤ 4 → ∀ I' : Nat → Nat → Int32, (∀ a q, ¬ hf3 s a q → I' a q = I a q) → (∀ a, a ≠ 200 → a ≠ 201 → I' a = I1 a) → (∀ j, j < k → I' 200 (4 * s + j) = 0 ∧ I' 201 (4 * s + j) = 0) → WP d 133 30 [.ref 180, .int (nI s), .int (nI k)] [] (mHh xL I' J (mRf rc rx rr)) Q := by
    refine iter_dn ?_ ?_
    · intro k hk ih I' f f2 t
      have g1 : ¬ 4 ≤ nI k := by rw [ni_le 4 (by decide) (by omega)]; omega
      have a4 : nI (4 * s) + nI k = nI (4 * s + k) := nI_add _ _
      have a1 : mIn (nI (4 * s + k)) 8 = true := mIn_nI (by omega) (by omega)
      have a2 : (nI (4 * s + k)).toNatClampNeg = 4 * s + k := nI_clamp (by omega)
      rw [w133_30]
      simp only [w133_31, w133_32, g1, ↓reduceIte, w133_35, w133_36, w133_39, w133_40, w133_41, m4, w133_42, w133_43, a4, w133_44, w133_45 (hi := a1), a2, w133_46, w133_47, w133_50, w133_51, w133_52, w133_53, w133_54, w133_55, w133_56 (hi := a1), w133_57, nI_1, w133_60]
      refine ih _ (fun a q hn => ?_) (fun a h1 h2 => by rw [mU_f h2, mU_f h1, f2 a h1 h2]) (fun j hj => ?_)
      · have n1 : ¬ (a = 200 ∧ q = 4 * s + k) := fun z => hn (Or.inr ⟨Or.inl z.1, by omega, by omega⟩)
        have n2 : ¬ (a = 201 ∧ q = 4 * s + k) := fun z => hn (Or.inr ⟨Or.inr z.1, by omega, by omega⟩)
        rw [← f a q hn]
        by_cases e2 : a = 201
        · subst e2
          rw [mU_k (fun z => n2 ⟨rfl, z⟩), mU_a (by decide)]
        · rw [mU_a e2]
          by_cases e1 : a = 200
          · subst e1; rw [mU_k (fun z => n1 ⟨rfl, z⟩)]
          · rw [mU_a e1]
      · by_cases e : j = k
        · subst e; rw [mU_a (by decide), mU_s, mU_s]; exact ⟨rfl, rfl⟩
        · rw [mU_a (by decide), mU_k (by omega), mU_k (by omega), mU_a (by decide)]; exact t j (by omega)
    · intro I' f f2 t
      have g1 : 4 ≤ nI 4 := by decide
      rw [w133_30]
      simp only [w133_31, w133_32, g1, ↓reduceIte, w133_63]
      exact hQ I' f (by rw [f2 190 (by decide) (by decide)]; exact i0) (by rw [f2 193 (by decide) (by decide)]; exact i3) (by rw [f2 198 (by decide) (by decide)]; exact i8) (by rw [f2 199 (by decide) (by decide)]; exact i9) t
  exact key 0 (by omega) I1 fr (fun _ _ _ => rfl) (fun j hj => absurd hj (by omega))
theorem c136 {n : Nat} (hs : s < 2) (hn : n ≤ 5) (h18 : I 180 18 = nI s) (h190 : I 190 s = nI n) (hQ : ∀ I', (∀ a, a ≠ 180 → a ≠ 213 → I' a = I a) → (∀ k, k ≠ 51 → k ≠ 52 → I' 180 k = I 180 k) → mRr I' (fun k => if k < n then I 191 (5 * s + k) else 0) → Q none (mHh xL I' J (mRf rc rx rr))) : WP d 136 0 [.ref 180, mDum] [] (mHh xL I J (mRf rc rx rr)) Q := by
  have s1 : mIn (nI s) 2 = true := mIn_nI (by omega) (by omega)
  have s2 : (nI s).toNatClampNeg = s := nI_clamp (by omega)
  have m5 : (5 : Int32) * nI s = nI (5 * s) := pk_mul 5 s
  have key2 : ∀ k, k ≤ n → ∀ I' : Nat → Nat → Int32, (∀ a, a ≠ 213 → I' a = I a) → (∀ j, j < 8 → I' 213 j = if j < k then I 191 (5 * s + j) else 0) → WP d 136 23 [.ref 180, .int (nI k)] [] (mHh xL I' J (mRf rc rx rr)) Q := by
    refine iter_dn ?_ ?_
    · intro k hk ih I' f t
      have g1 : ¬ nI n ≤ nI k := nI_ge hk (by omega)
      have a5 : nI (5 * s) + nI k = nI (5 * s + k) := nI_add _ _
      have a1 : mIn (nI (5 * s + k)) 10 = true := mIn_nI (by omega) (by omega)
      have a2 : (nI (5 * s + k)).toNatClampNeg = 5 * s + k := nI_clamp (by omega)
      have b1 : mIn (nI k) 8 = true := mIn_nI (by omega) (by omega)
      have b2 : (nI k).toNatClampNeg = k := nI_clamp (by omega)
      have e18 : I' 180 18 = nI s := by rw [f 180 (by decide)]; exact h18
      have e190 : I' 190 s = nI n := by rw [f 190 (by decide)]; exact h190
      have e191 : I' 191 (5 * s + k) = I 191 (5 * s + k) := by rw [f 191 (by decide)]
      rw [w136_23]
      simp only [w136_24, w136_25, w136_28, w136_29, e18, w136_32 (hi := s1), s2, e190, w136_33, g1, ↓reduceIte, w136_36, w136_37, w136_40, w136_41, w136_42, w136_45, w136_46, w136_47, w136_50, m5, w136_51, w136_52, a5, w136_53 (hi := a1), a2, e191, w136_54 (hi := b1), b2, w136_55, nI_1, w136_58]
      refine ih _ (fun a h => by rw [mU_f h, f a h]) (fun j hj => ?_)
      by_cases e : j = k
      · subst e; rw [mU_s, if_pos (by omega)]
      · rw [mU_k e, t j hj]
        by_cases c : j < k
        · rw [if_pos c, if_pos (by omega)]
        · rw [if_neg c, if_neg (by omega)]
    · intro I' f t
      have g1 : nI n ≤ nI n := nI_le (Nat.le_refl _) (by omega)
      have e18 : I' 180 18 = nI s := by rw [f 180 (by decide)]; exact h18
      have e190 : I' 190 s = nI n := by rw [f 190 (by decide)]; exact h190
      rw [w136_23]
      simp only [w136_24, w136_25, w136_28, w136_29, e18, w136_32 (hi := s1), s2, e190, w136_33, g1, ↓reduceIte, w136_61, w136_62, w136_63, w136_66, w136_67, w136_70 (hi := s1), w136_71, w136_74, w136_75, w136_76, w136_79]
      refine hQ _ (fun a h1 h2 => by rw [mU_f h1, mU_f h1, f a h2]) (fun k h1 h2 => by rw [mU_k h2, mU_k h1, f 180 (by decide)]) (mR8_of (fun k hk => ?_) (fun k hk => if_neg (by omega)))
      rw [Nat.zero_add, mU_a (by decide), mU_a (by decide)]
      exact t k hk
  have key1 : ∀ k, k ≤ 8 → ∀ I' : Nat → Nat → Int32, (∀ a, a ≠ 213 → I' a = I a) → (∀ j, j < k → I' 213 j = 0) → WP d 136 2 [.ref 180, .int (nI k)] [] (mHh xL I' J (mRf rc rx rr)) Q := by
    refine iter_dn ?_ ?_
    · intro k hk ih I' f t
      have g1 : ¬ 8 ≤ nI k := by rw [ni_le 8 (by decide) (by omega)]; omega
      have a1 : mIn (nI k) 8 = true := mIn_nI (by omega) (by omega)
      have a2 : (nI k).toNatClampNeg = k := nI_clamp (by omega)
      rw [w136_2]
      simp only [w136_3, w136_5, g1, ↓reduceIte, w136_8, w136_9, w136_12, w136_13, w136_14 (hi := a1), a2, w136_15, nI_1, w136_18]
      refine ih _ (fun a h => by rw [mU_f h, f a h]) (fun j hj => ?_)
      by_cases e : j = k
      · subst e; exact mU_s _ _ _ _
      · rw [mU_k e]; exact t j (by omega)
    · intro I' f t
      have g1 : 8 ≤ nI 8 := by decide
      rw [w136_2]
      simp only [w136_3, w136_5, g1, ↓reduceIte, w136_21, w136_22]
      exact key2 0 (Nat.zero_le _) I' f (fun j hj => by rw [if_neg (by omega)]; exact t j hj)
  simp only [w136_0, w136_1]
  exact key1 0 (by omega) I (fun _ _ => rfl) (fun j hj => absurd hj (by omega))
end MRP
