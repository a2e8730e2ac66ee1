/-! The model's expression in a fault. -/
section MLF
variable {d : Nat} {xL : Nat} {I : Nat → Nat → Int32} {J : Nat → Nat → Int64} {rc rx rr : Nat} {Q : Option Value → mHp → Prop} {L : Nat} {W : Nat → Int32} {t f i M : Nat}
theorem c162f (h : mRD I J W L t f i) (f0 : f ≠ 0) (hQ : ∀ I', fMe M I I' → mRD I' J W L t f i → Q none (mHh xL I' J (mRf rc rx rr))) : WP (d + 4) 162 0 [.ref 180, mDum, mDum] [] (mHh xL I J (mRf rc rx rr)) Q := by
  have f1 : fMe M I (mU I 180 45 0) := ⟨fun a h0 _ _ _ => by rw [mU_f h0], fun j _ _ _ _ _ h4 => by rw [mU_k h4], fCd_e (mU_k (by decide)) (mU_f (by decide)) (mU_f (by decide))⟩
  have m1 : mRD (mU I 180 45 0) J W L t f i := mRD_e h (fun a ha => by rw [mU_f (by omega)]) (fun j hj => by rw [mU_k (by omega)])
  have y13 : ¬ mU I 180 45 0 180 13 = 0 := by
    have := m1.2.2.2.2.2.1
    rw [m1.2.2.2.2.1, in_eq 0 (by decide) (by omega)]; exact f0
  simp only [w162_0, w162_1, w162_2, w162_5, w162_6, w162_9, w162_10, w162_11, w162_12, w162_13, o01, ↓reduceIte, w162_16, w162_17, w162_20, y13, w162_272]
  exact hQ _ f1 m1
/-- to take a token, by the grammar's word -/
theorem c154t (h : mRD I J W L t 0 i) {κ : Nat} (hκ : κ < 40) (h03 : κ ≠ 0 ∧ κ ≠ 3) {y : Int32} (hy : y = nI κ) (hQ : ∀ I', fM1 I I' → (∀ f, pTt W L κ t = .inl f → mRD I' J W L t f.1 f.2 ∧ f.1 ≠ 0) → (∀ t1, pTt W L κ t = .inr t1 → mRD I' J W L t1 0 0) → Q none (mHh xL I' J (mRf rc rx rr))) : WP (d + 2) 154 0 [.ref 180, .int y] [] (mHh xL I J (mRf rc rx rr)) Q := by
  by_cases c : kk W L t = κ
  · have e : pTt W L κ t = nx t := by rw [pTt, if_pos c]
    rw [e] at hQ
    refine c154n h hκ c h03 hy (fun I' r1 q1 q2 => hQ I' r1 (fun f z => ⟨q1 f z, ?_⟩) q2)
    rw [(nx_l z).2]; exact (by decide : (2 : Nat) ≠ 0)
  · have e : pTt W L κ t = .inl (1, t) := by rw [pTt, if_neg c]
    rw [e] at hQ
    refine c154m h hκ c hy (fun I' r1 g => hQ I' r1 (fun f z => ?_) (fun t1 z => by cases z))
    cases z
    exact ⟨g, (by decide : (1 : Nat) ≠ 0)⟩
end MLF
