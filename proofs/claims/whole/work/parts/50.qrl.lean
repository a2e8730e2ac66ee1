/-! Queries: round, by codes of moods. -/
def cd (ρ : Nat → Int32) : Nat → Int32
  | 0 => 0
  | k + 1 => cd ρ k * 21 + ρ k
def cN (f : Nat → Nat) : Nat → Nat
  | 0 => 0
  | k + 1 => cN f k * 21 + f k
theorem cN_eq {f g : Nat → Nat} : ∀ k, (∀ p, p < k → f p ≤ 20 ∧ g p ≤ 20) → cN f k = cN g k → ∀ p, p < k → f p = g p := by
  intro k
  induction k with
  | zero => intro _ _ p hp; omega
  | succ k ih =>
    intro h e p hp
    have hk := h k (by omega)
    rw [cN, cN] at e
    have e1 : cN f k = cN g k := by omega
    have e2 : f k = g k := by omega
    by_cases hpk : p = k
    · subst hpk; exact e2
    · exact ih (fun q hq => h q (by omega)) e1 p (by omega)
theorem cN_c {f g : Nat → Nat} : ∀ k, (∀ p, p < k → f p = g p) → cN f k = cN g k := by
  intro k
  induction k with
  | zero => intro _; rfl
  | succ k ih => intro h; rw [cN, cN, ih (fun p hp => h p (by omega)), h k (by omega)]
theorem cN_lt {f : Nat → Nat} : ∀ k, (∀ p, p < k → f p ≤ 20) → cN f k < 21 ^ k := by
  intro k
  induction k with
  | zero => intro _; exact (by decide : 0 < 21 ^ 0)
  | succ k ih =>
    intro h
    have h1 := ih (fun p hp => h p (by omega))
    have h2 := h k (by omega)
    rw [cN, Nat.pow_succ]; omega
theorem cd_N {ρ : Nat → Int32} {f : Nat → Nat} : ∀ k, (∀ p, p < k → ρ p = nI (f p)) → cd ρ k = nI (cN f k) := by
  intro k
  induction k with
  | zero => intro _; rfl
  | succ k ih =>
    intro h
    have e21 : (21 : Int32) = nI 21 := rfl
    rw [cd, cN, ih (fun p hp => h p (by omega)), h k (by omega), e21, pk_mul, nI_add]
theorem cd_al {η : mHs} {σ τ : Nat → Int32} (h5 : η.1 ≤ 5) (h1 : rOk η σ) (h2 : rOk η τ) : (cd σ η.1 = cd τ η.1) ↔ al σ τ = true := by
  have t : ∀ {ρ : Nat → Int32}, rOk η ρ → ∀ p, p < 5 → (ρ p).toNatClampNeg ≤ 20 ∧ ρ p = nI (ρ p).toNatClampNeg := by
    intro ρ h p hp
    obtain ⟨n, hn, e⟩ := h.1 p hp
    have e2 : (ρ p).toNatClampNeg = n := by rw [e]; exact nI_clamp (by omega)
    rw [e2]; exact ⟨hn, e⟩
  have b : ∀ {ρ : Nat → Int32}, rOk η ρ → cN (fun p => (ρ p).toNatClampNeg) η.1 < 2 ^ 31 := by
    intro ρ h
    have := cN_lt (f := fun p => (ρ p).toNatClampNeg) η.1 (fun p hp => (t h p (by omega)).1)
    have h3 : 21 ^ η.1 ≤ 21 ^ 5 := Nat.pow_le_pow_right (by decide) h5
    have h4 : 21 ^ 5 < 2 ^ 31 := by decide
    omega
  rw [cd_N (f := fun p => (σ p).toNatClampNeg) η.1 (fun p hp => (t h1 p (by omega)).2), cd_N (f := fun p => (τ p).toNatClampNeg) η.1 (fun p hp => (t h2 p (by omega)).2), nI_eq (b h1) (b h2)]
  constructor
  · intro e
    have e1 := cN_eq η.1 (fun p hp => ⟨(t h1 p (by omega)).1, (t h2 p (by omega)).1⟩) e
    refine al_t ?_
    intro q hq
    by_cases hqn : q < η.1
    · rw [(t h1 q hq).2, (t h2 q hq).2]
      exact congrArg nI (e1 q hqn)
    · rw [h1.2.1 q (by omega) hq, h2.2.1 q (by omega) hq]
  · intro e
    exact cN_c η.1 (fun p hp => by show (σ p).toNatClampNeg = (τ p).toNatClampNeg; rw [al_q e p (by omega)])
def rdI (η : mHs) (ρ : Nat → Int32) (w : Int32) (k : Nat) : Option Int32 := (fnd (fun j => al (sB η ρ k) (sB η ρ (k + 24 * (j + 1)))) ((300 - k) / 24) 0).map (fun j => if w = 0 then nI k else nI (24 * (j + 1)))
def q_round (η : mHs) (ρ : Nat → Int32) (w : Int32) : Int32 := if sW w 0 1 then fin3 (fo (rdI η ρ w) 300 0) else -1
theorem nI_24 (a : Nat) : nI a + 24 = nI (a + 24) := nI_add a 24
theorem sW01 {w : Int32} : sW w 0 1 = true ↔ (w = 0 ∨ w = 1) := by
  rw [sW_iff (a := 0) (b := 1) rfl rfl]
  constructor
  · rintro ⟨n, -, hn, rfl⟩
    have : n = 0 ∨ n = 1 := by omega
    rcases this with rfl | rfl
    · exact Or.inl rfl
    · exact Or.inr rfl
  · rintro (rfl | rfl)
    · exact ⟨0, by omega, by omega, rfl⟩
    · exact ⟨1, by omega, by omega, rfl⟩
section QRL
variable {d : Nat} {xL : Nat} {I : Nat → Nat → Int32} {J : Nat → Nat → Int64} {rr : Nat} {Q : Option Value → mHp → Prop} {s o : Nat} {η : mHs} {ρ : Nat → Int32}
theorem c102 (hb : xB I o η ρ) (hQ : ∀ I', fQ I I' → (∀ j, j ≤ 300 → I' 170 j = cd (sB η ρ j) η.1) → Q none (mHh xL I' J (mRf o o rr))) : WP (d + 5) 102 0 [.ref 7, mDum, mDum, mDum] [] (mHh xL I J (mRf o o rr)) Q := by
  have hb0 := hb
  obtain ⟨hk, hh, hr, ho, m, hm, e5⟩ := hb
  have hn5 := hk.1
  have hHo := hh.1
  obtain ⟨-, -, k3, k4, -⟩ := st_k s165
  simp only [w102_0, w102_1, w102_4, w102_5, w102_8, s165, c59 s165 s163, ↓reduceIte, Option.toList_some, Option.toList_none, List.cons_append, List.nil_append, Int32.reduceAdd, Int32.reduceLT, Int32.reduceLE, Int32.reduceToNatClampNeg, w102_11, w102_12]
  have L : ∀ k, k ≤ 301 → ∀ (I' : Nat → Nat → Int32) (v2 v3 : Value), fQ I I' → mRw I' 165 = sB η ρ k → (∀ j, j < k → I' 170 j = cd (sB η ρ j) η.1) → WP (d + 5) 102 13 [.ref 7, .int (nI k), v2, v3] [] (mHh xL I' J (mRf o o rr)) Q := by
    refine iter_dn ?_ ?_
    · intro k hk1 ih I' v2 v3 f r t
      have h1 : ¬ 300 < nI k := i_le ((in_le 300 (by decide) (by omega)).2 (by omega))
      obtain ⟨ok, -⟩ := sB_ok hk ho e5 k (by omega)
      have hP := (fQ_B f hb0).2.1.2.1
      have a5 : mIn (nI k) 301 = true := mIn_nI (by omega) (by omega)
      have a6 : (nI k).toNatClampNeg = k := nI_clamp (by omega)
      rw [w102_13]
      simp only [w102_14, w102_17, h1, ↓reduceIte, w102_20, w102_21, w102_22, w102_23]
      have M : ∀ p, p ≤ η.1 → WP (d + 5) 102 24 [.ref 7, .int (nI k), .int (cd (sB η ρ k) p), .int (nI p)] [] (mHh xL I' J (mRf o o rr)) Q := by
        refine iter_dn ?_ ?_
        · intro p hp ih2
          have g1 : ¬ nI η.1 ≤ nI p := nI_ge hp (by omega)
          have a1 : mIn (nI p) 5 = true := mIn_nI (by omega) (by omega)
          have a2 : (nI p).toNatClampNeg = p := nI_clamp (by omega)
          have e1 : I' (165 + 1) p = sB η ρ k p := mRw_p r (by omega)
          rw [w102_24]
          simp only [w102_0, w102_1, w102_4, w102_5, w102_8, w102_11, w102_12, w102_14, w102_17, w102_20, w102_21, w102_22, w102_23, w102_25, w102_26, w102_29, w102_32, w102_35, w102_36, w102_38, w102_39, w102_40, w102_43, w102_46, w102_47, w102_48, w102_49, w102_50, w102_53, w102_56, w102_57, w102_60, w102_61, w102_62, w102_63, w102_64, w102_67, w102_68, w102_71, w102_72, w102_75, w102_76, w102_79, w102_82, w102_85, w102_86, w102_89, w102_92, hHo, hP, g1, ↓reduceIte, s165, k3, k4, a1, a2, e1, nI_1]
          exact ih2
        · have g1 : nI η.1 ≤ nI η.1 := nI_le (Nat.le_refl _) (by omega)
          have q1 : fQ I (mU I' 170 k (cd (sB η ρ k) η.1)) := fQ_t f (fun a x => by rw [mU_f (by omega)])
          have r1 : mRw (mU I' 170 k (cd (sB η ρ k) η.1)) 165 = sB η ρ k := mRw_keep (mU_f (by decide)) (mU_f (by decide)) r
          rw [w102_24]
          simp only [w102_0, w102_1, w102_4, w102_5, w102_8, w102_11, w102_12, w102_14, w102_17, w102_20, w102_21, w102_22, w102_23, w102_25, w102_26, w102_29, w102_32, w102_35, w102_36, w102_38, w102_39, w102_40, w102_43, w102_46, w102_47, w102_48, w102_49, w102_50, w102_53, w102_56, w102_57, w102_60, w102_61, w102_62, w102_63, w102_64, w102_67, w102_68, w102_71, w102_72, w102_75, w102_76, w102_79, w102_82, w102_85, w102_86, w102_89, w102_92, hHo, hP, g1, ↓reduceIte, a5, a6]
          refine c4 s165 hk (fQ_B q1 hb0).2.1 r1 ok ?_
          intro I2 f2 _
          simp only [↓reduceIte, Option.toList_some, Option.toList_none, List.cons_append, List.nil_append, Int32.reduceAdd, Int32.reduceLT, Int32.reduceLE, Int32.reduceToNatClampNeg, w102_0, w102_1, w102_4, w102_5, w102_8, w102_11, w102_12, w102_14, w102_17, w102_20, w102_21, w102_22, w102_23, w102_25, w102_26, w102_29, w102_32, w102_35, w102_36, w102_38, w102_39, w102_40, w102_43, w102_46, w102_47, w102_48, w102_49, w102_50, w102_53, w102_56, w102_57, w102_60, w102_61, w102_62, w102_63, w102_64, w102_67, w102_68, w102_71, w102_72, w102_75, w102_76, w102_79, w102_82, w102_85, w102_86, w102_89, w102_92]
          refine c16 s165 hk (fQ_B (fQ_t q1 (fX_q f2)) hb0).2.1 (fX_r s165 f2 r1) ok _ ?_
          intro I3 f3 r3
          simp only [↓reduceIte, Option.toList_some, Option.toList_none, List.cons_append, List.nil_append, Int32.reduceAdd, Int32.reduceLT, Int32.reduceLE, Int32.reduceToNatClampNeg, w102_0, w102_1, w102_4, w102_5, w102_8, w102_11, w102_12, w102_14, w102_17, w102_20, w102_21, w102_22, w102_23, w102_25, w102_26, w102_29, w102_32, w102_35, w102_36, w102_38, w102_39, w102_40, w102_43, w102_46, w102_47, w102_48, w102_49, w102_50, w102_53, w102_56, w102_57, w102_60, w102_61, w102_62, w102_63, w102_64, w102_67, w102_68, w102_71, w102_72, w102_75, w102_76, w102_79, w102_82, w102_85, w102_86, w102_89, w102_92, nI_1]
          refine ih I3 _ _ (fQ_t (fQ_t q1 (fX_q f2)) (fA_q f3)) r3 ?_
          intro j hj
          have e170 : I3 170 = mU I' 170 k (cd (sB η ρ k) η.1) 170 := by rw [f3 170 (by decide) (by decide) (by decide) (by decide) (by decide), f2 170 (by decide) (by decide) (by decide)]
          rw [e170]
          by_cases e : j = k
          · subst e; exact mU_s _ _ _ _
          · rw [mU_k e]; exact t j (by omega)
      exact M 0 (by omega)
    · intro I' v2 v3 f r t
      have h1 : 300 < nI 301 := by decide
      rw [w102_13]
      simp only [w102_14, w102_17, h1, ↓reduceIte, w102_92]
      exact hQ I' f (fun j hj => t j (by omega))
  exact L 0 (by omega) _ _ _ fCp_q (by rw [mRw_cp s165 s163]; exact hr) (fun j hj => absurd hj (by omega))
theorem c101 (hb : xB I o η ρ) (w : Int32) (hQ : ∀ I', fQ I I' → Q (some (.int (q_round η ρ w))) (mHh xL I' J (mRf o o rr))) : WP (d + 6) 101 0 [.ref 7, .int w, mDum, mDum] [] (mHh xL I J (mRf o o rr)) Q := by
  have hn5 := hb.1.1
  have hb0 := hb
  obtain ⟨hk, hh, hr, ho, m, hm, e5⟩ := hb
  by_cases h : sW w 0 1 = true
  · have e : WP (d + 6) 101 0 [.ref 7, .int w, mDum, mDum] [] (mHh xL I J (mRf o o rr)) Q = WP (d + 6) 101 11 [.ref 7, .int w, mDum, mDum] [] (mHh xL I J (mRf o o rr)) Q := by
      rcases sW01.1 h with rfl | rfl
      · simp only [w101_0, w101_1, ↓reduceIte]
      · simp only [w101_0, w101_1, w101_4, w101_5, w101_6, o01, ↓reduceIte]
    rw [e]
    rw [q_round, if_pos h] at hQ
    simp only [w101_11, w101_12]
    refine c102 hb0 ?_
    intro I1 f1 t
    simp only [↓reduceIte, Option.toList_some, Option.toList_none, List.cons_append, List.nil_append, Int32.reduceAdd, Int32.reduceLT, Int32.reduceLE, Int32.reduceToNatClampNeg, w101_15, w101_16]
    have okk : ∀ k, k ≤ 300 → rOk η (sB η ρ k) := fun k hk1 => (sB_ok hk ho e5 k (by omega)).1
    have L : ∀ k, k ≤ 300 → Q (some (.int (fin3 (fo (rdI η ρ w) (300 - k) k)))) (mHh xL I1 J (mRf o o rr)) → ∀ v3, WP (d + 6) 101 17 [.ref 7, .int w, .int (nI k), v3] [] (mHh xL I1 J (mRf o o rr)) Q := by
      refine iter_dn ?_ ?_
      · intro k hk1 ih hF v3
        have h1 : ¬ 300 ≤ nI k := by rw [ni_le 300 (by decide) (by omega)]; omega
        rw [show 300 - k = (300 - (k + 1)) + 1 by omega, fo] at hF
        have a1 : mIn (nI k) 301 = true := mIn_nI (by omega) (by omega)
        have a2 : (nI k).toNatClampNeg = k := nI_clamp (by omega)
        rw [w101_17]
        simp only [w101_18, w101_21, h1, ↓reduceIte, w101_24, w101_26]
        have e24 : (24 : Int32) = nI (24 * (0 + 1)) := rfl
        rw [e24]
        have M : ∀ j, j ≤ (300 - k) / 24 → Q (some (.int (fin3 (match (fnd (fun j => al (sB η ρ k) (sB η ρ (k + 24 * (j + 1)))) ((300 - k) / 24 - j) j).map (fun j => if w = 0 then nI k else nI (24 * (j + 1))) with | some x => some x | none => fo (rdI η ρ w) (300 - (k + 1)) (k + 1))))) (mHh xL I1 J (mRf o o rr)) → WP (d + 6) 101 27 [.ref 7, .int w, .int (nI k), .int (nI (24 * (j + 1)))] [] (mHh xL I1 J (mRf o o rr)) Q := by
          refine iter_dn ?_ ?_
          · intro j hj ih2 hF2
            have hb2 : k + 24 * (j + 1) ≤ 300 := by omega
            have g1 : ¬ 300 < nI (k + 24 * (j + 1)) := i_le ((in_le 300 (by decide) (by omega)).2 (by omega))
            have a3 : mIn (nI (k + 24 * (j + 1))) 301 = true := mIn_nI (by omega) (by omega)
            have a4 : (nI (k + 24 * (j + 1))).toNatClampNeg = k + 24 * (j + 1) := nI_clamp (by omega)
            rw [show (300 - k) / 24 - j = ((300 - k) / 24 - (j + 1)) + 1 by omega, fnd] at hF2
            rw [w101_27]
            simp only [w101_0, w101_1, w101_4, w101_5, w101_6, w101_9, w101_10, w101_11, w101_12, w101_15, w101_16, w101_18, w101_21, w101_24, w101_26, w101_28, w101_29, w101_30, w101_33, w101_36, w101_37, w101_40, w101_41, w101_42, w101_43, w101_46, w101_47, w101_48, w101_49, w101_50, w101_53, w101_54, w101_57, w101_58, w101_61, w101_62, w101_63, w101_66, w101_69, w101_72, w101_75, w101_77, nI_add, g1, ↓reduceIte, a1, a2, a3, a4, t k (by omega), t (k + 24 * (j + 1)) hb2, cd_al hn5 (okk k (by omega)) (okk _ hb2)]
            by_cases hc : al (sB η ρ k) (sB η ρ (k + 24 * (j + 1))) = true
            · rw [if_pos hc] at hF2 ⊢
              by_cases hw : w = 0
              · subst hw
                simp only [↓reduceIte, w101_0, w101_1, w101_4, w101_5, w101_6, w101_9, w101_10, w101_11, w101_12, w101_15, w101_16, w101_18, w101_21, w101_24, w101_26, w101_28, w101_29, w101_30, w101_33, w101_36, w101_37, w101_40, w101_41, w101_42, w101_43, w101_46, w101_47, w101_48, w101_49, w101_50, w101_53, w101_54, w101_57, w101_58, w101_61, w101_62, w101_63, w101_66, w101_69, w101_72, w101_75, w101_77]
                exact hF2
              · simp only [Option.map_some, hw, ↓reduceIte] at hF2 ⊢
                try simp only [w101_0, w101_1, w101_4, w101_5, w101_6, w101_9, w101_10, w101_11, w101_12, w101_15, w101_16, w101_18, w101_21, w101_24, w101_26, w101_28, w101_29, w101_30, w101_33, w101_36, w101_37, w101_40, w101_41, w101_42, w101_43, w101_46, w101_47, w101_48, w101_49, w101_50, w101_53, w101_54, w101_57, w101_58, w101_61, w101_62, w101_63, w101_66, w101_69, w101_72, w101_75, w101_77]
                exact hF2
            · rw [if_neg hc] at hF2 ⊢
              simp only [w101_0, w101_1, w101_4, w101_5, w101_6, w101_9, w101_10, w101_11, w101_12, w101_15, w101_16, w101_18, w101_21, w101_24, w101_26, w101_28, w101_29, w101_30, w101_33, w101_36, w101_37, w101_40, w101_41, w101_42, w101_43, w101_46, w101_47, w101_48, w101_49, w101_50, w101_53, w101_54, w101_57, w101_58, w101_61, w101_62, w101_63, w101_66, w101_69, w101_72, w101_75, w101_77, nI_24]
              exact ih2 hF2
          · intro hF2
            have g1 : 300 < nI (k + 24 * ((300 - k) / 24 + 1)) := i_nle (fun z => by rw [in_le 300 (by decide) (by omega)] at z; omega)
            rw [Nat.sub_self, fnd] at hF2
            rw [w101_27]
            simp only [w101_0, w101_1, w101_4, w101_5, w101_6, w101_9, w101_10, w101_11, w101_12, w101_15, w101_16, w101_18, w101_21, w101_24, w101_26, w101_28, w101_29, w101_30, w101_33, w101_36, w101_37, w101_40, w101_41, w101_42, w101_43, w101_46, w101_47, w101_48, w101_49, w101_50, w101_53, w101_54, w101_57, w101_58, w101_61, w101_62, w101_63, w101_66, w101_69, w101_72, w101_75, w101_77, nI_add, g1, ↓reduceIte, nI_1]
            exact ih hF2 _
        exact M 0 (by omega) hF
      · intro hF v3
        have h1 : 300 ≤ nI 300 := by decide
        rw [w101_17]
        simp only [w101_0, w101_1, w101_4, w101_5, w101_6, w101_9, w101_10, w101_11, w101_12, w101_15, w101_16, w101_18, w101_21, w101_24, w101_26, w101_28, w101_29, w101_30, w101_33, w101_36, w101_37, w101_40, w101_41, w101_42, w101_43, w101_46, w101_47, w101_48, w101_49, w101_50, w101_53, w101_54, w101_57, w101_58, w101_61, w101_62, w101_63, w101_66, w101_69, w101_72, w101_75, w101_77, h1, ↓reduceIte]
        exact hF
    exact L 0 (by omega) (hQ I1 f1) _
  · rw [q_round, if_neg h] at hQ
    have h0 : ¬ w = 0 := fun z => h (sW01.2 (Or.inl z))
    have h1 : ¬ w = 1 := fun z => h (sW01.2 (Or.inr z))
    simp only [w101_0, w101_1, w101_4, w101_5, w101_6, h0, h1, ↓reduceIte, w101_9, w101_10]
    exact hQ I fQ_0
end QRL
