/-! Queries: changed. -/
def rX (ρ : Nat → Int32) (p q : Nat) : Nat → Int32 := rU (rU ρ p (ρ q)) q (ρ p)
def fo (f : Nat → Option Int32) : Nat → Nat → Option Int32
  | 0, _ => none
  | n + 1, p => match f p with
    | some x => some x
    | none => fo f n (p + 1)
def fin3 : Option Int32 → Int32
  | some x => x
  | none => -2
def cP (η : mHs) (ρ : Nat → Int32) (v : Int32) (n p q : Nat) : Bool := decide (sMrk η (sB η (rX ρ p q) n) = v)
def cI (η : mHs) (ρ : Nat → Int32) (v : Int32) (n p : Nat) : Option Int32 := (fnd (cP η ρ v n p) (η.1 - (p + 1)) (p + 1)).map (fun q => 10 * nI p + nI q)
def q_changed (η : mHs) (ρ : Nat → Int32) (v n : Int32) : Int32 := if isM v && sW n 0 60 then fin3 (fo (cI η ρ v n.toNatClampNeg) η.1 0) else -1
section QRF
variable {d : Nat} {xL : Nat} {I : Nat → Nat → Int32} {J : Nat → Nat → Int64} {rr : Nat} {Q : Option Value → mHp → Prop} {s o : Nat} {η : mHs} {ρ : Nat → Int32}
theorem rX_ok (ho : rOk η ρ) (h5 : η.1 ≤ 5) {p q : Nat} (hp : p < η.1) (hq : q < η.1) : rOk η (rX ρ p q) ∧ rX ρ p q 5 = ρ 5 :=
  ⟨rU_ok (rU_ok ho hp h5 (ho.1 q (by omega))) hq h5 (ho.1 p (by omega)), by rw [rX, rU_5 (by omega), rU_5 (by omega)]⟩
theorem c116 (hb : xB I o η ρ) (v n : Int32) (hQ : ∀ I', fQ I I' → Q (some (.int (q_changed η ρ v n))) (mHh xL I' J (mRf o o rr))) : WP (d + 5) 116 0 [.ref 7, .int v, .int n, mDum, mDum] [] (mHh xL I J (mRf o o rr)) Q := by
  have hb0 := hb
  obtain ⟨hk, hh, hr, ho, m, hm, e5⟩ := hb
  have hn5 := hk.1
  have hHo := hh.1
  obtain ⟨-, -, k3, k4, -⟩ := st_k s165
  obtain ⟨-, -, k5, k6, -⟩ := st_k s163
  simp only [w116_0, w116_1, c100, ↓reduceIte, Option.toList_some, Option.toList_none, List.cons_append, List.nil_append, Int32.reduceAdd, Int32.reduceLT, Int32.reduceLE, Int32.reduceToNatClampNeg, w116_4, q_changed] at hQ ⊢
  by_cases hv : isM v = true
  · by_cases h : sW n 0 60 = true
    · rw [hv, h] at hQ
      obtain ⟨n, -, hn, rfl⟩ := (sW_iff (a := 0) (b := 60) rfl rfl).1 h
      have ec : (nI n).toNatClampNeg = n := nI_clamp (by omega)
      rw [ec] at hQ
      simp only [sB_t hv, sB_t h, o01, ↓reduceIte, w116_0, w116_1, w116_4, w116_7, w116_8, w116_9, w116_11, w116_14, w116_17, w116_18, w116_19, w116_20, w116_22, w116_23, w116_26, w116_29, w116_32, w116_33, w116_34, w116_35, w116_39, w116_40, w116_43, w116_46, w116_49, w116_50, w116_53, w116_54, w116_57, w116_60, w116_61, w116_64, w116_67, w116_68, w116_69, w116_72, w116_75, w116_77, w116_78, w116_79, w116_80, w116_83, w116_86, w116_88, w116_89, w116_92, w116_95, w116_96, w116_97, w116_98, w116_99, w116_102, w116_103, w116_106, w116_107, w116_110, w116_111, w116_114, w116_116, w116_117, w116_118, w116_120, w116_121, w116_122, w116_125, w116_128, w116_131, w116_134, w116_136, c95, ↓reduceIte, Option.toList_some, Option.toList_none, List.cons_append, List.nil_append, Int32.reduceAdd, Int32.reduceLT, Int32.reduceLE, Int32.reduceToNatClampNeg]
      have L : ∀ p, p ≤ η.1 → (∀ I', fQ I I' → Q (some (.int (fin3 (fo (cI η ρ v n) (η.1 - p) p)))) (mHh xL I' J (mRf o o rr))) → ∀ (I' : Nat → Nat → Int32) (v4 : Value), fQ I I' → WP (d + 5) 116 21 [.ref 7, .int v, .int (nI n), .int (nI p), v4] [] (mHh xL I' J (mRf o o rr)) Q := by
        refine iter_dn ?_ ?_
        · intro p hp ih hF I' v4 f
          have h1 : ¬ nI η.1 ≤ nI p := nI_ge hp (by omega)
          rw [show η.1 - p = (η.1 - (p + 1)) + 1 by omega, fo] at hF
          rw [w116_21]
          simp only [w116_0, w116_1, w116_4, w116_7, w116_8, w116_9, w116_11, w116_14, w116_17, w116_18, w116_19, w116_20, w116_22, w116_23, w116_26, w116_29, w116_32, w116_33, w116_34, w116_35, w116_39, w116_40, w116_43, w116_46, w116_49, w116_50, w116_53, w116_54, w116_57, w116_60, w116_61, w116_64, w116_67, w116_68, w116_69, w116_72, w116_75, w116_77, w116_78, w116_79, w116_80, w116_83, w116_86, w116_88, w116_89, w116_92, w116_95, w116_96, w116_97, w116_98, w116_99, w116_102, w116_103, w116_106, w116_107, w116_110, w116_111, w116_114, w116_116, w116_117, w116_118, w116_120, w116_121, w116_122, w116_125, w116_128, w116_131, w116_134, w116_136, hHo, (fQ_B f hb0).2.1.2.1, h1, ↓reduceIte, nI_1]
          have M : ∀ q, q ≤ η.1 → p < q → (∀ I', fQ I I' → Q (some (.int (fin3 (match (fnd (cP η ρ v n p) (η.1 - q) q).map (fun q => 10 * nI p + nI q) with | some x => some x | none => fo (cI η ρ v n) (η.1 - (p + 1)) (p + 1))))) (mHh xL I' J (mRf o o rr))) → ∀ (I' : Nat → Nat → Int32), fQ I I' → WP (d + 5) 116 37 [.ref 7, .int v, .int (nI n), .int (nI p), .int (nI q)] [] (mHh xL I' J (mRf o o rr)) Q := by
            refine iter_dn ?_ ?_
            · intro q hq ih2 hpq hF2 I' f
              have b1 := fQ_B f hb0
              have g1 : ¬ nI η.1 ≤ nI q := nI_ge hq (by omega)
              have a1 : mIn (nI p) 5 = true := mIn_nI (by omega) (by omega)
              have a2 : (nI p).toNatClampNeg = p := nI_clamp (by omega)
              have a3 : mIn (nI q) 5 = true := mIn_nI (by omega) (by omega)
              have a4 : (nI q).toNatClampNeg = q := nI_clamp (by omega)
              have q1 : fQ I (mCp 165 163 I') := fQ_t f fCp_q
              have e1 : mCp 165 163 I' (163 + 1) q = ρ q := mRw_p (fQ_B q1 hb0).2.2.1 (by omega)
              have e2 : ∀ x, mU (mCp 165 163 I') (165 + 1) p x (163 + 1) p = ρ p := fun x => by rw [mU_a (by decide)]; exact mRw_p (fQ_B q1 hb0).2.2.1 (by omega)
              have q2 : fQ I (mU (mU (mCp 165 163 I') (165 + 1) p (ρ q)) (165 + 1) q (ρ p)) := fQ_t q1 (fun a x => by rw [mU_f (by omega), mU_f (by omega)])
              obtain ⟨ok, e5'⟩ := rX_ok ho hn5 hp hq
              rw [show η.1 - q = (η.1 - (q + 1)) + 1 by omega, fnd] at hF2
              rw [w116_37]
              simp only [w116_0, w116_1, w116_4, w116_7, w116_8, w116_9, w116_11, w116_14, w116_17, w116_18, w116_19, w116_20, w116_22, w116_23, w116_26, w116_29, w116_32, w116_33, w116_34, w116_35, w116_39, w116_40, w116_43, w116_46, w116_49, w116_50, w116_53, w116_54, w116_57, w116_60, w116_61, w116_64, w116_67, w116_68, w116_69, w116_72, w116_75, w116_77, w116_78, w116_79, w116_80, w116_83, w116_86, w116_88, w116_89, w116_92, w116_95, w116_96, w116_97, w116_98, w116_99, w116_102, w116_103, w116_106, w116_107, w116_110, w116_111, w116_114, w116_116, w116_117, w116_118, w116_120, w116_121, w116_122, w116_125, w116_128, w116_131, w116_134, w116_136, hHo, b1.2.1.2.1, g1, ↓reduceIte, s163, s165, c59 s165 s163, ↓reduceIte, Option.toList_some, Option.toList_none, List.cons_append, List.nil_append, Int32.reduceAdd, Int32.reduceLT, Int32.reduceLE, Int32.reduceToNatClampNeg, k3, k4, k5, k6, a1, a2, a3, a4, e1, e2]
              refine c17 s165 hk (fQ_B q2 hb0).2.1 (ρ := rX ρ p q) (mRw_u (by omega) (mRw_u (by omega) (by rw [mRw_cp s165 s163]; exact b1.2.2.1))) ok (by rw [e5']; exact e5) (by omega) ?_
              intro I2 f2 _
              have q3 := fQ_t q2 (fA_q f2)
              simp only [↓reduceIte, Option.toList_some, Option.toList_none, List.cons_append, List.nil_append, Int32.reduceAdd, Int32.reduceLT, Int32.reduceLE, Int32.reduceToNatClampNeg, w116_0, w116_1, w116_4, w116_7, w116_8, w116_9, w116_11, w116_14, w116_17, w116_18, w116_19, w116_20, w116_22, w116_23, w116_26, w116_29, w116_32, w116_33, w116_34, w116_35, w116_39, w116_40, w116_43, w116_46, w116_49, w116_50, w116_53, w116_54, w116_57, w116_60, w116_61, w116_64, w116_67, w116_68, w116_69, w116_72, w116_75, w116_77, w116_78, w116_79, w116_80, w116_83, w116_86, w116_88, w116_89, w116_92, w116_95, w116_96, w116_97, w116_98, w116_99, w116_102, w116_103, w116_106, w116_107, w116_110, w116_111, w116_114, w116_116, w116_117, w116_118, w116_120, w116_121, w116_122, w116_125, w116_128, w116_131, w116_134, w116_136]
              by_cases hc : sMrk η (sB η (rX ρ p q) n) = v
              · have hc' : cP η ρ v n p q = true := decide_eq_true hc
                rw [if_pos hc'] at hF2
                simp only [hc, ↓reduceIte, w116_0, w116_1, w116_4, w116_7, w116_8, w116_9, w116_11, w116_14, w116_17, w116_18, w116_19, w116_20, w116_22, w116_23, w116_26, w116_29, w116_32, w116_33, w116_34, w116_35, w116_39, w116_40, w116_43, w116_46, w116_49, w116_50, w116_53, w116_54, w116_57, w116_60, w116_61, w116_64, w116_67, w116_68, w116_69, w116_72, w116_75, w116_77, w116_78, w116_79, w116_80, w116_83, w116_86, w116_88, w116_89, w116_92, w116_95, w116_96, w116_97, w116_98, w116_99, w116_102, w116_103, w116_106, w116_107, w116_110, w116_111, w116_114, w116_116, w116_117, w116_118, w116_120, w116_121, w116_122, w116_125, w116_128, w116_131, w116_134, w116_136]
                exact hF2 I2 q3
              · have hc' : ¬ cP η ρ v n p q = true := by rw [cP, decide_eq_true_eq]; exact hc
                rw [if_neg hc'] at hF2
                simp only [hc, ↓reduceIte, w116_0, w116_1, w116_4, w116_7, w116_8, w116_9, w116_11, w116_14, w116_17, w116_18, w116_19, w116_20, w116_22, w116_23, w116_26, w116_29, w116_32, w116_33, w116_34, w116_35, w116_39, w116_40, w116_43, w116_46, w116_49, w116_50, w116_53, w116_54, w116_57, w116_60, w116_61, w116_64, w116_67, w116_68, w116_69, w116_72, w116_75, w116_77, w116_78, w116_79, w116_80, w116_83, w116_86, w116_88, w116_89, w116_92, w116_95, w116_96, w116_97, w116_98, w116_99, w116_102, w116_103, w116_106, w116_107, w116_110, w116_111, w116_114, w116_116, w116_117, w116_118, w116_120, w116_121, w116_122, w116_125, w116_128, w116_131, w116_134, w116_136, nI_1]
                exact ih2 (by omega) hF2 I2 q3
            · intro hpq hF2 I' f
              have g1 : nI η.1 ≤ nI η.1 := nI_le (Nat.le_refl _) (by omega)
              rw [Nat.sub_self, fnd] at hF2
              rw [w116_37]
              simp only [w116_0, w116_1, w116_4, w116_7, w116_8, w116_9, w116_11, w116_14, w116_17, w116_18, w116_19, w116_20, w116_22, w116_23, w116_26, w116_29, w116_32, w116_33, w116_34, w116_35, w116_39, w116_40, w116_43, w116_46, w116_49, w116_50, w116_53, w116_54, w116_57, w116_60, w116_61, w116_64, w116_67, w116_68, w116_69, w116_72, w116_75, w116_77, w116_78, w116_79, w116_80, w116_83, w116_86, w116_88, w116_89, w116_92, w116_95, w116_96, w116_97, w116_98, w116_99, w116_102, w116_103, w116_106, w116_107, w116_110, w116_111, w116_114, w116_116, w116_117, w116_118, w116_120, w116_121, w116_122, w116_125, w116_128, w116_131, w116_134, w116_136, hHo, (fQ_B f hb0).2.1.2.1, g1, ↓reduceIte, nI_1]
              exact ih hF2 I' _ f
          exact M (p + 1) (by omega) (by omega) hF I' f
        · intro hF I' v4 f
          have h1 : nI η.1 ≤ nI η.1 := nI_le (Nat.le_refl _) (by omega)
          rw [Nat.sub_self] at hF
          rw [w116_21]
          simp only [w116_0, w116_1, w116_4, w116_7, w116_8, w116_9, w116_11, w116_14, w116_17, w116_18, w116_19, w116_20, w116_22, w116_23, w116_26, w116_29, w116_32, w116_33, w116_34, w116_35, w116_39, w116_40, w116_43, w116_46, w116_49, w116_50, w116_53, w116_54, w116_57, w116_60, w116_61, w116_64, w116_67, w116_68, w116_69, w116_72, w116_75, w116_77, w116_78, w116_79, w116_80, w116_83, w116_86, w116_88, w116_89, w116_92, w116_95, w116_96, w116_97, w116_98, w116_99, w116_102, w116_103, w116_106, w116_107, w116_110, w116_111, w116_114, w116_116, w116_117, w116_118, w116_120, w116_121, w116_122, w116_125, w116_128, w116_131, w116_134, w116_136, hHo, (fQ_B f hb0).2.1.2.1, h1, ↓reduceIte]
          exact hF I' f
      exact L 0 (by omega) hQ I _ fQ_0
    · have h' : sW n 0 60 = false := by simpa using h
      rw [h', Bool.and_false] at hQ
      simp only [sB_t hv, sB_f h', o01, ↓reduceIte, w116_0, w116_1, w116_4, w116_7, w116_8, w116_9, w116_11, w116_14, w116_17, w116_18, w116_19, w116_20, w116_22, w116_23, w116_26, w116_29, w116_32, w116_33, w116_34, w116_35, w116_39, w116_40, w116_43, w116_46, w116_49, w116_50, w116_53, w116_54, w116_57, w116_60, w116_61, w116_64, w116_67, w116_68, w116_69, w116_72, w116_75, w116_77, w116_78, w116_79, w116_80, w116_83, w116_86, w116_88, w116_89, w116_92, w116_95, w116_96, w116_97, w116_98, w116_99, w116_102, w116_103, w116_106, w116_107, w116_110, w116_111, w116_114, w116_116, w116_117, w116_118, w116_120, w116_121, w116_122, w116_125, w116_128, w116_131, w116_134, w116_136, c95, ↓reduceIte, Option.toList_some, Option.toList_none, List.cons_append, List.nil_append, Int32.reduceAdd, Int32.reduceLT, Int32.reduceLE, Int32.reduceToNatClampNeg]
      exact hQ I fQ_0
  · have h' : isM v = false := by simpa using hv
    rw [h', Bool.false_and] at hQ
    simp only [sB_f h', ↓reduceIte, w116_0, w116_1, w116_4, w116_7, w116_8, w116_9, w116_11, w116_14, w116_17, w116_18, w116_19, w116_20, w116_22, w116_23, w116_26, w116_29, w116_32, w116_33, w116_34, w116_35, w116_39, w116_40, w116_43, w116_46, w116_49, w116_50, w116_53, w116_54, w116_57, w116_60, w116_61, w116_64, w116_67, w116_68, w116_69, w116_72, w116_75, w116_77, w116_78, w116_79, w116_80, w116_83, w116_86, w116_88, w116_89, w116_92, w116_95, w116_96, w116_97, w116_98, w116_99, w116_102, w116_103, w116_106, w116_107, w116_110, w116_111, w116_114, w116_116, w116_117, w116_118, w116_120, w116_121, w116_122, w116_125, w116_128, w116_131, w116_134, w116_136]
    exact hQ I fQ_0
end QRF
