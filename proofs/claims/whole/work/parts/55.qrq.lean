/-! Queries: coax. -/
def foN (f : Nat → Option Nat) : Nat → Nat → Option Nat
  | 0, _ => none
  | n + 1, p => match f p with
    | some x => some x
    | none => foN f n (p + 1)
theorem foN_none {f : Nat → Option Nat} : ∀ n k, (∀ j, k ≤ j → j < k + n → f j = none) → foN f n k = none := by
  intro n
  induction n with
  | zero => intro k _; rfl
  | succ n ih =>
    intro k h
    rw [foN, h k (Nat.le_refl _) (by omega)]
    exact ih (k + 1) (fun j h1 h2 => h j (by omega) (by omega))
def wK (η : mHs) (ρ : Nat → Int32) (v : Int32) (n p x : Nat) : Bool := decide (sMrk η (sB η (rU ρ p (nI x)) n) = v)
def cxd (η : mHs) (ρ : Nat → Int32) (v : Int32) (n p y : Nat) : Option Nat := if y ≤ (ρ p).toNatClampNeg ∧ wK η ρ v n p ((ρ p).toNatClampNeg - y) = true then some ((ρ p).toNatClampNeg - y) else if (ρ p).toNatClampNeg + y ≤ 20 ∧ wK η ρ v n p ((ρ p).toNatClampNeg + y) = true then some ((ρ p).toNatClampNeg + y) else none
theorem cxd_le {η : mHs} {ρ : Nat → Int32} {v : Int32} {n p y x : Nat} (h20 : (ρ p).toNatClampNeg ≤ 20) (h : cxd η ρ v n p y = some x) : x ≤ 20 := by
  rw [cxd] at h
  split at h
  · injection h with h; omega
  · split at h
    · injection h with h; omega
    · cases h
def cxI (η : mHs) (ρ : Nat → Int32) (v : Int32) (n y p : Nat) : Option Nat := (cxd η ρ v n p y).map (fun x => 10000 * y + 100 * p + x)
def cxB (η : mHs) (ρ : Nat → Int32) (v : Int32) (n y : Nat) : Option Nat := foN (cxI η ρ v n y) η.1 0
def q_coax (η : mHs) (ρ : Nat → Int32) (v n w : Int32) : Int32 := if isM v && (sW n 0 60 && sW w 0 2) then (match foN (cxB η ρ v n.toNatClampNeg) 21 0 with | none => -2 | some c => if w = 0 then nI (c / 10000) else if w = 1 then nI (c / 100 % 100) else nI (c % 100)) else -1
section QRQ
variable {d : Nat} {xL : Nat} {I : Nat → Nat → Int32} {J : Nat → Nat → Int64} {rr : Nat} {Q : Option Value → mHp → Prop} {s o : Nat} {η : mHs} {ρ : Nat → Int32}
theorem c115 (hb : xB I o η ρ) (v : Int32) {p x n : Nat} (hn : n ≤ 60) (hp : p < η.1) (hx : x ≤ 20) (hQ : ∀ I', fQ I I' → Q (some (.int (sB01 (wK η ρ v n p x)))) (mHh xL I' J (mRf o o rr))) : WP (d + 5) 115 0 [.ref 7, .int (nI p), .int (nI x), .int v, .int (nI n)] [] (mHh xL I J (mRf o o rr)) Q := by
  have hb0 := hb
  obtain ⟨hk, hh, hr, ho, m, hm, e5⟩ := hb
  have hn5 := hk.1
  obtain ⟨-, -, k3, k4, -⟩ := st_k s165
  have a1 : mIn (nI p) 5 = true := mIn_nI (by omega) (by omega)
  have a2 : (nI p).toNatClampNeg = p := nI_clamp (by omega)
  simp only [w115_0, w115_1, w115_4, w115_5, w115_8, s165, c59 s165 s163, ↓reduceIte, Option.toList_some, Option.toList_none, List.cons_append, List.nil_append, Int32.reduceAdd, Int32.reduceLT, Int32.reduceLE, Int32.reduceToNatClampNeg, w115_11, w115_12, w115_15, w115_18, w115_19, w115_20, k3, k4, a1, a2, w115_21, w115_22, w115_25, w115_26, w115_29, w115_31]
  have q1 : fQ I (mU (mCp 165 163 I) (165 + 1) p (nI x)) := fQ_t fCp_q (fun a x => by rw [mU_f (by omega)])
  refine c17 s165 hk (fQ_B q1 hb0).2.1 (ρ := rU ρ p (nI x)) (mRw_u (by omega) (by rw [mRw_cp s165 s163]; exact hr)) (rU_B ho hp hn5 hx) (by rw [rU_5 (by omega)]; exact e5) (by omega) ?_
  intro I2 f2 _
  have hF := hQ I2 (fQ_t q1 (fA_q f2))
  simp only [↓reduceIte, Option.toList_some, Option.toList_none, List.cons_append, List.nil_append, Int32.reduceAdd, Int32.reduceLT, Int32.reduceLE, Int32.reduceToNatClampNeg, w115_34, w115_35]
  by_cases hc : sMrk η (sB η (rU ρ p (nI x)) n) = v
  · rw [wK, decide_eq_true hc] at hF
    simp only [hc, ↓reduceIte, w115_38, w115_39, w115_43, nb1]
    exact hF
  · rw [wK, decide_eq_false hc] at hF
    simp only [hc, ↓reduceIte, w115_42, w115_43, nb0]
    exact hF
theorem rt_ok {p : Nat} (ho : rOk η ρ) (hp : p < 5) : (ρ p).toNatClampNeg ≤ 20 ∧ ρ p = nI (ρ p).toNatClampNeg := by
  obtain ⟨n, hn, e⟩ := ho.1 p hp
  have e2 : (ρ p).toNatClampNeg = n := by rw [e]; exact nI_clamp (by omega)
  rw [e2]; exact ⟨hn, e⟩
def fin2N : Option Nat → Int32
  | some k => nI k
  | none => -2
theorem c114 (hb : xB I o η ρ) (v : Int32) {p y n : Nat} (hn : n ≤ 60) (hp : p < η.1) (hy : y ≤ 20) (hQ : ∀ I', fQ I I' → Q (some (.int (fin2N (cxd η ρ v n p y)))) (mHh xL I' J (mRf o o rr))) : WP (d + 6) 114 0 [.ref 7, .int (nI p), .int (nI y), .int v, .int (nI n), mDum, mDum] [] (mHh xL I J (mRf o o rr)) Q := by
  have hb0 := hb
  obtain ⟨hk, hh, hr, ho, m, hm, e5⟩ := hb
  have hn5 := hk.1
  obtain ⟨-, -, k3, k4, -⟩ := st_k s163
  have a1 : mIn (nI p) 5 = true := mIn_nI (by omega) (by omega)
  have a2 : (nI p).toNatClampNeg = p := nI_clamp (by omega)
  obtain ⟨r20, re⟩ := rt_ok ho (show p < 5 by omega)
  obtain ⟨a, ha⟩ : ∃ a, (ρ p).toNatClampNeg = a := ⟨_, rfl⟩
  rw [ha] at r20 re
  have e1 : ∀ I', fQ I I' → I' (163 + 1) p = nI a := fun I' f => by rw [mRw_p (fQ_B f hb0).2.2.1 (by omega)]; exact re
  simp only [w114_0, w114_1, w114_4, s163, w114_7, w114_8, k3, k4, a1, a2, e1 I fQ_0, w114_9, w114_10, w114_11, w114_13, w114_15]
  rw [cxd, ha] at hQ
  have second : ∀ (I' : Nat → Nat → Int32), fQ I I' → ¬ (y ≤ a ∧ wK η ρ v n p (a - y) = true) → ∀ v5 : Int32, WP (d + 6) 114 34 [.ref 7, .int (nI p), .int (nI y), .int v, .int (nI n), .int v5, mDum] [] (mHh xL I' J (mRf o o rr)) Q := by
    intro I' f hno v5
    rw [if_neg hno] at hQ
    simp only [w114_34, w114_35, w114_38, s163, w114_41, w114_42, k3, k4, a1, a2, e1 I' f, w114_43, w114_44, nI_add, w114_45, w114_47, w114_49, w114_51]
    by_cases c1 : a + y ≤ 20
    · have g1 : ¬ 20 < nI (a + y) := i_le ((in_le 20 (by decide) (by omega)).2 c1)
      simp only [g1, ↓reduceIte, w114_54, w114_55]
      by_cases c2 : y = 0
      · have g2 : nI y ≤ 0 := by rw [c2]; decide
        have hno2 : ¬ (a + y ≤ 20 ∧ wK η ρ v n p (a + y) = true) := by
          rw [c2]; intro z; exact hno ⟨by omega, by rw [c2]; exact z.2⟩
        rw [if_neg hno2] at hQ
        simp only [g2, ↓reduceIte, w114_74, w114_76]
        exact hQ I' f
      · have g2 : ¬ nI y ≤ 0 := nI_nle (by omega) (by omega)
        simp only [g2, ↓reduceIte, w114_58, w114_59, w114_60, w114_62, w114_63, w114_65]
        refine c115 (fQ_B f hb0) v hn hp c1 ?_
        intro I2 f2
        have hF := hQ I2 (fQ_t f f2)
        simp only [↓reduceIte, Option.toList_some, Option.toList_none, List.cons_append, List.nil_append, Int32.reduceAdd, Int32.reduceLT, Int32.reduceLE, Int32.reduceToNatClampNeg, w114_68]
        by_cases c3 : wK η ρ v n p (a + y) = true
        · rw [if_pos ⟨c1, c3⟩] at hF
          simp only [sB_t c3, o01, ↓reduceIte, w114_71, w114_73]
          exact hF
        · rw [if_neg (fun z => c3 z.2)] at hF
          have c3' : wK η ρ v n p (a + y) = false := by simpa using c3
          simp only [sB_f c3', ↓reduceIte, w114_74, w114_76]
          exact hF
    · have g1 : 20 < nI (a + y) := i_nle (fun z => c1 ((in_le 20 (by decide) (by omega)).1 z))
      rw [if_neg (fun z => c1 z.1)] at hQ
      simp only [g1, ↓reduceIte, w114_74, w114_76]
      exact hQ I' f
  by_cases c1 : y ≤ a
  · have e2 : nI a - nI y = nI (a - y) := pk_sub c1
    have g1 : ¬ nI (a - y) < 0 := nI_pos (by omega)
    simp only [e2, g1, ↓reduceIte, w114_18, w114_19, w114_20, w114_22, w114_23, w114_25]
    refine c115 hb0 v hn hp (show a - y ≤ 20 by omega) ?_
    intro I2 f2
    simp only [↓reduceIte, Option.toList_some, Option.toList_none, List.cons_append, List.nil_append, Int32.reduceAdd, Int32.reduceLT, Int32.reduceLE, Int32.reduceToNatClampNeg, w114_28]
    by_cases c3 : wK η ρ v n p (a - y) = true
    · rw [if_pos ⟨c1, c3⟩] at hQ
      simp only [sB_t c3, o01, ↓reduceIte, w114_31, w114_33]
      exact hQ I2 f2
    · have c3' : wK η ρ v n p (a - y) = false := by simpa using c3
      simp only [sB_f c3', ↓reduceIte]
      exact second I2 f2 (fun z => c3 z.2) _
  · have g1 : nI a - nI y < 0 := pk_sneg (by omega) (by omega)
    simp only [g1, ↓reduceIte]
    exact second I fQ_0 (fun z => c1 z.1) _
theorem c113 (hb : xB I o η ρ) (v n w : Int32) (hQ : ∀ I', fQ I I' → Q (some (.int (q_coax η ρ v n w))) (mHh xL I' J (mRf o o rr))) : WP (d + 7) 113 0 [.ref 7, .int v, .int n, .int w, mDum, mDum, mDum] [] (mHh xL I J (mRf o o rr)) Q := by
  have hb0 := hb
  obtain ⟨hk, hh, hr, ho, m, hm, e5⟩ := hb
  have hn5 := hk.1
  have hHo := hh.1
  simp only [w113_0, w113_1, c100, ↓reduceIte, Option.toList_some, Option.toList_none, List.cons_append, List.nil_append, Int32.reduceAdd, Int32.reduceLT, Int32.reduceLE, Int32.reduceToNatClampNeg, w113_4, q_coax] at hQ ⊢
  by_cases hv : isM v = true
  · by_cases h : sW n 0 60 = true
    · by_cases h' : sW w 0 2 = true
      · rw [hv, h, h'] at hQ
        obtain ⟨n, -, hn, rfl⟩ := (sW_iff (a := 0) (b := 60) rfl rfl).1 h
        have ec : (nI n).toNatClampNeg = n := nI_clamp (by omega)
        rw [ec] at hQ
        simp only [sB_t hv, sB_t h, sB_t h', o01, ↓reduceIte, w113_7, w113_8, w113_9, w113_11, w113_14, w113_17, w113_18, w113_19, w113_20, w113_23, c95, ↓reduceIte, Option.toList_some, Option.toList_none, List.cons_append, List.nil_append, Int32.reduceAdd, Int32.reduceLT, Int32.reduceLE, Int32.reduceToNatClampNeg, w113_28, w113_29, hHo, hh.2.1, w113_32, w113_35, Bool.and_self] at hQ ⊢
        by_cases h0 : η.1 = 0
        · have e : nI η.1 = 0 := by rw [h0]; rfl
          have e2 : foN (cxB η ρ v n) 21 0 = none := foN_none _ _ (fun j _ _ => by rw [cxB, h0]; rfl)
          have hF := hQ I fQ_0
          rw [e2] at hF
          simp only [e, ↓reduceIte, w113_38, w113_40]
          exact hF
        · have e : ¬ nI η.1 = 0 := nI_ne0 (by omega) (by omega)
          simp only [e, ↓reduceIte, w113_41, w113_42]
          have L : ∀ y, y ≤ 21 → (∀ I', fQ I I' → Q (some (.int (match foN (cxB η ρ v n) (21 - y) y with | none => -2 | some c => if w = 0 then nI (c / 10000) else if w = 1 then nI (c / 100 % 100) else nI (c % 100)))) (mHh xL I' J (mRf o o rr))) → ∀ (I' : Nat → Nat → Int32) (v5 v6 : Value), fQ I I' → WP (d + 7) 113 44 [.ref 7, .int v, .int (nI n), .int w, .int (nI y), v5, v6] [] (mHh xL I' J (mRf o o rr)) Q := by
            refine iter_dn ?_ ?_
            · intro y hy ih hF I' v5 v6 f
              have h1 : ¬ 20 < nI y := i_le ((in_le 20 (by decide) (by omega)).2 (by omega))
              rw [show 21 - y = (21 - (y + 1)) + 1 by omega, foN] at hF
              rw [w113_44]
              simp only [w113_46, w113_48, h1, ↓reduceIte, w113_51, w113_52]
              have M : ∀ p, p ≤ η.1 → (∀ I', fQ I I' → Q (some (.int (match (match foN (cxI η ρ v n y) (η.1 - p) p with | some x => some x | none => foN (cxB η ρ v n) (21 - (y + 1)) (y + 1)) with | none => -2 | some c => if w = 0 then nI (c / 10000) else if w = 1 then nI (c / 100 % 100) else nI (c % 100)))) (mHh xL I' J (mRf o o rr))) → ∀ (I' : Nat → Nat → Int32) (v6 : Value), fQ I I' → WP (d + 7) 113 54 [.ref 7, .int v, .int (nI n), .int w, .int (nI y), .int (nI p), v6] [] (mHh xL I' J (mRf o o rr)) Q := by
                refine iter_dn ?_ ?_
                · intro p hp ih2 hF2 I' v6 f
                  have hbD := fQ_B f hb0
                  have g1 : ¬ nI η.1 ≤ nI p := nI_ge hp (by omega)
                  rw [show η.1 - p = (η.1 - (p + 1)) + 1 by omega, foN, cxI] at hF2
                  rw [w113_54]
                  simp only [w113_56, w113_57, w113_60, hHo, hbD.2.1.2.1, w113_63, g1, ↓reduceIte, w113_66, w113_67, w113_69, w113_71, w113_72, w113_73]
                  refine c114 hbD v hn hp (by omega) ?_
                  intro I2 f2
                  have f3 := fQ_t f f2
                  have hF2 := hF2
                  simp only [↓reduceIte, Option.toList_some, Option.toList_none, List.cons_append, List.nil_append, Int32.reduceAdd, Int32.reduceLT, Int32.reduceLE, Int32.reduceToNatClampNeg, w113_76, w113_78, w113_80, w113_82]
                  cases hx : cxd η ρ v n p y with
                  | none =>
                    rw [hx] at hF2
                    simp only [fin2N, ↓reduceIte, w113_107, w113_110, nI_1]
                    exact ih2 hF2 I2 _ f3
                  | some x =>
                    rw [hx] at hF2
                    have hF3 := hF2 I2 f3
                    have x20 := cxd_le (rt_ok ho (show p < 5 by omega)).1 hx
                    have n2 : ¬ nI x = -2 := by
                      intro z
                      have := nI_pos (n := x) (by omega)
                      rw [z] at this
                      exact this (by decide)
                    have q1 : (10000 * y + 100 * p + x) / 10000 = y := by omega
                    have q2 : (10000 * y + 100 * p + x) / 100 % 100 = p := by omega
                    have q3 : (10000 * y + 100 * p + x) % 100 = x := by omega
                    simp only [Option.map_some, q1, q2, q3] at hF3
                    simp only [fin2N, n2, ↓reduceIte, w113_85, w113_86]
                    by_cases w0 : w = 0
                    · rw [if_pos w0] at hF3
                      simp only [w0, ↓reduceIte, w113_89, w113_91, w113_106]
                      rw [w0] at *
                      exact hF3
                    · rw [if_neg w0] at hF3
                      simp only [w0, ↓reduceIte, w113_94, w113_95, w113_96]
                      by_cases w1 : w = 1
                      · rw [if_pos w1] at hF3
                        simp only [w1, ↓reduceIte, w113_99, w113_101, w113_106]
                        exact hF3
                      · rw [if_neg w1] at hF3
                        simp only [w1, ↓reduceIte, w113_104, w113_106]
                        exact hF3
                · intro hF2 I' v6 f
                  have g1 : nI η.1 ≤ nI η.1 := nI_le (Nat.le_refl _) (by omega)
                  rw [Nat.sub_self, foN] at hF2
                  rw [w113_54]
                  simp only [w113_56, w113_57, w113_60, hHo, (fQ_B f hb0).2.1.2.1, w113_63, g1, ↓reduceIte, w113_113, w113_116, nI_1]
                  exact ih hF2 I' _ _ f
              exact M 0 (by omega) hF I' _ f
            · intro hF I' v5 v6 f
              have h1 : 20 < nI 21 := by decide
              rw [w113_44]
              simp only [w113_46, w113_48, h1, ↓reduceIte, w113_119, w113_121]
              exact hF I' f
          exact L 0 (by omega) hQ I _ _ fQ_0
      · have h2 : sW w 0 2 = false := by simpa using h'
        rw [h2, Bool.and_false, Bool.and_false] at hQ
        simp only [sB_t hv, sB_t h, sB_f h2, o01, ↓reduceIte, w113_7, w113_8, w113_9, w113_11, w113_14, w113_17, w113_18, w113_19, w113_20, w113_23, c95, ↓reduceIte, Option.toList_some, Option.toList_none, List.cons_append, List.nil_append, Int32.reduceAdd, Int32.reduceLT, Int32.reduceLE, Int32.reduceToNatClampNeg, w113_26, w113_27]
        exact hQ I fQ_0
    · have h2 : sW n 0 60 = false := by simpa using h
      rw [h2, Bool.false_and, Bool.and_false] at hQ
      simp only [sB_t hv, sB_f h2, o01, ↓reduceIte, w113_7, w113_8, w113_9, w113_11, w113_14, c95, ↓reduceIte, Option.toList_some, Option.toList_none, List.cons_append, List.nil_append, Int32.reduceAdd, Int32.reduceLT, Int32.reduceLE, Int32.reduceToNatClampNeg, w113_26, w113_27]
      exact hQ I fQ_0
  · have h2 : isM v = false := by simpa using hv
    rw [h2, Bool.false_and] at hQ
    simp only [sB_f h2, ↓reduceIte, w113_26, w113_27]
    exact hQ I fQ_0
end QRQ
