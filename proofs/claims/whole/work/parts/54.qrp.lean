/-! Queries: forbids. -/
def bnk (b : Nat) : Nat → Nat
  | 0 => 0
  | k + 1 => bnk b k + (b.testBit k).toNat
def bn (b : Nat) : Nat := bnk b 6
theorem bnk_le (b : Nat) : ∀ k, bnk b k ≤ k := by
  intro k
  induction k with
  | zero => exact Nat.le_refl _
  | succ k ih => rw [bnk]; cases b.testBit k <;> (simp; omega)
theorem bn_le (b : Nat) : bn b ≤ 6 := bnk_le b 6
theorem bOr : ∀ f, f < 64 → ∀ b, b < 64 → nI f ||| nI b = nI (f ||| b) := by decide +kernel
theorem bAnd : ∀ b, b < 64 → ∀ f, f < 64 → nI b &&& nI f = nI (b &&& f) := by decide +kernel
theorem bSh : ∀ k, k < 7 → (1 : Int32) <<< (nI k &&& 31) = nI (2 ^ k) := by decide +kernel
theorem or_f {f b D : Nat} (h1 : f < 2 ^ D) (h2 : b < 2 ^ D) : f ||| b < 2 ^ D := Nat.or_lt_two_pow h1 h2
def rF (ρ : Nat → Int32) (b : Nat) : Nat → Int32 := rU ρ 7 (ρ 7 ||| nI b)
theorem rF_ok {η : mHs} {ρ : Nat → Int32} (hk : hOk η) (ho : rOk η ρ) {b : Nat} (hb : b < 2 ^ η.2.1) : rOk η (rF ρ b) ∧ rF ρ b 5 = ρ 5 := by
  obtain ⟨h1, h2, h3, h4, ⟨f, hf, ef⟩, h7⟩ := ho
  have h64 := pow6 hk.2.1
  refine ⟨⟨?_, ?_, ?_, ?_, ⟨f ||| b, or_f hf hb, ?_⟩, ?_⟩, ?_⟩
  · intro p hp; rw [rF, rU, if_neg (by omega)]; exact h1 p hp
  · intro p hp hp5; rw [rF, rU, if_neg (by omega)]; exact h2 p hp hp5
  · rw [rF, rU, if_neg (by omega)]; exact h3
  · rw [rF, rU, if_neg (by omega)]; exact h4
  · rw [rF, rU, if_pos rfl, ef, bOr f (by omega) b (by omega)]
  · intro k hk; rw [rF, rU, if_neg (by omega)]; exact h7 k hk
  · rw [rF, rU, if_neg (by omega)]
theorem mRw_f {a : Nat} {I : Nat → Nat → Int32} {ρ : Nat → Int32} {x : Int32} (hr : mRw I a = ρ) : mRw (mU I a 3 x) a = rU ρ 7 x := by
  subst hr; funext q
  have n1 : ¬ a + 1 = a := by omega
  simp only [mRw, rU, mU_e, n1, false_and, true_and, ↓reduceIte]
  by_cases h : q = 7
  · subst h; simp
  · simp only [h, ↓reduceIte]
    split
    · rfl
    · simp
theorem cnt_n (p : Nat → Bool) : ∀ n, ∃ c, c ≤ n ∧ cnt p n = nI c ∧ (c = 0 ↔ ∀ k, k < n → p k = false) := by
  intro n
  induction n with
  | zero => exact ⟨0, Nat.le_refl _, rfl, fun _ k hk => absurd hk (by omega), fun _ => rfl⟩
  | succ n ih =>
    obtain ⟨c, hc, e, i⟩ := ih
    cases hp : p n with
    | false =>
      refine ⟨c, by omega, by rw [cnt, e, hp]; exact Int32.add_zero _, ?_⟩
      rw [i]
      constructor
      · intro h k hk
        by_cases hkn : k = n
        · subst hkn; exact hp
        · exact h k (by omega)
      · intro h k hk; exact h k (by omega)
    | true =>
      refine ⟨c + 1, by omega, by rw [cnt, e, hp]; exact nI_1 c, ?_⟩
      constructor
      · intro h; omega
      · intro h; have := h n (by omega); rw [hp] at this; cases this
theorem cnt_z (p : Nat → Bool) {n : Nat} (hn : n < 2 ^ 31) : cnt p n = 0 ↔ ∀ k, k < n → p k = false := by
  obtain ⟨c, hc, e, i⟩ := cnt_n p n
  rw [← i, e]
  exact nI_eq (b := 0) (by omega) (by omega)
def sK (η : mHs) (ρ : Nat → Int32) (v : Int32) (n b : Nat) : Bool := decide (cnt (fun k => decide (sMrk η (sB η (rF ρ b) (k + 1)) = v)) n = 0)
def fK (f : Nat) (K : Nat → Bool) : Nat → Option Nat
  | 0 => none
  | b + 1 => if (match fK f K b with | none => true | some x => decide (bn b < bn x)) = true ∧ b &&& f = 0 ∧ K b = true then some b else fK f K b
theorem fK_lt (f : Nat) (K : Nat → Bool) : ∀ n x, fK f K n = some x → x < n := by
  intro n
  induction n with
  | zero => intro x h; cases h
  | succ n ih =>
    intro x h
    rw [fK] at h
    by_cases hc : (match fK f K n with | none => true | some x => decide (bn n < bn x)) = true ∧ n &&& f = 0 ∧ K n = true
    · rw [if_pos hc] at h
      injection h with h; omega
    · rw [if_neg hc] at h
      have := ih x h; omega
def fkN : Option Nat → Nat
  | none => 7
  | some x => bn x
def fkI : Option Nat → Int32
  | none => -2
  | some x => nI x
def q_forbids (η : mHs) (ρ : Nat → Int32) (v n w : Int32) : Int32 := if isM v && (sW n 1 60 && sW w 0 1) then (match fK (ρ 7).toNatClampNeg (sK η ρ v n.toNatClampNeg) (2 ^ η.2.1) with | none => -2 | some b => if w = 0 then nI (bn b) else nI b) else -1
theorem fkN_lt {o : Option Nat} {b : Nat} : (match o with | none => true | some x => decide (bn b < bn x)) = true ↔ bn b < fkN o := by
  cases o with
  | none => exact ⟨fun _ => by have := bn_le b; show bn b < 7; omega, fun _ => rfl⟩
  | some x => exact ⟨fun h => of_decide_eq_true h, fun h => decide_eq_true h⟩
theorem fkN_le {o : Option Nat} : fkN o ≤ 7 := by
  cases o with
  | none => exact Nat.le_refl _
  | some x => have := bn_le x; show bn x ≤ 7; omega
section QRP
variable {d : Nat} {xL : Nat} {I : Nat → Nat → Int32} {J : Nat → Nat → Int64} {rr : Nat} {Q : Option Value → mHp → Prop} {s o : Nat} {η : mHs} {ρ : Nat → Int32}
theorem c267 {b : Nat} (hb : b < 64) {h : mHp} : WP d 267 0 [.int (nI b)] [] h Q = Q (some (.int (nI (bn b)))) h := by
  simp only [w267_0, w267_1, w267_2, w267_3, w267_4, w267_7, w267_8, w267_9, w267_10, w267_11, w267_14, w267_15, w267_16, w267_17, w267_18, w267_21, w267_22, w267_23, w267_24, w267_25, w267_26, w267_27, w267_28, w267_29, w267_32, w267_33, w267_34, w267_35, w267_36, w267_38, w267_39, w267_40, w267_41, w267_42, w267_43, w267_45, w267_46, w267_47, w267_48, w267_49, w267_51, w267_52]
  congr 3
  revert b
  decide +kernel
theorem c111 (hb : xB I o η ρ) (v : Int32) {b n : Nat} (hn : n ≤ 60) (hbb : b < 2 ^ η.2.1) (hQ : ∀ I', fQ I I' → Q (some (.int (sB01 (sK η ρ v n b)))) (mHh xL I' J (mRf o o rr))) : WP (d + 5) 111 0 [.ref 7, .int (nI b), .int v, .int (nI n), mDum, mDum] [] (mHh xL I J (mRf o o rr)) Q := by
  have hb0 := hb
  obtain ⟨hk, hh, hr, ho, m, hm, e5⟩ := hb
  have e3 : mCp 165 163 I 165 3 = ρ 7 := by
    have : mRw (mCp 165 163 I) 165 = ρ := by rw [mRw_cp s165 s163]; exact hr
    exact (mRw_5 this).2.2
  simp only [w111_0, w111_1, w111_4, w111_5, w111_8, s165, c59 s165 s163, ↓reduceIte, Option.toList_some, Option.toList_none, List.cons_append, List.nil_append, Int32.reduceAdd, Int32.reduceLT, Int32.reduceLE, Int32.reduceToNatClampNeg, w111_11, w111_12, w111_15, w111_16, w111_19, w111_20, w111_21, e3, w111_24, w111_25, w111_28, w111_29, w111_32]
  obtain ⟨ok0, e50⟩ := rF_ok hk ho hbb
  have q1 : fQ I (mU (mCp 165 163 I) 165 3 (ρ 7 ||| nI b)) := fQ_t fCp_q (fun a x => by rw [mU_f (by omega)])
  have r1 : mRw (mU (mCp 165 163 I) 165 3 (ρ 7 ||| nI b)) 165 = rF ρ b := mRw_f (by rw [mRw_cp s165 s163]; exact hr)
  rw [e5] at e50
  refine c4 s165 hk (fQ_B q1 hb0).2.1 r1 ok0 ?_
  intro I2 f2 _
  simp only [↓reduceIte, Option.toList_some, Option.toList_none, List.cons_append, List.nil_append, Int32.reduceAdd, Int32.reduceLT, Int32.reduceLE, Int32.reduceToNatClampNeg, w111_35, w111_37, w111_38]
  have L : ∀ k, k ≤ n → ∀ (I' : Nat → Nat → Int32), fQ I I' → mRw I' 165 = sB η (rF ρ b) k → (∀ j, j < k → ¬ sMrk η (sB η (rF ρ b) (j + 1)) = v) → WP (d + 5) 111 40 [.ref 7, .int (nI b), .int v, .int (nI n), .int (sMrk η (sB η (rF ρ b) k)), .int (nI k)] [] (mHh xL I' J (mRf o o rr)) Q := by
    refine iter_dn ?_ ?_
    · intro k hk1 ih I' f r t
      have h1 : ¬ nI n ≤ nI k := nI_ge hk1 (by omega)
      obtain ⟨ok, -⟩ := sB_ok hk ok0 e50 k (by omega)
      obtain ⟨ok', -⟩ := sB_ok hk ok0 e50 (k + 1) (by omega)
      rw [w111_40]
      simp only [w111_42, w111_43, h1, ↓reduceIte, w111_46, w111_47, w111_50, w111_51, w111_54, w111_56]
      refine c16 s165 hk (fQ_B f hb0).2.1 r ok _ ?_
      intro I3 f3 r3
      simp only [↓reduceIte, Option.toList_some, Option.toList_none, List.cons_append, List.nil_append, Int32.reduceAdd, Int32.reduceLT, Int32.reduceLE, Int32.reduceToNatClampNeg, w111_59, w111_60, w111_61, w111_64, w111_65, w111_68]
      refine c4 s165 hk (fQ_B (fQ_t f (fA_q f3)) hb0).2.1 r3 ok' ?_
      intro I4 f4 _
      have q4 := fQ_t (fQ_t f (fA_q f3)) (fX_q f4)
      simp only [↓reduceIte, Option.toList_some, Option.toList_none, List.cons_append, List.nil_append, Int32.reduceAdd, Int32.reduceLT, Int32.reduceLE, Int32.reduceToNatClampNeg, w111_71, w111_73, w111_75, w111_76]
      by_cases hc : sMrk η (sB η (rF ρ b) (k + 1)) = v
      · have e : sK η ρ v n b = false := by
          cases hs : sK η ρ v n b with
          | false => rfl
          | true =>
            rw [sK, decide_eq_true_eq, cnt_z _ (by omega)] at hs
            have := hs k hk1
            rw [decide_eq_false_iff_not] at this
            exact absurd hc this
        have hF := hQ I4 q4
        rw [e] at hF
        have hc2 : sMrk η (sHr η (sB η (rF ρ b) k) (sMrk η (sB η (rF ρ b) k))) = v := hc
        simp only [hc2, ↓reduceIte, w111_79, w111_80, nb0]
        exact hF
      · have hc2 : ¬ sMrk η (sHr η (sB η (rF ρ b) k) (sMrk η (sB η (rF ρ b) k))) = v := hc
        simp only [hc2, ↓reduceIte, w111_81, w111_84, nI_1]
        refine ih I4 q4 (fX_r s165 f4 r3) ?_
        intro j hj
        by_cases e : j = k
        · subst e; exact hc
        · exact t j (by omega)
    · intro I' f r t
      have h1 : nI n ≤ nI n := nI_le (Nat.le_refl _) (by omega)
      have e : sK η ρ v n b = true := by
        rw [sK, decide_eq_true_eq, cnt_z _ (by omega)]
        intro k hk
        exact decide_eq_false (t k hk)
      have hF := hQ I' f
      rw [e] at hF
      rw [w111_40]
      simp only [w111_42, w111_43, h1, ↓reduceIte, w111_87, w111_88, nb1]
      exact hF
  exact L 0 (by omega) I2 (fQ_t q1 (fX_q f2)) (fX_r s165 f2 r1) (fun j hj => absurd hj (by omega))
theorem c110 (hb : xB I o η ρ) (v n w : Int32) (hQ : ∀ I', fQ I I' → Q (some (.int (q_forbids η ρ v n w))) (mHh xL I' J (mRf o o rr))) : WP (d + 6) 110 0 [.ref 7, .int v, .int n, .int w, mDum, mDum, mDum, mDum] [] (mHh xL I J (mRf o o rr)) Q := by
  have hb0 := hb
  obtain ⟨hk, hh, hr, ho, m, hm, e5⟩ := hb
  have hn6 := hk.2.1
  have h64 := pow6 hn6
  have hHo := hh.1
  obtain ⟨f7, hf7, ef7⟩ := ho.2.2.2.2.1
  simp only [w110_0, w110_1, c100, ↓reduceIte, Option.toList_some, Option.toList_none, List.cons_append, List.nil_append, Int32.reduceAdd, Int32.reduceLT, Int32.reduceLE, Int32.reduceToNatClampNeg, w110_4, q_forbids] at hQ ⊢
  by_cases hv : isM v = true
  · by_cases h : sW n 1 60 = true
    · by_cases h' : sW w 0 1 = true
      · rw [hv, h, h'] at hQ
        obtain ⟨n, -, hn, rfl⟩ := (sW_iff (a := 1) (b := 60) rfl rfl).1 h
        have ec : (nI n).toNatClampNeg = n := nI_clamp (by omega)
        have ec7 : (nI f7).toNatClampNeg = f7 := nI_clamp (by omega)
        rw [ec, ef7, ec7] at hQ
        simp only [sB_t hv, sB_t h, sB_t h', o01, ↓reduceIte, w110_7, w110_8, w110_9, w110_11, w110_14, w110_17, w110_18, w110_19, w110_20, w110_23, c95, ↓reduceIte, Option.toList_some, Option.toList_none, List.cons_append, List.nil_append, Int32.reduceAdd, Int32.reduceLT, Int32.reduceLE, Int32.reduceToNatClampNeg, w110_28, w110_30, w110_32, w110_34, w110_36, w110_37, Bool.and_self] at hQ ⊢
        have L : ∀ b, b ≤ 2 ^ η.2.1 → ∀ (I' : Nat → Nat → Int32) (v7 : Value), fQ I I' → WP (d + 6) 110 39 [.ref 7, .int v, .int (nI n), .int w, .int (nI (fkN (fK f7 (sK η ρ v n) b))), .int (fkI (fK f7 (sK η ρ v n) b)), .int (nI b), v7] [] (mHh xL I' J (mRf o o rr)) Q := by
          refine iter_dn ?_ ?_
          · intro b hb1 ih I' v7 f
            have hbD := fQ_B f hb0
            have g1 : ¬ nI (2 ^ η.2.1) ≤ nI b := nI_ge hb1 (by omega)
            have e7 : I' 163 3 = nI f7 := by rw [(mRw_5 hbD.2.2.1).2.2, ef7]
            have hle := bn_le b
            have hle2 := fkN_le (o := fK f7 (sK η ρ v n) b)
            have hlt : (fkN (fK f7 (sK η ρ v n) b) ≤ bn b) ↔ nI (fkN (fK f7 (sK η ρ v n) b)) ≤ nI (bn b) := (nI_leI (by omega) (by omega)).symm
            have hand : b &&& f7 < 2 ^ 31 := by have := Nat.and_le_left (n := b) (m := f7); omega
            have e0 : (nI (b &&& f7) = 0) ↔ b &&& f7 = 0 := nI_eq (b := 0) hand (by omega)
            rw [fK] at ih
            rw [w110_39]
            simp only [w110_41, w110_42, w110_43, w110_46, hHo, hbD.2.1.2.2.1, w110_49, bSh _ (show η.2.1 < 7 by omega), w110_50, g1, ↓reduceIte, w110_53, w110_55, c267 (show b < 64 by omega), ↓reduceIte, Option.toList_some, Option.toList_none, List.cons_append, List.nil_append, Int32.reduceAdd, Int32.reduceLT, Int32.reduceLE, Int32.reduceToNatClampNeg, w110_58, w110_60, w110_62, w110_64, ← hlt]
            by_cases c1 : fkN (fK f7 (sK η ρ v n) b) ≤ bn b
            · have c1' : ¬ ((match fK f7 (sK η ρ v n) b with | none => true | some x => decide (bn b < bn x)) = true ∧ b &&& f7 = 0 ∧ sK η ρ v n b = true) := fun z => by have := fkN_lt.1 z.1; omega
              rw [if_neg c1'] at ih
              simp only [c1, ↓reduceIte, w110_99, w110_102, nI_1]
              exact ih I' _ f
            · simp only [c1, ↓reduceIte, w110_67, w110_69, w110_70, w110_73, s163, e7, w110_76, bAnd b (by omega) f7 (by omega), w110_77, e0]
              by_cases c2 : b &&& f7 = 0
              · simp only [c2, ↓reduceIte, w110_80, w110_81, w110_83, w110_84, w110_85]
                refine c111 hbD v hn hb1 ?_
                intro I2 f2
                simp only [↓reduceIte, Option.toList_some, Option.toList_none, List.cons_append, List.nil_append, Int32.reduceAdd, Int32.reduceLT, Int32.reduceLE, Int32.reduceToNatClampNeg, w110_88]
                by_cases c3 : sK η ρ v n b = true
                · have c1' : ((match fK f7 (sK η ρ v n) b with | none => true | some x => decide (bn b < bn x)) = true ∧ b &&& f7 = 0 ∧ sK η ρ v n b = true) := ⟨fkN_lt.2 (by omega), c2, c3⟩
                  rw [if_pos c1'] at ih
                  simp only [sB_t c3, o01, ↓reduceIte, w110_91, w110_93, w110_95, w110_97, w110_99, w110_102, nI_1]
                  exact ih I2 _ (fQ_t f f2)
                · have c1' : ¬ ((match fK f7 (sK η ρ v n) b with | none => true | some x => decide (bn b < bn x)) = true ∧ b &&& f7 = 0 ∧ sK η ρ v n b = true) := fun z => c3 z.2.2
                  rw [if_neg c1'] at ih
                  have c3' : sK η ρ v n b = false := by simpa using c3
                  simp only [sB_f c3', ↓reduceIte, w110_99, w110_102, nI_1]
                  exact ih I2 _ (fQ_t f f2)
              · have c1' : ¬ ((match fK f7 (sK η ρ v n) b with | none => true | some x => decide (bn b < bn x)) = true ∧ b &&& f7 = 0 ∧ sK η ρ v n b = true) := fun z => c2 z.2.1
                rw [if_neg c1'] at ih
                simp only [c2, ↓reduceIte, w110_99, w110_102, nI_1]
                exact ih I' _ f
          · intro I' v7 f
            have hbD := fQ_B f hb0
            have g1 : nI (2 ^ η.2.1) ≤ nI (2 ^ η.2.1) := nI_le (Nat.le_refl _) (by omega)
            have hF := hQ I' f
            rw [w110_39]
            simp only [w110_41, w110_42, w110_43, w110_46, hHo, hbD.2.1.2.2.1, w110_49, bSh _ (show η.2.1 < 7 by omega), w110_50, g1, ↓reduceIte, w110_105, w110_107, w110_109]
            cases hx : fK f7 (sK η ρ v n) (2 ^ η.2.1) with
            | none =>
              rw [hx] at hF
              simp only [fkI, ↓reduceIte, w110_112, w110_114]
              exact hF
            | some x =>
              rw [hx] at hF
              have hx2 := fK_lt _ _ _ _ hx
              have n2 : ¬ nI x = -2 := by
                intro z
                have := nI_pos (n := x) (by omega)
                rw [z] at this
                exact this (by decide)
              simp only [fkI, fkN, n2, ↓reduceIte, w110_115, w110_116]
              by_cases hw : w = 0
              · simp only [hw, ↓reduceIte, w110_119, w110_121, w110_126] at hF ⊢
                exact hF
              · simp only [hw, ↓reduceIte, w110_124, w110_126] at hF ⊢
                exact hF
        exact L 0 (Nat.zero_le _) I _ fQ_0
      · have h2 : sW w 0 1 = false := by simpa using h'
        rw [h2, Bool.and_false, Bool.and_false] at hQ
        simp only [sB_t hv, sB_t h, sB_f h2, o01, ↓reduceIte, w110_7, w110_8, w110_9, w110_11, w110_14, w110_17, w110_18, w110_19, w110_20, w110_23, c95, ↓reduceIte, Option.toList_some, Option.toList_none, List.cons_append, List.nil_append, Int32.reduceAdd, Int32.reduceLT, Int32.reduceLE, Int32.reduceToNatClampNeg, w110_26, w110_27]
        exact hQ I fQ_0
    · have h2 : sW n 1 60 = false := by simpa using h
      rw [h2, Bool.false_and, Bool.and_false] at hQ
      simp only [sB_t hv, sB_f h2, o01, ↓reduceIte, w110_7, w110_8, w110_9, w110_11, w110_14, c95, ↓reduceIte, Option.toList_some, Option.toList_none, List.cons_append, List.nil_append, Int32.reduceAdd, Int32.reduceLT, Int32.reduceLE, Int32.reduceToNatClampNeg, w110_26, w110_27]
      exact hQ I fQ_0
  · have h2 : isM v = false := by simpa using hv
    rw [h2, Bool.false_and] at hQ
    simp only [sB_f h2, ↓reduceIte, w110_26, w110_27]
    exact hQ I fQ_0
end QRP
