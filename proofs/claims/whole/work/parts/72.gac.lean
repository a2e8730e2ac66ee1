/-! A game: the glass's answer. -/
def gA0 (η : mHs) (ρ : mRo5) (n t : Nat) : Nat := (gAx η (gV η n) ρ t 7).getD 0
def q_game (η : mHs) (ρ : mRo5) (n w : Int32) : Int32 := if sW n 1 4 && sW w 0 1 then (if w = 0 then nI (gV η n.toNatClampNeg ρ) else if gA0 η ρ (n.toNatClampNeg - 1) 0 < gA0 η ρ (n.toNatClampNeg - 1) 1 then 1 else 0) else -1
section GAC
variable {d : Nat} {xL : Nat} {I : Nat → Nat → Int32} {J : Nat → Nat → Int64} {rr : Nat} {Q : Option Value → mHp → Prop} {o : Nat} {η : mHs} {ρ : mRo5}
theorem c118 (hb : xB I o η ρ) (n w : Int32) (hQ : ∀ I', fQ I I' → Q (some (.int (q_game η ρ n w))) (mHh xL I' J (mRf o o rr))) : WP (d + 20) 118 0 [.ref 7, .int n, .int w] [] (mHh xL I J (mRf o o rr)) Q := by
  obtain ⟨hk, hh, hr, ho, m, hm, e5⟩ := hb
  simp only [w118_0, w118_1, w118_2, w118_3, c95, ↓reduceIte, Option.toList_some, Option.toList_none, List.cons_append, List.nil_append, Int32.reduceAdd, Int32.reduceLT, Int32.reduceLE, Int32.reduceToNatClampNeg, w118_6, q_game] at hQ ⊢
  by_cases h : sW n 1 4 = true
  · by_cases h' : sW w 0 1 = true
    · rw [h, h'] at hQ
      obtain ⟨n, hn1, hn4, rfl⟩ := (sW_iff (a := 1) (b := 4) rfl rfl).1 h
      have ec : (nI n).toNatClampNeg = n := nI_clamp (by omega)
      rw [ec] at hQ
      obtain ⟨k, rfl⟩ : ∃ k, n = k + 1 := ⟨n - 1, by omega⟩
      rw [show k + 1 - 1 = k by omega] at hQ
      have h20 := p20_a (xL := xL) (J := J) (rc := o) (rx := o) (rr := rr) hk k (by omega)
      obtain ⟨b1, b2⟩ := hs5 (k + 1) (by omega)
      have e150 : 150 + 2 * (k + 1) = 152 + 2 * k := by omega
      rw [e150] at b1 b2
      obtain ⟨t6, ht6, e6⟩ := ho.2.2.2.1
      have ec6 : (ρ 6).toNatClampNeg = t6 := by rw [e6]; exact nI_clamp (by omega)
      have g1 : ¬ nI (k + 1) < 1 := fun z => by have := (in_lt 1 (by decide) (by omega)).1 z; omega
      have g2 : nI (k + 1) ≤ 4 := (in_le 4 (by decide) (by omega)).2 (by omega)
      have a1 : mIn (nI (k + 1)) 5 = true := mIn_nI (by omega) (by omega)
      have a2 : (nI (k + 1)).toNatClampNeg = k + 1 := nI_clamp (by omega)
      have q1 : fQ I (mCp (152 + 2 * k) 163 I) := fun a x => mCp_o (by omega) (by omega)
      have r1 : mRw (mCp (152 + 2 * k) 163 I) (152 + 2 * k) = ρ := by rw [mRw_cp b2 s163]; exact hr
      have val : ∀ t, t6 + t ≤ 9 → gA0 η ρ k t = gG η (gV η k) ρ t 7 ∧ gG η (gV η k) ρ t 7 ≤ 100 := by
        intro t ht
        have h00 : gOk η ρ t 0 = true := by rw [gOk, ec6, decide_eq_true ht]; rfl
        obtain ⟨q1, q2, -, -⟩ := gC_ok hk ho h00 e5 (by omega)
        have := gV_le hk k _ _ q1 q2 (by omega)
        refine ⟨by rw [gA0, gG_x hk ho (by rw [ec6]; exact ht) (by omega)]; rfl, ?_⟩
        obtain ⟨z1, -⟩ := gG_s (η := η) (V := gV η k) (ρ := ρ) (t := t) (by omega) 6
        exact Nat.le_trans (z1 0 (by omega) rfl) this
      obtain ⟨v0, v0'⟩ := val 0 (by omega)
      have fg : ∀ {I I' : Nat → Nat → Int32}, fG (152 + 2 * k) I I' → fQ I I' := fun f a x => f a (by omega) (by omega)
      simp only [sB_t h, sB_t h', o01, ↓reduceIte, w118_9, w118_10, w118_11, w118_12, c95, ↓reduceIte, Option.toList_some, Option.toList_none, List.cons_append, List.nil_append, Int32.reduceAdd, Int32.reduceLT, Int32.reduceLE, Int32.reduceToNatClampNeg, w118_15, w118_20, w118_21, w118_24, w118_25, w118_28, w118_29, w118_32, w118_33, w19_0, w19_1, w19_2, g1, w19_5, w19_6, w19_7, g2, w19_11, w19_12, w19_15, w19_16 (hi := a1) (hb := (by rw [a2]; exact b1)), w19_17, b2, w19_18, c59 b2 s163, w19_21, w19_22, w19_23, w19_24, w19_25, w19_26, w19_27, w19_29, Bool.and_self] at hQ ⊢
      have z0 : (0 : Int32) = nI 0 := rfl
      have z1 : (1 : Int32) = nI 1 := rfl
      have z101 : (101 : Int32) = nI 101 := rfl
      rw [z0, z101]
      refine h20 (d + 18) ρ m 0 (-1) (-1) 101 _ _ (by omega) (fQ_B q1 ⟨hk, hh, hr, ho, m, hm, e5⟩).2.1 r1 ho e5 (by omega) (by rw [ec6]; omega) (by decide) (by omega) (by omega) (by omega) ?_
      intro x I2 hx hR f2
      have ex : x = gG η (gV η k) ρ 0 7 := by unfold gR at hR; omega
      have q2 : fQ I I2 := fQ_t q1 (fg f2)
      have q3 : fQ I (mU (mU I2 148 1 (nI x)) 148 2 (nI 0)) := fun a y => by rw [mU_f (by omega), mU_f (by omega)]; exact q2 a y
      have e16 : mU (mU I2 148 1 (nI x)) 148 2 (nI 0) 163 2 = nI t6 := by
        rw [mU_f (by decide), mU_f (by decide), q2 163 (by decide), ← e6]; exact (mRw_5 hr).2.1
      have emu : mU (mU I2 148 1 (nI x)) 148 2 (nI 0) 148 1 = nI x := by rw [mU_k (by decide), mU_s]
      simp only [↓reduceIte, Option.toList_some, Option.toList_none, List.cons_append, List.nil_append, Int32.reduceAdd, Int32.reduceLT, Int32.reduceLE, Int32.reduceToNatClampNeg, w19_32, w19_35, w19_36]
      rw [w19_37, z0]
      simp only [w19_40, w19_41, s163, e16, w19_44, w19_46]
      by_cases h9 : t6 = 9
      · have g3 : 9 ≤ nI t6 := by rw [h9]; decide
        have n1 : gA0 η ρ k 1 = 0 := by rw [gA0, gAx_9 (by rw [ec6]; omega)]; rfl
        have ev : gV η (k + 1) ρ = x := by
          show max (gA0 η ρ k 0) (gA0 η ρ k 1) = x
          rw [v0, n1, ex]; exact Nat.max_eq_left (Nat.zero_le _)
        have hF := hQ _ q3
        rw [n1, ev] at hF
        simp only [g3, ↓reduceIte, w19_95, ↓reduceIte, Option.toList_some, Option.toList_none, List.cons_append, List.nil_append, Int32.reduceAdd, Int32.reduceLT, Int32.reduceLE, Int32.reduceToNatClampNeg, w118_36, w118_37]
        by_cases hw : w = 0
        · rw [if_pos hw] at hF
          simp only [hw, ↓reduceIte, w118_40, w118_41, w118_44, emu, w118_47, w118_57]
          exact hF
        · rw [if_neg hw, if_neg (by omega)] at hF
          simp only [hw, ↓reduceIte, w118_50, w118_51, w118_54, mU_s, w118_57]
          exact hF
      · have g3 : ¬ 9 ≤ nI t6 := by rw [ni_le 9 (by decide) (by omega)]; omega
        obtain ⟨v1, v1'⟩ := val 1 (by omega)
        have r3 : mRw (mU (mU I2 148 1 (nI x)) 148 2 (nI 0)) (152 + 2 * k) = ρ := by
          refine mRw_keep (I := mCp (152 + 2 * k) 163 I) ?_ ?_ r1
          · rw [mU_f (by omega), mU_f (by omega)]; exact f2 _ (by omega) (by omega)
          · rw [mU_f (by omega), mU_f (by omega)]; exact f2 _ (by omega) (by omega)
        simp only [g3, ↓reduceIte, w19_49, w19_50, w19_51, w19_52, w19_53, w19_54, emu, w19_57, w19_59]
        rw [z1, z101]
        refine h20 (d + 18) ρ m 1 (x : Int) (nI x) 101 _ _ (by omega) (fQ_B q3 ⟨hk, hh, hr, ho, m, hm, e5⟩).2.1 r3 ho e5 (by omega) (by rw [ec6]; omega) (nI_toInt (by omega)) (by omega) (by omega) (by omega) ?_
        intro y I4 hy hR2 f4
        have q4 : fQ I I4 := fQ_t q3 (fg f4)
        have e48 : I4 148 1 = nI x := by rw [f4 148 (by omega) (by omega), emu]
        have hyx : (x < y) ↔ x < gG η (gV η k) ρ 1 7 := by unfold gR at hR2; omega
        have hmx : max x y = max x (gG η (gV η k) ρ 1 7) := by unfold gR at hR2; omega
        have ev : gV η (k + 1) ρ = max x y := by
          show max (gA0 η ρ k 0) (gA0 η ρ k 1) = _
          rw [v0, v1, hmx, ex]
        have gle : (nI y ≤ nI x) ↔ ¬ x < y := by rw [nI_leI (by omega) (by omega)]; omega
        rw [v0, v1, ← ex, ev] at hQ
        simp only [↓reduceIte, Option.toList_some, Option.toList_none, List.cons_append, List.nil_append, Int32.reduceAdd, Int32.reduceLT, Int32.reduceLE, Int32.reduceToNatClampNeg, w19_62, w19_64, w19_65, w19_67, w19_68, e48, w19_71, gle]
        have fin : ∀ z : Int32, (if x < gG η (gV η k) ρ 1 7 then (1 : Int32) else 0) = z → WP (d + 18 + 1) 19 79 [.ref 148, .ref 37, .ref 163, .int (nI (k + 1)), .int (nI y)] [.int z, .ref 148] (mHh xL I4 J (mRf o o rr)) (fun v h9 => WP (d + 19 + 1) 118 36 [.ref 7, .int (nI (k + 1)), .int w] (v.toList ++ []) h9 Q) := by
          intro z hz
          have e2 : mU I4 148 2 z 148 1 = nI x := by rw [mU_k (by decide)]; exact e48
          have em : (if nI x < nI y then nI y else nI x) = nI (max x y) := max_lo (by omega) (by omega)
          have q5 : fQ I (mU (mU I4 148 2 z) 148 1 (nI (max x y))) := fun a p => by rw [mU_f (by omega), mU_f (by omega)]; exact q4 a p
          have hF := hQ _ q5
          have e6 : mU (mU I4 148 2 z) 148 1 (nI (max x y)) 148 2 = z := by rw [mU_k (by decide), mU_s]
          simp only [w19_79, w19_82, w19_83, w19_84, e2, w19_87, w19_89, em, w19_92, w19_95, ↓reduceIte, Option.toList_some, Option.toList_none, List.cons_append, List.nil_append, Int32.reduceAdd, Int32.reduceLT, Int32.reduceLE, Int32.reduceToNatClampNeg, w118_36, w118_37]
          by_cases hw : w = 0
          · rw [if_pos hw] at hF
            simp only [hw, ↓reduceIte, w118_40, w118_41, w118_44, mU_s, w118_47, w118_57]
            exact hF
          · rw [if_neg hw, hz] at hF
            simp only [hw, ↓reduceIte, w118_50, w118_51, w118_54, e6, w118_57]
            exact hF
        by_cases hc : x < y
        · rw [if_neg (fun z => z hc)]
          simp only [w19_74, w19_75]
          exact fin 1 (if_pos (hyx.1 hc))
        · rw [if_pos hc]
          simp only [w19_78]
          exact fin 0 (if_neg (fun z => hc (hyx.2 z)))
    · have h2 : sW w 0 1 = false := by simpa using h'
      rw [h2, Bool.and_false] at hQ
      simp only [sB_t h, sB_f h2, o01, ↓reduceIte, w118_9, w118_10, w118_11, w118_12, c95, ↓reduceIte, Option.toList_some, Option.toList_none, List.cons_append, List.nil_append, Int32.reduceAdd, Int32.reduceLT, Int32.reduceLE, Int32.reduceToNatClampNeg, w118_15, w118_18, w118_19]
      exact hQ I fQ_0
  · have h2 : sW n 1 4 = false := by simpa using h
    rw [h2, Bool.false_and] at hQ
    simp only [sB_f h2, ↓reduceIte, w118_18, w118_19]
    exact hQ I fQ_0
end GAC
