/-! Queries: forbids and coax of the model. -/
section QRR
variable {d : Nat} {xL : Nat} {I : Nat → Nat → Int32} {J : Nat → Nat → Int64} {rr : Nat} {Q : Option Value → mHp → Prop} {s o : Nat} {η : mHs} {ρ : Nat → Int32}
theorem c212 {b : Nat} (hb : b < 64) {h : mHp} : WP d 212 0 [.int (nI b), mDum, mDum] [] h Q = Q (some (.int (nI (bn b)))) h := by
  simp only [w212_0, w212_1, w212_2, w212_3]
  have key : ∀ k, k ≤ 6 → WP d 212 4 [.int (nI b), .int (nI (bnk b k)), .int (nI k)] [] h Q = Q (some (.int (nI (bn b)))) h := by
    refine iter_dn ?_ ?_
    · intro k hk ih
      have g1 : ¬ 6 ≤ nI k := by rw [ni_le 6 (by decide) (by omega)]; omega
      rw [← ih, bnk, w212_4]
      simp only [w212_0, w212_1, w212_2, w212_3, w212_5, w212_7, w212_10, w212_11, w212_12, w212_13, w212_14, w212_15, w212_16, w212_17, w212_18, w212_21, w212_24, w212_25, g1, ↓reduceIte, bB1 b hb k hk, nI_add, nI_1]
    · have g1 : 6 ≤ nI 6 := by decide
      rw [w212_4]
      simp only [w212_0, w212_1, w212_2, w212_3, w212_5, w212_7, w212_10, w212_11, w212_12, w212_13, w212_14, w212_15, w212_16, w212_17, w212_18, w212_21, w212_24, w212_25, g1, ↓reduceIte]; rfl
  exact key 0 (by omega)
theorem fkI_lt {o : Option Nat} {D : Nat} (hD : D < 2 ^ 31) (h : ∀ x, o = some x → x < D) : (fkI o < 0) ↔ o = none := by
  cases o with
  | none => exact ⟨fun _ => rfl, fun _ => by show (-2 : Int32) < 0; decide⟩
  | some x =>
    have := h x rfl
    exact ⟨fun z => absurd z (nI_pos (by omega)), fun z => by cases z⟩
theorem mNw_7 {ρ : Nat → Int32} (hr : mNw I ρ) : I 212 7 = ρ 7 := mNw_at hr (by omega)
theorem c211 {rc rx : Nat} (hb : zB I s η ρ) (v : Int32) {n : Nat} (hn : n ≤ 60) (hQ : ∀ I', fB I I' → Q (some (.int (fkI (fK (ρ 7).toNatClampNeg (sK η ρ v n) (2 ^ η.2.1))))) (mHh xL I' J (mRf rc rx rr))) : WP (d + 7) 211 0 [.ref 180, .int v, .int (nI n), mDum, mDum] [] (mHh xL I J (mRf rc rx rr)) Q := by
  have hb0 := hb
  obtain ⟨hk, hh, hr, ho, m, hm, e5⟩ := hb
  have hn6 := hk.2.1
  have h64 := pow6 hn6
  have hs := hh.1
  have s1 : mIn (nI s) 2 = true := mIn_nI (by omega) (by omega)
  have s2 : (nI s).toNatClampNeg = s := nI_clamp (by omega)
  obtain ⟨f7, hf7, ef7⟩ := ho.2.2.2.2.1
  have ec7 : (nI f7).toNatClampNeg = f7 := nI_clamp (by omega)
  rw [ef7, ec7] at hQ
  have a1 : mIn 7 8 = true := by decide
  have a2 : (7 : Int32).toNatClampNeg = 7 := rfl
  simp only [w211_0, w211_2, w211_3, w211_4]
  have L : ∀ b, b ≤ 2 ^ η.2.1 → ∀ (I' : Nat → Nat → Int32), fB I I' → WP (d + 7) 211 6 [.ref 180, .int v, .int (nI n), .int (fkI (fK f7 (sK η ρ v n) b)), .int (nI b)] [] (mHh xL I' J (mRf rc rx rr)) Q := by
    refine iter_dn ?_ ?_
    · intro b hb1 ih I' f
      have bD := fB_B f hb0
      have g1 : ¬ nI (2 ^ η.2.1) ≤ nI b := nI_ge hb1 (by omega)
      have e7 : I' 212 7 = nI f7 := by rw [mNw_7 bD.2.2.1, ef7]
      have hand : b &&& f7 < 2 ^ 31 := by have := Nat.and_le_left (n := b) (m := f7); omega
      have e0 : (nI (b &&& f7) = 0) ↔ b &&& f7 = 0 := nI_eq (b := 0) hand (by omega)
      have hlt := fK_lt f7 (sK η ρ v n) b
      have hneg := fkI_lt (o := fK f7 (sK η ρ v n) b) (D := b) (by omega) hlt
      rw [fK] at ih
      rw [w211_6]
      simp only [w211_8, w211_9, w211_10, w211_13, w211_14, w211_17, bD.2.1.2.1, s1, s2, bD.2.1.2.2.2.1, w211_18, bSh _ (show η.2.1 < 7 by omega), w211_19, g1, ↓reduceIte, w211_22, w211_24, w211_25, w211_28, w211_30, a1, a2, e7, w211_31, bAnd b (by omega) f7 (by omega), w211_32, e0]
      by_cases c2 : b &&& f7 = 0
      · simp only [c2, ↓reduceIte, w211_35, w211_36, hneg]
        have go : bn b < fkN (fK f7 (sK η ρ v n) b) → WP (d + 7) 211 54 [.ref 180, .int v, .int (nI n), .int (fkI (fK f7 (sK η ρ v n) b)), .int (nI b)] [] (mHh xL I' J (mRf rc rx rr)) Q := by
          intro c1
          simp only [w211_54, w211_55]
          refine c204 bD.2.1 bD.2.2.1 ?_
          intro I1 f1 r1 l1
          have n80 : ∀ x, mU I1 213 7 x 180 = I1 180 := fun x => mU_f (by decide)
          obtain ⟨ok0, e50⟩ := rF_ok hk ho (b := b) hb1
          rw [e5] at e50
          simp only [↓reduceIte, Option.toList_some, Option.toList_none, List.cons_append, List.nil_append, Int32.reduceAdd, Int32.reduceLT, Int32.reduceLE, Int32.reduceToNatClampNeg, w211_58, w211_59, w211_62, w211_64, w211_65, w211_66, w211_68, w211_69, a1, a2, mRr_at r1 (show 7 < 8 by decide), w211_70, w211_71, w211_72, w211_73]
          refine c213 (ρ := rF ρ b) (fB_h (fB_w (fB_t f (fC_B f1))) hh) hk (mRr_u (by omega) r1) ok0 (by rw [n80]; exact l1) v e50 (by omega) ?_
          intro I2 f2 _
          have q2 := fB_t (fB_w (w := 7) (x := ρ 7 ||| nI b) (fB_t f (fC_B f1))) (fH_B f2)
          simp only [↓reduceIte, Option.toList_some, Option.toList_none, List.cons_append, List.nil_append, Int32.reduceAdd, Int32.reduceLT, Int32.reduceLE, Int32.reduceToNatClampNeg, w211_76]
          by_cases c3 : cnt (fun k => decide (sMrk η (sB η (rF ρ b) (k + 1)) = v)) n = 0
          · have c3' : sK η ρ v n b = true := decide_eq_true c3
            rw [if_pos ⟨fkN_lt.2 c1, c2, c3'⟩] at ih
            simp only [c3, ↓reduceIte, w211_79, w211_81, w211_82, w211_85, nI_1]
            exact ih I2 q2
          · have c3' : ¬ sK η ρ v n b = true := by rw [sK, decide_eq_true_eq]; exact c3
            rw [if_neg (fun z => c3' z.2.2)] at ih
            simp only [c3, ↓reduceIte, w211_82, w211_85, nI_1]
            exact ih I2 q2
        cases hx : fK f7 (sK η ρ v n) b with
        | none =>
          rw [hx] at go
          simp only [↓reduceIte]
          exact go (by have := bn_le b; show bn b < 7; omega)
        | some x =>
          rw [hx] at go ih
          have hx2 := hlt x hx
          have i1 : ¬ ((some x : Option Nat) = none) := fun z => by cases z
          have hle := bn_le b
          have hle2 := bn_le x
          have hl : nI (bn b) < nI (bn x) ↔ bn b < bn x := nI_ltI (by omega) (by omega)
          simp only [i1, ↓reduceIte, w211_39, w211_41, c212 (show b < 64 by omega), ↓reduceIte, Option.toList_some, Option.toList_none, List.cons_append, List.nil_append, Int32.reduceAdd, Int32.reduceLT, Int32.reduceLE, Int32.reduceToNatClampNeg, w211_44, fkI, w211_45, c212 (show x < 64 by omega), w211_48, hl]
          by_cases c1 : bn b < bn x
          · simp only [c1, ↓reduceIte]
            exact go c1
          · have c1' : ¬ (decide (bn b < bn x) = true) := by rw [decide_eq_true_eq]; exact c1
            rw [if_neg (fun z => c1' z.1)] at ih
            simp only [c1, ↓reduceIte, w211_51, w211_82, w211_85, nI_1]
            exact ih I' f
      · rw [if_neg (fun z => c2 z.2.1)] at ih
        simp only [c2, ↓reduceIte, w211_82, w211_85, nI_1]
        exact ih I' f
    · intro I' f
      have bD := fB_B f hb0
      have g1 : nI (2 ^ η.2.1) ≤ nI (2 ^ η.2.1) := nI_le (Nat.le_refl _) (by omega)
      rw [w211_6]
      simp only [w211_8, w211_9, w211_10, w211_13, w211_14, w211_17, bD.2.1.2.1, s1, s2, bD.2.1.2.2.2.1, w211_18, bSh _ (show η.2.1 < 7 by omega), w211_19, g1, ↓reduceIte, w211_88, w211_89]
      exact hQ I' f
  exact L 0 (Nat.zero_le _) I fB_0
theorem c210 (hb : zB I s η ρ) {rc rx : Nat} (v n w : Int32) (hQ : ∀ I', fB I I' → Q (some (.int (q_forbids η ρ v n w))) (mHh xL I' J (mRf rc rx rr))) : WP (d + 8) 210 0 [.ref 180, .int v, .int n, .int w, mDum] [] (mHh xL I J (mRf rc rx rr)) Q := by
  have hn6 := hb.1.2.1
  have h64 := pow6 hn6
  have e8 : (decide ((1 : Int32) ≤ n) && decide (n ≤ 60)) = sW n 1 60 := rfl
  have e9 : (decide ((0 : Int32) ≤ w) && decide (w ≤ 1)) = sW w 0 1 := rfl
  simp only [w210_0, w210_1, c203, ↓reduceIte, Option.toList_some, Option.toList_none, List.cons_append, List.nil_append, Int32.reduceAdd, Int32.reduceLT, Int32.reduceLE, Int32.reduceToNatClampNeg, w210_4, q_forbids] at hQ ⊢
  by_cases hv : isM v = true
  · by_cases h : sW n 1 60 = true
    · by_cases h' : sW w 0 1 = true
      · rw [hv, h, h'] at hQ
        simp only [sB_t hv, o01, ↓reduceIte, w210_7, w210_8, w210_9, w210_11, c170, e8, sB_t h, ↓reduceIte, Option.toList_some, Option.toList_none, List.cons_append, List.nil_append, Int32.reduceAdd, Int32.reduceLT, Int32.reduceLE, Int32.reduceToNatClampNeg, w210_14, w210_17, w210_18, w210_19, w210_20, e9, sB_t h', w210_23, w210_28, w210_29, w210_30, w210_31, Bool.and_self] at hQ ⊢
        obtain ⟨n, -, hn, rfl⟩ := (sW_iff (a := 1) (b := 60) rfl rfl).1 h
        have ec : (nI n).toNatClampNeg = n := nI_clamp (by omega)
        rw [ec] at hQ
        refine c211 hb v hn ?_
        intro I1 f1
        have hF := hQ I1 f1
        simp only [↓reduceIte, Option.toList_some, Option.toList_none, List.cons_append, List.nil_append, Int32.reduceAdd, Int32.reduceLT, Int32.reduceLE, Int32.reduceToNatClampNeg, w210_34, w210_36, w210_38]
        cases hx : fK (ρ 7).toNatClampNeg (sK η ρ v n) (2 ^ η.2.1) with
        | none =>
          rw [hx] at hF
          have g1 : ((-2 : Int32) < 0) = True := by simp
          simp only [fkI, g1, ↓reduceIte, w210_46, w210_48, w210_56]
          exact hF
        | some x =>
          rw [hx] at hF
          have hx2 := fK_lt _ _ _ _ hx
          have g1 : ¬ nI x < 0 := nI_pos (by omega)
          simp only [fkI, g1, ↓reduceIte, w210_41, w210_42, w210_43]
          rcases sW01.1 h' with rfl | rfl
          · have o10 : ((0 : Int32) = 1) = False := by simp
            simp only [o10, ↓reduceIte, w210_51, w210_53, c212 (show x < 64 by omega), ↓reduceIte, Option.toList_some, Option.toList_none, List.cons_append, List.nil_append, Int32.reduceAdd, Int32.reduceLT, Int32.reduceLE, Int32.reduceToNatClampNeg, w210_56] at hF ⊢
            exact hF
          · simp only [o01, ↓reduceIte, w210_46, w210_48, w210_56] at hF ⊢
            exact hF
      · have h2 : sW w 0 1 = false := by simpa using h'
        rw [h2, Bool.and_false, Bool.and_false] at hQ
        simp only [sB_t hv, o01, ↓reduceIte, w210_7, w210_8, w210_9, w210_11, c170, e8, sB_t h, ↓reduceIte, Option.toList_some, Option.toList_none, List.cons_append, List.nil_append, Int32.reduceAdd, Int32.reduceLT, Int32.reduceLE, Int32.reduceToNatClampNeg, w210_14, w210_17, w210_18, w210_19, w210_20, e9, sB_f h2, w210_23, w210_26, w210_27]
        exact hQ I fB_0
    · have h2 : sW n 1 60 = false := by simpa using h
      rw [h2, Bool.false_and, Bool.and_false] at hQ
      simp only [sB_t hv, o01, ↓reduceIte, w210_7, w210_8, w210_9, w210_11, c170, e8, sB_f h2, ↓reduceIte, Option.toList_some, Option.toList_none, List.cons_append, List.nil_append, Int32.reduceAdd, Int32.reduceLT, Int32.reduceLE, Int32.reduceToNatClampNeg, w210_14, w210_26, w210_27]
      exact hQ I fB_0
  · have h2 : isM v = false := by simpa using hv
    rw [h2, Bool.false_and] at hQ
    simp only [sB_f h2, ↓reduceIte, w210_26, w210_27]
    exact hQ I fB_0
theorem c223 (hb : zB I s η ρ) {rc rx : Nat} (v : Int32) {p n : Nat} (z : Int32) (hn : n ≤ 60) (hp : p < η.1) (hQ : ∀ I', fB I I' → Q (some (.int (sB01 (sW z 0 20 && wK η ρ v n p z.toNatClampNeg)))) (mHh xL I' J (mRf rc rx rr))) : WP (d + 8) 223 0 [.ref 180, .int (nI p), .int z, .int v, .int (nI n)] [] (mHh xL I J (mRf rc rx rr)) Q := by
  obtain ⟨hk, hh, hr, ho, m, hm, e5⟩ := hb
  have hn5 := hk.1
  have e9 : (decide ((0 : Int32) ≤ z) && decide (z ≤ 20)) = sW z 0 20 := rfl
  have a1 : mIn (nI p) 8 = true := mIn_nI (by omega) (by omega)
  have a2 : (nI p).toNatClampNeg = p := nI_clamp (by omega)
  simp only [w223_0, w223_1, w223_2, w223_4, c170, e9, ↓reduceIte, Option.toList_some, Option.toList_none, List.cons_append, List.nil_append, Int32.reduceAdd, Int32.reduceLT, Int32.reduceLE, Int32.reduceToNatClampNeg, w223_7]
  by_cases h : sW z 0 20 = true
  · obtain ⟨x, -, hx, rfl⟩ := (sW_iff (a := 0) (b := 20) rfl rfl).1 h
    have a3 : (nI x).toNatClampNeg = x := nI_clamp (by omega)
    rw [h, Bool.true_and, a3] at hQ
    simp only [sB_t h, o01, ↓reduceIte, w223_12, w223_13]
    refine c204 hh hr ?_
    intro I1 f1 r1 l1
    have n80 : ∀ x, mU I1 213 p x 180 = I1 180 := fun x => mU_f (by decide)
    simp only [↓reduceIte, Option.toList_some, Option.toList_none, List.cons_append, List.nil_append, Int32.reduceAdd, Int32.reduceLT, Int32.reduceLE, Int32.reduceToNatClampNeg, w223_16, w223_17, w223_20, w223_21, w223_22, a1, a2, w223_23, w223_24, w223_26]
    refine c216s (ρ := rU ρ p (nI x)) (fB_h (fB_w (fC_B f1)) hh) hk (mRr_u (by omega) r1) (rU_B ho hp hn5 hx) (by rw [n80]; exact l1) (by rw [rU_5 (by omega)]; exact e5) (by omega) ?_
    intro I2 f2 _
    have hF := hQ I2 (fB_t (fB_w (w := p) (x := nI x) (fC_B f1)) (fH_B f2))
    simp only [↓reduceIte, Option.toList_some, Option.toList_none, List.cons_append, List.nil_append, Int32.reduceAdd, Int32.reduceLT, Int32.reduceLE, Int32.reduceToNatClampNeg, w223_29, w223_30]
    by_cases hc : sMrk η (sB η (rU ρ p (nI x)) n) = v
    · rw [wK, decide_eq_true hc] at hF
      simp only [hc, ↓reduceIte, w223_33, w223_34, w223_38, nb1]
      exact hF
    · rw [wK, decide_eq_false hc] at hF
      simp only [hc, ↓reduceIte, w223_37, w223_38, nb0]
      exact hF
  · have h2 : sW z 0 20 = false := by simpa using h
    rw [h2, Bool.false_and] at hQ
    simp only [sB_f h2, ↓reduceIte, w223_10, w223_11, nb0]
    exact hQ I fB_0
theorem c222 (hb : zB I s η ρ) {rc rx : Nat} (v : Int32) {n : Nat} (hn : n ≤ 60) (hQ : ∀ I', fB I I' → Q (some (.int (fin2N (foN (cxB η ρ v n) 21 0)))) (mHh xL I' J (mRf rc rx rr))) : WP (d + 9) 222 0 [.ref 180, .int v, .int (nI n), mDum, mDum] [] (mHh xL I J (mRf rc rx rr)) Q := by
  have hb0 := hb
  obtain ⟨hk, hh, hr, ho, m, hm, e5⟩ := hb
  have hn5 := hk.1
  have hs := hh.1
  have s1 : mIn (nI s) 2 = true := mIn_nI (by omega) (by omega)
  have s2 : (nI s).toNatClampNeg = s := nI_clamp (by omega)
  have et : (10000 : Int32) = nI 10000 := rfl
  have eh : (100 : Int32) = nI 100 := rfl
  simp only [w222_0, w222_1]
  have L : ∀ y, y ≤ 21 → (∀ I', fB I I' → Q (some (.int (fin2N (foN (cxB η ρ v n) (21 - y) y)))) (mHh xL I' J (mRf rc rx rr))) → ∀ (I' : Nat → Nat → Int32) (v4 : Value), fB I I' → WP (d + 9) 222 2 [.ref 180, .int v, .int (nI n), .int (nI y), v4] [] (mHh xL I' J (mRf rc rx rr)) Q := by
    refine iter_dn ?_ ?_
    · intro y hy ih hF I' v4 f
      have h1 : ¬ 20 < nI y := i_le ((in_le 20 (by decide) (by omega)).2 (by omega))
      rw [show 21 - y = (21 - (y + 1)) + 1 by omega, foN] at hF
      rw [w222_2]
      simp only [w222_3, w222_5, h1, ↓reduceIte, w222_8, w222_9]
      have M : ∀ p, p ≤ η.1 → (∀ I', fB I I' → Q (some (.int (fin2N (match foN (cxI η ρ v n y) (η.1 - p) p with | some x => some x | none => foN (cxB η ρ v n) (21 - (y + 1)) (y + 1))))) (mHh xL I' J (mRf rc rx rr))) → ∀ (I' : Nat → Nat → Int32), fB I I' → WP (d + 9) 222 11 [.ref 180, .int v, .int (nI n), .int (nI y), .int (nI p)] [] (mHh xL I' J (mRf rc rx rr)) Q := by
        refine iter_dn ?_ ?_
        · intro p hp ih2 hF2 I' f
          have bD := fB_B f hb0
          have g1 : ¬ nI η.1 ≤ nI p := nI_ge hp (by omega)
          have a1 : mIn (nI p) 8 = true := mIn_nI (by omega) (by omega)
          have a2 : (nI p).toNatClampNeg = p := nI_clamp (by omega)
          obtain ⟨r20, re⟩ := rt_ok ho (show p < 5 by omega)
          obtain ⟨a, ha⟩ : ∃ a, (ρ p).toNatClampNeg = a := ⟨_, rfl⟩
          rw [ha] at r20 re
          have e1 : ∀ I', fB I I' → I' 212 p = nI a := fun I' f => by rw [mNw_at (fB_B f hb0).2.2.1 (by omega)]; exact re
          rw [show η.1 - p = (η.1 - (p + 1)) + 1 by omega, foN, cxI, cxd, ha] at hF2
          rw [w222_11]
          simp only [w222_13, w222_14, w222_17, w222_18, w222_21, bD.2.1.2.1, s1, s2, bD.2.1.2.2.1, w222_22, g1, ↓reduceIte, w222_25, w222_26, w222_28, w222_29, w222_32, w222_34, a1, a2, e1 I' f, w222_35, w222_36, w222_37, w222_38, w222_39]
          refine c223 bD v _ hn hp ?_
          intro I2 f2
          have f3 := fB_t f f2
          simp only [↓reduceIte, Option.toList_some, Option.toList_none, List.cons_append, List.nil_append, Int32.reduceAdd, Int32.reduceLT, Int32.reduceLE, Int32.reduceToNatClampNeg, w222_42]
          have cond : (sW (nI a - nI y) 0 20 && wK η ρ v n p (nI a - nI y).toNatClampNeg) = true ↔ (y ≤ a ∧ wK η ρ v n p (a - y) = true) := by
            by_cases hya : y ≤ a
            · have e2 : nI a - nI y = nI (a - y) := pk_sub hya
              have e3 : sW (nI (a - y)) 0 20 = true := (sW_iff (a := 0) (b := 20) rfl rfl).2 ⟨a - y, by omega, by omega, rfl⟩
              rw [e2, e3, Bool.true_and, nI_clamp (by omega)]
              exact ⟨fun z => ⟨hya, z⟩, fun z => z.2⟩
            · have e2 : nI a - nI y < 0 := pk_sneg (by omega) (by omega)
              have e3 : sW (nI a - nI y) 0 20 = false := by
                rw [sW, decide_eq_false (i_lt e2), Bool.false_and]
              rw [e3, Bool.false_and]
              exact ⟨fun z => absurd z (by decide), fun z => absurd z.1 hya⟩
          by_cases c1 : y ≤ a ∧ wK η ρ v n p (a - y) = true
          · rw [if_pos c1] at hF2
            have hF3 := hF2 I2 f3
            have e2 : nI (10000 * y + 100 * p + a) - nI y = nI (10000 * y + 100 * p + (a - y)) := by
              rw [pk_sub (by omega)]; congr 1; omega
            simp only [sB_t (cond.2 c1), o01, ↓reduceIte, w222_45, w222_48, w222_49, w222_50, w222_52, w222_54, w222_55, w222_56, w222_57, w222_60, w222_62, a1, a2, e1 I2 f3, w222_63, w222_64, w222_65, w222_66]
            rw [et, eh, pk_mul, pk_mul, nI_add, nI_add, e2]
            exact hF3
          · rw [if_neg c1] at hF2
            have c1' : (sW (nI a - nI y) 0 20 && wK η ρ v n p (nI a - nI y).toNatClampNeg) = false := by
              cases hx : (sW (nI a - nI y) 0 20 && wK η ρ v n p (nI a - nI y).toNatClampNeg) with
              | false => rfl
              | true => exact absurd (cond.1 hx) c1
            simp only [sB_f c1', ↓reduceIte, w222_67, w222_68, w222_70, w222_71, w222_74, w222_76, a1, a2, e1 I2 f3, w222_77, w222_78, nI_add, w222_79, w222_80, w222_81]
            refine c223 (fB_B f3 hb0) v _ hn hp ?_
            intro I4 f4
            have f5 := fB_t f3 f4
            simp only [↓reduceIte, Option.toList_some, Option.toList_none, List.cons_append, List.nil_append, Int32.reduceAdd, Int32.reduceLT, Int32.reduceLE, Int32.reduceToNatClampNeg, w222_84]
            have cond2 : (sW (nI (a + y)) 0 20 && wK η ρ v n p (nI (a + y)).toNatClampNeg) = true ↔ (a + y ≤ 20 ∧ wK η ρ v n p (a + y) = true) := by
              rw [nI_clamp (by omega), Bool.and_eq_true, sW_iff (a := 0) (b := 20) rfl rfl]
              constructor
              · rintro ⟨⟨k, -, hk2, e⟩, z⟩
                have := (nI_eq (a := a + y) (b := k) (by omega) (by omega)).1 e
                exact ⟨by omega, z⟩
              · rintro ⟨z1, z2⟩
                exact ⟨⟨a + y, by omega, z1, rfl⟩, z2⟩
            by_cases c3 : a + y ≤ 20 ∧ wK η ρ v n p (a + y) = true
            · rw [if_pos c3] at hF2
              have hF3 := hF2 I4 f5
              have e2 : 10000 * y + 100 * p + a + y = 10000 * y + 100 * p + (a + y) := by omega
              simp only [sB_t (cond2.2 c3), o01, ↓reduceIte, w222_87, w222_90, w222_91, w222_92, w222_94, w222_96, w222_97, w222_98, w222_99, w222_102, w222_104, a1, a2, e1 I4 f5, w222_105, w222_106, w222_107, w222_108]
              rw [et, eh, pk_mul, pk_mul, nI_add, nI_add, nI_add, e2]
              exact hF3
            · rw [if_neg c3] at hF2
              have c3' : (sW (nI (a + y)) 0 20 && wK η ρ v n p (nI (a + y)).toNatClampNeg) = false := by
                cases hx : (sW (nI (a + y)) 0 20 && wK η ρ v n p (nI (a + y)).toNatClampNeg) with
                | false => rfl
                | true => exact absurd (cond2.1 hx) c3
              simp only [sB_f c3', ↓reduceIte, w222_109, w222_112, nI_1]
              exact ih2 hF2 I4 f5
        · intro hF2 I' f
          have bD := fB_B f hb0
          have g1 : nI η.1 ≤ nI η.1 := nI_le (Nat.le_refl _) (by omega)
          rw [Nat.sub_self, foN] at hF2
          rw [w222_11]
          simp only [w222_13, w222_14, w222_17, w222_18, w222_21, bD.2.1.2.1, s1, s2, bD.2.1.2.2.1, w222_22, g1, ↓reduceIte, w222_115, w222_118, nI_1]
          exact ih hF2 I' _ f
      exact M 0 (by omega) hF I' f
    · intro hF I' v4 f
      have h1 : 20 < nI 21 := by decide
      rw [w222_2]
      simp only [w222_3, w222_5, h1, ↓reduceIte, w222_121, w222_123]
      exact hF I' f
  exact L 0 (by omega) hQ I _ fB_0
theorem foN_some {f : Nat → Option Nat} {x : Nat} : ∀ n k, foN f n k = some x → ∃ j, k ≤ j ∧ j < k + n ∧ f j = some x := by
  intro n
  induction n with
  | zero => intro k h; cases h
  | succ n ih =>
    intro k h
    rw [foN] at h
    cases hf : f k with
    | some y =>
      rw [hf] at h
      exact ⟨k, Nat.le_refl _, by omega, by rw [hf]; exact h⟩
    | none =>
      rw [hf] at h
      obtain ⟨j, h1, h2, h3⟩ := ih (k + 1) h
      exact ⟨j, by omega, by omega, h3⟩
theorem c221 (hb : zB I s η ρ) {rc rx : Nat} (v n w : Int32) (hQ : ∀ I', fB I I' → Q (some (.int (q_coax η ρ v n w))) (mHh xL I' J (mRf rc rx rr))) : WP (d + 10) 221 0 [.ref 180, .int v, .int n, .int w, mDum] [] (mHh xL I J (mRf rc rx rr)) Q := by
  have hn5 := hb.1.1
  have ho := hb.2.2.2.1
  have e9 : (decide ((0 : Int32) ≤ w) && decide (w ≤ 2)) = sW w 0 2 := rfl
  have et : (10000 : Int32) = nI 10000 := rfl
  have eh : (100 : Int32) = nI 100 := rfl
  simp only [w221_0, w221_1, c203, ↓reduceIte, Option.toList_some, Option.toList_none, List.cons_append, List.nil_append, Int32.reduceAdd, Int32.reduceLT, Int32.reduceLE, Int32.reduceToNatClampNeg, w221_4, q_coax] at hQ ⊢
  by_cases hv : isM v = true
  · by_cases h : sW n 0 60 = true
    · by_cases h' : sW w 0 2 = true
      · rw [hv, h, h'] at hQ
        simp only [sB_t hv, o01, ↓reduceIte, w221_7, w221_8, c215, sB_t h, ↓reduceIte, Option.toList_some, Option.toList_none, List.cons_append, List.nil_append, Int32.reduceAdd, Int32.reduceLT, Int32.reduceLE, Int32.reduceToNatClampNeg, w221_11, w221_14, w221_15, w221_16, w221_17, c170, e9, sB_t h', w221_20, w221_25, w221_26, w221_27, w221_28, Bool.and_self] at hQ ⊢
        obtain ⟨n, -, hn, rfl⟩ := (sW_iff (a := 0) (b := 60) rfl rfl).1 h
        have ec : (nI n).toNatClampNeg = n := nI_clamp (by omega)
        rw [ec] at hQ
        refine c222 hb v hn ?_
        intro I1 f1
        have hF := hQ I1 f1
        simp only [↓reduceIte, Option.toList_some, Option.toList_none, List.cons_append, List.nil_append, Int32.reduceAdd, Int32.reduceLT, Int32.reduceLE, Int32.reduceToNatClampNeg, w221_31, w221_33, w221_35]
        cases hx : foN (cxB η ρ v n) 21 0 with
        | none =>
          rw [hx] at hF
          have g1 : ¬ ((0 : Int32) ≤ -2) := by decide
          simp only [fin2N, g1, ↓reduceIte, w221_38, w221_40]
          exact hF
        | some c =>
          rw [hx] at hF
          obtain ⟨y, -, hy, hx2⟩ := foN_some _ _ hx
          obtain ⟨p, -, hp, hx3⟩ := foN_some _ _ hx2
          rw [cxI, Option.map_eq_some_iff] at hx3
          obtain ⟨x, hx4, hx5⟩ := hx3
          have x20 := cxd_le (rt_ok ho (show p < 5 by omega)).1 hx4
          have hc : c < 2 ^ 31 := by omega
          have g1 : (0 : Int32) ≤ nI c := nI_pos' hc
          have n10 : ¬ nI 10000 = 0 := by decide
          have n1h : ¬ nI 100 = 0 := by decide
          have d1 : nI c / nI 10000 = nI (c / 10000) := pk_div hc (by decide) (by decide)
          have d2 : nI c / nI 100 = nI (c / 100) := pk_div hc (by decide) (by decide)
          have d3 : nI (c / 100) - nI (c / 100) / nI 100 * nI 100 = nI (c / 100 % 100) := pk_rem (by omega) (by decide) (by decide)
          have d4 : nI c - nI c / nI 100 * nI 100 = nI (c % 100) := pk_rem hc (by decide) (by decide)
          have o21 : ((2 : Int32) = 1) = False := by simp
          have o20 : ((2 : Int32) = 0) = False := by simp
          obtain ⟨w, -, hw, rfl⟩ := (sW_iff (a := 0) (b := 2) rfl rfl).1 h'
          have hw3 : w = 0 ∨ w = 1 ∨ w = 2 := by omega
          have z0 : nI 0 = 0 := rfl
          have z1 : nI 1 = 1 := rfl
          have z2 : nI 2 = 2 := rfl
          simp only [fin2N, g1, ↓reduceIte, w221_41, w221_42]
          rcases hw3 with rfl | rfl | rfl
          · rw [z0] at hF ⊢
            simp only [↓reduceIte, w221_45, w221_47, w221_50, w221_51, w221_75] at hF ⊢
            rw [et, d1]
            exact hF
          · rw [z1] at hF ⊢
            simp only [o01, ↓reduceIte, w221_54, w221_55, w221_56, w221_59, w221_61, w221_63, w221_64, w221_66, w221_67, w221_75] at hF ⊢
            rw [eh, d2, d3]
            exact hF
          · rw [z2] at hF ⊢
            simp only [o20, o21, ↓reduceIte, w221_54, w221_55, w221_56, w221_70, w221_72, w221_74, w221_75] at hF ⊢
            rw [eh, d4]
            exact hF
      · have h2 : sW w 0 2 = false := by simpa using h'
        rw [h2, Bool.and_false, Bool.and_false] at hQ
        simp only [sB_t hv, o01, ↓reduceIte, w221_7, w221_8, c215, sB_t h, ↓reduceIte, Option.toList_some, Option.toList_none, List.cons_append, List.nil_append, Int32.reduceAdd, Int32.reduceLT, Int32.reduceLE, Int32.reduceToNatClampNeg, w221_11, w221_14, w221_15, w221_16, w221_17, c170, e9, sB_f h2, w221_20, w221_23, w221_24]
        exact hQ I fB_0
    · have h2 : sW n 0 60 = false := by simpa using h
      rw [h2, Bool.false_and, Bool.and_false] at hQ
      simp only [sB_t hv, o01, ↓reduceIte, w221_7, w221_8, c215, sB_f h2, ↓reduceIte, Option.toList_some, Option.toList_none, List.cons_append, List.nil_append, Int32.reduceAdd, Int32.reduceLT, Int32.reduceLE, Int32.reduceToNatClampNeg, w221_11, w221_23, w221_24]
      exact hQ I fB_0
  · have h2 : isM v = false := by simpa using hv
    rw [h2, Bool.false_and] at hQ
    simp only [sB_f h2, ↓reduceIte, w221_23, w221_24]
    exact hQ I fB_0
end QRR
