/-! Queries: the mark, a mark and a mood in hours to come, what one is worth. -/
def fQ (I I' : Nat → Nat → Int32) : Prop := ∀ a, ¬ ((38 ≤ a ∧ a ≤ 40) ∨ (148 ≤ a ∧ a ≤ 162) ∨ (165 ≤ a ∧ a ≤ 173)) → I' a = I a
theorem fQ_t {I I1 I2 : Nat → Nat → Int32} (h1 : fQ I I1) (h2 : fQ I1 I2) : fQ I I2 := fun a x => by rw [h2 a x, h1 a x]
theorem fQ_0 {I : Nat → Nat → Int32} : fQ I I := fun _ _ => rfl
theorem fX_q {I I' : Nat → Nat → Int32} (h : fX I I') : fQ I I' := fun a x => h a (by omega) (by omega) (by omega)
theorem fA_q {I I' : Nat → Nat → Int32} (h : fA 165 I I') : fQ I I' := fun a x => h a (by omega) (by omega) (by omega) (by omega) (by omega)
theorem fCp_q {I : Nat → Nat → Int32} {b : Nat} : fQ I (mCp 165 b I) := fun _ x => mCp_o (by omega) (by omega)
/-- what stands for the glass: a house, the row now -/
def xB (I : Nat → Nat → Int32) (o : Nat) (η : mHs) (ρ : Nat → Int32) : Prop := hOk η ∧ mXh I o η ∧ mRw I 163 = ρ ∧ rOk η ρ ∧ ∃ m, m ≤ 2 ^ 29 ∧ ρ 5 = nI m
theorem fQ_B {I I' : Nat → Nat → Int32} {o : Nat} {η : mHs} {ρ : Nat → Int32} (h : fQ I I') (hb : xB I o η ρ) : xB I' o η ρ :=
  ⟨hb.1, mXh_keep (fun b hb => h b (by omega)) hb.2.1, mRw_keep (h 163 (by decide)) (h 164 (by decide)) hb.2.2.1, hb.2.2.2⟩
theorem s163 : mSt 163 := by unfold mSt; decide
theorem s165 : mSt 165 := by unfold mSt; decide
theorem s167 : mSt 167 := by unfold mSt; decide
/-- what stands for the model -/
def zB (I : Nat → Nat → Int32) (s : Nat) (η : mHs) (ρ : Nat → Int32) : Prop := hOk η ∧ mMh I s η ∧ mNw I ρ ∧ rOk η ρ ∧ ∃ m, m ≤ 2 ^ 29 ∧ ρ 5 = nI m
def fB (I I' : Nat → Nat → Int32) : Prop := (∀ a, ¬ (a = 180 ∨ (210 ≤ a ∧ a ≤ 211) ∨ (213 ≤ a ∧ a ≤ 214) ∨ (216 ≤ a ∧ a ≤ 218) ∨ (220 ≤ a ∧ a ≤ 221) ∨ a = 225) → I' a = I a) ∧ ∀ k, k ≠ 48 → k ≠ 51 → k ≠ 52 → I' 180 k = I 180 k
theorem fB_t {I I1 I2 : Nat → Nat → Int32} (h1 : fB I I1) (h2 : fB I1 I2) : fB I I2 := ⟨fun a x => by rw [h2.1 a x, h1.1 a x], fun k x y z => by rw [h2.2 k x y z, h1.2 k x y z]⟩
theorem fB_0 {I : Nat → Nat → Int32} : fB I I := ⟨fun _ _ => rfl, fun _ _ _ _ => rfl⟩
theorem fC_B {I I' : Nat → Nat → Int32} (h : fC I I') : fB I I' := ⟨fun a x => h.1 a (by omega) (by omega) (by omega) (by omega) (by omega), h.2⟩
theorem fH_B {I I' : Nat → Nat → Int32} (h : fH I I') : fB I I' := fC_B (fH_C h)
theorem fM_B {I I' : Nat → Nat → Int32} (h : fM I I') : fB I I' := fH_B (fM_H h)
theorem fB_w {I I' : Nat → Nat → Int32} {w : Nat} {x : Int32} (h : fB I I') : fB I (mU I' 213 w x) := ⟨fun a p => by rw [mU_f (by omega), h.1 a p], fun k x y z => by rw [mU_f (by decide), h.2 k x y z]⟩
theorem fB_h {I I' : Nat → Nat → Int32} {s : Nat} {η : mHs} (h : fB I I') (hh : mMh I s η) : mMh I' s η := mMh_keep (fun a p q => h.1 a (by omega)) (h.2 18 (by decide) (by decide) (by decide)) hh
theorem fB_n {I I' : Nat → Nat → Int32} {ρ : Nat → Int32} (h : fB I I') (hr : mNw I ρ) : mNw I' ρ := mNw_o (h.1 212 (by decide)) hr
theorem fB_B {I I' : Nat → Nat → Int32} {s : Nat} {η : mHs} {ρ : Nat → Int32} (h : fB I I') (hb : zB I s η ρ) : zB I' s η ρ := ⟨hb.1, fB_h h hb.2.1, fB_n h hb.2.2.1, hb.2.2.2⟩
theorem mT5_r {I : Nat → Nat → Int32} {a : Nat} {ρ : Nat → Int32} (h : mRw I a = ρ) : mT5 I a = rS ρ := by
  rw [mT5, rS, mRw_p h (by decide : 0 < 5), mRw_p h (by decide : 1 < 5), mRw_p h (by decide : 2 < 5), mRw_p h (by decide : 3 < 5), mRw_p h (by decide : 4 < 5)]
theorem rU_B {η : mHs} {ρ : Nat → Int32} (ho : rOk η ρ) {w : Nat} (hw : w < η.1) (h5 : η.1 ≤ 5) {n : Nat} (hn : n ≤ 20) : rOk η (rU ρ w (nI n)) := rU_ok ho hw h5 ⟨n, hn, rfl⟩
theorem rU_5 {ρ : Nat → Int32} {w : Nat} {x : Int32} (hw : w < 5) : rU ρ w x 5 = ρ 5 := if_neg (by omega)
def q_markIn (η : mHs) (ρ : Nat → Int32) (v : Int32) : Int32 := if sW v 0 200 then sMrk η (sP η η.2.2.2.2.1 ρ v.toNatClampNeg) else -1
def q_moodIn (η : mHs) (ρ : Nat → Int32) (p v : Int32) : Int32 := if isP η p && sW v 0 200 then sP η η.2.2.2.2.1 ρ v.toNatClampNeg p.toNatClampNeg else -1
def q_worth (η : mHs) (ρ : Nat → Int32) (p v : Int32) : Int32 := if isP η p && sW v 0 60 then rS (sB η ρ v.toNatClampNeg) - rS (sB η (rU ρ p.toNatClampNeg 0) v.toNatClampNeg) else -100000
section QR1
variable {d : Nat} {xL : Nat} {I : Nat → Nat → Int32} {J : Nat → Nat → Int64} {rr : Nat} {Q : Option Value → mHp → Prop} {s o : Nat} {η : mHs} {ρ : Nat → Int32}
theorem c87 (hb : xB I o η ρ) (hQ : ∀ I', fQ I I' → Q (some (.int (sMrk η ρ))) (mHh xL I' J (mRf o o rr))) : WP (d + 4) 87 0 [.ref 7] [] (mHh xL I J (mRf o o rr)) Q := by
  obtain ⟨hk, hh, hr, ho, -⟩ := hb
  simp only [w87_0, w87_1, w87_4, w87_5, w87_8, w87_11]
  refine c4 s163 hk hh hr ho ?_
  intro I1 f1 _
  simp only [↓reduceIte, Option.toList_some, Option.toList_none, List.cons_append, List.nil_append, Int32.reduceAdd, Int32.reduceLT, Int32.reduceLE, Int32.reduceToNatClampNeg, w87_0, w87_1, w87_4, w87_5, w87_8, w87_11]
  exact hQ I1 (fX_q f1)
theorem c187 (hb : zB I s η ρ) {rc rx : Nat} (hQ : ∀ I', fB I I' → Q (some (.int (sMrk η ρ))) (mHh xL I' J (mRf rc rx rr))) : WP (d + 5) 187 0 [.ref 180] [] (mHh xL I J (mRf rc rx rr)) Q := by
  obtain ⟨hk, hh, hn, ho, -⟩ := hb
  simp only [w187_0, w187_1, w187_4, w187_5, w187_8]
  refine c171 hh hn ?_
  intro I1 f1 r1 _ _
  simp only [↓reduceIte, Option.toList_some, Option.toList_none, List.cons_append, List.nil_append, Int32.reduceAdd, Int32.reduceLT, Int32.reduceLE, Int32.reduceToNatClampNeg, w187_0, w187_1, w187_4, w187_5, w187_8]
  refine c172 (fC_h f1 hh) r1 ?_
  intro I2 f2
  simp only [↓reduceIte, Option.toList_some, Option.toList_none, List.cons_append, List.nil_append, Int32.reduceAdd, Int32.reduceLT, Int32.reduceLE, Int32.reduceToNatClampNeg, w187_0, w187_1, w187_4, w187_5, w187_8]
  exact hQ I2 (fB_t (fC_B f1) (fM_B f2))
theorem c123 (hb : xB I o η ρ) (v : Int32) (hQ : ∀ I', fQ I I' → Q (some (.int (q_markIn η ρ v))) (mHh xL I' J (mRf o o rr))) : WP (d + 5) 123 0 [.ref 7, .int v] [] (mHh xL I J (mRf o o rr)) Q := by
  obtain ⟨hk, hh, hr, ho, m, hm, e5⟩ := hb
  simp only [w123_0, w123_1, w123_2, w123_5, w123_8, w123_11, w123_12, w123_13, w123_14, w123_17, w123_18, w123_21, w123_24, w123_25, w123_28, w123_29, w123_32, w123_33, w123_34, w123_37, w123_40, w123_43, c95, ↓reduceIte, Option.toList_some, Option.toList_none, List.cons_append, List.nil_append, Int32.reduceAdd, Int32.reduceLT, Int32.reduceLE, Int32.reduceToNatClampNeg, q_markIn] at hQ ⊢
  by_cases h : sW v 0 200 = true
  · rw [if_pos h] at hQ
    obtain ⟨n, -, hn, rfl⟩ := (sW_iff (a := 0) (b := 200) rfl rfl).1 h
    have ec : (nI n).toNatClampNeg = n := nI_clamp (by omega)
    have e1 : ((1 : Int32) = 0) = False := by simp
    rw [ec] at hQ
    simp only [sB_t h, e1, ↓reduceIte, w123_0, w123_1, w123_2, w123_5, w123_8, w123_11, w123_12, w123_13, w123_14, w123_17, w123_18, w123_21, w123_24, w123_25, w123_28, w123_29, w123_32, w123_33, w123_34, w123_37, w123_40, w123_43, c59 s165 s163, s165, s163, ↓reduceIte, Option.toList_some, Option.toList_none, List.cons_append, List.nil_append, Int32.reduceAdd, Int32.reduceLT, Int32.reduceLE, Int32.reduceToNatClampNeg, hh.1]
    have hh1 : mXh (mCp 165 163 I) o η := mXh_keep (fun b hb => mCp_o (by omega) (by omega)) hh
    have hr1 : mRw (mCp 165 163 I) 165 = ρ := by rw [mRw_cp s165 s163]; exact hr
    have es : mCp 165 163 I o 15 = η.2.2.2.2.1 := hh1.2.2.2.2.1
    simp only [es]
    refine c15 s165 hk hh1 hr1 ho _ e5 (by omega) ?_
    intro I2 f2 r2
    simp only [↓reduceIte, Option.toList_some, Option.toList_none, List.cons_append, List.nil_append, Int32.reduceAdd, Int32.reduceLT, Int32.reduceLE, Int32.reduceToNatClampNeg, w123_0, w123_1, w123_2, w123_5, w123_8, w123_11, w123_12, w123_13, w123_14, w123_17, w123_18, w123_21, w123_24, w123_25, w123_28, w123_29, w123_32, w123_33, w123_34, w123_37, w123_40, w123_43]
    exact hQ I2 (fQ_t fCp_q (fA_q f2))
  · rw [if_neg h] at hQ
    have h' : sW v 0 200 = false := by simpa using h
    simp only [sB_f h', ↓reduceIte, w123_0, w123_1, w123_2, w123_5, w123_8, w123_11, w123_12, w123_13, w123_14, w123_17, w123_18, w123_21, w123_24, w123_25, w123_28, w123_29, w123_32, w123_33, w123_34, w123_37, w123_40, w123_43]
    exact hQ I fQ_0
theorem c242 (hb : zB I s η ρ) {rc rx : Nat} (v : Int32) (hQ : ∀ I', fB I I' → Q (some (.int (q_markIn η ρ v))) (mHh xL I' J (mRf rc rx rr))) : WP (d + 8) 242 0 [.ref 180, .int v] [] (mHh xL I J (mRf rc rx rr)) Q := by
  obtain ⟨hk, hh, hn, ho, m, hm, e5⟩ := hb
  simp only [w242_0, w242_1, w242_4, w242_7, w242_8, w242_9, w242_10, w242_13, w242_14, w242_15, w242_18, c195, ↓reduceIte, Option.toList_some, Option.toList_none, List.cons_append, List.nil_append, Int32.reduceAdd, Int32.reduceLT, Int32.reduceLE, Int32.reduceToNatClampNeg, q_markIn] at hQ ⊢
  by_cases h : sW v 0 200 = true
  · rw [if_pos h] at hQ
    obtain ⟨n, -, hn', rfl⟩ := (sW_iff (a := 0) (b := 200) rfl rfl).1 h
    have ec : (nI n).toNatClampNeg = n := nI_clamp (by omega)
    have e1 : ((1 : Int32) = 0) = False := by simp
    rw [ec] at hQ
    simp only [sB_t h, e1, ↓reduceIte, w242_0, w242_1, w242_4, w242_7, w242_8, w242_9, w242_10, w242_13, w242_14, w242_15, w242_18]
    refine c171 hh hn ?_
    intro I1 f1 r1 l1 l2
    simp only [↓reduceIte, Option.toList_some, Option.toList_none, List.cons_append, List.nil_append, Int32.reduceAdd, Int32.reduceLT, Int32.reduceLE, Int32.reduceToNatClampNeg, w242_0, w242_1, w242_4, w242_7, w242_8, w242_9, w242_10, w242_13, w242_14, w242_15, w242_18]
    refine c216n (fC_h f1 hh) hk r1 ho l2 l1 e5 (by omega) ?_
    intro I2 f2 r2
    simp only [↓reduceIte, Option.toList_some, Option.toList_none, List.cons_append, List.nil_append, Int32.reduceAdd, Int32.reduceLT, Int32.reduceLE, Int32.reduceToNatClampNeg, w242_0, w242_1, w242_4, w242_7, w242_8, w242_9, w242_10, w242_13, w242_14, w242_15, w242_18]
    exact hQ I2 (fB_t (fC_B f1) (fH_B f2))
  · rw [if_neg h] at hQ
    have h' : sW v 0 200 = false := by simpa using h
    simp only [sB_f h', ↓reduceIte, w242_0, w242_1, w242_4, w242_7, w242_8, w242_9, w242_10, w242_13, w242_14, w242_15, w242_18]
    exact hQ I fB_0
theorem c124 (hb : xB I o η ρ) (p v : Int32) (hQ : ∀ I', fQ I I' → Q (some (.int (q_moodIn η ρ p v))) (mHh xL I' J (mRf o o rr))) : WP (d + 5) 124 0 [.ref 7, .int p, .int v] [] (mHh xL I J (mRf o o rr)) Q := by
  obtain ⟨hk, hh, hr, ho, m, hm, e5⟩ := hb
  have e1 : ((1 : Int32) = 0) = False := by simp
  have hn5 := hk.1
  simp only [w124_0, w124_1, w124_2, c83 hh, ↓reduceIte, Option.toList_some, Option.toList_none, List.cons_append, List.nil_append, Int32.reduceAdd, Int32.reduceLT, Int32.reduceLE, Int32.reduceToNatClampNeg, w124_5, q_moodIn] at hQ ⊢
  by_cases hp : isP η p = true
  · by_cases h : sW v 0 200 = true
    · rw [hp, h] at hQ
      obtain ⟨n, -, hn, rfl⟩ := (sW_iff (a := 0) (b := 200) rfl rfl).1 h
      obtain ⟨q, hq, rfl⟩ := (isP_iff hk).1 hp
      have ec : (nI n).toNatClampNeg = n := nI_clamp (by omega)
      have eq : (nI q).toNatClampNeg = q := nI_clamp (by omega)
      have e2 : mIn (nI q) 5 = true := mIn_nI (by omega) (by omega)
      rw [ec, eq] at hQ
      obtain ⟨-, -, k3, k4, -⟩ := st_k s165
      simp only [sB_t hp, sB_t h, e1, ↓reduceIte, w124_0, w124_1, w124_2, w124_5, w124_8, w124_9, w124_10, w124_13, w124_16, w124_19, w124_20, w124_21, w124_22, w124_25, w124_26, w124_29, w124_32, w124_33, w124_36, w124_37, w124_40, w124_41, w124_42, w124_45, w124_48, w124_51, w124_52, w124_53, w124_56, w124_59, w124_60, w124_61, c95, c59 s165 s163, s165, s163, ↓reduceIte, Option.toList_some, Option.toList_none, List.cons_append, List.nil_append, Int32.reduceAdd, Int32.reduceLT, Int32.reduceLE, Int32.reduceToNatClampNeg, hh.1]
      have hh1 : mXh (mCp 165 163 I) o η := mXh_keep (fun b hb => mCp_o (by omega) (by omega)) hh
      have hr1 : mRw (mCp 165 163 I) 165 = ρ := by rw [mRw_cp s165 s163]; exact hr
      have es : mCp 165 163 I o 15 = η.2.2.2.2.1 := hh1.2.2.2.2.1
      simp only [es]
      refine c15 s165 hk hh1 hr1 ho _ e5 (by omega) ?_
      intro I2 f2 r2
      simp only [↓reduceIte, Option.toList_some, Option.toList_none, List.cons_append, List.nil_append, Int32.reduceAdd, Int32.reduceLT, Int32.reduceLE, Int32.reduceToNatClampNeg, w124_0, w124_1, w124_2, w124_5, w124_8, w124_9, w124_10, w124_13, w124_16, w124_19, w124_20, w124_21, w124_22, w124_25, w124_26, w124_29, w124_32, w124_33, w124_36, w124_37, w124_40, w124_41, w124_42, w124_45, w124_48, w124_51, w124_52, w124_53, w124_56, w124_59, w124_60, w124_61, s165, k3, k4, e2, eq, mRw_p r2 (show q < 5 by omega)]
      exact hQ I2 (fQ_t fCp_q (fA_q f2))
    · have h' : sW v 0 200 = false := by simpa using h
      rw [h', Bool.and_false] at hQ
      simp only [sB_t hp, sB_f h', e1, ↓reduceIte, w124_0, w124_1, w124_2, w124_5, w124_8, w124_9, w124_10, w124_13, w124_16, w124_19, w124_20, w124_21, w124_22, w124_25, w124_26, w124_29, w124_32, w124_33, w124_36, w124_37, w124_40, w124_41, w124_42, w124_45, w124_48, w124_51, w124_52, w124_53, w124_56, w124_59, w124_60, w124_61, c95, ↓reduceIte, Option.toList_some, Option.toList_none, List.cons_append, List.nil_append, Int32.reduceAdd, Int32.reduceLT, Int32.reduceLE, Int32.reduceToNatClampNeg]
      exact hQ I fQ_0
  · have h' : isP η p = false := by simpa using hp
    rw [h', Bool.false_and] at hQ
    simp only [sB_f h', ↓reduceIte, w124_0, w124_1, w124_2, w124_5, w124_8, w124_9, w124_10, w124_13, w124_16, w124_19, w124_20, w124_21, w124_22, w124_25, w124_26, w124_29, w124_32, w124_33, w124_36, w124_37, w124_40, w124_41, w124_42, w124_45, w124_48, w124_51, w124_52, w124_53, w124_56, w124_59, w124_60, w124_61]
    exact hQ I fQ_0
theorem c243 (hb : zB I s η ρ) {rc rx : Nat} (p v : Int32) (hQ : ∀ I', fB I I' → Q (some (.int (q_moodIn η ρ p v))) (mHh xL I' J (mRf rc rx rr))) : WP (d + 8) 243 0 [.ref 180, .int p, .int v] [] (mHh xL I J (mRf rc rx rr)) Q := by
  obtain ⟨hk, hh, hn, ho, m, hm, e5⟩ := hb
  have e1 : ((1 : Int32) = 0) = False := by simp
  have hn5 := hk.1
  simp only [w243_0, w243_1, w243_2, c169 hh hk, ↓reduceIte, Option.toList_some, Option.toList_none, List.cons_append, List.nil_append, Int32.reduceAdd, Int32.reduceLT, Int32.reduceLE, Int32.reduceToNatClampNeg, w243_5, q_moodIn] at hQ ⊢
  by_cases hp : isP η p = true
  · by_cases h : sW v 0 200 = true
    · rw [hp, h] at hQ
      obtain ⟨n, -, hn', rfl⟩ := (sW_iff (a := 0) (b := 200) rfl rfl).1 h
      obtain ⟨q, hq, rfl⟩ := (isP_iff hk).1 hp
      have ec : (nI n).toNatClampNeg = n := nI_clamp (by omega)
      have eq : (nI q).toNatClampNeg = q := nI_clamp (by omega)
      have e2 : mIn (nI q) 8 = true := mIn_nI (by omega) (by omega)
      rw [ec, eq] at hQ
      simp only [sB_t hp, sB_t h, e1, ↓reduceIte, w243_0, w243_1, w243_2, w243_5, w243_8, w243_9, w243_12, w243_15, w243_16, w243_17, w243_18, w243_21, w243_22, w243_23, w243_26, w243_27, w243_30, w243_31, w243_32, c195, ↓reduceIte, Option.toList_some, Option.toList_none, List.cons_append, List.nil_append, Int32.reduceAdd, Int32.reduceLT, Int32.reduceLE, Int32.reduceToNatClampNeg]
      refine c171 hh hn ?_
      intro I1 f1 r1 l1 l2
      simp only [↓reduceIte, Option.toList_some, Option.toList_none, List.cons_append, List.nil_append, Int32.reduceAdd, Int32.reduceLT, Int32.reduceLE, Int32.reduceToNatClampNeg, w243_0, w243_1, w243_2, w243_5, w243_8, w243_9, w243_12, w243_15, w243_16, w243_17, w243_18, w243_21, w243_22, w243_23, w243_26, w243_27, w243_30, w243_31, w243_32]
      refine c196n (fC_h f1 hh) hk r1 ho l2 l1 e5 (by omega) ?_
      intro I2 f2 r2
      simp only [↓reduceIte, Option.toList_some, Option.toList_none, List.cons_append, List.nil_append, Int32.reduceAdd, Int32.reduceLT, Int32.reduceLE, Int32.reduceToNatClampNeg, w243_0, w243_1, w243_2, w243_5, w243_8, w243_9, w243_12, w243_15, w243_16, w243_17, w243_18, w243_21, w243_22, w243_23, w243_26, w243_27, w243_30, w243_31, w243_32, e2, eq, mRr_at r2 (show q < 8 by omega)]
      exact hQ I2 (fB_t (fC_B f1) (fH_B f2))
    · have h' : sW v 0 200 = false := by simpa using h
      rw [h', Bool.and_false] at hQ
      simp only [sB_t hp, sB_f h', e1, ↓reduceIte, w243_0, w243_1, w243_2, w243_5, w243_8, w243_9, w243_12, w243_15, w243_16, w243_17, w243_18, w243_21, w243_22, w243_23, w243_26, w243_27, w243_30, w243_31, w243_32, c195, ↓reduceIte, Option.toList_some, Option.toList_none, List.cons_append, List.nil_append, Int32.reduceAdd, Int32.reduceLT, Int32.reduceLE, Int32.reduceToNatClampNeg]
      exact hQ I fB_0
  · have h' : isP η p = false := by simpa using hp
    rw [h', Bool.false_and] at hQ
    simp only [sB_f h', ↓reduceIte, w243_0, w243_1, w243_2, w243_5, w243_8, w243_9, w243_12, w243_15, w243_16, w243_17, w243_18, w243_21, w243_22, w243_23, w243_26, w243_27, w243_30, w243_31, w243_32]
    exact hQ I fB_0
end QR1
