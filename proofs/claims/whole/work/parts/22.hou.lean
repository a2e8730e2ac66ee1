/-! What changes and drifts tell, what is done, an hour. -/
def sIn (η : mHs) (v : Int32) (i : Nat) : Bool := decide (hT η 3 i ≤ v) && decide (v ≤ hT η 4 i)
def pD (η : mHs) (v : Int32) : Nat → Int32
  | 0 => 0
  | k + 1 => if sIn η v k then pD η v k ||| (1 <<< (nI k &&& 31)) else pD η v k
def sDn (η : mHs) (ρ : Nat → Int32) (v : Int32) : Int32 := pD η v η.2.1 &&& (ρ 7 ^^^ (-1))
def fY (I I' : Nat → Nat → Int32) : Prop := ∀ b, b ≠ 38 → b ≠ 39 → I' b = I b
theorem fY_x {I I' : Nat → Nat → Int32} (h : fY I I') : fX I I' := fun b x y _ => h b x y
section HOU
variable {d : Nat} {xL : Nat} {I : Nat → Nat → Int32} {J : Nat → Nat → Int64} {rc rx rr : Nat} {Q : Option Value → mHp → Prop} {a o : Nat} {η : mHs} {ρ : Nat → Int32}
theorem c9 (ha : mSt a) (hk : hOk η) (hh : mXh I rc η) (hr : mRw I a = ρ) (hs : mSee I ρ) {p : Nat} (hp : p < η.1) (v : Int32) (hQ : ∀ I' : Nat → Nat → Int32, fY I I' → mSee I' ρ → Q (some (.int (sDft η ρ p v))) (mHh xL I' J (mRf rc rx rr))) :
    WP (d + 2) 9 0 [.ref 37, .ref a, .int (nI p), .int v] [] (mHh xL I J (mRf rc rx rr)) Q := by
  have hHo := hh.1
  have hn := hk.1
  obtain ⟨-, -, l2, -⟩ := mHo_la hHo
  obtain ⟨-, -, k3, k4, -⟩ := st_k ha
  obtain ⟨-, -, k5, -, -, -, -, -, -, -, k6, -⟩ := mHo_k hHo
  have big := st_big ha
  have h1 : mIn (nI p) 5 = true := mIn_nI (by omega) (by omega)
  have h2 : (nI p).toNatClampNeg = p := nI_clamp (by omega)
  have h3 : I (a + 1) p = ρ p := mRw_p hr (by omega)
  have h4 : I (rc + 3) p = hT η 1 p := (hh.2.2.2.2.2.1 p hp).2
  have n1 : rc + 3 ≠ 38 := by rcases hHo with rfl | rfl <;> decide
  simp only [w9_0, w9_1, w9_4, w9_5, w9_6, ha, w9_9, w9_10, k3, k4, h1, h2, h3, w9_11, w9_12, w9_13, w9_16, w9_17, w9_18, w9_21, hHo, w9_24, w9_25, k5, k6, mU_a n1, h4, w9_26, w9_27, w9_28, w9_31, w9_32, w9_33, w9_34, w9_35, w9_38, w9_40, w9_41, w9_42, w9_43, w9_44, w9_47, w9_50]
  obtain ⟨s1, s2, s3, s4⟩ := hs
  have f0 : fY I (mU (mU (mU (mU I 38 1 (ρ p)) 38 2 (hT η 1 p)) 38 3 v) 38 6 (nI p)) := fun b h8 _ => by rw [mU_f h8, mU_f h8, mU_f h8, mU_f h8]
  refine c7 l2 (V := fun i => if i = 1 then ρ p else if i = 2 then hT η 1 p else if i = 3 then v else if i = 6 then nI p else rV ρ i) (rV_2 ρ _ _ _ _) (hh_l (fX_h (fY_x f0) hh)).2.2.1 (i9 (fun _ => ?_) (fun _ => ?_) (fun _ => ?_) (fun _ => ?_) (fun _ => ?_) (fun _ => ?_) (fun _ => ?_) (fun z => absurd z (by decide)) (fun _ => ?_)) ?_
  · simp only [mU_e]; rw [if_neg (by decide), if_neg (by decide), if_neg (by decide), if_neg (by decide), if_neg (by decide), if_neg (by decide), if_neg (by decide), if_neg (by decide), rV0]; exact s1
  · simp only [mU_e]; rw [if_neg (by decide), if_neg (by decide), if_neg (by decide), if_pos (by decide), if_pos trivial]
  · simp only [mU_e]; rw [if_neg (by decide), if_neg (by decide), if_pos (by decide), if_neg (by decide), if_pos trivial]
  · simp only [mU_e]; rw [if_neg (by decide), if_pos (by decide), if_neg (by decide), if_neg (by decide), if_pos trivial]
  · simp only [mU_e]; rw [if_neg (by decide), if_neg (by decide), if_neg (by decide), if_neg (by decide), if_neg (by decide), if_neg (by decide), if_neg (by decide), if_neg (by decide), rV4]; exact s3
  · simp only [mU_e]; rw [if_neg (by decide), if_neg (by decide), if_neg (by decide), if_neg (by decide), if_neg (by decide), if_neg (by decide), if_neg (by decide), if_neg (by decide), rV5]; exact s4
  · simp only [mU_e]; rw [if_pos (by decide), if_neg (by decide), if_neg (by decide), if_neg (by decide), if_pos trivial]
  · simp only [mU_e]; rw [if_neg (by decide), if_neg (by decide), if_neg (by decide), if_neg (by decide), if_neg (by decide), if_neg (by decide), if_neg (by decide), if_neg (by decide), rV8]; exact s2
  intro I2 f2
  simp only [↓reduceIte, Option.toList_some, Option.toList_none, List.cons_append, List.nil_append, Int32.reduceAdd, Int32.reduceLT, Int32.reduceLE, Int32.reduceToNatClampNeg, w9_53, w9_55, c8, w9_58]
  refine hQ I2 (fun b h8 h9 => by rw [f2 b h9, f0 b h8 h9]) ?_
  refine ⟨?_, ?_, ?_, ?_⟩ <;> rw [f2 38 (by decide), mU_k (by decide), mU_k (by decide), mU_k (by decide), mU_k (by decide)] <;> assumption
theorem c11 (ha : mSt a) (hk : hOk η) (hh : mXh I rc η) (hr : mRw I a = ρ) (hs : mSee I ρ) {i : Nat} (hi : i < η.2.1) (v : Int32) (hQ : ∀ I' : Nat → Nat → Int32, fY I I' → mSee I' ρ → Q (some (.int (sChg η ρ i v))) (mHh xL I' J (mRf rc rx rr))) :
    WP (d + 2) 11 0 [.ref 37, .ref a, .int (nI i), .int v, mDum] [] (mHh xL I J (mRf rc rx rr)) Q := by
  have hHo := hh.1
  have hn := hk.1
  have hn2 := hk.2.1
  obtain ⟨w, hw, ew⟩ := hk.2.2.2.1 i hi
  obtain ⟨-, l1, -, -⟩ := mHo_la hHo
  obtain ⟨-, -, k3, k4, -⟩ := st_k ha
  obtain ⟨-, -, k5, -, k7, -, -, k9, -, -, k6, -, k8, -, -, k10⟩ := mHo_k hHo
  have big := st_big ha
  have h1 : mIn (nI i) 6 = true := mIn_nI (by omega) (by omega)
  have h2 : (nI i).toNatClampNeg = i := nI_clamp (by omega)
  have h1' : mIn (nI w) 5 = true := mIn_nI (by omega) (by omega)
  have h2' : (nI w).toNatClampNeg = w := nI_clamp (by omega)
  have h3 : I (a + 1) w = ρ w := mRw_p hr (by omega)
  have h4 : I (rc + 3) w = hT η 1 w := (hh.2.2.2.2.2.1 w hw).2
  have h5 : I (rc + 5) i = nI w := by rw [← ew]; exact (hh.2.2.2.2.2.2.1 i hi).1
  have h6 : I (rc + 8) i = hT η 5 i := (hh.2.2.2.2.2.2.1 i hi).2.2.2
  have h7 : ¬ nI w < 0 := nI_pos (by omega)
  have h8 : nI w < 5 := by rw [in_lt 5 (by decide) (by omega)]; omega
  have n1 : rc + 3 ≠ 38 := by rcases hHo with rfl | rfl <;> decide
  have n2 : rc + 8 ≠ 38 := by rcases hHo with rfl | rfl <;> decide
  simp only [w11_0, w11_1, w11_4, hHo, w11_7, w11_8, k7, k8, h1, h2, h5, w11_9, w11_11, w11_13, h7, ↓reduceIte, w11_16, w11_18, w11_19, h8, w11_24, w11_25, w11_28, w11_29, w11_30, ha, w11_33, w11_35, k3, k4, h1', h2', h3, w11_36, w11_37, w11_38, w11_41, w11_42, w11_43, w11_46, w11_49, w11_51, k5, k6, mU_a n1, h4, w11_52, w11_53, w11_54, w11_57, w11_58, w11_59, w11_60, w11_61, w11_64, w11_66, w11_67, w11_70, w11_73, w11_74, k9, k10, mU_a n2, h6, w11_75, w11_76, w11_77, w11_80, w11_82, w11_83, w11_84, w11_85, w11_86, w11_89, w11_92]
  obtain ⟨s1, s2, s3, s4⟩ := hs
  have f0 : fY I (mU (mU (mU (mU (mU I 38 1 (ρ w)) 38 2 (hT η 1 w)) 38 3 v) 38 7 (hT η 5 i)) 38 6 (nI i)) := fun b h8 _ => by rw [mU_f h8, mU_f h8, mU_f h8, mU_f h8, mU_f h8]
  have eV : sChg η ρ i v = sHd (sL η 1 (fun j => if j = 1 then ρ w else if j = 2 then hT η 1 w else if j = 3 then v else if j = 6 then nI i else if j = 7 then hT η 5 i else rV ρ j)) 20 := by
    rw [sChg, ew, h2']
  refine c7 l1 (V := fun j => if j = 1 then ρ w else if j = 2 then hT η 1 w else if j = 3 then v else if j = 6 then nI i else if j = 7 then hT η 5 i else rV ρ j) (rV_1 ρ _ _ _ _ _) (hh_l (fX_h (fY_x f0) hh)).2.1 (i9 (fun _ => ?_) (fun _ => ?_) (fun _ => ?_) (fun _ => ?_) (fun _ => ?_) (fun _ => ?_) (fun _ => ?_) (fun _ => ?_) (fun _ => ?_)) ?_
  · simp only [mU_e]; rw [if_neg (by decide), if_neg (by decide), if_neg (by decide), if_neg (by decide), if_neg (by decide), if_neg (by decide), if_neg (by decide), if_neg (by decide), if_neg (by decide), if_neg (by decide), rV0]; exact s1
  · simp only [mU_e]; rw [if_neg (by decide), if_neg (by decide), if_neg (by decide), if_neg (by decide), if_pos (by decide), if_pos trivial]
  · simp only [mU_e]; rw [if_neg (by decide), if_neg (by decide), if_neg (by decide), if_pos (by decide), if_neg (by decide), if_pos trivial]
  · simp only [mU_e]; rw [if_neg (by decide), if_neg (by decide), if_pos (by decide), if_neg (by decide), if_neg (by decide), if_pos trivial]
  · simp only [mU_e]; rw [if_neg (by decide), if_neg (by decide), if_neg (by decide), if_neg (by decide), if_neg (by decide), if_neg (by decide), if_neg (by decide), if_neg (by decide), if_neg (by decide), if_neg (by decide), rV4]; exact s3
  · simp only [mU_e]; rw [if_neg (by decide), if_neg (by decide), if_neg (by decide), if_neg (by decide), if_neg (by decide), if_neg (by decide), if_neg (by decide), if_neg (by decide), if_neg (by decide), if_neg (by decide), rV5]; exact s4
  · simp only [mU_e]; rw [if_pos (by decide), if_neg (by decide), if_neg (by decide), if_neg (by decide), if_pos trivial]
  · simp only [mU_e]; rw [if_neg (by decide), if_pos (by decide), if_neg (by decide), if_neg (by decide), if_neg (by decide), if_neg (by decide), if_pos trivial]
  · simp only [mU_e]; rw [if_neg (by decide), if_neg (by decide), if_neg (by decide), if_neg (by decide), if_neg (by decide), if_neg (by decide), if_neg (by decide), if_neg (by decide), if_neg (by decide), if_neg (by decide), rV8]; exact s2
  intro I2 f2
  simp only [↓reduceIte, Option.toList_some, Option.toList_none, List.cons_append, List.nil_append, Int32.reduceAdd, Int32.reduceLT, Int32.reduceLE, Int32.reduceToNatClampNeg, w11_95, w11_97, c8, w11_100]
  rw [eV] at hQ
  refine hQ I2 (fun b h8 h9 => by rw [f2 b h9, f0 b h8 h9]) ?_
  refine ⟨?_, ?_, ?_, ?_⟩ <;> rw [f2 38 (by decide), mU_k (by decide), mU_k (by decide), mU_k (by decide), mU_k (by decide), mU_k (by decide)] <;> assumption
theorem c10 (ha : mSt a) (hk : hOk η) (hh : mXh I rc η) (hr : mRw I a = ρ) (v : Int32) :
    WP d 10 0 [.ref 37, .ref a, .int v, mDum, mDum] [] (mHh xL I J (mRf rc rx rr)) Q = Q (some (.int (sDn η ρ v))) (mHh xL I J (mRf rc rx rr)) := by
  have hHo := hh.1
  have hn := hk.2.1
  have hP := hh.2.2.1
  obtain ⟨-, -, -, -, -, k1, k2, -, -, -, -, -, -, k3, k4, -⟩ := mHo_k hHo
  obtain ⟨-, -, r7⟩ := mRw_5 hr
  simp only [w10_0, w10_1, w10_2, w10_3]
  have key : ∀ k, k ≤ η.2.1 → WP d 10 5 [.ref 37, .ref a, .int v, .int (pD η v k), .int (nI k)] [] (mHh xL I J (mRf rc rx rr)) Q = Q (some (.int (sDn η ρ v))) (mHh xL I J (mRf rc rx rr)) := by
    refine iter_dn ?_ ?_
    · intro k hk1 ih
      have h1 : ¬ nI η.2.1 ≤ nI k := nI_ge hk1 (by omega)
      have h2 : mIn (nI k) 6 = true := mIn_nI (by omega) (by omega)
      have h3 : (nI k).toNatClampNeg = k := nI_clamp (by omega)
      obtain ⟨-, t1, t2, -⟩ := hh.2.2.2.2.2.2.1 k hk1
      simp only [w10_5, w10_7, w10_8, w10_11, hHo, hP, w10_14, h1, ↓reduceIte, w10_17, w10_18, w10_21, w10_24, w10_26, k1, k2, k3, k4, h2, h3, t1, t2, w10_27, w10_28]
      rw [← ih, pD]
      by_cases h5 : hT η 3 k ≤ v
      · have h6 : ¬ v < hT η 3 k := by rw [Int32.lt_iff_toInt_lt]; rw [Int32.le_iff_toInt_le] at h5; omega
        simp only [h6, ↓reduceIte, w10_31, w10_32, w10_33, w10_36, hHo, w10_39, w10_41, k1, k2, k3, k4, h2, h3, t2, w10_42]
        by_cases h7 : v ≤ hT η 4 k
        · have h8 : ¬ hT η 4 k < v := by rw [Int32.lt_iff_toInt_lt]; rw [Int32.le_iff_toInt_le] at h7; omega
          have e : sIn η v k = true := by rw [sIn, decide_eq_true h5, decide_eq_true h7]; rfl
          simp only [h8, ↓reduceIte, e, w10_45, w10_46, w10_47, w10_49, w10_50, w10_51, w10_52, w10_55, nI_1]
        · have h8 : hT η 4 k < v := by rw [Int32.lt_iff_toInt_lt]; rw [Int32.le_iff_toInt_le] at h7; omega
          have e : sIn η v k = false := by rw [sIn, decide_eq_false h7, Bool.and_false]
          simp only [h8, ↓reduceIte, e, Bool.false_eq_true, w10_52, w10_55, nI_1]
      · have h6 : v < hT η 3 k := by rw [Int32.lt_iff_toInt_lt]; rw [Int32.le_iff_toInt_le] at h5; omega
        have e : sIn η v k = false := by rw [sIn, decide_eq_false h5, Bool.false_and]
        simp only [h6, ↓reduceIte, e, Bool.false_eq_true, w10_52, w10_55, nI_1]
    · have h1 : nI η.2.1 ≤ nI η.2.1 := nI_le (Nat.le_refl _) (by omega)
      simp only [w10_5, w10_7, w10_8, w10_11, hHo, hP, w10_14, h1, ↓reduceIte, w10_58, w10_59, w10_60, ha, w10_63, w10_64, w10_65, w10_66, r7, sDn]
  exact key 0 (by omega)
theorem bB1 : ∀ n, n < 64 → ∀ k, k < 6 → ((nI n >>> (nI k &&& 31)) &&& 1) = nI (n.testBit k).toNat := by decide +kernel
theorem bB2 : ∀ n, n < 64 → ∀ f, f < 64 → nI n &&& (nI f ^^^ (-1)) = nI (n &&& (63 ^^^ f)) := by decide +kernel
theorem bB3 : ∀ n, n < 64 → ∀ k, k < 6 → nI n ||| (1 <<< (nI k &&& 31)) = nI (n ||| 2 ^ k) := by decide +kernel
def pN (η : mHs) (v : Int32) : Nat → Nat
  | 0 => 0
  | k + 1 => if sIn η v k then pN η v k ||| 2 ^ k else pN η v k
theorem pN_lt (η : mHs) (v : Int32) : ∀ k, pN η v k < 2 ^ k := by
  intro k
  induction k with
  | zero => exact (by decide : 0 < 2 ^ 0)
  | succ k ih =>
    have h2 : 2 ^ (k + 1) = 2 * 2 ^ k := by rw [Nat.pow_succ, Nat.mul_comm]
    rw [pN]; split
    · exact Nat.or_lt_two_pow (by omega) (by have := Nat.two_pow_pos k; omega)
    · omega
theorem pow6 {k : Nat} (h : k ≤ 6) : 2 ^ k ≤ 64 := by
  have := Nat.pow_le_pow_right (n := 2) (by decide) h
  exact this
theorem pD_nI (η : mHs) (v : Int32) : ∀ k, k ≤ 6 → pD η v k = nI (pN η v k) := by
  intro k
  induction k with
  | zero => intro _; rfl
  | succ k ih =>
    intro hk
    have h1 := pN_lt η v k
    have h2 := pow6 (k := k) (by omega)
    rw [pD, pN, ih (by omega)]
    split
    · rw [bB3 _ (by omega) _ (by omega)]
    · rfl
theorem pN_bit (η : mHs) (v : Int32) : ∀ n k, k < n → (pN η v n).testBit k = sIn η v k := by
  intro n
  induction n with
  | zero => intro k h; omega
  | succ n ih =>
    intro k hk
    rw [pN]
    by_cases h : k = n
    · subst h
      have h1 : (pN η v k).testBit k = false := Nat.testBit_lt_two_pow (pN_lt η v k)
      split
      · rename_i h2
        rw [Nat.testBit_or, h1, Nat.testBit_two_pow_self, h2]; rfl
      · rename_i h2
        rw [h1]; simpa using h2
    · have h1 := ih k (by omega)
      split
      · rw [Nat.testBit_or, h1, Nat.testBit_two_pow_of_ne (fun z => h z.symm), Bool.or_false]
      · exact h1
/-- whether a doing is done -/
def dn (η : mHs) (ρ : Nat → Int32) (v : Int32) (k : Nat) : Bool := sIn η v k && decide (((ρ 7 >>> (nI k &&& 31)) &&& 1) = 0)
theorem dn_bit (hk : hOk η) (ho : rOk η ρ) (v : Int32) {k : Nat} (h : k < η.2.1) : (((sDn η ρ v >>> (nI k &&& 31)) &&& 1) = 1) ↔ dn η ρ v k = true := by
  obtain ⟨f, hf, e7⟩ := ho.2.2.2.2.1
  have hn := hk.2.1
  have h64 := pow6 hn
  have h1 := pN_lt η v η.2.1
  have h2 : pN η v η.2.1 &&& (63 ^^^ f) < 64 := Nat.lt_of_le_of_lt Nat.and_le_left (by omega)
  have hb := pN_bit η v _ _ h
  rw [sDn, dn, e7, pD_nI _ _ _ hn, bB2 _ (by omega) _ (by omega), bB1 _ h2 _ (by omega), bB1 _ (by omega) _ (by omega), Nat.testBit_and, hb, Nat.testBit_xor]
  have h3 : (63 : Nat).testBit k = true := by
    have : k = 0 ∨ k = 1 ∨ k = 2 ∨ k = 3 ∨ k = 4 ∨ k = 5 := by omega
    rcases this with rfl | rfl | rfl | rfl | rfl | rfl <;> decide
  rw [h3]
  cases sIn η v k <;> cases f.testBit k <;> decide
def rU (ρ : Nat → Int32) (w : Nat) (x : Int32) : Nat → Int32 := fun q => if q = w then x else ρ q
/-- the doings, one behind the other -/
def sH1 (η : mHs) (v : Int32) (ρ : Nat → Int32) : Nat → Nat → Int32
  | 0 => ρ
  | k + 1 => if dn η ρ v k then rU (sH1 η v ρ k) (hT η 2 k).toNatClampNeg (sChg η (sH1 η v ρ k) k v) else sH1 η v ρ k
/-- an hour -/
def sHr (η : mHs) (ρ : Nat → Int32) (v : Int32) : Nat → Int32 := fun q => if q < η.1 then sDft η (sH1 η v ρ η.2.1) q v else if q = 5 then ρ 5 + 1 else sH1 η v ρ η.2.1 q
theorem sHd_ok (v : Int32) : ∃ n, n ≤ 20 ∧ sHd v 20 = nI n := by
  rw [sHd]
  by_cases h : v < 0
  · exact ⟨0, by omega, if_pos h⟩
  · rw [if_neg h]
    by_cases h2 : (20 : Int32) < v
    · exact ⟨20, by omega, if_pos h2⟩
    · rw [if_neg h2]
      obtain ⟨j, hj, rfl⟩ := nI_of h
      rw [ni_lt 20 (by decide) hj] at h2
      exact ⟨j, by omega, rfl⟩
theorem rU_ok (ho : rOk η ρ) {w : Nat} (hw : w < η.1) (h5 : η.1 ≤ 5) {x : Int32} (hx : ∃ n, n ≤ 20 ∧ x = nI n) : rOk η (rU ρ w x) := by
  obtain ⟨h1, h2, h3, h4, h6, h7⟩ := ho
  have q : ∀ k, 5 ≤ k → rU ρ w x k = ρ k := fun k hk => if_neg (by omega)
  refine ⟨?_, ?_, by rw [q 5 (by omega)]; exact h3, by rw [q 6 (by omega)]; exact h4, by rw [q 7 (by omega)]; exact h6, fun k hk => by rw [q k (by omega)]; exact h7 k hk⟩
  · intro p hp
    by_cases h : p = w
    · subst h; obtain ⟨n, hn, e⟩ := hx; exact ⟨n, hn, by rw [rU, if_pos rfl]; exact e⟩
    · obtain ⟨n, hn, e⟩ := h1 p hp; exact ⟨n, hn, by rw [rU, if_neg h]; exact e⟩
  · intro p hp hp5
    rw [rU, if_neg (by omega)]; exact h2 p hp hp5
theorem sH1_ok (hk : hOk η) (ho : rOk η ρ) (v : Int32) : ∀ k, k ≤ η.2.1 → rOk η (sH1 η v ρ k) ∧ sH1 η v ρ k 5 = ρ 5 ∧ sH1 η v ρ k 6 = ρ 6 ∧ sH1 η v ρ k 7 = ρ 7 := by
  intro k
  induction k with
  | zero => intro _; exact ⟨ho, rfl, rfl, rfl⟩
  | succ k ih =>
    intro hk1
    obtain ⟨i1, i2, i3, i4⟩ := ih (by omega)
    obtain ⟨w, hw, ew⟩ := hk.2.2.2.1 k (by omega)
    have h5 := hk.1
    have ec : (hT η 2 k).toNatClampNeg = w := by rw [ew]; exact nI_clamp (by omega)
    rw [sH1, ec]
    split
    · refine ⟨rU_ok i1 hw h5 (sHd_ok _), ?_, ?_, ?_⟩
      · rw [rU, if_neg (by omega)]; exact i2
      · rw [rU, if_neg (by omega)]; exact i3
      · rw [rU, if_neg (by omega)]; exact i4
    · exact ⟨i1, i2, i3, i4⟩
theorem sHr_ok (hk : hOk η) (ho : rOk η ρ) (v : Int32) (h5 : ∃ n, n < 2 ^ 30 ∧ ρ 5 = nI n) : rOk η (sHr η ρ v) := by
  obtain ⟨⟨i1, i2, -, i4, i6, i7⟩, e5, e6, e7⟩ := sH1_ok hk ho v η.2.1 (Nat.le_refl _)
  have hn := hk.1
  obtain ⟨n5, hn5, e5'⟩ := h5
  refine ⟨?_, ?_, ⟨n5 + 1, by omega, ?_⟩, ?_, ?_, ?_⟩
  · intro p hp
    by_cases h : p < η.1
    · obtain ⟨n, hn, e⟩ := sHd_ok (sL η 2 (fun i => if i = 1 then sH1 η v ρ η.2.1 p else if i = 2 then hT η 1 p else if i = 3 then v else if i = 6 then nI p else rV (sH1 η v ρ η.2.1) i))
      exact ⟨n, hn, by rw [sHr, if_pos h]; exact e⟩
    · obtain ⟨n, hn, e⟩ := i1 p hp
      exact ⟨n, hn, by rw [sHr, if_neg h, if_neg (by omega)]; exact e⟩
  · intro p hp hp5
    rw [sHr, if_neg (by omega), if_neg (by omega)]; exact i2 p hp hp5
  · rw [sHr, if_neg (by omega), if_pos rfl, e5']; exact nI_1 n5
  · rw [sHr, if_neg (by omega), if_neg (by omega)]; exact i4
  · rw [sHr, if_neg (by omega), if_neg (by omega)]; exact i6
  · intro k hk8
    rw [sHr, if_neg (by omega), if_neg (by omega)]; exact i7 k hk8
end HOU
