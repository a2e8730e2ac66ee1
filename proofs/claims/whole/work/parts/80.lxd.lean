/-! The model's tokens, one by one. -/
theorem nI_mlx (a b : Nat) : nI a * nI b = nI (a * b) := (Int32.ofNat_mul a b).symm
theorem wN_s (W : Nat → Int32) : ∀ n i a, wN W (n + 1) i a = wN W n i a * 27 + (bt W (i + n) - 96) := by
  intro n
  induction n with
  | zero => intro i a; rfl
  | succ n ih =>
    intro i a
    rw [wN, ih, show wN W (n + 1) i a = wN W n (i + 1) (a * 27 + (bt W i - 96)) from rfl, show i + 1 + n = i + (n + 1) by omega]
theorem dN_s (W : Nat → Int32) : ∀ n i a, dN' W (n + 1) i a = dN' W n i a * 10 + (bt W (i + n) - 48) := by
  intro n
  induction n with
  | zero => intro i a; rfl
  | succ n ih =>
    intro i a
    rw [dN', ih, show dN' W (n + 1) i a = dN' W n (i + 1) (a * 10 + (bt W i - 48)) from rfl, show i + 1 + n = i + (n + 1) by omega]
def xTm (I : Nat → Nat → Int32) (L : Nat) (W : Nat → Int32) : Prop := L ≤ 2000 ∧ I 180 4 = nI L ∧ ∀ i, i < L → I 182 i = W i
def mtI (I : Nat → Nat → Int32) (k : Nat) (g p x : Int32) : Nat → Nat → Int32 := mU (mU (mU (mU I 183 k g) 184 k p) 185 k x) 180 10 (nI (k + 1))
def btL (W : Nat → Int32) (L i : Nat) : Nat := if i < L then bt W i else 0
theorem btL_lt (W : Nat → Int32) (L i : Nat) : btL W L i < 256 := by
  rw [btL]
  split
  · exact bt_lt W i
  · decide
theorem btL_p {f : Nat → Bool} (h : f 0 = false) (W : Nat → Int32) (L i : Nat) : f (btL W L i) = pAt f W L i := by
  rw [btL, pAt]
  by_cases hl : i < L
  · rw [if_pos hl, decide_eq_true hl, Bool.true_and]
  · rw [if_neg hl, decide_eq_false hl, Bool.false_and, h]
section LXD
variable {d : Nat} {xL : Nat} {I : Nat → Nat → Int32} {J : Nat → Nat → Int64} {rc rx rr : Nat} {Q : Option Value → mHp → Prop} {L : Nat} {W : Nat → Int32}
theorem c143 (h : xTm I L W) {i : Nat} (hi : i < 2 ^ 31) : WP d 143 0 [.ref 180, .int (nI i)] [] (mHh xL I J (mRf rc rx rr)) Q = Q (some (.int (nI (btL W L i)))) (mHh xL I J (mRf rc rx rr)) := by
  obtain ⟨h1, h2, h3⟩ := h
  rw [btL]
  by_cases hl : i < L
  · have g1 : ¬ nI L ≤ nI i := nI_ge hl (by omega)
    have a1 : mIn (nI i) 2000 = true := mIn_nI (by omega) (by omega)
    have a2 : (nI i).toNatClampNeg = i := nI_clamp hi
    rw [if_pos hl]
    simp only [w143_0, w143_1, w143_2, h2, w143_5, g1, ↓reduceIte, w143_8, w143_9, w143_12, w143_13, a1, a2, h3 i hl, w143_14, w143_17, bt_and, w143_18, w143_22]
  · have g1 : nI L ≤ nI i := nI_le (by omega) hi
    rw [if_neg hl]
    simp only [w143_0, w143_1, w143_2, h2, w143_5, g1, ↓reduceIte, w143_21, w143_22]
    rfl
theorem c145 {c : Nat} (hc : c < 256) {h : mHp} : WP d 145 0 [.int (nI c)] [] h Q = Q (some (.int (sB01 (isLt c)))) h := by
  have g1 : (nI c < 97) ↔ ¬ 97 ≤ c := by rw [in_lt 97 (by decide) (by omega)]; omega
  have g2 : (122 < nI c) ↔ ¬ c ≤ 122 := by rw [ni_lt 122 (by decide) (by omega)]; omega
  rw [isLt]
  simp only [w145_0, w145_1, w145_3, g1]
  by_cases h1 : 97 ≤ c
  · simp only [h1, not_true_eq_false, ↓reduceIte, w145_6, w145_7, w145_9, g2]
    by_cases h2 : c ≤ 122
    · simp only [h2, not_true_eq_false, ↓reduceIte, w145_12, w145_13, w145_17, nb1]; rfl
    · simp only [h2, not_false_eq_true, ↓reduceIte, w145_16, w145_17, nb0]; rfl
  · simp only [h1, not_false_eq_true, ↓reduceIte, w145_16, w145_17, nb0]; rfl
theorem c146 {c : Nat} (hc : c < 256) {h : mHp} : WP d 146 0 [.int (nI c)] [] h Q = Q (some (.int (sB01 (isDg c)))) h := by
  have g1 : (nI c < 48) ↔ ¬ 48 ≤ c := by rw [in_lt 48 (by decide) (by omega)]; omega
  have g2 : (57 < nI c) ↔ ¬ c ≤ 57 := by rw [ni_lt 57 (by decide) (by omega)]; omega
  rw [isDg]
  simp only [w146_0, w146_1, w146_3, g1]
  by_cases h1 : 48 ≤ c
  · simp only [h1, not_true_eq_false, ↓reduceIte, w146_6, w146_7, w146_9, g2]
    by_cases h2 : c ≤ 57
    · simp only [h2, not_true_eq_false, ↓reduceIte, w146_12, w146_13, w146_17, nb1]; rfl
    · simp only [h2, not_false_eq_true, ↓reduceIte, w146_16, w146_17, nb0]; rfl
  · simp only [h1, not_false_eq_true, ↓reduceIte, w146_16, w146_17, nb0]; rfl
theorem c135 {a c : Nat} (hc : c < 256) (h9 : 97 ≤ c) {h : mHp} : WP d 135 0 [.long (lN a), mDum, .int (nI c)] [] h Q = Q (some (.long (lN (a * 27 + (c - 96))))) h := by
  have e : 27 * lN a + (nI c - 97 + 1).toInt64 = lN (a * 27 + (c - 96)) := by
    rw [f_lt c hc h9, ← lN_add, Nat.mul_comm, ← lN_mul]; rfl
  have n0 : ¬ nI c = 0 := by rw [in_eq 0 (by decide) (by omega)]; omega
  simp only [w135_0, w135_1, w135_4, w135_5, w135_8, w135_11, w135_12, w135_13, w135_14, w135_16, w135_17, w135_18, w135_19, w135_20, w135_21, n0, ↓reduceIte, e]
theorem c144 {k : Nat} (h4 : I 180 10 = nI k) (hk : k ≤ 402) {g p x : Int32} {w : Int64} : WP d 144 0 [.ref 180, .int g, .int p, .int x, .long w, mDum] [] (mHh xL I J (mRf rc rx rr)) Q = Q none (mHh xL (mtI I k g p x) (mU J 186 k w) (mRf rc rx rr)) := by
  have a1 : mIn (nI k) 403 = true := mIn_nI (by omega) (by omega)
  have a2 : (nI k).toNatClampNeg = k := nI_clamp (by omega)
  have b1 : mU I 183 k g 180 10 = nI k := by rw [mU_a (by decide)]; exact h4
  have b2 : mU (mU I 183 k g) 184 k p 180 10 = nI k := by rw [mU_a (by decide)]; exact b1
  have b3 : mU (mU (mU I 183 k g) 184 k p) 185 k x 180 10 = nI k := by rw [mU_a (by decide)]; exact b2
  simp only [w144_0, w144_1, w144_4, w144_5, w144_8, w144_9, w144_10, w144_11, w144_14, w144_15, w144_18, w144_19, w144_20, w144_21, w144_24, w144_25, w144_28, w144_29, w144_30, w144_31, w144_34, w144_35, w144_38, w144_40, w144_41, w144_42, w144_43, w144_46, w144_47, w144_48, w144_51, h4, a1, a2, b1, b2, b3, nI_1]
  rfl
theorem c147 {k : Nat} (h4 : I 180 10 = nI k) (hk : k ≤ 402) {p v : Int32} {c : Nat} (hc : c < 256) : WP (d + 1) 147 0 [.ref 180, .int p, .int (nI c), .int v, mDum] [] (mHh xL I J (mRf rc rx rr)) Q = Q (some (.int 1)) (mHh xL (mtI I k (nI (sgK c)) p 0) (mU J 186 k 0) (mRf rc rx rr)) := by
  have e59 := in_eq (k := c) (x := 59) 59 (by decide) (by omega)
  have e61 := in_eq (k := c) (x := 61) 61 (by decide) (by omega)
  have e40 := in_eq (k := c) (x := 40) 40 (by decide) (by omega)
  have e41 := in_eq (k := c) (x := 41) 41 (by decide) (by omega)
  have e43 := in_eq (k := c) (x := 43) 43 (by decide) (by omega)
  have e45 := in_eq (k := c) (x := 45) 45 (by decide) (by omega)
  have e42 := in_eq (k := c) (x := 42) 42 (by decide) (by omega)
  have e47 := in_eq (k := c) (x := 47) 47 (by decide) (by omega)
  have e60 := in_eq (k := c) (x := 60) 60 (by decide) (by omega)
  have last : ∀ g : Int32, g = nI (sgK c) → WP (d + 1) 147 95 [.ref 180, .int p, .int (nI c), .int v, .int g] [] (mHh xL I J (mRf rc rx rr)) Q = Q (some (.int 1)) (mHh xL (mtI I k (nI (sgK c)) p 0) (mU J 186 k 0) (mRf rc rx rr)) := by
    intro g hg
    subst hg
    simp only [w147_95, w147_96, w147_98, w147_99, w147_100, w147_101, c144 h4 hk, ↓reduceIte, Option.toList_some, Option.toList_none, List.cons_append, List.nil_append, Int32.reduceAdd, Int32.reduceLT, Int32.reduceLE, Int32.reduceToNatClampNeg, w147_104, w147_105]
  by_cases h1 : c = 59
  · refine Eq.trans ?_ (last 4 (by rw [h1]; decide))
    simp (config := { decide := true }) only [w147_0, w147_1, w147_3, w147_6, w147_7, w147_10, w147_11, w147_13, w147_16, w147_17, w147_20, w147_21, w147_23, w147_26, w147_28, w147_31, w147_32, w147_34, w147_37, w147_39, w147_42, w147_43, w147_45, w147_46, w147_48, w147_51, w147_53, w147_55, w147_56, w147_58, w147_61, w147_63, w147_65, w147_66, w147_68, w147_71, w147_73, w147_75, w147_76, w147_78, w147_81, w147_83, w147_85, w147_86, w147_88, w147_91, w147_93, e59, e61, e40, e41, e43, e45, e42, e47, e60, h1, ↓reduceIte]
  · by_cases h2 : c = 61
    · refine Eq.trans ?_ (last 5 (by rw [h2]; decide))
      simp (config := { decide := true }) only [w147_0, w147_1, w147_3, w147_6, w147_7, w147_10, w147_11, w147_13, w147_16, w147_17, w147_20, w147_21, w147_23, w147_26, w147_28, w147_31, w147_32, w147_34, w147_37, w147_39, w147_42, w147_43, w147_45, w147_46, w147_48, w147_51, w147_53, w147_55, w147_56, w147_58, w147_61, w147_63, w147_65, w147_66, w147_68, w147_71, w147_73, w147_75, w147_76, w147_78, w147_81, w147_83, w147_85, w147_86, w147_88, w147_91, w147_93, e59, e61, e40, e41, e43, e45, e42, e47, e60, h2, ↓reduceIte]
    · by_cases h3 : c = 40
      · refine Eq.trans ?_ (last 6 (by rw [h3]; decide))
        simp (config := { decide := true }) only [w147_0, w147_1, w147_3, w147_6, w147_7, w147_10, w147_11, w147_13, w147_16, w147_17, w147_20, w147_21, w147_23, w147_26, w147_28, w147_31, w147_32, w147_34, w147_37, w147_39, w147_42, w147_43, w147_45, w147_46, w147_48, w147_51, w147_53, w147_55, w147_56, w147_58, w147_61, w147_63, w147_65, w147_66, w147_68, w147_71, w147_73, w147_75, w147_76, w147_78, w147_81, w147_83, w147_85, w147_86, w147_88, w147_91, w147_93, e59, e61, e40, e41, e43, e45, e42, e47, e60, h3, ↓reduceIte]
      · by_cases h4' : c = 41
        · refine Eq.trans ?_ (last 7 (by rw [h4']; decide))
          simp (config := { decide := true }) only [w147_0, w147_1, w147_3, w147_6, w147_7, w147_10, w147_11, w147_13, w147_16, w147_17, w147_20, w147_21, w147_23, w147_26, w147_28, w147_31, w147_32, w147_34, w147_37, w147_39, w147_42, w147_43, w147_45, w147_46, w147_48, w147_51, w147_53, w147_55, w147_56, w147_58, w147_61, w147_63, w147_65, w147_66, w147_68, w147_71, w147_73, w147_75, w147_76, w147_78, w147_81, w147_83, w147_85, w147_86, w147_88, w147_91, w147_93, e59, e61, e40, e41, e43, e45, e42, e47, e60, h4', ↓reduceIte]
        · by_cases h5 : c = 43
          · refine Eq.trans ?_ (last 8 (by rw [h5]; decide))
            simp (config := { decide := true }) only [w147_0, w147_1, w147_3, w147_6, w147_7, w147_10, w147_11, w147_13, w147_16, w147_17, w147_20, w147_21, w147_23, w147_26, w147_28, w147_31, w147_32, w147_34, w147_37, w147_39, w147_42, w147_43, w147_45, w147_46, w147_48, w147_51, w147_53, w147_55, w147_56, w147_58, w147_61, w147_63, w147_65, w147_66, w147_68, w147_71, w147_73, w147_75, w147_76, w147_78, w147_81, w147_83, w147_85, w147_86, w147_88, w147_91, w147_93, e59, e61, e40, e41, e43, e45, e42, e47, e60, h5, ↓reduceIte]
          · by_cases h6 : c = 45
            · refine Eq.trans ?_ (last 9 (by rw [h6]; decide))
              simp (config := { decide := true }) only [w147_0, w147_1, w147_3, w147_6, w147_7, w147_10, w147_11, w147_13, w147_16, w147_17, w147_20, w147_21, w147_23, w147_26, w147_28, w147_31, w147_32, w147_34, w147_37, w147_39, w147_42, w147_43, w147_45, w147_46, w147_48, w147_51, w147_53, w147_55, w147_56, w147_58, w147_61, w147_63, w147_65, w147_66, w147_68, w147_71, w147_73, w147_75, w147_76, w147_78, w147_81, w147_83, w147_85, w147_86, w147_88, w147_91, w147_93, e59, e61, e40, e41, e43, e45, e42, e47, e60, h6, ↓reduceIte]
            · by_cases h7 : c = 42
              · refine Eq.trans ?_ (last 10 (by rw [h7]; decide))
                simp (config := { decide := true }) only [w147_0, w147_1, w147_3, w147_6, w147_7, w147_10, w147_11, w147_13, w147_16, w147_17, w147_20, w147_21, w147_23, w147_26, w147_28, w147_31, w147_32, w147_34, w147_37, w147_39, w147_42, w147_43, w147_45, w147_46, w147_48, w147_51, w147_53, w147_55, w147_56, w147_58, w147_61, w147_63, w147_65, w147_66, w147_68, w147_71, w147_73, w147_75, w147_76, w147_78, w147_81, w147_83, w147_85, w147_86, w147_88, w147_91, w147_93, e59, e61, e40, e41, e43, e45, e42, e47, e60, h7, ↓reduceIte]
              · by_cases h8 : c = 47
                · refine Eq.trans ?_ (last 15 (by rw [h8]; decide))
                  simp (config := { decide := true }) only [w147_0, w147_1, w147_3, w147_6, w147_7, w147_10, w147_11, w147_13, w147_16, w147_17, w147_20, w147_21, w147_23, w147_26, w147_28, w147_31, w147_32, w147_34, w147_37, w147_39, w147_42, w147_43, w147_45, w147_46, w147_48, w147_51, w147_53, w147_55, w147_56, w147_58, w147_61, w147_63, w147_65, w147_66, w147_68, w147_71, w147_73, w147_75, w147_76, w147_78, w147_81, w147_83, w147_85, w147_86, w147_88, w147_91, w147_93, e59, e61, e40, e41, e43, e45, e42, e47, e60, h8, ↓reduceIte]
                · by_cases h9 : c = 60
                  · refine Eq.trans ?_ (last 13 (by rw [h9]; decide))
                    simp (config := { decide := true }) only [w147_0, w147_1, w147_3, w147_6, w147_7, w147_10, w147_11, w147_13, w147_16, w147_17, w147_20, w147_21, w147_23, w147_26, w147_28, w147_31, w147_32, w147_34, w147_37, w147_39, w147_42, w147_43, w147_45, w147_46, w147_48, w147_51, w147_53, w147_55, w147_56, w147_58, w147_61, w147_63, w147_65, w147_66, w147_68, w147_71, w147_73, w147_75, w147_76, w147_78, w147_81, w147_83, w147_85, w147_86, w147_88, w147_91, w147_93, e59, e61, e40, e41, e43, e45, e42, e47, e60, h9, ↓reduceIte]
                  · refine Eq.trans ?_ (last 3 (by rw [sgK, if_neg h1, if_neg h2, if_neg h3, if_neg h4', if_neg h5, if_neg h6, if_neg h7, if_neg h8, if_neg h9]; decide))
                    simp only [w147_0, w147_1, w147_3, w147_6, w147_7, w147_10, w147_11, w147_13, w147_16, w147_17, w147_20, w147_21, w147_23, w147_26, w147_28, w147_31, w147_32, w147_34, w147_37, w147_39, w147_42, w147_43, w147_45, w147_46, w147_48, w147_51, w147_53, w147_55, w147_56, w147_58, w147_61, w147_63, w147_65, w147_66, w147_68, w147_71, w147_73, w147_75, w147_76, w147_78, w147_81, w147_83, w147_85, w147_86, w147_88, w147_91, w147_93, e59, e61, e40, e41, e43, e45, e42, e47, e60, h1, h2, h3, h4', h5, h6, h7, h8, h9, ↓reduceIte]
end LXD
