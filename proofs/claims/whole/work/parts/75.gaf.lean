/-! A game: the model's answer. -/
/-- what the way back may write -/
def fU (I I' : Nat → Nat → Int32) : Prop := (∀ a, a ≠ 210 → a ≠ 211 → a ≠ 213 → a ≠ 214 → a ≠ 180 → a ≠ 221 → a ≠ 220 → I' a = I a) ∧ ∀ k, k ≠ 48 → I' 180 k = I 180 k
theorem fU_t {I I1 I2 : Nat → Nat → Int32} (h1 : fU I I1) (h2 : fU I1 I2) : fU I I2 := ⟨fun a x y z u w v q => by rw [h2.1 a x y z u w v q, h1.1 a x y z u w v q], fun k x => by rw [h2.2 k x, h1.2 k x]⟩
theorem fH_U {I I' : Nat → Nat → Int32} (h : fH I I') : fU I I' := ⟨fun a x y z u w _ _ => h.1 a x y z u w, h.2⟩
theorem fS_U {I I' : Nat → Nat → Int32} (h : fS I I') : fU I I' := ⟨fun a x y z u w _ q => h.1 a x y z u w q, h.2⟩
theorem fU_B {I I' : Nat → Nat → Int32} (f : fU I I') : fB I I' := ⟨fun a x => f.1 a (by omega) (by omega) (by omega) (by omega) (by omega) (by omega) (by omega), fun k x _ _ => f.2 k x⟩
theorem fU_h {I I' : Nat → Nat → Int32} {s : Nat} {η : mHs} (h : fU I I') (hh : mMh I s η) : mMh I' s η := mMh_keep (fun a p q => h.1 a (by omega) (by omega) (by omega) (by omega) (by omega) (by omega) (by omega)) (h.2 18 (by decide)) hh
theorem fU_l {I I' : Nat → Nat → Int32} (h : fU I I') (hl : lvI I) : lvI I' := fun k hk => by rw [h.1 219 (by decide) (by decide) (by decide) (by decide) (by decide) (by decide) (by decide)]; exact hl k hk
def tV (I : Nat → Nat → Int32) (η : mHs) (ρ : mRo5) (n L : Nat) : Prop := ∀ L', L ≤ L' → L' < n → ∀ i r, i < 14 ^ L' → gN η ρ L' i = some r → I 221 (lv L' + i) = nI (gV η (n - L') r)
theorem tV_k {I I' : Nat → Nat → Int32} {η : mHs} {ρ : mRo5} {n L : Nat} (h : I' 221 = I 221) (t : tV I η ρ n L) : tV I' η ρ n L := fun L' h1 h2 i r h3 h4 => by rw [h]; exact t L' h1 h2 i r h3 h4
/-- the rows laid out for levels below -/
def tA (I : Nat → Nat → Int32) (η : mHs) (ρ : mRo5) (n : Nat) : Prop := ∀ L, L < n → ∀ i, i < 14 ^ L → tE I (lv L + i) (gN η ρ L i)
theorem tA_k {I I' : Nat → Nat → Int32} {η : mHs} {ρ : mRo5} {n : Nat} (h : I' 220 = I 220) (t : tA I η ρ n) : tA I' η ρ n := fun L hL i hi => tE_k (fun k _ => by rw [h]) (t L hL i hi)
section GAF
variable {d : Nat} {xL : Nat} {I : Nat → Nat → Int32} {J : Nat → Nat → Int64} {rc rx rr : Nat} {Q : Option Value → mHp → Prop} {s : Nat} {η : mHs} {ρ : mRo5}
theorem c241o {a : Nat} (ha : a < 2 ^ 31) (o : Option Nat) (ho : ∀ x, o = some x → x < 2 ^ 31) {x : Nat} {h : mHp} : WP d 241 0 [.ref x, .int (nI a), .int (gO o)] [] h Q = Q (some (.int (nI (max a (o.getD 0))))) h := by
  cases o with
  | some y => exact c241 a y ha (ho y rfl)
  | none =>
    have g : ¬ nI a ≤ -1 := by
      have h2 := nI_pos ha
      rw [Int32.le_iff_toInt_le, nI_toInt ha, show (-1 : Int32).toInt = -1 from rfl]; omega
    rw [w241_0]
    simp only [gO, w241_1, w241_2, g, ↓reduceIte, w241_0, w241_1, w241_2, w241_5, w241_6, w241_9, w241_10, Option.getD_none, Nat.max_eq_left (Nat.zero_le a)]
theorem lv_mono : ∀ a, a < 5 → ∀ b, b < 5 → a ≤ b → lv a ≤ lv b := by decide
theorem lvv {L : Nat} (h : L < 4) : lv (L + 1) = lv L + 14 ^ L ∧ lv L + 14 ^ L ≤ 2955 := by
  obtain ⟨a, b, -⟩ := lv_s L h
  exact ⟨a, by omega⟩
theorem gO_le {η : mHs} (hk : hOk η) {ρ : mRo5} (ho : rOk η ρ) {m n t : Nat} (h5 : ρ 5 = nI m) (hm : m + n + 1 ≤ 2 ^ 30) : ∀ k x, gAx η (gV η n) ρ t k = some x → x ≤ 100 := by
  intro k
  induction k with
  | zero => intro x h; cases h
  | succ k ih =>
    intro x h
    rw [gAx] at h
    by_cases hg : gOk η ρ t k = true
    · rw [if_pos hg] at h
      obtain ⟨a, b, -, -⟩ := gC_ok hk ho hg h5 (by omega)
      have := gV_le hk n _ _ a b (by omega)
      injection h with h
      cases hx : gAx η (gV η n) ρ t k with
      | none => rw [hx] at h; dsimp only at h; omega
      | some y => rw [hx] at h; dsimp only at h; have := Nat.min_le_right y (gV η n (gC η ρ t k)); omega
    · rw [if_neg hg] at h; exact ih x h
theorem c235 (hb : zB I s η ρ) (hl : lvI I) (n w : Int32) (hQ : ∀ I', fB I I' → Q (some (.int (q_game η ρ n w))) (mHh xL I' J (mRf rc rx rr))) : WP (d + 12) 235 0 [.ref 180, .int n, .int w, mDum, mDum] [] (mHh xL I J (mRf rc rx rr)) Q := by
  obtain ⟨hk, hh, hn, ho, m, hm, e5⟩ := hb
  have e8 : (decide ((1 : Int32) ≤ n) && decide (n ≤ 4)) = sW n 1 4 := rfl
  have e9 : (decide ((0 : Int32) ≤ w) && decide (w ≤ 1)) = sW w 0 1 := rfl
  have fSB : ∀ {I I' : Nat → Nat → Int32}, fS I I' → fB I I' := fun f => ⟨fun a x => f.1 a (by omega) (by omega) (by omega) (by omega) (by omega) (by omega), fun k x _ _ => f.2 k x⟩
  simp only [w235_0, w235_1, w235_2, w235_3, c170, e8, ↓reduceIte, Option.toList_some, Option.toList_none, List.cons_append, List.nil_append, Int32.reduceAdd, Int32.reduceLT, Int32.reduceLE, Int32.reduceToNatClampNeg, w235_6, q_game] at hQ ⊢
  by_cases h : sW n 1 4 = true
  · by_cases h' : sW w 0 1 = true
    · rw [h, h'] at hQ
      simp only [sB_t h, o01, ↓reduceIte, w235_9, w235_10, w235_11, w235_12, c170, e9, sB_t h', ↓reduceIte, Option.toList_some, Option.toList_none, List.cons_append, List.nil_append, Int32.reduceAdd, Int32.reduceLT, Int32.reduceLE, Int32.reduceToNatClampNeg, w235_15, w235_20, w235_21, Bool.and_self] at hQ ⊢
      obtain ⟨n, hn1, hn4, rfl⟩ := (sW_iff (a := 1) (b := 4) rfl rfl).1 h
      have ec : (nI n).toNatClampNeg = n := nI_clamp (by omega)
      have en1 : nI n - 1 = nI (n - 1) := pk_sub (b := 1) (by omega)
      rw [ec] at hQ
      refine c204 hh hn ?_
      intro I1 f1 r1 l1
      have hl1 : lvI I1 := fun k hk5 => by rw [f1.1 219 (by decide) (by decide) (by decide) (by decide) (by decide)]; exact hl k hk5
      have hh1 := fC_h f1 hh
      simp only [↓reduceIte, Option.toList_some, Option.toList_none, List.cons_append, List.nil_append, Int32.reduceAdd, Int32.reduceLT, Int32.reduceLE, Int32.reduceToNatClampNeg, w235_24, w235_25]
      have okN : ∀ L i r, L ≤ 4 → gN η ρ L i = some r → rOk η r ∧ r 5 = nI (m + L) := gN_ok hk ho e5 (by omega)
      -- the least of a node, once the rows and what is behind them stand
      have lst : ∀ (I3 : Nat → Nat → Int32) (L i t : Nat) (r : mRo5) {D : Nat} {Q : Option Value → mHp → Prop} {bb LL tt : Int32}, bb = nI (lv L + i) → LL = nI L → tt = nI t → L < n → i < 14 ^ L → t < 2 → fU I1 I3 → tA I3 η ρ n → tV I3 η ρ n (L + 1) → gN η ρ L i = some r → (∀ I' : Nat → Nat → Int32, fH I3 I' → Q (some (.int (gO (gAx η (gV η (n - 1 - L)) r t 7)))) (mHh xL I' J (mRf rc rx rr))) → WP (D + 7) 240 0 [.ref 180, .int bb, .int LL, .int tt, .int (nI n), mDum, mDum, mDum] [] (mHh xL I3 J (mRf rc rx rr)) Q := by
        intro I3 L i t r D Q bb LL tt ebb eLL ett hL hi ht f3 tab tv hr hq
        subst ebb eLL ett
        obtain ⟨a, b⟩ := okN L i r (by omega) hr
        obtain ⟨v1, v2⟩ := lvv (show L < 4 by omega)
        refine c240 (fU_h f3 hh1) hk (fU_l f3 hl1) (by rw [f3.2 52 (by decide)]; exact l1) hL hn4 (by omega) (by omega) ht ?_ a b (by omega) ?_ hq
        · have := tab L hL i hi
          rw [hr] at this
          exact this
        · intro hL2 j hj hg
          have e : gN η ρ (L + 1) (14 * i + (7 * t + j)) = some (gC η r t j) := by
            rw [gN, show (14 * i + (7 * t + j)) / 14 = i by omega, show (14 * i + (7 * t + j)) % 14 = 7 * t + j by omega, hr, gP, show (7 * t + j) / 7 = t by omega, show (7 * t + j) % 7 = j by omega, if_pos hg]
          have hp : 14 ^ (L + 1) = 14 * 14 ^ L := by rw [Nat.pow_succ, Nat.mul_comm]
          have := tv (L + 1) (Nat.le_refl _) hL2 (14 * i + (7 * t + j)) _ (by omega) e
          rw [show lv (L + 1) + 14 * (lv L + i - lv L) + (7 * t + j) = lv (L + 1) + (14 * i + (7 * t + j)) by omega, this, show n - (L + 1) = n - 1 - L by omega]
      have gOx : ∀ (L t : Nat) (r : mRo5), L < n → t < 2 → rOk η r → r 5 = nI (m + L) → ∀ x, gAx η (gV η (n - 1 - L)) r t 7 = some x → x < 2 ^ 31 := by
        intro L t r hL ht a b x hx
        have := gO_le hk a b (by omega) 7 x hx
        omega
      have g0 : ∀ (L : Nat) (r : mRo5), L < n → rOk η r → r 5 = nI (m + L) → ∃ x, gAx η (gV η (n - 1 - L)) r 0 7 = some x ∧ x < 2 ^ 31 := by
        intro L r hL a b
        obtain ⟨x, hx, -⟩ := gAx_s (V := gV η (n - 1 - L)) (gOk_0 a) 6
        exact ⟨x, hx, gOx L 0 r hL (by omega) a b x hx⟩
      have gVx : ∀ (L x : Nat) (r : mRo5), L < n → gAx η (gV η (n - 1 - L)) r 0 7 = some x → gV η (n - L) r = max x ((gAx η (gV η (n - 1 - L)) r 1 7).getD 0) := by
        intro L x r hL hx
        rw [show n - L = (n - 1 - L) + 1 by omega, gV, hx]; rfl
      -- the answer
      have ans : ∀ (I3 : Nat → Nat → Int32) (v4 : Value) (z3 : Int32), fU I1 I3 → tA I3 η ρ n → tV I3 η ρ n 0 → WP (d + 12) 235 184 [.ref 180, .int (nI n), .int w, .int z3, v4] [] (mHh xL I3 J (mRf rc rx rr)) Q := by
        intro I3 v4 z3 f3 tab tv
        have F3 : fB I I3 := fB_t (fC_B f1) (fU_B f3)
        have e0 : I3 221 0 = nI (gV η n ρ) := tv 0 (Nat.le_refl _) (by omega) 0 ρ (by decide) rfl
        obtain ⟨x, hx, hx31⟩ := g0 0 ρ (by omega) ho (by rw [e5]; rfl)
        have hx' : gAx η (gV η (n - 1)) ρ 0 7 = some x := hx
        simp only [w235_184, w235_185]
        by_cases hw : w = 0
        · have hF := hQ I3 F3
          rw [if_pos hw] at hF
          simp only [hw, ↓reduceIte, w235_188, w235_189, w235_192, w235_193, e0, w235_194, w235_221]
          exact hF
        · simp only [hw, ↓reduceIte, w235_197, w235_198, w235_199, w235_200, w235_201, w235_202]
          refine lst I3 0 0 1 ρ rfl rfl rfl (by omega) (by decide) (by omega) f3 tab (fun L' h1 h2 i r h3 h4 => tv L' (by omega) h2 i r h3 h4) rfl ?_
          intro I4 f4
          have f34 : fU I1 I4 := fU_t f3 (fH_U f4)
          have tab4 : tA I4 η ρ n := tA_k (f4.1 220 (by decide) (by decide) (by decide) (by decide) (by decide)) tab
          have tv4 : tV I4 η ρ n 0 := tV_k (f4.1 221 (by decide) (by decide) (by decide) (by decide) (by decide)) tv
          simp only [↓reduceIte, Option.toList_some, Option.toList_none, List.cons_append, List.nil_append, Int32.reduceAdd, Int32.reduceLT, Int32.reduceLE, Int32.reduceToNatClampNeg, w235_205, w235_206, w235_207, w235_208, w235_209, w235_210]
          refine lst I4 0 0 0 ρ rfl rfl rfl (by omega) (by decide) (by omega) f34 tab4 (fun L' h1 h2 i r h3 h4 => tv4 L' (by omega) h2 i r h3 h4) rfl ?_
          intro I5 f5
          have hF := hQ I5 (fB_t (fC_B f1) (fU_B (fU_t f34 (fH_U f5))))
          rw [if_neg hw, gA0, gA0, hx'] at hF
          have gle : (gO (gAx η (gV η (n - 1 - 0)) ρ 1 7) ≤ gO (gAx η (gV η (n - 1 - 0)) ρ 0 7)) ↔ ¬ x < (gAx η (gV η (n - 1)) ρ 1 7).getD 0 := by
            rw [show n - 1 - 0 = n - 1 from rfl, hx']
            cases hy : gAx η (gV η (n - 1)) ρ 1 7 with
            | none =>
              refine ⟨fun _ => ?_, fun _ => ?_⟩
              · rw [Option.getD_none]; omega
              · show (-1 : Int32) ≤ nI x
                rw [Int32.le_iff_toInt_le, nI_toInt hx31, show (-1 : Int32).toInt = -1 from rfl]; omega
            | some y =>
              have := gOx 0 1 ρ (by omega) (by omega) ho (by rw [e5]; rfl) y hy
              show nI y ≤ nI x ↔ ¬ x < y
              rw [nI_leI this hx31]; omega
          have gD0 : (some x).getD 0 = x := rfl
          rw [gD0] at hF
          simp only [↓reduceIte, Option.toList_some, Option.toList_none, List.cons_append, List.nil_append, Int32.reduceAdd, Int32.reduceLT, Int32.reduceLE, Int32.reduceToNatClampNeg, w235_213, gle]
          by_cases hc : x < (gAx η (gV η (n - 1)) ρ 1 7).getD 0
          · rw [if_pos hc] at hF
            rw [if_neg (fun z => z hc)]
            simp only [w235_216, w235_217, w235_221]
            exact hF
          · rw [if_neg hc] at hF
            rw [if_pos hc]
            simp only [w235_220, w235_221]
            exact hF
      -- back through the levels
      have back : ∀ c, c ≤ n → ∀ (I3 : Nat → Nat → Int32) (v4 : Value), fU I1 I3 → tA I3 η ρ n → tV I3 η ρ n c → WP (d + 12) 235 103 [.ref 180, .int (nI n), .int w, .int (nI c - 1), v4] [] (mHh xL I3 J (mRf rc rx rr)) Q := by
        intro c
        induction c with
        | zero =>
          intro _ I3 v4 f3 tab tv
          have g1 : nI 0 - 1 < 0 := by decide
          rw [w235_103]
          simp only [w235_104, g1, ↓reduceIte]
          exact ans I3 _ _ f3 tab tv
        | succ c ih =>
          intro hc I3 v4 f3 tab tv
          have ih := ih (by omega)
          obtain ⟨v1, v2⟩ := lvv (show c < 4 by omega)
          have g1 : ¬ nI c < 0 := nI_pos (by omega)
          have a1 : mIn (nI c) 5 = true := mIn_nI (by omega) (by omega)
          have a2 : (nI c).toNatClampNeg = c := nI_clamp (by omega)
          have a3 : mIn (nI (c + 1)) 5 = true := mIn_nI (by omega) (by omega)
          have a4 : (nI (c + 1)).toNatClampNeg = c + 1 := nI_clamp (by omega)
          have em : nI c + -1 = nI c - 1 := (Int32.sub_eq_add_neg _ _).symm
          rw [nI_pred, w235_103]
          simp only [w235_104, g1, ↓reduceIte, w235_107, w235_108, w235_111, w235_112, a1, a2, fU_l f3 hl1 c (by omega), w235_113]
          have key : ∀ i, i ≤ 14 ^ c → ∀ (I4 : Nat → Nat → Int32), fU I1 I4 → tA I4 η ρ n → tV I4 η ρ n (c + 1) → (∀ j r, j < i → gN η ρ c j = some r → I4 221 (lv c + j) = nI (gV η (n - c) r)) → WP (d + 12) 235 115 [.ref 180, .int (nI n), .int w, .int (nI c), .int (nI (lv c + i))] [] (mHh xL I4 J (mRf rc rx rr)) Q := by
            refine iter_dn ?_ ?_
            · intro i hi ihi I4 f4 tab4 tv4 t4
              have g2 : ¬ nI (lv (c + 1)) ≤ nI (lv c + i) := nI_ge (by omega) (by omega)
              have tabi := tab4 c (by omega) i hi
              rw [w235_115]
              simp only [w235_117, w235_118, w235_121, w235_122, w235_123, nI_1, w235_124, a3, a4, fU_l f4 hl1 (c + 1) (by omega), w235_125, g2, ↓reduceIte, w235_128, w235_129, w235_131]
              refine c237 (show lv c + i < 2955 by omega) ?_
              intro I5 f5 r5
              have F5 : fU I1 I5 := fU_t f4 ⟨fun a p q r w u _ _ => f5 a r, fun k _ => by rw [f5 180 (by decide)]⟩
              have tab5 : tA I5 η ρ n := tA_k (f5 220 (by decide)) tab4
              have tv5 : tV I5 η ρ n (c + 1) := tV_k (f5 221 (by decide)) tv4
              have t5 : ∀ j r, j < i → gN η ρ c j = some r → I5 221 (lv c + j) = nI (gV η (n - c) r) := fun j r h1 h2 => by rw [f5 221 (by decide)]; exact t4 j r h1 h2
              simp only [↓reduceIte, Option.toList_some, Option.toList_none, List.cons_append, List.nil_append, Int32.reduceAdd, Int32.reduceLT, Int32.reduceLE, Int32.reduceToNatClampNeg, w235_134, w235_135, w235_138, w235_139, w235_140]
              cases hr : gN η ρ c i with
              | none =>
                rw [hr] at tabi
                have e5' : I5 213 5 = -1 := by rw [r5 5 (by decide)]; exact tabi
                have g3 : ((-1 : Int32) < 0) = True := by simp
                simp only [e5', g3, ↓reduceIte, w235_172, w235_175, nI_1]
                refine ihi I5 F5 tab5 tv5 ?_
                intro j r hj h2
                by_cases e : j = i
                · subst e; rw [hr] at h2; cases h2
                · exact t5 j r (by omega) h2
              | some r =>
                rw [hr] at tabi
                obtain ⟨a, b⟩ := okN c i r (by omega) hr
                have e5' : I5 213 5 = nI (m + c) := by rw [r5 5 (by decide), ← b]; exact tabi 5 (by decide)
                have g3 : ¬ nI (m + c) < 0 := nI_pos (by omega)
                obtain ⟨x, hx, hx31⟩ := g0 c r (by omega) a b
                have z0 : (0 : Int32) = nI 0 := rfl
                have z1 : (1 : Int32) = nI 1 := rfl
                simp only [e5', g3, ↓reduceIte, w235_143, w235_144, w235_147, w235_149, w235_150, w235_151, w235_153, w235_154, w235_155, w235_156]
                refine lst I5 c i 0 r rfl rfl rfl (by omega) hi (by omega) F5 tab5 tv5 hr ?_
                intro I6 f6
                have F6 : fU I1 I6 := fU_t F5 (fH_U f6)
                have tab6 : tA I6 η ρ n := tA_k (f6.1 220 (by decide) (by decide) (by decide) (by decide) (by decide)) tab5
                have tv6 : tV I6 η ρ n (c + 1) := tV_k (f6.1 221 (by decide) (by decide) (by decide) (by decide) (by decide)) tv5
                simp only [↓reduceIte, Option.toList_some, Option.toList_none, List.cons_append, List.nil_append, Int32.reduceAdd, Int32.reduceLT, Int32.reduceLE, Int32.reduceToNatClampNeg, w235_159, w235_160, w235_162, w235_163, w235_164, w235_165]
                refine lst I6 c i 1 r rfl rfl rfl (by omega) hi (by omega) F6 tab6 tv6 hr ?_
                intro I7 f7
                have F7 : fU I1 I7 := fU_t F6 (fH_U f7)
                have tab7 : tA I7 η ρ n := tA_k (f7.1 220 (by decide) (by decide) (by decide) (by decide) (by decide)) tab6
                have tv7 : tV I7 η ρ n (c + 1) := tV_k (f7.1 221 (by decide) (by decide) (by decide) (by decide) (by decide)) tv6
                have b1 : mIn (nI (lv c + i)) 2955 = true := mIn_nI (by omega) (by omega)
                have b2 : (nI (lv c + i)).toNatClampNeg = lv c + i := nI_clamp (by omega)
                have ex0 : gO (some x) = nI x := rfl
                simp only [↓reduceIte, Option.toList_some, Option.toList_none, List.cons_append, List.nil_append, Int32.reduceAdd, Int32.reduceLT, Int32.reduceLE, Int32.reduceToNatClampNeg, hx, ex0, w235_168, c241o hx31 _ (gOx c 1 r (by omega) (by omega) a b), ← gVx c x r (by omega) hx, w235_171, b1, b2, w235_172, w235_175, nI_1]
                refine ihi _ ⟨fun p h1 h2 h3 h4 h5 h6 h7 => by rw [mU_f h6]; exact F7.1 p h1 h2 h3 h4 h5 h6 h7, fun k hk => by rw [mU_f (by decide)]; exact F7.2 k hk⟩ (tA_k (mU_f (by decide)) tab7) ?_ ?_
                · intro L' h1 h2 j r' h3 h4
                  have hlv : lv (c + 1) ≤ lv L' := by exact lv_mono _ (by omega) _ (by omega) h1
                  rw [mU_k (by omega)]
                  exact tv7 L' h1 h2 j r' h3 h4
                · intro j r' hj h2
                  by_cases e : j = i
                  · subst e
                    rw [hr] at h2
                    have h2' := Option.some.inj h2
                    subst h2'
                    exact mU_s _ _ _ _
                  · rw [mU_k (by omega), f7.1 221 (by decide) (by decide) (by decide) (by decide) (by decide), f6.1 221 (by decide) (by decide) (by decide) (by decide) (by decide)]
                    exact t5 j r' (by omega) h2
            · intro I4 f4 tab4 tv4 t4
              have g2 : nI (lv (c + 1)) ≤ nI (lv c + 14 ^ c) := nI_le (by omega) (by omega)
              rw [w235_115]
              simp only [w235_117, w235_118, w235_121, w235_122, w235_123, nI_1, w235_124, a3, a4, fU_l f4 hl1 (c + 1) (by omega), w235_125, g2, ↓reduceIte, w235_178, em, w235_181]
              refine ih I4 _ f4 tab4 ?_
              intro L' h1 h2 j r h3 h4
              by_cases e : L' = c
              · subst e; exact t4 j r h3 h4
              · exact tv4 L' (by omega) h2 j r h3 h4
          exact key 0 (Nat.zero_le _) I3 f3 tab tv (fun j r hj => absurd hj (by omega))
      -- the levels laid out
      have lay : ∀ l, l ≤ n - 1 → ∀ (I3 : Nat → Nat → Int32) (v4 : Value), fS I1 I3 → tA I3 η ρ (l + 1) → WP (d + 12) 235 52 [.ref 180, .int (nI n), .int w, .int (nI l), v4] [] (mHh xL I3 J (mRf rc rx rr)) Q := by
        refine iter_dn ?_ ?_
        · intro l hlt ih I3 v4 f3 tab
          obtain ⟨v1, v2⟩ := lvv (show l < 4 by omega)
          have g1 : ¬ nI (n - 1) ≤ nI l := nI_ge hlt (by omega)
          have a1 : mIn (nI l) 5 = true := mIn_nI (by omega) (by omega)
          have a2 : (nI l).toNatClampNeg = l := nI_clamp (by omega)
          have a3 : mIn (nI (l + 1)) 5 = true := mIn_nI (by omega) (by omega)
          have a4 : (nI (l + 1)).toNatClampNeg = l + 1 := nI_clamp (by omega)
          rw [w235_52]
          simp only [w235_53, w235_54, w235_55, en1, w235_56, g1, ↓reduceIte, w235_59, w235_60, w235_63, w235_64, a1, a2, fS_l f3 hl1 l (by omega), w235_65]
          have key : ∀ i, i ≤ 14 ^ l → ∀ (I4 : Nat → Nat → Int32), fS I1 I4 → tA I4 η ρ (l + 1) → (∀ j, j < 14 * i → tE I4 (lv (l + 1) + j) (gN η ρ (l + 1) j)) → WP (d + 12) 235 67 [.ref 180, .int (nI n), .int w, .int (nI l), .int (nI (lv l + i))] [] (mHh xL I4 J (mRf rc rx rr)) Q := by
            refine iter_dn ?_ ?_
            · intro i hi ihi I4 f4 tab4 t4
              have g2 : ¬ nI (lv (l + 1)) ≤ nI (lv l + i) := nI_ge (by omega) (by omega)
              rw [w235_67]
              simp only [w235_69, w235_70, w235_73, w235_74, w235_75, nI_1, w235_76, a3, a4, fS_l f4 hl1 (l + 1) (by omega), w235_77, g2, ↓reduceIte, w235_80, w235_81, w235_83, w235_84]
              refine c236 (fS_h f4 hh1) hk (fS_l f4 hl1) (by rw [f4.2 52 (by decide)]; exact l1) (show l < 3 by omega) (show lv l ≤ lv l + i by omega) (by omega) (tab4 l (by omega) i hi) (m := m + l) (by omega) (fun r hr => okN l i r (by omega) hr) ?_
              intro I5 f5 k5 t5
              have ec : lv (l + 1) + 14 * (lv l + i - lv l) = lv (l + 1) + 14 * i := by omega
              rw [ec] at k5 t5
              simp only [↓reduceIte, Option.toList_some, Option.toList_none, List.cons_append, List.nil_append, Int32.reduceAdd, Int32.reduceLT, Int32.reduceLE, Int32.reduceToNatClampNeg, w235_87, w235_90, nI_1]
              refine ihi I5 (fS_t f4 f5) ?_ ?_
              · intro L' hL' j hj
                refine tE_k (fun k hk8 => k5 _ k hk8 (Or.inl ?_)) (tab4 L' hL' j hj)
                have h1 := (lv_s L' (by omega)).1
                have h2 : lv (L' + 1) ≤ lv (l + 1) := lv_mono _ (by omega) _ (by omega) (by omega)
                omega
              · intro j hj
                by_cases e : j < 14 * i
                · exact tE_k (fun k hk8 => k5 _ k hk8 (Or.inl (by omega))) (t4 j e)
                · have := t5 (j - 14 * i) (by omega)
                  rw [show lv (l + 1) + 14 * i + (j - 14 * i) = lv (l + 1) + j by omega] at this
                  rw [gN, show j / 14 = i by omega, show j % 14 = j - 14 * i by omega]
                  exact this
            · intro I4 f4 tab4 t4
              have g2 : nI (lv (l + 1)) ≤ nI (lv l + 14 ^ l) := nI_le (by omega) (by omega)
              have hp : 14 ^ (l + 1) = 14 * 14 ^ l := by rw [Nat.pow_succ, Nat.mul_comm]
              rw [w235_67]
              simp only [w235_69, w235_70, w235_73, w235_74, w235_75, nI_1, w235_76, a3, a4, fS_l f4 hl1 (l + 1) (by omega), w235_77, g2, ↓reduceIte, w235_93, w235_96]
              refine ih I4 _ f4 ?_
              intro L' hL' j hj
              by_cases e : L' = l + 1
              · subst e; exact t4 j (by omega)
              · exact tab4 L' (by omega) j hj
          exact key 0 (Nat.zero_le _) I3 f3 tab (fun j hj => absurd hj (by omega))
        · intro I3 v4 f3 tab
          have g1 : nI (n - 1) ≤ nI (n - 1) := nI_le (Nat.le_refl _) (by omega)
          have en : n - 1 + 1 = n := by omega
          rw [en] at tab
          have b := back n (Nat.le_refl _) I3 v4 (fS_U f3) tab (fun L' h1 h2 => absurd h1 (by omega))
          rw [en1] at b
          rw [w235_52]
          simp only [w235_53, w235_54, w235_55, en1, w235_56, g1, ↓reduceIte, w235_99, w235_100, w235_101, w235_102]
          exact b
      have ini : ∀ k, k ≤ 8 → ∀ (I3 : Nat → Nat → Int32), (∀ a, a ≠ 220 → I3 a = I1 a) → (∀ j, j < k → I3 220 j = ρ j) → WP (d + 12) 235 26 [.ref 180, .int (nI n), .int w, .int (nI k), mDum] [] (mHh xL I3 J (mRf rc rx rr)) Q := by
        refine iter_dn ?_ ?_
        · intro k hk8 ih I3 f3 t3
          have g1 : ¬ 8 ≤ nI k := by rw [ni_le 8 (by decide) (by omega)]; omega
          have a1 : mIn (nI k) 8 = true := mIn_nI (by omega) (by omega)
          have a2 : (nI k).toNatClampNeg = k := nI_clamp (by omega)
          have a3 : mIn (nI k) 23640 = true := mIn_nI (by omega) (by omega)
          have e1 : I3 213 k = ρ k := by rw [f3 213 (by decide)]; exact mRr_at r1 hk8
          rw [w235_26]
          simp only [w235_27, w235_29, g1, ↓reduceIte, w235_32, w235_33, w235_36, w235_37, w235_38, w235_41, w235_42, a1, a2, e1, w235_43, a3, w235_44, w235_47, nI_1]
          refine ih _ (fun a p => by rw [mU_f p, f3 a p]) ?_
          intro j hj
          by_cases e : j = k
          · subst e; exact mU_s _ _ _ _
          · rw [mU_k e]; exact t3 j (by omega)
        · intro I3 f3 t3
          have g1 : 8 ≤ nI 8 := by decide
          rw [w235_26]
          simp only [w235_27, w235_29, g1, ↓reduceIte, w235_50, w235_51]
          refine lay 0 (by omega) I3 _ ⟨fun a _ _ _ _ _ p => f3 a p, fun k _ => by rw [f3 180 (by decide)]⟩ ?_
          intro L hL i hi
          have : L = 0 := by omega
          subst this
          have : i = 0 := by have : 14 ^ 0 = 1 := rfl; omega
          subst this
          intro k hk8
          show I3 220 (8 * (0 + 0) + k) = ρ k
          rw [show 8 * (0 + 0) + k = k by omega]
          exact t3 k hk8
      exact ini 0 (by omega) I1 (fun _ _ => rfl) (fun j hj => absurd hj (by omega))
    · have h2 : sW w 0 1 = false := by simpa using h'
      rw [h2, Bool.and_false] at hQ
      simp only [sB_t h, o01, ↓reduceIte, w235_9, w235_10, w235_11, w235_12, c170, e9, sB_f h2, ↓reduceIte, Option.toList_some, Option.toList_none, List.cons_append, List.nil_append, Int32.reduceAdd, Int32.reduceLT, Int32.reduceLE, Int32.reduceToNatClampNeg, w235_15, w235_18, w235_19]
      exact hQ I fB_0
  · have h2 : sW n 1 4 = false := by simpa using h
    rw [h2, Bool.false_and] at hQ
    simp only [sB_f h2, ↓reduceIte, w235_18, w235_19]
    exact hQ I fB_0
end GAF
