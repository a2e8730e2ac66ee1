/-! The model's expression: states, posts, its ends. -/
def mES (I : Nat → Nat → Int32) (J : Nat → Nat → Int64) (W : Nat → Int32) (L t o : Nat) (ops : List Nat) (s : Nat) : Prop := mRD I J W L t 0 0 ∧ I 180 12 = nI o ∧ mXo I ops ∧ I 180 45 = nI ops.length ∧ I 180 41 = nI s
def PM (l : List Nat) : Prop := l = [] ∨ l = [10] ∨ l = [15]
def PS (l : List Nat) : Prop := l = [] ∨ l = [8] ∨ l = [9]
def PB (l : List Nat) : Prop := ∃ a b, PM a ∧ PS b ∧ l = a ++ b
def shE : Nat → List Nat → Prop
  | 2, l => PM l
  | 4, l => PB l
  | _, l => l = []
def shX : Nat → List Nat → Prop
  | 0, l => l = []
  | 1, l => PM l
  | 2, l => PM l
  | _, l => PB l
def stB (b : Bool) (ops : List Nat) : Prop := coR b ops = ops ∧ coC b ops = []
def bsO : Nat → List Nat → Prop
  | 0, _ => True
  | 1, l => stB true l
  | 2, l => stB true l
  | _, l => stB false l
def xk : Nat → Nat → Prop
  | 0, _ => True
  | 1, k => k ≠ 10 ∧ k ≠ 15
  | 2, k => k ≠ 10 ∧ k ≠ 15
  | _, k => (k ≠ 8 ∧ k ≠ 9) ∧ k ≠ 10 ∧ k ≠ 15
def nk : Nat → Nat → Prop
  | 4, k => k ≠ 10 ∧ k ≠ 15
  | _, _ => True
def lb : Nat → Nat → Nat
  | 0, o => 3 * o + 2
  | 1, o => 3 * o + 1
  | 2, o => 3 * o + 1
  | _, o => 3 * o
def pcE : Nat → Nat
  | 2 => 96
  | 4 => 96
  | _ => 23
def mFai (M : Nat) (xL rc rx rr : Nat) (I : Nat → Nat → Int32) (J : Nat → Nat → Int64) (W : Nat → Int32) (L : Nat) (Q : Option Value → mHp → Prop) (f : Nat × Nat) : Prop := ∀ I' t', fMe M I I' → mRD I' J W L t' f.1 f.2 → f.1 ≠ 0 → Q none (mHh xL I' J (mRf rc rx rr))
def mSuc (M : Nat) (xL rc rx rr d m o s : Nat) (pe ops : List Nat) (I : Nat → Nat → Int32) (J : Nat → Nat → Int64) (W : Nat → Int32) (L : Nat) (Q : Option Value → mHp → Prop) (r : Nat × mCod) : Prop := ∀ I' pe' c0, shX m pe' → oq pe ++ r.2 = c0 ++ oq pe' → xk m (kk W L r.1) → fMe M I I' → mES I' J W L r.1 o (pe' ++ ops) (s + c0.length) → (∀ q, q < s → I' 207 q = I 207 q ∧ I' 208 q = I 208 q) → mXa (I' 207) (I' 208) (c0.map mMp) s → WP (d + 4) 162 96 [.ref 180, .int 0, .int 1] [] (mHh xL I' J (mRf rc rx rr)) Q
def mPost (M : Nat) (xL rc rx rr d m o s : Nat) (pe ops : List Nat) (I : Nat → Nat → Int32) (J : Nat → Nat → Int64) (W : Nat → Int32) (L : Nat) (Q : Option Value → mHp → Prop) : (Nat × Nat) ⊕ (Nat × mCod) → Prop
  | .inl f => mFai M xL rc rx rr I J W L Q f
  | .inr r => mSuc M xL rc rx rr d m o s pe ops I J W L Q r
def mOK (xL rc rx rr d B : Nat) (J : Nat → Nat → Int64) (W : Nat → Int32) (L n m : Nat) : Prop := ∀ o t I s ops pe Q, o ≤ 6 → 4 * (402 - t) + gWt m ≤ n → mES I J W L t o (pe ++ ops) s → shE m pe → bsO m ops → nk m (kk W L t) → ops.length ≤ lb m o → s + (pe ++ ops).length ≤ B + t → mPost (B + 405) xL rc rx rr d m o s pe ops I J W L Q (pE W L n m o t) → WP (d + 4) 162 (pcE m) [.ref 180, .int 0, .int 1] [] (mHh xL I J (mRf rc rx rr)) Q
theorem mXo_l {I I' : Nat → Nat → Int32} : ∀ r : List Nat, (∀ j, j < r.length → I' 209 j = I 209 j) → mXo I r → mXo I' r := by
  intro r
  induction r with
  | nil => intro _ _; trivial
  | cons x r ih =>
    intro e h
    rw [List.length_cons] at e
    exact ⟨by rw [e r.length (by omega)]; exact h.1, h.2.1, ih (fun j hj => e j (by omega)) h.2.2⟩
theorem PB_st {l : List Nat} (h : PB l) : (∀ x, x ∈ l → stp false x = false) ∧ l.length ≤ 2 := by
  obtain ⟨a, b, ha, hb, rfl⟩ := h
  rcases ha with rfl | rfl | rfl <;> rcases hb with rfl | rfl | rfl <;> exact (by decide)
theorem PM_st {l : List Nat} (h : PM l) : (∀ x, x ∈ l → stp true x = false) ∧ l.length ≤ 1 := by
  rcases h with rfl | rfl | rfl <;> exact (by decide)
theorem PM_B {l : List Nat} (h : PM l) : PB l := ⟨l, [], h, Or.inl rfl, (List.append_nil l).symm⟩
theorem stB_t {ops : List Nat} (h : stB false ops) : stB true ops := by
  cases ops with
  | nil => exact ⟨rfl, rfl⟩
  | cons x r =>
    obtain ⟨-, h2⟩ := h
    rw [coC] at h2
    by_cases c : stp false x = true
    · have c2 : stp true x = true := by
        rw [stp] at c ⊢
        have : decide (x = 6) = true := by simpa using c
        rw [this]; rfl
      exact ⟨by rw [coR, if_pos c2], by rw [coC, if_pos c2]⟩
    · rw [if_neg c] at h2; cases h2
theorem stB_c {b : Bool} {x : Nat} (h : stp b x = true) (r : List Nat) : stB b (x :: r) := ⟨by rw [coR, if_pos h], by rw [coC, if_pos h]⟩
section MEX
variable {d B : Nat} {xL : Nat} {I : Nat → Nat → Int32} {J : Nat → Nat → Int64} {rc rx rr : Nat} {Q : Option Value → mHp → Prop} {L : Nat} {W : Nat → Int32} {t f i : Nat}
/-- from 204 on: all that waits comes out, then back -/
theorem x204 {ops : List Nat} {s : Nat} {v1 v2 : Value} (ho : mXo I ops) (h5 : I 180 45 = nI ops.length) (h6 : ops.length ≤ 64) (h41 : I 180 41 = nI s) (h8 : s + ops.length ≤ 840) : WP (d + 4) 162 204 [.ref 180, v1, v2] [] (mHh xL I J (mRf rc rx rr)) Q = Q none (mHh xL (coI false ops s I) J (mRf rc rx rr)) := by
  have c := fun Q' => c165 (d := d + 2) (xL := xL) (J := J) (rc := rc) (rx := rx) (rr := rr) (Q := Q') (b := false) ops s I mDum ho h5 h6 h41 h8
  simp only [sB_f] at c
  simp only [w162_204, w162_205, w162_206, c, ↓reduceIte, Option.toList_some, Option.toList_none, List.cons_append, List.nil_append, Int32.reduceAdd, Int32.reduceLT, Int32.reduceLE, Int32.reduceToNatClampNeg, w162_209]
theorem coI_e {ops : List Nat} {s : Nat} {b : Bool} (h5 : I 180 45 = nI ops.length) (h41 : I 180 41 = nI s) (h8 : s + ops.length ≤ B + 405) (hB : B ≤ 430) : fMe (B + 405) I (coI b ops s I) := by
  obtain ⟨⟨p1, p2⟩, -⟩ := coI_p b ops s I h5 h41
  exact ⟨fun a h0 h7 h8 _ => p1 a h0 h7 h8, fun j _ _ _ _ h4 h5 => p2 j h4 h5, coI_c (by omega) b ops s I h5 h41 h8⟩
theorem mRD_co {ops : List Nat} {s : Nat} {b : Bool} (h : mRD I J W L t f i) (h5 : I 180 45 = nI ops.length) (h41 : I 180 41 = nI s) : mRD (coI b ops s I) J W L t f i := by
  obtain ⟨⟨p1, p2⟩, -⟩ := coI_p b ops s I h5 h41
  exact mRD_e h (fun a ha => p1 a (by omega) (by omega) (by omega)) (fun j hj => p2 j (by omega) (by omega))
/-- at 96 in a fault -/
theorem x96f (hB : B ≤ 430) (h : mRD I J W L t f i) (f0 : f ≠ 0) {ops : List Nat} {s o : Nat} (h12 : I 180 12 = nI o) (o7 : o ≤ 7) (ho : mXo I ops) (h5 : I 180 45 = nI ops.length) (h6 : ops.length ≤ 64) (h41 : I 180 41 = nI s) (h8 : s + ops.length ≤ B + 405) (hF : mFai (B + 405) xL rc rx rr I J W L Q (f, i)) : WP (d + 4) 162 96 [.ref 180, .int 0, .int 1] [] (mHh xL I J (mRf rc rx rr)) Q := by
  have go : (nI o ≤ 0) ↔ o = 0 := by rw [in_le 0 (by decide) (by omega)]; omega
  have c := fun Q' (y : Int32) => c148f (d := d + 3) (xL := xL) (rc := rc) (rx := rx) (rr := rr) (Q := Q') (y := y) h f0
  have fin := hF _ t (coI_e (b := false) h5 h41 h8 hB) (mRD_co h h5 h41) f0
  simp only [w162_96, w162_97, w162_99, c, ↓reduceIte, Option.toList_some, Option.toList_none, List.cons_append, List.nil_append, Int32.reduceAdd, Int32.reduceLT, Int32.reduceLE, Int32.reduceToNatClampNeg, w162_102, w162_145, w162_146, w162_148, w162_151, w162_154, w162_155, w162_157, w162_160, w162_163, w162_164, w162_166, w162_169, w162_172, w162_173, w162_175, w162_178, w162_185, w162_186, w162_187, w162_188, w162_191, w162_192, h12, w162_195, w162_196, go]
  by_cases o0 : o = 0
  · rw [if_pos o0, x204 ho h5 h6 h41 (by omega)]
    exact fin
  · rw [if_neg o0]
    simp only [w162_199, w162_200, w162_201, c151f h f0, ↓reduceIte, Option.toList_some, Option.toList_none, List.cons_append, List.nil_append, Int32.reduceAdd, Int32.reduceLT, Int32.reduceLE, Int32.reduceToNatClampNeg]
    rw [x204 ho h5 h6 h41 (by omega)]
    exact fin
/-- at 96 with nothing to go on with -/
theorem x96e (hB : B ≤ 430) (h : mRD I J W L t 0 i) {ops : List Nat} {s o : Nat} (hk : (kk W L t ≠ 8 ∧ kk W L t ≠ 9) ∧ kk W L t ≠ 10 ∧ kk W L t ≠ 15) (h7 : kk W L t ≠ 7 ∨ o = 0) (h12 : I 180 12 = nI o) (o7 : o ≤ 7) (ho : mXo I ops) (h5 : I 180 45 = nI ops.length) (h6 : ops.length ≤ 64) (h41 : I 180 41 = nI s) (h8 : s + ops.length ≤ B + 405) (hE : o = 0 → Q none (mHh xL (coI false ops s I) J (mRf rc rx rr))) (hF : o ≠ 0 → mFai (B + 405) xL rc rx rr I J W L Q (1, t)) : WP (d + 4) 162 96 [.ref 180, .int 0, .int 1] [] (mHh xL I J (mRf rc rx rr)) Q := by
  have go : (nI o ≤ 0) ↔ o = 0 := by rw [in_le 0 (by decide) (by omega)]; omega
  have c7 := fun Q' => c148 (d := d + 3) (xL := xL) (rc := rc) (rx := rx) (rr := rr) (Q := Q') (κ := 7) h (by decide) (show (7 : Int32) = nI 7 from rfl)
  have c8 := fun Q' => c148 (d := d + 3) (xL := xL) (rc := rc) (rx := rx) (rr := rr) (Q := Q') (κ := 8) h (by decide) (show (8 : Int32) = nI 8 from rfl)
  have c9 := fun Q' => c148 (d := d + 3) (xL := xL) (rc := rc) (rx := rx) (rr := rr) (Q := Q') (κ := 9) h (by decide) (show (9 : Int32) = nI 9 from rfl)
  have c10 := fun Q' => c148 (d := d + 3) (xL := xL) (rc := rc) (rx := rx) (rr := rr) (Q := Q') (κ := 10) h (by decide) (show (10 : Int32) = nI 10 from rfl)
  have c15 := fun Q' => c148 (d := d + 3) (xL := xL) (rc := rc) (rx := rx) (rr := rr) (Q := Q') (κ := 15) h (by decide) (show (15 : Int32) = nI 15 from rfl)
  simp only [hk.1.1, hk.1.2, hk.2.1, hk.2.2, decide_false, sB_f] at c8 c9 c10 c15
  have g145 : WP (d + 4) 162 145 [.ref 180, .int 0, .int 1] [] (mHh xL I J (mRf rc rx rr)) Q := by
    simp only [w162_145, w162_146, w162_148, c8, ↓reduceIte, Option.toList_some, Option.toList_none, List.cons_append, List.nil_append, Int32.reduceAdd, Int32.reduceLT, Int32.reduceLE, Int32.reduceToNatClampNeg, w162_151, w162_154, w162_155, w162_157, c9, w162_160, w162_163, w162_164, w162_166, c10, w162_169, w162_172, w162_173, w162_175, c15, w162_178, w162_185, w162_186, w162_187, w162_188, w162_191, w162_192, h12, w162_195, w162_196, go]
    by_cases o0 : o = 0
    · rw [if_pos o0, x204 ho h5 h6 h41 (by omega)]
      exact hE o0
    · rw [if_neg o0]
      have e := mFlt_f I 1 (nI (tp W L t))
      have m1 := mRD_fl h (g := 1) (by decide) (by decide)
      have h5' : mFlt I 1 (nI (tp W L t)) 180 45 = nI ops.length := by rw [e.2 45 (by decide) (by decide) (by decide)]; exact h5
      have h41' : mFlt I 1 (nI (tp W L t)) 180 41 = nI s := by rw [e.2 41 (by decide) (by decide) (by decide)]; exact h41
      simp only [w162_199, w162_200, w162_201, c151 h, ↓reduceIte, Option.toList_some, Option.toList_none, List.cons_append, List.nil_append, Int32.reduceAdd, Int32.reduceLT, Int32.reduceLE, Int32.reduceToNatClampNeg]
      rw [x204 (mXo_k (e.1 209 (by decide)) ops ho) h5' h6 h41' (by omega)]
      exact hF o0 _ t (fMe_t (fM1_e e) (coI_e (b := false) h5' h41' h8 hB)) (mRD_co m1 h5' h41') (by decide : (1 : Nat) ≠ 0)
  simp only [w162_96, w162_97, w162_99, c7, ↓reduceIte, Option.toList_some, Option.toList_none, List.cons_append, List.nil_append, Int32.reduceAdd, Int32.reduceLT, Int32.reduceLE, Int32.reduceToNatClampNeg, w162_102]
  by_cases k7 : kk W L t = 7
  · have o0 : o = 0 := by rcases h7 with x | x; exact absurd k7 x; exact x
    simp only [k7, decide_true, sB_t, o01, ↓reduceIte, w162_105, w162_106, h12, w162_109, w162_110, go, if_pos o0]
    exact g145
  · simp only [k7, decide_false, sB_f, ↓reduceIte]
    exact g145
/-- at 60 in a fault -/
theorem x60f (h : mRD I J W L t f i) (f0 : f ≠ 0) {k : Nat} (h5 : I 180 45 = nI k) (h6 : k < 64) (hF : mFai (B + 405) xL rc rx rr I J W L Q (f, i)) : WP (d + 4) 162 60 [.ref 180, .int 0, .int 1] [] (mHh xL I J (mRf rc rx rr)) Q := by
  have m1 : mIn (nI k) 64 = true := mIn_nI (by omega) (by omega)
  have m2 : (nI k).toNatClampNeg = k := nI_clamp (by omega)
  have z5 : mU I 209 k 6 180 45 = nI k := by rw [mU_a (by decide)]; exact h5
  have h' : mRD (mU (mU I 209 k 6) 180 45 (nI (k + 1))) J W L t f i := by
    refine mRD_e h (fun a ha => ?_) (fun j hj => ?_)
    · rw [mU_f (by omega), mU_f (by omega)]
    · rw [mU_k (by omega), mU_a (by decide)]
  have e13 : ¬ mU (mU I 209 k 6) 180 45 (nI (k + 1)) 180 13 ≤ 0 := by
    have hf := h.2.2.2.2.2.1
    rw [h'.2.2.2.2.1, in_le 0 (by decide) (by omega)]; omega
  simp only [w162_60, w162_61, w162_64, h5, w162_65, w162_68, w162_70, m1, m2, w162_71, w162_72, w162_73, z5, w162_76, w162_77, nI_1, w162_78, w162_81, w162_23, w162_24, w162_26, c148f h' f0, ↓reduceIte, Option.toList_some, Option.toList_none, List.cons_append, List.nil_append, Int32.reduceAdd, Int32.reduceLT, Int32.reduceLE, Int32.reduceToNatClampNeg, w162_29, w162_84, w162_85, c163f (d := d + 1) h' f0, w162_88, w162_89, w162_92, e13, w162_95]
  refine hF _ t ⟨fun a h0 _ _ h9 => by rw [mU_f h0, mU_f h9], fun j _ _ _ _ _ h4 => by rw [mU_k h4, mU_a (by decide)], fCd_e (by rw [mU_k (by decide), mU_a (by decide)]) (by rw [mU_f (by decide), mU_f (by decide)]) (by rw [mU_f (by decide), mU_f (by decide)])⟩ h' f0
end MEX
