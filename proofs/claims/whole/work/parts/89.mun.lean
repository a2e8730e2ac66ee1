/-! What waits comes out; the model's unit. -/
def coR (b : Bool) : List Nat → List Nat
  | [] => []
  | x :: r => if stp b x then x :: r else coR b r
def oq (l : List Nat) : mCod := l.map (fun x => (oc x, (0 : Int32)))
def coC (b : Bool) : List Nat → mCod
  | [] => []
  | x :: r => if stp b x then [] else (oc x, 0) :: coC b r
def fCd (M : Nat) (I I' : Nat → Nat → Int32) : Prop := ∀ s, s ≤ M → I 180 41 = nI s → ∃ s', s ≤ s' ∧ s' ≤ M ∧ I' 180 41 = nI s' ∧ ∀ q, (q < s ∨ s' ≤ q) → I' 207 q = I 207 q ∧ I' 208 q = I 208 q
theorem fCd_e {M : Nat} {I I' : Nat → Nat → Int32} (e : I' 180 41 = I 180 41) (e7 : I' 207 = I 207) (e8 : I' 208 = I 208) : fCd M I I' := fun s hs h => ⟨s, Nat.le_refl _, hs, by rw [e]; exact h, fun q _ => by rw [e7, e8]; exact ⟨rfl, rfl⟩⟩
theorem fCd_t {M : Nat} {I I1 I2 : Nat → Nat → Int32} (h1 : fCd M I I1) (h2 : fCd M I1 I2) : fCd M I I2 := by
  intro s hs h
  obtain ⟨a, a1, a2, a3, a4⟩ := h1 s hs h
  obtain ⟨b, b1, b2, b3, b4⟩ := h2 a a2 a3
  refine ⟨b, by omega, b2, b3, fun q hq => ?_⟩
  obtain ⟨u1, u2⟩ := a4 q (by omega)
  obtain ⟨v1, v2⟩ := b4 q (by omega)
  exact ⟨v1.trans u1, v2.trans u2⟩
/-- what an expression may change; its code goes up to M at most -/
def fMe (M : Nat) (I I' : Nat → Nat → Int32) : Prop := (∀ a, a ≠ 180 → a ≠ 207 → a ≠ 208 → a ≠ 209 → I' a = I a) ∧ (∀ j, j ≠ 11 → j ≠ 12 → j ≠ 13 → j ≠ 14 → j ≠ 41 → j ≠ 45 → I' 180 j = I 180 j) ∧ fCd M I I'
theorem fMe_0 {M : Nat} {I : Nat → Nat → Int32} : fMe M I I := ⟨fun _ _ _ _ _ => rfl, fun _ _ _ _ _ _ _ => rfl, fCd_e rfl rfl rfl⟩
theorem fMe_t {M : Nat} {I I1 I2 : Nat → Nat → Int32} (h1 : fMe M I I1) (h2 : fMe M I1 I2) : fMe M I I2 := ⟨fun a x y z w => by rw [h2.1 a x y z w, h1.1 a x y z w], fun j x y z w u v => by rw [h2.2.1 j x y z w u v, h1.2.1 j x y z w u v], fCd_t h1.2.2 h2.2.2⟩
theorem fM1_e {M : Nat} {I I' : Nat → Nat → Int32} (h : fM1 I I') : fMe M I I' := ⟨fun a x _ _ _ => h.1 a x, fun j x _ y z _ _ => h.2 j x y z, fCd_e (h.2 41 (by decide) (by decide) (by decide)) (h.1 207 (by decide)) (h.1 208 (by decide))⟩
theorem fCd_ec {M : Nat} {I : Nat → Nat → Int32} {s : Nat} (hs : I 180 41 = nI s) (h8 : s < M) (hM : M ≤ 840) (x y : Int32) : fCd M I (ecU I s x y) := by
  intro s0 h0 e
  have e2 : s0 = s := (nI_eq (by omega) (by omega)).1 (e.symm.trans hs)
  subst e2
  refine ⟨s0 + 1, by omega, by omega, mU_s _ _ _ _, fun q hq => ⟨?_, ?_⟩⟩
  · rw [ecU, mU_a (by decide), mU_a (by decide), mU_k (by omega)]
  · rw [ecU, mU_a (by decide), mU_k (by omega), mU_a (by decide)]
theorem ecU_e {M : Nat} {I : Nat → Nat → Int32} {s : Nat} (hs : I 180 41 = nI s) (h8 : s < M) (hM : M ≤ 840) (x y : Int32) : fMe M I (ecU I s x y) := ⟨fun a h0 h7 h8 _ => by rw [ecU, mU_f h0, mU_f h8, mU_f h7], fun j _ _ _ _ h4 _ => by rw [ecU, mU_k h4, mU_a (by decide), mU_a (by decide)], fCd_ec hs h8 hM x y⟩
theorem ecU_r (I : Nat → Nat → Int32) (s : Nat) (x y : Int32) : ecU I s x y 180 41 = nI (s + 1) ∧ ecU I s x y 207 s = x ∧ ecU I s x y 208 s = y ∧ ∀ q, q ≠ s → ecU I s x y 207 q = I 207 q ∧ ecU I s x y 208 q = I 208 q := by
  refine ⟨mU_s _ _ _ _, ?_, ?_, fun q hq => ⟨?_, ?_⟩⟩
  · rw [ecU, mU_a (by decide), mU_a (by decide), mU_s]
  · rw [ecU, mU_a (by decide), mU_s]
  · rw [ecU, mU_a (by decide), mU_a (by decide), mU_k hq]
  · rw [ecU, mU_a (by decide), mU_k hq, mU_a (by decide)]
theorem coI_p (b : Bool) : ∀ (ops : List Nat) (s : Nat) (I : Nat → Nat → Int32), I 180 45 = nI ops.length → I 180 41 = nI s → ((∀ a, a ≠ 180 → a ≠ 207 → a ≠ 208 → coI b ops s I a = I a) ∧ (∀ j, j ≠ 41 → j ≠ 45 → coI b ops s I 180 j = I 180 j)) ∧ (coI b ops s I 180 45 = nI (coR b ops).length ∧ coI b ops s I 180 41 = nI (s + (coC b ops).length)) ∧ (∀ q, q < s → coI b ops s I 207 q = I 207 q ∧ coI b ops s I 208 q = I 208 q) ∧ mXa (coI b ops s I 207) (coI b ops s I 208) ((coC b ops).map mMp) s := by
  intro ops
  induction ops with
  | nil => intro s I h5 h4; exact ⟨⟨fun _ _ _ _ => rfl, fun _ _ _ => rfl⟩, ⟨h5, h4⟩, fun _ _ => ⟨rfl, rfl⟩, trivial⟩
  | cons x r ih =>
    intro s I h5 h4
    rw [coI, coR, coC]
    by_cases hs : stp b x = true
    · rw [if_pos hs, if_pos hs, if_pos hs]
      exact ⟨⟨fun _ _ _ _ => rfl, fun _ _ _ => rfl⟩, ⟨h5, h4⟩, fun _ _ => ⟨rfl, rfl⟩, trivial⟩
    · rw [if_neg hs, if_neg hs, if_neg hs]
      obtain ⟨u1, u2, u3, u4⟩ := ecU_r (mU I 180 45 (nI r.length)) s (nI (oc x)) 0
      have z45 : ecU (mU I 180 45 (nI r.length)) s (nI (oc x)) 0 180 45 = nI r.length := by rw [ecU, mU_k (by decide), mU_a (by decide), mU_a (by decide), mU_s]
      obtain ⟨⟨i1, i2⟩, ⟨i3, i4⟩, i5, i6⟩ := ih (s + 1) _ z45 u1
      refine ⟨⟨fun a h0 h7 h8 => ?_, fun j h1 h2 => ?_⟩, ⟨i3, ?_⟩, fun q hq => ?_, ?_, ?_, i6⟩
      · rw [i1 a h0 h7 h8, ecU, mU_f h0, mU_f h8, mU_f h7, mU_f h0]
      · rw [i2 j h1 h2, ecU, mU_k h1, mU_a (by decide), mU_a (by decide), mU_k h2]
      · rw [i4, List.length_cons]
        congr 1
        omega
      · obtain ⟨a, c⟩ := i5 q (by omega)
        obtain ⟨a2, c2⟩ := u4 q (by omega)
        exact ⟨a.trans (a2.trans (by rw [mU_a (by decide)])), c.trans (c2.trans (by rw [mU_a (by decide)]))⟩
      · exact (i5 s (by omega)).1.trans u2
      · exact (i5 s (by omega)).2.trans u3
theorem coI_c {M : Nat} (hM : M ≤ 840) (b : Bool) : ∀ (ops : List Nat) (s : Nat) (I : Nat → Nat → Int32), I 180 45 = nI ops.length → I 180 41 = nI s → s + ops.length ≤ M → fCd M I (coI b ops s I) := by
  intro ops
  induction ops with
  | nil => intro s I _ _ _; exact fCd_e rfl rfl rfl
  | cons x r ih =>
    intro s I h5 h4 h8
    rw [List.length_cons] at h8
    rw [coI]
    by_cases hs : stp b x = true
    · rw [if_pos hs]; exact fCd_e rfl rfl rfl
    · rw [if_neg hs]
      have z41 : mU I 180 45 (nI r.length) 180 41 = nI s := by rw [mU_k (by decide)]; exact h4
      have z45 : ecU (mU I 180 45 (nI r.length)) s (nI (oc x)) 0 180 45 = nI r.length := by rw [ecU, mU_k (by decide), mU_a (by decide), mU_a (by decide), mU_s]
      refine fCd_t (fCd_e (I' := mU I 180 45 (nI r.length)) (mU_k (by decide)) (mU_f (by decide)) (mU_f (by decide))) (fCd_t (fCd_ec z41 (by omega) hM (nI (oc x)) 0) (ih (s + 1) _ z45 (mU_s _ _ _ _) (by omega)))
theorem mXo_d : ∀ (a b : List Nat) (I : Nat → Nat → Int32), mXo I (a ++ b) → mXo I b := by
  intro a
  induction a with
  | nil => intro b I h; exact h
  | cons x a ih => intro b I h; exact ih b I h.2.2
/-- pops all of pe, none of r, when none of pe stops and the first of r does -/
theorem co_app {b : Bool} {r : List Nat} (hr : coR b r = r ∧ coC b r = []) : ∀ pe : List Nat, (∀ x, x ∈ pe → stp b x = false) → coR b (pe ++ r) = r ∧ coC b (pe ++ r) = oq pe := by
  intro pe
  induction pe with
  | nil => intro _; exact hr
  | cons x pe ih =>
    intro h
    have hx := h x (List.mem_cons_self ..)
    obtain ⟨i1, i2⟩ := ih (fun y hy => h y (List.mem_cons_of_mem _ hy))
    rw [List.cons_append, coR, coC, if_neg (by rw [hx]; decide), if_neg (by rw [hx]; decide), i1, i2]
    exact ⟨rfl, rfl⟩
section MUN
variable {d : Nat} {xL : Nat} {I : Nat → Nat → Int32} {J : Nat → Nat → Int64} {rc rx rr : Nat} {Q : Option Value → mHp → Prop} {L : Nat} {W : Nat → Int32} {t f i : Nat}
theorem mRD_e {I' : Nat → Nat → Int32} (h : mRD I J W L t f i) (fr : ∀ a, a = 183 ∨ a = 184 ∨ a = 185 → I' a = I a) (e : ∀ j, j = 10 ∨ j = 11 ∨ j = 13 ∨ j = 14 → I' 180 j = I 180 j) : mRD I' J W L t f i := mRD_keep h e (fr 183 (by omega)) (fr 184 (by omega)) (fr 185 (by omega))
theorem mRD_ec (h : mRD I J W L t f i) (s : Nat) (x y : Int32) : mRD (ecU I s x y) J W L t f i := by
  refine mRD_e h (fun a ha => ?_) (fun j hj => ?_)
  · rw [ecU, mU_f (by omega), mU_f (by omega), mU_f (by omega)]
  · rw [ecU, mU_k (by omega), mU_a (by decide), mU_a (by decide)]
theorem c163a (h : mRD I J W L t 0 i) {s : Nat} (hs : I 180 41 = nI s) (h8 : s < 840) {p : Nat × Int32} (hp : kk W L t = 2 ∧ p = (0, nI (kv W L t)) ∨ (31 ≤ kk W L t ∧ kk W L t ≤ 39) ∧ p = (1, nI (kk W L t - 31))) (hQ : ∀ I', fM1 (ecU I s (nI p.1) p.2) I' → (∀ f, nx t = .inl f → mRD I' J W L t f.1 f.2) → (∀ t1, nx t = .inr t1 → mRD I' J W L t1 0 0) → Q none (mHh xL I' J (mRf rc rx rr))) : WP (d + 2) 163 0 [.ref 180] [] (mHh xL I J (mRf rc rx rr)) Q := by
  have kd := mRD_k h
  have h4 := h.2.2.2.1
  have ht := h.2.1
  have e13 : I 180 13 = 0 := h.2.2.2.2.1
  have m1 : mIn (nI t) 403 = true := mIn_nI (by omega) (by omega)
  have m2 : (nI t).toNatClampNeg = t := nI_clamp (by omega)
  have k03 : kk W L t ≠ 0 ∧ kk W L t ≠ 3 := by rcases hp with hp | hp <;> omega
  rcases hp with ⟨k2, rfl⟩ | ⟨kv', rfl⟩
  · have kvv := kd.2.2.1 k2
    simp only [w163_0, w163_1, w163_2, c148 (d := d + 1) (κ := 2) h (by decide) (show (2 : Int32) = nI 2 from rfl), k2, decide_true, sB_t, ↓reduceIte, Option.toList_some, Option.toList_none, List.cons_append, List.nil_append, Int32.reduceAdd, Int32.reduceLT, Int32.reduceLE, Int32.reduceToNatClampNeg, w163_5, o01, w163_8, w163_9, w163_10, w163_11, w163_14, w163_15, h4, w163_18, m1, m2, kvv, w163_19, c164 hs h8, w163_22, w163_23]
    refine c152n (d := d) (mRD_ec h s 0 (nI (kv W L t))) k03 ?_
    intro I' r1 q1 q2
    simp only [↓reduceIte, Option.toList_some, Option.toList_none, List.cons_append, List.nil_append, Int32.reduceAdd, Int32.reduceLT, Int32.reduceLE, Int32.reduceToNatClampNeg, w163_26, w163_93]
    exact hQ I' r1 q1 q2
  · have n2 : ¬ kk W L t = 2 := by omega
    have g1 : ¬ nI (kk W L t) < 31 := by rw [in_lt 31 (by decide) (by omega)]; omega
    have g2 : ¬ 39 < nI (kk W L t) := by rw [ni_lt 39 (by decide) (by omega)]; omega
    have e31 : nI (kk W L t) - 31 = nI (kk W L t - 31) := nI_sbx (b := 31) (by omega)
    simp only [w163_0, w163_1, w163_2, c148 (d := d + 1) (κ := 2) h (by decide) (show (2 : Int32) = nI 2 from rfl), n2, decide_false, sB_f, ↓reduceIte, Option.toList_some, Option.toList_none, List.cons_append, List.nil_append, Int32.reduceAdd, Int32.reduceLT, Int32.reduceLE, Int32.reduceToNatClampNeg, w163_5, w163_29, w163_30, e13, w163_33, w163_36, w163_37, w163_40, w163_41, h4, w163_44, m1, m2, kd.1, w163_45, w163_47, g1, w163_50, w163_51, w163_54, w163_55, w163_58, w163_59, w163_61, g2, w163_64, w163_65, w163_66, w163_67, w163_70, w163_71, w163_74, w163_75, w163_77, e31, w163_78, c164 hs h8, w163_81, w163_82]
    refine c152n (d := d) (mRD_ec h s 1 (nI (kk W L t - 31))) k03 ?_
    intro I' r1 q1 q2
    simp only [↓reduceIte, Option.toList_some, Option.toList_none, List.cons_append, List.nil_append, Int32.reduceAdd, Int32.reduceLT, Int32.reduceLE, Int32.reduceToNatClampNeg, w163_85, w163_93]
    exact hQ I' r1 q1 q2
theorem c163m (h : mRD I J W L t 0 i) (hp : kk W L t ≠ 2 ∧ ¬ (31 ≤ kk W L t ∧ kk W L t ≤ 39)) : WP (d + 2) 163 0 [.ref 180] [] (mHh xL I J (mRf rc rx rr)) Q = Q none (mHh xL (mFlt I 1 (nI (tp W L t))) J (mRf rc rx rr)) := by
  have kd := mRD_k h
  have h4 := h.2.2.2.1
  have ht := h.2.1
  have e13 : I 180 13 = 0 := h.2.2.2.2.1
  have m1 : mIn (nI t) 403 = true := mIn_nI (by omega) (by omega)
  have m2 : (nI t).toNatClampNeg = t := nI_clamp (by omega)
  have hlt := tKd_lt W L (tp W L t)
  change kk W L t < 40 at hlt
  have g1 : nI (kk W L t) < 31 := by rw [in_lt 31 (by decide) (by omega)]; omega
  simp only [w163_0, w163_1, w163_2, c148 (d := d + 1) (κ := 2) h (by decide) (show (2 : Int32) = nI 2 from rfl), hp.1, decide_false, sB_f, ↓reduceIte, Option.toList_some, Option.toList_none, List.cons_append, List.nil_append, Int32.reduceAdd, Int32.reduceLT, Int32.reduceLE, Int32.reduceToNatClampNeg, w163_5, w163_29, w163_30, e13, w163_33, w163_36, w163_37, w163_40, w163_41, h4, w163_44, m1, m2, kd.1, w163_45, w163_47, g1, w163_88, w163_89, w163_90, c151 h, w163_93]
theorem c163f (h : mRD I J W L t f i) (f0 : f ≠ 0) : WP (d + 2) 163 0 [.ref 180] [] (mHh xL I J (mRf rc rx rr)) Q = Q none (mHh xL I J (mRf rc rx rr)) := by
  have e : ¬ I 180 13 = 0 := by rw [h.2.2.2.2.1, in_eq 0 (by decide) (by have := h.2.2.2.2.2.1; omega)]; exact f0
  simp only [w163_0, w163_1, w163_2, c148f h f0, ↓reduceIte, Option.toList_some, Option.toList_none, List.cons_append, List.nil_append, Int32.reduceAdd, Int32.reduceLT, Int32.reduceLE, Int32.reduceToNatClampNeg, w163_5, w163_29, w163_30, w163_33, e, w163_88, w163_89, w163_90, c151f h f0, w163_93]
end MUN
