/-! The model's reader: what it stands at, its hands, the signs that wait. -/
def mRD (I : Nat → Nat → Int32) (J : Nat → Nat → Int64) (W : Nat → Int32) (L t f i : Nat) : Prop := (∃ n, mTk I J W L n) ∧ t ≤ 400 ∧ (f = 0 → kLv W L t) ∧ I 180 11 = nI t ∧ I 180 13 = nI f ∧ f < 6 ∧ (f ≠ 0 → I 180 14 = nI (tp W L i))
/-- all else stands -/
def fM1 (I I' : Nat → Nat → Int32) : Prop := (∀ a, a ≠ 180 → I' a = I a) ∧ ∀ j, j ≠ 11 → j ≠ 13 → j ≠ 14 → I' 180 j = I 180 j
theorem fM1_0 {I : Nat → Nat → Int32} : fM1 I I := ⟨fun _ _ => rfl, fun _ _ _ _ => rfl⟩
theorem fM1_t {I I1 I2 : Nat → Nat → Int32} (h1 : fM1 I I1) (h2 : fM1 I1 I2) : fM1 I I2 := ⟨fun a x => by rw [h2.1 a x, h1.1 a x], fun j x y z => by rw [h2.2 j x y z, h1.2 j x y z]⟩
theorem mTk_keep {I I' : Nat → Nat → Int32} {J : Nat → Nat → Int64} {W : Nat → Int32} {L : Nat} (h : ∃ n, mTk I J W L n) (e10 : I' 180 10 = I 180 10) (e3 : I' 183 = I 183) (e4 : I' 184 = I 184) (e5 : I' 185 = I 185) : ∃ n, mTk I' J W L n := by
  obtain ⟨n, ⟨a1, a2, a3⟩, b, c⟩ := h
  refine ⟨n, ⟨a1, a2, by rw [e10]; exact a3⟩, fun k hk => ?_, c⟩
  have := b k hk
  rw [mRwT, e3, e4, e5]
  exact this
theorem mRD_keep {I I' : Nat → Nat → Int32} {J : Nat → Nat → Int64} {W : Nat → Int32} {L t f i : Nat} (h : mRD I J W L t f i) (e : ∀ j, j = 10 ∨ j = 11 ∨ j = 13 ∨ j = 14 → I' 180 j = I 180 j) (e3 : I' 183 = I 183) (e4 : I' 184 = I 184) (e5 : I' 185 = I 185) : mRD I' J W L t f i := by
  obtain ⟨h1, h2, h3, h4, h5, h6, h7⟩ := h
  exact ⟨mTk_keep h1 (e 10 (by omega)) e3 e4 e5, h2, h3, by rw [e 11 (by omega)]; exact h4, by rw [e 13 (by omega)]; exact h5, h6, fun z => by rw [e 14 (by omega)]; exact h7 z⟩
def mFlt (I : Nat → Nat → Int32) (g p : Int32) : Nat → Nat → Int32 := mU (mU I 180 13 g) 180 14 p
theorem mFlt_f (I : Nat → Nat → Int32) (g p : Int32) : fM1 I (mFlt I g p) := ⟨fun a ha => by rw [mFlt, mU_f ha, mU_f ha], fun j _ h3 h4 => by rw [mFlt, mU_k h4, mU_k h3]⟩
theorem mRD_fl {I : Nat → Nat → Int32} {J : Nat → Nat → Int64} {W : Nat → Int32} {L t i : Nat} (h : mRD I J W L t 0 i) {g : Nat} (hg : g < 6) (g0 : g ≠ 0) : mRD (mFlt I (nI g) (nI (tp W L t))) J W L t g t := by
  obtain ⟨h1, h2, h3, h4, h5, h6, h7⟩ := h
  have f := mFlt_f I (nI g) (nI (tp W L t))
  refine ⟨mTk_keep h1 (f.2 10 (by decide) (by decide) (by decide)) (f.1 183 (by decide)) (f.1 184 (by decide)) (f.1 185 (by decide)), h2, fun z => absurd z g0, ?_, ?_, hg, fun _ => mU_s _ _ _ _⟩
  · rw [mFlt, mU_k (by decide), mU_k (by decide)]; exact h4
  · rw [mFlt, mU_k (by decide), mU_s]
theorem go_f (I : Nat → Nat → Int32) (x : Int32) : fM1 I (mU I 180 11 x) := ⟨fun a ha => by rw [mU_f ha], fun j h2 _ _ => by rw [mU_k h2]⟩
theorem mRD_go {I : Nat → Nat → Int32} {J : Nat → Nat → Int64} {W : Nat → Int32} {L t f i : Nat} (h : mRD I J W L t f i) (ht : t < 400) (hk : f = 0 → kk W L t ≠ 0 ∧ kk W L t ≠ 3) : mRD (mU I 180 11 (nI (t + 1))) J W L (t + 1) f i := by
  obtain ⟨h1, h2, h3, h4, h5, h6, h7⟩ := h
  have fr := go_f I (nI (t + 1))
  refine ⟨mTk_keep h1 (fr.2 10 (by decide) (by decide) (by decide)) (fr.1 183 (by decide)) (fr.1 184 (by decide)) (fr.1 185 (by decide)), by omega, fun z => ⟨by omega, fun j hj => ?_⟩, mU_s _ _ _ _, ?_, h6, fun z => ?_⟩
  · by_cases e : j = t
    · subst e; exact hk z
    · exact (h3 z).2 j (by omega)
  · rw [mU_k (by decide)]; exact h5
  · rw [mU_k (by decide)]; exact h7 z
/-- the signs that wait, the last first -/
def mXo (I : Nat → Nat → Int32) : List Nat → Prop
  | [] => True
  | x :: r => I 209 r.length = nI x ∧ x < 40 ∧ mXo I r
def oc (x : Nat) : Nat := if x = 8 then 2 else if x = 9 then 3 else if x = 10 then 4 else 5
def ecU (I : Nat → Nat → Int32) (s : Nat) (x y : Int32) : Nat → Nat → Int32 := mU (mU (mU I 207 s x) 208 s y) 180 41 (nI (s + 1))
def stp (b : Bool) (x : Nat) : Bool := decide (x = 6) || (b && (decide (x = 8) || decide (x = 9)))
def coI (b : Bool) : List Nat → Nat → (Nat → Nat → Int32) → Nat → Nat → Int32
  | [], _, I => I
  | x :: r, s, I => if stp b x then I else coI b r (s + 1) (ecU (mU I 180 45 (nI r.length)) s (nI (oc x)) 0)
theorem mXo_k {I I' : Nat → Nat → Int32} (e : I' 209 = I 209) : ∀ r, mXo I r → mXo I' r := by
  intro r
  induction r with
  | nil => intro _; trivial
  | cons x r ih => intro h; exact ⟨by rw [e]; exact h.1, h.2.1, ih h.2.2⟩
section MRD
variable {d : Nat} {xL : Nat} {I : Nat → Nat → Int32} {J : Nat → Nat → Int64} {rc rx rr : Nat} {Q : Option Value → mHp → Prop} {L : Nat} {W : Nat → Int32} {t f i : Nat}
theorem mRD_k (h : mRD I J W L t 0 i) : I 183 t = nI (kk W L t) ∧ I 184 t = nI (tp W L t) ∧ (kk W L t = 2 → I 185 t = nI (kv W L t)) ∧ (kk W L t = 1 ∨ 20 ≤ kk W L t → J 186 t = kn W L t) := by
  obtain ⟨⟨n, hn⟩, h2, h3, -⟩ := h
  have hl := kLv_m hn (h3 rfl)
  exact hn.2.1 t hl
theorem c148 (h : mRD I J W L t 0 i) {κ : Nat} (hκ : κ < 40) {y : Int32} (hy : y = nI κ) : WP d 148 0 [.ref 180, .int y] [] (mHh xL I J (mRf rc rx rr)) Q = Q (some (.int (sB01 (decide (kk W L t = κ))))) (mHh xL I J (mRf rc rx rr)) := by
  subst hy
  have k1 := (mRD_k h).1
  have hlt := tKd_lt W L (tp W L t)
  change kk W L t < 40 at hlt
  obtain ⟨-, h2, -, h4, h5, -⟩ := h
  have e5 : I 180 13 = 0 := h5
  have m1 : mIn (nI t) 403 = true := mIn_nI (by omega) (by omega)
  have m2 : (nI t).toNatClampNeg = t := nI_clamp (by omega)
  have ek : (nI (kk W L t) = nI κ) ↔ kk W L t = κ := nI_eq (by omega) (by omega)
  simp only [w148_0, w148_1, e5, w148_4, ↓reduceIte, w148_7, w148_8, w148_11, w148_12, h4, w148_15, m1, m2, k1, w148_16, w148_17, ek]
  by_cases c : kk W L t = κ
  · simp only [c, ↓reduceIte, w148_20, w148_21, w148_25, nb1, decide_true]; rfl
  · simp only [c, ↓reduceIte, w148_24, w148_25, nb0, decide_false]; rfl
theorem c148f (h : mRD I J W L t f i) (f0 : f ≠ 0) {y : Int32} : WP d 148 0 [.ref 180, .int y] [] (mHh xL I J (mRf rc rx rr)) Q = Q (some (.int 0)) (mHh xL I J (mRf rc rx rr)) := by
  have e : ¬ I 180 13 = 0 := by rw [h.2.2.2.2.1, in_eq 0 (by decide) (by have := h.2.2.2.2.2.1; omega)]; exact f0
  simp only [w148_0, w148_1, w148_4, e, ↓reduceIte, w148_24, w148_25, nb0]
theorem c151 (h : mRD I J W L t 0 i) {g : Int32} : WP d 151 0 [.ref 180, .int g] [] (mHh xL I J (mRf rc rx rr)) Q = Q none (mHh xL (mFlt I g (nI (tp W L t))) J (mRf rc rx rr)) := by
  have k1 := (mRD_k h).2.1
  obtain ⟨-, h2, -, h4, h5, -⟩ := h
  have e5 : I 180 13 ≤ 0 := by rw [h5]; decide
  have m1 : mIn (nI t) 403 = true := mIn_nI (by omega) (by omega)
  have m2 : (nI t).toNatClampNeg = t := nI_clamp (by omega)
  have z1 : mU I 180 13 g 180 11 = nI t := by rw [mU_k (by decide)]; exact h4
  have z2 : mU I 180 13 g 184 t = nI (tp W L t) := by rw [mU_a (by decide)]; exact k1
  simp only [w151_0, w151_1, w151_4, e5, ↓reduceIte, w151_8, w151_9, w151_10, w151_13, w151_14, w151_15, w151_18, w151_19, z1, w151_22, m1, m2, z2, w151_23, w151_26]
  rfl
theorem c151f (h : mRD I J W L t f i) (f0 : f ≠ 0) {g : Int32} : WP d 151 0 [.ref 180, .int g] [] (mHh xL I J (mRf rc rx rr)) Q = Q none (mHh xL I J (mRf rc rx rr)) := by
  have hf := h.2.2.2.2.2.1
  have e : ¬ I 180 13 ≤ 0 := by rw [h.2.2.2.2.1, in_le 0 (by decide) (by omega)]; omega
  simp only [w151_0, w151_1, w151_4, e, ↓reduceIte, w151_7]
/-- goes on, with no fault so far -/
theorem c152n (h : mRD I J W L t 0 i) (hk : kk W L t ≠ 0 ∧ kk W L t ≠ 3) (hQ : ∀ I', fM1 I I' → (∀ f, nx t = .inl f → mRD I' J W L t f.1 f.2) → (∀ t1, nx t = .inr t1 → mRD I' J W L t1 0 0) → Q none (mHh xL I' J (mRf rc rx rr))) : WP (d + 1) 152 0 [.ref 180] [] (mHh xL I J (mRf rc rx rr)) Q := by
  have h4 := h.2.2.2.1
  have ht := h.2.1
  have g4 : (nI t = 400) ↔ t = 400 := in_eq 400 (by decide) (by omega)
  simp only [w152_0, w152_1, h4, w152_4, w152_7, g4]
  by_cases t4 : t = 400
  · simp only [if_pos t4, w152_10, w152_11, w152_12, c151 h, ↓reduceIte, Option.toList_some, Option.toList_none, List.cons_append, List.nil_append, Int32.reduceAdd, Int32.reduceLT, Int32.reduceLE, Int32.reduceToNatClampNeg, w152_15, w152_28]
    refine hQ _ (mFlt_f _ _ _) (fun f e => ?_) (fun t1 e => ?_)
    · obtain ⟨-, e2⟩ := nx_l e
      rw [e2]; exact mRD_fl h (g := 2) (by decide) (by decide)
    · rw [nx, if_pos t4] at e; cases e
  · simp only [if_neg t4, w152_18, w152_19, w152_20, h4, w152_23, w152_24, nI_1, w152_25, w152_28]
    refine hQ _ (go_f _ _) (fun f e => ?_) (fun t1 e => ?_)
    · rw [nx, if_neg t4] at e; cases e
    · rw [nx, if_neg t4] at e
      cases e
      have := mRD_go h (by omega) (fun _ => hk)
      exact ⟨this.1, this.2.1, this.2.2.1, this.2.2.2.1, this.2.2.2.2.1, this.2.2.2.2.2.1, fun z => absurd rfl z⟩
/-- goes on in a fault -/
theorem c152f (h : mRD I J W L t f i) (f0 : f ≠ 0) (hQ : ∀ I' t', fM1 I I' → mRD I' J W L t' f i → Q none (mHh xL I' J (mRf rc rx rr))) : WP (d + 1) 152 0 [.ref 180] [] (mHh xL I J (mRf rc rx rr)) Q := by
  have h4 := h.2.2.2.1
  have ht := h.2.1
  have g4 : (nI t = 400) ↔ t = 400 := in_eq 400 (by decide) (by omega)
  simp only [w152_0, w152_1, h4, w152_4, w152_7, g4]
  by_cases t4 : t = 400
  · simp only [if_pos t4, w152_10, w152_11, w152_12, c151f h f0, ↓reduceIte, Option.toList_some, Option.toList_none, List.cons_append, List.nil_append, Int32.reduceAdd, Int32.reduceLT, Int32.reduceLE, Int32.reduceToNatClampNeg, w152_15, w152_28]
    exact hQ I t fM1_0 h
  · simp only [if_neg t4, w152_18, w152_19, w152_20, h4, w152_23, w152_24, nI_1, w152_25, w152_28]
    exact hQ _ (t + 1) (go_f _ _) (mRD_go h (by omega) (fun z => absurd z f0))
theorem c154n (h : mRD I J W L t 0 i) {κ : Nat} (hκ : κ < 40) (hk : kk W L t = κ) (h03 : κ ≠ 0 ∧ κ ≠ 3) {y : Int32} (hy : y = nI κ) (hQ : ∀ I', fM1 I I' → (∀ f, nx t = .inl f → mRD I' J W L t f.1 f.2) → (∀ t1, nx t = .inr t1 → mRD I' J W L t1 0 0) → Q none (mHh xL I' J (mRf rc rx rr))) : WP (d + 2) 154 0 [.ref 180, .int y] [] (mHh xL I J (mRf rc rx rr)) Q := by
  simp only [w154_0, w154_1, w154_2, c148 h hκ hy, ↓reduceIte, Option.toList_some, Option.toList_none, List.cons_append, List.nil_append, Int32.reduceAdd, Int32.reduceLT, Int32.reduceLE, Int32.reduceToNatClampNeg, w154_5, hk, decide_true, sB_t, o01, w154_8, w154_9]
  refine c152n (d := d) h (by rw [hk]; exact h03) ?_
  intro I' r1 q1 q2
  simp only [↓reduceIte, Option.toList_some, Option.toList_none, List.cons_append, List.nil_append, Int32.reduceAdd, Int32.reduceLT, Int32.reduceLE, Int32.reduceToNatClampNeg, w154_12, w154_20]
  exact hQ I' r1 q1 q2
theorem c154m (h : mRD I J W L t 0 i) {κ : Nat} (hκ : κ < 40) (hk : kk W L t ≠ κ) {y : Int32} (hy : y = nI κ) (hQ : ∀ I', fM1 I I' → mRD I' J W L t 1 t → Q none (mHh xL I' J (mRf rc rx rr))) : WP (d + 2) 154 0 [.ref 180, .int y] [] (mHh xL I J (mRf rc rx rr)) Q := by
  simp only [w154_0, w154_1, w154_2, c148 h hκ hy, ↓reduceIte, Option.toList_some, Option.toList_none, List.cons_append, List.nil_append, Int32.reduceAdd, Int32.reduceLT, Int32.reduceLE, Int32.reduceToNatClampNeg, w154_5, hk, decide_false, sB_f, w154_15, w154_16, w154_17, c151 h, w154_20]
  exact hQ _ (mFlt_f _ _ _) (mRD_fl h (g := 1) (by decide) (by decide))
theorem c154f (h : mRD I J W L t f i) (f0 : f ≠ 0) {y : Int32} : WP (d + 2) 154 0 [.ref 180, .int y] [] (mHh xL I J (mRf rc rx rr)) Q = Q none (mHh xL I J (mRf rc rx rr)) := by
  simp only [w154_0, w154_1, w154_2, c148f h f0, ↓reduceIte, Option.toList_some, Option.toList_none, List.cons_append, List.nil_append, Int32.reduceAdd, Int32.reduceLT, Int32.reduceLE, Int32.reduceToNatClampNeg, w154_5, w154_15, w154_16, w154_17, c151f h f0, w154_20]
theorem c164 {s : Nat} (hs : I 180 41 = nI s) (h8 : s < 840) {x y : Int32} : WP d 164 0 [.ref 180, .int x, .int y] [] (mHh xL I J (mRf rc rx rr)) Q = Q none (mHh xL (ecU I s x y) J (mRf rc rx rr)) := by
  have m1 : mIn (nI s) 840 = true := mIn_nI (by omega) (by omega)
  have m2 : (nI s).toNatClampNeg = s := nI_clamp (by omega)
  have z1 : mU I 207 s x 180 41 = nI s := by rw [mU_a (by decide)]; exact hs
  have z2 : mU (mU I 207 s x) 208 s y 180 41 = nI s := by rw [mU_a (by decide)]; exact z1
  simp only [w164_0, w164_1, w164_4, w164_5, w164_8, w164_9, w164_10, w164_11, w164_14, w164_15, w164_18, w164_19, w164_20, w164_21, w164_22, w164_25, w164_26, w164_27, w164_30, hs, m1, m2, z1, z2, nI_1]
  rfl
theorem c165 {b : Bool} : ∀ (ops : List Nat) (s : Nat) (I : Nat → Nat → Int32) (v2 : Value), mXo I ops → I 180 45 = nI ops.length → ops.length ≤ 64 → I 180 41 = nI s → s + ops.length ≤ 840 → WP (d + 1) 165 0 [.ref 180, .int (sB01 b), v2] [] (mHh xL I J (mRf rc rx rr)) Q = Q none (mHh xL (coI b ops s I) J (mRf rc rx rr)) := by
  intro ops
  induction ops with
  | nil =>
    intro s I v2 _ h5 _ _ _
    have e : I 180 45 ≤ 0 := by rw [h5]; decide
    rw [w165_0]
    simp only [w165_1, w165_4, e, ↓reduceIte, w165_91]
    rfl
  | cons x r ih =>
    intro s I v2 ho h5 h6 h41 h8
    rw [List.length_cons] at h5 h6 h8
    have e : ¬ nI (r.length + 1) ≤ 0 := by rw [in_le 0 (by decide) (by omega)]; omega
    have e1 : nI (r.length + 1) - 1 = nI r.length := nI_sbx (b := 1) (by omega)
    have m1 : mIn (nI r.length) 64 = true := mIn_nI (by omega) (by omega)
    have m2 : (nI r.length).toNatClampNeg = r.length := nI_clamp (by omega)
    have x6 : nI x = 6 ↔ x = 6 := in_eq 6 (by decide) (by have := ho.2.1; omega)
    have x8 : nI x = 8 ↔ x = 8 := in_eq 8 (by decide) (by have := ho.2.1; omega)
    have x9 : nI x = 9 ↔ x = 9 := in_eq 9 (by decide) (by have := ho.2.1; omega)
    have x10 : nI x = 10 ↔ x = 10 := in_eq 10 (by decide) (by have := ho.2.1; omega)
    have k42 : stp b x = false → WP (d + 1) 165 42 [.ref 180, .int (sB01 b), .int (nI x)] [] (mHh xL I J (mRf rc rx rr)) Q = Q none (mHh xL (coI b (x :: r) s I) J (mRf rc rx rr)) := by
      intro hst
      rw [coI, if_neg (by rw [hst]; decide)]
      have z41 : mU I 180 45 (nI r.length) 180 41 = nI s := by rw [mU_k (by decide)]; exact h41
      have z209 : ecU (mU I 180 45 (nI r.length)) s (nI (oc x)) 0 209 = I 209 := by rw [ecU, mU_f (by decide), mU_f (by decide), mU_f (by decide), mU_f (by decide)]
      have z45 : ecU (mU I 180 45 (nI r.length)) s (nI (oc x)) 0 180 45 = nI r.length := by rw [ecU, mU_k (by decide), mU_a (by decide), mU_a (by decide), mU_s]
      have nxt := fun v => ih (s + 1) (ecU (mU I 180 45 (nI r.length)) s (nI (oc x)) 0) v (mXo_k z209 r ho.2.2) z45 (by omega) (mU_s _ _ _ _) (by omega)
      have fin : ∀ y : Int32, y = nI (oc x) → WP (d + 1) 165 84 [.ref 180, .int (sB01 b), .int (nI x)] [.int y, .ref 180] (mHh xL (mU I 180 45 (nI r.length)) J (mRf rc rx rr)) Q = Q none (mHh xL (coI b r (s + 1) (ecU (mU I 180 45 (nI r.length)) s (nI (oc x)) 0)) J (mRf rc rx rr)) := by
        intro y hy
        subst hy
        simp only [w165_84, w165_85, c164 z41 (show s < 840 by omega), ↓reduceIte, Option.toList_some, Option.toList_none, List.cons_append, List.nil_append, Int32.reduceAdd, Int32.reduceLT, Int32.reduceLE, Int32.reduceToNatClampNeg, w165_88]
        exact nxt _
      simp only [w165_42, w165_43, w165_44, h5, w165_47, w165_48, e1, w165_49, w165_52, w165_53, w165_54, w165_56, x8]
      by_cases c8 : x = 8
      · simp only [if_pos c8, w165_59, w165_60]
        exact fin 2 (by rw [oc, if_pos c8]; rfl)
      · simp only [if_neg c8, w165_63, w165_64, w165_66, x9]
        by_cases c9 : x = 9
        · simp only [if_pos c9, w165_69, w165_70]
          exact fin 3 (by rw [oc, if_neg c8, if_pos c9]; rfl)
        · simp only [if_neg c9, w165_73, w165_74, w165_76, x10]
          by_cases c10 : x = 10
          · simp only [if_pos c10, w165_79, w165_80]
            exact fin 4 (by rw [oc, if_neg c8, if_neg c9, if_pos c10]; rfl)
          · simp only [if_neg c10, w165_83]
            exact fin 5 (by rw [oc, if_neg c8, if_neg c9, if_neg c10]; rfl)
    have k41 : stp b x = true → Q none (mHh xL I J (mRf rc rx rr)) = Q none (mHh xL (coI b (x :: r) s I) J (mRf rc rx rr)) := by
      intro hst
      rw [coI, if_pos hst]
    rw [w165_0]
    simp only [w165_1, h5, w165_4, e, ↓reduceIte, w165_7, w165_8, w165_11, w165_12, w165_15, w165_16, e1, w165_17, m1, m2, ho.1, w165_18, w165_19, w165_20, w165_22, x6]
    by_cases c6 : x = 6
    · simp only [if_pos c6, w165_41]
      exact k41 (by rw [stp, decide_eq_true c6]; rfl)
    · simp only [if_neg c6, w165_25, w165_26]
      cases b with
      | false =>
        simp only [sB_f, ↓reduceIte] at k42 ⊢
        exact k42 (by rw [stp, decide_eq_false c6]; rfl)
      | true =>
        simp only [sB_t, o01, ↓reduceIte, w165_29, w165_30, w165_32, x8] at k42 ⊢
        by_cases c8 : x = 8
        · simp only [if_pos c8, w165_41]
          exact k41 (by rw [stp, decide_eq_true c8, decide_eq_false c6]; rfl)
        · simp only [if_neg c8, w165_35, w165_36, w165_38, x9]
          by_cases c9 : x = 9
          · simp only [if_pos c9, w165_41]
            exact k41 (by rw [stp, decide_eq_true c9, decide_eq_false c6, decide_eq_false c8]; rfl)
          · simp only [if_neg c9]
            exact k42 (by rw [stp, decide_eq_false c6, decide_eq_false c8, decide_eq_false c9]; rfl)
end MRD
