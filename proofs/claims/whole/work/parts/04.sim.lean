/-! The small machine's heap as the given machine's: which cell stands where. All that is made stands behind z0, in the order in which it was made. -/
def mTr (q : Value) (ad : Nat → Nat) : Value → Value
  | .ref i => .ref (ad i)
  | .null => q
  | v => v
def mAd (adR : Nat → Nat) (z0 : Nat) : Nat → Nat := fun i => if i < 7 then adR i else z0 + (i - 7)
def mFv (ad : Nat → Nat) (h : mHp) (id ci k : Nat) : Value := if mKd ci k = 2 then va_rf ((h.2.2.2 id k).map ad) else .int (h.2.1 id k)
def mFvs (ad : Nat → Nat) (h : mHp) (id ci : Nat) : List Value := (List.range (mNf ci)).map (mFv ad h id ci)
def mCellOf (dA : Nat → ClassId) (ad : Nat → Nat) (h : mHp) (id : Nat) : Option (Nat × Nat) → va_E
  | some (0, ci) => .inr (ci, mFvs ad h id ci)
  | some (1, n) => .inl (dA 0, (n, .inl (h.2.1 id)))
  | some (2, n) => .inl (dA 1, (n, .inl (h.2.1 id)))
  | some (3, n) => .inl (dA 2, (n, .inl (h.2.1 id)))
  | some (4, n) => .inl (dA 3, (n, .inr (.inl (h.2.2.1 id))))
  | some (5, n) => .inl (dA 4, (n, .inr (.inr (.inr (.inr (fun j => (h.2.2.2 id j).map ad))))))
  | _ => .inl (0, (0, .inl (fun _ => 0)))
def mCell (dA : Nat → ClassId) (ad : Nat → Nat) (h : mHp) (id : Nat) : va_E := mCellOf dA ad h id h.1[id]?
def mWs (dA : Nat → ClassId) (ad : Nat → Nat) (h : mHp) : va_W := (List.range (h.1.length - 7)).map (fun i => (ad (i + 7), mCell dA ad h (i + 7)))
theorem mWs_get {dA : Nat → ClassId} {ad : Nat → Nat} {h : mHp} {i : Nat} {x : Nat × Nat} (h7 : 7 ≤ i) (hx : h.1[i]? = some x) : (mWs dA ad h)[i - 7]? = some (ad i, mCellOf dA ad h i (some x)) := by
  have hl : i < h.1.length := (List.getElem?_eq_some_iff.mp hx).1
  have e : i - 7 + 7 = i := by omega
  rw [mWs, List.getElem?_map, List.getElem?_range (by omega : i - 7 < h.1.length - 7)]
  simp only [Option.map_some, e, mCell, hx]
theorem mWs_set {dA : Nat → ClassId} {ad : Nat → Nat} {h h' : mHp} {a : Nat} {e : va_E} (hl : h'.1 = h.1) (h7 : 7 ≤ a) (he : mCell dA ad h' a = e) (ho : ∀ b, b ≠ a → mCell dA ad h' b = mCell dA ad h b) : mWs dA ad h' = (mWs dA ad h).set (a - 7) (ad a, e) := by
  subst he
  apply List.ext_getElem?
  intro j
  rw [List.getElem?_set]
  simp only [mWs, List.getElem?_map, hl, List.length_map, List.length_range]
  by_cases hj : a - 7 = j
  · subst hj
    rw [if_pos rfl]
    by_cases hlt : a - 7 < h.1.length - 7
    · rw [if_pos hlt, List.getElem?_range hlt, Option.map_some, show a - 7 + 7 = a by omega]
    · rw [if_neg hlt, List.getElem?_eq_none (by simp; omega)]
      rfl
  · rw [if_neg hj]
    cases hr : (List.range (h.1.length - 7))[j]? with
    | none => rfl
    | some k =>
      have hk : k = j := by
        have := List.getElem?_eq_some_iff.mp hr
        obtain ⟨p, q⟩ := this
        rw [List.getElem_range] at q
        exact q.symm
      subst hk
      simp only [Option.map_some]
      rw [ho (k + 7) (by omega)]
theorem mWs_push {dA : Nat → ClassId} {ad : Nat → Nat} {h h' : mHp} {x : Nat × Nat} (hl : h'.1 = h.1 ++ [x]) (h7 : 7 ≤ h.1.length) (ho : ∀ b, b < h.1.length → mCell dA ad h' b = mCell dA ad h b) : mWs dA ad h' = mWs dA ad h ++ [(ad h.1.length, mCellOf dA ad h' h.1.length (some x))] := by
  have e : h'.1.length - 7 = (h.1.length - 7) + 1 := by rw [hl, List.length_append, List.length_singleton]; omega
  have e2 : h.1.length - 7 + 7 = h.1.length := by omega
  rw [mWs, e, List.range_succ, List.map_append, List.map_singleton, e2]
  congr 1
  · apply List.map_congr_left
    intro i hi
    rw [ho (i + 7) (by have := List.mem_range.mp hi; omega)]
  · rw [mCell, hl, List.getElem?_append_right (Nat.le_refl _), Nat.sub_self]
    rfl
theorem mAd_ge {adR : Nat → Nat} {z0 i : Nat} (h : 7 ≤ i) : mAd adR z0 i = z0 + (i - 7) := by rw [mAd, if_neg (by omega)]
theorem mWs_D {dA : Nat → ClassId} {adR : Nat → Nat} {z0 : Nat} {h : mHp} : va_D (fun a => z0 ≤ a) (mWs dA (mAd adR z0) h) := by
  have key : ∀ (k : Nat) (p : Nat × va_E), (mWs dA (mAd adR z0) h)[k]? = some p → p.1 = z0 + k := by
    intro k p hp
    rw [mWs, List.getElem?_map] at hp
    cases hr : (List.range (h.1.length - 7))[k]? with
    | none => rw [hr] at hp; cases hp
    | some j =>
      rw [hr] at hp
      obtain ⟨hj1, hj⟩ := List.getElem?_eq_some_iff.mp hr
      rw [List.getElem_range] at hj
      subst hj
      cases hp
      show mAd adR z0 (k + 7) = _
      rw [mAd_ge (by omega)]
      omega
  refine ⟨fun i j p q hi hj hpq => ?_, fun k p hp => ?_⟩
  · have := key i p hi
    have := key j q hj
    omega
  · show z0 ≤ p.1
    have := key k p hp
    omega
def mTys (dA : Nat → ClassId) : List (ClassId × FieldType) := [(dA 0, .int), (dA 1, .byte), (dA 2, .boolean), (dA 3, .long), (dA 4, .object "FamilyGlass$State")]
def mRo (L : Nat) : List (Nat × Nat) := [(6, 0), (6, 1), (6, 2), (7, 109), (7, 4), (7, 9), (8, L)]
/-- what stands in the heap at first, and stays -/
def mHok (L : Nat) (xs : Nat → Int32) (h : mHp) : Prop := 7 ≤ h.1.length ∧ (∀ i, i < 7 → h.1[i]? = (mRo L)[i]?) ∧ (∀ k, k < 3 → ∀ j, j < mTxL.getD k 0 → h.2.1 (3 + k) j = (mTx.getD k []).getD j 0) ∧ ∀ j, j < L → h.2.1 6 j = xs j
theorem mHok.ge {L : Nat} {xs : Nat → Int32} {h : mHp} (ho : mHok L xs h) {a k n : Nat} (ha : h.1[a]? = some (k, n)) (hk : k ≤ 5) : 7 ≤ a := by
  apply Nat.le_of_not_lt
  intro hl
  have h1 := ho.2.1 a hl
  rw [ha] at h1
  rcases (show a = 0 ∨ a = 1 ∨ a = 2 ∨ a = 3 ∨ a = 4 ∨ a = 5 ∨ a = 6 by omega) with rfl | rfl | rfl | rfl | rfl | rfl | rfl <;> cases h1 <;> omega
theorem mHok.put {L : Nat} {xs : Nat → Int32} {h h' : mHp} (ho : mHok L xs h) {a : Nat} (h7 : 7 ≤ a) (hl : h'.1 = h.1) (hI : ∀ b, b ≠ a → h'.2.1 b = h.2.1 b) : mHok L xs h' := by
  obtain ⟨h1, h2, h3, h4⟩ := ho
  refine ⟨by rw [hl]; exact h1, fun i hi => by rw [hl]; exact h2 i hi, fun k hk j hj => ?_, fun j hj => ?_⟩
  · rw [hI (3 + k) (by omega)]; exact h3 k hk j hj
  · rw [hI 6 (by omega)]; exact h4 j hj
theorem mHok.push {L : Nat} {xs : Nat → Int32} {h h' : mHp} {x : Nat × Nat} (ho : mHok L xs h) (hl : h'.1 = h.1 ++ [x]) (hI : ∀ b, b < h.1.length → h'.2.1 b = h.2.1 b) : mHok L xs h' := by
  obtain ⟨h1, h2, h3, h4⟩ := ho
  refine ⟨by rw [hl, List.length_append]; omega, fun i hi => by rw [hl, List.getElem?_append_left (by omega)]; exact h2 i hi, fun k hk j hj => ?_, fun j hj => ?_⟩
  · rw [hI (3 + k) (by omega)]; exact h3 k hk j hj
  · rw [hI 6 (by omega)]; exact h4 j hj
/-- what a state's tables give, and the cells that were there before -/
def mFx (D : va_G) (dA : Nat → ClassId) (adR : Nat → Nat) (q : Value) (z0 L : Nat) (xs : Nat → Int32) (s : State) : Prop :=
  va_K D mCls (mTys dA) s ∧ (∀ w ∈ mNst, va_Nw w s) ∧ vk_S 3 mTxL mTx adR (fun i => adR (3 + i)) (fun a => z0 ≤ a) s s.heap ∧ (∀ e ∈ mKs, vk_R (mOwn.getD e.1 "") e.2.1 (mTxS e.2.2) (adR e.2.2) s) ∧
  va_Z "java/lang/String" "COMPACT_STRINGS" "Z" (.int 1) (fun a => z0 ≤ a) s s.heap ∧ va_Z "jdk/internal/util/Preconditions" "SIOOBE_FORMATTER" "Ljava/util/function/BiFunction;" q (fun a => z0 ≤ a) s s.heap ∧ va_X (adR 6) L xs s s.heap ∧ adR 6 < z0 ∧ z0 ≤ s.heap.size ∧ va_AO "FamilyGlass$State" s ∧ (q = .null ∨ ∃ t, q = .ref t) ∧ L ≤ 3072
theorem mNw_warm {w : Cond} {s U : State} (hW : s.WarmedH U.vm) (hw : mNestB w = true) (h : va_Nw w s) : va_Nw w U := by
  cases w <;> first | exact va_Nw.warmF hW h | exact va_Nw.warmM hW h | cases hw
theorem mFx.to {D : va_G} {dA : Nat → ClassId} {adR : Nat → Nat} {q : Value} {z0 L : Nat} {xs : Nat → Int32} {s U : State} (h : mFx D dA adR q z0 L xs s) (hW : s.WarmedH U.vm) (hk : ∀ a, a < z0 → U.heap[a]? = s.heap[a]?) (hz : z0 ≤ U.heap.size) : mFx D dA adR q z0 L xs U := by
  obtain ⟨h1, h2, h3, h4, h5, h6, h7, h8, h9, h10, h11, h12⟩ := h
  have hq : ∀ a : Nat, a < s.heap.size → ¬ (fun a => z0 ≤ a) a → U.heap[a]? = s.heap[a]? := fun a _ hn => hk a (Nat.lt_of_not_le hn)
  exact ⟨va_K.moved hW.alike h1, fun w hw => mNw_warm hW (List.mem_filter.mp hw).2 (h2 w hw), (h3.moved hW.alike).kept hq, fun e he => (h4 e he).warm hW, (va_Z.moved hW.alike h5).kept hq, (va_Z.moved hW.alike h6).kept hq, (va_X.moved hW.alike h7).kept (hk _ h8), h8, hz, va_AO.moved hW.alike h10, h11, h12⟩
/-- the locals -/
def mLk (q : Value) (ad : Nat → Nat) (ls : Array Slot) (L : List Value) : Prop := ls.size = L.length ∧ lv_wf ls ∧ ∀ (i : Nat) (v : Value), L[i]? = some v → v ≠ mDum → ls[i]? = some (.val (mTr q ad v))
theorem mLk_kill {L : List Value} {i j : Nat} {v : Value} (h : (mKill L i)[j]? = some v) (hv : v ≠ mDum) (hji : j ≠ i) : L[j]? = some v ∧ ¬ (j + 1 = i ∧ v.category = 2) := by
  cases i with
  | zero => exact ⟨h, fun q => by omega⟩
  | succ k =>
    rw [mKill] at h
    by_cases hk : j = k
    · subst hk
      cases hx : L[j]? with
      | none => rw [hx] at h; dsimp only at h; rw [hx] at h; cases h
      | some w =>
        rw [hx] at h
        have hl : j < L.length := (List.getElem?_eq_some_iff.mp hx).1
        cases w <;> dsimp only at h <;> first | (rw [List.getElem?_set_self hl] at h; cases h; exact absurd rfl hv) | (rw [hx] at h; cases h; exact ⟨rfl, fun q => by simp [Value.category] at q⟩)
    · refine ⟨?_, fun q => by omega⟩
      split at h
      · rw [List.getElem?_set_ne (by omega)] at h
        exact h
      · rw [List.getElem?_set_ne (by omega)] at h
        exact h
      · exact h
/-- the locals as a list of places -/
def mLv (q : Value) (ad : Nat → Nat) (L : List Value) : List (Nat × Value) := (List.range L.length).filterMap (fun j => match L[j]? with
  | some v => if v = mDum then none else some (j, mTr q ad v)
  | none => none)
theorem mLv_mem {q : Value} {ad : Nat → Nat} {L : List Value} {j : Nat} {w : Value} : (j, w) ∈ mLv q ad L ↔ ∃ v, L[j]? = some v ∧ v ≠ mDum ∧ w = mTr q ad v := by
  rw [mLv, List.mem_filterMap]
  constructor
  · rintro ⟨i, hi, h⟩
    cases hx : L[i]? with
    | none => rw [hx] at h; cases h
    | some v =>
      rw [hx] at h
      dsimp only at h
      by_cases hv : v = mDum
      · rw [if_pos hv] at h; cases h
      · rw [if_neg hv] at h
        cases h
        exact ⟨v, hx, hv, rfl⟩
  · rintro ⟨v, hx, hv, rfl⟩
    refine ⟨j, List.mem_range.mpr (List.getElem?_eq_some_iff.mp hx).1, ?_⟩
    rw [hx]
    dsimp only
    rw [if_neg hv]
theorem mLk.has {q : Value} {ad : Nat → Nat} {ls : Array Slot} {L : List Value} (h : mLk q ad ls L) : lv_has ls L.length (mLv q ad L) := by
  refine ⟨h.1, h.2.1, fun x hx => ?_⟩
  obtain ⟨j, w⟩ := x
  obtain ⟨v, h1, h2, rfl⟩ := mLv_mem.mp hx
  exact h.2.2 j v h1 h2
theorem mTr_cat {q : Value} {ad : Nat → Nat} (hq : q = .null ∨ ∃ t, q = .ref t) (v : Value) : (mTr q ad v).category = v.category := by
  cases v <;> first | rfl | (rcases hq with rfl | ⟨t, rfl⟩ <;> rfl)
theorem mKill_len (L : List Value) (i : Nat) : (mKill L i).length = L.length := by
  cases i with
  | zero => rfl
  | succ k => rw [mKill]; split <;> simp
theorem mLk_st1 {q : Value} {ad : Nat → Nat} {ls' : Array Slot} {L L' : List Value} {i : Nat} {v : Value} (hq : q = .null ∨ ∃ t, q = .ref t) (hs : mSt1 L i v = some L') (h : lv_has ls' L.length ((i, mTr q ad v) :: (mLv q ad L).filter (fun q => !(q.1 == i) && !(q.1 + 1 == i && q.2.category == 2)))) : mLk q ad ls' L' := by
  rw [mSt1] at hs
  by_cases hi : i < L.length
  · rw [if_pos hi] at hs
    cases hs
    refine ⟨by rw [h.1, List.length_set, mKill_len], h.2.1, fun j w hj hw => ?_⟩
    by_cases hji : j = i
    · subst hji
      rw [List.getElem?_set_self (by rw [mKill_len]; exact hi)] at hj
      cases hj
      exact h.2.2 _ List.mem_cons_self
    · rw [List.getElem?_set_ne (fun e => hji e.symm)] at hj
      obtain ⟨h1, h2⟩ := mLk_kill hj hw hji
      refine h.2.2 (j, mTr q ad w) (List.mem_cons_of_mem _ (List.mem_filter.mpr ⟨mLv_mem.mpr ⟨w, h1, hw, rfl⟩, ?_⟩))
      simp only [Bool.and_eq_true, Bool.not_eq_true', beq_eq_false_iff_ne, ne_eq, Bool.and_eq_false_iff, mTr_cat hq]
      refine ⟨hji, ?_⟩
      by_cases e : j + 1 = i
      · exact Or.inr (fun z => h2 ⟨e, z⟩)
      · exact Or.inl e
  · rw [if_neg hi] at hs; cases hs
theorem mLk_st2 {q : Value} {ad : Nat → Nat} {ls' : Array Slot} {L L' : List Value} {i : Nat} {v : Value} (hq : q = .null ∨ ∃ t, q = .ref t) (hs : mSt2 L i v = some L') (h : lv_has ls' L.length ((i, mTr q ad v) :: (mLv q ad L).filter (fun q => !(q.1 == i) && (!(q.1 == i + 1) && !(q.1 + 1 == i && q.2.category == 2))))) : mLk q ad ls' L' := by
  rw [mSt2] at hs
  by_cases hi : i + 1 < L.length
  · rw [if_pos hi] at hs
    cases hs
    refine ⟨by rw [h.1, List.length_set, List.length_set, mKill_len], h.2.1, fun j w hj hw => ?_⟩
    by_cases hj1 : j = i + 1
    · subst hj1
      rw [List.getElem?_set_self (by rw [List.length_set, mKill_len]; exact hi)] at hj
      cases hj
      exact absurd rfl hw
    rw [List.getElem?_set_ne (fun e => hj1 e.symm)] at hj
    by_cases hji : j = i
    · subst hji
      rw [List.getElem?_set_self (by rw [mKill_len]; omega)] at hj
      cases hj
      exact h.2.2 _ List.mem_cons_self
    · rw [List.getElem?_set_ne (fun e => hji e.symm)] at hj
      obtain ⟨h1, h2⟩ := mLk_kill hj hw hji
      refine h.2.2 (j, mTr q ad w) (List.mem_cons_of_mem _ (List.mem_filter.mpr ⟨mLv_mem.mpr ⟨w, h1, hw, rfl⟩, ?_⟩))
      simp only [Bool.and_eq_true, Bool.not_eq_true', beq_eq_false_iff_ne, ne_eq, Bool.and_eq_false_iff, mTr_cat hq]
      refine ⟨hji, hj1, ?_⟩
      by_cases e : j + 1 = i
      · exact Or.inr (fun z => h2 ⟨e, z⟩)
      · exact Or.inl e
  · rw [if_neg hi] at hs; cases hs
theorem mSt1_lt {L L' : List Value} {i : Nat} {v : Value} (hs : mSt1 L i v = some L') : i < L.length := by
  rw [mSt1] at hs
  by_cases hi : i < L.length
  · exact hi
  · rw [if_neg hi] at hs; cases hs
theorem mSt2_lt {L L' : List Value} {i : Nat} {v : Value} (hs : mSt2 L i v = some L') : i + 1 < L.length := by
  rw [mSt2] at hs
  by_cases hi : i + 1 < L.length
  · exact hi
  · rw [if_neg hi] at hs; cases hs
theorem mTgt_eq {pc t : Nat} {off : Int} (h : mTgt pc off = some t) : (pc : Int) + off = (t : Int) := by
  rw [mTgt] at h
  by_cases h0 : 0 ≤ (pc : Int) + off
  · rw [if_pos h0] at h
    cases h
    omega
  · rw [if_neg h0] at h; cases h
theorem mIn_in {i : Int32} {n : Nat} (h : mIn i n = true) : vp_in i n := by
  simp only [mIn, Bool.and_eq_true, decide_eq_true_eq] at h
  exact fun z => z.elim h.1 (fun z => by omega)
def mSz (lay : List (Nat × Nat)) : Nat := (lay.map fun x => if x.1 = 0 then mNf x.2 else x.2).sum
/-- from here, whatever the heap that holds the small machine's, the given machine comes to Q -/
def mGo (p : Program) (l : Launch) (e : Env) (R : Room) (s : State) (m : MethodId) (args : Array Value) (below : List Frame) (meth : Method) (c : Code) (Q : State → Prop) (D : va_G) (dA : Nat → ClassId) (adR : Nat → Nat) (q : Value) (z0 xL : Nat) (xs : Nat → Int32) (c0 s0 : Nat) (pc : Nat) (L S : List Value) (h : mHp) : Prop :=
  ∀ (H : Heap) (locs : List Loc) (ls : Array Slot), va_S (fun a => z0 ≤ a) s.heap H locs → va_P D mCls (mWs dA (mAd adR z0) h) H → H.size = z0 + (h.1.length - 7) → mHok xL xs h → mLk q (mAd adR z0) ls L → W p l e R s m args below meth c H locs (h.1.length - c0) (mSz h.1 - s0) Q (F0 m pc ls (S.map (mTr q (mAd adR z0))))
section MSTEP
variable {p : Program} {l : Launch} {e : Env} {R : Room} {s : State} {m : MethodId} {args : Array Value} {below : List Frame} {meth : Method} {c : Code} {Q : State → Prop} {D : va_G} {dA : Nat → ClassId} {adR : Nat → Nat} {q : Value} {z0 xL : Nat} {xs : Nat → Int32} {c0 s0 : Nat} {cc : ByteArray} {i : Instr} {len own pc pc' : Nat} {L S L' S' : List Value} {h : mHp}
theorem mA_ok (hx : p.tables.exec = Jvm.exec) (hb : c.code = cc) (hown : s.vm.findClass (mOwn.getD own "") = some m.cls) (hts : ∀ w ∈ lw_good, w.before args s = true) (fx : mFx D dA adR q z0 xL xs s) (hd : decode cc pc = .ok (i, len)) (hs : mA i len own pc L S = some (pc', L', S'))
    (kk : mGo p l e R s m args below meth c Q D dA adR q z0 xL xs c0 s0 pc' L' S' h) : mGo p l e R s m args below meth c Q D dA adR q z0 xL xs c0 s0 pc L S h := by
  intro H locs ls hS hP hz ho hl
  obtain ⟨f1, f2, f3, f4, f5, f6, f7⟩ := fx
  unfold mA at hs
  split at hs
  · cases hs; exact lv_iconst hx hb hd rfl (kk H locs ls hS hP hz ho hl)
  · cases hs; exact lv_bipush hx hb hd rfl (kk H locs ls hS hP hz ho hl)
  · cases hs; exact lv_sipush hx hb hd rfl (kk H locs ls hS hP hz ho hl)
  · cases hs; exact lv_lconst hx hb hd rfl (kk H locs ls hS hP hz ho hl)
  · rename_i ix
    split at hs
    · rename_i a b v hk
      cases hs
      have hm := List.mem_of_find?_eq_some hk
      have hp := List.find?_some hk
      simp only [Bool.and_eq_true, beq_iff_eq] at hp
      obtain ⟨rfl, rfl⟩ := hp
      exact lv_ldc hx hb hown (hts _ (List.mem_filter.mpr ⟨mKi_in _ hm _ (List.mem_singleton.mpr rfl), rfl⟩)) hd (kk H locs ls hS hP hz ho hl)
    · split at hs
      · rename_i a b v hk
        cases hs
        have hm := List.mem_of_find?_eq_some hk
        have hp := List.find?_some hk
        simp only [Bool.and_eq_true, beq_iff_eq] at hp
        obtain ⟨rfl, rfl⟩ := hp
        have hv : v < 3 := by
          have hh : mKs.all (fun e => decide (e.2.2 < 3)) = true := by decide +kernel
          exact of_decide_eq_true (List.all_eq_true.mp hh _ hm)
        have hZ : vk_R (mOwn.getD a "") b (mTxS v) (adR v) s := f4 (a, b, v) hm
        have k1 := kk H locs ls hS hP hz ho hl
        rw [List.map_cons, show mTr q (mAd adR z0) (.ref v) = .ref (adR v) from congrArg Value.ref (if_pos (by omega))] at k1
        exact va_ldcS hx hb hown hZ hd k1
      · cases hs
  · rename_i ix
    split at hs
    · rename_i a b v hk
      cases hs
      have hm := List.mem_of_find?_eq_some hk
      have hp := List.find?_some hk
      simp only [Bool.and_eq_true, beq_iff_eq] at hp
      obtain ⟨rfl, rfl⟩ := hp
      exact lv_ldcw hx hb hown (hts _ (List.mem_filter.mpr ⟨mKi_in _ hm _ (List.mem_singleton.mpr rfl), rfl⟩)) hd (kk H locs ls hS hP hz ho hl)
    · cases hs
  · rename_i ix
    split at hs
    · rename_i a b v hk
      cases hs
      have hm := List.mem_of_find?_eq_some hk
      have hp := List.find?_some hk
      simp only [Bool.and_eq_true, beq_iff_eq] at hp
      obtain ⟨rfl, rfl⟩ := hp
      exact lv_ldc2 hx hb hown (hts _ (List.mem_filter.mpr ⟨mKl_in _ hm _ (List.mem_singleton.mpr rfl), rfl⟩)) hd (kk H locs ls hS hP hz ho hl)
    · cases hs
  · split at hs
    · rename_i k x hk; cases hs; exact lv_iload hx hb hd (hl.2.2 _ _ hk (fun z => by cases z)) (kk H locs ls hS hP hz ho hl)
    · cases hs
  · split at hs
    · rename_i k x hk; cases hs; exact lv_iload_n hx hb hd rfl (hl.2.2 _ _ hk (fun z => by cases z)) (kk H locs ls hS hP hz ho hl)
    · cases hs
  · split at hs
    · rename_i k x hk; cases hs; exact lv_lload hx hb hd (hl.2.2 _ _ hk (fun z => by cases z)) (kk H locs ls hS hP hz ho hl)
    · cases hs
  · split at hs
    · rename_i k x hk; cases hs; exact lv_lload_n hx hb hd rfl (hl.2.2 _ _ hk (fun z => by cases z)) (kk H locs ls hS hP hz ho hl)
    · cases hs
  · split at hs
    · rename_i k x hk; cases hs; exact lv_aload hx hb hd (hl.2.2 _ _ hk (fun z => by cases z)) (kk H locs ls hS hP hz ho hl)
    · cases hs
  · split at hs
    · rename_i k x hk; cases hs; exact lv_aload_n hx hb hd rfl (hl.2.2 _ _ hk (fun z => by cases z)) (kk H locs ls hS hP hz ho hl)
    · cases hs
  · split at hs
    · rename_i ix he
      cases hs
      obtain ⟨rfl, rfl⟩ := he
      exact va_gets hx hb f5 hS hown (hts _ (List.mem_filter.mpr ⟨mExtra_in (.fieldLink "java/lang/String" 38 "java/lang/String" "COMPACT_STRINGS" "Z") (by simp [mExtra]), rfl⟩)) (fun _ h9 => h9) hd (kk H locs ls hS hP hz ho hl)
    · split at hs
      · rename_i ix h0 he
        cases hs
        obtain ⟨rfl, rfl⟩ := he
        exact va_gets hx hb f6 hS hown (hts _ (List.mem_filter.mpr ⟨mExtra_in (.fieldLink "java/lang/String" 1053 "jdk/internal/util/Preconditions" "SIOOBE_FORMATTER" "Ljava/util/function/BiFunction;") (by simp [mExtra]), rfl⟩)) (fun _ h9 => h9) hd (kk H locs ls hS hP hz ho hl)
      · cases hs
  · cases hs
theorem mB_ok (hx : p.tables.exec = Jvm.exec) (hb : c.code = cc) (hq : q = .null ∨ ∃ t, q = .ref t) (hd : decode cc pc = .ok (i, len)) (hs : mB i len pc L S = some (pc', L', S'))
    (kk : mGo p l e R s m args below meth c Q D dA adR q z0 xL xs c0 s0 pc' L' S' h) : mGo p l e R s m args below meth c Q D dA adR q z0 xL xs c0 s0 pc L S h := by
  intro H locs ls hS hP hz ho hl
  unfold mB at hs
  split at hs
  · obtain ⟨L1, h1, h2⟩ := Option.map_eq_some_iff.mp hs
    cases h2
    exact lv_istore hx hb hd hl.has (mSt1_lt h1) rfl (fun ls' hl' => kk H locs ls' hS hP hz ho (mLk_st1 (v := .int _) hq h1 hl'))
  · obtain ⟨L1, h1, h2⟩ := Option.map_eq_some_iff.mp hs
    cases h2
    exact lv_istore_n hx hb hd rfl hl.has (mSt1_lt h1) rfl (fun ls' hl' => kk H locs ls' hS hP hz ho (mLk_st1 (v := .int _) hq h1 hl'))
  · obtain ⟨L1, h1, h2⟩ := Option.map_eq_some_iff.mp hs
    cases h2
    exact lv_lstore hx hb hd hl.has (mSt2_lt h1) rfl (fun ls' hl' => kk H locs ls' hS hP hz ho (mLk_st2 (v := .long _) hq h1 hl'))
  · obtain ⟨L1, h1, h2⟩ := Option.map_eq_some_iff.mp hs
    cases h2
    exact lv_lstore_n hx hb hd rfl hl.has (mSt2_lt h1) rfl (fun ls' hl' => kk H locs ls' hS hP hz ho (mLk_st2 (v := .long _) hq h1 hl'))
  · obtain ⟨L1, h1, h2⟩ := Option.map_eq_some_iff.mp hs
    cases h2
    exact lv_astore hx hb hd hl.has (mSt1_lt h1) rfl (fun ls' hl' => kk H locs ls' hS hP hz ho (mLk_st1 (v := .ref _) hq h1 hl'))
  · obtain ⟨L1, h1, h2⟩ := Option.map_eq_some_iff.mp hs
    cases h2
    exact lv_astore_n hx hb hd rfl hl.has (mSt1_lt h1) rfl (fun ls' hl' => kk H locs ls' hS hP hz ho (mLk_st1 (v := .ref _) hq h1 hl'))
  · split at hs
    · rename_i k n x hk
      obtain ⟨L1, h1, h2⟩ := Option.map_eq_some_iff.mp hs
      cases h2
      obtain ⟨j, hj⟩ := List.getElem?_of_mem (mLv_mem (q := q) (ad := mAd adR z0).mpr ⟨_, hk, (fun z => by cases z), rfl⟩)
      exact lv_iinc hx hb hd hl.has hj rfl (mSt1_lt h1) rfl (fun ls' hl' => kk H locs ls' hS hP hz ho (mLk_st1 (v := .int _) hq h1 hl'))
    · cases hs
  · cases hs; exact lv_dup hx hb hd rfl (kk H locs ls hS hP hz ho hl)
  · cases hs; exact lv_dup hx hb hd rfl (kk H locs ls hS hP hz ho hl)
  · cases hs; exact lv_pop hx hb hd rfl (kk H locs ls hS hP hz ho hl)
  · cases hs; exact lv_dup2_11 hx hb hd rfl rfl (kk H locs ls hS hP hz ho hl)
  · cases hs
theorem mC_ok (hx : p.tables.exec = Jvm.exec) (hb : c.code = cc) (hd : decode cc pc = .ok (i, len)) (hs : mC i len pc L S = some (pc', L', S'))
    (kk : mGo p l e R s m args below meth c Q D dA adR q z0 xL xs c0 s0 pc' L' S' h) : mGo p l e R s m args below meth c Q D dA adR q z0 xL xs c0 s0 pc L S h := by
  intro H locs ls hS hP hz ho hl
  unfold mC at hs
  split at hs
  · cases hs; exact lv_iadd hx hb hd (kk H locs ls hS hP hz ho hl)
  · cases hs; exact lv_isub hx hb hd (kk H locs ls hS hP hz ho hl)
  · cases hs; exact lv_imul hx hb hd (kk H locs ls hS hP hz ho hl)
  · cases hs; exact lv_iand hx hb hd (kk H locs ls hS hP hz ho hl)
  · cases hs; exact lv_ior hx hb hd (kk H locs ls hS hP hz ho hl)
  · cases hs; exact lv_ixor hx hb hd (kk H locs ls hS hP hz ho hl)
  · split at hs
    · cases hs
    · rename_i hn; cases hs; exact lv_idiv hx hb hd hn (kk H locs ls hS hP hz ho hl)
  · split at hs
    · cases hs
    · rename_i hn; cases hs; exact lv_irem hx hb hd hn (kk H locs ls hS hP hz ho hl)
  · cases hs; exact lv_ineg hx hb hd (kk H locs ls hS hP hz ho hl)
  · cases hs; exact lv_ishl hx hb hd (kk H locs ls hS hP hz ho hl)
  · cases hs; exact lv_ishr hx hb hd (kk H locs ls hS hP hz ho hl)
  · cases hs; exact lv_iushr hx hb hd rfl (kk H locs ls hS hP hz ho hl)
  · cases hs; exact lv_ladd hx hb hd (kk H locs ls hS hP hz ho hl)
  · cases hs; exact lv_lmul hx hb hd (kk H locs ls hS hP hz ho hl)
  · cases hs; exact W.lcmp hx hb hd (kk H locs ls hS hP hz ho hl)
  · cases hs; exact lv_i2l hx hb hd rfl (kk H locs ls hS hP hz ho hl)
  · cases hs; exact lv_l2i hx hb hd rfl (kk H locs ls hS hP hz ho hl)
  · cases hs; exact lv_i2b hx hb hd rfl (kk H locs ls hS hP hz ho hl)
  · cases hs; exact lv_i2c hx hb hd rfl (kk H locs ls hS hP hz ho hl)
  · cases hs
end MSTEP
