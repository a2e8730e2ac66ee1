/-! Calls; and the whole: a run of the small machine is a run of the given one. -/
theorem mArg_len {q : Value} {ad : Nat → Nat} (hq : q = .null ∨ ∃ t, q = .ref t) (as : List Value) : (lg_sl (as.map (mTr q ad))).length = (mArg as).length := by
  induction as with
  | nil => rfl
  | cons a as ih =>
    have e1 : lg_sl ((a :: as).map (mTr q ad)) = (if (mTr q ad a).category = 2 then [.val (mTr q ad a), .second] else [.val (mTr q ad a)]) ++ lg_sl (as.map (mTr q ad)) := rfl
    have e2 : mArg (a :: as) = (if a.category = 2 then [a, mDum] else [a]) ++ mArg as := rfl
    rw [e1, e2, List.length_append, List.length_append, ih, mTr_cat hq]
    split <;> rfl
theorem mArg_at {q : Value} {ad : Nat → Nat} (hq : q = .null ∨ ∃ t, q = .ref t) : ∀ (as : List Value) (i : Nat) (v : Value), (mArg as)[i]? = some v → v ≠ mDum → (lg_sl (as.map (mTr q ad)))[i]? = some (.val (mTr q ad v)) := by
  intro as
  induction as with
  | nil => intro i v h; cases h
  | cons a as ih =>
    intro i v h hv
    have e1 : lg_sl ((a :: as).map (mTr q ad)) = (if (mTr q ad a).category = 2 then [.val (mTr q ad a), .second] else [.val (mTr q ad a)]) ++ lg_sl (as.map (mTr q ad)) := rfl
    have e2 : mArg (a :: as) = (if a.category = 2 then [a, mDum] else [a]) ++ mArg as := rfl
    rw [e2] at h
    rw [e1, mTr_cat hq]
    by_cases hc : a.category = 2
    · rw [if_pos hc] at h ⊢
      match i with
      | 0 => cases h; rfl
      | 1 => cases h; exact absurd rfl hv
      | j + 2 => exact ih j v h hv
    · rw [if_neg hc] at h ⊢
      match i with
      | 0 => cases h; rfl
      | j + 1 => exact ih j v h hv
theorem mLk_entry {q : Value} {ad : Nat → Nat} (hq : q = .null ∨ ∃ t, q = .ref t) {as : List Value} {n : Nat} (ha : (mArg as).length ≤ n) : mLk q ad ((lg_sl (as.map (mTr q ad)) ++ List.replicate (n - (lg_sl (as.map (mTr q ad))).length) Slot.unset).toArray) (mLoc n as) := by
  have hl := lv_entry (as.map (mTr q ad)) (n := n) (by rw [mArg_len hq]; exact ha)
  refine ⟨?_, hl.2.1, fun i v hi hv => ?_⟩
  · rw [hl.1, mLoc, List.length_append, List.length_replicate]; omega
  · rw [mLoc] at hi
    by_cases hlt : i < (mArg as).length
    · rw [List.getElem?_append_left hlt] at hi
      have h1 := mArg_at (ad := ad) hq as i v hi hv
      rw [List.getElem?_toArray, List.getElem?_append_left (by rw [mArg_len hq]; exact hlt)]
      exact h1
    · rw [List.getElem?_append_right (by omega)] at hi
      have := List.getElem?_eq_some_iff.mp hi
      obtain ⟨h1, h2⟩ := this
      rw [List.getElem_replicate] at h2
      exact absurd h2.symm hv
section MCALL
variable {p : Program} {l : Launch} {e : Env} {R : Room} {s : State} {m : MethodId} {args : Array Value} {below : List Frame} {meth : Method} {c : Code} {Q : State → Prop} {D : va_G} {dA : Nat → ClassId} {adR : Nat → Nat} {q : Value} {z0 xL : Nat} {xs : Nat → Int32} {c0 s0 : Nat} {cc : ByteArray} {i : Instr} {len own pc pc' : Nat} {L S L' S' : List Value} {h h' : mHp}
theorem mAfter {H : Heap} {locs : List Loc} {cells slots mc ms : Nat} {ls : Array Slot} {st0 rest : List Value} {v' : Option Value} {P : Heap → Prop} (hr : va_Run p l e R s m args below meth c H locs cells slots mc ms (F0 m pc ls st0) rest (fun st oc t => oc = .returned v' ∧ P t.heap ∧ va_F (fun a => z0 ≤ a) st t) (fun a => z0 ≤ a)) (hS : va_S (fun a => z0 ≤ a) s.heap H locs)
    (kk : ∀ (H1 : Heap) (locs1 : List Loc), va_S (fun a => z0 ≤ a) s.heap H1 locs1 → P H1 → W p l e R s m args below meth c H1 locs1 (cells + mc) (slots + ms) Q (F0 m (pc + 3) ls (v'.toList ++ rest))) : W p l e R s m args below meth c H locs cells slots Q (F0 m pc ls st0) := by
  intro T hT X
  obtain ⟨v, st₀, t, T', Lq, h0, X', hL, e1, e2, ⟨hv, hp, hz, hk⟩, st⟩ := hr T hT X
  cases hv
  rw [h0] at hz hk
  obtain ⟨t2, a1, b1⟩ := kk T'.heap (locs ++ Lq) ⟨Nat.le_trans hS.1 (by rw [e1]; exact hz), fun x h1 h2 => by rw [e1, hk x (Nat.lt_of_lt_of_le h1 hS.1) h2]; exact hS.2.1 x h1 h2, fun x hx => by
      rcases List.mem_append.mp hx with g | g
      · exact hS.2.2 x g
      · exact hL x g⟩ (by rw [e1]; exact hp) T' rfl X'
  exact ⟨t2, st t2 a1, b1⟩
theorem mWrd_tr (hq : q = .null ∨ ∃ t, q = .ref t) {ad : Nat → Nat} (S : List Value) : ((S.map (mTr q ad)).map fun v => v.category).sum = mWrd S := by
  rw [mWrd, List.map_map]
  congr 1
  exact List.map_congr_left (fun v _ => mTr_cat hq v)
theorem mPrm_ok (hx : p.tables.exec = Jvm.exec) (hb : c.code = cc) (hml : c.maxLocals = L.length) (hown : s.vm.findClass (mOwn.getD own "") = some m.cls) (hts : ∀ w ∈ lw_good, w.before args s = true) (hq : q = .null ∨ ∃ t, q = .ref t) (hd : decode cc pc = .ok (i, len)) (hs : mPrm i len own S = some S') (hf : 1 ≤ R.frames) (hlo : 64 ≤ R.locals) (hc1 : h.1.length - c0 ≤ R.cells) (hc2 : mSz h.1 - s0 ≤ R.slots)
    (kk : mGo p l e R s m args below meth c Q D dA adR q z0 xL xs c0 s0 (pc + 3) L S' h) : mGo p l e R s m args below meth c Q D dA adR q z0 xL xs c0 s0 pc L S h := by
  intro H locs ls hS hP hz ho hl
  have k1 := kk H locs ls hS hP hz ho hl
  have inE : ∀ w ∈ mExtra, goodWord w = true → w ∈ lw_good := fun w h1 h2 => List.mem_filter.mpr ⟨mExtra_in w h1, h2⟩
  unfold mPrm at hs
  split at hs
  · split at hs
    · rename_i o j nest a S1 hk
      split at hs
      · rename_i hw
        cases hs
        obtain ⟨w1, w2, w3⟩ := mMth_use hk
        have hn : nest = false := by rcases w1 with g | g <;> first | exact absurd g (by decide) | exact g.2
        have hsum := mWrd_tr hq (ad := mAd adR z0) S'
        exact W.objInit hx hb hown (hts _ (w3 hn)) (hts _ (inE (.instanceMethod objectInit) (by simp [mExtra]) rfl)) (hts _ (inE (.code objectInit ⟨#[0xb1]⟩ 1 none) (by simp [mExtra]) rfl)) (g := F0 m pc ls _) rfl (by rw [hml]; exact hl.1) rfl hd hf (by show 2 * 0 + _ + 12 ≤ _; rw [hsum]; omega) k1
      · cases hs
    · cases hs
  · split at hs
    · rename_i o j nest y x S1 hk
      split at hs
      · rename_i hw
        cases hs
        obtain ⟨w1, w2, w3⟩ := mMth_use hk
        have hn : nest = false := by rcases w1 with g | g <;> first | exact absurd g (by decide) | exact g.2
        have hsum := mWrd_tr hq (ad := mAd adR z0) S1
        exact va_mmax hx hb (hml.trans hl.1.symm) hown (hts _ (w3 hn)) (hts _ (inE (.static Lib.Math.max.name) (by simp [mExtra]) rfl)) (hts _ (inE (.initialized "java/lang/Math") (by simp [mExtra]) rfl)) (hts _ (inE (.code Lib.Math.max.name Lib.Math.max.code 2 (some .int)) (by simp [mExtra]) rfl)) hf (by rw [hsum]; omega) hc1 hc2 hd k1
      · cases hs
    · rename_i o j nest y x S1 hk
      split at hs
      · rename_i hw
        cases hs
        obtain ⟨w1, w2, w3⟩ := mMth_use hk
        have hn : nest = false := by rcases w1 with g | g <;> first | exact absurd g (by decide) | exact g.2
        have hsum := mWrd_tr hq (ad := mAd adR z0) S1
        exact va_mmin hx hb (hml.trans hl.1.symm) hown (hts _ (w3 hn)) (hts _ (inE (.static Lib.Math.min.name) (by simp [mExtra]) rfl)) (hts _ (inE (.initialized "java/lang/Math") (by simp [mExtra]) rfl)) (hts _ (inE (.code Lib.Math.min.name Lib.Math.min.code 2 (some .int)) (by simp [mExtra]) rfl)) hf (by rw [hsum]; omega) hc1 hc2 hd k1
      · cases hs
    · rename_i o j nest x S1 hk
      split at hs
      · rename_i hw
        cases hs
        obtain ⟨w1, w2, w3⟩ := mMth_use hk
        have hn : nest = false := by rcases w1 with g | g <;> first | exact absurd g (by decide) | exact g.2
        have hsum := mWrd_tr hq (ad := mAd adR z0) S1
        exact va_mabs hx hb (hml.trans hl.1.symm) hown (hts _ (w3 hn)) (hts _ (inE (.static Lib.Math.abs.name) (by simp [mExtra]) rfl)) (hts _ (inE (.initialized "java/lang/Math") (by simp [mExtra]) rfl)) (hts _ (inE (.code Lib.Math.abs.name Lib.Math.abs.code 1 (some .int)) (by simp [mExtra]) rfl)) hf (by rw [hsum]; omega) hc1 hc2 hd k1
      · cases hs
    · cases hs
  · cases hs
end MCALL
