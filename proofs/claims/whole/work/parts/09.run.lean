/-! Calls of methods; soundness by the number of steps. -/
section MRUN
variable {p : Program} {l : Launch} {e : Env} {R : Room} {s : State} {m : MethodId} {args : Array Value} {below : List Frame} {meth : Method} {c : Code} {Q : State → Prop} {D : va_G} {dA : Nat → ClassId} {adR : Nat → Nat} {q : Value} {z0 xL : Nat} {xs : Nat → Int32} {c0 s0 : Nat} {cc : ByteArray} {i : Instr} {len own pc pc' : Nat} {L S L' S' : List Value} {h h' : mHp}
theorem mCal_ok {z d : Nat} {as rest : List Value} {v : Option Value} {rz : mRow} (hx : p.tables.exec = Jvm.exec) (hb : c.code = cc) (hml : c.maxLocals = L.length) (hown : s.vm.findClass (mOwn.getD own "") = some m.cls) (hts : ∀ w ∈ lw_good, w.before args s = true) (fx : mFx D dA adR q z0 xL xs s) (hd : decode cc pc = .ok (i, len)) (hs : mCal i len own S h.1 = some (z, as, rest)) (hz : mRows[z]? = some rz)
    (hM : rz ∈ mRowsM → Met l rz.1 (mWsOf rz) (mRm d (h'.1.length - h.1.length) (mSz h'.1 - mSz h.1)) (mPc D dA adR q z0 xL xs h as) (mQc D dA adR q z0 xL xs h' v) (h'.1.length - h.1.length) (mSz h'.1 - mSz h.1) (fun a => z0 ≤ a)) (hd1 : d + 1 ≤ R.frames) (hd2 : 64 * (d + 1) ≤ R.locals) (hcl : c0 ≤ h.1.length) (hs0 : s0 ≤ mSz h.1) (hext : ∃ x, h'.1 = h.1 ++ x) (hr1 : h'.1.length - c0 ≤ R.cells) (hr2 : mSz h'.1 - s0 ≤ R.slots)
    (kk : ∀ (H : Heap) (locs : List Loc) (ls : Array Slot), va_S (fun a => z0 ≤ a) s.heap H locs → va_P D mCls (mWs dA (mAd adR z0) h') H → mHok xL xs h' → mLk q (mAd adR z0) ls L → W p l e R s m args below meth c H locs (h'.1.length - c0) (mSz h'.1 - s0) Q (F0 m (pc + 3) ls ((v.toList ++ rest).map (mTr q (mAd adR z0))))) : mGo p l e R s m args below meth c Q D dA adR q z0 xL xs c0 s0 pc L S h := by
  intro H locs ls hS hP hzz ho hl
  have hq := fx.2.2.2.2.2.2.2.2.2.2.1
  obtain ⟨ex, hex⟩ := hext
  have hmono := mSz_mono hex
  have hU : ∀ U : State, U.heap = H → s.WarmedH U.vm → mPc D dA adR q z0 xL xs h as (as.map (mTr q (mAd adR z0))).toArray U := fun U hU hW => ⟨rfl, fx.to hW (fun a ha => by rw [hU]; exact hS.2.1 a (by have := fx.2.2.2.2.2.2.2.2.1; omega) (Nat.not_le.mpr ha)) (by rw [hU]; have := fx.2.2.2.2.2.2.2.2.1; have := hS.1; omega), by rw [hU]; exact hP, by rw [hU]; exact hzz, ho⟩
  have hCF : CallFix p m c cc L.length s args lw_good (mOwn.getD own "") := ⟨hx, hb, hml, hown, hts⟩
  have hlo : ∀ rz ∈ mRowsM, 8 + (rz.2.2.1 + 11) + (mRm d (h'.1.length - h.1.length) (mSz h'.1 - mSz h.1)).locals ≤ R.locals := fun rz hr => by
    have := (mRow_props hr).2.2.2.2.1
    show 8 + (rz.2.2.1 + 11) + 64 * d ≤ _
    omega
  have hf : h.1.length - c0 + (h'.1.length - h.1.length) ≤ R.cells ∧ mSz h.1 - s0 + (mSz h'.1 - mSz h.1) ≤ R.slots := by omega
  have fin : ∀ {As st0 : List Value} , As = as.map (mTr q (mAd adR z0)) → va_Run p l e R s m args below meth c H locs (h.1.length - c0) (mSz h.1 - s0) (h'.1.length - h.1.length) (mSz h'.1 - mSz h.1) (F0 m pc ls st0) (rest.map (mTr q (mAd adR z0))) (mQc D dA adR q z0 xL xs h' v As.toArray) (fun a => z0 ≤ a) → W p l e R s m args below meth c H locs (h.1.length - c0) (mSz h.1 - s0) Q (F0 m pc ls st0) := by
    intro As st0 _ hr
    refine mAfter (mc := h'.1.length - h.1.length) (ms := mSz h'.1 - mSz h.1) (rest := rest.map (mTr q (mAd adR z0))) (P := fun H1 => va_P D mCls (mWs dA (mAd adR z0) h') H1 ∧ mHok xL xs h') (v' := v.map (mTr q (mAd adR z0))) (fun T hT X => ?_) hS (fun H1 locs1 g1 g2 => ?_)
    · obtain ⟨v1, st₀, t, T', Lq, h0, X', hL, e1, e2, ⟨q1, q2, q3, q4⟩, st⟩ := hr T hT X
      exact ⟨v1, st₀, t, T', Lq, h0, X', hL, e1, e2, ⟨q1, ⟨q2, q3⟩, q4⟩, st⟩
    · have k1 := kk H1 locs1 ls g1 g2.1 g2.2 hl
      have e3 : h.1.length - c0 + (h'.1.length - h.1.length) = h'.1.length - c0 := by omega
      have e4 : mSz h.1 - s0 + (mSz h'.1 - mSz h.1) = mSz h'.1 - s0 := by omega
      rw [e3, e4]
      rw [List.map_append] at k1
      have e5 : (v.map (mTr q (mAd adR z0))).toList = v.toList.map (mTr q (mAd adR z0)) := by cases v <;> rfl
      rw [e5]
      exact k1
  unfold mCal at hs
  split at hs
  · split at hs
    · rename_i ix o j z1 nest hk
      split at hs
      · rename_i r1 hr1'
        split at hs
        · rename_i b rest1 hdr
          split at hs
          · rename_i hcd
            cases hs
            cases hr1'.symm.trans hz
            obtain ⟨hlen, hst, hnm, hrecv, hwd⟩ := hcd
            obtain ⟨w1, w2, w3⟩ := mMth_use hk
            have hzl : z < mLaw := by
              rcases w1 with g | ⟨g, -⟩
              · exact g
              · have := (List.getElem?_eq_some_iff.mp hz).1
                have hl2 : mRows.length = 269 := by rw [mRows_eq, List.length_append, mRowsM_len]; rfl
                omega
            obtain ⟨r2, hr2', hmem⟩ := mRow_at hzl
            cases hr2'.symm.trans hz
            obtain ⟨p1, p2, p3, p4, p5, p6⟩ := mRow_props hmem
            obtain ⟨ww, wc⟩ := mRow_words hmem
            have wI : Cond.instanceMethod rz.1 ∈ lw_good := ww _ (by rw [mRowW, if_neg (by rw [hst]; exact fun z => by cases z), if_neg hnm]; exact List.mem_cons_of_mem _ List.mem_cons_self)
            have wS : Cond.selects rz.1.cls rz.1 rz.1 ∈ lw_good := ww _ (by rw [mRowW, if_neg (by rw [hst]; exact fun z => by cases z), if_neg hnm]; exact List.mem_cons_of_mem _ (List.mem_cons_of_mem _ List.mem_cons_self))
            have wN : Cond.initialized rz.1.cls ∈ lw_good := ww _ List.mem_cons_self
            have hSeq : S.map (mTr q (mAd adR z0)) = (((S.take rz.2.2.2.2.2.1).reverse).map (mTr q (mAd adR z0))).reverse ++ .ref (mAd adR z0 b) :: rest.map (mTr q (mAd adR z0)) := by
              conv => lhs; rw [← List.take_append_drop rz.2.2.2.2.2.1 S, hdr, List.map_append]
              rw [← List.map_reverse, List.reverse_reverse]
              rfl
            have hAn : (((S.take rz.2.2.2.2.2.1).reverse).map (mTr q (mAd adR z0))).length = rz.2.2.2.2.2.1 := by
              rw [List.length_map, List.length_reverse, List.length_take]; omega
            have hrc : ∃ cellB : Cell, H[mAd adR z0 b]? = some cellB ∧ cellB.vm.isStatics = false ∧ s.vm.findClass rz.1.cls = some cellB.cls := by
              rcases hrecv with g | ⟨g1, g2⟩
              · have hci : rz.2.2.2.2.1 < 13 := by
                  have hh : mRowsM.all (fun r => decide (r.2.2.2.2.1 < 13) || decide (r.2.2.2.2.1 = 14) || decide (r.2.2.2.2.2.2 = true)) = true := by decide +kernel
                  have h3 := List.all_eq_true.mp hh _ hmem
                  simp only [Bool.or_eq_true, decide_eq_true_eq] at h3
                  rcases h3 with (h3 | h3) | h3
                  · exact h3
                  · exact Nat.lt_of_not_le (fun hge => by
                      have := mWs_obj (dA := dA) (adR := adR) (z0 := z0) ho g
                      obtain ⟨rr, hrr, -⟩ := hP _ _ this
                      have hl3 : rz.2.2.2.2.1 < mCls.length := (List.getElem?_eq_some_iff.mp hrr).1
                      have : mCls.length = 13 := by decide +kernel
                      omega)
                  · rw [hst] at h3; cases h3
                have h4 := va_recv fx.1 hP (mCls_at _ hci) (mWs_obj (dA := dA) (adR := adR) (z0 := z0) ho g)
                rw [← p6]
                exact h4
              · have g3 : @LT.lt Nat _ b 3 := g2
                have h4 := vk_recv fx.2.2.1 g3 hS
                rw [mAd, if_pos (by omega), ← p6, g1]
                exact h4
            have hpv : PreV s H rz.1.cls (mAd adR z0 b) (mPc D dA adR q z0 xL xs h (.ref b :: (S.take rz.2.2.2.2.2.1).reverse)) (((S.take rz.2.2.2.2.2.1).reverse).map (mTr q (mAd adR z0))) := ⟨mPc_blind, hrc, hU⟩
            have hroom := lv_room (m := m) (pc := pc) (ls := ls) (rest := S.map (mTr q (mAd adR z0))) (st := rest.map (mTr q (mAd adR z0))) (by rw [mWrd_tr hq]; exact hwd)
            have hM' := hM hmem
            rw [mNm_row hz] at w2 w3
            cases nest with
            | true => exact fin rfl (va_runVN hCF hM' ⟨va_cnB rz.2.2.2.2.2.1 hts (mGoodWs hmem) rfl rfl rfl (fx.2.1 _ (w2 rfl)) (hts _ wN) ⟨p2, p3, p4⟩ ⟨hd1, hlo rz hmem⟩, hts _ wI, hts _ wS⟩ hpv rfl hAn hl.1 hSeq hroom hd hf)
            | false => exact fin rfl (va_runV hCF hM' ⟨callB_of rz.2.2.2.2.2.1 hts (mGoodWs hmem) rfl rfl rfl (hts _ wN) (hts _ (w3 rfl)) ⟨p2, p3, p4⟩ ⟨hd1, hlo rz hmem⟩, hts _ wI, hts _ wS⟩ hpv rfl hAn hl.1 hSeq hroom hd hf)
          · cases hs
        · cases hs
      · cases hs
    · cases hs
  · split at hs
    · rename_i ix o j z1 nest hk
      split at hs
      · rename_i r1 hr1'
        split at hs
        · rename_i b rest1 hdr
          split at hs
          · rename_i hcd
            cases hs
            cases hr1'.symm.trans hz
            obtain ⟨hlen, hst, hnm, hret, hwd⟩ := hcd
            obtain ⟨w1, w2, w3⟩ := mMth_use hk
            have hzl : z < mLaw := by
              rcases w1 with g | ⟨g, -⟩
              · exact g
              · have := (List.getElem?_eq_some_iff.mp hz).1
                have hl2 : mRows.length = 269 := by rw [mRows_eq, List.length_append, mRowsM_len]; rfl
                omega
            obtain ⟨r2, hr2', hmem⟩ := mRow_at hzl
            cases hr2'.symm.trans hz
            obtain ⟨p1, p2, p3, p4, p5, p6⟩ := mRow_props hmem
            obtain ⟨ww, wc⟩ := mRow_words hmem
            have wI : Cond.instanceMethod rz.1 ∈ lw_good := ww _ (by rw [mRowW, if_neg (by rw [hst]; exact fun z => by cases z), if_pos hnm]; exact List.mem_cons_of_mem _ List.mem_cons_self)
            have wN : Cond.initialized rz.1.cls ∈ lw_good := ww _ List.mem_cons_self
            have hSeq : S.map (mTr q (mAd adR z0)) = (((S.take rz.2.2.2.2.2.1).reverse).map (mTr q (mAd adR z0))).reverse ++ .ref (mAd adR z0 b) :: rest.map (mTr q (mAd adR z0)) := by
              conv => lhs; rw [← List.take_append_drop rz.2.2.2.2.2.1 S, hdr, List.map_append]
              rw [← List.map_reverse, List.reverse_reverse]
              rfl
            have hAn : (((S.take rz.2.2.2.2.2.1).reverse).map (mTr q (mAd adR z0))).length = rz.2.2.2.2.2.1 := by
              rw [List.length_map, List.length_reverse, List.length_take]; omega
            have hps : PreS s H (mPc D dA adR q z0 xL xs h (.ref b :: (S.take rz.2.2.2.2.2.1).reverse)) (.ref (mAd adR z0 b) :: ((S.take rz.2.2.2.2.2.1).reverse).map (mTr q (mAd adR z0))) := ⟨mPc_blind, hU⟩
            have hroom := lv_room (m := m) (pc := pc) (ls := ls) (rest := S.map (mTr q (mAd adR z0))) (st := rest.map (mTr q (mAd adR z0))) (by rw [mWrd_tr hq]; exact hwd)
            have hM' := hM hmem
            have hws : mWsOf rz = Cond.code rz.1 rz.2.1 rz.2.2.1 none :: lw_good := by rw [mWsOf, hret]
            rw [mNm_row hz] at w2 w3
            cases nest with
            | true => exact fin rfl (va_runIN hCF hM' ⟨va_cnB rz.2.2.2.2.2.1 hts (mGoodWs hmem) hws rfl rfl (fx.2.1 _ (w2 rfl)) (hts _ wN) ⟨p2, p3, p4⟩ ⟨hd1, hlo rz hmem⟩, hnm, hts _ wI⟩ hps rfl hAn hl.1 hSeq hroom hd hf)
            | false => exact fin rfl (va_runI hCF hM' ⟨callB_of rz.2.2.2.2.2.1 hts (mGoodWs hmem) hws rfl rfl (hts _ wN) (hts _ (w3 rfl)) ⟨p2, p3, p4⟩ ⟨hd1, hlo rz hmem⟩, hnm, hts _ wI⟩ hps rfl hAn hl.1 hSeq hroom hd hf)
          · cases hs
        · cases hs
      · cases hs
    · cases hs
  · split at hs
    · rename_i ix o j z1 nest hk
      split at hs
      · rename_i r1 hr1'
        split at hs
        · rename_i hcd
          cases hs
          cases hr1'.symm.trans hz
          obtain ⟨hlen, hst, hwd⟩ := hcd
          obtain ⟨w1, w2, w3⟩ := mMth_use hk
          have hzl : z < mLaw := by
            rcases w1 with g | ⟨g, -⟩
            · exact g
            · have := (List.getElem?_eq_some_iff.mp hz).1
              have hl2 : mRows.length = 269 := by rw [mRows_eq, List.length_append, mRowsM_len]; rfl
              omega
          obtain ⟨r2, hr2', hmem⟩ := mRow_at hzl
          cases hr2'.symm.trans hz
          obtain ⟨p1, p2, p3, p4, p5, p6⟩ := mRow_props hmem
          obtain ⟨ww, wc⟩ := mRow_words hmem
          have wT : Cond.static rz.1 ∈ lw_good := ww _ (by rw [mRowW, if_pos hst]; exact List.mem_cons_of_mem _ List.mem_cons_self)
          have wN : Cond.initialized rz.1.cls ∈ lw_good := ww _ List.mem_cons_self
          have hSeq : S.map (mTr q (mAd adR z0)) = (((S.take rz.2.2.2.2.2.1).reverse).map (mTr q (mAd adR z0))).reverse ++ (S.drop rz.2.2.2.2.2.1).map (mTr q (mAd adR z0)) := by
            conv => lhs; rw [← List.take_append_drop rz.2.2.2.2.2.1 S, List.map_append]
            rw [← List.map_reverse, List.reverse_reverse]
          have hAn : (((S.take rz.2.2.2.2.2.1).reverse).map (mTr q (mAd adR z0))).length = rz.2.2.2.2.2.1 := by
            rw [List.length_map, List.length_reverse, List.length_take]; omega
          have hps : PreS s H (mPc D dA adR q z0 xL xs h (S.take rz.2.2.2.2.2.1).reverse) (((S.take rz.2.2.2.2.2.1).reverse).map (mTr q (mAd adR z0))) := ⟨mPc_blind, hU⟩
          have hroom := lv_room (m := m) (pc := pc) (ls := ls) (rest := S.map (mTr q (mAd adR z0))) (st := (S.drop rz.2.2.2.2.2.1).map (mTr q (mAd adR z0))) (by rw [mWrd_tr hq]; exact hwd)
          have hM' := hM hmem
          rw [mNm_row hz] at w2 w3
          cases nest with
          | true => exact fin rfl (va_runSN hCF hM' ⟨va_cnB rz.2.2.2.2.2.1 hts (mGoodWs hmem) rfl rfl rfl (fx.2.1 _ (w2 rfl)) (hts _ wN) ⟨p2, p3, p4⟩ ⟨hd1, hlo rz hmem⟩, hts _ wT, trivial⟩ hps rfl hAn hl.1 hSeq hroom hd hf)
          | false => exact fin rfl (va_runS hCF hM' ⟨callB_of rz.2.2.2.2.2.1 hts (mGoodWs hmem) rfl rfl rfl (hts _ wN) (hts _ (w3 rfl)) ⟨p2, p3, p4⟩ ⟨hd1, hlo rz hmem⟩, hts _ wT⟩ hps rfl hAn hl.1 hSeq hroom hd hf)
        · cases hs
      · cases hs
    · cases hs
  · cases hs
end MRUN
/-- the run, at a frame: whatever stands below, whatever is wanted behind the return -/
def mSound (l : Launch) (D : va_G) (dA : Nat → ClassId) (adR : Nat → Nat) (q : Value) (z0 xL : Nat) (xs : Nat → Int32) (n : Nat) : Prop := ∀ (d y pc : Nat) (L S : List Value) (h : mHp) (v : Option Value) (h' : mHp), mExec n d y pc L S h = some (v, h') → ∀ r : mRow, mRows[y]? = some r → ∀ (p : Program) (e : Env) (R : Room) (s : State) (m : MethodId) (args : Array Value) (below : List Frame) (meth : Method) (c : Code) (Q : State → Prop) (c0 s0 : Nat),
  p.tables.exec = Jvm.exec → c.code = r.2.1 → c.maxLocals = r.2.2.1 → s.vm.findClass (mOwn.getD r.2.2.2.2.1 "") = some m.cls → (∀ w ∈ lw_good, w.before args s = true) → mFx D dA adR q z0 xL xs s → ((r.1.name == "<init>") = true → meth.name = "<init>") → s.heap.size = z0 + (c0 - 7) → 7 ≤ c0 → c0 ≤ h.1.length → s0 ≤ mSz h.1 → L.length = r.2.2.1 → d ≤ R.frames → 64 * d ≤ R.locals → h'.1.length - c0 ≤ R.cells → mSz h'.1 - s0 ≤ R.slots →
  (∀ (pc0 : Nat) (L0 S0 : List Value) (i : Instr) (len : Nat), decode r.2.1 pc0 = .ok (i, len) → mRet i len r.2.2.2.1 S0 = some v → mGo p l e R s m args below meth c Q D dA adR q z0 xL xs c0 s0 pc0 L0 S0 h') → mGo p l e R s m args below meth c Q D dA adR q z0 xL xs c0 s0 pc L S h
theorem mMet_of {l : Launch} {D : va_G} {dA : Nat → ClassId} {adR : Nat → Nat} {q : Value} {z0 xL : Nat} {xs : Nat → Int32} {n d z : Nat} {as : List Value} {h h' : mHp} {v : Option Value} {r : mRow} (ih : mSound l D dA adR q z0 xL xs n) (hz : mRows[z]? = some r) (hr : r ∈ mRowsM) (he : mExec n d z 0 (mLoc r.2.2.1 as) [] h = some (v, h')) (ha : (mArg as).length ≤ r.2.2.1) :
    Met l r.1 (mWsOf r) (mRm d (h'.1.length - h.1.length) (mSz h'.1 - mSz h.1)) (mPc D dA adR q z0 xL xs h as) (mQc D dA adR q z0 xL xs h' v) (h'.1.length - h.1.length) (mSz h'.1 - mSz h.1) (fun a => z0 ≤ a) := by
  obtain ⟨p1, p2, p3, p4, p5, p6⟩ := mRow_props hr
  refine Met.ofW (cc := r.2.1) (maxL := r.2.2.1) (ret := r.2.2.2.1) p1 rfl ?_
  intro p e s m args below meth c s₁ B hml hv
  obtain ⟨rfl, fx, hP, hsz, ho⟩ := hv
  have hq := fx.2.2.2.2.2.2.2.2.2.2.1
  have hts0 := atoms_spec (ws := mWsOf r) B.pre
  have hrt := B.returns
  rw [lg_entry_eq]
  have hS : va_S (fun a => z0 ≤ a) s.heap s.heap [] := va_S.rf
  have e1 : h.1.length - h.1.length = 0 := Nat.sub_self _
  have e2 : mSz h.1 - mSz h.1 = 0 := Nat.sub_self _
  have k := ih d z 0 (mLoc r.2.2.1 as) [] h v h' he r hz p e (mRm d (h'.1.length - h.1.length) (mSz h'.1 - mSz h.1)) s m (as.map (mTr q (mAd adR z0))).toArray below meth c (MQ below (mQc D dA adR q z0 xL xs h' v) (as.map (mTr q (mAd adR z0))).toArray s (h'.1.length - h.1.length) (mSz h'.1 - mSz h.1) (fun a => z0 ≤ a)) h.1.length (mSz h.1)
    B.exec B.bytes hml (by rw [p6]; exact findClass_of_methodNamed B.named) (fun w hw => hts0 w (List.mem_cons_of_mem _ hw)) fx (fun hi => ((name_of_methodNamed B.named B.method).1).trans (by simpa using hi)) hsz ho.1 (Nat.le_refl _) (Nat.le_refl _) (by rw [mLoc, List.length_append, List.length_replicate]; omega) (Nat.le_refl _) (Nat.le_refl _) (Nat.le_refl _) (Nat.le_refl _) ?_ s.heap [] _ hS hP hsz ho (mLk_entry hq ha)
  · rw [e1, e2] at k
    exact k
  · intro pc0 L0 S0 i len hd hret H locs ls hS hP hz2 ho2 hl
    have hx := B.exec
    have hb := B.bytes
    have hlk : meth.locks = false := B.notSynchronized
    unfold mRet at hret
    split at hret
    · rename_i ty w heq
      split at hret
      · rename_i hn
        cases hret
        exact W.zret hx hb (hrt.trans heq) hn (fun t ht hW => ⟨rfl, by rw [ht]; exact hP, ho2, hS.F ht⟩) hS.2.2 hd (hlocks := hlk)
      · cases hret
    · rename_i w heq
      cases hret
      exact W.lret hx hb (hrt.trans heq) (fun t ht hW => ⟨rfl, by rw [ht]; exact hP, ho2, hS.F ht⟩) hS.2.2 hd (hlocks := hlk)
    · rename_i heq
      cases hret
      exact W.vret hx hb (hrt.trans heq) (fun t ht hW => ⟨rfl, by rw [ht]; exact hP, ho2, hS.F ht⟩) hS.2.2 hd (hlocks := hlk)
    · cases hret
theorem mSound_all {l : Launch} {D : va_G} {dA : Nat → ClassId} {adR : Nat → Nat} {q : Value} {z0 xL : Nat} {xs : Nat → Int32} : ∀ n, mSound l D dA adR q z0 xL xs n := by
  intro n
  induction n with
  | zero => intro d y pc L S h v h' e; cases e
  | succ n ih =>
    intro d y pc L S h v h' ex r hr p e R s m args below meth c Q c0 s0 hx hb hml hown hts fx hini hsz h7 hcl hs0 hL hdf hdl hr1 hr2 hret
    have hq := fx.2.2.2.2.2.2.2.2.2.2.1
    have exExt := mExec_ext _ _ _ _ _ _ _ _ _ ex
    rw [mExec, hr] at ex
    dsimp only at ex
    split at ex
    · cases ex
    rename_i i len hd
    split at ex
    · rename_i v1 hv1
      cases ex
      exact hret pc L S i len hd hv1
    split at ex
    · rename_i pc' L' S' h1 hn
      obtain ⟨hl1, hx1⟩ := mNrm_len hn
      obtain ⟨x1, hx1⟩ := hx1
      have hm1 := mSz_mono hx1
      obtain ⟨x2, hx2⟩ := mExec_ext _ _ _ _ _ _ _ _ _ ex
      have hm2 := mSz_mono hx2
      have k := ih d y pc' L' S' h1 v h' ex r hr p e R s m args below meth c Q c0 s0 hx hb hml hown hts fx hini hsz h7 (by omega) (by omega) (hl1.trans hL) hdf hdl hr1 hr2 hret
      rcases mNrm_cases hn with ⟨g, rfl⟩ | ⟨g, rfl⟩ | ⟨g, rfl⟩ | ⟨g, rfl⟩ | ⟨g, rfl⟩ | ⟨g, rfl⟩
      · exact mA_ok hx hb hown hts fx hd g k
      · exact mB_ok hx hb hq hd g k
      · exact mC_ok hx hb hd g k
      · exact mJ_ok hx hb hd g k
      · exact mG_ok hx hb hown hts fx hd g k
      · exact mW_ok hx hb hown hts fx hini hsz h7 hcl hs0 (by omega) (by omega) hd g k
    split at ex
    · cases ex
    rename_i d'
    obtain ⟨x0, hx0⟩ := exExt
    have hm0 := mSz_mono hx0
    split at ex
    · rename_i S' hp
      have k := ih (d' + 1) y (pc + 3) L S' h v h' ex r hr p e R s m args below meth c Q c0 s0 hx hb hml hown hts fx hini hsz h7 hcl hs0 hL hdf hdl hr1 hr2 hret
      exact mPrm_ok hx hb (hml.trans hL.symm) hown hts hq hd hp (by omega) (by omega) (by omega) (by omega) k
    split at ex
    · cases ex
    rename_i z as rest hc
    split at ex
    · cases ex
    rename_i rz hz
    split at ex
    · rename_i ha
      split at ex
      · cases ex
      · rename_i v1 h1 he
        obtain ⟨x1, hx1⟩ := mExec_ext _ _ _ _ _ _ _ _ _ he
        have hm1 := mSz_mono hx1
        obtain ⟨x2, hx2⟩ := mExec_ext _ _ _ _ _ _ _ _ _ ex
        have hm2 := mSz_mono hx2
        have k := ih (d' + 1) y (pc + 3) L (v1.toList ++ rest) h1 v h' ex r hr p e R s m args below meth c Q c0 s0 hx hb hml hown hts fx hini hsz h7 (by omega) (by omega) hL hdf hdl hr1 hr2 hret
        exact mCal_ok hx hb (hml.trans hL.symm) hown hts fx hd hc hz (fun hmem => mMet_of ih hz hmem he ha) hdf hdl hcl hs0 ⟨x1, hx1⟩ (by omega) (by omega) (fun H locs ls gS gP go gl => mGo_at hsz h7 (by omega) k gS gP go gl)
    · cases ex
