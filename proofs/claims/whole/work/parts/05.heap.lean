/-! Jumps, reads, writes, what is made. -/
section MSTEP2
variable {p : Program} {l : Launch} {e : Env} {R : Room} {s : State} {m : MethodId} {args : Array Value} {below : List Frame} {meth : Method} {c : Code} {Q : State → Prop} {D : va_G} {dA : Nat → ClassId} {adR : Nat → Nat} {q : Value} {z0 xL : Nat} {xs : Nat → Int32} {c0 s0 : Nat} {cc : ByteArray} {i : Instr} {len own pc pc' : Nat} {L S L' S' : List Value} {h h' : mHp}
theorem mJ_ok (hx : p.tables.exec = Jvm.exec) (hb : c.code = cc) (hd : decode cc pc = .ok (i, len)) (hs : mJ i len pc L S = some (pc', L', S'))
    (kk : mGo p l e R s m args below meth c Q D dA adR q z0 xL xs c0 s0 pc' L' S' h) : mGo p l e R s m args below meth c Q D dA adR q z0 xL xs c0 s0 pc L S h := by
  intro H locs ls hS hP hz ho hl
  unfold mJ at hs
  split at hs
  · obtain ⟨t, h1, h2⟩ := Option.map_eq_some_iff.mp hs
    cases h2
    have k1 := kk H locs ls hS hP hz ho hl
    exact lv_goto hx hb hd (mTgt_eq h1) k1
  · obtain ⟨t, h1, h2⟩ := Option.map_eq_some_iff.mp hs
    cases h2
    have k1 := kk H locs ls hS hP hz ho hl
    exact lv_if_eq hx hb hd (mTgt_eq h1) (fun z => by rw [if_pos z] at k1; exact k1) (fun z => by rw [if_neg z] at k1; exact k1)
  · obtain ⟨t, h1, h2⟩ := Option.map_eq_some_iff.mp hs
    cases h2
    have k1 := kk H locs ls hS hP hz ho hl
    exact lv_if_ne hx hb hd (mTgt_eq h1) (fun z => by rw [if_pos z] at k1; exact k1) (fun z => by rw [if_neg (fun y => y z)] at k1; exact k1)
  · obtain ⟨t, h1, h2⟩ := Option.map_eq_some_iff.mp hs
    cases h2
    have k1 := kk H locs ls hS hP hz ho hl
    exact lv_if_lt hx hb hd (mTgt_eq h1) (fun z => by rw [if_pos z] at k1; exact k1) (fun z => by rw [if_neg z] at k1; exact k1)
  · obtain ⟨t, h1, h2⟩ := Option.map_eq_some_iff.mp hs
    cases h2
    have k1 := kk H locs ls hS hP hz ho hl
    exact lv_if_ge hx hb hd (mTgt_eq h1) (fun z => by rw [if_pos z] at k1; exact k1) (fun z => by rw [if_neg z] at k1; exact k1)
  · obtain ⟨t, h1, h2⟩ := Option.map_eq_some_iff.mp hs
    cases h2
    have k1 := kk H locs ls hS hP hz ho hl
    exact lv_if_gt hx hb hd (mTgt_eq h1) (fun z => by rw [if_pos z] at k1; exact k1) (fun z => by rw [if_neg z] at k1; exact k1)
  · obtain ⟨t, h1, h2⟩ := Option.map_eq_some_iff.mp hs
    cases h2
    have k1 := kk H locs ls hS hP hz ho hl
    exact lv_if_le hx hb hd (mTgt_eq h1) (fun z => by rw [if_pos z] at k1; exact k1) (fun z => by rw [if_neg z] at k1; exact k1)
  · obtain ⟨t, h1, h2⟩ := Option.map_eq_some_iff.mp hs
    cases h2
    have k1 := kk H locs ls hS hP hz ho hl
    exact lv_icmp_eq hx hb hd (mTgt_eq h1) (fun z => by rw [if_pos z] at k1; exact k1) (fun z => by rw [if_neg z] at k1; exact k1)
  · obtain ⟨t, h1, h2⟩ := Option.map_eq_some_iff.mp hs
    cases h2
    have k1 := kk H locs ls hS hP hz ho hl
    exact lv_icmp_ne hx hb hd (mTgt_eq h1) (fun z => by rw [if_pos z] at k1; exact k1) (fun z => by rw [if_neg (fun y => y z)] at k1; exact k1)
  · obtain ⟨t, h1, h2⟩ := Option.map_eq_some_iff.mp hs
    cases h2
    have k1 := kk H locs ls hS hP hz ho hl
    exact lv_icmp_lt hx hb hd (mTgt_eq h1) (fun z => by rw [if_pos z] at k1; exact k1) (fun z => by rw [if_neg z] at k1; exact k1)
  · obtain ⟨t, h1, h2⟩ := Option.map_eq_some_iff.mp hs
    cases h2
    have k1 := kk H locs ls hS hP hz ho hl
    exact lv_icmp_ge hx hb hd (mTgt_eq h1) (fun z => by rw [if_pos z] at k1; exact k1) (fun z => by rw [if_neg z] at k1; exact k1)
  · obtain ⟨t, h1, h2⟩ := Option.map_eq_some_iff.mp hs
    cases h2
    have k1 := kk H locs ls hS hP hz ho hl
    exact lv_icmp_gt hx hb hd (mTgt_eq h1) (fun z => by rw [if_pos z] at k1; exact k1) (fun z => by rw [if_neg z] at k1; exact k1)
  · obtain ⟨t, h1, h2⟩ := Option.map_eq_some_iff.mp hs
    cases h2
    have k1 := kk H locs ls hS hP hz ho hl
    exact lv_icmp_le hx hb hd (mTgt_eq h1) (fun z => by rw [if_pos z] at k1; exact k1) (fun z => by rw [if_neg z] at k1; exact k1)
  · split at hs
    · rename_i hr
      obtain ⟨t, h1, h2⟩ := Option.map_eq_some_iff.mp hs
      cases h2
      have k1 := kk H locs ls hS hP hz ho hl
      exact lv_tableOut hx hb hd hr (mTgt_eq h1) k1
    · rename_i hr
      obtain ⟨off, h0, h3⟩ := Option.bind_eq_some_iff.mp hs
      obtain ⟨t, h1, h2⟩ := Option.map_eq_some_iff.mp h3
      cases h2
      have k1 := kk H locs ls hS hP hz ho hl
      exact lv_tableIn hx hb hd (fun z => hr (Or.inl z)) (fun z => hr (Or.inr z)) h0 (mTgt_eq h1) k1
  · cases hs
theorem mLay_good {ci : Nat} (hc : ci < 13) : ∀ w ∈ u_ws (mOwn.getD ci "") (mT ci) (mNf ci), w ∈ lw_good := by
  intro w hw
  refine List.mem_filter.mpr ⟨mLay_in ci (List.mem_range.mpr hc) w hw, ?_⟩
  obtain ⟨k, -, rfl⟩ := List.mem_map.mp hw
  unfold u_lay
  split <;> rfl
theorem mFld_use {own ix o j ci k : Nat} {nest : Bool} (hk : mFldOf own ix = some (o, j, ci, k, nest)) : o = own ∧ j = ix ∧ ci < 13 ∧ k < mNf ci ∧ (nest = true → Cond.fieldLinkNest (mOwn.getD own "") ix (mT ci k).1 (mT ci k).2.1 (mT ci k).2.2.1 "FamilyGlass" ∈ mNst) ∧ (nest = false → Cond.fieldLink (mOwn.getD own "") ix (mT ci k).1 (mT ci k).2.1 (mT ci k).2.2.1 ∈ lw_good) := by
  have hm := List.mem_of_find?_eq_some hk
  have hp := List.find?_some hk
  simp only [Bool.and_eq_true, beq_iff_eq] at hp
  obtain ⟨rfl, rfl⟩ := hp
  have hb := List.all_eq_true.mp mFld_b _ hm
  simp only [Bool.and_eq_true, decide_eq_true_eq] at hb
  have hw := mFld_in _ hm _ (List.mem_singleton.mpr rfl)
  refine ⟨rfl, rfl, hb.1, hb.2, fun hn => ?_, fun hn => ?_⟩
  · rw [mFldW, if_pos hn] at hw
    exact List.mem_filter.mpr ⟨hw, rfl⟩
  · rw [mFldW, if_neg (by rw [hn]; exact fun z => by cases z)] at hw
    exact List.mem_filter.mpr ⟨hw, rfl⟩
theorem mFvs_get {ad : Nat → Nat} {id ci k : Nat} (hk : k < mNf ci) : (mFvs ad h id ci)[k]? = some (mFv ad h id ci k) := by
  rw [mFvs, List.getElem?_map, List.getElem?_range hk]
  rfl
theorem mWs_obj {a ci : Nat} (ho : mHok xL xs h) (ha : h.1[a]? = some (0, ci)) : (mWs dA (mAd adR z0) h)[a - 7]? = some (mAd adR z0 a, .inr (ci, mFvs (mAd adR z0) h a ci)) := mWs_get (ho.ge ha (by omega)) ha
theorem mG_ok (hx : p.tables.exec = Jvm.exec) (hb : c.code = cc) (hown : s.vm.findClass (mOwn.getD own "") = some m.cls) (hts : ∀ w ∈ lw_good, w.before args s = true) (fx : mFx D dA adR q z0 xL xs s) (hd : decode cc pc = .ok (i, len)) (hs : mG i len own pc S h = some (pc', S', h'))
    (kk : mGo p l e R s m args below meth c Q D dA adR q z0 xL xs c0 s0 pc' L S' h') : mGo p l e R s m args below meth c Q D dA adR q z0 xL xs c0 s0 pc L S h := by
  intro H locs ls hS hP hz ho hl
  obtain ⟨f1, f2, f3, f4, f5, f6, f7, f8, f9⟩ := fx
  unfold mG at hs
  split at hs
  · rename_i ix a S1
    split at hs
    · rename_i o j ci k nest hk
      obtain ⟨rfl, rfl, hci, hkn, hw1, hw2⟩ := mFld_use hk
      split at hs
      · rename_i hc
        obtain ⟨ha, -⟩ := hc
        have he := mWs_obj (dA := dA) (adR := adR) (z0 := z0) ho ha
        have key : ∀ v : Value, mFv (mAd adR z0) h a ci k = v → W p l e R s m args below meth c H locs (h.1.length - c0) (mSz h.1 - s0) Q (F0 m (pc + 3) ls (v :: S1.map (mTr q (mAd adR z0)))) → W p l e R s m args below meth c H locs (h.1.length - c0) (mSz h.1 - s0) Q (F0 m pc ls (.ref (mAd adR z0 a) :: S1.map (mTr q (mAd adR z0)))) := by
          intro v hv kv
          have hv2 := (mFvs_get (h := h) (ad := mAd adR z0) (id := a) hkn).trans (congrArg some hv)
          cases nest with
          | true => exact va_getN hx hb hts (mLay_good hci) hown f1 hP (a - 7) he (mCls_at ci hci) k hkn (va_Nw.use rfl (f2 _ (hw1 rfl))) (fun _ h9 => h9) hv2 hd kv
          | false => exact va_get hx hb hts (mLay_good hci) hown f1 hP (a - 7) he (mCls_at ci hci) k hkn (hts _ (hw2 rfl)) (fun _ h9 => h9) hv2 hd kv
        split at hs
        · rename_i h2
          split at hs
          · rename_i b hbb
            cases hs
            exact key (.ref (mAd adR z0 b)) (by rw [mFv, if_pos h2, hbb]; rfl) (kk H locs ls hS hP hz ho hl)
          · cases hs
        · rename_i h2
          cases hs
          exact key (.int (h.2.1 a k)) (by rw [mFv, if_neg h2]) (kk H locs ls hS hP hz ho hl)
      · cases hs
    · split at hs
      · rename_i hc
        cases hs
        obtain ⟨rfl, rfl, ha⟩ := hc
        have ha' : @LT.lt Nat _ a 3 := ha
        have k1 := kk H locs ls hS hP hz ho hl
        rw [List.map_cons, show mTr q (mAd adR z0) (.ref (3 + a)) = .ref (adR (3 + a)) from congrArg Value.ref (if_pos (by omega))] at k1
        show W p l e R s m args below meth c H locs _ _ Q (F0 m pc ls (mTr q (mAd adR z0) (.ref a) :: _))
        rw [show mTr q (mAd adR z0) (.ref a) = .ref (adR a) from congrArg Value.ref (if_pos (by omega))]
        exact vk_getf hx hb (f3.1 a ha).2.2.1 hS hown (hts _ (List.mem_filter.mpr ⟨mExtra_in (.fieldLink "java/lang/String" 9 "java/lang/String" "value" "[B") (by simp [mExtra]), rfl⟩)) (fun _ h9 => h9) hd k1
      · split at hs
        · rename_i hc
          cases hs
          obtain ⟨rfl, rfl, ha⟩ := hc
          have ha' : @LT.lt Nat _ a 3 := ha
          have k1 := kk H locs ls hS hP hz ho hl
          show W p l e R s m args below meth c H locs _ _ Q (F0 m pc ls (mTr q (mAd adR z0) (.ref a) :: _))
          rw [show mTr q (mAd adR z0) (.ref a) = .ref (adR a) from congrArg Value.ref (if_pos (by omega))]
          exact vk_getf hx hb (f3.1 a ha).2.1 hS hown (hts _ (List.mem_filter.mpr ⟨mExtra_in (.fieldLink "java/lang/String" 15 "java/lang/String" "coder" "B") (by simp [mExtra]), rfl⟩)) (fun _ h9 => h9) hd k1
        · cases hs
  · split at hs
    · rename_i ha
      split at hs
      · rename_i hi
        cases hs
        exact va_iald hx hb f1 hP _ 0 (mWs_get (ho.ge ha (by omega)) ha) rfl (mIn_in hi) hd (kk H locs ls hS hP hz ho hl)
      · cases hs
    · rename_i n ha
      split at hs
      · rename_i hi
        obtain ⟨rfl, hi⟩ := hi
        cases hs
        have hn : n = xL := by
          have h1 := ho.2.1 6 (by omega)
          rw [ha] at h1
          cases h1
          rfl
        subst hn
        have hin := mIn_in hi
        have k1 := kk H locs ls hS hP hz ho hl
        rw [ho.2.2.2 _ (Nat.not_le.mp (fun z => hin (Or.inr z)))] at k1
        exact va_sld hx hb f7 (Nat.lt_of_lt_of_le f8 f9.1) (Nat.not_le.mpr f8) hS hin hd k1
      · cases hs
    · cases hs
  · split at hs
    · rename_i ha
      split at hs
      · rename_i hi
        cases hs
        exact va_bald hx hb f1 hP _ 1 (mWs_get (ho.ge ha (by omega)) ha) rfl (mIn_in hi) hd (kk H locs ls hS hP hz ho hl)
      · cases hs
    · rename_i ha
      split at hs
      · rename_i hi
        cases hs
        exact va_zald hx hb f1 hP _ 2 (mWs_get (ho.ge ha (by omega)) ha) rfl (mIn_in hi) hd (kk H locs ls hS hP hz ho hl)
      · cases hs
    · rename_i a S1 _ n ha
      split at hs
      · rename_i hi
        obtain ⟨⟨h3, h6⟩, hi⟩ := hi
        cases hs
        have h3' : @LE.le Nat _ 3 a := h3
        have h6' : @LT.lt Nat _ a 6 := h6
        obtain ⟨k, rfl⟩ : ∃ k : Nat, @Eq Nat a (3 + k) := ⟨@HSub.hSub Nat Nat Nat _ a 3, by omega⟩
        have hk3 : k < 3 := by omega
        have hn : n = mTxL.getD k 0 := by
          have h1 := ho.2.1 (3 + k) (by omega)
          rw [ha] at h1
          rcases (show k = 0 ∨ k = 1 ∨ k = 2 by omega) with rfl | rfl | rfl <;> cases h1 <;> rfl
        subst hn
        have hin := mIn_in hi
        have k1 := kk H locs ls hS hP hz ho hl
        rw [ho.2.2.1 k hk3 _ (Nat.not_le.mp (fun z => hin (Or.inr z)))] at k1
        show W p l e R s m args below meth c H locs _ _ Q (F0 m pc ls (_ :: mTr q (mAd adR z0) (.ref (3 + k)) :: _))
        rw [show mTr q (mAd adR z0) (.ref (3 + k)) = .ref (adR (3 + k)) from congrArg Value.ref (if_pos (by omega))]
        exact va_tb hx hb (f3.1 k hk3).2.2.2 hS hin rfl hd k1
      · cases hs
    · cases hs
  · split at hs
    · rename_i ha
      split at hs
      · rename_i hi
        cases hs
        exact va_lald hx hb f1 hP _ 3 (mWs_get (ho.ge ha (by omega)) ha) rfl (mIn_in hi) hd (kk H locs ls hS hP hz ho hl)
      · cases hs
    · cases hs
  · split at hs
    · rename_i ha
      split at hs
      · rename_i hi
        split at hs
        · rename_i b hbb
          cases hs
          refine va_aldq hx hb f1 hP _ 4 (mWs_get (ho.ge ha (by omega)) ha) rfl (mIn_in hi) hd ?_
          rw [hbb]
          exact kk H locs ls hS hP hz ho hl
        · cases hs
      · cases hs
    · cases hs
  · split at hs
    · rename_i ha; cases hs; exact va_alen hx hb f1 hP _ 0 (mWs_get (ho.ge ha (by omega)) ha) (ty := .int) rfl rfl hd (kk H locs ls hS hP hz ho hl)
    · rename_i ha; cases hs; exact va_alen hx hb f1 hP _ 1 (mWs_get (ho.ge ha (by omega)) ha) (ty := .byte) rfl rfl hd (kk H locs ls hS hP hz ho hl)
    · rename_i ha; cases hs; exact va_alen hx hb f1 hP _ 2 (mWs_get (ho.ge ha (by omega)) ha) (ty := .boolean) rfl rfl hd (kk H locs ls hS hP hz ho hl)
    · rename_i ha; cases hs; exact va_alen hx hb f1 hP _ 3 (mWs_get (ho.ge ha (by omega)) ha) (ty := .long) rfl rfl hd (kk H locs ls hS hP hz ho hl)
    · rename_i ha; cases hs; exact va_alen hx hb f1 hP _ 4 (mWs_get (ho.ge ha (by omega)) ha) (ty := .object "FamilyGlass$State") rfl rfl hd (kk H locs ls hS hP hz ho hl)
    · rename_i a S1 _ n ha
      split at hs
      · rename_i hi
        obtain ⟨h3, h6⟩ := hi
        cases hs
        have h3' : @LE.le Nat _ 3 a := h3
        have h6' : @LT.lt Nat _ a 6 := h6
        obtain ⟨k, rfl⟩ : ∃ k : Nat, @Eq Nat a (3 + k) := ⟨@HSub.hSub Nat Nat Nat _ a 3, by omega⟩
        have hk3 : k < 3 := by omega
        have hn : n = mTxL.getD k 0 := by
          have h1 := ho.2.1 (3 + k) (by omega)
          rw [ha] at h1
          rcases (show k = 0 ∨ k = 1 ∨ k = 2 by omega) with rfl | rfl | rfl <;> cases h1 <;> rfl
        subst hn
        show W p l e R s m args below meth c H locs _ _ Q (F0 m pc ls (mTr q (mAd adR z0) (.ref (3 + k)) :: _))
        rw [show mTr q (mAd adR z0) (.ref (3 + k)) = .ref (adR (3 + k)) from congrArg Value.ref (if_pos (by omega))]
        exact va_tlen hx hb (f3.1 k hk3).2.2.2 hS rfl hd (kk H locs ls hS hP hz ho hl)
      · cases hs
    · rename_i n ha
      split at hs
      · rename_i hi
        subst hi
        cases hs
        have hn : n = xL := by
          have h1 := ho.2.1 6 (by omega)
          rw [ha] at h1
          cases h1
          rfl
        subst hn
        exact va_slen hx hb f7 (Nat.lt_of_lt_of_le f8 f9.1) (Nat.not_le.mpr f8) hS hd (kk H locs ls hS hP hz ho hl)
      · cases hs
    · cases hs
  · cases hs
end MSTEP2
