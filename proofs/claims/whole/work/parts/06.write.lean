/-! Writes, and what is made. -/
theorem mKd_ty {ci k : Nat} (hc : ci < 13) (hk : k < mNf ci) : parseFieldDescriptor (mT ci k).2.2.1 = some (mTyF ci k) ∧ (mT ci k).1 = mOwn.getD ci "" ∧ (mT ci k).2.2.2 = mFn ci k ∧ ((mTyF ci k = .int ∧ mKd ci k = 0) ∨ (mTyF ci k = .boolean ∧ mKd ci k = 1) ∨ (((∃ C, mTyF ci k = .object C) ∨ ∃ t, mTyF ci k = .array t) ∧ mKd ci k = 2)) := by
  have h1 := List.all_eq_true.mp mCls_b ci (List.mem_range.mpr hc)
  have h2 := List.all_eq_true.mp h1 k (List.mem_range.mpr hk)
  simp only [Bool.and_eq_true, decide_eq_true_eq] at h2
  obtain ⟨a1, a2, a3, a4⟩ := h2
  refine ⟨a1, a2, a3, ?_⟩
  cases ht : mTyF ci k <;> rw [ht] at a4 <;> first | exact Or.inl ⟨rfl, of_decide_eq_true a4⟩ | exact Or.inr (Or.inl ⟨rfl, of_decide_eq_true a4⟩) | exact Or.inr (Or.inr ⟨Or.inl ⟨_, rfl⟩, of_decide_eq_true a4⟩) | exact Or.inr (Or.inr ⟨Or.inr ⟨_, rfl⟩, of_decide_eq_true a4⟩) | cases a4
theorem mNm_ok {ci : Nat} (hc : ci < 13) : ∀ a, a < mNf ci → ∀ b, b < mNf ci → a ≠ b → (mT ci a).2.1 ≠ (mT ci b).2.1 := by
  intro a ha b hb
  have h1 := List.all_eq_true.mp mNm_b ci (List.mem_range.mpr hc)
  have h2 := List.all_eq_true.mp h1 a (List.mem_range.mpr ha)
  exact of_decide_eq_true (List.all_eq_true.mp h2 b (List.mem_range.mpr hb))
theorem mCell_congr {dA : Nat → ClassId} {ad : Nat → Nat} {h h' : mHp} {b : Nat} (h0 : h'.1[b]? = h.1[b]?) (h1 : h'.2.1 b = h.2.1 b) (h2 : h'.2.2.1 b = h.2.2.1 b) (h3 : h'.2.2.2 b = h.2.2.2 b) : mCell dA ad h' b = mCell dA ad h b := by
  have e : ∀ ci, mFvs ad h' b ci = mFvs ad h b ci := fun ci => List.map_congr_left (fun k _ => by rw [mFv, mFv, h1, h3])
  rw [mCell, mCell, h0]
  unfold mCellOf
  split <;> simp only [h1, h2, h3, e]
theorem mFvs_setI {ad : Nat → Nat} {h : mHp} {a ci k : Nat} {x : Int32} (hk2 : mKd ci k ≠ 2) : mFvs ad (h.1, mU h.2.1 a k x, h.2.2.1, h.2.2.2) a ci = (mFvs ad h a ci).set k (.int x) := by
  apply List.ext_getElem?
  intro j
  rw [List.getElem?_set]
  simp only [mFvs, List.getElem?_map, List.length_map, List.length_range]
  by_cases hj : k = j
  · subst hj
    rw [if_pos rfl]
    by_cases hl : k < mNf ci
    · rw [if_pos hl, List.getElem?_range hl, Option.map_some, mFv, if_neg hk2]
      simp [mU]
    · rw [if_neg hl, List.getElem?_eq_none (by simp; omega)]
      rfl
  · rw [if_neg hj]
    cases hr : (List.range (mNf ci))[j]? with
    | none => rfl
    | some z =>
      have hz : z = j := by
        obtain ⟨p, q⟩ := List.getElem?_eq_some_iff.mp hr
        rw [List.getElem_range] at q
        exact q.symm
      subst hz
      simp only [Option.map_some, mFv, mU, if_true, if_neg (fun e => hj (Eq.symm e) : ¬ z = k)]
theorem mFvs_setR {ad : Nat → Nat} {h : mHp} {a ci k x : Nat} (hk2 : mKd ci k = 2) : mFvs ad (h.1, h.2.1, h.2.2.1, mU h.2.2.2 a k (some x)) a ci = (mFvs ad h a ci).set k (.ref (ad x)) := by
  apply List.ext_getElem?
  intro j
  rw [List.getElem?_set]
  simp only [mFvs, List.getElem?_map, List.length_map, List.length_range]
  by_cases hj : k = j
  · subst hj
    rw [if_pos rfl]
    by_cases hl : k < mNf ci
    · rw [if_pos hl, List.getElem?_range hl, Option.map_some, mFv, if_pos hk2]
      simp [mU, va_rf]
    · rw [if_neg hl, List.getElem?_eq_none (by simp; omega)]
      rfl
  · rw [if_neg hj]
    cases hr : (List.range (mNf ci))[j]? with
    | none => rfl
    | some z =>
      have hz : z = j := by
        obtain ⟨p, q⟩ := List.getElem?_eq_some_iff.mp hr
        rw [List.getElem_range] at q
        exact q.symm
      subst hz
      simp only [Option.map_some, mFv, mU, if_true, if_neg (fun e => hj (Eq.symm e) : ¬ z = k)]
theorem mU_row {α : Type} {f : Nat → Nat → α} {a k : Nat} {v : α} : mU f a k v a = fun j => if j = k then v else f a j := if_pos rfl
theorem mU_ne {α : Type} {f : Nat → Nat → α} {a b k : Nat} {v : α} (h : b ≠ a) : mU f a k v b = f b := if_neg h
theorem mSz_app (l : List (Nat × Nat)) (x : Nat × Nat) : mSz (l ++ [x]) = mSz l + (if x.1 = 0 then mNf x.2 else x.2) := by
  simp [mSz]
section MSTEP3
variable {p : Program} {l : Launch} {e : Env} {R : Room} {s : State} {m : MethodId} {args : Array Value} {below : List Frame} {meth : Method} {c : Code} {Q : State → Prop} {D : va_G} {dA : Nat → ClassId} {adR : Nat → Nat} {q : Value} {z0 xL : Nat} {xs : Nat → Int32} {c0 s0 : Nat} {cc : ByteArray} {i : Instr} {len own pc pc' : Nat} {ini : Bool} {L S L' S' : List Value} {h h' : mHp}
theorem mGo_at (hc : s.heap.size = z0 + (c0 - 7)) (h7 : 7 ≤ c0) (hcl : c0 ≤ h.1.length) (kk : mGo p l e R s m args below meth c Q D dA adR q z0 xL xs c0 s0 pc L S h) {H : Heap} {locs : List Loc} {ls : Array Slot} (hS : va_S (fun a => z0 ≤ a) s.heap H locs) (hP : va_P D mCls (mWs dA (mAd adR z0) h) H) (ho : mHok xL xs h) (hl : mLk q (mAd adR z0) ls L) : W p l e R s m args below meth c H locs (h.1.length - c0) (mSz h.1 - s0) Q (F0 m pc ls (S.map (mTr q (mAd adR z0)))) := by
  intro T hT X
  have h1 : H.size ≤ s.heap.size + (h.1.length - c0) := by rw [← hT]; exact X.same.2.2.1
  have h2 : z0 + (h.1.length - 7) ≤ H.size := by
    by_cases hl7 : 7 < h.1.length
    · have hg : (mWs dA (mAd adR z0) h)[h.1.length - 8]? = some (mAd adR z0 (h.1.length - 8 + 7), mCell dA (mAd adR z0) h (h.1.length - 8 + 7)) := by
        rw [mWs, List.getElem?_map, List.getElem?_range (by omega)]
        rfl
      have h3 := (hP _ _ hg).lt
      rw [mAd_ge (by omega)] at h3
      omega
    · have := hS.1
      omega
  exact kk H locs ls hS hP (by omega) ho hl T hT X
theorem mPut_ok (hx : p.tables.exec = Jvm.exec) (hb : c.code = cc) (hown : s.vm.findClass (mOwn.getD own "") = some m.cls) (hts : ∀ w ∈ lw_good, w.before args s = true) (f1 : va_K D mCls (mTys dA) s) (f2 : ∀ w ∈ mNst, va_Nw w s) (hini : ini = true → meth.name = "<init>") {ix o j ci k a : Nat} {nest : Bool} {v : Value} {S1 : List Value} {ls : Array Slot} {H : Heap} {locs : List Loc}
    (hk : mFldOf own ix = some (o, j, ci, k, nest)) (ha : h.1[a]? = some (0, ci)) (hf : mFn ci k = false ∨ (ini = true ∧ own = ci ∧ nest = false)) (hd : decode cc pc = .ok (.putfield ix, 3))
    (hn : narrow (mTyF ci k) v = v) (hfit : fits (mTyF ci k) v = true) (hS : va_S (fun a => z0 ≤ a) s.heap H locs) (hP : va_P D mCls (mWs dA (mAd adR z0) h) H) (ho : mHok xL xs h)
    (kk : ∀ (H1 : Heap) (locs1 : List Loc), va_P D mCls ((mWs dA (mAd adR z0) h).set (a - 7) (mAd adR z0 a, .inr (ci, (mFvs (mAd adR z0) h a ci).set k v))) H1 → va_S (fun a => z0 ≤ a) s.heap H1 locs1 → W p l e R s m args below meth c H1 locs1 (h.1.length - c0) (mSz h.1 - s0) Q (F0 m (pc + 3) ls S1)) :
    W p l e R s m args below meth c H locs (h.1.length - c0) (mSz h.1 - s0) Q (F0 m pc ls (v :: .ref (mAd adR z0 a) :: S1)) := by
  obtain ⟨-, -, hci, hkn, hw1, hw2⟩ := mFld_use hk
  obtain ⟨t1, t2, t3, -⟩ := mKd_ty hci hkn
  have he := mWs_obj (dA := dA) (adR := adR) (z0 := z0) ho ha
  have hlen : k < (mFvs (mAd adR z0) h a ci).length := by rw [mFvs, List.length_map, List.length_range]; exact hkn
  rcases hf with hf | ⟨hf, hoc, rfl⟩
  · cases nest with
    | true => exact va_putN hx hb hts (mLay_good hci) (mTyF ci) (fun k hk => (mKd_ty hci hk).1) (mNm_ok hci) hown f1 hP mWs_D hS (a - 7) he (mCls_at ci hci) k hkn (va_Nw.use rfl (f2 _ (hw1 rfl))) (fun _ h9 => h9) (t3.trans hf) t1 hn hfit hlen hd (fun H1 locs1 g1 _ g3 => kk H1 locs1 g1 g3)
    | false => exact va_put hx hb hts (mLay_good hci) (mTyF ci) (fun k hk => (mKd_ty hci hk).1) (mNm_ok hci) hown f1 hP mWs_D hS (a - 7) he (mCls_at ci hci) k hkn (hts _ (hw2 rfl)) (fun _ h9 => h9) (t3.trans hf) t1 hn hfit hlen hd (fun H1 locs1 g1 _ g3 => kk H1 locs1 g1 g3)
  · cases hfn : mFn ci k with
    | true => exact va_putF hx hb hts (mLay_good hci) (mTyF ci) (fun k hk => (mKd_ty hci hk).1) (mNm_ok hci) hown f1 hP mWs_D hS (a - 7) he (mCls_at ci hci) k hkn (hts _ (hw2 rfl)) (fun _ h9 => h9) (t3.trans hfn) (hini hf) (t2.trans (by rw [hoc])) t1 hn hfit hlen hd (fun H1 locs1 g1 _ g3 => kk H1 locs1 g1 g3)
    | false => exact va_put hx hb hts (mLay_good hci) (mTyF ci) (fun k hk => (mKd_ty hci hk).1) (mNm_ok hci) hown f1 hP mWs_D hS (a - 7) he (mCls_at ci hci) k hkn (hts _ (hw2 rfl)) (fun _ h9 => h9) (t3.trans hfn) t1 hn hfit hlen hd (fun H1 locs1 g1 _ g3 => kk H1 locs1 g1 g3)
theorem mNewArr {k n : Nat} {H : Heap} (ho : mHok xL xs h) (hz : H.size = z0 + (h.1.length - 7)) (hP : va_P D mCls (mWs dA (mAd adR z0) h) H) (hl : h'.1 = h.1 ++ [(k, n)]) (hb : ∀ b, b ≠ h.1.length → h'.2.1 b = h.2.1 b ∧ h'.2.2.1 b = h.2.2.1 b ∧ h'.2.2.2 b = h.2.2.2 b) {H1 : Heap} (oq : ∀ a, a < H.size → H1[a]? = H[a]?) (hz1 : H1.size = H.size + 1) {locs : List Loc} (hS : va_S (fun a => z0 ≤ a) s.heap H locs)
    (hc : va_at D mCls (H.size, mCellOf dA (mAd adR z0) h' h.1.length (some (k, n))) H1) : va_P D mCls (mWs dA (mAd adR z0) h') H1 ∧ va_S (fun a => z0 ≤ a) s.heap H1 locs ∧ mHok xL xs h' := by
  have e : mAd adR z0 h.1.length = H.size := by rw [mAd_ge ho.1, hz]
  refine ⟨?_, ⟨by have := hS.1; omega, fun a h1 h2 => ?_, hS.2.2⟩, ho.push hl (fun b hbl => (hb b (by omega)).1)⟩
  · rw [mWs_push hl ho.1 (fun b hbl => mCell_congr (by rw [hl, List.getElem?_append_left hbl]) (hb b (by omega)).1 (hb b (by omega)).2.1 (hb b (by omega)).2.2), e]
    refine va_P.app (hP.kept (fun j x hx => oq x.1 ((hP j x hx).lt))) (fun j x hx => ?_)
    have hj : j < 1 := (List.getElem?_eq_some_iff.mp hx).1
    rw [show j = 0 by omega] at hx
    cases hx
    exact hc
  · rw [oq a (by have := hS.1; omega)]
    exact hS.2.1 a h1 h2
theorem mCln_use {ix o j ci : Nat} (hk : mClnOf own ix = some (o, j, ci)) : ci < 13 ∧ Cond.classLink (mOwn.getD own "") ix (mOwn.getD ci "") ∈ lw_good ∧ Cond.instantiable (mOwn.getD ci "") (mNf ci) ∈ lw_good ∧ Cond.initialized (mOwn.getD ci "") ∈ lw_good := by
  have hm := List.mem_of_find?_eq_some hk
  have hp := List.find?_some hk
  simp only [Bool.and_eq_true, beq_iff_eq] at hp
  obtain ⟨rfl, rfl⟩ := hp
  have hb := of_decide_eq_true (List.all_eq_true.mp mCln_b _ hm)
  have hw := mCln_in _ hm
  exact ⟨hb, List.mem_filter.mpr ⟨hw _ List.mem_cons_self, rfl⟩, List.mem_filter.mpr ⟨hw _ (List.mem_cons_of_mem _ List.mem_cons_self), rfl⟩, List.mem_filter.mpr ⟨hw _ (List.mem_cons_of_mem _ (List.mem_cons_of_mem _ List.mem_cons_self)), rfl⟩⟩
theorem mArr_ok (hx : p.tables.exec = Jvm.exec) (hb : c.code = cc) (hts : ∀ w ∈ lw_good, w.before args s = true) (f1 : va_K D mCls (mTys dA) s) (hc : s.heap.size = z0 + (c0 - 7)) (h7 : 7 ≤ c0) (hcl : c0 ≤ h.1.length) (hs0 : s0 ≤ mSz h.1) {at_ : ArrayType} {ty : FieldType} {t k : Nat} {n : Int32} {S1 : List Value} {H : Heap} {locs : List Loc} {ls : Array Slot} (hty : newarray.typeOf at_ = ty) (hk0 : k ≠ 0) (ht : (mTys dA)[t]? = some (dA t, ty)) (hpr : ∀ U cA, va_RA U cA ty → U.vm.findClass ("[" ++ ty.toString) = some cA) (hw : Cond.arrayClass ty ∈ lw_good) (hcb : componentBytes ty ≤ 8) (hi : mIn n 1000000 = true) (hl0 : h'.1 = h.1 ++ [(k, n.toNatClampNeg)]) (hbb : ∀ b, b ≠ h.1.length → h'.2.1 b = h.2.1 b ∧ h'.2.2.1 b = h.2.2.1 b ∧ h'.2.2.2 b = h.2.2.2 b)
    (hcell : ∃ a0 : vp_A, mCellOf dA (mAd adR z0) h' h.1.length (some (k, n.toNatClampNeg)) = .inl (dA t, a0) ∧ ∀ cA : ClassId, vp_cell cA a0 = arrV cA n.toNatClampNeg (fun _ => defaultValue ty))
    (hr1 : h'.1.length - c0 ≤ R.cells) (hr2 : mSz h'.1 - s0 ≤ R.slots) (hd : decode cc pc = .ok (.newarray at_, 2)) (hS : va_S (fun a => z0 ≤ a) s.heap H locs) (hP : va_P D mCls (mWs dA (mAd adR z0) h) H) (hz : H.size = z0 + (h.1.length - 7)) (ho : mHok xL xs h) (hl : mLk q (mAd adR z0) ls L)
    (kk : mGo p l e R s m args below meth c Q D dA adR q z0 xL xs c0 s0 (pc + 2) L (.ref h.1.length :: S1) h') : W p l e R s m args below meth c H locs (h.1.length - c0) (mSz h.1 - s0) Q (F0 m pc ls (.int n :: S1.map (mTr q (mAd adR z0)))) := by
  subst hty
  have hin := mIn_in hi
  have e1 : h'.1.length - c0 = h.1.length - c0 + 1 := by rw [hl0, List.length_append, List.length_singleton]; omega
  have e2 : mSz h'.1 - s0 = mSz h.1 - s0 + n.toNatClampNeg := by rw [hl0, mSz_app, if_neg hk0]; dsimp only; omega
  have e3 : mAd adR z0 h.1.length = H.size := by rw [mAd_ge ho.1, hz]
  have hlt : n.toNatClampNeg < 1000000 := Nat.not_le.mp (fun z => hin (Or.inr z))
  refine va_newaK hx hb (hts _ hw) rfl hd rfl (fun z => hin (Or.inl z)) rfl (by have := Nat.mul_le_mul (Nat.le_of_lt hlt) hcb; omega) (by omega) (by omega) rfl (fun H1 cA g1 g2 g3 g4 g5 => ?_)
  have hcA : cA = dA t := by
    have h9 := hpr _ _ (f1.2 t _ ht).2
    rw [g5] at h9
    exact Option.some.inj h9
  subst hcA
  obtain ⟨a0, hc1, hc2⟩ := hcell
  obtain ⟨k1, k2, k3⟩ := mNewArr (h' := h') (dA := dA) (adR := adR) (D := D) (s := s) ho hz hP hl0 hbb g3 g2 hS (by
    rw [hc1]
    show H1[H.size]? = some (vp_cell (dA t) a0)
    rw [hc2]
    exact g1)
  have k4 := mGo_at (h := h') hc h7 (by rw [hl0, List.length_append]; omega) kk k2 k1 k3 hl
  rw [e1, e2, List.map_cons, mTr, e3] at k4
  exact k4
theorem mW_ok (hx : p.tables.exec = Jvm.exec) (hb : c.code = cc) (hown : s.vm.findClass (mOwn.getD own "") = some m.cls) (hts : ∀ w ∈ lw_good, w.before args s = true) (fx : mFx D dA adR q z0 xL xs s) (hini : ini = true → meth.name = "<init>") (hc : s.heap.size = z0 + (c0 - 7)) (h7 : 7 ≤ c0) (hcl : c0 ≤ h.1.length) (hs0 : s0 ≤ mSz h.1) (hr1 : h'.1.length - c0 ≤ R.cells) (hr2 : mSz h'.1 - s0 ≤ R.slots)
    (hd : decode cc pc = .ok (i, len)) (hs : mW i len own pc ini S h = some (pc', S', h'))
    (kk : mGo p l e R s m args below meth c Q D dA adR q z0 xL xs c0 s0 pc' L S' h') : mGo p l e R s m args below meth c Q D dA adR q z0 xL xs c0 s0 pc L S h := by
  intro H locs ls hS hP hz ho hl
  obtain ⟨f1, f2, f3, f4, f5, f6, f7, f8, f9, f10, f11⟩ := fx
  unfold mW at hs
  split at hs
  · rename_i ix x a S1
    split at hs
    · rename_i o j ci k nest hk
      split at hs
      · rename_i hcd
        obtain ⟨ha, hkn, hkd, hf⟩ := hcd
        cases hs
        obtain ⟨-, -, hci, -⟩ := mFld_use hk
        obtain ⟨-, -, -, t4⟩ := mKd_ty hci hkn
        have hk2 : mKd ci k ≠ 2 := by omega
        have hty : narrow (mTyF ci k) (.int x) = .int x ∧ fits (mTyF ci k) (.int x) = true := by
          rcases t4 with ⟨t, -⟩ | ⟨t, t5⟩ | ⟨-, t5⟩
          · rw [t]; exact ⟨rfl, rfl⟩
          · rw [t]
            rcases hkd with z | ⟨-, z⟩
            · omega
            · rcases z with rfl | rfl <;> exact ⟨rfl, by decide⟩
          · omega
        refine mPut_ok hx hb hown hts f1 f2 hini hk ha hf hd hty.1 hty.2 hS hP ho (fun H1 locs1 g1 g3 => ?_)
        have E : mWs dA (mAd adR z0) (h.1, mU h.2.1 a k x, h.2.2.1, h.2.2.2) = (mWs dA (mAd adR z0) h).set (a - 7) (mAd adR z0 a, .inr (ci, (mFvs (mAd adR z0) h a ci).set k (.int x))) := mWs_set rfl (ho.ge ha (by omega)) (by rw [← mFvs_setI hk2]; show mCellOf _ _ _ _ h.1[a]? = _; rw [ha]; rfl) (fun b hbn => mCell_congr rfl (mU_ne hbn) rfl rfl)
        have g1 := E.symm ▸ g1
        exact mGo_at (h := (h.1, mU h.2.1 a k x, h.2.2.1, h.2.2.2)) hc h7 hcl kk g3 g1 (ho.put (ho.ge ha (by omega)) rfl (fun b hbn => mU_ne hbn)) hl
      · cases hs
    · cases hs
  · rename_i ix x a S1
    split at hs
    · rename_i o j ci k nest hk
      split at hs
      · rename_i hcd
        obtain ⟨ha, hkn, hkd, hf⟩ := hcd
        cases hs
        obtain ⟨-, -, hci, -⟩ := mFld_use hk
        obtain ⟨-, -, -, t4⟩ := mKd_ty hci hkn
        have hty : narrow (mTyF ci k) (.ref (mAd adR z0 x)) = .ref (mAd adR z0 x) ∧ fits (mTyF ci k) (.ref (mAd adR z0 x)) = true := by
          rcases t4 with ⟨-, t⟩ | ⟨-, t⟩ | ⟨⟨C, t⟩ | ⟨t0, t⟩, -⟩
          · omega
          · omega
          · rw [t]; exact ⟨rfl, rfl⟩
          · rw [t]; exact ⟨rfl, rfl⟩
        refine mPut_ok hx hb hown hts f1 f2 hini hk ha hf hd hty.1 hty.2 hS hP ho (fun H1 locs1 g1 g3 => ?_)
        have E : mWs dA (mAd adR z0) (h.1, h.2.1, h.2.2.1, mU h.2.2.2 a k (some x)) = (mWs dA (mAd adR z0) h).set (a - 7) (mAd adR z0 a, .inr (ci, (mFvs (mAd adR z0) h a ci).set k (.ref (mAd adR z0 x)))) := mWs_set rfl (ho.ge ha (by omega)) (by rw [← mFvs_setR hkd]; show mCellOf _ _ _ _ h.1[a]? = _; rw [ha]; rfl) (fun b hbn => mCell_congr rfl rfl rfl (mU_ne hbn))
        have g1 := E.symm ▸ g1
        exact mGo_at (h := (h.1, h.2.1, h.2.2.1, mU h.2.2.2 a k (some x))) hc h7 hcl kk g3 g1 (ho.put (ho.ge ha (by omega)) rfl (fun b hbn => rfl)) hl
      · cases hs
    · cases hs
  · rename_i x i a S1
    split at hs
    · rename_i n ha
      split at hs
      · rename_i hi
        cases hs
        refine va_iast hx hb f1 hP mWs_D hS _ 0 (mWs_get (ho.ge ha (by omega)) ha) rfl (mIn_in hi) hd (fun H1 locs1 g1 _ g3 => ?_)
        have E : mWs dA (mAd adR z0) (h.1, mU h.2.1 a i.toNatClampNeg x, h.2.2.1, h.2.2.2) = (mWs dA (mAd adR z0) h).set (a - 7) (mAd adR z0 a, .inl (dA 0, n, .inl (upd (h.2.1 a) i.toNatClampNeg x))) := mWs_set rfl (ho.ge ha (by omega)) (by show mCellOf _ _ _ _ h.1[a]? = _; rw [ha]; simp only [mCellOf, mU_row]; rfl) (fun b hbn => mCell_congr rfl (mU_ne hbn) rfl rfl)
        have g1 := E.symm ▸ g1
        exact mGo_at (h := (h.1, mU h.2.1 a i.toNatClampNeg x, h.2.2.1, h.2.2.2)) hc h7 hcl kk g3 g1 (ho.put (ho.ge ha (by omega)) rfl (fun b hbn => mU_ne hbn)) hl
      · cases hs
    · cases hs
  · rename_i x i a S1
    split at hs
    · rename_i n ha
      split at hs
      · rename_i hi
        cases hs
        refine va_bast hx hb f1 hP mWs_D hS _ 1 (mWs_get (ho.ge ha (by omega)) ha) rfl (mIn_in hi) hd (fun H1 locs1 g1 _ g3 => ?_)
        have E : mWs dA (mAd adR z0) (h.1, mU h.2.1 a i.toNatClampNeg (vp_nar .byte x), h.2.2.1, h.2.2.2) = (mWs dA (mAd adR z0) h).set (a - 7) (mAd adR z0 a, .inl (dA 1, n, .inl (upd (h.2.1 a) i.toNatClampNeg (vp_nar .byte x)))) := mWs_set rfl (ho.ge ha (by omega)) (by show mCellOf _ _ _ _ h.1[a]? = _; rw [ha]; simp only [mCellOf, mU_row]; rfl) (fun b hbn => mCell_congr rfl (mU_ne hbn) rfl rfl)
        have g1 := E.symm ▸ g1
        exact mGo_at (h := (h.1, mU h.2.1 a i.toNatClampNeg (vp_nar .byte x), h.2.2.1, h.2.2.2)) hc h7 hcl kk g3 g1 (ho.put (ho.ge ha (by omega)) rfl (fun b hbn => mU_ne hbn)) hl
      · cases hs
    · rename_i n ha
      split at hs
      · rename_i hi
        cases hs
        refine va_zast hx hb f1 hP mWs_D hS _ 2 (mWs_get (ho.ge ha (by omega)) ha) rfl (mIn_in hi) hd (fun H1 locs1 g1 _ g3 => ?_)
        have E : mWs dA (mAd adR z0) (h.1, mU h.2.1 a i.toNatClampNeg (vp_nar .boolean x), h.2.2.1, h.2.2.2) = (mWs dA (mAd adR z0) h).set (a - 7) (mAd adR z0 a, .inl (dA 2, n, .inl (upd (h.2.1 a) i.toNatClampNeg (vp_nar .boolean x)))) := mWs_set rfl (ho.ge ha (by omega)) (by show mCellOf _ _ _ _ h.1[a]? = _; rw [ha]; simp only [mCellOf, mU_row]; rfl) (fun b hbn => mCell_congr rfl (mU_ne hbn) rfl rfl)
        have g1 := E.symm ▸ g1
        exact mGo_at (h := (h.1, mU h.2.1 a i.toNatClampNeg (vp_nar .boolean x), h.2.2.1, h.2.2.2)) hc h7 hcl kk g3 g1 (ho.put (ho.ge ha (by omega)) rfl (fun b hbn => mU_ne hbn)) hl
      · cases hs
    · cases hs
  · rename_i x i a S1
    split at hs
    · rename_i n ha
      split at hs
      · rename_i hi
        cases hs
        refine va_last hx hb f1 hP mWs_D hS _ 3 (mWs_get (ho.ge ha (by omega)) ha) rfl (mIn_in hi) hd (fun H1 locs1 g1 _ g3 => ?_)
        have E : mWs dA (mAd adR z0) (h.1, h.2.1, mU h.2.2.1 a i.toNatClampNeg x, h.2.2.2) = (mWs dA (mAd adR z0) h).set (a - 7) (mAd adR z0 a, .inl (dA 3, n, .inr (.inl (vp_updL (h.2.2.1 a) i.toNatClampNeg x)))) := mWs_set rfl (ho.ge ha (by omega)) (by show mCellOf _ _ _ _ h.1[a]? = _; rw [ha]; simp only [mCellOf, mU_row]; rfl) (fun b hbn => mCell_congr rfl rfl (mU_ne hbn) rfl)
        have g1 := E.symm ▸ g1
        exact mGo_at (h := (h.1, h.2.1, mU h.2.2.1 a i.toNatClampNeg x, h.2.2.2)) hc h7 hcl kk g3 g1 (ho.put (ho.ge ha (by omega)) rfl (fun b hbn => rfl)) hl
      · cases hs
    · cases hs
  · rename_i x i a S1
    split at hs
    · rename_i n ha
      split at hs
      · rename_i hi
        obtain ⟨hi, hxl⟩ := hi
        cases hs
        refine va_astq hx hb f1 hP mWs_D hS _ 4 (x - 7) 8 (r := (mOwn.getD 8 "", mT 8, mNf 8)) (mWs_get (ho.ge ha (by omega)) ha) rfl (mWs_obj ho hxl) (mCls_at 8 (by omega)) (mIn_in hi) hd (fun H1 locs1 g1 _ g3 => ?_)
        have E : mWs dA (mAd adR z0) (h.1, h.2.1, h.2.2.1, mU h.2.2.2 a i.toNatClampNeg (some x)) = (mWs dA (mAd adR z0) h).set (a - 7) (mAd adR z0 a, .inl (dA 4, n, .inr (.inr (.inr (.inr (va_up (fun j => (h.2.2.2 a j).map (mAd adR z0)) i.toNatClampNeg (some (mAd adR z0 x)))))))) := mWs_set rfl (ho.ge ha (by omega)) (by
          show mCellOf _ _ _ _ h.1[a]? = _
          rw [ha]
          have e9 : (fun j => (mU h.2.2.2 a i.toNatClampNeg (some x) a j).map (mAd adR z0)) = va_up (fun j => (h.2.2.2 a j).map (mAd adR z0)) i.toNatClampNeg (some (mAd adR z0 x)) := by
            funext j
            by_cases hj : j = i.toNatClampNeg
            · simp [mU, va_up, hj]
            · simp [mU, va_up, hj]
          simp only [mCellOf, e9]) (fun b hbn => mCell_congr rfl rfl rfl (mU_ne hbn))
        have g1 := E.symm ▸ g1
        exact mGo_at (h := (h.1, h.2.1, h.2.2.1, mU h.2.2.2 a i.toNatClampNeg (some x))) hc h7 hcl kk g3 g1 (ho.put (ho.ge ha (by omega)) rfl (fun b hbn => rfl)) hl
      · cases hs
    · cases hs
  · rename_i ix S1
    split at hs
    · rename_i o j ci hk
      cases hs
      obtain ⟨hci, w1, w2, w3⟩ := mCln_use hk
      have hKn := f1.1 ci _ (mCls_at ci hci)
      have e1 : (h.1 ++ [(0, ci)]).length - c0 = h.1.length - c0 + 1 := by rw [List.length_append, List.length_singleton]; omega
      have e2 : mSz (h.1 ++ [(0, ci)]) - s0 = mSz h.1 - s0 + mNf ci := by rw [mSz_app, if_pos rfl]; dsimp only; omega
      have e3 : mAd adR z0 h.1.length = H.size := by rw [mAd_ge ho.1, hz]
      dsimp only at hr1 hr2
      refine W.newcK hx hb hown (hts _ w1) (hts _ w2) (hts _ w3) rfl hd (by omega) (by omega) hKn.2.1 rfl (fun H1 kC g1 g2 g3 g4 => ?_)
      obtain ⟨k1, k2, k3⟩ := mNewArr (h' := (h.1 ++ [(0, ci)], mZr h.2.1 h.1.length 0, h.2.2.1, mZr h.2.2.2 h.1.length none)) (dA := dA) (adR := adR) (D := D) (s := s) ho hz hP rfl (fun b hbn => ⟨if_neg hbn, rfl, if_neg hbn⟩) g4 g3 hS ⟨_, mCls_at ci hci, (u_born (mTyF ci) hts (mLay_good hci) hKn g1 g2 (fun k hk => (mKd_ty hci hk).1)).to (fun j hj => by
        rw [vp_V, List.getD_eq_getElem?_getD, mFvs_get hj, Option.getD_some, mFv]
        obtain ⟨-, -, -, ⟨t, u⟩ | ⟨t, u⟩ | ⟨⟨C, t⟩ | ⟨t0, t⟩, u⟩⟩ := mKd_ty hci hj
        · rw [if_neg (by omega), t]; simp [mZr, defaultValue]
        · rw [if_neg (by omega), t]; simp [mZr, defaultValue]
        · rw [if_pos u, t]; simp [mZr, defaultValue, va_rf]
        · rw [if_pos u, t]; simp [mZr, defaultValue, va_rf])⟩
      have k4 := mGo_at (h := (h.1 ++ [(0, ci)], mZr h.2.1 h.1.length 0, h.2.2.1, mZr h.2.2.2 h.1.length none)) hc h7 (by rw [List.length_append]; omega) kk k2 k1 k3 hl
      dsimp only at k4
      rw [e1, e2, List.map_cons, mTr, e3] at k4
      exact k4
    · cases hs
  · rename_i n S1
    split at hs
    · rename_i hi
      cases hs
      exact mArr_ok (h' := (h.1 ++ [(1, n.toNatClampNeg)], mZr h.2.1 h.1.length 0, h.2.2.1, h.2.2.2)) (at_ := .int) (ty := .int) (t := 0) (k := 1) hx hb hts f1 hc h7 hcl hs0 rfl (by omega) rfl (fun _ _ z => z) (List.mem_filter.mpr ⟨mExtra_in _ (by simp [mExtra]), rfl⟩) (by decide) hi rfl (fun b hbn => ⟨if_neg hbn, rfl, rfl⟩) ⟨_, rfl, fun cA => by simp [vp_cell, mZr, defaultValue]⟩ hr1 hr2 hd hS hP hz ho hl kk
    · cases hs
  · rename_i n S1
    split at hs
    · rename_i hi
      cases hs
      exact mArr_ok (h' := (h.1 ++ [(2, n.toNatClampNeg)], mZr h.2.1 h.1.length 0, h.2.2.1, h.2.2.2)) (at_ := .byte) (ty := .byte) (t := 1) (k := 2) hx hb hts f1 hc h7 hcl hs0 rfl (by omega) rfl (fun _ _ z => z) (List.mem_filter.mpr ⟨mExtra_in _ (by simp [mExtra]), rfl⟩) (by decide) hi rfl (fun b hbn => ⟨if_neg hbn, rfl, rfl⟩) ⟨_, rfl, fun cA => by simp [vp_cell, mZr, defaultValue]⟩ hr1 hr2 hd hS hP hz ho hl kk
    · cases hs
  · rename_i n S1
    split at hs
    · rename_i hi
      cases hs
      exact mArr_ok (h' := (h.1 ++ [(3, n.toNatClampNeg)], mZr h.2.1 h.1.length 0, h.2.2.1, h.2.2.2)) (at_ := .boolean) (ty := .boolean) (t := 2) (k := 3) hx hb hts f1 hc h7 hcl hs0 rfl (by omega) rfl (fun _ _ z => z) (List.mem_filter.mpr ⟨mExtra_in _ (by simp [mExtra]), rfl⟩) (by decide) hi rfl (fun b hbn => ⟨if_neg hbn, rfl, rfl⟩) ⟨_, rfl, fun cA => by simp [vp_cell, mZr, defaultValue]⟩ hr1 hr2 hd hS hP hz ho hl kk
    · cases hs
  · rename_i n S1
    split at hs
    · rename_i hi
      cases hs
      exact mArr_ok (h' := (h.1 ++ [(4, n.toNatClampNeg)], h.2.1, mZr h.2.2.1 h.1.length 0, h.2.2.2)) (at_ := .long) (ty := .long) (t := 3) (k := 4) hx hb hts f1 hc h7 hcl hs0 rfl (by omega) rfl (fun _ _ z => z) (List.mem_filter.mpr ⟨mExtra_in _ (by simp [mExtra]), rfl⟩) (by decide) hi rfl (fun b hbn => ⟨rfl, if_neg hbn, rfl⟩) ⟨_, rfl, fun cA => by simp [vp_cell, mZr, defaultValue]⟩ hr1 hr2 hd hS hP hz ho hl kk
    · cases hs
  · rename_i ix n S1
    split at hs
    · rename_i o j ci hk
      split at hs
      · rename_i hcd
        obtain ⟨rfl, hi⟩ := hcd
        cases hs
        obtain ⟨hci, w1, w2, w3⟩ := mCln_use hk
        have hin := mIn_in hi
        have e1 : (h.1 ++ [(5, n.toNatClampNeg)]).length - c0 = h.1.length - c0 + 1 := by rw [List.length_append, List.length_singleton]; omega
        have e2 : mSz (h.1 ++ [(5, n.toNatClampNeg)]) - s0 = mSz h.1 - s0 + n.toNatClampNeg := by rw [mSz_app, if_neg (show ¬ (5 : Nat) = 0 by decide)]; dsimp only; omega
        have e3 : mAd adR z0 h.1.length = H.size := by rw [mAd_ge ho.1, hz]
        have hlt : n.toNatClampNeg < 1000000 := Nat.not_le.mp (fun z => hin (Or.inr z))
        dsimp only at hr1 hr2
        refine W.anew hx hb hown (hts _ w1) (va_AO.use f10) rfl hd rfl (fun z => hin (Or.inl z)) (by omega) (by omega) (by omega) (fun cA kA comp g1 g2 g3 g4 => ?_)
        have hcA : cA = dA 4 := by
          obtain ⟨_, _, _, _, _, h9⟩ := (f1.2 4 (dA 4, .object "FamilyGlass$State") rfl).2
          exact Option.some.inj (g1.symm.trans h9)
        subst hcA
        obtain ⟨k1, k2, k3⟩ := mNewArr (h' := (h.1 ++ [(5, n.toNatClampNeg)], h.2.1, h.2.2.1, mZr h.2.2.2 h.1.length none)) (dA := dA) (adR := adR) (D := D) (s := s) (H1 := H.push ({ cls := dA 4, slots := Array.replicate n.toNatClampNeg .null, vm := .none } : Cell)) ho hz hP rfl (fun b hbn => ⟨rfl, rfl, if_neg hbn⟩) (fun a ha => by rw [Array.getElem?_push, if_neg (Nat.ne_of_lt ha)]) (by rw [Array.size_push]) hS (by
          show _ = some (vp_cell (dA 4) (n.toNatClampNeg, .inr (.inr (.inr (.inr (fun j => (mZr h.2.2.2 h.1.length none h.1.length j).map (mAd adR z0)))))))
          have e9 : vp_cell (dA 4) (n.toNatClampNeg, .inr (.inr (.inr (.inr (fun j => (mZr h.2.2.2 h.1.length none h.1.length j).map (mAd adR z0)))))) = arrV (dA 4) n.toNatClampNeg (fun _ => .null) := by simp [vp_cell, mZr, va_rf]
          rw [Array.getElem?_push_size, e9, arrV_new])
        have k4 := mGo_at (h := (h.1 ++ [(5, n.toNatClampNeg)], h.2.1, h.2.2.1, mZr h.2.2.2 h.1.length none)) hc h7 (by rw [List.length_append]; omega) kk k2 k1 k3 hl
        dsimp only at k4
        rw [e1, e2, List.map_cons, mTr, e3] at k4
        exact k4
      · cases hs
    · cases hs
  · cases hs
end MSTEP3
