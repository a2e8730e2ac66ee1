/-! The law's start: what the Statement gives of it is what the small machine wants; so a run of the small machine is enough. -/
def mNar : List Cond := flatC (Jvm.Cond.and given_1 narrow_1)
def mTm (i : Nat) : Term := .string "FamilyGlass$Tokens" ([25, 58, 81].getD i 0)
def mVl (i : Nat) : Term := .field (mTm i) "java/lang/String" "value" "[B"
def mTxW (i : Nat) : List Cond := [.exactly (mTm i) "java/lang/String", .eq (.field (mTm i) "java/lang/String" "coder" "B") (.int 0), .arrayOf (mVl i) .byte, .eq (.length (mVl i)) (.int (Int32.ofNat (mTxL.getD i 0)))] ++ (List.range (mTxL.getD i 0)).map (fun j => .eq (.elem (mVl i) (.int (Int32.ofNat j))) (.int ((mTx.getD i []).getD j 0)))
theorem mTxW_0 : ([9, 10, 11, 12, 13, 14, 15, 16, 17, 18, 19, 20, 21, 22, 23, 24, 25, 26, 27, 28, 29, 30, 31, 32, 33, 34, 35, 36, 37, 38, 39, 40, 41, 42, 43, 44, 45, 46, 47, 48, 49, 50, 51, 52, 53, 54, 55, 56, 57, 58, 59, 60, 61, 62, 63, 64, 65, 66, 67, 68, 69, 70, 71, 72, 73, 74, 75, 76, 77, 78, 79, 80, 81, 82, 83, 84, 85, 86, 87, 88, 89, 90, 91, 92, 93, 94, 95, 96, 97, 98, 99, 100, 101, 102, 103, 104, 105, 106, 107, 108, 109, 110, 111, 112, 113, 114, 115, 116, 117, 118, 119, 120, 121] : List Nat).map (fun j => mNar[j]?) = (mTxW 0).map some := by decide +kernel
theorem mTxW_1 : ([122, 123, 124, 125, 126, 127, 128, 129] : List Nat).map (fun j => mNar[j]?) = (mTxW 1).map some := by decide +kernel
theorem mTxW_2 : ([131, 132, 133, 134, 135, 136, 137, 138, 139, 140, 141, 142, 143] : List Nat).map (fun j => mNar[j]?) = (mTxW 2).map some := by decide +kernel
theorem mNarOf {ps : List Nat} {ws : List Cond} (h : ps.map (fun j => mNar[j]?) = ws.map some) : ∀ w ∈ ws, w ∈ mNar := by
  intro w hw
  have h2 : some w ∈ ps.map (fun j => mNar[j]?) := by rw [h]; exact List.mem_map.mpr ⟨w, hw, rfl⟩
  obtain ⟨j, -, hj⟩ := List.mem_map.mp h2
  exact List.mem_of_getElem? hj
theorem mTxW_in : ∀ i, i < 3 → ∀ w ∈ mTxW i, w ∈ mNar := by
  intro i hi
  rcases (show i = 0 ∨ i = 1 ∨ i = 2 by omega) with rfl | rfl | rfl
  · exact mNarOf mTxW_0
  · exact mNarOf mTxW_1
  · exact mNarOf mTxW_2
def mMore : List Cond := [.not (.eq (mTm 0) (mTm 1)), .not (.eq (mTm 0) (mTm 2)), .not (.eq (mTm 1) (mTm 2)), .eq (.static "java/lang/String" "COMPACT_STRINGS" "Z") (.int 1), .isRef (.static "jdk/internal/util/Preconditions" "SIOOBE_FORMATTER" "Ljava/util/function/BiFunction;")]
theorem mMoreC : ([130, 144, 145, 4, 5] : List Nat).map (fun j => mNar[j]?) = mMore.map some := by decide +kernel
def mStW : List Cond := [.arrayOver (.object "FamilyGlass$State"), .laysStatic "java/lang/String" "COMPACT_STRINGS" "Z", .laysStatic "jdk/internal/util/Preconditions" "SIOOBE_FORMATTER" "Ljava/util/function/BiFunction;", .initialized "java/lang/String", .initialized "jdk/internal/util/Preconditions"] ++ ((List.range 3).map (fun i => Cond.stringRef "FamilyGlass$Tokens" ([25, 58, 81].getD i 0) (mTxS i)) ++ (List.range 13).map (fun ci => Cond.instantiable (mOwn.getD ci "") (mNf ci)))
theorem mStC : ([[479, 209, 225, 147, 149, 199, 645, 743, 452, 430, 521, 473, 275, 281, 541, 188, 480, 172, 194, 164, 1174]] : List (List Nat)).map (fun p => p.map (fun i => lw_tbl[i]?)) = ([mStW].map (fun l => l.map some)) := by decide +kernel
theorem mSt_in : ∀ w ∈ mStW, w ∈ lw_tbl := mMemOf (f := fun l : List Cond => l) (l := [mStW]) mStC mStW (List.mem_singleton.mpr rfl)
/-- the heap ahead of the law's first instruction: three texts, their bytes, the script -/
def mH0 (L : Nat) (xs : Nat → Int32) : mHp := (mRo L, fun a j => if a = 6 then xs j else (mTx.getD (a - 3) []).getD j 0, fun _ _ => 0, fun _ _ => none)
theorem mH0_ok {L : Nat} {xs : Nat → Int32} : mHok L xs (mH0 L xs) := by
  refine ⟨Nat.le_refl _, fun i _ => rfl, fun k hk j _ => ?_, fun j _ => rfl⟩
  show (if 3 + k = 6 then xs j else (mTx.getD (3 + k - 3) []).getD j 0) = _
  rw [if_neg (by omega), Nat.add_sub_cancel_left]
section MSTART
variable {p : Program} {e : Env} {s : State} {m : MethodId} {below : List Frame} {meth : Method} {c : Code}
theorem mFx_start {b L : Nat} {xs : Nat → Int32} (hL : L ≤ 3072) (C0 : lw_At p s m meth c b L xs) : ∃ (D : va_G) (dA : Nat → ClassId) (adR : Nat → Nat) (q : Value), mFx D dA adR q s.heap.size L xs s ∧ adR 6 = b := by
  obtain ⟨hx, hb, hr, hml, hown, hts, hX, hbl, hlk, hgv⟩ := C0
  have hfl : ∀ w ∈ mNar, w.before #[Value.ref b] s = true := flat_of_before _ hgv
  have hst : ∀ w ∈ mStW, w.before #[Value.ref b] s = true := fun w hw => hts w (mSt_in w hw)
  have hex : ∀ w ∈ mExtra, w.before #[Value.ref b] s = true := fun w hw => hts w (mExtra_in w hw)
  have hmo : ∀ w ∈ mMore, w.before #[Value.ref b] s = true := fun w hw => hfl w (mNarOf mMoreC w hw)
  have hA : ∀ a : Nat, a < s.heap.size → ¬ (fun a => s.heap.size ≤ a) a := fun a h => Nat.not_le.mpr h
  -- classes
  have hcls : ∀ ci, ∃ x : ClassId × (Nat → Nat), ci < 13 → u_Kn s (mOwn.getD ci "") (mT ci) (mNf ci) x.1 x.2 := by
    intro ci
    by_cases hci : ci < 13
    · obtain ⟨cC, iS, h⟩ := u_known (ws := lw_good) (fun w hw => hts w (List.mem_filter.mp hw).1) (mLay_good hci) (hst (.instantiable (mOwn.getD ci "") (mNf ci)) (List.mem_append_right _ (List.mem_append_right _ (List.mem_map.mpr ⟨ci, List.mem_range.mpr hci, rfl⟩))))
      exact ⟨(cC, iS), fun _ => h⟩
    · exact ⟨(0, fun _ => 0), fun h => absurd h hci⟩
  obtain ⟨fc, hfc⟩ := Classical.axiomOfChoice hcls
  -- arrays
  have harr : ∀ ty, (Cond.arrayClass ty).before #[Value.ref b] s = true → (∀ cA, s.vm.findClass ("[" ++ ty.toString) = some cA → va_RA s cA ty) → ∃ cA, ArrOfT s cA ty ∧ va_RA s cA ty := by
    intro ty h hra
    obtain ⟨cA, kA, comp, h1, h2, h3⟩ := Cond.arrayClass_spec h
    exact ⟨cA, fun n z => ⟨(fun k h => by cases h), kA, h2, comp, h3⟩, hra cA h1⟩
  obtain ⟨a0, ha0⟩ := harr .int (hex _ (by simp [mExtra])) (fun _ h => h)
  obtain ⟨a1, ha1⟩ := harr .byte (hex _ (by simp [mExtra])) (fun _ h => h)
  obtain ⟨a2, ha2⟩ := harr .boolean (hex _ (by simp [mExtra])) (fun _ h => h)
  obtain ⟨a3, ha3⟩ := harr .long (hex _ (by simp [mExtra])) (fun _ h => h)
  have hov := hst (.arrayOver (.object "FamilyGlass$State")) (by simp [mStW])
  obtain ⟨comp, a4, kA, h1, h2, h3, h4, h5⟩ := Cond.arrayOver_spec hov
  have ha4 : ArrOfT s a4 (.object "FamilyGlass$State") ∧ va_RA s a4 (.object "FamilyGlass$State") := ⟨fun n z => ⟨(fun k h => by cases h), kA, h3, comp, h4⟩, kA, comp, h3, h4, h1, h5⟩
  -- texts
  obtain ⟨adK, adV, hS, hev⟩ := vk_Sof (args := #[Value.ref b]) (s := s) (N := 3) (tm := mTm) (len := mTxL) (byt := mTx) (A := fun a => s.heap.size ≤ a)
    (by intro i hi; rcases (show i = 0 ∨ i = 1 ∨ i = 2 by omega) with rfl | rfl | rfl <;> decide)
    (fun i hi => hfl _ (mTxW_in i hi _ (by simp [mTxW])))
    (fun i hi => hfl _ (mTxW_in i hi _ (by simp [mTxW])))
    (fun i hi => hfl _ (mTxW_in i hi _ (by simp [mTxW, mVl])))
    (fun i hi => hfl _ (mTxW_in i hi _ (by simp [mTxW, mVl])))
    (fun i hi j hj => hfl _ (mTxW_in i hi _ (List.mem_append_right _ (List.mem_map.mpr ⟨j, List.mem_range.mpr hj, rfl⟩))))
    (by
      intro i j hi hj hij
      have n01 := hmo (.not (.eq (mTm 0) (mTm 1))) (by simp [mMore])
      have n02 := hmo (.not (.eq (mTm 0) (mTm 2))) (by simp [mMore])
      have n12 := hmo (.not (.eq (mTm 1) (mTm 2))) (by simp [mMore])
      rcases (show i = 0 ∨ i = 1 ∨ i = 2 by omega) with rfl | rfl | rfl <;> rcases (show j = 0 ∨ j = 1 ∨ j = 2 by omega) with rfl | rfl | rfl <;> first | exact absurd rfl hij | exact Or.inl n01 | exact Or.inl n02 | exact Or.inl n12 | exact Or.inr n01 | exact Or.inr n02 | exact Or.inr n12) hA
  have hZ1 := va_Zof (A := fun a => s.heap.size ≤ a) (hst (.laysStatic "java/lang/String" "COMPACT_STRINGS" "Z") (by simp [mStW])) (hst (.initialized "java/lang/String") (by simp [mStW])) (va_eqi (hmo (.eq (.static "java/lang/String" "COMPACT_STRINGS" "Z") (.int 1)) (by simp [mMore]))) hA
  have hZ2 := va_Zqof (A := fun a => s.heap.size ≤ a) (hst (.laysStatic "jdk/internal/util/Preconditions" "SIOOBE_FORMATTER" "Ljava/util/function/BiFunction;") (by simp [mStW])) (hst (.initialized "jdk/internal/util/Preconditions") (by simp [mStW])) (hmo (.isRef (.static "jdk/internal/util/Preconditions" "SIOOBE_FORMATTER" "Ljava/util/function/BiFunction;")) (by simp [mMore])) hA
  obtain ⟨q, hq, hZq⟩ : ∃ q : Value, (q = .null ∨ ∃ t, q = .ref t) ∧ va_Z "jdk/internal/util/Preconditions" "SIOOBE_FORMATTER" "Ljava/util/function/BiFunction;" q (fun a => s.heap.size ≤ a) s s.heap := by
    rcases hZ2 with h | ⟨t, h⟩
    · exact ⟨.null, Or.inl rfl, h⟩
    · exact ⟨.ref t, Or.inr ⟨t, rfl⟩, h⟩
  refine ⟨(fun ci => (fc ci).1, fun ci => (fc ci).2), fun k => [a0, a1, a2, a3, a4].getD k 0, fun i => if i < 3 then adK i else if i < 6 then adV (i - 3) else b, q, ⟨⟨fun ci r hr => ?_, fun k r hr => ?_⟩, fun w hw => ?_, ?_, fun ent he => ?_, hZ1, hZq, hX, hbl, Nat.le_refl _, va_AO.of hov, hq, hL⟩, rfl⟩
  · have hci : ci < 13 := by
      have := (List.getElem?_eq_some_iff.mp hr).1
      have hl : mCls.length = 13 := by decide +kernel
      omega
    have e := mCls_at ci hci
    cases hr.symm.trans e
    exact hfc ci hci
  · have hk : k < 5 := (List.getElem?_eq_some_iff.mp hr).1
    rcases (show k = 0 ∨ k = 1 ∨ k = 2 ∨ k = 3 ∨ k = 4 by omega) with rfl | rfl | rfl | rfl | rfl <;> cases hr
    · exact ha0
    · exact ha1
    · exact ha2
    · exact ha3
    · exact ha4
  · obtain ⟨h1, h2⟩ := List.mem_filter.mp hw
    exact va_Nw.of (by cases w <;> first | rfl | cases h2) (hts w h1)
  · refine ⟨fun i hi => ?_, fun i j hi hj e => ?_⟩
    · have e1 : (if i < 3 then adK i else if i < 6 then adV (i - 3) else b) = adK i := if_pos hi
      have e2 : (if 3 + i < 3 then adK (3 + i) else if 3 + i < 6 then adV (3 + i - 3) else b) = adV i := by rw [if_neg (by omega), if_pos (by omega), Nat.add_sub_cancel_left]
      dsimp only
      rw [e1, e2]
      exact hS.1 i hi
    · dsimp only at e
      rw [if_pos hi, if_pos hj] at e
      exact hS.2 i j hi hj e
  · have key : ∀ i, i < 3 → vk_R "FamilyGlass$Tokens" ([25, 58, 81].getD i 0) (mTxS i) (adK i) s := fun i hi => vk_R.of (hst _ (List.mem_append_right _ (List.mem_append_left _ (List.mem_map.mpr ⟨i, List.mem_range.mpr hi, rfl⟩)))) (hev i hi)
    have hm : ent = (10, 25, 0) ∨ ent = (10, 58, 1) ∨ ent = (10, 81, 2) := by
      rw [show mKs = [(10, 25, 0), (10, 58, 1), (10, 81, 2)] from rfl] at he
      simpa using he
    rcases hm with rfl | rfl | rfl
    · exact key 0 (by omega)
    · exact key 1 (by omega)
    · exact key 2 (by omega)
theorem mLaw_row : mRows[268]? = some mRowLaw := by rw [mRows_eq, List.getElem?_append_right (by rw [mRowsM_len]; exact Nat.le_refl _), mRowsM_len]; rfl
theorem whole_of_run (l : Launch) {b L : Nat} {xs : Nat → Int32} (hL : L ≤ 3072) (C0 : lw_At p s m meth c b L xs) {n : Nat} {h' : mHp} (hrun : mExec n 60 268 0 [.ref 6, mDum, mDum, mDum] [] (mH0 L xs) = some (some (.int 1), h')) (h1 : h'.1.length ≤ 600000) (h2 : mSz h'.1 ≤ 7302250) : W p l e room_1 s m #[Value.ref b] below meth c s.heap [] 0 0 (lw_Z below #[Value.ref b] s) (entryFrame m ([Value.ref b] : List Value).toArray 4) := by
  obtain ⟨D, dA, adR, q, fx, hb6⟩ := mFx_start hL C0
  obtain ⟨hx, hb, hr, hml, hown, hts, hX, hbl, hlk, hgv⟩ := C0
  have hq := fx.2.2.2.2.2.2.2.2.2.2.1
  rw [lg_entry_eq]
  have e0 : ([Value.ref b] : List Value) = ([Value.ref 6] : List Value).map (mTr q (mAd adR s.heap.size)) := by
    show [Value.ref b] = [Value.ref (mAd adR s.heap.size 6)]
    rw [mAd, if_pos (by omega), hb6]
  have hlk0 := mLk_entry (q := q) (ad := mAd adR s.heap.size) hq (as := [Value.ref 6]) (n := 4) (by decide)
  rw [← e0] at hlk0
  have hP0 : va_P D mCls (mWs dA (mAd adR s.heap.size) (mH0 L xs)) s.heap := by
    intro k x hk
    cases hk
  have k := mSound_all (l := l) (D := D) (dA := dA) (adR := adR) (q := q) (z0 := s.heap.size) (xL := L) (xs := xs) n 60 268 0 [.ref 6, mDum, mDum, mDum] [] (mH0 L xs) (some (.int 1)) h' hrun mRowLaw mLaw_row p e room_1 s m #[Value.ref b] below meth c (lw_Z below #[Value.ref b] s) 7 (mSz (mRo L))
    hx hb hml hown (fun w hw => hts w (List.mem_filter.mp hw).1) fx (fun z => absurd z (by decide)) (by omega) (by omega) (Nat.le_refl _) (Nat.le_refl _) rfl (by decide) (by decide) (by show _ ≤ 600000; omega) (by show _ ≤ 7302250; omega) ?_ s.heap [] _ va_S.rf hP0 (by show _ = _ + (7 - 7); omega) mH0_ok hlk0
  · have e1 : (mH0 L xs).1.length - 7 = 0 := rfl
    have e2 : mSz (mH0 L xs).1 - mSz (mRo L) = 0 := Nat.sub_self _
    rw [e1, e2] at k
    exact k
  · intro pc0 L0 S0 i len hd hret H locs ls hS hP hz ho hl
    unfold mRet at hret
    split at hret
    · rename_i ty w heq
      split at hret
      · cases hret
        refine va_forget hS.2.2 ?_
        refine W.widen (k := 600000) (n := 7302250) (by omega) (by omega) ?_
        exact lw_ret hx hb hr hlk hd
      · cases hret
    · cases hret
    · cases hret
    · cases hret
end MSTART

