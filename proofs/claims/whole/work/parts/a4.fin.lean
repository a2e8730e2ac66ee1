/-! The law's run, whole. -/
theorem lSz (xL : Nat) (h : xL ≤ 3072) : mSz (mLy xL) ≤ 7302250 := by
  have e1 : mSz (mLy xL) = mSz (mRo xL) + mSz mLyt := by rw [mSz, mLy, List.map_append, List.sum_append]; rfl
  have e2 : mSz mLyt ≤ 100000 := by decide +kernel
  have e3 : mSz (mRo xL) ≤ xL + 1000 := by
    simp only [mSz, mRo, List.map_cons, List.map_nil, List.sum_cons, List.sum_nil]
    simp
    omega
  omega
def lQf (xL : Nat) : Option Value → mHp → Prop := fun v h => v = some (.int 1) ∧ h.1 = mLy xL
theorem eD0 (xL : Nat) (xs : Nat → Int32) : eDn xL xs ([(6, 0), (6, 1), (6, 2), (7, 109), (7, 4), (7, 9), (99, 0)], [], [], []) = mH0 xL xs := rfl
theorem eD7 (xL : Nat) (xs : Nat → Int32) : eDn xL xs eL7 = mHh xL (eDn xL xs eL7).2.1 eJ (mRf 41 41 16) := by
  show (eL7.1.set 6 (8, xL), (eDn xL xs eL7).2.1, eJ, lkU (fun _ _ => none) eL7.2.2.2) = _
  rw [eK_f, eL_l, List.set_append_left _ _ (by decide)]
  rfl
theorem law_run {xL : Nat} {xs : Nat → Int32} (hL : xL ≤ 3072) : WP 60 268 0 [.ref 6, mDum, mDum, mDum] [] (mH0 xL xs) (lQf xL) := by
  have h0 : eOk eS0 := by show (_ : List (Nat × Nat))[6]? = _; rfl
  obtain ⟨i1, k1⟩ := eRun_ok (xL := xL) (xs := xs) (Q := lQf xL) 250 eS0 eS1 h0 (eRn_e eR1)
  obtain ⟨i2, k2⟩ := eRun_ok (xL := xL) (xs := xs) (Q := lQf xL) 250 eS1 eS2 i1 (eRn_e eR2)
  obtain ⟨i3, k3⟩ := eRun_ok (xL := xL) (xs := xs) (Q := lQf xL) 250 eS2 eS3 i2 (eRn_e eR3)
  obtain ⟨i4, k4⟩ := eRun_ok (xL := xL) (xs := xs) (Q := lQf xL) 250 eS3 eS4 i3 (eRn_e eR4)
  obtain ⟨i5, k5⟩ := eRun_ok (xL := xL) (xs := xs) (Q := lQf xL) 250 eS4 eS5 i4 (eRn_e eR5)
  obtain ⟨i6, k6⟩ := eRun_ok (xL := xL) (xs := xs) (Q := lQf xL) 250 eS5 eS6 i5 (eRn_e eR6)
  obtain ⟨i7, k7⟩ := eRun_ok (xL := xL) (xs := xs) (Q := lQf xL) 250 eS6 eS7 i6 (eRn_e eR7)
  obtain ⟨i8, k8⟩ := eRun_ok (xL := xL) (xs := xs) (Q := lQf xL) 250 eS7 eS8 i7 (eRn_e eR8)
  obtain ⟨i9, k9⟩ := eRun_ok (xL := xL) (xs := xs) (Q := lQf xL) 250 eS8 eS9 i8 (eRn_e eR9)
  obtain ⟨i10, k10⟩ := eRun_ok (xL := xL) (xs := xs) (Q := lQf xL) 250 eS9 eS10 i9 (eRn_e eR10)
  obtain ⟨i11, k11⟩ := eRun_ok (xL := xL) (xs := xs) (Q := lQf xL) 250 eS10 eS11 i10 (eRn_e eR11)
  obtain ⟨i12, k12⟩ := eRun_ok (xL := xL) (xs := xs) (Q := lQf xL) 250 eS11 eS12 i11 (eRn_e eR12)
  obtain ⟨i13, k13⟩ := eRun_ok (xL := xL) (xs := xs) (Q := lQf xL) 250 eS12 eS13 i12 (eRn_e eR13)
  obtain ⟨i14, k14⟩ := eRun_ok (xL := xL) (xs := xs) (Q := lQf xL) 250 eS13 eS14 i13 (eRn_e eR14)
  obtain ⟨i15, k15⟩ := eRun_ok (xL := xL) (xs := xs) (Q := lQf xL) 250 eS14 eS15 i14 (eRn_e eR15)
  obtain ⟨i16, k16⟩ := eRun_ok (xL := xL) (xs := xs) (Q := lQf xL) 250 eS15 eS16 i15 (eRn_e eR16)
  obtain ⟨i17, k17⟩ := eRun_ok (xL := xL) (xs := xs) (Q := lQf xL) 250 eS16 eS17 i16 (eRn_e eR17)
  obtain ⟨i18, k18⟩ := eRun_ok (xL := xL) (xs := xs) (Q := lQf xL) 250 eS17 eS18 i17 (eRn_e eR18)
  obtain ⟨i19, k19⟩ := eRun_ok (xL := xL) (xs := xs) (Q := lQf xL) 250 eS18 eS19 i18 (eRn_e eR19)
  obtain ⟨i20, k20⟩ := eRun_ok (xL := xL) (xs := xs) (Q := lQf xL) 250 eS19 eS20 i19 (eRn_e eR20)
  obtain ⟨i21, k21⟩ := eRun_ok (xL := xL) (xs := xs) (Q := lQf xL) 250 eS20 eS21 i20 (eRn_e eR21)
  obtain ⟨i22, k22⟩ := eRun_ok (xL := xL) (xs := xs) (Q := lQf xL) 250 eS21 eS22 i21 (eRn_e eR22)
  obtain ⟨i23, k23⟩ := eRun_ok (xL := xL) (xs := xs) (Q := lQf xL) 250 eS22 eS23 i22 (eRn_e eR23)
  obtain ⟨i24, k24⟩ := eRun_ok (xL := xL) (xs := xs) (Q := lQf xL) 250 eS23 eS24 i23 (eRn_e eR24)
  obtain ⟨i25, k25⟩ := eRun_ok (xL := xL) (xs := xs) (Q := lQf xL) 250 eS24 eS25 i24 (eRn_e eR25)
  obtain ⟨i26, k26⟩ := eRun_ok (xL := xL) (xs := xs) (Q := lQf xL) 250 eS25 eS26 i25 (eRn_e eR26)
  obtain ⟨i27, k27⟩ := eRun_ok (xL := xL) (xs := xs) (Q := lQf xL) 250 eS26 eS27 i26 (eRn_e eR27)
  obtain ⟨i28, k28⟩ := eRun_ok (xL := xL) (xs := xs) (Q := lQf xL) 250 eS27 eS28 i27 (eRn_e eR28)
  obtain ⟨i29, k29⟩ := eRun_ok (xL := xL) (xs := xs) (Q := lQf xL) 250 eS28 eS29 i28 (eRn_e eR29)
  obtain ⟨i30, k30⟩ := eRun_ok (xL := xL) (xs := xs) (Q := lQf xL) 250 eS29 eS30 i29 (eRn_e eR30)
  obtain ⟨i31, k31⟩ := eRun_ok (xL := xL) (xs := xs) (Q := lQf xL) 250 eS30 eS31 i30 (eRn_e eR31)
  obtain ⟨i32, k32⟩ := eRun_ok (xL := xL) (xs := xs) (Q := lQf xL) 250 eS31 eS32 i31 (eRn_e eR32)
  obtain ⟨i33, k33⟩ := eRun_ok (xL := xL) (xs := xs) (Q := lQf xL) 250 eS32 eS33 i32 (eRn_e eR33)
  obtain ⟨i34, k34⟩ := eRun_ok (xL := xL) (xs := xs) (Q := lQf xL) 250 eS33 eS34 i33 (eRn_e eR34)
  obtain ⟨i35, k35⟩ := eRun_ok (xL := xL) (xs := xs) (Q := lQf xL) 250 eS34 eS35 i34 (eRn_e eR35)
  obtain ⟨i36, k36⟩ := eRun_ok (xL := xL) (xs := xs) (Q := lQf xL) 250 eS35 eS36 i35 (eRn_e eR36)
  obtain ⟨i37, k37⟩ := eRun_ok (xL := xL) (xs := xs) (Q := lQf xL) 250 eS36 eS37 i36 (eRn_e eR37)
  obtain ⟨i38, k38⟩ := eRun_ok (xL := xL) (xs := xs) (Q := lQf xL) 250 eS37 eS38 i37 (eRn_e eR38)
  obtain ⟨i39, k39⟩ := eRun_ok (xL := xL) (xs := xs) (Q := lQf xL) 250 eS38 eS39 i38 (eRn_e eR39)
  obtain ⟨i40, k40⟩ := eRun_ok (xL := xL) (xs := xs) (Q := lQf xL) 250 eS39 eS40 i39 (eRn_e eR40)
  obtain ⟨i41, k41⟩ := eRun_ok (xL := xL) (xs := xs) (Q := lQf xL) 250 eS40 eS41 i40 (eRn_e eR41)
  obtain ⟨i42, k42⟩ := eRun_ok (xL := xL) (xs := xs) (Q := lQf xL) 250 eS41 eS42 i41 (eRn_e eR42)
  obtain ⟨i43, k43⟩ := eRun_ok (xL := xL) (xs := xs) (Q := lQf xL) 250 eS42 eS43 i42 (eRn_e eR43)
  obtain ⟨i44, k44⟩ := eRun_ok (xL := xL) (xs := xs) (Q := lQf xL) 250 eS43 eS44 i43 (eRn_e eR44)
  obtain ⟨i45, k45⟩ := eRun_ok (xL := xL) (xs := xs) (Q := lQf xL) 250 eS44 eS45 i44 (eRn_e eR45)
  obtain ⟨i46, k46⟩ := eRun_ok (xL := xL) (xs := xs) (Q := lQf xL) 250 eS45 eS46 i45 (eRn_e eR46)
  obtain ⟨i47, k47⟩ := eRun_ok (xL := xL) (xs := xs) (Q := lQf xL) 250 eS46 eS47 i46 (eRn_e eR47)
  obtain ⟨i48, k48⟩ := eRun_ok (xL := xL) (xs := xs) (Q := lQf xL) 250 eS47 eS48 i47 (eRn_e eR48)
  obtain ⟨i49, k49⟩ := eRun_ok (xL := xL) (xs := xs) (Q := lQf xL) 250 eS48 eS49 i48 (eRn_e eR49)
  obtain ⟨i50, k50⟩ := eRun_ok (xL := xL) (xs := xs) (Q := lQf xL) 250 eS49 eS50 i49 (eRn_e eR50)
  obtain ⟨i51, k51⟩ := eRun_ok (xL := xL) (xs := xs) (Q := lQf xL) 250 eS50 eS51 i50 (eRn_e eR51)
  obtain ⟨i52, k52⟩ := eRun_ok (xL := xL) (xs := xs) (Q := lQf xL) 250 eS51 eS52 i51 (eRn_e eR52)
  obtain ⟨i53, k53⟩ := eRun_ok (xL := xL) (xs := xs) (Q := lQf xL) 250 eS52 eS53 i52 (eRn_e eR53)
  obtain ⟨i54, k54⟩ := eRun_ok (xL := xL) (xs := xs) (Q := lQf xL) 250 eS53 eS54 i53 (eRn_e eR54)
  obtain ⟨i55, k55⟩ := eRun_ok (xL := xL) (xs := xs) (Q := lQf xL) 250 eS54 eS55 i54 (eRn_e eR55)
  obtain ⟨-, k56⟩ := eRun_ok (xL := xL) (xs := xs) (Q := lQf xL) 191 eS55 eS56 i55 (eRn_e eR56)
  have hw : WP 60 268 18 [.ref 6, .ref 7, .ref 180, .int 0] [] (eDn xL xs eL7) (lQf xL) := by
    rw [eD7]
    exact lLoop (d := 20) hL (fun I J o o' => ⟨rfl, rfl⟩) 0 (Nat.zero_le _) _ eJ 41 16 (ini_l (fun a ha => eDn_2 ha) (fun j _ => eDn_6 j))
  have hz : eWp xL xs (lQf xL) eS56 := hw
  have h := k1 (k2 (k3 (k4 (k5 (k6 (k7 (k8 (k9 (k10 (k11 (k12 (k13 (k14 (k15 (k16 (k17 (k18 (k19 (k20 (k21 (k22 (k23 (k24 (k25 (k26 (k27 (k28 (k29 (k30 (k31 (k32 (k33 (k34 (k35 (k36 (k37 (k38 (k39 (k40 (k41 (k42 (k43 (k44 (k45 (k46 (k47 (k48 (k49 (k50 (k51 (k52 (k53 (k54 (k55 (k56 hz)))))))))))))))))))))))))))))))))))))))))))))))))))))))
  have e : eWp xL xs (lQf xL) eS0 = WP 60 268 0 [.ref 6, mDum, mDum, mDum] [] (eDn xL xs ([(6, 0), (6, 1), (6, 2), (7, 109), (7, 4), (7, 9), (99, 0)], [], [], [])) (lQf xL) := rfl
  rw [e, eD0] at h
  exact h
theorem whole_start {p : Program} {e : Env} {s : State} {m : MethodId} {below : List Frame} {meth : Method} {c : Code} (l : Launch) (hflags : l.flags = flags0) {b L : Nat} {xs : Nat → Int32} (hL : L ≤ 3072) (C0 : lw_At p s m meth c b L xs) : W p l e room_1 s m #[Value.ref b] below meth c s.heap [] 0 0 (lw_Z below #[Value.ref b] s) (entryFrame m ([Value.ref b] : List Value).toArray 4) := by
  obtain ⟨n, v, h', he, hv, hl⟩ := law_run (xs := xs) hL
  subst hv
  refine whole_of_run l hL C0 he ?_ ?_
  · rw [hl]; exact Nat.le_trans (Nat.le_of_eq (rfl : (mLy L).length = 228)) (show 228 ≤ 600000 by decide)
  · rw [hl]; exact lSz L hL
