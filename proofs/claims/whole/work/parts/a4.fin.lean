/-! The law's run, whole. -/
theorem lSz (xL : Nat) (h : xL ≤ 3072) : mSz (mLy xL) ≤ 7302250 := by
  have e1 : mSz (mLy xL) = mSz (mRo xL) + mSz mLyt := by rw [mSz, mLy, List.map_append, List.sum_append]; rfl
  have e2 : mSz mLyt ≤ 100000 := by decide +kernel
  have e3 : mSz (mRo xL) ≤ xL + 1000 := by
    simp only [mSz, mRo, List.map_cons, List.map_nil, List.sum_cons, List.sum_nil]
    simp
    omega
  omega
def lQf (xL : Nat) : Option Value → mHp → Prop := fun v h => v = some (.int 1) ∧ h.1 = mLy xL
theorem eD0 (xL : Nat) (xs : Nat → Int32) : eDn xL xs ([(6, 0), (6, 1), (6, 2), (7, 109), (7, 4), (7, 9), (99, 0)], [], [], []) = mH0 xL xs := rfl
theorem eD7 (xL : Nat) (xs : Nat → Int32) : eDn xL xs eL7 = mHh xL (eDn xL xs eL7).2.1 eJ (mRf 41 41 16) := by
  show (eL7.1.set 6 (8, xL), (eDn xL xs eL7).2.1, eJ, lkU (fun _ _ => none) eL7.2.2.2) = _
  rw [eK_f, eL_l, List.set_append_left _ _ (by decide)]
  rfl
theorem law_run {xL : Nat} {xs : Nat → Int32} (hL : xL ≤ 3072) : WP 60 268 0 [.ref 6, mDum, mDum, mDum] [] (mH0 xL xs) (lQf xL) := by
  have h0 : eOk eS0 := by show (_ : List (Nat × Nat))[6]? = _; rfl
  obtain ⟨i1, k1⟩ := eRun_ok (xL := xL) (xs := xs) (Q := lQf xL) 2000 eS0 eS1 h0 (eRn_e eR1)
  obtain ⟨i2, k2⟩ := eRun_ok (xL := xL) (xs := xs) (Q := lQf xL) 2000 eS1 eS2 i1 (eRn_e eR2)
  obtain ⟨i3, k3⟩ := eRun_ok (xL := xL) (xs := xs) (Q := lQf xL) 2000 eS2 eS3 i2 (eRn_e eR3)
  obtain ⟨i4, k4⟩ := eRun_ok (xL := xL) (xs := xs) (Q := lQf xL) 2000 eS3 eS4 i3 (eRn_e eR4)
  obtain ⟨i5, k5⟩ := eRun_ok (xL := xL) (xs := xs) (Q := lQf xL) 2000 eS4 eS5 i4 (eRn_e eR5)
  obtain ⟨i6, k6⟩ := eRun_ok (xL := xL) (xs := xs) (Q := lQf xL) 400 eS5 eS6 i5 (eRn_e eR6)
  obtain ⟨i7, k7⟩ := eRun_ok (xL := xL) (xs := xs) (Q := lQf xL) 400 eS6 eS7 i6 (eRn_e eR7)
  obtain ⟨i8, k8⟩ := eRun_ok (xL := xL) (xs := xs) (Q := lQf xL) 400 eS7 eS8 i7 (eRn_e eR8)
  obtain ⟨i9, k9⟩ := eRun_ok (xL := xL) (xs := xs) (Q := lQf xL) 400 eS8 eS9 i8 (eRn_e eR9)
  obtain ⟨i10, k10⟩ := eRun_ok (xL := xL) (xs := xs) (Q := lQf xL) 400 eS9 eS10 i9 (eRn_e eR10)
  obtain ⟨i11, k11⟩ := eRun_ok (xL := xL) (xs := xs) (Q := lQf xL) 400 eS10 eS11 i10 (eRn_e eR11)
  obtain ⟨i12, k12⟩ := eRun_ok (xL := xL) (xs := xs) (Q := lQf xL) 400 eS11 eS12 i11 (eRn_e eR12)
  obtain ⟨i13, k13⟩ := eRun_ok (xL := xL) (xs := xs) (Q := lQf xL) 400 eS12 eS13 i12 (eRn_e eR13)
  obtain ⟨i14, k14⟩ := eRun_ok (xL := xL) (xs := xs) (Q := lQf xL) 400 eS13 eS14 i13 (eRn_e eR14)
  obtain ⟨-, k15⟩ := eRun_ok (xL := xL) (xs := xs) (Q := lQf xL) 341 eS14 eS15 i14 (eRn_e eR15)
  have hw : WP 60 268 18 [.ref 6, .ref 7, .ref 180, .int 0] [] (eDn xL xs eL7) (lQf xL) := by
    rw [eD7]
    exact lLoop (d := 20) hL (fun I J o o' => ⟨rfl, rfl⟩) 0 (Nat.zero_le _) _ eJ 41 16 (ini_l (fun a ha => eDn_2 ha) (fun j _ => eDn_6 j))
  have hz : eWp xL xs (lQf xL) eS15 := hw
  have h := k1 (k2 (k3 (k4 (k5 (k6 (k7 (k8 (k9 (k10 (k11 (k12 (k13 (k14 (k15 hz))))))))))))))
  have e : eWp xL xs (lQf xL) eS0 = WP 60 268 0 [.ref 6, mDum, mDum, mDum] [] (eDn xL xs ([(6, 0), (6, 1), (6, 2), (7, 109), (7, 4), (7, 9), (99, 0)], [], [], [])) (lQf xL) := rfl
  rw [e, eD0] at h
  exact h
theorem whole_start {p : Program} {e : Env} {s : State} {m : MethodId} {below : List Frame} {meth : Method} {c : Code} (l : Launch) (hflags : l.flags = flags0) {b L : Nat} {xs : Nat → Int32} (hL : L ≤ 3072) (C0 : lw_At p s m meth c b L xs) : W p l e room_1 s m #[Value.ref b] below meth c s.heap [] 0 0 (lw_Z below #[Value.ref b] s) (entryFrame m ([Value.ref b] : List Value).toArray 4) := by
  obtain ⟨n, v, h', he, hv, hl⟩ := law_run (xs := xs) hL
  subst hv
  refine whole_of_run l hL C0 he ?_ ?_
  · rw [hl]; exact Nat.le_trans (Nat.le_of_eq (rfl : (mLy L).length = 228)) (show 228 ≤ 600000 by decide)
  · rw [hl]; exact lSz L hL
