/-! What is wanted behind a run, ahead of it: one row an instruction, as equations. -/
theorem mExec_mono : ∀ (n n' d y pc : Nat) (L S : List Value) (h : mHp) (r : Option Value × mHp), n ≤ n' → mExec n d y pc L S h = some r → mExec n' d y pc L S h = some r := by
  intro n
  induction n with
  | zero => intro n' d y pc L S h r _ e; cases e
  | succ n ih =>
    intro n' d y pc L S h r hn e
    obtain ⟨k, rfl⟩ : ∃ k, n' = k + 1 := ⟨n' - 1, by omega⟩
    rw [mExec] at e ⊢
    split at e
    · cases e
    rename_i r0 hr
    try rw [hr]
    try dsimp only
    split at e
    · cases e
    rename_i i len hd
    try rw [hd]
    try dsimp only
    split at e
    · rename_i v hv; (try rw [hv]); exact e
    rename_i hv
    try rw [hv]
    try dsimp only
    split at e
    · rename_i a b c0 d0 hm; (try rw [hm]); exact ih k _ _ _ _ _ _ _ (by omega) e
    rename_i hm
    try rw [hm]
    try dsimp only
    split at e
    · cases e
    rename_i d'
    try dsimp only
    split at e
    · rename_i S' hp; (try rw [hp]); exact ih k _ _ _ _ _ _ _ (by omega) e
    rename_i hp
    try rw [hp]
    try dsimp only
    split at e
    · cases e
    rename_i z as rest hc
    try rw [hc]
    try dsimp only
    split at e
    · cases e
    rename_i rz hz
    try rw [hz]
    try dsimp only
    split at e
    · rename_i ha
      try rw [if_pos ha]
      split at e
      · cases e
      · rename_i v h' he
        rw [ih k _ _ _ _ _ _ _ (by omega) he]
        exact ih k _ _ _ _ _ _ _ (by omega) e
    · cases e
theorem mExec_deep : ∀ (n d d' y pc : Nat) (L S : List Value) (h : mHp) (r : Option Value × mHp), d ≤ d' → mExec n d y pc L S h = some r → mExec n d' y pc L S h = some r := by
  intro n
  induction n with
  | zero => intro d d' y pc L S h r _ e; cases e
  | succ n ih =>
    intro d d' y pc L S h r hn e
    rw [mExec] at e ⊢
    split at e
    · cases e
    rename_i r0 hr
    try rw [hr]
    try dsimp only
    split at e
    · cases e
    rename_i i len hd
    try rw [hd]
    try dsimp only
    split at e
    · rename_i v hv; (try rw [hv]); exact e
    rename_i hv
    try rw [hv]
    try dsimp only
    split at e
    · rename_i a b c0 d0 hm; (try rw [hm]); exact ih _ _ _ _ _ _ _ _ hn e
    rename_i hm
    try rw [hm]
    try dsimp only
    split at e
    · cases e
    rename_i d1
    obtain ⟨k, rfl⟩ : ∃ k, d' = k + 1 := ⟨d' - 1, by omega⟩
    try dsimp only
    split at e
    · rename_i S' hp; (try rw [hp]); exact ih _ _ _ _ _ _ _ _ hn e
    rename_i hp
    try rw [hp]
    try dsimp only
    split at e
    · cases e
    rename_i z as rest hc
    try rw [hc]
    try dsimp only
    split at e
    · cases e
    rename_i rz hz
    try rw [hz]
    try dsimp only
    split at e
    · rename_i ha
      try rw [if_pos ha]
      split at e
      · cases e
      · rename_i v h' he
        rw [ih _ _ _ _ _ _ _ _ (by omega) he]
        exact ih _ _ _ _ _ _ _ _ hn e
    · cases e
def WP (d y pc : Nat) (L S : List Value) (h : mHp) (Q : Option Value → mHp → Prop) : Prop := ∃ (n : Nat) (v : Option Value) (h' : mHp), mExec n d y pc L S h = some (v, h') ∧ Q v h'
section WPS
variable {d y pc pc' len z : Nat} {L S L' S' as rest : List Value} {h h' : mHp} {Q P : Option Value → mHp → Prop} {r rz : mRow} {i : Instr} {v : Option Value}
theorem WP.mono (hw : WP d y pc L S h P) (hq : ∀ v h', P v h' → Q v h') : WP d y pc L S h Q := by
  obtain ⟨n, v, h', e, q⟩ := hw
  exact ⟨n, v, h', e, hq _ _ q⟩
theorem WP.deep {d' : Nat} (hd : d ≤ d') (hw : WP d y pc L S h Q) : WP d' y pc L S h Q := by
  obtain ⟨n, v, h', e, q⟩ := hw
  exact ⟨n, v, h', mExec_deep _ _ _ _ _ _ _ _ _ hd e, q⟩
theorem wp_nrm (hr : mRows[y]? = some r) (hd : decode r.2.1 pc = .ok (i, len)) (h1 : mRet i len r.2.2.2.1 S = none) (h2 : mNrm i len r.2.2.2.2.1 pc (r.1.name == "<init>") L S h = some (pc', L', S', h')) : WP d y pc L S h Q = WP d y pc' L' S' h' Q := by
  have e : ∀ n, mExec (n + 1) d y pc L S h = mExec n d y pc' L' S' h' := by
    intro n
    rw [mExec, hr]
    dsimp only
    rw [hd]
    dsimp only
    rw [h1]
    dsimp only
    rw [h2]
  apply propext
  constructor
  · rintro ⟨n, v, g, e1, q⟩
    cases n with
    | zero => cases e1
    | succ n => exact ⟨n, v, g, by rw [← e]; exact e1, q⟩
  · rintro ⟨n, v, g, e1, q⟩
    exact ⟨n + 1, v, g, by rw [e]; exact e1, q⟩
theorem wp_ret (hr : mRows[y]? = some r) (hd : decode r.2.1 pc = .ok (i, len)) (h1 : mRet i len r.2.2.2.1 S = some v) : WP d y pc L S h Q = Q v h := by
  have e : ∀ n, mExec (n + 1) d y pc L S h = some (v, h) := by
    intro n
    rw [mExec, hr]
    dsimp only
    rw [hd]
    dsimp only
    rw [h1]
  apply propext
  constructor
  · rintro ⟨n, v1, g, e1, q⟩
    cases n with
    | zero => cases e1
    | succ n =>
      rw [e] at e1
      cases e1
      exact q
  · intro q
    exact ⟨1, v, h, e 0, q⟩
theorem wp_prm (hr : mRows[y]? = some r) (hd : decode r.2.1 pc = .ok (i, len)) (h1 : mRet i len r.2.2.2.1 S = none) (h2 : mNrm i len r.2.2.2.2.1 pc (r.1.name == "<init>") L S h = none) (h3 : mPrm i len r.2.2.2.2.1 S = some S') : WP (d + 1) y pc L S h Q = WP (d + 1) y (pc + 3) L S' h Q := by
  have e : ∀ n, mExec (n + 1) (d + 1) y pc L S h = mExec n (d + 1) y (pc + 3) L S' h := by
    intro n
    rw [mExec, hr]
    dsimp only
    rw [hd]
    dsimp only
    rw [h1]
    dsimp only
    rw [h2]
    dsimp only
    rw [h3]
  apply propext
  constructor
  · rintro ⟨n, v, g, e1, q⟩
    cases n with
    | zero => cases e1
    | succ n => exact ⟨n, v, g, by rw [← e]; exact e1, q⟩
  · rintro ⟨n, v, g, e1, q⟩
    exact ⟨n + 1, v, g, by rw [e]; exact e1, q⟩
theorem wp_call (hr : mRows[y]? = some r) (hd : decode r.2.1 pc = .ok (i, len)) (h1 : mRet i len r.2.2.2.1 S = none) (h2 : mNrm i len r.2.2.2.2.1 pc (r.1.name == "<init>") L S h = none) (h3 : mPrm i len r.2.2.2.2.1 S = none) (h4 : mCal i len r.2.2.2.2.1 S h.1 = some (z, as, rest)) (hz : mRows[z]? = some rz) (ha : (mArg as).length ≤ rz.2.2.1) :
    WP (d + 1) y pc L S h Q = WP d z 0 (mLoc rz.2.2.1 as) [] h (fun v h' => WP (d + 1) y (pc + 3) L (v.toList ++ rest) h' Q) := by
  have e : ∀ n, mExec (n + 1) (d + 1) y pc L S h = (match mExec n d z 0 (mLoc rz.2.2.1 as) [] h with
      | none => none
      | some (v, h') => mExec n (d + 1) y (pc + 3) L (v.toList ++ rest) h') := by
    intro n
    rw [mExec, hr]
    dsimp only
    rw [hd]
    dsimp only
    rw [h1]
    dsimp only
    rw [h2]
    dsimp only
    rw [h3]
    dsimp only
    rw [h4]
    dsimp only
    rw [hz]
    dsimp only
    rw [if_pos ha]
    cases mExec n d z 0 (mLoc rz.2.2.1 as) [] h <;> rfl
  apply propext
  constructor
  · rintro ⟨n, v, g, e1, q⟩
    cases n with
    | zero => cases e1
    | succ n =>
      rw [e] at e1
      split at e1
      · cases e1
      · rename_i v1 h1 he
        exact ⟨n, v1, h1, he, n, v, g, e1, q⟩
  · rintro ⟨n1, v1, h1, he, n2, v, g, e1, q⟩
    refine ⟨n1 + n2 + 1, v, g, ?_, q⟩
    rw [e, mExec_mono n1 (n1 + n2) _ _ _ _ _ _ _ (by omega) he]
    exact mExec_mono n2 (n1 + n2) _ _ _ _ _ _ _ (by omega) e1
end WPS
