/-! The small machine's run is the given machine's. -/
theorem mSt1_len {L L' : List Value} {i : Nat} {v : Value} (hs : mSt1 L i v = some L') : L'.length = L.length := by
  have hi := mSt1_lt hs
  rw [mSt1, if_pos hi] at hs
  cases hs
  rw [List.length_set, mKill_len]
theorem mSt2_len {L L' : List Value} {i : Nat} {v : Value} (hs : mSt2 L i v = some L') : L'.length = L.length := by
  have hi := mSt2_lt hs
  rw [mSt2, if_pos hi] at hs
  cases hs
  rw [List.length_set, List.length_set, mKill_len]
theorem mA_len {i : Instr} {len own pc pc' : Nat} {L S L' S' : List Value} (hs : mA i len own pc L S = some (pc', L', S')) : L'.length = L.length := by
  unfold mA at hs
  split at hs <;> first | (cases hs; rfl) | (cases hs; done) | (split at hs <;> first | (cases hs; rfl) | (cases hs; done) | (split at hs <;> first | (cases hs; rfl) | (cases hs; done)))
theorem mB_len {i : Instr} {len pc pc' : Nat} {L S L' S' : List Value} (hs : mB i len pc L S = some (pc', L', S')) : L'.length = L.length := by
  unfold mB at hs
  split at hs
  all_goals first
    | (cases hs; rfl)
    | (cases hs; done)
    | (obtain ⟨L1, h1, h2⟩ := Option.map_eq_some_iff.mp hs; cases h2; first | exact mSt1_len h1 | exact mSt2_len h1)
    | (split at hs
       · obtain ⟨L1, h1, h2⟩ := Option.map_eq_some_iff.mp hs; cases h2; exact mSt1_len h1
       · cases hs)
theorem mC_len {i : Instr} {len pc pc' : Nat} {L S L' S' : List Value} (hs : mC i len pc L S = some (pc', L', S')) : L' = L := by
  unfold mC at hs
  split at hs <;> first | (cases hs; rfl) | (cases hs; done) | (split at hs <;> first | (cases hs; rfl) | (cases hs; done))
theorem mJ_len {i : Instr} {len pc pc' : Nat} {L S L' S' : List Value} (hs : mJ i len pc L S = some (pc', L', S')) : L' = L := by
  unfold mJ at hs
  split at hs
  all_goals first
    | (obtain ⟨L1, h1, h2⟩ := Option.map_eq_some_iff.mp hs; cases h2; rfl)
    | (cases hs; done)
    | (split at hs
       · obtain ⟨L1, h1, h2⟩ := Option.map_eq_some_iff.mp hs; cases h2; rfl
       · obtain ⟨off, h0, h3⟩ := Option.bind_eq_some_iff.mp hs
         obtain ⟨L1, h1, h2⟩ := Option.map_eq_some_iff.mp h3; cases h2; rfl)
theorem mG_same {i : Instr} {len own pc pc' : Nat} {S S' : List Value} {h h' : mHp} (hs : mG i len own pc S h = some (pc', S', h')) : h' = h := by
  unfold mG at hs
  split at hs
  all_goals first
    | (cases hs; done)
    | (split at hs <;> first
        | (cases hs; rfl)
        | (cases hs; done)
        | (split at hs <;> first
            | (cases hs; rfl)
            | (cases hs; done)
            | (split at hs <;> first
                | (cases hs; rfl)
                | (cases hs; done)
                | (split at hs <;> first
                    | (cases hs; rfl)
                    | (cases hs; done)))))
theorem mW_ext {i : Instr} {len own pc pc' : Nat} {ini : Bool} {S S' : List Value} {h h' : mHp} (hs : mW i len own pc ini S h = some (pc', S', h')) : ∃ x, h'.1 = h.1 ++ x := by
  unfold mW at hs
  split at hs
  all_goals first
    | (cases hs; done)
    | (split at hs <;> first
        | (cases hs; done)
        | (cases hs; exact ⟨_, rfl⟩)
        | (cases hs; exact ⟨[], (List.append_nil _).symm⟩)
        | (split at hs <;> first
            | (cases hs; done)
            | (cases hs; exact ⟨_, rfl⟩)
            | (cases hs; exact ⟨[], (List.append_nil _).symm⟩)))
theorem mNrm_cases {i : Instr} {len own pc pc' : Nat} {ini : Bool} {L S L' S' : List Value} {h h' : mHp} (hs : mNrm i len own pc ini L S h = some (pc', L', S', h')) :
    (mA i len own pc L S = some (pc', L', S') ∧ h' = h) ∨ (mB i len pc L S = some (pc', L', S') ∧ h' = h) ∨ (mC i len pc L S = some (pc', L', S') ∧ h' = h) ∨ (mJ i len pc L S = some (pc', L', S') ∧ h' = h) ∨ (mG i len own pc S h = some (pc', S', h') ∧ L' = L) ∨ (mW i len own pc ini S h = some (pc', S', h') ∧ L' = L) := by
  unfold mNrm at hs
  split at hs
  · rename_i a b d e
    cases hs
    exact Or.inl ⟨e, rfl⟩
  split at hs
  · rename_i a b d e
    cases hs
    exact Or.inr (Or.inl ⟨e, rfl⟩)
  split at hs
  · rename_i a b d e
    cases hs
    exact Or.inr (Or.inr (Or.inl ⟨e, rfl⟩))
  split at hs
  · rename_i a b d e
    cases hs
    exact Or.inr (Or.inr (Or.inr (Or.inl ⟨e, rfl⟩)))
  split at hs
  · rename_i a b d e
    cases hs
    exact Or.inr (Or.inr (Or.inr (Or.inr (Or.inl ⟨e, rfl⟩))))
  split at hs
  · rename_i a b d e
    cases hs
    exact Or.inr (Or.inr (Or.inr (Or.inr (Or.inr ⟨e, rfl⟩))))
  · cases hs
theorem mNrm_len {i : Instr} {len own pc pc' : Nat} {ini : Bool} {L S L' S' : List Value} {h h' : mHp} (hs : mNrm i len own pc ini L S h = some (pc', L', S', h')) : L'.length = L.length ∧ ∃ x, h'.1 = h.1 ++ x := by
  have nil : ∃ x, h.1 = h.1 ++ x := ⟨[], (List.append_nil _).symm⟩
  rcases mNrm_cases hs with ⟨h1, rfl⟩ | ⟨h1, rfl⟩ | ⟨h1, rfl⟩ | ⟨h1, rfl⟩ | ⟨h1, rfl⟩ | ⟨h1, rfl⟩
  · exact ⟨mA_len h1, nil⟩
  · exact ⟨mB_len h1, nil⟩
  · exact ⟨by rw [mC_len h1], nil⟩
  · exact ⟨by rw [mJ_len h1], nil⟩
  · rw [mG_same h1]; exact ⟨rfl, nil⟩
  · exact ⟨rfl, mW_ext h1⟩
theorem mExec_ext : ∀ (n d y pc : Nat) (L S : List Value) (h : mHp) (v : Option Value) (h' : mHp), mExec n d y pc L S h = some (v, h') → ∃ x, h'.1 = h.1 ++ x := by
  intro n
  induction n with
  | zero => intro d y pc L S h v h' e; cases e
  | succ n ih =>
    intro d y pc L S h v h' e
    rw [mExec] at e
    split at e
    · cases e
    split at e
    · cases e
    split at e
    · cases e; exact ⟨[], (List.append_nil _).symm⟩
    split at e
    · rename_i hn
      obtain ⟨x1, e1⟩ := (mNrm_len hn).2
      obtain ⟨x2, e2⟩ := ih _ _ _ _ _ _ _ _ e
      exact ⟨x1 ++ x2, by rw [e2, e1, List.append_assoc]⟩
    split at e
    · cases e
    split at e
    · exact ih _ _ _ _ _ _ _ _ e
    split at e
    · cases e
    split at e
    · cases e
    split at e
    · split at e
      · cases e
      · rename_i hc
        obtain ⟨x1, e1⟩ := ih _ _ _ _ _ _ _ _ hc
        obtain ⟨x2, e2⟩ := ih _ _ _ _ _ _ _ _ e
        exact ⟨x1 ++ x2, by rw [e2, e1, List.append_assoc]⟩
    · cases e
theorem mSz_mono {a b x : List (Nat × Nat)} (h : b = a ++ x) : a.length ≤ b.length ∧ mSz a ≤ mSz b := by
  subst h
  refine ⟨by rw [List.length_append]; omega, ?_⟩
  simp [mSz]
def mRm (d mc ms : Nat) : Room := { frames := d, cells := mc, slots := ms, locals := 64 * d }
def mWsOf (r : mRow) : List Cond := .code r.1 r.2.1 r.2.2.1 r.2.2.2.1 :: lw_good
def mPc (D : va_G) (dA : Nat → ClassId) (adR : Nat → Nat) (q : Value) (z0 xL : Nat) (xs : Nat → Int32) (h : mHp) (as : List Value) : Array Value → State → Prop := fun a U => a = (as.map (mTr q (mAd adR z0))).toArray ∧ mFx D dA adR q z0 xL xs U ∧ va_P D mCls (mWs dA (mAd adR z0) h) U.heap ∧ U.heap.size = z0 + (h.1.length - 7) ∧ mHok xL xs h
def mQc (D : va_G) (dA : Nat → ClassId) (adR : Nat → Nat) (q : Value) (z0 xL : Nat) (xs : Nat → Int32) (h' : mHp) (v : Option Value) : Array Value → State → Outcome → State → Prop := fun _ st oc t => oc = .returned (v.map (mTr q (mAd adR z0))) ∧ va_P D mCls (mWs dA (mAd adR z0) h') t.heap ∧ mHok xL xs h' ∧ va_F (fun a => z0 ≤ a) st t
def mLaw : Nat := 268
theorem mRow_at {z : Nat} (hz : z < mLaw) : ∃ r, mRows[z]? = some r ∧ r ∈ mRowsM := by
  have hl : z < mRowsM.length := by rw [mRowsM_len]; exact hz
  refine ⟨mRowsM[z], ?_, List.getElem_mem hl⟩
  rw [mRows_eq, List.getElem?_append_left hl, List.getElem?_eq_getElem hl]
theorem mRow_words {r : mRow} (hr : r ∈ mRowsM) : (∀ w ∈ mRowW r, w ∈ lw_good) ∧ Cond.code r.1 r.2.1 r.2.2.1 r.2.2.2.1 ∈ lw_good := by
  refine ⟨fun w hw => List.mem_filter.mpr ⟨mRow_in r hr w hw, ?_⟩, List.mem_filter.mpr ⟨mCos r hr, rfl⟩⟩
  rw [mRowW] at hw
  rcases List.mem_cons.mp hw with rfl | hw
  · rfl
  split at hw
  · rcases List.mem_cons.mp hw with rfl | hw
    · rfl
    · cases hw
  split at hw
  · rcases List.mem_cons.mp hw with rfl | hw
    · rfl
    · cases hw
  · rcases List.mem_cons.mp hw with rfl | hw
    · rfl
    rcases List.mem_cons.mp hw with rfl | hw
    · rfl
    · cases hw
theorem mRow_props {r : mRow} (hr : r ∈ mRowsM) : plainName r.1.cls = true ∧ r.1.cls ≠ "java/lang/invoke/MethodHandle" ∧ r.1.cls ≠ "java/lang/invoke/VarHandle" ∧ (parseMethodDescriptor r.1.desc).map (fun d => d.parameters.length) = some r.2.2.2.2.2.1 ∧ r.2.2.1 ≤ 40 ∧ mOwn.getD r.2.2.2.2.1 "" = r.1.cls := by
  have h := List.all_eq_true.mp mRow_b r hr
  simp only [mRowB, Bool.and_eq_true, decide_eq_true_eq] at h
  exact ⟨h.1, h.2.1, h.2.2.1, h.2.2.2.1, h.2.2.2.2.1, h.2.2.2.2.2⟩
theorem mGoodWs {r : mRow} (hr : r ∈ mRowsM) : GoodIn lw_good (mWsOf r) := by
  intro w hw
  rcases List.mem_cons.mp hw with rfl | hw
  · exact mGood_in _ (mRow_words hr).2
  · exact mGood_in _ hw
theorem mMth_use {own ix o j z : Nat} {nest : Bool} (hk : mMthOf own ix = some (o, j, z, nest)) : (z < mLaw ∨ (9996 ≤ z ∧ nest = false)) ∧ (nest = true → Cond.methodLinkNest (mOwn.getD own "") ix (mNm z) "FamilyGlass" ∈ mNst) ∧ (nest = false → Cond.methodLink (mOwn.getD own "") ix (mNm z) ∈ lw_good) := by
  have hm := List.mem_of_find?_eq_some hk
  have hp := List.find?_some hk
  simp only [Bool.and_eq_true, beq_iff_eq] at hp
  obtain ⟨rfl, rfl⟩ := hp
  have hb := List.all_eq_true.mp mMth_b _ hm
  simp only [Bool.or_eq_true, Bool.and_eq_true, decide_eq_true_eq, Bool.not_eq_true'] at hb
  have hw := mMth_in _ hm _ (List.mem_singleton.mpr rfl)
  refine ⟨hb, fun hn => ?_, fun hn => ?_⟩
  · rw [mMthW, if_pos hn] at hw
    exact List.mem_filter.mpr ⟨hw, rfl⟩
  · rw [mMthW, if_neg (by rw [hn]; exact fun z => by cases z)] at hw
    exact List.mem_filter.mpr ⟨hw, rfl⟩
theorem mNm_row {z : Nat} {r : mRow} (h : mRows[z]? = some r) : mNm z = r.1 := by rw [mNm, h]
theorem mPc_blind {D : va_G} {dA : Nat → ClassId} {adR : Nat → Nat} {q : Value} {z0 xL : Nat} {xs : Nat → Int32} {h : mHp} {as : List Value} : FrameBlind (mPc D dA adR q z0 xL xs h as) := by
  intro a U g mk hq
  obtain ⟨h1, h2, h3, h4, h5⟩ := hq
  exact ⟨h1, h2.to (U := U.calling g mk a) (State.WarmedH.refl U) (fun _ _ => rfl) (by have := h2.2.2.2.2.2.2.2.2.1; exact this), h3, h4, h5⟩
