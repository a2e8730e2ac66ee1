/-! The machine of small steps: its soundness. -/
def eNrm (i : Instr) (len own pc : Nat) (ini : Bool) (L S : List Value) (e : eHp) : Option (Nat × List Value × List Value × eHp) :=
  match mA i len own pc L S with
  | some (pc', L', S') => some (pc', L', S', e)
  | none => match mB i len pc L S with
    | some (pc', L', S') => some (pc', L', S', e)
    | none => match mC i len pc L S with
      | some (pc', L', S') => some (pc', L', S', e)
      | none => match mJ i len pc L S with
        | some (pc', L', S') => some (pc', L', S', e)
        | none => match mG i len own pc S (eCl e) with
          | some (pc', S', _) => some (pc', L, S', e)
          | none => match eW i len own pc ini S e with
            | some (pc', S', e') => some (pc', L, S', e')
            | none => none
def eInv (i : Instr) : Bool := match i with
  | .invokevirtual _ => true
  | .invokespecial _ => true
  | .invokestatic _ => true
  | _ => false
def eStep (st : eSt) : Option eSt :=
  match st with
  | (d, y, pc, L, S, F, e) => match mRows[y]? with
    | none => none
    | some r => match decode r.2.1 pc with
      | .error _ => none
      | .ok (i, len) => match eInv i with
        | true => (match d with
          | 0 => none
          | d' + 1 => match mPrm i len r.2.2.2.2.1 S with
            | some S' => some (d' + 1, y, pc + 3, L, S', F, e)
            | none => match mCal i len r.2.2.2.2.1 S e.1 with
              | none => none
              | some (z, as, rest) => match mRows[z]? with
                | none => none
                | some rz => if (mArg as).length ≤ rz.2.2.1 then some (d', z, 0, mLoc rz.2.2.1 as, [], (d' + 1, y, pc + 3, L, rest) :: F, e) else none)
        | false => match mRet i len r.2.2.2.1 S with
          | some v => (match F with
            | [] => none
            | (d1, y1, pc1, L1, S1) :: F1 => some (d1, y1, pc1, L1, v.toList ++ S1, F1, e))
          | none => match eNrm i len r.2.2.2.2.1 pc (r.1.name == "<init>") L S e with
            | some (pc', L', S', e') => some (d, y, pc', L', S', F, e')
            | none => none
def eRun : Nat → eSt → Option eSt
  | 0, st => some st
  | n + 1, st => match eStep st with
    | some s => eRun n s
    | none => none
def eK (Q : Option Value → mHp → Prop) : List eFr → Option Value → mHp → Prop
  | [] => Q
  | (d1, y1, pc1, L1, S1) :: F => fun v h => WP d1 y1 pc1 L1 (v.toList ++ S1) h (eK Q F)
def eWp (xL : Nat) (xs : Nat → Int32) (Q : Option Value → mHp → Prop) : eSt → Prop
  | (d, y, pc, L, S, F, e) => WP d y pc L S (eDn xL xs e) (eK Q F)
def eOk : eSt → Prop
  | (_, _, _, _, _, _, e) => eIv e
section EVS
variable {xL : Nat} {xs : Nat → Int32} {e : eHp} {i : Instr} {len own pc pc' : Nat} {ini : Bool} {L L' S S' : List Value} {Q : Option Value → mHp → Prop}
theorem eG_ok {h' : mHp} (h : eIv e) (hg : mG i len own pc S (eCl e) = some (pc', S', h')) : mG i len own pc S (eDn xL xs e) = some (pc', S', eDn xL xs e) := by
  have eR : (eDn xL xs e).2.2 = (eCl e).2.2 := rfl
  have e1 : (eCl e).1 = e.1 := rfl
  unfold mG at hg
  split at hg
  · rename_i ix a S1
    split at hg
    · rename_i q1 q2 ci k q3 hf
      split at hg
      · rename_i hc
        have ha := e_n6 h (by decide) hc.1
        have hc1 : e.1[a]? = some (0, ci) := hc.1
        have hc2 := hc.2
        split at hg
        · rename_i hk
          split at hg
          · rename_i b hb
            cases hg
            simp only [mG, hf, eDn_1 ha, hc1, hc2, and_self, ↓reduceIte, hk, eR, hb]
          · cases hg
        · rename_i hk
          cases hg
          simp only [mG, hf, eDn_1 ha, hc1, hc2, and_self, ↓reduceIte, hk, eDn_2 ha]
      · cases hg
    · rename_i hf
      split at hg
      · rename_i hc
        cases hg
        obtain ⟨hc1, hc2, hc3⟩ := hc
        subst hc1 hc2
        simp only [mG, hf, hc3, and_self, ↓reduceIte]
      · rename_i hc
        split at hg
        · rename_i hc2
          cases hg
          simp only [mG, hf, if_neg hc, hc2, and_self, ↓reduceIte]
          try rfl
        · cases hg
  · rename_i i1 a S1
    split at hg
    · rename_i n hf
      have hf1 : e.1[a]? = some (1, n) := hf
      have ha := e_n6 h (by decide) hf1
      split at hg
      · rename_i hc
        cases hg
        simp only [mG, eDn_1 ha, hf1, hc, ↓reduceIte, eDn_2 ha]
      · cases hg
    · rename_i n hf
      have hf1 : e.1[a]? = some (8, n) := hf
      have ha := e_n6 h (by decide) hf1
      split at hg
      · rename_i hc
        exact absurd hc.1 ha
      · cases hg
    · cases hg
  · rename_i i1 a S1
    split at hg
    · rename_i n hf
      have hf1 : e.1[a]? = some (2, n) := hf
      have ha := e_n6 h (by decide) hf1
      split at hg
      · rename_i hc
        cases hg
        simp only [mG, eDn_1 ha, hf1, hc, ↓reduceIte, eDn_2 ha]
      · cases hg
    · rename_i n hf
      have hf1 : e.1[a]? = some (3, n) := hf
      have ha := e_n6 h (by decide) hf1
      split at hg
      · rename_i hc
        cases hg
        simp only [mG, eDn_1 ha, hf1, hc, ↓reduceIte, eDn_2 ha]
      · cases hg
    · rename_i n hf
      have hf1 : e.1[a]? = some (7, n) := hf
      have ha := e_n6 h (by decide) hf1
      split at hg
      · rename_i hc
        cases hg
        simp only [mG, eDn_1 ha, hf1, hc, and_self, ↓reduceIte, eDn_2 ha]
      · cases hg
    · cases hg
  · rename_i i1 a S1
    split at hg
    · rename_i n hf
      have hf1 : e.1[a]? = some (4, n) := hf
      have ha := e_n6 h (by decide) hf1
      split at hg
      · rename_i hc
        cases hg
        simp only [mG, eDn_1 ha, hf1, hc, ↓reduceIte, eR]
      · cases hg
    · cases hg
  · rename_i i1 a S1
    split at hg
    · rename_i n hf
      have hf1 : e.1[a]? = some (5, n) := hf
      have ha := e_n6 h (by decide) hf1
      split at hg
      · rename_i hc
        split at hg
        · rename_i b hb
          cases hg
          simp only [mG, eDn_1 ha, hf1, hc, ↓reduceIte, eR, hb]
        · cases hg
      · cases hg
    · cases hg
  · rename_i a S1
    split at hg
    · rename_i n hf
      have hf1 : e.1[a]? = some (1, n) := hf
      cases hg
      simp only [mG, eDn_1 (e_n6 h (by decide) hf1), hf1]
    · rename_i n hf
      have hf1 : e.1[a]? = some (2, n) := hf
      cases hg
      simp only [mG, eDn_1 (e_n6 h (by decide) hf1), hf1]
    · rename_i n hf
      have hf1 : e.1[a]? = some (3, n) := hf
      cases hg
      simp only [mG, eDn_1 (e_n6 h (by decide) hf1), hf1]
    · rename_i n hf
      have hf1 : e.1[a]? = some (4, n) := hf
      cases hg
      simp only [mG, eDn_1 (e_n6 h (by decide) hf1), hf1]
    · rename_i n hf
      have hf1 : e.1[a]? = some (5, n) := hf
      cases hg
      simp only [mG, eDn_1 (e_n6 h (by decide) hf1), hf1]
    · rename_i n hf
      have hf1 : e.1[a]? = some (7, n) := hf
      split at hg
      · rename_i hc
        cases hg
        simp only [mG, eDn_1 (e_n6 h (by decide) hf1), hf1, hc, and_self, ↓reduceIte]
      · cases hg
    · rename_i n hf
      have hf1 : e.1[a]? = some (8, n) := hf
      have ha := e_n6 h (by decide) hf1
      split at hg
      · rename_i hc
        exact absurd hc ha
      · cases hg
    · cases hg
  · cases hg
theorem eW_g {e' : eHp} (hw : eW i len own pc ini S e = some (pc', S', e')) (hh : mHp) : mG i len own pc S hh = none := by
  unfold eW at hw
  split at hw <;> first | rfl | cases hw
theorem eC_ok {x : Nat × List Value × List Value} (h : eIv e) (hc : mCal i len own S e.1 = some x) : mCal i len own S (eDn xL xs e).1 = some x := by
  unfold mCal at hc
  split at hc
  · split at hc
    · rename_i q1 q2 z q3 hm
      split at hc
      · rename_i r hr
        split at hc
        · rename_i b rest hd
          split at hc
          · rename_i hk
            cases hc
            have hk' : S.length = r.2.2.2.2.2.1 + 1 + rest.length ∧ r.2.2.2.2.2.2 = false ∧ r.1.name ≠ "<init>" ∧ ((eDn xL xs e).1[b]? = some (0, r.2.2.2.2.1) ∨ (r.2.2.2.2.1 = 14 ∧ b < 3)) ∧ mWrd rest ≤ 8 := by
              refine ⟨hk.1, hk.2.1, hk.2.2.1, ?_, hk.2.2.2.2⟩
              rcases hk.2.2.2.1 with z1 | z1
              · exact Or.inl (by rw [eDn_1 (e_n6 h (by decide) z1)]; exact z1)
              · exact Or.inr z1
            simp only [mCal, hm, hr, hd]
            exact if_pos hk'
          · cases hc
        · cases hc
      · cases hc
    · cases hc
  · exact hc
  · exact hc
  · cases hc
theorem eN_ok {e' : eHp} (h : eIv e) (hn : eNrm i len own pc ini L S e = some (pc', L', S', e')) : mNrm i len own pc ini L S (eDn xL xs e) = some (pc', L', S', eDn xL xs e') ∧ eIv e' := by
  unfold eNrm at hn
  split at hn
  · rename_i h1
    cases hn
    exact ⟨by rw [mNrm, h1], h⟩
  · rename_i h1
    split at hn
    · rename_i h2
      cases hn
      exact ⟨by rw [mNrm, h1]; dsimp only; rw [h2], h⟩
    · rename_i h2
      split at hn
      · rename_i h3
        cases hn
        exact ⟨by rw [mNrm, h1]; dsimp only; rw [h2]; dsimp only; rw [h3], h⟩
      · rename_i h3
        split at hn
        · rename_i h4
          cases hn
          exact ⟨by rw [mNrm, h1]; dsimp only; rw [h2]; dsimp only; rw [h3]; dsimp only; rw [h4], h⟩
        · rename_i h4
          split at hn
          · rename_i h5
            cases hn
            exact ⟨by rw [mNrm, h1]; dsimp only; rw [h2]; dsimp only; rw [h3]; dsimp only; rw [h4]; dsimp only; rw [eG_ok h h5], h⟩
          · split at hn
            · rename_i h6
              cases hn
              obtain ⟨k1, k2⟩ := eW_ok (xL := xL) (xs := xs) h h6
              exact ⟨by rw [mNrm, h1]; dsimp only; rw [h2]; dsimp only; rw [h3]; dsimp only; rw [h4]; dsimp only; rw [eW_g h6]; dsimp only; rw [k1], k2⟩
            · cases hn
theorem eInv_no (h : eInv i = true) (ret : Option FieldType) (hh : mHp) : mRet i len ret S = none ∧ mNrm i len own pc ini L S hh = none := by
  unfold eInv at h
  split at h
  · exact ⟨rfl, rfl⟩
  · exact ⟨rfl, rfl⟩
  · exact ⟨rfl, rfl⟩
  · cases h
theorem eStep_ok {st st' : eSt} (h : eOk st) (hs : eStep st = some st') : eOk st' ∧ (eWp xL xs Q st' → eWp xL xs Q st) := by
  obtain ⟨d, y, pc, L, S, F, e⟩ := st
  unfold eStep at hs
  dsimp only at hs
  split at hs
  · cases hs
  rename_i r hr
  split at hs
  · cases hs
  rename_i i len hd
  split at hs
  · rename_i hi
    split at hs
    · cases hs
    rename_i d'
    split at hs
    · rename_i S' hp
      cases hs
      refine ⟨h, fun hw => ?_⟩
      obtain ⟨n1, n2⟩ := eInv_no (len := len) (S := S) (own := r.2.2.2.2.1) (pc := pc) (ini := r.1.name == "<init>") (L := L) hi r.2.2.2.1 (eDn xL xs e)
      exact (wp_prm hr hd n1 n2 hp).mpr hw
    · rename_i hp
      split at hs
      · cases hs
      rename_i z as rest hc
      split at hs
      · cases hs
      rename_i rz hz
      split at hs
      · rename_i hl
        cases hs
        refine ⟨h, fun hw => ?_⟩
        obtain ⟨n1, n2⟩ := eInv_no (len := len) (S := S) (own := r.2.2.2.2.1) (pc := pc) (ini := r.1.name == "<init>") (L := L) hi r.2.2.2.1 (eDn xL xs e)
        exact (wp_call hr hd n1 n2 hp (eC_ok h hc) hz hl).mpr hw
      · cases hs
  · split at hs
    · rename_i v hv
      split at hs
      · cases hs
      · cases hs
        exact ⟨h, fun hw => (wp_ret hr hd hv).mpr hw⟩
    · rename_i hv
      split at hs
      · rename_i hn
        cases hs
        obtain ⟨k1, k2⟩ := eN_ok (xL := xL) (xs := xs) h hn
        exact ⟨k2, fun hw => (wp_nrm hr hd hv k1).mpr hw⟩
      · cases hs
theorem eRun_ok : ∀ (n : Nat) (st st' : eSt), eOk st → eRun n st = some st' → eOk st' ∧ (eWp xL xs Q st' → eWp xL xs Q st) := by
  intro n
  induction n with
  | zero => intro st st' h e; cases e; exact ⟨h, id⟩
  | succ n ih =>
    intro st st' h e
    rw [eRun] at e
    split at e
    · rename_i s hs
      obtain ⟨a1, a2⟩ := eStep_ok (xL := xL) (xs := xs) (Q := Q) h hs
      obtain ⟨b1, b2⟩ := ih s st' a1 e
      exact ⟨b1, fun z => a2 (b2 z)⟩
    · cases e
end EVS
