/-! The constructors: a machine of small steps over lists, which is run; what it comes to, the small machine comes to. -/
abbrev eHp := List (Nat × Nat) × List (Nat × Option Nat × Int32) × List (Nat × Option Nat × Int64) × List (Nat × Option Nat × Option Nat)
abbrev eFr := Nat × Nat × Nat × List Value × List Value
abbrev eSt := Nat × Nat × Nat × List Value × List Value × List eFr × eHp
def lkU {α : Type} (B : Nat → Nat → α) : List (Nat × Option Nat × α) → Nat → Nat → α
  | [], a, k => B a k
  | (b, j, v) :: r, a, k => if b = a ∧ (j = none ∨ j = some k) then v else lkU B r a k
theorem lkU_U {α : Type} (B : Nat → Nat → α) (l : List (Nat × Option Nat × α)) (a k : Nat) (v : α) : lkU B ((a, some k, v) :: l) = mU (lkU B l) a k v := by
  funext b j
  rw [lkU]
  by_cases e : b = a
  · subst e
    by_cases e2 : j = k
    · subst e2; rw [mU_s, if_pos ⟨rfl, Or.inr rfl⟩]
    · rw [mU_k e2, if_neg]
      rintro ⟨-, h | h⟩
      · cases h
      · cases h; exact e2 rfl
  · rw [mU_a e, if_neg (fun z => e z.1.symm)]
theorem lkU_Z {α : Type} (B : Nat → Nat → α) (l : List (Nat × Option Nat × α)) (a : Nat) (v : α) : lkU B ((a, none, v) :: l) = mZr (lkU B l) a v := by
  funext b j
  rw [lkU, mZr]
  by_cases e : b = a
  · subst e; rw [if_pos ⟨rfl, Or.inl rfl⟩, if_pos rfl]
  · rw [if_neg (fun z => e z.1.symm), if_neg e]
def eB : Nat → Nat → Int32 := fun a j => (mTx.getD (a - 3) []).getD j 0
/-- the heap of the lists, without the script -/
def eCl (e : eHp) : mHp := (e.1, lkU eB e.2.1, lkU (fun _ _ => 0) e.2.2.1, lkU (fun _ _ => none) e.2.2.2)
/-- and with it -/
def eDn (xL : Nat) (xs : Nat → Int32) (e : eHp) : mHp := (e.1.set 6 (8, xL), fun a k => if a = 6 then xs k else lkU eB e.2.1 a k, lkU (fun _ _ => 0) e.2.2.1, lkU (fun _ _ => none) e.2.2.2)
def eIv (e : eHp) : Prop := e.1[6]? = some (99, 0)
def eW (i : Instr) (len own pc : Nat) (ini : Bool) (S : List Value) (e : eHp) : Option (Nat × List Value × eHp) :=
  match i, len, S with
  | .putfield ix, 3, .int x :: .ref a :: S' => match mFldOf own ix with
    | some (_, _, ci, k, nest) => if e.1[a]? = some (0, ci) ∧ k < mNf ci ∧ (mKd ci k = 0 ∨ (mKd ci k = 1 ∧ (x = 0 ∨ x = 1))) ∧ (mFn ci k = false ∨ (ini = true ∧ own = ci ∧ nest = false)) then some (pc + 3, S', e.1, (a, some k, x) :: e.2.1, e.2.2.1, e.2.2.2) else none
    | none => none
  | .putfield ix, 3, .ref x :: .ref a :: S' => match mFldOf own ix with
    | some (_, _, ci, k, nest) => if e.1[a]? = some (0, ci) ∧ k < mNf ci ∧ mKd ci k = 2 ∧ (mFn ci k = false ∨ (ini = true ∧ own = ci ∧ nest = false)) then some (pc + 3, S', e.1, e.2.1, e.2.2.1, (a, some k, some x) :: e.2.2.2) else none
    | none => none
  | .iastore, 1, .int x :: .int i :: .ref a :: S' => match e.1[a]? with
    | some (1, n) => if mIn i n then some (pc + 1, S', e.1, (a, some i.toNatClampNeg, x) :: e.2.1, e.2.2.1, e.2.2.2) else none
    | _ => none
  | .lastore, 1, .long x :: .int i :: .ref a :: S' => match e.1[a]? with
    | some (4, n) => if mIn i n then some (pc + 1, S', e.1, e.2.1, (a, some i.toNatClampNeg, x) :: e.2.2.1, e.2.2.2) else none
    | _ => none
  | .aastore, 1, .ref x :: .int i :: .ref a :: S' => match e.1[a]? with
    | some (5, n) => if mIn i n ∧ e.1[x]? = some (0, 8) then some (pc + 1, S', e.1, e.2.1, e.2.2.1, (a, some i.toNatClampNeg, some x) :: e.2.2.2) else none
    | _ => none
  | .new ix, 3, S' => match mClnOf own ix with
    | some (_, _, ci) => some (pc + 3, .ref e.1.length :: S', e.1 ++ [(0, ci)], (e.1.length, none, 0) :: e.2.1, e.2.2.1, (e.1.length, none, none) :: e.2.2.2)
    | none => none
  | .newarray .int, 2, .int n :: S' => if mIn n 1000000 then some (pc + 2, .ref e.1.length :: S', e.1 ++ [(1, n.toNatClampNeg)], (e.1.length, none, 0) :: e.2.1, e.2.2.1, e.2.2.2) else none
  | .newarray .byte, 2, .int n :: S' => if mIn n 1000000 then some (pc + 2, .ref e.1.length :: S', e.1 ++ [(2, n.toNatClampNeg)], (e.1.length, none, 0) :: e.2.1, e.2.2.1, e.2.2.2) else none
  | .newarray .boolean, 2, .int n :: S' => if mIn n 1000000 then some (pc + 2, .ref e.1.length :: S', e.1 ++ [(3, n.toNatClampNeg)], (e.1.length, none, 0) :: e.2.1, e.2.2.1, e.2.2.2) else none
  | .newarray .long, 2, .int n :: S' => if mIn n 1000000 then some (pc + 2, .ref e.1.length :: S', e.1 ++ [(4, n.toNatClampNeg)], e.2.1, (e.1.length, none, 0) :: e.2.2.1, e.2.2.2) else none
  | .anewarray ix, 3, .int n :: S' => match mClnOf own ix with
    | some (_, _, ci) => if ci = 8 ∧ mIn n 1000000 then some (pc + 3, .ref e.1.length :: S', e.1 ++ [(5, n.toNatClampNeg)], e.2.1, e.2.2.1, (e.1.length, none, none) :: e.2.2.2) else none
    | none => none
  | _, _, _ => none
section EVL
variable {xL : Nat} {xs : Nat → Int32} {e : eHp} {i : Instr} {len own pc pc' : Nat} {ini : Bool} {S S' : List Value}
theorem eIv_6 (h : eIv e) : 6 < e.1.length := (List.getElem?_eq_some_iff.1 h).1
theorem eDn_1 {a : Nat} (ha : a ≠ 6) : (eDn xL xs e).1[a]? = e.1[a]? := by
  show (e.1.set 6 (8, xL))[a]? = _
  rw [List.getElem?_set_ne (fun z => ha z.symm)]
theorem eDn_2 {a : Nat} (ha : a ≠ 6) : (eDn xL xs e).2.1 a = (eCl e).2.1 a := funext fun k => (if_neg ha : (if a = 6 then xs k else lkU eB e.2.1 a k) = lkU eB e.2.1 a k)
theorem eDn_6 (j : Nat) : (eDn xL xs e).2.1 6 j = xs j := (if_pos rfl : (if (6 : Nat) = 6 then xs j else lkU eB e.2.1 6 j) = xs j)
theorem eDn_l (h : eIv e) (c : Nat × Nat) (lI : List (Nat × Option Nat × Int32)) (lJ : List (Nat × Option Nat × Int64)) (lR : List (Nat × Option Nat × Option Nat)) : (eDn xL xs (e.1 ++ [c], lI, lJ, lR)).1 = (eDn xL xs e).1 ++ [c] := by
  show (e.1 ++ [c]).set 6 (8, xL) = e.1.set 6 (8, xL) ++ [c]
  rw [List.set_append_left _ _ (eIv_6 h)]
theorem eDn_n : (eDn xL xs e).1.length = e.1.length := List.length_set
theorem eDn_I {a k : Nat} {x : Int32} (ha : a ≠ 6) : (fun b j => if b = 6 then xs j else lkU eB ((a, some k, x) :: e.2.1) b j) = mU (eDn xL xs e).2.1 a k x := by
  funext b j
  rw [lkU_U]
  by_cases c : b = 6
  · subst c; rw [if_pos rfl, mU_a (fun z => ha z.symm), eDn_6]
  · rw [if_neg c]
    by_cases c2 : b = a
    · subst c2
      by_cases c3 : j = k
      · subst c3; rw [mU_s, mU_s]
      · rw [mU_k c3, mU_k c3, eDn_2 c]; rfl
    · rw [mU_a c2, mU_a c2, eDn_2 c]; rfl
theorem eDn_Z {a : Nat} (ha : a ≠ 6) : (fun b j => if b = 6 then xs j else lkU eB ((a, none, 0) :: e.2.1) b j) = mZr (eDn xL xs e).2.1 a 0 := by
  funext b j
  rw [lkU_Z, mZr, mZr]
  by_cases c : b = 6
  · subst c; rw [if_pos rfl, if_neg (fun z => ha z.symm), eDn_6]
  · rw [if_neg c]
    by_cases c2 : b = a
    · rw [if_pos c2, if_pos c2]
    · rw [if_neg c2, if_neg c2, eDn_2 c]; rfl
theorem eDn_sI {a k : Nat} {x : Int32} (ha : a ≠ 6) : eDn xL xs (e.1, (a, some k, x) :: e.2.1, e.2.2.1, e.2.2.2) = ((eDn xL xs e).1, mU (eDn xL xs e).2.1 a k x, (eDn xL xs e).2.2.1, (eDn xL xs e).2.2.2) := by
  show (e.1.set 6 (8, xL), (fun b j => if b = 6 then xs j else lkU eB ((a, some k, x) :: e.2.1) b j), lkU _ e.2.2.1, lkU _ e.2.2.2) = _
  rw [eDn_I ha]; rfl
theorem eDn_sJ {a k : Nat} {x : Int64} : eDn xL xs (e.1, e.2.1, (a, some k, x) :: e.2.2.1, e.2.2.2) = ((eDn xL xs e).1, (eDn xL xs e).2.1, mU (eDn xL xs e).2.2.1 a k x, (eDn xL xs e).2.2.2) := by
  show (e.1.set 6 (8, xL), (fun b j => if b = 6 then xs j else lkU eB e.2.1 b j), lkU _ ((a, some k, x) :: e.2.2.1), lkU _ e.2.2.2) = _
  rw [lkU_U]; rfl
theorem eDn_sR {a k : Nat} {x : Option Nat} : eDn xL xs (e.1, e.2.1, e.2.2.1, (a, some k, x) :: e.2.2.2) = ((eDn xL xs e).1, (eDn xL xs e).2.1, (eDn xL xs e).2.2.1, mU (eDn xL xs e).2.2.2 a k x) := by
  show (e.1.set 6 (8, xL), (fun b j => if b = 6 then xs j else lkU eB e.2.1 b j), lkU _ e.2.2.1, lkU _ ((a, some k, x) :: e.2.2.2)) = _
  rw [lkU_U]; rfl
theorem eDn_zI {c : Nat × Nat} (h : eIv e) : eDn xL xs (e.1 ++ [c], (e.1.length, none, 0) :: e.2.1, e.2.2.1, e.2.2.2) = ((eDn xL xs e).1 ++ [c], mZr (eDn xL xs e).2.1 e.1.length 0, (eDn xL xs e).2.2.1, (eDn xL xs e).2.2.2) := by
  have hz : e.1.length ≠ 6 := by have := eIv_6 h; omega
  show ((e.1 ++ [c]).set 6 (8, xL), (fun b j => if b = 6 then xs j else lkU eB ((e.1.length, none, 0) :: e.2.1) b j), lkU _ e.2.2.1, lkU _ e.2.2.2) = _
  rw [eDn_Z hz, List.set_append_left _ _ (eIv_6 h)]; rfl
theorem eDn_zJ {c : Nat × Nat} (h : eIv e) : eDn xL xs (e.1 ++ [c], e.2.1, (e.1.length, none, 0) :: e.2.2.1, e.2.2.2) = ((eDn xL xs e).1 ++ [c], (eDn xL xs e).2.1, mZr (eDn xL xs e).2.2.1 e.1.length 0, (eDn xL xs e).2.2.2) := by
  show ((e.1 ++ [c]).set 6 (8, xL), (fun b j => if b = 6 then xs j else lkU eB e.2.1 b j), lkU _ ((e.1.length, none, 0) :: e.2.2.1), lkU _ e.2.2.2) = _
  rw [lkU_Z, List.set_append_left _ _ (eIv_6 h)]; rfl
theorem eDn_zR {c : Nat × Nat} (h : eIv e) : eDn xL xs (e.1 ++ [c], e.2.1, e.2.2.1, (e.1.length, none, none) :: e.2.2.2) = ((eDn xL xs e).1 ++ [c], (eDn xL xs e).2.1, (eDn xL xs e).2.2.1, mZr (eDn xL xs e).2.2.2 e.1.length none) := by
  show ((e.1 ++ [c]).set 6 (8, xL), (fun b j => if b = 6 then xs j else lkU eB e.2.1 b j), lkU _ e.2.2.1, lkU _ ((e.1.length, none, none) :: e.2.2.2)) = _
  rw [lkU_Z, List.set_append_left _ _ (eIv_6 h)]; rfl
theorem eDn_zO {c : Nat × Nat} (h : eIv e) : eDn xL xs (e.1 ++ [c], (e.1.length, none, 0) :: e.2.1, e.2.2.1, (e.1.length, none, none) :: e.2.2.2) = ((eDn xL xs e).1 ++ [c], mZr (eDn xL xs e).2.1 e.1.length 0, (eDn xL xs e).2.2.1, mZr (eDn xL xs e).2.2.2 e.1.length none) := by
  have hz : e.1.length ≠ 6 := by have := eIv_6 h; omega
  show ((e.1 ++ [c]).set 6 (8, xL), (fun b j => if b = 6 then xs j else lkU eB ((e.1.length, none, 0) :: e.2.1) b j), lkU _ e.2.2.1, lkU _ ((e.1.length, none, none) :: e.2.2.2)) = _
  rw [eDn_Z hz, lkU_Z, List.set_append_left _ _ (eIv_6 h)]; rfl
theorem e_n6 {a k n : Nat} (h : eIv e) (hk : k ≠ 99) (ha : e.1[a]? = some (k, n)) : a ≠ 6 := by
  rintro rfl
  rw [h] at ha
  cases ha
  exact hk rfl
theorem eW_ok {e' : eHp} (h : eIv e) (hw : eW i len own pc ini S e = some (pc', S', e')) : mW i len own pc ini S (eDn xL xs e) = some (pc', S', eDn xL xs e') ∧ eIv e' := by
  have h7 := eIv_6 h
  have iv : ∀ c : Nat × Nat, (e.1 ++ [c])[6]? = some (99, 0) := fun c => by rw [List.getElem?_append_left h7]; exact h
  unfold eW at hw
  split at hw
  · rename_i ix x a S1
    split at hw
    · rename_i q1 q2 ci k nest hf
      split at hw
      · rename_i hc
        cases hw
        have ha := e_n6 h (by decide) hc.1
        exact ⟨by simp only [mW, hf, eDn_1 ha, hc, and_self, ↓reduceIte, eDn_sI ha], h⟩
      · cases hw
    · cases hw
  · rename_i ix x a S1
    split at hw
    · rename_i q1 q2 ci k nest hf
      split at hw
      · rename_i hc
        cases hw
        have ha := e_n6 h (by decide) hc.1
        exact ⟨by simp only [mW, hf, eDn_1 ha, hc, and_self, ↓reduceIte, eDn_sR], h⟩
      · cases hw
    · cases hw
  · rename_i x i1 a S1
    split at hw
    · rename_i n hf
      split at hw
      · rename_i hc
        cases hw
        have ha := e_n6 h (by decide) hf
        exact ⟨by simp only [mW, eDn_1 ha, hf, hc, ↓reduceIte, eDn_sI ha], h⟩
      · cases hw
    · cases hw
  · rename_i x i1 a S1
    split at hw
    · rename_i n hf
      split at hw
      · rename_i hc
        cases hw
        have ha := e_n6 h (by decide) hf
        exact ⟨by simp only [mW, eDn_1 ha, hf, hc, ↓reduceIte, eDn_sJ], h⟩
      · cases hw
    · cases hw
  · rename_i x i1 a S1
    split at hw
    · rename_i n hf
      split at hw
      · rename_i hc
        cases hw
        have ha := e_n6 h (by decide) hf
        have hx := e_n6 h (by decide) hc.2
        exact ⟨by simp only [mW, eDn_1 ha, eDn_1 hx, hf, hc, and_self, ↓reduceIte, eDn_sR], h⟩
      · cases hw
    · cases hw
  · split at hw
    · rename_i q1 q2 ci hf
      cases hw
      exact ⟨by simp only [mW, hf, eDn_n, eDn_zO h], iv _⟩
    · cases hw
  · split at hw
    · rename_i hc
      cases hw
      exact ⟨by simp only [mW, hc, ↓reduceIte, eDn_n, eDn_zI h], iv _⟩
    · cases hw
  · split at hw
    · rename_i hc
      cases hw
      exact ⟨by simp only [mW, hc, ↓reduceIte, eDn_n, eDn_zI h], iv _⟩
    · cases hw
  · split at hw
    · rename_i hc
      cases hw
      exact ⟨by simp only [mW, hc, ↓reduceIte, eDn_n, eDn_zI h], iv _⟩
    · cases hw
  · split at hw
    · rename_i hc
      cases hw
      exact ⟨by simp only [mW, hc, ↓reduceIte, eDn_n, eDn_zJ h], iv _⟩
    · cases hw
  · split at hw
    · rename_i q1 q2 ci hf
      split at hw
      · rename_i hc
        cases hw
        exact ⟨by simp only [mW, hf, hc, and_self, ↓reduceIte, eDn_n, eDn_zR h], iv _⟩
      · cases hw
    · cases hw
  · cases hw
end EVL
