/-! The text: its bytes, what stands where, its tokens. -/
def bt (W : Nat → Int32) (i : Nat) : Nat := (W i).toBitVec.toNat % 256
theorem bt_lt (W : Nat → Int32) (i : Nat) : bt W i < 256 := Nat.mod_lt _ (by decide)
theorem bt_and (W : Nat → Int32) (i : Nat) : W i &&& 255 = nI (bt W i) := pk_and (W i) (m := 255) 8 (by decide)
def isLt (c : Nat) : Bool := decide (97 ≤ c) && decide (c ≤ 122)
def isDg (c : Nat) : Bool := decide (48 ≤ c) && decide (c ≤ 57)
def isBl (c : Nat) : Bool := decide (c = 9) || (decide (c = 10) || (decide (c = 13) || decide (c = 32)))
/-- the sort of a sign: the model's numbers -/
def sgK (c : Nat) : Nat := if c = 59 then 4 else if c = 61 then 5 else if c = 40 then 6 else if c = 41 then 7 else if c = 43 then 8 else if c = 45 then 9 else if c = 42 then 10 else if c = 47 then 15 else if c = 60 then 13 else 3
def pAt (f : Nat → Bool) (W : Nat → Int32) (L i : Nat) : Bool := decide (i < L) && f (bt W i)
/-- where a run ends -/
def rE (p : Nat → Bool) : Nat → Nat → Nat
  | 0, i => i
  | n + 1, i => if p i then rE p n (i + 1) else i
theorem rE_ge (p : Nat → Bool) : ∀ n i, i ≤ rE p n i ∧ rE p n i ≤ i + n := by
  intro n
  induction n with
  | zero => intro i; exact ⟨Nat.le_refl _, Nat.le_refl _⟩
  | succ n ih =>
    intro i
    rw [rE]
    split
    · have := ih (i + 1); omega
    · omega
theorem rE_in (p : Nat → Bool) : ∀ n i j, i ≤ j → j < rE p n i → p j = true := by
  intro n
  induction n with
  | zero => intro i j h1 h2; rw [rE] at h2; omega
  | succ n ih =>
    intro i j h1 h2
    rw [rE] at h2
    by_cases hp : p i = true
    · rw [if_pos hp] at h2
      by_cases e : j = i
      · subst e; exact hp
      · exact ih (i + 1) j (by omega) h2
    · rw [if_neg hp] at h2; omega
theorem rE_out (p : Nat → Bool) : ∀ n i, rE p n i < i + n → p (rE p n i) = false := by
  intro n
  induction n with
  | zero => intro i h; rw [rE] at h; omega
  | succ n ih =>
    intro i h
    rw [rE] at h ⊢
    by_cases hp : p i = true
    · rw [if_pos hp] at h ⊢; exact ih (i + 1) (by omega)
    · rw [if_neg hp] at h ⊢; simpa using hp
def wN (W : Nat → Int32) : Nat → Nat → Nat → Nat
  | 0, _, a => a
  | n + 1, i, a => wN W n (i + 1) (a * 27 + (bt W i - 96))
def dN' (W : Nat → Int32) : Nat → Nat → Nat → Nat
  | 0, _, a => a
  | n + 1, i, a => dN' W n (i + 1) (a * 10 + (bt W i - 48))
def kwL : List Nat := [232608281, 2427955, 203643563, 1277864983, 67143646, 5737681, 10340587, 377761, 249, 399641, 107681, 14431, 267223, 390796, 257105, 168984, 394840, 12387257, 271277, 267347]
def kw (i : Nat) : Int64 := lN (kwL.getD i 0)
theorem kw_d : ∀ i, i < 20 → ∀ j, j < 20 → kw i = kw j → i = j := by decide +kernel
def kidx (x : Int64) : Option Nat := fnd (fun i => decide (kw i = x)) 20 0
def wdK (x : Int64) : Nat := match kidx x with
  | some i => 20 + i
  | none => 1
/-- a token that begins at a place: where it ends, its sort, its name, its number -/
def tEnd (W : Nat → Int32) (L i : Nat) : Nat := if isLt (bt W i) then rE (pAt isLt W L) (L - i) i else if isDg (bt W i) then rE (pAt isDg W L) (L - i) i else i + 1
def tKd (W : Nat → Int32) (L i : Nat) : Nat := if L ≤ i then 0 else if isLt (bt W i) then (if 8 < tEnd W L i - i then 3 else wdK (lN (wN W (tEnd W L i - i) i 0))) else if isDg (bt W i) then (if 4 < tEnd W L i - i then 3 else 2) else sgK (bt W i)
def sk (W : Nat → Int32) (L i : Nat) : Nat := rE (pAt isBl W L) (L - i) i
/-- where the tokens begin -/
def tp (W : Nat → Int32) (L : Nat) : Nat → Nat
  | 0 => sk W L 0
  | k + 1 => if tp W L k < L then sk W L (tEnd W L (tp W L k)) else tp W L k
def kk (W : Nat → Int32) (L k : Nat) : Nat := tKd W L (tp W L k)
def kn (W : Nat → Int32) (L k : Nat) : Int64 := lN (wN W (tEnd W L (tp W L k) - tp W L k) (tp W L k) 0)
def kv (W : Nat → Int32) (L k : Nat) : Nat := dN' W (tEnd W L (tp W L k) - tp W L k) (tp W L k) 0
theorem tEnd_b (W : Nat → Int32) {L i : Nat} (h : i < L) : i < tEnd W L i ∧ tEnd W L i ≤ L := by
  rw [tEnd]
  by_cases h1 : isLt (bt W i) = true
  · rw [if_pos h1]
    have := rE_ge (pAt isLt W L) (L - i) i
    refine ⟨?_, by omega⟩
    obtain ⟨n, hn⟩ : ∃ n, L - i = n + 1 := ⟨L - i - 1, by omega⟩
    rw [hn, rE, if_pos (by rw [pAt, decide_eq_true h, h1]; rfl)]
    have := (rE_ge (pAt isLt W L) n (i + 1)).1
    omega
  · rw [if_neg h1]
    by_cases h2 : isDg (bt W i) = true
    · rw [if_pos h2]
      have := rE_ge (pAt isDg W L) (L - i) i
      refine ⟨?_, by omega⟩
      obtain ⟨n, hn⟩ : ∃ n, L - i = n + 1 := ⟨L - i - 1, by omega⟩
      rw [hn, rE, if_pos (by rw [pAt, decide_eq_true h, h2]; rfl)]
      have := (rE_ge (pAt isDg W L) n (i + 1)).1
      omega
    · rw [if_neg h2]; omega
theorem sk_b (W : Nat → Int32) {L i : Nat} (h : i ≤ L) : i ≤ sk W L i ∧ sk W L i ≤ L := by
  have := rE_ge (pAt isBl W L) (L - i) i
  rw [sk]; omega
theorem tp_le (W : Nat → Int32) (L : Nat) : ∀ k, tp W L k ≤ L := by
  intro k
  induction k with
  | zero => exact (sk_b W (Nat.zero_le _)).2
  | succ k ih =>
    rw [tp]
    split
    · rename_i h
      exact (sk_b W (tEnd_b W h).2).2
    · exact ih
theorem tp_lt (W : Nat → Int32) (L : Nat) {k : Nat} (h : tp W L k < L) : tp W L k < tp W L (k + 1) := by
  rw [tp, if_pos h]
  have h1 := tEnd_b W h
  have h2 := sk_b W h1.2
  omega
theorem kk_0 (W : Nat → Int32) (L k : Nat) : kk W L k = 0 ↔ L ≤ tp W L k := by
  have hw : ∀ x, wdK x ≠ 0 := by
    intro x
    rw [wdK]
    cases kidx x with
    | none => exact (by decide)
    | some i => show 20 + i ≠ 0; omega
  have hs : ∀ c, sgK c ≠ 0 := by
    intro c
    unfold sgK
    repeat' split
    all_goals decide
  rw [kk, tKd]
  by_cases h : L ≤ tp W L k
  · rw [if_pos h]; exact ⟨fun _ => h, fun _ => rfl⟩
  · rw [if_neg h]
    refine ⟨fun z => ?_, fun z => absurd z h⟩
    exfalso
    revert z
    by_cases h1 : isLt (bt W (tp W L k)) = true
    · rw [if_pos h1]
      split
      · intro z; cases z
      · exact hw _
    · rw [if_neg h1]
      by_cases h2 : isDg (bt W (tp W L k)) = true
      · rw [if_pos h2]
        split <;> (intro z; cases z)
      · rw [if_neg h2]; exact hs _
/-- what never changes behind the constructors: the texts' bytes, the words, the levels -/
def kI (I : Nat → Nat → Int32) : Prop := (I 4 0 = 9 ∧ I 4 1 = 10 ∧ I 4 2 = 13 ∧ I 4 3 = 32) ∧ (I 5 0 = 59 ∧ I 5 1 = 61 ∧ I 5 2 = 43 ∧ I 5 3 = 45 ∧ I 5 4 = 42 ∧ I 5 5 = 47 ∧ I 5 6 = 60 ∧ I 5 7 = 40 ∧ I 5 8 = 41) ∧ lvI I
def kJ (J : Nat → Nat → Int64) : Prop := ∀ i, i < 20 → J 12 i = kw i ∧ J 187 i = kw i
