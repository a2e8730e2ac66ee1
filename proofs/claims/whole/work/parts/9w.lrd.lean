/-! The law's case: read. -/
section LRD
variable {d : Nat} {xL : Nat} {I I' : Nat → Nat → Int32} {J J' : Nat → Nat → Int64} {o o' : Nat} {Q : Option Value → mHp → Prop} {n : Nat} {xs : Nat → Int32}
theorem bas_r (b : bas xL xs I J) (f : ∀ a, (a < 180 ∨ a = 219) → I' a = I a) (j1 : J' 12 = J 12) (j2 : J' 187 = J 187) : bas xL xs I' J' := by
  obtain ⟨b1, b2, b3, b4, b5⟩ := b
  exact ⟨kI_k (fun a ha => f a (by omega)) b1, fun i hi => by rw [j1, j2]; exact b2 i hi, xMk_k b3 (fun k hk => f _ (by omega)), xMk_k b4 (fun k hk => f _ (by omega)), fun j hj => by rw [f 6 (by decide)]; exact b5 j hj⟩
theorem bas_g (ho : lOo o o') (b : bas xL xs I J) (f : fYz o' I I') (j : jYr o' J J') (mk : xMk I' o') : bas xL xs I' J' := by
  obtain ⟨b1, b2, b3, b4, b5⟩ := b
  have k1 : kI I' := kI_k (fun a ha => f a (by omega) (by omega) (by omega) (by omega) (by omega) (by omega) (by rcases ho with ⟨rfl, rfl⟩ | ⟨rfl, rfl⟩ <;> omega) (by omega) (by omega) (by omega) (by omega)) b1
  have k2 : kJ J' := fun i hi => by
    rw [j 12 (by decide) (by rcases ho with ⟨rfl, rfl⟩ | ⟨rfl, rfl⟩ <;> decide) (by rcases ho with ⟨rfl, rfl⟩ | ⟨rfl, rfl⟩ <;> decide), j 187 (by decide) (by rcases ho with ⟨rfl, rfl⟩ | ⟨rfl, rfl⟩ <;> decide) (by rcases ho with ⟨rfl, rfl⟩ | ⟨rfl, rfl⟩ <;> decide)]
    exact b2 i hi
  have k6 : ∀ i, i < xL → I' 6 i = xs i := fun i hi => by
    rw [f 6 (by decide) (by decide) (by decide) (by decide) (by decide) (by decide) (by rcases ho with ⟨rfl, rfl⟩ | ⟨rfl, rfl⟩ <;> decide) (by decide) (by decide) (by decide) (by decide)]
    exact b5 i hi
  rcases ho with ⟨rfl, rfl⟩ | ⟨rfl, rfl⟩
  · exact ⟨k1, k2, xMk_k b3 (fun k hk => f _ (by omega) (by omega) (by omega) (by omega) (by omega) (by omega) (by omega) (by omega) (by omega) (by omega) (by omega)), mk, k6⟩
  · exact ⟨k1, k2, mk, xMk_k b4 (fun k hk => f _ (by omega) (by omega) (by omega) (by omega) (by omega) (by omega) (by omega) (by omega) (by omega) (by omega) (by omega)), k6⟩
theorem l_2 (hn : n < 512) (hx6 : 6 * n + 6 ≤ xL) (hxL : xL ≤ 3072) (hI : lIx xL xs n I J o o') (ih : ∀ I' J' o1 o2, lIx xL xs (n + 1) I' J' o1 o2 → WP (d + 40) 268 1376 [.ref 6, .ref 7, .ref 180, .int (nI (6 * n))] [] (mHh xL I' J' (mRf o1 o1 o2)) Q) : WP (d + 40) 268 294 [.ref 6, .ref 7, .ref 180, .int (nI (6 * n))] [] (mHh xL I J (mRf o o o')) Q := by
  obtain ⟨ho, b, s, η, ρ, u, H, g, K, t, τ, L, W, pl, hx, hz, c⟩ := hI
  have h1 : mHo o := by rcases ho with ⟨rfl, rfl⟩ | ⟨rfl, rfl⟩ <;> (unfold mHo; decide)
  have h2 : mHo o' := by rcases ho with ⟨rfl, rfl⟩ | ⟨rfl, rfl⟩ <;> (unfold mHo; decide)
  have h3 : o ≠ o' := by rcases ho with ⟨rfl, rfl⟩ | ⟨rfl, rfl⟩ <;> decide
  have ho' : lOo o' o := by rcases ho with ⟨rfl, rfl⟩ | ⟨rfl, rfl⟩ <;> (unfold lOo; decide)
  have hm : xMk I o' := by
    rcases ho with ⟨rfl, rfl⟩ | ⟨rfl, rfl⟩
    · exact b.2.2.2.1
    · exact b.2.2.1
  have up : ∀ I1, fYz o' I I1 → ∀ a, 180 ≤ a → I1 a = I a := fun I1 fr a ha => fr a (by omega) (by omega) (by omega) (by omega) (by omega) (by omega) (by rcases ho with ⟨rfl, rfl⟩ | ⟨rfl, rfl⟩ <;> omega) (by omega) (by omega) (by omega) (by omega)
  simp only [w268_294, w268_295]
  refine c79 (d := d + 12) h1 h2 h3 b.1 b.2.1 hm hx ?_
  cases e : sRd W L with
  | inl f =>
    intro f0 f6 I1 J1 fr jr mk hx1
    have b1 := bas_g ho b fr jr mk
    have hz1 := zV_up (up I1 fr) hz
    simp only [↓reduceIte, Option.toList_some, Option.toList_none, List.cons_append, List.nil_append, Int32.reduceAdd, Int32.reduceLT, Int32.reduceLE, Int32.reduceToNatClampNeg, w268_298, w268_299]
    refine c141 (d := d + 29) b1.2.1 c.1 hz1 ?_
    rw [e]
    intro _ _ I2 J2 fr2 jr2 hz2
    simp only [↓reduceIte, Option.toList_some, Option.toList_none, List.cons_append, List.nil_append, Int32.reduceAdd, Int32.reduceLT, Int32.reduceLE, Int32.reduceToNatClampNeg, w268_302, ↓reduceIte]
    exact ih I2 J2 o o' ⟨ho, bas_r b1 fr2 (jr2 12 (by decide) (by decide)) (jr2 187 (by decide) (by decide)), s, η, ρ, u, H, g, K, t, τ, 0, W, _, xV_up (fun a ha => fr2 a (Or.inl ha)) hx1, hz2, lCo_t c (fun i hi => absurd hi (Nat.not_lt_zero _))⟩
  | inr η' =>
    intro I1 J1 fr jr mk hx1
    have b1 := bas_g ho b fr jr mk
    have hz1 := zV_up (up I1 fr) hz
    simp only [↓reduceIte, Option.toList_some, Option.toList_none, List.cons_append, List.nil_append, Int32.reduceAdd, Int32.reduceLT, Int32.reduceLE, Int32.reduceToNatClampNeg, w268_298, w268_299]
    refine c141 (d := d + 29) b1.2.1 c.1 hz1 ?_
    rw [e]
    intro I2 J2 fr2 jr2 hz2
    simp only [↓reduceIte, Option.toList_some, Option.toList_none, List.cons_append, List.nil_append, Int32.reduceAdd, Int32.reduceLT, Int32.reduceLE, Int32.reduceToNatClampNeg, w268_302, ↓reduceIte]
    exact ih I2 J2 o' o ⟨ho', bas_r b1 fr2 (jr2 12 (by decide) (by decide)) (jr2 187 (by decide) (by decide)), 1 - s, η', sR0 η', 0, H, 0, K, 0, τ, 0, W, _, xV_up (fun a ha => fr2 a (Or.inl ha)) hx1, hz2, lCo_0 (sRd_ok e)⟩
end LRD
