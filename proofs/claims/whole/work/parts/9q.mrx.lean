/-! The model: read, whole. -/
def fZr (I I' : Nat → Nat → Int32) : Prop := ∀ a, (a < 180 ∨ a = 219) → I' a = I a
def jZr (J J' : Nat → Nat → Int64) : Prop := ∀ a, a ≠ 186 → a ≠ 188 → J' a = J a
def zRz (xL rc rx rr s : Nat) (I : Nat → Nat → Int32) (J : Nat → Nat → Int64) (H K : Nat → mRo5) (η : mHs) (ρ : mRo5) (u g t : Nat) (τ : mTo) (W : Nat → Int32) (L : Nat) (Q : Option Value → mHp → Prop) : (Nat × Nat) ⊕ mHs → Prop
  | .inl f => f.1 ≠ 0 → f.1 < 6 → ∀ I' J', fZr I I' → jZr J J' → zV I' I' s η ρ u H g K t τ 0 W (nI (tp W L f.2)) → Q (some (.int (nI f.1))) (mHh xL I' J' (mRf rc rx rr))
  | .inr η' => ∀ I' J', fZr I I' → jZr J J' → zV I' I' (1 - s) η' (sR0 η') 0 H 0 K 0 τ 0 W (-1) → Q (some (.int 0)) (mHh xL I' J' (mRf rc rx rr))
section MRX
variable {d : Nat} {xL : Nat} {Z I : Nat → Nat → Int32} {J : Nat → Nat → Int64} {rc rx rr : Nat} {Q : Option Value → mHp → Prop} {L : Nat} {W : Nat → Int32} {s : Nat} {η : mHs} {ρ : mRo5} {u : Nat} {H : Nat → mRo5} {g : Nat} {K : Nat → mRo5} {t : Nat} {τ : mTo} {pl : Int32}
theorem c141 (hJ : kJ J) (hb : ∀ i, i < L → vp_nar .byte (W i) = W i) (hV : zV Z I s η ρ u H g K t τ L W pl) (hP : zRz xL rc rx rr s I J H K η ρ u g t τ W L Q (sRd W L)) : WP (d + 10) 141 0 [.ref 180, mDum] [] (mHh xL I J (mRf rc rx rr)) Q := by
  obtain ⟨⟨ok, mh, nw, ro, rm⟩, zh, zs, zk, ⟨hL, h2, hW⟩, h17, -⟩ := hV
  obtain ⟨hs, h18, m1, m2, m3, m4, m5, m6, m7⟩ := mh
  have hs' : 1 - s < 2 := by omega
  have e1s : (1 : Int32) - nI s = nI (1 - s) := by
    have h : s = 0 ∨ s = 1 := by omega
    rcases h with rfl | rfl <;> decide
  simp only [w141_0, w141_1, w141_2, h2, w141_5, w141_8, w141_9]
  have f0 : ∀ a, a ≠ 180 → mU I 180 4 (nI L) a = I a := fun a h => mU_f h
  have f1 : ∀ j, j ≠ 4 → mU I 180 4 (nI L) 180 j = I 180 j := fun j h => mU_k h
  have f4 : mU I 180 4 (nI L) 180 4 = nI L := mU_s _ _ _ _
  generalize mU I 180 4 (nI L) = I0 at *
  have key : ∀ k, k ≤ L → ∀ I1 : Nat → Nat → Int32, (∀ a, a ≠ 182 → I1 a = I0 a) → (∀ j, j < k → I1 182 j = W j) → WP (d + 10) 141 10 [.ref 180, .int (nI k)] [] (mHh xL I1 J (mRf rc rx rr)) Q := by
    refine iter_dn ?_ ?_
    · intro k hk ih I1 fr tt
      have g1 : ¬ nI L ≤ nI k := nI_ge hk (by omega)
      have a1 : mIn (nI k) 2000 = true := mIn_nI (by omega) (by omega)
      have a2 : (nI k).toNatClampNeg = k := nI_clamp (by omega)
      have e4 : I1 180 4 = nI L := by rw [fr 180 (by decide)]; exact f4
      have e81 : I1 181 k = W k := by rw [fr 181 (by decide), f0 181 (by decide)]; exact hW k hk
      rw [w141_10]
      simp only [w141_11, w141_12, e4, w141_15, g1, ↓reduceIte, w141_18, w141_19, w141_22, w141_23, w141_24, w141_27, w141_28 (hi := a1), a2, e81, w141_29 (hi := a1), hb k hk, w141_30, nI_1, w141_33]
      refine ih _ (fun a h => by rw [mU_f h, fr a h]) (fun j hj => ?_)
      by_cases e : j = k
      · subst e; exact mU_s _ _ _ _
      · rw [mU_k e]; exact tt j (by omega)
    · intro I1 fr tt
      have g1 : nI L ≤ nI L := nI_le (Nat.le_refl _) (by omega)
      have e4 : I1 180 4 = nI L := by rw [fr 180 (by decide)]; exact f4
      rw [w141_10]
      simp only [w141_11, w141_12, e4, w141_15, g1, ↓reduceIte, w141_36, w141_37, w141_38, w141_41, w141_42]
      have p0 : ∀ a, a ≠ 180 → a ≠ 182 → mU I1 180 2 0 a = I a := fun a h1 h2 => by rw [mU_f h1, fr a h2, f0 a h1]
      have p1 : ∀ j, j ≠ 2 → j ≠ 4 → mU I1 180 2 0 180 j = I 180 j := fun j h1 h2 => by rw [mU_k h1, fr 180 (by decide), f1 j h2]
      have p2 : mU I1 180 2 0 180 2 = 0 := mU_s _ _ _ _
      have pT : xTm (mU I1 180 2 0) L W := ⟨hL, by rw [mU_k (by decide)]; exact e4, fun i hi => by rw [mU_f (by decide)]; exact tt i hi⟩
      generalize mU I1 180 2 0 = I2 at *
      refine c142 (d := d + 7) pT hJ (fun I3 J3 n f3 j3 g3 => ?_)
      have q0 : ∀ a, a ≠ 180 → a ≠ 182 → a ≠ 183 → a ≠ 184 → a ≠ 185 → I3 a = I a := fun a a1 a2 a3 a4 a5 => by rw [f3.1 a a1 a3 a4 a5, p0 a a1 a2]
      have q1 : ∀ j, j ≠ 2 → j ≠ 4 → j ≠ 10 → I3 180 j = I 180 j := fun j a b c => by rw [f3.2 j c, p1 j a b]
      have q2 : I3 180 2 = 0 := by rw [f3.2 2 (by decide)]; exact p2
      have y18 : ∀ (x : Int32), mU (mU (mU (mU I3 180 11 0) 180 12 0) 180 13 0) 180 15 0 180 18 = nI s := fun _ => by
        rw [mU_k (by decide), mU_k (by decide), mU_k (by decide), mU_k (by decide), q1 18 (by decide) (by decide) (by decide)]; exact h18
      have y19 : mU (mU (mU (mU (mU (mU I3 180 11 0) 180 12 0) 180 13 0) 180 15 0) 180 19 (nI (1 - s))) 180 20 0 180 19 = nI (1 - s) := by rw [mU_k (by decide), mU_s]
      simp only [↓reduceIte, Option.toList_some, Option.toList_none, List.cons_append, List.nil_append, Int32.reduceAdd, Int32.reduceLT, Int32.reduceLE, Int32.reduceToNatClampNeg, w141_45, w141_46, w141_47, w141_50, w141_51, w141_52, w141_55, w141_56, w141_57, w141_60, w141_61, w141_62, w141_65, w141_66, w141_67, w141_68, y18 0, w141_71, e1s, w141_72, w141_75, w141_76, w141_77, w141_80, w141_81, w141_82, y19, w141_85]
      have r0 : ∀ a, a ≠ 180 → mU (mU (mU (mU (mU (mU I3 180 11 0) 180 12 0) 180 13 0) 180 15 0) 180 19 (nI (1 - s))) 180 20 0 a = I3 a := fun a h => by rw [mU_f h, mU_f h, mU_f h, mU_f h, mU_f h, mU_f h]
      have r1 : ∀ j, j ≠ 11 → j ≠ 12 → j ≠ 13 → j ≠ 15 → j ≠ 19 → j ≠ 20 → mU (mU (mU (mU (mU (mU I3 180 11 0) 180 12 0) 180 13 0) 180 15 0) 180 19 (nI (1 - s))) 180 20 0 180 j = I3 180 j := fun j a b c d e f => by rw [mU_k f, mU_k e, mU_k d, mU_k c, mU_k b, mU_k a]
      have r11 : mU (mU (mU (mU (mU (mU I3 180 11 0) 180 12 0) 180 13 0) 180 15 0) 180 19 (nI (1 - s))) 180 20 0 180 11 = 0 := by rw [mU_k (by decide), mU_k (by decide), mU_k (by decide), mU_k (by decide), mU_k (by decide), mU_s]
      have r12 : mU (mU (mU (mU (mU (mU I3 180 11 0) 180 12 0) 180 13 0) 180 15 0) 180 19 (nI (1 - s))) 180 20 0 180 12 = 0 := by rw [mU_k (by decide), mU_k (by decide), mU_k (by decide), mU_k (by decide), mU_s]
      have r13 : mU (mU (mU (mU (mU (mU I3 180 11 0) 180 12 0) 180 13 0) 180 15 0) 180 19 (nI (1 - s))) 180 20 0 180 13 = 0 := by rw [mU_k (by decide), mU_k (by decide), mU_k (by decide), mU_s]
      have r15 : mU (mU (mU (mU (mU (mU I3 180 11 0) 180 12 0) 180 13 0) 180 15 0) 180 19 (nI (1 - s))) 180 20 0 180 15 = 0 := by rw [mU_k (by decide), mU_k (by decide), mU_s]
      have r20 : mU (mU (mU (mU (mU (mU I3 180 11 0) 180 12 0) 180 13 0) 180 15 0) 180 19 (nI (1 - s))) 180 20 0 180 20 = 0 := mU_s _ _ _ _
      generalize mU (mU (mU (mU (mU (mU I3 180 11 0) 180 12 0) 180 13 0) 180 15 0) 180 19 (nI (1 - s))) 180 20 0 = I4 at *
      refine c133 hs' (fun I5 f5 a190 a193 a198 a199 a200 => ?_)
      have w5 : ∀ j, I5 180 j = I4 180 j := fun j => f5 180 j (by unfold hf3; omega)
      have e519 : I5 180 19 = nI (1 - s) := by rw [w5]; exact y19
      have m130 : (130 : Int32) * nI (1 - s) = nI (130 * (1 - s)) := pk_mul 130 (1 - s)
      have m420 : (420 : Int32) * nI (1 - s) = nI (420 * (1 - s)) := pk_mul 420 (1 - s)
      have y519 : mU I5 180 35 (nI (130 * (1 - s))) 180 19 = nI (1 - s) := by rw [mU_k (by decide)]; exact e519
      simp only [↓reduceIte, Option.toList_some, Option.toList_none, List.cons_append, List.nil_append, Int32.reduceAdd, Int32.reduceLT, Int32.reduceLE, Int32.reduceToNatClampNeg, w141_88, w141_89, w141_92, w141_93, e519, w141_96, m130, w141_97, w141_100, w141_101, w141_104, w141_105, y519, w141_108, m420, w141_109]
      have t0 : ∀ a, a ≠ 180 → mU (mU I5 180 35 (nI (130 * (1 - s)))) 180 41 (nI (420 * (1 - s))) a = I5 a := fun a h => by rw [mU_f h, mU_f h]
      have t1 : ∀ j, j ≠ 35 → j ≠ 41 → mU (mU I5 180 35 (nI (130 * (1 - s)))) 180 41 (nI (420 * (1 - s))) 180 j = I5 180 j := fun j a b => by rw [mU_k b, mU_k a]
      have t35 : mU (mU I5 180 35 (nI (130 * (1 - s)))) 180 41 (nI (420 * (1 - s))) 180 35 = nI (130 * (1 - s)) := by rw [mU_k (by decide), mU_s]
      have t41 : mU (mU I5 180 35 (nI (130 * (1 - s)))) 180 41 (nI (420 * (1 - s))) 180 41 = nI (420 * (1 - s)) := mU_s _ _ _ _
      generalize mU (mU I5 180 35 (nI (130 * (1 - s)))) 180 41 (nI (420 * (1 - s))) = I6 at *
      have v0 : ∀ a q, a ≠ 180 → ¬ hf3 (1 - s) a q → I6 a q = I3 a q := fun a q h1 h2 => by rw [t0 a h1, f5 a q h2, r0 a h1]
      have v8 : ∀ a, a ≠ 180 → a ≠ 190 → a ≠ 193 → a ≠ 198 → a ≠ 199 → a ≠ 200 → a ≠ 201 → I6 a = I3 a := fun a b c d e f g h => by funext q; exact v0 a q b (by unfold hf3; omega)
      have v1 : ∀ j, j ≠ 11 → j ≠ 12 → j ≠ 13 → j ≠ 15 → j ≠ 19 → j ≠ 20 → j ≠ 35 → j ≠ 41 → I6 180 j = I3 180 j := fun j a b c d e f g h => by rw [t1 j g h, w5, r1 j a b c d e f]
      have gT : mTk I6 J3 W L n := by
        obtain ⟨⟨a1, a2, a3⟩, b, c⟩ := g3
        refine ⟨⟨a1, a2, by rw [v1 10 (by decide) (by decide) (by decide) (by decide) (by decide) (by decide) (by decide) (by decide)]; exact a3⟩, fun q hq => ?_, c⟩
        rw [mRwT, v8 183 (by decide) (by decide) (by decide) (by decide) (by decide) (by decide) (by decide), v8 184 (by decide) (by decide) (by decide) (by decide) (by decide) (by decide) (by decide), v8 185 (by decide) (by decide) (by decide) (by decide) (by decide) (by decide) (by decide)]
        exact b q hq
      have s0 : yS I6 J3 W L (1 - s) 0 (η0, [], (0, 0)) := by
        refine ⟨⟨⟨⟨n, gT⟩, by decide, fun _ => kLv_z, ?_, ?_, by decide, fun z => absurd rfl z⟩, hL, ?_, by decide, fun z => absurd rfl z⟩, ?_, ?_, ⟨?_, by decide, fun k p e => by cases e⟩, 0, 0, ?_, ?_, by decide, by decide, ?_, ?_, ?_, ?_, fun p hp => absurd hp (Nat.not_lt_zero _), fun p hp => absurd hp (Nat.not_lt_zero _), fun k hk => ?_⟩
        · rw [t1 11 (by decide) (by decide), w5]; exact r11
        · rw [t1 13 (by decide) (by decide), w5]; exact r13
        · rw [t1 15 (by decide) (by decide), w5]; exact r15
        · rw [t1 12 (by decide) (by decide), w5]; exact r12
        · rw [t1 19 (by decide) (by decide)]; exact e519
        · rw [t1 20 (by decide) (by decide), w5]; exact r20
        · rw [t35]; rfl
        · rw [t41]; rfl
        · rw [t0 190 (by decide)]; exact a190
        · rw [t0 193 (by decide)]; exact a193
        · rw [t0 198 (by decide)]; exact a198
        · rw [t0 199 (by decide)]; exact a199
        · show I6 200 (4 * (1 - s) + k) = I6 201 (4 * (1 - s) + k)
          rw [t0 200 (by decide), t0 201 (by decide), (a200 k hk).1, (a200 k hk).2]
      have live : ∀ (b : Bool) (I' : Nat → Nat → Int32), fZx (1 - s) b I6 I' → (∀ a q, a ≠ 180 → a ≠ 182 → a ≠ 183 → a ≠ 184 → a ≠ 185 → ¬ hfR (1 - s) a q → (b = true → a ≠ 212 ∧ a ≠ 213 ∧ a ≠ 226) → I' a q = I a q) ∧ (∀ j, ¬ (11 ≤ j ∧ j ≤ 17) → j ≠ 2 → j ≠ 4 → j ≠ 10 → j ≠ 19 → j ≠ 20 → j ≠ 35 → j ≠ 41 → j ≠ 45 → (b = true → j ≠ 18 ∧ j ≠ 51 ∧ j ≠ 52 ∧ j ≠ 54 ∧ j ≠ 62) → I' 180 j = I 180 j) ∧ I' 180 2 = 0 := by
        intro b I' f
        refine ⟨fun a q a0 a2 a3 a4 a5 h z => ?_, fun j c1 c2 c3 c4 c5 c6 c7 c8 c9 z => ?_, ?_⟩
        · rw [f a q h (fun y => a0 y.1) (fun y => ⟨fun y => a0 y.1, z y⟩), v0 a q a0 (fun y => h (by unfold hf3 at y; unfold hfR; omega)), q0 a a0 a2 a3 a4 a5]
        · rw [f 180 j (by unfold hfR; omega) (fun y => by omega) (fun y => ⟨fun x => by have := z y; omega, by decide, by decide, by decide⟩), v1 j (by omega) (by omega) (by omega) (by omega) c5 c6 c7 c8, q1 j c2 c3 c4]
        · rw [f 180 2 (by unfold hfR; omega) (fun y => by omega) (fun y => ⟨fun x => by omega, by decide, by decide, by decide⟩), v1 2 (by decide) (by decide) (by decide) (by decide) (by decide) (by decide) (by decide) (by decide)]
          exact q2
      refine y141k (d := d) hs' (I := I6) (J := J3) (fun f I' J' e f0 f6 fz jy e17 => ?_) (fun η' I' J' e fz jy mh' nw' e54 e62 e226 e17 => ?_) ⟨_, rfl⟩ 402 0 _ I6 J3 (by decide) s0 σOk_0 fYt_0 (fun _ _ => rfl) rfl
      · rw [e] at hP
        obtain ⟨x0, x1, x2⟩ := live false I' fz
        have x0' : ∀ a, a ≠ 180 → a ≠ 182 → a ≠ 183 → a ≠ 184 → a ≠ 185 → ¬ (189 ≤ a ∧ a ≤ 209) → I' a = I a := fun a b c d e f g => by funext q; exact x0 a q b c d e f (by unfold hfR; omega) (fun z => by cases z)
        have x1' : ∀ j, ¬ (11 ≤ j ∧ j ≤ 17) → j ≠ 2 → j ≠ 4 → j ≠ 10 → j ≠ 19 → j ≠ 20 → j ≠ 35 → j ≠ 41 → j ≠ 45 → I' 180 j = I 180 j := fun j a b c d e f g h i => x1 j a b c d e f g h i (fun z => by cases z)
        have xh : ∀ a q, 190 ≤ a → a ≤ 208 → ¬ hfR (1 - s) a q → I' a q = I a q := fun a q a1 a2 h => x0 a q (by omega) (by omega) (by omega) (by omega) (by omega) h (fun z => by cases z)
        refine hP f0 f6 I' J' (fun a ha => x0' a (by omega) (by omega) (by omega) (by omega) (by omega) (by omega)) (fun a a1 a2 => by rw [jy a a2, j3 a a1]) ⟨⟨ok, ⟨hs, ?_, ?_, ?_, ?_, ?_, fun p hp => ?_, fun i hi => ?_, fun k hk => ?_⟩, ?_, ro, rm⟩, ⟨zh.1, ?_, fun i hi k hk => ?_⟩, ?_, ?_, ⟨by decide, x2, fun i hi => absurd hi (Nat.not_lt_zero _)⟩, e17, fun _ _ => rfl⟩
        · rw [x1' 18 (by decide) (by decide) (by decide) (by decide) (by decide) (by decide) (by decide) (by decide) (by decide)]; exact h18
        · rw [xh 190 s (by decide) (by decide) (by unfold hfR; omega)]; exact m1
        · rw [xh 193 s (by decide) (by decide) (by unfold hfR; omega)]; exact m2
        · rw [xh 198 s (by decide) (by decide) (by unfold hfR; omega)]; exact m3
        · rw [xh 199 s (by decide) (by decide) (by unfold hfR; omega)]; exact m4
        · have := ok.1
          rw [xh 191 _ (by decide) (by decide) (by unfold hfR; omega), xh 192 _ (by decide) (by decide) (by unfold hfR; omega)]; exact m5 p hp
        · have := ok.2.1
          rw [xh 194 _ (by decide) (by decide) (by unfold hfR; omega), xh 195 _ (by decide) (by decide) (by unfold hfR; omega), xh 196 _ (by decide) (by decide) (by unfold hfR; omega), xh 197 _ (by decide) (by decide) (by unfold hfR; omega)]; exact m6 i hi
        · have e4 : (4 * s + k) / 4 = s := by omega
          refine mMwQ_keep (fun q a b => ?_) (fun a p1 p2 q b1 b2 => ?_) ?_ ?_ (m7 k hk)
          · rw [e4] at a b
            rw [xh 207 _ (by decide) (by decide) (by unfold hfR; omega), xh 208 _ (by decide) (by decide) (by unfold hfR; omega)]; exact ⟨rfl, rfl⟩
          · rw [e4] at b1 b2
            exact xh a q (by omega) (by omega) (by unfold hfR; omega)
          · exact xh 200 _ (by decide) (by decide) (by unfold hfR; omega)
          · exact xh 201 _ (by decide) (by decide) (by unfold hfR; omega)
        · exact mNw_o (x0' 212 (by decide) (by decide) (by decide) (by decide) (by decide) (by decide)) nw
        · rw [x1' 54 (by decide) (by decide) (by decide) (by decide) (by decide) (by decide) (by decide) (by decide) (by decide)]; exact zh.2.1
        · rw [x0' 215 (by decide) (by decide) (by decide) (by decide) (by decide) (by decide)]; exact zh.2.2 i hi k hk
        · exact zSl_k (x0' 226 (by decide) (by decide) (by decide) (by decide) (by decide) (by decide)) (x0' 227 (by decide) (by decide) (by decide) (by decide) (by decide) (by decide)) zs
        · exact zK_k (fun a a1 a2 => x0' a (by omega) (by omega) (by omega) (by omega) (by omega) (by omega)) (x1' 62 (by decide) (by decide) (by decide) (by decide) (by decide) (by decide) (by decide) (by decide) (by decide)) zk
      · rw [e] at hP
        obtain ⟨x0, x1, x2⟩ := live true I' fz
        have x0' : ∀ a, a ≠ 180 → a ≠ 182 → a ≠ 183 → a ≠ 184 → a ≠ 185 → ¬ (189 ≤ a ∧ a ≤ 209) → a ≠ 212 → a ≠ 213 → a ≠ 226 → I' a = I a := fun a b c d e f g h i j => by funext q; exact x0 a q b c d e f (by unfold hfR; omega) (fun _ => ⟨h, i, j⟩)
        have ok' := sRd_ok e
        refine hP I' J' (fun a ha => x0' a (by omega) (by omega) (by omega) (by omega) (by omega) (by omega) (by omega) (by omega) (by omega)) (fun a a1 a2 => by rw [jy a a2, j3 a a1]) ⟨⟨ok', mh', nw', (sR0_ok ok').1, (sR0_ok ok').2⟩, ⟨by decide, e54, fun i hi => absurd hi (Nat.not_lt_zero _)⟩, ⟨by decide, fun k hk => ⟨?_, fun z => ?_⟩⟩, ⟨by decide, e62, fun i hi => absurd hi (Nat.not_lt_zero _)⟩, ⟨by decide, x2, fun i hi => absurd hi (Nat.not_lt_zero _)⟩, e17, fun _ _ => rfl⟩
        · rw [e226 k hk, Nat.zero_testBit]; rfl
        · rw [Nat.zero_testBit] at z; cases z
  exact key 0 (Nat.zero_le _) I0 (fun _ _ => rfl) (fun j hj => absurd hj (Nat.not_lt_zero _))
end MRX
