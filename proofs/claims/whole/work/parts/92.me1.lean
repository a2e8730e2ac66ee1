/-! The model's expression: parts and sums. (written by wip/tools/t92.py) -/
section ME1
variable {d B : Nat} {xL : Nat} {J : Nat → Nat → Int64} {rc rx rr : Nat} {L : Nat} {W : Nat → Int32}
theorem x234 {I : Nat → Nat → Int32} {Q : Option Value → mHp → Prop} {t : Nat} {b : Bool} {pe ops : List Nat} {s o : Nat} (hB : B ≤ 430) (h : mRD I J W L t 0 0) (k03 : kk W L t ≠ 0 ∧ kk W L t ≠ 3) (h12 : I 180 12 = nI o) (hmo : mXo I (pe ++ ops)) (h5 : I 180 45 = nI (pe ++ ops).length) (h6 : (pe ++ ops).length ≤ 60) (h41 : I 180 41 = nI s) (h8 : s + (pe ++ ops).length ≤ B + 405) (hb : stB b ops) (hpe : ∀ x, x ∈ pe → stp b x = false) (hF : ∀ f, nx t = .inl f → mFai (B + 405) xL rc rx rr I J W L Q f) (hN : ∀ I' t1, nx t = .inr t1 → fMe (B + 405) I I' → mES I' J W L t1 o (kk W L t :: ops) (s + pe.length) → (∀ q, q < s → I' 207 q = I 207 q ∧ I' 208 q = I 208 q) → mXa (I' 207) (I' 208) ((oq pe).map mMp) s → WP (d + 4) 162 23 [.ref 180, .int 0, .int 1] [] (mHh xL I' J (mRf rc rx rr)) Q) : WP (d + 4) 162 234 [.ref 180, .int 0, .int 1] [.int (sB01 b), .ref 180] (mHh xL I J (mRf rc rx rr)) Q := by
  have c16 := fun Q' => c165 (d := d + 2) (xL := xL) (J := J) (rc := rc) (rx := rx) (rr := rr) (Q := Q') (b := b) (pe ++ ops) s I mDum hmo h5 (by omega) h41 (by omega)
  obtain ⟨⟨p1, p2⟩, ⟨p5, p41⟩, p7, px⟩ := coI_p b (pe ++ ops) s I h5 h41
  obtain ⟨cr, cq⟩ := co_app hb pe hpe
  rw [cr] at p5
  rw [cq] at p41 px
  rw [oq_len] at p41
  have m4 := mRD_co (b := b) h h5 h41
  have f4 := coI_e (b := b) h5 h41 h8 hB
  have p209 := p1 209 (by decide) (by decide) (by decide)
  have p12 := p2 12 (by decide) (by decide)
  have ol : ops.length ≤ 60 := by rw [List.length_append] at h6; omega
  have ht := h.2.1
  have hkl := tKd_lt W L (tp W L t)
  change kk W L t < 40 at hkl
  generalize coI b (pe ++ ops) s I = I4 at *
  have kd := (mRD_k m4).1
  have h11 := m4.2.2.2.1
  have a1 : mIn (nI ops.length) 64 = true := mIn_nI (by omega) (by omega)
  have a2 : (nI ops.length).toNatClampNeg = ops.length := nI_clamp (by omega)
  have a3 : mIn (nI t) 403 = true := mIn_nI (by omega) (by omega)
  have a4 : (nI t).toNatClampNeg = t := nI_clamp (by omega)
  have y5 : mU I4 209 ops.length (nI (kk W L t)) 180 45 = nI ops.length := by rw [mU_a (by decide)]; exact p5
  simp only [w162_234, c16, ↓reduceIte, Option.toList_some, Option.toList_none, List.cons_append, List.nil_append, Int32.reduceAdd, Int32.reduceLT, Int32.reduceLE, Int32.reduceToNatClampNeg, w162_237, w162_238, w162_241, w162_242, p5, w162_245, w162_246, w162_249, w162_250, h11, w162_253, a3, a4, kd, w162_254, a1, a2, w162_255, w162_256, w162_257, y5, w162_260, w162_261, nI_1, w162_262, w162_265, w162_266]
  have m5 : mRD (mU (mU I4 209 ops.length (nI (kk W L t))) 180 45 (nI (ops.length + 1))) J W L t 0 0 := by
    refine mRD_e m4 (fun a ha => ?_) (fun j hj => ?_)
    · rw [mU_f (by omega), mU_f (by omega)]
    · rw [mU_k (by omega), mU_a (by decide)]
  have f5 : fMe (B + 405) I4 (mU (mU I4 209 ops.length (nI (kk W L t))) 180 45 (nI (ops.length + 1))) := ⟨fun a h0 _ _ h9 => by rw [mU_f h0, mU_f h9], fun j _ _ _ _ _ h4 => by rw [mU_k h4, mU_a (by decide)], fCd_e (by rw [mU_k (by decide), mU_a (by decide)]) (by rw [mU_f (by decide), mU_f (by decide)]) (by rw [mU_f (by decide), mU_f (by decide)])⟩
  refine c152n (d := d + 2) m5 k03 ?_
  intro I6 r6 q1 q2
  have fr : fMe (B + 405) I I6 := fMe_t (fMe_t f4 f5) (fM1_e r6)
  simp only [↓reduceIte, Option.toList_some, Option.toList_none, List.cons_append, List.nil_append, Int32.reduceAdd, Int32.reduceLT, Int32.reduceLE, Int32.reduceToNatClampNeg, w162_269, w162_12, w162_13, o01, w162_16, w162_17]
  cases e : nx t with
  | inl f =>
    have gf := q1 f e
    have nf : f.1 ≠ 0 := by rw [(nx_l e).2]; exact (by decide : (2 : Nat) ≠ 0)
    have e13 : ¬ I6 180 13 = 0 := by
      have := gf.2.2.2.2.2.1
      rw [gf.2.2.2.2.1, in_eq 0 (by decide) (by omega)]; exact nf
    simp only [w162_20, e13, ↓reduceIte, w162_272]
    exact hF f e I6 t fr gf nf
  | inr t1 =>
    have gf := q2 t1 e
    have e13 : I6 180 13 = 0 := gf.2.2.2.2.1
    simp only [w162_20, e13, ↓reduceIte]
    refine hN I6 t1 e fr ⟨gf, ?_, ⟨?_, hkl, mXo_l ops (fun j hj => ?_) (mXo_d pe ops I hmo)⟩, ?_, ?_⟩ (fun q hq => ?_) ?_
    · rw [r6.2 12 (by decide) (by decide) (by decide), mU_k (by decide), mU_a (by decide), p12]; exact h12
    · rw [r6.1 209 (by decide), mU_a (by decide), mU_s]
    · rw [r6.1 209 (by decide), mU_a (by decide), mU_k (by omega), p209]
    · rw [r6.2 45 (by decide) (by decide) (by decide), mU_s]; rfl
    · rw [r6.2 41 (by decide) (by decide) (by decide), mU_k (by decide), mU_a (by decide)]; exact p41
    · rw [r6.1 207 (by decide), r6.1 208 (by decide), mU_f (by decide), mU_f (by decide), mU_f (by decide), mU_f (by decide)]; exact p7 q hq
    · rw [r6.1 207 (by decide), r6.1 208 (by decide), mU_f (by decide), mU_f (by decide), mU_f (by decide), mU_f (by decide)]; exact px

theorem mE2 (hB : B ≤ 430) {n : Nat} (ihU : mOK xL rc rx rr d B J W L n 0) (ihL : mOK xL rc rx rr d B J W L n 2) : mOK xL rc rx rr d B J W L (n + 1) 2 := by
  intro o t I s ops pe Q ho hn hS hsh hb hnk hlb hsz hP
  obtain ⟨h, h12, hmo, h5, h41⟩ := hS
  have ht := h.2.1
  have hlb' : ops.length ≤ 3 * o + 1 := hlb
  have hg2 : gWt 2 = 2 := rfl
  have hg0 : gWt 0 = 1 := rfl
  change PM pe at hsh
  change stB true ops at hb
  have hst := PM_st hsh
  have hol : (pe ++ ops).length = pe.length + ops.length := List.length_append
  change WP (d + 4) 162 96 [.ref 180, .int 0, .int 1] [] (mHh xL I J (mRf rc rx rr)) Q
  rw [pE, if_neg (by decide : ¬ (2 : Nat) = 0), if_neg (by decide : ¬ (2 : Nat) = 1), if_pos rfl] at hP
  by_cases ko : kk W L t = 10 ∨ kk W L t = 15
  · rw [if_pos ko] at hP
    have k03 : kk W L t ≠ 0 ∧ kk W L t ≠ 3 := by omega
    have eoc : (if kk W L t = 10 then 4 else 5) = oc (kk W L t) := by
      rcases ko with ko | ko <;> rw [ko] <;> rfl
    rw [eoc] at hP
    have key : WP (d + 4) 162 234 [.ref 180, .int 0, .int 1] [.int (sB01 true), .ref 180] (mHh xL I J (mRf rc rx rr)) Q := by
      refine x234 (o := o) (pe := pe) (ops := ops) (s := s) hB h k03 h12 hmo h5 (by omega) h41 (by omega) hb hst.1 (fun f e => ?_) (fun I1 t1 e f1 hS1 p1 x1 => ?_)
      · rw [e] at hP; dsimp only at hP; exact hP
      · rw [e] at hP; dsimp only at hP
        have et := (nx_r (h.2.2.1 rfl) k03 e).1
        have l1 := hS1.1.2.2.1 rfl
        refine ihU o t1 I1 (s + pe.length) (kk W L t :: ops) [] Q ho (by omega) hS1 rfl trivial trivial ?_ ?_ ?_
        · show (kk W L t :: ops).length ≤ 3 * o + 2
          rw [List.length_cons]; omega
        · show s + pe.length + (kk W L t :: ops).length ≤ B + t1
          rw [List.length_cons]; omega
        · cases e4 : pE W L n 0 o t1 with
          | inl f =>
            rw [e4] at hP; dsimp only at hP
            intro I2 t2 f2 g2 n2
            exact hP I2 t2 (fMe_t f1 f2) g2 n2
          | inr r =>
            obtain ⟨t2, c1⟩ := r
            rw [e4] at hP; dsimp only at hP
            have okE := pE_ok W L n 0 o t1 t2 c1 l1 ho (by omega) e4
            intro I2 pe1 c0 hx hc hxk f2 hS2 p2 x2
            change (· = [])  pe1 at hx
            have hcc : c1 = c0 ++ oq pe1 := (List.nil_append c1).symm.trans hc
            have hcl : c1.length = c0.length + pe1.length := by rw [hcc, List.length_append, oq_len]
            refine ihL o t2 I2 (s + pe.length + c0.length) ops (pe1 ++ [kk W L t]) Q ho (by omega) (by rw [List.append_assoc]; exact hS2) ?_ hb trivial hlb ?_ ?_
            · show PM (pe1 ++ [kk W L t])
              have e0 : pe1 = [] := hx
              rw [e0]
              rcases ko with ko | ko <;> rw [ko]
              · exact Or.inr (Or.inl rfl)
              · exact Or.inr (Or.inr rfl)
            · rw [List.length_append, List.length_append]
              show s + pe.length + c0.length + (pe1.length + 1 + ops.length) ≤ B + t2
              omega
            · cases e5 : pE W L n 2 o t2 with
              | inl f =>
                rw [e5] at hP; dsimp only at hP
                intro I3 t3 f3 g3 n3
                exact hP I3 t3 (fMe_t (fMe_t f1 f2) f3) g3 n3
              | inr r =>
                obtain ⟨t3, c2⟩ := r
                rw [e5] at hP; dsimp only at hP
                intro I3 pe2 c3 hx3 hc3 hxk3 f3 hS3 p3 x3
                change oq (pe1 ++ [kk W L t]) ++ c2 = c3 ++ oq pe2 at hc3
                refine hP I3 pe2 (oq pe ++ c0 ++ c3) hx3 ?_ hxk3 (fMe_t (fMe_t f1 f2) f3) ?_ (fun q hq => ?_) ?_
                · show oq pe ++ (c1 ++ (oc (kk W L t), (0 : Int32)) :: c2) = oq pe ++ c0 ++ c3 ++ oq pe2
                  rw [hcc]
                  simp only [List.append_assoc]
                  rw [← hc3, oq_app]
                  simp only [List.append_assoc]
                  rfl
                · rw [List.length_append, List.length_append, oq_len, ← Nat.add_assoc, ← Nat.add_assoc]
                  exact hS3
                · obtain ⟨a1, b1⟩ := p1 q hq
                  obtain ⟨a2, b2⟩ := p2 q (by omega)
                  obtain ⟨a3, b3⟩ := p3 q (by omega)
                  exact ⟨a3.trans (a2.trans a1), b3.trans (b2.trans b1)⟩
                · rw [List.map_append, List.map_append]
                  refine xa_a _ _ _ (xa_a _ _ _ (xa_k _ _ x1 (fun j hj => ?_)) ?_) ?_
                  · rw [List.length_map, oq_len] at hj
                    obtain ⟨a2, b2⟩ := p2 j hj
                    obtain ⟨a3, b3⟩ := p3 j (by omega)
                    exact ⟨a3.trans a2, b3.trans b2⟩
                  · rw [List.length_map, oq_len]
                    refine xa_k _ _ x2 (fun j hj => ?_)
                    rw [List.length_map] at hj
                    exact p3 j hj
                  · rw [List.length_append, List.length_map, List.length_map, oq_len, ← Nat.add_assoc]
                    exact x3
    have c7 := fun Q' => c148 (d := d + 3) (xL := xL) (rc := rc) (rx := rx) (rr := rr) (Q := Q') (κ := 7) h (by decide) (show (7 : Int32) = nI 7 from rfl)
    have c8 := fun Q' => c148 (d := d + 3) (xL := xL) (rc := rc) (rx := rx) (rr := rr) (Q := Q') (κ := 8) h (by decide) (show (8 : Int32) = nI 8 from rfl)
    have c9 := fun Q' => c148 (d := d + 3) (xL := xL) (rc := rc) (rx := rx) (rr := rr) (Q := Q') (κ := 9) h (by decide) (show (9 : Int32) = nI 9 from rfl)
    have c10 := fun Q' => c148 (d := d + 3) (xL := xL) (rc := rc) (rx := rx) (rr := rr) (Q := Q') (κ := 10) h (by decide) (show (10 : Int32) = nI 10 from rfl)
    have c15 := fun Q' => c148 (d := d + 3) (xL := xL) (rc := rc) (rx := rx) (rr := rr) (Q := Q') (κ := 15) h (by decide) (show (15 : Int32) = nI 15 from rfl)
    simp only [sB_t] at key
    rcases ko with ka | ka <;>
    · simp (config := { decide := true }) only [ka, decide_true, decide_false, sB_t, sB_f] at c7 c8 c9 c10 c15
      simp only [w162_96, w162_97, w162_99, c7, ↓reduceIte, Option.toList_some, Option.toList_none, List.cons_append, List.nil_append, Int32.reduceAdd, Int32.reduceLT, Int32.reduceLE, Int32.reduceToNatClampNeg, w162_102, w162_145, w162_146, w162_148, c8, w162_151, w162_154, w162_155, w162_157, c9, w162_160, w162_163, w162_164, w162_166, c10, w162_169, w162_172, w162_173, w162_175, c15, w162_178, o01, w162_181, w162_182, w162_186, w162_187, w162_188, w162_210, w162_211, w162_212, w162_214, w162_217, w162_220, w162_221, w162_223, w162_226, w162_229, w162_230, w162_233]
      exact key
  · rw [if_neg ko] at hP
    exact hP I pe [] hsh (List.append_nil _) (show kk W L t ≠ 10 ∧ kk W L t ≠ 15 by omega) fMe_0 ⟨h, h12, hmo, h5, h41⟩ (fun _ _ => ⟨rfl, rfl⟩) trivial
theorem mE1 (hB : B ≤ 430) {n : Nat} (ihU : mOK xL rc rx rr d B J W L n 0) (ihL : mOK xL rc rx rr d B J W L n 2) : mOK xL rc rx rr d B J W L (n + 1) 1 := by
  intro o t I s ops pe Q ho hn hS hsh hb hnk hlb hsz hP
  have hpe : pe = [] := hsh
  subst hpe
  have hlb' : ops.length ≤ 3 * o + 1 := hlb
  have hg1 : gWt 1 = 2 := rfl
  have hg2 : gWt 2 = 2 := rfl
  have hg0 : gWt 0 = 1 := rfl
  have h := hS.1
  have ht := h.2.1
  change stB true ops at hb
  rw [pE, if_neg (by decide : ¬ (1 : Nat) = 0), if_pos rfl] at hP
  rw [List.nil_append] at hsz
  refine ihU o t I s ops [] Q ho (by omega) hS rfl trivial trivial (show ops.length ≤ 3 * o + 2 by omega) (show s + ops.length ≤ B + t from hsz) ?_
  cases e4 : pE W L n 0 o t with
  | inl f => rw [e4] at hP; dsimp only at hP; exact hP
  | inr r =>
    obtain ⟨t1, c1⟩ := r
    rw [e4] at hP; dsimp only at hP
    have okE := pE_ok W L n 0 o t t1 c1 (h.2.2.1 rfl) ho (by omega) e4
    have tlt := okE.2.2.1 (by omega)
    intro I2 pe1 c0 hx hc hxk f2 hS2 p2 x2
    change (· = [])  pe1 at hx
    have hcc : c1 = c0 ++ oq pe1 := (List.nil_append c1).symm.trans hc
    have hcl : c1.length = c0.length + pe1.length := by rw [hcc, List.length_append, oq_len]
    refine ihL o t1 I2 (s + c0.length) ops pe1 Q ho (by omega) hS2 (show PM pe1 from Or.inl hx) hb trivial hlb ?_ ?_
    · rw [List.length_append]; omega
    · cases e5 : pE W L n 2 o t1 with
      | inl f =>
        rw [e5] at hP; dsimp only at hP
        intro I3 t3 f3 g3 n3
        exact hP I3 t3 (fMe_t f2 f3) g3 n3
      | inr r =>
        obtain ⟨t3, c2⟩ := r
        rw [e5] at hP; dsimp only at hP
        intro I3 pe2 c3 hx3 hc3 hxk3 f3 hS3 p3 x3
        change oq pe1 ++ c2 = c3 ++ oq pe2 at hc3
        refine hP I3 pe2 (c0 ++ c3) hx3 ?_ hxk3 (fMe_t f2 f3) ?_ (fun q hq => ?_) ?_
        · show [] ++ (c1 ++ c2) = c0 ++ c3 ++ oq pe2
          rw [hcc, List.nil_append]
          simp only [List.append_assoc]
          rw [← hc3]
        · rw [List.length_append, ← Nat.add_assoc]
          exact hS3
        · obtain ⟨a2, b2⟩ := p2 q hq
          obtain ⟨a3, b3⟩ := p3 q (by omega)
          exact ⟨a3.trans a2, b3.trans b2⟩
        · rw [List.map_append]
          refine xa_a _ _ _ (xa_k _ _ x2 (fun j hj => ?_)) ?_
          · rw [List.length_map] at hj
            exact p3 j hj
          · rw [List.length_map]; exact x3

theorem mE4 (hB : B ≤ 430) {n : Nat} (ihU : mOK xL rc rx rr d B J W L n 1) (ihL : mOK xL rc rx rr d B J W L n 4) : mOK xL rc rx rr d B J W L (n + 1) 4 := by
  intro o t I s ops pe Q ho hn hS hsh hb hnk hlb hsz hP
  obtain ⟨h, h12, hmo, h5, h41⟩ := hS
  have ht := h.2.1
  have hlb' : ops.length ≤ 3 * o + 0 := hlb
  have hg2 : gWt 4 = 3 := rfl
  have hg0 : gWt 1 = 2 := rfl
  change PB pe at hsh
  change stB false ops at hb
  have hst := PB_st hsh
  have hol : (pe ++ ops).length = pe.length + ops.length := List.length_append
  change WP (d + 4) 162 96 [.ref 180, .int 0, .int 1] [] (mHh xL I J (mRf rc rx rr)) Q
  rw [pE, if_neg (by decide : ¬ (4 : Nat) = 0), if_neg (by decide : ¬ (4 : Nat) = 1), if_neg (by decide : ¬ (4 : Nat) = 2), if_neg (by decide : ¬ (4 : Nat) = 3)] at hP
  by_cases ko : kk W L t = 8 ∨ kk W L t = 9
  · rw [if_pos ko] at hP
    have k03 : kk W L t ≠ 0 ∧ kk W L t ≠ 3 := by omega
    have eoc : (if kk W L t = 8 then 2 else 3) = oc (kk W L t) := by
      rcases ko with ko | ko <;> rw [ko] <;> rfl
    rw [eoc] at hP
    have key : WP (d + 4) 162 234 [.ref 180, .int 0, .int 1] [.int (sB01 false), .ref 180] (mHh xL I J (mRf rc rx rr)) Q := by
      refine x234 (o := o) (pe := pe) (ops := ops) (s := s) hB h k03 h12 hmo h5 (by omega) h41 (by omega) hb hst.1 (fun f e => ?_) (fun I1 t1 e f1 hS1 p1 x1 => ?_)
      · rw [e] at hP; dsimp only at hP; exact hP
      · rw [e] at hP; dsimp only at hP
        have et := (nx_r (h.2.2.1 rfl) k03 e).1
        have l1 := hS1.1.2.2.1 rfl
        refine ihU o t1 I1 (s + pe.length) (kk W L t :: ops) [] Q ho (by omega) hS1 rfl (stB_c (by rcases ko with ko | ko <;> rw [ko] <;> rfl) ops) trivial ?_ ?_ ?_
        · show (kk W L t :: ops).length ≤ 3 * o + 1
          rw [List.length_cons]; omega
        · show s + pe.length + (kk W L t :: ops).length ≤ B + t1
          rw [List.length_cons]; omega
        · cases e4 : pE W L n 1 o t1 with
          | inl f =>
            rw [e4] at hP; dsimp only at hP
            intro I2 t2 f2 g2 n2
            exact hP I2 t2 (fMe_t f1 f2) g2 n2
          | inr r =>
            obtain ⟨t2, c1⟩ := r
            rw [e4] at hP; dsimp only at hP
            have okE := pE_ok W L n 1 o t1 t2 c1 l1 ho (by omega) e4
            intro I2 pe1 c0 hx hc hxk f2 hS2 p2 x2
            change PM pe1 at hx
            have hcc : c1 = c0 ++ oq pe1 := (List.nil_append c1).symm.trans hc
            have hcl : c1.length = c0.length + pe1.length := by rw [hcc, List.length_append, oq_len]
            refine ihL o t2 I2 (s + pe.length + c0.length) ops (pe1 ++ [kk W L t]) Q ho (by omega) (by rw [List.append_assoc]; exact hS2) ?_ hb hxk hlb ?_ ?_
            · show PB (pe1 ++ [kk W L t])
              refine ⟨pe1, [kk W L t], hx, ?_, rfl⟩
              rcases ko with ko | ko <;> rw [ko]
              · exact Or.inr (Or.inl rfl)
              · exact Or.inr (Or.inr rfl)
            · rw [List.length_append, List.length_append]
              show s + pe.length + c0.length + (pe1.length + 1 + ops.length) ≤ B + t2
              omega
            · cases e5 : pE W L n 4 o t2 with
              | inl f =>
                rw [e5] at hP; dsimp only at hP
                intro I3 t3 f3 g3 n3
                exact hP I3 t3 (fMe_t (fMe_t f1 f2) f3) g3 n3
              | inr r =>
                obtain ⟨t3, c2⟩ := r
                rw [e5] at hP; dsimp only at hP
                intro I3 pe2 c3 hx3 hc3 hxk3 f3 hS3 p3 x3
                change oq (pe1 ++ [kk W L t]) ++ c2 = c3 ++ oq pe2 at hc3
                refine hP I3 pe2 (oq pe ++ c0 ++ c3) hx3 ?_ hxk3 (fMe_t (fMe_t f1 f2) f3) ?_ (fun q hq => ?_) ?_
                · show oq pe ++ (c1 ++ (oc (kk W L t), (0 : Int32)) :: c2) = oq pe ++ c0 ++ c3 ++ oq pe2
                  rw [hcc]
                  simp only [List.append_assoc]
                  rw [← hc3, oq_app]
                  simp only [List.append_assoc]
                  rfl
                · rw [List.length_append, List.length_append, oq_len, ← Nat.add_assoc, ← Nat.add_assoc]
                  exact hS3
                · obtain ⟨a1, b1⟩ := p1 q hq
                  obtain ⟨a2, b2⟩ := p2 q (by omega)
                  obtain ⟨a3, b3⟩ := p3 q (by omega)
                  exact ⟨a3.trans (a2.trans a1), b3.trans (b2.trans b1)⟩
                · rw [List.map_append, List.map_append]
                  refine xa_a _ _ _ (xa_a _ _ _ (xa_k _ _ x1 (fun j hj => ?_)) ?_) ?_
                  · rw [List.length_map, oq_len] at hj
                    obtain ⟨a2, b2⟩ := p2 j hj
                    obtain ⟨a3, b3⟩ := p3 j (by omega)
                    exact ⟨a3.trans a2, b3.trans b2⟩
                  · rw [List.length_map, oq_len]
                    refine xa_k _ _ x2 (fun j hj => ?_)
                    rw [List.length_map] at hj
                    exact p3 j hj
                  · rw [List.length_append, List.length_map, List.length_map, oq_len, ← Nat.add_assoc]
                    exact x3
    have c7 := fun Q' => c148 (d := d + 3) (xL := xL) (rc := rc) (rx := rx) (rr := rr) (Q := Q') (κ := 7) h (by decide) (show (7 : Int32) = nI 7 from rfl)
    have c8 := fun Q' => c148 (d := d + 3) (xL := xL) (rc := rc) (rx := rx) (rr := rr) (Q := Q') (κ := 8) h (by decide) (show (8 : Int32) = nI 8 from rfl)
    have c9 := fun Q' => c148 (d := d + 3) (xL := xL) (rc := rc) (rx := rx) (rr := rr) (Q := Q') (κ := 9) h (by decide) (show (9 : Int32) = nI 9 from rfl)
    have c10 := fun Q' => c148 (d := d + 3) (xL := xL) (rc := rc) (rx := rx) (rr := rr) (Q := Q') (κ := 10) h (by decide) (show (10 : Int32) = nI 10 from rfl)
    have c15 := fun Q' => c148 (d := d + 3) (xL := xL) (rc := rc) (rx := rx) (rr := rr) (Q := Q') (κ := 15) h (by decide) (show (15 : Int32) = nI 15 from rfl)
    simp only [sB_f] at key
    rcases ko with ka | ka <;>
    · simp (config := { decide := true }) only [ka, decide_true, decide_false, sB_t, sB_f] at c7 c8 c9 c10 c15
      simp only [w162_96, w162_97, w162_99, c7, ↓reduceIte, Option.toList_some, Option.toList_none, List.cons_append, List.nil_append, Int32.reduceAdd, Int32.reduceLT, Int32.reduceLE, Int32.reduceToNatClampNeg, w162_102, w162_145, w162_146, w162_148, c8, w162_151, w162_154, w162_155, w162_157, c9, w162_160, w162_163, w162_164, w162_166, c10, w162_169, w162_172, w162_173, w162_175, c15, w162_178, o01, w162_181, w162_182, w162_186, w162_187, w162_188, w162_210, w162_211, w162_212, w162_214, w162_217, w162_220, w162_221, w162_223, w162_226, w162_229, w162_230, w162_233]
      exact key
  · rw [if_neg ko] at hP
    exact hP I pe [] hsh (List.append_nil _) (show (kk W L t ≠ 8 ∧ kk W L t ≠ 9) ∧ kk W L t ≠ 10 ∧ kk W L t ≠ 15 from ⟨by omega, hnk⟩) fMe_0 ⟨h, h12, hmo, h5, h41⟩ (fun _ _ => ⟨rfl, rfl⟩) trivial
theorem mE3 (hB : B ≤ 430) {n : Nat} (ihU : mOK xL rc rx rr d B J W L n 1) (ihL : mOK xL rc rx rr d B J W L n 4) : mOK xL rc rx rr d B J W L (n + 1) 3 := by
  intro o t I s ops pe Q ho hn hS hsh hb hnk hlb hsz hP
  have hpe : pe = [] := hsh
  subst hpe
  have hlb' : ops.length ≤ 3 * o + 0 := hlb
  have hg1 : gWt 3 = 3 := rfl
  have hg2 : gWt 4 = 3 := rfl
  have hg0 : gWt 1 = 2 := rfl
  have h := hS.1
  have ht := h.2.1
  change stB false ops at hb
  rw [pE, if_neg (by decide : ¬ (3 : Nat) = 0), if_neg (by decide : ¬ (3 : Nat) = 1), if_neg (by decide : ¬ (3 : Nat) = 2), if_pos rfl] at hP
  rw [List.nil_append] at hsz
  refine ihU o t I s ops [] Q ho (by omega) hS rfl (stB_t hb) trivial (show ops.length ≤ 3 * o + 1 by omega) (show s + ops.length ≤ B + t from hsz) ?_
  cases e4 : pE W L n 1 o t with
  | inl f => rw [e4] at hP; dsimp only at hP; exact hP
  | inr r =>
    obtain ⟨t1, c1⟩ := r
    rw [e4] at hP; dsimp only at hP
    have okE := pE_ok W L n 1 o t t1 c1 (h.2.2.1 rfl) ho (by omega) e4
    have tlt := okE.2.2.1 (by omega)
    intro I2 pe1 c0 hx hc hxk f2 hS2 p2 x2
    change PM pe1 at hx
    have hcc : c1 = c0 ++ oq pe1 := (List.nil_append c1).symm.trans hc
    have hcl : c1.length = c0.length + pe1.length := by rw [hcc, List.length_append, oq_len]
    refine ihL o t1 I2 (s + c0.length) ops pe1 Q ho (by omega) hS2 (PM_B hx) hb hxk hlb ?_ ?_
    · rw [List.length_append]; omega
    · cases e5 : pE W L n 4 o t1 with
      | inl f =>
        rw [e5] at hP; dsimp only at hP
        intro I3 t3 f3 g3 n3
        exact hP I3 t3 (fMe_t f2 f3) g3 n3
      | inr r =>
        obtain ⟨t3, c2⟩ := r
        rw [e5] at hP; dsimp only at hP
        intro I3 pe2 c3 hx3 hc3 hxk3 f3 hS3 p3 x3
        change oq pe1 ++ c2 = c3 ++ oq pe2 at hc3
        refine hP I3 pe2 (c0 ++ c3) hx3 ?_ hxk3 (fMe_t f2 f3) ?_ (fun q hq => ?_) ?_
        · show [] ++ (c1 ++ c2) = c0 ++ c3 ++ oq pe2
          rw [hcc, List.nil_append]
          simp only [List.append_assoc]
          rw [← hc3]
        · rw [List.length_append, ← Nat.add_assoc]
          exact hS3
        · obtain ⟨a2, b2⟩ := p2 q hq
          obtain ⟨a3, b3⟩ := p3 q (by omega)
          exact ⟨a3.trans a2, b3.trans b2⟩
        · rw [List.map_append]
          refine xa_a _ _ _ (xa_k _ _ x2 (fun j hj => ?_)) ?_
          · rw [List.length_map] at hj
            exact p3 j hj
          · rw [List.length_map]; exact x3

theorem mE_all (hB : B ≤ 430) : ∀ n m, m ≤ 4 → mOK xL rc rx rr d B J W L n m := by
  intro n
  induction n with
  | zero =>
    intro m hm o t I s ops pe Q _ hn hS
    have := hS.1.2.1
    omega
  | succ n ih =>
    intro m hm
    match m, hm with
    | 0, _ => exact mE0 hB (ih 3 (by omega))
    | 1, _ => exact mE1 hB (ih 0 (by omega)) (ih 2 (by omega))
    | 2, _ => exact mE2 hB (ih 0 (by omega)) (ih 2 (by omega))
    | 3, _ => exact mE3 hB (ih 1 (by omega)) (ih 4 (by omega))
    | 4, _ => exact mE4 hB (ih 1 (by omega)) (ih 4 (by omega))
theorem c162 (hB : B ≤ 430) {I : Nat → Nat → Int32} {Q : Option Value → mHp → Prop} {t s : Nat} (h : mRD I J W L t 0 0) (h12 : I 180 12 = 0) (h41 : I 180 41 = nI s) (hs : s ≤ B + t) (hF : ∀ f, pE W L 2000 3 0 t = .inl f → mFai (B + 405) xL rc rx rr I J W L Q f) (hQ : ∀ t' c, pE W L 2000 3 0 t = .inr (t', c) → ∀ I', fMe (B + 405) I I' → mRD I' J W L t' 0 0 → I' 180 12 = 0 → I' 180 41 = nI (s + c.length) → (∀ q, q < s → I' 207 q = I 207 q ∧ I' 208 q = I 208 q) → mXa (I' 207) (I' 208) (c.map mMp) s → Q none (mHh xL I' J (mRf rc rx rr))) : WP (d + 4) 162 0 [.ref 180, mDum, mDum] [] (mHh xL I J (mRf rc rx rr)) Q := by
  have ht := h.2.1
  have hg3 : gWt 3 = 3 := rfl
  have f1 : fMe (B + 405) I (mU I 180 45 0) := ⟨fun a h0 _ _ _ => by rw [mU_f h0], fun j _ _ _ _ _ h4 => by rw [mU_k h4], fCd_e (mU_k (by decide)) (mU_f (by decide)) (mU_f (by decide))⟩
  have m1 : mRD (mU I 180 45 0) J W L t 0 0 := mRD_e h (fun a ha => by rw [mU_f (by omega)]) (fun j hj => by rw [mU_k (by omega)])
  have y12 : mU I 180 45 0 180 12 = 0 := by rw [mU_k (by decide)]; exact h12
  have y13 : mU I 180 45 0 180 13 = 0 := m1.2.2.2.2.1
  have y41 : mU I 180 45 0 180 41 = nI s := by rw [mU_k (by decide)]; exact h41
  simp only [w162_0, w162_1, w162_2, w162_5, w162_6, y12, w162_9, w162_10, w162_11, w162_12, w162_13, o01, ↓reduceIte, w162_16, w162_17, y13, w162_20]
  refine mE_all (d := d) hB 2000 3 (by decide) 0 t (mU I 180 45 0) s [] [] Q (by decide) (by omega) ⟨m1, y12, trivial, mU_s _ _ _ _, y41⟩ rfl ⟨rfl, rfl⟩ trivial (Nat.zero_le _) (show s + 0 ≤ B + t by omega) ?_
  cases e : pE W L 2000 3 0 t with
  | inl f =>
    intro I2 t2 f2 g2 n2
    exact hF f e I2 t2 (fMe_t f1 f2) g2 n2
  | inr r =>
    obtain ⟨t', c⟩ := r
    have okE := pE_ok W L 2000 3 0 t t' c (h.2.2.1 rfl) (by decide) (by decide) e
    intro I2 pe' c0 hx hc hxk f2 hS2 p2 x2
    obtain ⟨g2, g12, gmo, g5, g41⟩ := hS2
    change mRD I2 J W L t' 0 0 at g2
    have hcc : c = c0 ++ oq pe' := (List.nil_append c).symm.trans hc
    have hcl : c.length = c0.length + pe'.length := by rw [hcc, List.length_append, oq_len]
    have tb := g2.2.1
    change PB pe' at hx
    obtain ⟨ps1, ps2⟩ := PB_st hx
    rw [List.append_nil] at gmo g5
    refine x96e hB g2 hxk (Or.inr rfl) (o := 0) g12 (by decide) gmo g5 (by omega) g41 (by omega) (fun _ => ?_) (fun z => absurd rfl z)
    obtain ⟨⟨p1, p3⟩, ⟨p5, p41⟩, p7, px⟩ := coI_p false pe' (s + c0.length) I2 g5 g41
    obtain ⟨cr, cq⟩ := co_app (b := false) (r := []) ⟨rfl, rfl⟩ pe' ps1
    rw [List.append_nil] at cr cq
    rw [cq] at p41 px
    rw [oq_len] at p41
    refine hQ t' c e _ (fMe_t (fMe_t f1 f2) (coI_e (b := false) g5 g41 (by omega) hB)) (mRD_co (b := false) g2 g5 g41) ?_ ?_ (fun q hq => ?_) ?_
    · rw [p3 12 (by decide) (by decide)]; exact g12
    · rw [p41, hcl]; congr 1; omega
    · obtain ⟨u1, u2⟩ := p7 q (by omega)
      obtain ⟨v1, v2⟩ := p2 q hq
      refine ⟨u1.trans (v1.trans ?_), u2.trans (v2.trans ?_)⟩
      · rw [mU_f (by decide)]
      · rw [mU_f (by decide)]
    · rw [hcc, List.map_append]
      refine xa_a _ _ _ (xa_k _ _ x2 (fun j hj => ?_)) ?_
      · rw [List.length_map] at hj
        exact p7 j hj
      · rw [List.length_map]; exact px
end ME1
