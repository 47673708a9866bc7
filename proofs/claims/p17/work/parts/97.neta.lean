/-! the class on paper: DOT, products, NORM -/
section NEA_a
variable {X : List (Option Nat)} {T : List xS} {M : pMd} {I J : Nat → Nat → Int32} {L : Nat → Nat → Int64} {F G : Nat → Nat → UInt32} {d : Nat} {Q : xP}
theorem clMd_a.fl (h : clMd_a M I L F) (a : ∀ b k, 38 ≤ b → G b k = F b k) : clMd_a M I L G := ⟨h.1, h.2.1, h.2.2.1, h.2.2.2.1, h.2.2.2.2.1, h.2.2.2.2.2.1, h.2.2.2.2.2.2.1, fun i hi => ⟨(h.2.2.2.2.2.2.2.1 i hi).1, (h.2.2.2.2.2.2.2.1 i hi).2.1, (h.2.2.2.2.2.2.2.1 i hi).2.2.1, fun s hs => (a 50 _ (by decide)).trans ((h.2.2.2.2.2.2.2.1 i hi).2.2.2 s hs)⟩, (a 38 3 (by decide)).trans h.2.2.2.2.2.2.2.2.1, (a 38 4 (by decide)).trans h.2.2.2.2.2.2.2.2.2⟩
theorem cl_att_a (hM : clMd_a M I L F) (hm : mGd M) {t r c : Nat} (ht : t < mFa M 10) (hr : r < mRo M t) (hc : c < mCo M t) {tt rr cc : Int32} (ett : tt = nI t) (err : rr = nI r) (ecc : cc = nI c) (hQ : Q (some (.float (mWt M t (r * mCo M t + c)))) (shG X (md1 T), I, L, F)) : XM xE0 d 157 [.ref 45, .int tt, .int rr, .int cc] (shG X (md1 T), I, L, F) Q := by
  have h10 := hm.1.2.2.2.2.2.2.2.2.2
  obtain ⟨t1, t2, t3, t4⟩ := hm.2.1 t ht
  obtain ⟨w1, w2, w3, w4⟩ := hM.2.2.2.2.2.2.2.1 t ht
  have tt' : tt.toNatClampNeg = t := by rw [ett, nI_clamp (by omega)]
  have tin : vp_in tt 24 := rf_in ett (by omega) (by decide)
  have lt : r * mCo M t + c < mCo M t * mRo M t := by
    refine Nat.lt_of_lt_of_le (Nat.add_lt_add_left hc _) ?_
    rw [← Nat.succ_mul, Nat.mul_comm]
    exact Nat.mul_le_mul_left _ hr
  have ei : I 46 tt.toNatClampNeg + rr * I 47 tt.toNatClampNeg + cc = nI (mBg M t + (r * mCo M t + c)) := by rw [tt', w1, w3, err, ecc, nI_mul, nI_add, nI_add, Nat.add_assoc]
  have win : vp_in (I 46 tt.toNatClampNeg + rr * I 47 tt.toNatClampNeg + cc) 1866 := rf_in ei (by omega) (by decide)
  have fin : Q (some (.float (F 50 (I 46 tt.toNatClampNeg + rr * I 47 tt.toNatClampNeg + cc).toNatClampNeg))) (shG X (md1 T), I, L, F) := by rw [ei, nI_clamp (by omega), w4 _ lt]; exact hQ
  refine XC.block [] 60 ?_
  exact And.intro tin (And.intro tin (And.intro win ⟨trivial, fin⟩))
theorem cl_dot_20_a (hM : clMd_a M I L F) (hm : mGd M) {q r b k : Nat} (hq : q < 3 + 9 * mFa M 3) (hr : r < mRq M q) (hB : ∀ j, j < mCq M q → fB b (F 20 j)) (hb : b ≤ 276) (hk : 156 + b ≤ k + 149) (k1 : 23 ≤ k) (k2 : k ≤ 272) {qq rr : Int32} (hqq : qq = nI q) (hrr : rr = nI r) (hQ : Q (some (.float (pMv M q (F 20) r))) (shG X (md1 T), I, L, F)) : XM xE0 d 158 [.ref 45, .int qq, .int rr, .ref 20] (shG X (md1 T), I, L, F) Q := by
  obtain ⟨q1, q2, q3, q4, q5, q6⟩ := hm.q hq
  obtain ⟨w1, w2, w3, w4⟩ := hM.2.2.2.2.2.2.2.1 _ q2
  have h3 := hm.1.2.2.2.1
  have c16 : mCo M (mNd M q) ≤ 16 := by rw [q3]; exact mCq_le hm
  have r16 : mRo M (mNd M q) ≤ 16 := (hm.2.1 _ q2).2.1.2
  rw [← q4] at hr
  rw [← q3] at hB
  have qin : vp_in qq 21 := rf_in hqq (by omega) (by decide)
  have et : I 49 qq.toNatClampNeg = nI (mNd M q) := by rw [hqq, nI_clamp (by omega)]; exact hM.2.2.2.2.2.2.1 q hq
  have hA : ∀ j, j < mCo M (mNd M q) → fB 156 (mWt M (mNd M q) (r * mCo M (mNd M q) + j)) := fun j hj => (q6 r j hr hj).2
  have l0 := (q6 r 0 hr (by have := (hm.2.1 _ q2).1.1; omega)).1
  have loop : ∀ t, t = nI (mNd M q) → ∀ s, s = nI (mBg M (mNd M q) + r * mCo M (mNd M q)) → ∀ (u i : Nat), i + u = mCo M (mNd M q) → ∀ a, a = pDt (fun j => mWt M (mNd M q) (r * mCo M (mNd M q) + j)) (F 20) i → ∀ x, x = nI i → XC xE0 d xM_158 (33, [some (.ref 45), some (.int qq), some (.int rr), some (.ref 20), some (.int t), some (.int s), some (.float a), some (.int x)], [], (shG X (md1 T), I, L, F)) Q := by
    intro t ht s hs u
    have tin : vp_in t 24 := rf_in ht q1 (by decide)
    have e24 : I 47 t.toNatClampNeg = nI (mCo M (mNd M q)) := by rw [ht, nI_clamp (by omega)]; exact w1
    induction u with
    | zero =>
      intro i hi a ha x hx
      have : i = mCo M (mNd M q) := by omega
      subst this
      subst ha
      refine XC.block [33] 60 ?_
      refine And.intro tin ?_
      exact And.intro (fun _ => ⟨trivial, hQ⟩) (fun z => absurd (show I 47 t.toNatClampNeg ≤ x by rw [e24, hx]; exact nI_le (by omega) (by omega)) z)
    | succ u ih =>
      intro i hi a ha x hx
      have hlt : ¬ I 47 t.toNatClampNeg ≤ x := by rw [e24, hx]; exact nI_ge (by omega) (by omega)
      have hx1 : x + 1 = nI (i + 1) := by rw [hx, nI_1]
      have i1 : i + 1 + u = mCo M (mNd M q) := by omega
      have li := (q6 r i hr (by omega)).1
      have ei : s + x = nI (mBg M (mNd M q) + (r * mCo M (mNd M q) + i)) := by rw [hs, hx, nI_add, Nat.add_assoc]
      have win : vp_in (s + x) 1866 := rf_in ei (by omega) (by decide)
      have ew : F 50 (s + x).toNatClampNeg = mWt M (mNd M q) (r * mCo M (mNd M q) + i) := by rw [ei, nI_clamp (by omega)]; exact w4 _ li
      have ey : F 20 x.toNatClampNeg = F 20 i := by rw [hx, nI_clamp (by omega)]
      have yin : vp_in x 16 := rf_in hx (by omega) (by decide)
      have g1 : vf_n32 (FP.fmul (F 50 (s + x).toNatClampNeg) (F 20 x.toNatClampNeg)) := by
        rw [ew, ey]; exact ((pDt_m hA hB (by decide) hb hk k1 k2) i (by omega)).n32 (by omega)
      have es : FP.fadd a (FP.fmul (F 50 (s + x).toNatClampNeg) (F 20 x.toNatClampNeg)) = pDt (fun j => mWt M (mNd M q) (r * mCo M (mNd M q) + j)) (F 20) (i + 1) := by rw [ew, ey, ha]; rfl
      have g2 : vf_n32 (FP.fadd a (FP.fmul (F 50 (s + x).toNatClampNeg) (F 20 x.toNatClampNeg))) := by
        rw [es]; exact (pDt_F hA hB (by decide) hb hk k1 k2 c16 (i + 1) (by omega)).n32
      refine XC.block [33] 60 ?_
      refine And.intro tin ?_
      refine And.intro (fun z => absurd z hlt) (fun _ => ?_)
      refine And.intro win ?_
      refine And.intro yin ?_
      refine And.intro g1 ?_
      refine And.intro g2 ?_
      exact ih (i + 1) i1 _ es _ hx1
  have tin : vp_in (I 49 qq.toNatClampNeg) 24 := rf_in et q1 (by decide)
  have e24 : I 47 (I 49 qq.toNatClampNeg).toNatClampNeg = nI (mCo M (mNd M q)) := by rw [et, nI_clamp (by omega)]; exact w1
  have e26 : I 46 (I 49 qq.toNatClampNeg).toNatClampNeg = nI (mBg M (mNd M q)) := by rw [et, nI_clamp (by omega)]; exact w3
  have es : I 46 (I 49 qq.toNatClampNeg).toNatClampNeg + rr * I 47 (I 49 qq.toNatClampNeg).toNatClampNeg = nI (mBg M (mNd M q) + r * mCo M (mNd M q)) := by rw [e24, e26, hrr, nI_mul, nI_add]
  refine XC.block [33] 60 ?_
  refine And.intro qin ?_
  refine And.intro tin ?_
  refine And.intro tin ?_
  exact loop _ et _ es (mCo M (mNd M q)) 0 (Nat.zero_add _) _ rfl _ rfl
theorem cl_dot_22_a (hM : clMd_a M I L F) (hm : mGd M) {q r b k : Nat} (hq : q < 3 + 9 * mFa M 3) (hr : r < mRq M q) (hB : ∀ j, j < mCq M q → fB b (F 22 j)) (hb : b ≤ 276) (hk : 156 + b ≤ k + 149) (k1 : 23 ≤ k) (k2 : k ≤ 272) {qq rr : Int32} (hqq : qq = nI q) (hrr : rr = nI r) (hQ : Q (some (.float (pMv M q (F 22) r))) (shG X (md1 T), I, L, F)) : XM xE0 d 158 [.ref 45, .int qq, .int rr, .ref 22] (shG X (md1 T), I, L, F) Q := by
  obtain ⟨q1, q2, q3, q4, q5, q6⟩ := hm.q hq
  obtain ⟨w1, w2, w3, w4⟩ := hM.2.2.2.2.2.2.2.1 _ q2
  have h3 := hm.1.2.2.2.1
  have c16 : mCo M (mNd M q) ≤ 16 := by rw [q3]; exact mCq_le hm
  have r16 : mRo M (mNd M q) ≤ 16 := (hm.2.1 _ q2).2.1.2
  rw [← q4] at hr
  rw [← q3] at hB
  have qin : vp_in qq 21 := rf_in hqq (by omega) (by decide)
  have et : I 49 qq.toNatClampNeg = nI (mNd M q) := by rw [hqq, nI_clamp (by omega)]; exact hM.2.2.2.2.2.2.1 q hq
  have hA : ∀ j, j < mCo M (mNd M q) → fB 156 (mWt M (mNd M q) (r * mCo M (mNd M q) + j)) := fun j hj => (q6 r j hr hj).2
  have l0 := (q6 r 0 hr (by have := (hm.2.1 _ q2).1.1; omega)).1
  have loop : ∀ t, t = nI (mNd M q) → ∀ s, s = nI (mBg M (mNd M q) + r * mCo M (mNd M q)) → ∀ (u i : Nat), i + u = mCo M (mNd M q) → ∀ a, a = pDt (fun j => mWt M (mNd M q) (r * mCo M (mNd M q) + j)) (F 22) i → ∀ x, x = nI i → XC xE0 d xM_158 (33, [some (.ref 45), some (.int qq), some (.int rr), some (.ref 22), some (.int t), some (.int s), some (.float a), some (.int x)], [], (shG X (md1 T), I, L, F)) Q := by
    intro t ht s hs u
    have tin : vp_in t 24 := rf_in ht q1 (by decide)
    have e24 : I 47 t.toNatClampNeg = nI (mCo M (mNd M q)) := by rw [ht, nI_clamp (by omega)]; exact w1
    induction u with
    | zero =>
      intro i hi a ha x hx
      have : i = mCo M (mNd M q) := by omega
      subst this
      subst ha
      refine XC.block [33] 60 ?_
      refine And.intro tin ?_
      exact And.intro (fun _ => ⟨trivial, hQ⟩) (fun z => absurd (show I 47 t.toNatClampNeg ≤ x by rw [e24, hx]; exact nI_le (by omega) (by omega)) z)
    | succ u ih =>
      intro i hi a ha x hx
      have hlt : ¬ I 47 t.toNatClampNeg ≤ x := by rw [e24, hx]; exact nI_ge (by omega) (by omega)
      have hx1 : x + 1 = nI (i + 1) := by rw [hx, nI_1]
      have i1 : i + 1 + u = mCo M (mNd M q) := by omega
      have li := (q6 r i hr (by omega)).1
      have ei : s + x = nI (mBg M (mNd M q) + (r * mCo M (mNd M q) + i)) := by rw [hs, hx, nI_add, Nat.add_assoc]
      have win : vp_in (s + x) 1866 := rf_in ei (by omega) (by decide)
      have ew : F 50 (s + x).toNatClampNeg = mWt M (mNd M q) (r * mCo M (mNd M q) + i) := by rw [ei, nI_clamp (by omega)]; exact w4 _ li
      have ey : F 22 x.toNatClampNeg = F 22 i := by rw [hx, nI_clamp (by omega)]
      have yin : vp_in x 16 := rf_in hx (by omega) (by decide)
      have g1 : vf_n32 (FP.fmul (F 50 (s + x).toNatClampNeg) (F 22 x.toNatClampNeg)) := by
        rw [ew, ey]; exact ((pDt_m hA hB (by decide) hb hk k1 k2) i (by omega)).n32 (by omega)
      have es : FP.fadd a (FP.fmul (F 50 (s + x).toNatClampNeg) (F 22 x.toNatClampNeg)) = pDt (fun j => mWt M (mNd M q) (r * mCo M (mNd M q) + j)) (F 22) (i + 1) := by rw [ew, ey, ha]; rfl
      have g2 : vf_n32 (FP.fadd a (FP.fmul (F 50 (s + x).toNatClampNeg) (F 22 x.toNatClampNeg))) := by
        rw [es]; exact (pDt_F hA hB (by decide) hb hk k1 k2 c16 (i + 1) (by omega)).n32
      refine XC.block [33] 60 ?_
      refine And.intro tin ?_
      refine And.intro (fun z => absurd z hlt) (fun _ => ?_)
      refine And.intro win ?_
      refine And.intro yin ?_
      refine And.intro g1 ?_
      refine And.intro g2 ?_
      exact ih (i + 1) i1 _ es _ hx1
  have tin : vp_in (I 49 qq.toNatClampNeg) 24 := rf_in et q1 (by decide)
  have e24 : I 47 (I 49 qq.toNatClampNeg).toNatClampNeg = nI (mCo M (mNd M q)) := by rw [et, nI_clamp (by omega)]; exact w1
  have e26 : I 46 (I 49 qq.toNatClampNeg).toNatClampNeg = nI (mBg M (mNd M q)) := by rw [et, nI_clamp (by omega)]; exact w3
  have es : I 46 (I 49 qq.toNatClampNeg).toNatClampNeg + rr * I 47 (I 49 qq.toNatClampNeg).toNatClampNeg = nI (mBg M (mNd M q) + r * mCo M (mNd M q)) := by rw [e24, e26, hrr, nI_mul, nI_add]
  refine XC.block [33] 60 ?_
  refine And.intro qin ?_
  refine And.intro tin ?_
  refine And.intro tin ?_
  exact loop _ et _ es (mCo M (mNd M q)) 0 (Nat.zero_add _) _ rfl _ rfl
theorem cl_dot_23_a (hM : clMd_a M I L F) (hm : mGd M) {q r b k : Nat} (hq : q < 3 + 9 * mFa M 3) (hr : r < mRq M q) (hB : ∀ j, j < mCq M q → fB b (F 23 j)) (hb : b ≤ 276) (hk : 156 + b ≤ k + 149) (k1 : 23 ≤ k) (k2 : k ≤ 272) {qq rr : Int32} (hqq : qq = nI q) (hrr : rr = nI r) (hQ : Q (some (.float (pMv M q (F 23) r))) (shG X (md1 T), I, L, F)) : XM xE0 d 158 [.ref 45, .int qq, .int rr, .ref 23] (shG X (md1 T), I, L, F) Q := by
  obtain ⟨q1, q2, q3, q4, q5, q6⟩ := hm.q hq
  obtain ⟨w1, w2, w3, w4⟩ := hM.2.2.2.2.2.2.2.1 _ q2
  have h3 := hm.1.2.2.2.1
  have c16 : mCo M (mNd M q) ≤ 16 := by rw [q3]; exact mCq_le hm
  have r16 : mRo M (mNd M q) ≤ 16 := (hm.2.1 _ q2).2.1.2
  rw [← q4] at hr
  rw [← q3] at hB
  have qin : vp_in qq 21 := rf_in hqq (by omega) (by decide)
  have et : I 49 qq.toNatClampNeg = nI (mNd M q) := by rw [hqq, nI_clamp (by omega)]; exact hM.2.2.2.2.2.2.1 q hq
  have hA : ∀ j, j < mCo M (mNd M q) → fB 156 (mWt M (mNd M q) (r * mCo M (mNd M q) + j)) := fun j hj => (q6 r j hr hj).2
  have l0 := (q6 r 0 hr (by have := (hm.2.1 _ q2).1.1; omega)).1
  have loop : ∀ t, t = nI (mNd M q) → ∀ s, s = nI (mBg M (mNd M q) + r * mCo M (mNd M q)) → ∀ (u i : Nat), i + u = mCo M (mNd M q) → ∀ a, a = pDt (fun j => mWt M (mNd M q) (r * mCo M (mNd M q) + j)) (F 23) i → ∀ x, x = nI i → XC xE0 d xM_158 (33, [some (.ref 45), some (.int qq), some (.int rr), some (.ref 23), some (.int t), some (.int s), some (.float a), some (.int x)], [], (shG X (md1 T), I, L, F)) Q := by
    intro t ht s hs u
    have tin : vp_in t 24 := rf_in ht q1 (by decide)
    have e24 : I 47 t.toNatClampNeg = nI (mCo M (mNd M q)) := by rw [ht, nI_clamp (by omega)]; exact w1
    induction u with
    | zero =>
      intro i hi a ha x hx
      have : i = mCo M (mNd M q) := by omega
      subst this
      subst ha
      refine XC.block [33] 60 ?_
      refine And.intro tin ?_
      exact And.intro (fun _ => ⟨trivial, hQ⟩) (fun z => absurd (show I 47 t.toNatClampNeg ≤ x by rw [e24, hx]; exact nI_le (by omega) (by omega)) z)
    | succ u ih =>
      intro i hi a ha x hx
      have hlt : ¬ I 47 t.toNatClampNeg ≤ x := by rw [e24, hx]; exact nI_ge (by omega) (by omega)
      have hx1 : x + 1 = nI (i + 1) := by rw [hx, nI_1]
      have i1 : i + 1 + u = mCo M (mNd M q) := by omega
      have li := (q6 r i hr (by omega)).1
      have ei : s + x = nI (mBg M (mNd M q) + (r * mCo M (mNd M q) + i)) := by rw [hs, hx, nI_add, Nat.add_assoc]
      have win : vp_in (s + x) 1866 := rf_in ei (by omega) (by decide)
      have ew : F 50 (s + x).toNatClampNeg = mWt M (mNd M q) (r * mCo M (mNd M q) + i) := by rw [ei, nI_clamp (by omega)]; exact w4 _ li
      have ey : F 23 x.toNatClampNeg = F 23 i := by rw [hx, nI_clamp (by omega)]
      have yin : vp_in x 16 := rf_in hx (by omega) (by decide)
      have g1 : vf_n32 (FP.fmul (F 50 (s + x).toNatClampNeg) (F 23 x.toNatClampNeg)) := by
        rw [ew, ey]; exact ((pDt_m hA hB (by decide) hb hk k1 k2) i (by omega)).n32 (by omega)
      have es : FP.fadd a (FP.fmul (F 50 (s + x).toNatClampNeg) (F 23 x.toNatClampNeg)) = pDt (fun j => mWt M (mNd M q) (r * mCo M (mNd M q) + j)) (F 23) (i + 1) := by rw [ew, ey, ha]; rfl
      have g2 : vf_n32 (FP.fadd a (FP.fmul (F 50 (s + x).toNatClampNeg) (F 23 x.toNatClampNeg))) := by
        rw [es]; exact (pDt_F hA hB (by decide) hb hk k1 k2 c16 (i + 1) (by omega)).n32
      refine XC.block [33] 60 ?_
      refine And.intro tin ?_
      refine And.intro (fun z => absurd z hlt) (fun _ => ?_)
      refine And.intro win ?_
      refine And.intro yin ?_
      refine And.intro g1 ?_
      refine And.intro g2 ?_
      exact ih (i + 1) i1 _ es _ hx1
  have tin : vp_in (I 49 qq.toNatClampNeg) 24 := rf_in et q1 (by decide)
  have e24 : I 47 (I 49 qq.toNatClampNeg).toNatClampNeg = nI (mCo M (mNd M q)) := by rw [et, nI_clamp (by omega)]; exact w1
  have e26 : I 46 (I 49 qq.toNatClampNeg).toNatClampNeg = nI (mBg M (mNd M q)) := by rw [et, nI_clamp (by omega)]; exact w3
  have es : I 46 (I 49 qq.toNatClampNeg).toNatClampNeg + rr * I 47 (I 49 qq.toNatClampNeg).toNatClampNeg = nI (mBg M (mNd M q) + r * mCo M (mNd M q)) := by rw [e24, e26, hrr, nI_mul, nI_add]
  refine XC.block [33] 60 ?_
  refine And.intro qin ?_
  refine And.intro tin ?_
  refine And.intro tin ?_
  exact loop _ et _ es (mCo M (mNd M q)) 0 (Nat.zero_add _) _ rfl _ rfl
theorem cl_mul_20_21_a (hM : clMd_a M I L F) (hm : mGd M) {q b k p : Nat} (hq : q < 3 + 9 * mFa M 3) (hB : ∀ j, j < mCq M q → fB b (F 20 j)) (hb : b ≤ 276) (hk : 156 + b ≤ k + 149) (k1 : 23 ≤ k) (k2 : k ≤ 272) (hp : p + mRq M q ≤ 16) {qq pp : Int32} (hqq : qq = nI q) (hpp : pp = nI p)
    (hQ : ∀ G, fO 21 F G → G 21 = pWr p (mRq M q) (F 21) (pMv M q (F 20)) → Q none (shG X (md1 T), I, L, G)) : XM xE0 (d + 1) 159 [.ref 45, .int qq, .ref 20, .ref 21, .int pp] (shG X (md1 T), I, L, F) Q := by
  obtain ⟨q1, q2, q3, q4, q5, q6⟩ := hm.q hq
  obtain ⟨w1, w2, w3, w4⟩ := hM.2.2.2.2.2.2.2.1 _ q2
  have h3 := hm.1.2.2.2.1
  have rr := (hm.2.1 _ q2).2.1
  rw [q4] at rr w2
  have qin : vp_in qq 21 := rf_in hqq (by omega) (by decide)
  have et : I 49 qq.toNatClampNeg = nI (mNd M q) := by rw [hqq, nI_clamp (by omega)]; exact hM.2.2.2.2.2.2.1 q hq
  have tin : vp_in (I 49 qq.toNatClampNeg) 24 := rf_in et q1 (by decide)
  have er : I 48 (I 49 qq.toNatClampNeg).toNatClampNeg - 1 = nI (mRq M q - 1) := by rw [et, nI_clamp (by omega), w2, nI_p1 rr.1]
  have loop : ∀ l, l = nI (mRq M q - 1) → ∀ (u i : Nat), i + u = mRq M q → ∀ G, fO 21 F G → G 21 = pWr p i (F 21) (pMv M q (F 20)) → ∀ x, x = nI i → XC xE0 (d + 1) xM_159 (18, [some (.ref 45), some (.int qq), some (.ref 20), some (.ref 21), some (.int pp), some (.int l), some (.int x)], [], (shG X (md1 T), I, L, G)) Q := by
    intro l hl u
    induction u with
    | zero =>
      intro i hi G D hv x hx
      have : i = mRq M q := by omega
      subst this
      have fin := hQ G D hv
      refine XC.block [18] 60 ?_
      exact And.intro (fun _ => ⟨trivial, fin⟩) (fun z => absurd (show l < x by rw [hl, hx]; exact nI_lt (by omega) (by omega)) z)
    | succ u ih =>
      intro i hi G D hv x hx
      have hlt : ¬ l < x := by rw [hl, hx]; exact nI_nlt (by omega) (by omega)
      have hx1 : x + 1 = nI (i + 1) := by rw [hx, nI_1]
      have i1 : i + 1 + u = mRq M q := by omega
      have y0 : G 20 = F 20 := D.fn (by decide)
      have B0 : ∀ j, j < mCq M q → fB b (G 20 j) := fun j hj => by rw [y0]; exact hB j hj
      have M0 : clMd_a M I L G := hM.fl (fun b k hb => D b k (by omega))
      have ei : pp + x = nI (p + i) := by rw [hpp, hx, nI_add]
      have pin : vp_in (pp + x) 16 := rf_in ei (by omega) (by decide)
      have V2 : x2 G 21 (pp + x).toNatClampNeg (pMv M q (G 20) i) 21 = pWr p (i + 1) (F 21) (pMv M q (F 20)) := pWr_st hv (by rw [ei, nI_clamp (by omega)]) (by rw [y0])
      have il : i < mRq M q := by omega
      refine XC.block [18] 60 ?_
      refine And.intro (fun z => absurd z hlt) (fun _ => ?_)
      refine cl_dot_20_a M0 hm hq il B0 hb hk k1 k2 hqq hx ?_
      refine And.intro pin ?_
      exact ih (i + 1) i1 _ D.st V2 _ hx1
  refine XC.block [18] 60 ?_
  refine And.intro qin ?_
  refine And.intro tin ?_
  exact loop _ er (mRq M q) 0 (Nat.zero_add _) F fO.rf pWr_0.symm _ rfl
theorem cl_mul_20_28_a (hM : clMd_a M I L F) (hm : mGd M) {q b k p : Nat} (hq : q < 3 + 9 * mFa M 3) (hB : ∀ j, j < mCq M q → fB b (F 20 j)) (hb : b ≤ 276) (hk : 156 + b ≤ k + 149) (k1 : 23 ≤ k) (k2 : k ≤ 272) (hp : p + mRq M q ≤ 128) {qq pp : Int32} (hqq : qq = nI q) (hpp : pp = nI p)
    (hQ : ∀ G, fO 28 F G → G 28 = pWr p (mRq M q) (F 28) (pMv M q (F 20)) → Q none (shG X (md1 T), I, L, G)) : XM xE0 (d + 1) 159 [.ref 45, .int qq, .ref 20, .ref 28, .int pp] (shG X (md1 T), I, L, F) Q := by
  obtain ⟨q1, q2, q3, q4, q5, q6⟩ := hm.q hq
  obtain ⟨w1, w2, w3, w4⟩ := hM.2.2.2.2.2.2.2.1 _ q2
  have h3 := hm.1.2.2.2.1
  have rr := (hm.2.1 _ q2).2.1
  rw [q4] at rr w2
  have qin : vp_in qq 21 := rf_in hqq (by omega) (by decide)
  have et : I 49 qq.toNatClampNeg = nI (mNd M q) := by rw [hqq, nI_clamp (by omega)]; exact hM.2.2.2.2.2.2.1 q hq
  have tin : vp_in (I 49 qq.toNatClampNeg) 24 := rf_in et q1 (by decide)
  have er : I 48 (I 49 qq.toNatClampNeg).toNatClampNeg - 1 = nI (mRq M q - 1) := by rw [et, nI_clamp (by omega), w2, nI_p1 rr.1]
  have loop : ∀ l, l = nI (mRq M q - 1) → ∀ (u i : Nat), i + u = mRq M q → ∀ G, fO 28 F G → G 28 = pWr p i (F 28) (pMv M q (F 20)) → ∀ x, x = nI i → XC xE0 (d + 1) xM_159 (18, [some (.ref 45), some (.int qq), some (.ref 20), some (.ref 28), some (.int pp), some (.int l), some (.int x)], [], (shG X (md1 T), I, L, G)) Q := by
    intro l hl u
    induction u with
    | zero =>
      intro i hi G D hv x hx
      have : i = mRq M q := by omega
      subst this
      have fin := hQ G D hv
      refine XC.block [18] 60 ?_
      exact And.intro (fun _ => ⟨trivial, fin⟩) (fun z => absurd (show l < x by rw [hl, hx]; exact nI_lt (by omega) (by omega)) z)
    | succ u ih =>
      intro i hi G D hv x hx
      have hlt : ¬ l < x := by rw [hl, hx]; exact nI_nlt (by omega) (by omega)
      have hx1 : x + 1 = nI (i + 1) := by rw [hx, nI_1]
      have i1 : i + 1 + u = mRq M q := by omega
      have y0 : G 20 = F 20 := D.fn (by decide)
      have B0 : ∀ j, j < mCq M q → fB b (G 20 j) := fun j hj => by rw [y0]; exact hB j hj
      have M0 : clMd_a M I L G := hM.fl (fun b k hb => D b k (by omega))
      have ei : pp + x = nI (p + i) := by rw [hpp, hx, nI_add]
      have pin : vp_in (pp + x) 128 := rf_in ei (by omega) (by decide)
      have V2 : x2 G 28 (pp + x).toNatClampNeg (pMv M q (G 20) i) 28 = pWr p (i + 1) (F 28) (pMv M q (F 20)) := pWr_st hv (by rw [ei, nI_clamp (by omega)]) (by rw [y0])
      have il : i < mRq M q := by omega
      refine XC.block [18] 60 ?_
      refine And.intro (fun z => absurd z hlt) (fun _ => ?_)
      refine cl_dot_20_a M0 hm hq il B0 hb hk k1 k2 hqq hx ?_
      refine And.intro pin ?_
      exact ih (i + 1) i1 _ D.st V2 _ hx1
  refine XC.block [18] 60 ?_
  refine And.intro qin ?_
  refine And.intro tin ?_
  exact loop _ er (mRq M q) 0 (Nat.zero_add _) F fO.rf pWr_0.symm _ rfl
theorem cl_mul_20_29_a (hM : clMd_a M I L F) (hm : mGd M) {q b k p : Nat} (hq : q < 3 + 9 * mFa M 3) (hB : ∀ j, j < mCq M q → fB b (F 20 j)) (hb : b ≤ 276) (hk : 156 + b ≤ k + 149) (k1 : 23 ≤ k) (k2 : k ≤ 272) (hp : p + mRq M q ≤ 128) {qq pp : Int32} (hqq : qq = nI q) (hpp : pp = nI p)
    (hQ : ∀ G, fO 29 F G → G 29 = pWr p (mRq M q) (F 29) (pMv M q (F 20)) → Q none (shG X (md1 T), I, L, G)) : XM xE0 (d + 1) 159 [.ref 45, .int qq, .ref 20, .ref 29, .int pp] (shG X (md1 T), I, L, F) Q := by
  obtain ⟨q1, q2, q3, q4, q5, q6⟩ := hm.q hq
  obtain ⟨w1, w2, w3, w4⟩ := hM.2.2.2.2.2.2.2.1 _ q2
  have h3 := hm.1.2.2.2.1
  have rr := (hm.2.1 _ q2).2.1
  rw [q4] at rr w2
  have qin : vp_in qq 21 := rf_in hqq (by omega) (by decide)
  have et : I 49 qq.toNatClampNeg = nI (mNd M q) := by rw [hqq, nI_clamp (by omega)]; exact hM.2.2.2.2.2.2.1 q hq
  have tin : vp_in (I 49 qq.toNatClampNeg) 24 := rf_in et q1 (by decide)
  have er : I 48 (I 49 qq.toNatClampNeg).toNatClampNeg - 1 = nI (mRq M q - 1) := by rw [et, nI_clamp (by omega), w2, nI_p1 rr.1]
  have loop : ∀ l, l = nI (mRq M q - 1) → ∀ (u i : Nat), i + u = mRq M q → ∀ G, fO 29 F G → G 29 = pWr p i (F 29) (pMv M q (F 20)) → ∀ x, x = nI i → XC xE0 (d + 1) xM_159 (18, [some (.ref 45), some (.int qq), some (.ref 20), some (.ref 29), some (.int pp), some (.int l), some (.int x)], [], (shG X (md1 T), I, L, G)) Q := by
    intro l hl u
    induction u with
    | zero =>
      intro i hi G D hv x hx
      have : i = mRq M q := by omega
      subst this
      have fin := hQ G D hv
      refine XC.block [18] 60 ?_
      exact And.intro (fun _ => ⟨trivial, fin⟩) (fun z => absurd (show l < x by rw [hl, hx]; exact nI_lt (by omega) (by omega)) z)
    | succ u ih =>
      intro i hi G D hv x hx
      have hlt : ¬ l < x := by rw [hl, hx]; exact nI_nlt (by omega) (by omega)
      have hx1 : x + 1 = nI (i + 1) := by rw [hx, nI_1]
      have i1 : i + 1 + u = mRq M q := by omega
      have y0 : G 20 = F 20 := D.fn (by decide)
      have B0 : ∀ j, j < mCq M q → fB b (G 20 j) := fun j hj => by rw [y0]; exact hB j hj
      have M0 : clMd_a M I L G := hM.fl (fun b k hb => D b k (by omega))
      have ei : pp + x = nI (p + i) := by rw [hpp, hx, nI_add]
      have pin : vp_in (pp + x) 128 := rf_in ei (by omega) (by decide)
      have V2 : x2 G 29 (pp + x).toNatClampNeg (pMv M q (G 20) i) 29 = pWr p (i + 1) (F 29) (pMv M q (F 20)) := pWr_st hv (by rw [ei, nI_clamp (by omega)]) (by rw [y0])
      have il : i < mRq M q := by omega
      refine XC.block [18] 60 ?_
      refine And.intro (fun z => absurd z hlt) (fun _ => ?_)
      refine cl_dot_20_a M0 hm hq il B0 hb hk k1 k2 hqq hx ?_
      refine And.intro pin ?_
      exact ih (i + 1) i1 _ D.st V2 _ hx1
  refine XC.block [18] 60 ?_
  refine And.intro qin ?_
  refine And.intro tin ?_
  exact loop _ er (mRq M q) 0 (Nat.zero_add _) F fO.rf pWr_0.symm _ rfl
theorem cl_mul_20_31_a (hM : clMd_a M I L F) (hm : mGd M) {q b k p : Nat} (hq : q < 3 + 9 * mFa M 3) (hB : ∀ j, j < mCq M q → fB b (F 20 j)) (hb : b ≤ 276) (hk : 156 + b ≤ k + 149) (k1 : 23 ≤ k) (k2 : k ≤ 272) (hp : p + mRq M q ≤ 128) {qq pp : Int32} (hqq : qq = nI q) (hpp : pp = nI p)
    (hQ : ∀ G, fO 31 F G → G 31 = pWr p (mRq M q) (F 31) (pMv M q (F 20)) → Q none (shG X (md1 T), I, L, G)) : XM xE0 (d + 1) 159 [.ref 45, .int qq, .ref 20, .ref 31, .int pp] (shG X (md1 T), I, L, F) Q := by
  obtain ⟨q1, q2, q3, q4, q5, q6⟩ := hm.q hq
  obtain ⟨w1, w2, w3, w4⟩ := hM.2.2.2.2.2.2.2.1 _ q2
  have h3 := hm.1.2.2.2.1
  have rr := (hm.2.1 _ q2).2.1
  rw [q4] at rr w2
  have qin : vp_in qq 21 := rf_in hqq (by omega) (by decide)
  have et : I 49 qq.toNatClampNeg = nI (mNd M q) := by rw [hqq, nI_clamp (by omega)]; exact hM.2.2.2.2.2.2.1 q hq
  have tin : vp_in (I 49 qq.toNatClampNeg) 24 := rf_in et q1 (by decide)
  have er : I 48 (I 49 qq.toNatClampNeg).toNatClampNeg - 1 = nI (mRq M q - 1) := by rw [et, nI_clamp (by omega), w2, nI_p1 rr.1]
  have loop : ∀ l, l = nI (mRq M q - 1) → ∀ (u i : Nat), i + u = mRq M q → ∀ G, fO 31 F G → G 31 = pWr p i (F 31) (pMv M q (F 20)) → ∀ x, x = nI i → XC xE0 (d + 1) xM_159 (18, [some (.ref 45), some (.int qq), some (.ref 20), some (.ref 31), some (.int pp), some (.int l), some (.int x)], [], (shG X (md1 T), I, L, G)) Q := by
    intro l hl u
    induction u with
    | zero =>
      intro i hi G D hv x hx
      have : i = mRq M q := by omega
      subst this
      have fin := hQ G D hv
      refine XC.block [18] 60 ?_
      exact And.intro (fun _ => ⟨trivial, fin⟩) (fun z => absurd (show l < x by rw [hl, hx]; exact nI_lt (by omega) (by omega)) z)
    | succ u ih =>
      intro i hi G D hv x hx
      have hlt : ¬ l < x := by rw [hl, hx]; exact nI_nlt (by omega) (by omega)
      have hx1 : x + 1 = nI (i + 1) := by rw [hx, nI_1]
      have i1 : i + 1 + u = mRq M q := by omega
      have y0 : G 20 = F 20 := D.fn (by decide)
      have B0 : ∀ j, j < mCq M q → fB b (G 20 j) := fun j hj => by rw [y0]; exact hB j hj
      have M0 : clMd_a M I L G := hM.fl (fun b k hb => D b k (by omega))
      have ei : pp + x = nI (p + i) := by rw [hpp, hx, nI_add]
      have pin : vp_in (pp + x) 128 := rf_in ei (by omega) (by decide)
      have V2 : x2 G 31 (pp + x).toNatClampNeg (pMv M q (G 20) i) 31 = pWr p (i + 1) (F 31) (pMv M q (F 20)) := pWr_st hv (by rw [ei, nI_clamp (by omega)]) (by rw [y0])
      have il : i < mRq M q := by omega
      refine XC.block [18] 60 ?_
      refine And.intro (fun z => absurd z hlt) (fun _ => ?_)
      refine cl_dot_20_a M0 hm hq il B0 hb hk k1 k2 hqq hx ?_
      refine And.intro pin ?_
      exact ih (i + 1) i1 _ D.st V2 _ hx1
  refine XC.block [18] 60 ?_
  refine And.intro qin ?_
  refine And.intro tin ?_
  exact loop _ er (mRq M q) 0 (Nat.zero_add _) F fO.rf pWr_0.symm _ rfl
theorem cl_mul_20_32_a (hM : clMd_a M I L F) (hm : mGd M) {q b k p : Nat} (hq : q < 3 + 9 * mFa M 3) (hB : ∀ j, j < mCq M q → fB b (F 20 j)) (hb : b ≤ 276) (hk : 156 + b ≤ k + 149) (k1 : 23 ≤ k) (k2 : k ≤ 272) (hp : p + mRq M q ≤ 128) {qq pp : Int32} (hqq : qq = nI q) (hpp : pp = nI p)
    (hQ : ∀ G, fO 32 F G → G 32 = pWr p (mRq M q) (F 32) (pMv M q (F 20)) → Q none (shG X (md1 T), I, L, G)) : XM xE0 (d + 1) 159 [.ref 45, .int qq, .ref 20, .ref 32, .int pp] (shG X (md1 T), I, L, F) Q := by
  obtain ⟨q1, q2, q3, q4, q5, q6⟩ := hm.q hq
  obtain ⟨w1, w2, w3, w4⟩ := hM.2.2.2.2.2.2.2.1 _ q2
  have h3 := hm.1.2.2.2.1
  have rr := (hm.2.1 _ q2).2.1
  rw [q4] at rr w2
  have qin : vp_in qq 21 := rf_in hqq (by omega) (by decide)
  have et : I 49 qq.toNatClampNeg = nI (mNd M q) := by rw [hqq, nI_clamp (by omega)]; exact hM.2.2.2.2.2.2.1 q hq
  have tin : vp_in (I 49 qq.toNatClampNeg) 24 := rf_in et q1 (by decide)
  have er : I 48 (I 49 qq.toNatClampNeg).toNatClampNeg - 1 = nI (mRq M q - 1) := by rw [et, nI_clamp (by omega), w2, nI_p1 rr.1]
  have loop : ∀ l, l = nI (mRq M q - 1) → ∀ (u i : Nat), i + u = mRq M q → ∀ G, fO 32 F G → G 32 = pWr p i (F 32) (pMv M q (F 20)) → ∀ x, x = nI i → XC xE0 (d + 1) xM_159 (18, [some (.ref 45), some (.int qq), some (.ref 20), some (.ref 32), some (.int pp), some (.int l), some (.int x)], [], (shG X (md1 T), I, L, G)) Q := by
    intro l hl u
    induction u with
    | zero =>
      intro i hi G D hv x hx
      have : i = mRq M q := by omega
      subst this
      have fin := hQ G D hv
      refine XC.block [18] 60 ?_
      exact And.intro (fun _ => ⟨trivial, fin⟩) (fun z => absurd (show l < x by rw [hl, hx]; exact nI_lt (by omega) (by omega)) z)
    | succ u ih =>
      intro i hi G D hv x hx
      have hlt : ¬ l < x := by rw [hl, hx]; exact nI_nlt (by omega) (by omega)
      have hx1 : x + 1 = nI (i + 1) := by rw [hx, nI_1]
      have i1 : i + 1 + u = mRq M q := by omega
      have y0 : G 20 = F 20 := D.fn (by decide)
      have B0 : ∀ j, j < mCq M q → fB b (G 20 j) := fun j hj => by rw [y0]; exact hB j hj
      have M0 : clMd_a M I L G := hM.fl (fun b k hb => D b k (by omega))
      have ei : pp + x = nI (p + i) := by rw [hpp, hx, nI_add]
      have pin : vp_in (pp + x) 128 := rf_in ei (by omega) (by decide)
      have V2 : x2 G 32 (pp + x).toNatClampNeg (pMv M q (G 20) i) 32 = pWr p (i + 1) (F 32) (pMv M q (F 20)) := pWr_st hv (by rw [ei, nI_clamp (by omega)]) (by rw [y0])
      have il : i < mRq M q := by omega
      refine XC.block [18] 60 ?_
      refine And.intro (fun z => absurd z hlt) (fun _ => ?_)
      refine cl_dot_20_a M0 hm hq il B0 hb hk k1 k2 hqq hx ?_
      refine And.intro pin ?_
      exact ih (i + 1) i1 _ D.st V2 _ hx1
  refine XC.block [18] 60 ?_
  refine And.intro qin ?_
  refine And.intro tin ?_
  exact loop _ er (mRq M q) 0 (Nat.zero_add _) F fO.rf pWr_0.symm _ rfl
theorem cl_mul_20_23_a (hM : clMd_a M I L F) (hm : mGd M) {q b k p : Nat} (hq : q < 3 + 9 * mFa M 3) (hB : ∀ j, j < mCq M q → fB b (F 20 j)) (hb : b ≤ 276) (hk : 156 + b ≤ k + 149) (k1 : 23 ≤ k) (k2 : k ≤ 272) (hp : p + mRq M q ≤ 16) {qq pp : Int32} (hqq : qq = nI q) (hpp : pp = nI p)
    (hQ : ∀ G, fO 23 F G → G 23 = pWr p (mRq M q) (F 23) (pMv M q (F 20)) → Q none (shG X (md1 T), I, L, G)) : XM xE0 (d + 1) 159 [.ref 45, .int qq, .ref 20, .ref 23, .int pp] (shG X (md1 T), I, L, F) Q := by
  obtain ⟨q1, q2, q3, q4, q5, q6⟩ := hm.q hq
  obtain ⟨w1, w2, w3, w4⟩ := hM.2.2.2.2.2.2.2.1 _ q2
  have h3 := hm.1.2.2.2.1
  have rr := (hm.2.1 _ q2).2.1
  rw [q4] at rr w2
  have qin : vp_in qq 21 := rf_in hqq (by omega) (by decide)
  have et : I 49 qq.toNatClampNeg = nI (mNd M q) := by rw [hqq, nI_clamp (by omega)]; exact hM.2.2.2.2.2.2.1 q hq
  have tin : vp_in (I 49 qq.toNatClampNeg) 24 := rf_in et q1 (by decide)
  have er : I 48 (I 49 qq.toNatClampNeg).toNatClampNeg - 1 = nI (mRq M q - 1) := by rw [et, nI_clamp (by omega), w2, nI_p1 rr.1]
  have loop : ∀ l, l = nI (mRq M q - 1) → ∀ (u i : Nat), i + u = mRq M q → ∀ G, fO 23 F G → G 23 = pWr p i (F 23) (pMv M q (F 20)) → ∀ x, x = nI i → XC xE0 (d + 1) xM_159 (18, [some (.ref 45), some (.int qq), some (.ref 20), some (.ref 23), some (.int pp), some (.int l), some (.int x)], [], (shG X (md1 T), I, L, G)) Q := by
    intro l hl u
    induction u with
    | zero =>
      intro i hi G D hv x hx
      have : i = mRq M q := by omega
      subst this
      have fin := hQ G D hv
      refine XC.block [18] 60 ?_
      exact And.intro (fun _ => ⟨trivial, fin⟩) (fun z => absurd (show l < x by rw [hl, hx]; exact nI_lt (by omega) (by omega)) z)
    | succ u ih =>
      intro i hi G D hv x hx
      have hlt : ¬ l < x := by rw [hl, hx]; exact nI_nlt (by omega) (by omega)
      have hx1 : x + 1 = nI (i + 1) := by rw [hx, nI_1]
      have i1 : i + 1 + u = mRq M q := by omega
      have y0 : G 20 = F 20 := D.fn (by decide)
      have B0 : ∀ j, j < mCq M q → fB b (G 20 j) := fun j hj => by rw [y0]; exact hB j hj
      have M0 : clMd_a M I L G := hM.fl (fun b k hb => D b k (by omega))
      have ei : pp + x = nI (p + i) := by rw [hpp, hx, nI_add]
      have pin : vp_in (pp + x) 16 := rf_in ei (by omega) (by decide)
      have V2 : x2 G 23 (pp + x).toNatClampNeg (pMv M q (G 20) i) 23 = pWr p (i + 1) (F 23) (pMv M q (F 20)) := pWr_st hv (by rw [ei, nI_clamp (by omega)]) (by rw [y0])
      have il : i < mRq M q := by omega
      refine XC.block [18] 60 ?_
      refine And.intro (fun z => absurd z hlt) (fun _ => ?_)
      refine cl_dot_20_a M0 hm hq il B0 hb hk k1 k2 hqq hx ?_
      refine And.intro pin ?_
      exact ih (i + 1) i1 _ D.st V2 _ hx1
  refine XC.block [18] 60 ?_
  refine And.intro qin ?_
  refine And.intro tin ?_
  exact loop _ er (mRq M q) 0 (Nat.zero_add _) F fO.rf pWr_0.symm _ rfl
theorem cl_mul_20_24_a (hM : clMd_a M I L F) (hm : mGd M) {q b k p : Nat} (hq : q < 3 + 9 * mFa M 3) (hB : ∀ j, j < mCq M q → fB b (F 20 j)) (hb : b ≤ 276) (hk : 156 + b ≤ k + 149) (k1 : 23 ≤ k) (k2 : k ≤ 272) (hp : p + mRq M q ≤ 16) {qq pp : Int32} (hqq : qq = nI q) (hpp : pp = nI p)
    (hQ : ∀ G, fO 24 F G → G 24 = pWr p (mRq M q) (F 24) (pMv M q (F 20)) → Q none (shG X (md1 T), I, L, G)) : XM xE0 (d + 1) 159 [.ref 45, .int qq, .ref 20, .ref 24, .int pp] (shG X (md1 T), I, L, F) Q := by
  obtain ⟨q1, q2, q3, q4, q5, q6⟩ := hm.q hq
  obtain ⟨w1, w2, w3, w4⟩ := hM.2.2.2.2.2.2.2.1 _ q2
  have h3 := hm.1.2.2.2.1
  have rr := (hm.2.1 _ q2).2.1
  rw [q4] at rr w2
  have qin : vp_in qq 21 := rf_in hqq (by omega) (by decide)
  have et : I 49 qq.toNatClampNeg = nI (mNd M q) := by rw [hqq, nI_clamp (by omega)]; exact hM.2.2.2.2.2.2.1 q hq
  have tin : vp_in (I 49 qq.toNatClampNeg) 24 := rf_in et q1 (by decide)
  have er : I 48 (I 49 qq.toNatClampNeg).toNatClampNeg - 1 = nI (mRq M q - 1) := by rw [et, nI_clamp (by omega), w2, nI_p1 rr.1]
  have loop : ∀ l, l = nI (mRq M q - 1) → ∀ (u i : Nat), i + u = mRq M q → ∀ G, fO 24 F G → G 24 = pWr p i (F 24) (pMv M q (F 20)) → ∀ x, x = nI i → XC xE0 (d + 1) xM_159 (18, [some (.ref 45), some (.int qq), some (.ref 20), some (.ref 24), some (.int pp), some (.int l), some (.int x)], [], (shG X (md1 T), I, L, G)) Q := by
    intro l hl u
    induction u with
    | zero =>
      intro i hi G D hv x hx
      have : i = mRq M q := by omega
      subst this
      have fin := hQ G D hv
      refine XC.block [18] 60 ?_
      exact And.intro (fun _ => ⟨trivial, fin⟩) (fun z => absurd (show l < x by rw [hl, hx]; exact nI_lt (by omega) (by omega)) z)
    | succ u ih =>
      intro i hi G D hv x hx
      have hlt : ¬ l < x := by rw [hl, hx]; exact nI_nlt (by omega) (by omega)
      have hx1 : x + 1 = nI (i + 1) := by rw [hx, nI_1]
      have i1 : i + 1 + u = mRq M q := by omega
      have y0 : G 20 = F 20 := D.fn (by decide)
      have B0 : ∀ j, j < mCq M q → fB b (G 20 j) := fun j hj => by rw [y0]; exact hB j hj
      have M0 : clMd_a M I L G := hM.fl (fun b k hb => D b k (by omega))
      have ei : pp + x = nI (p + i) := by rw [hpp, hx, nI_add]
      have pin : vp_in (pp + x) 16 := rf_in ei (by omega) (by decide)
      have V2 : x2 G 24 (pp + x).toNatClampNeg (pMv M q (G 20) i) 24 = pWr p (i + 1) (F 24) (pMv M q (F 20)) := pWr_st hv (by rw [ei, nI_clamp (by omega)]) (by rw [y0])
      have il : i < mRq M q := by omega
      refine XC.block [18] 60 ?_
      refine And.intro (fun z => absurd z hlt) (fun _ => ?_)
      refine cl_dot_20_a M0 hm hq il B0 hb hk k1 k2 hqq hx ?_
      refine And.intro pin ?_
      exact ih (i + 1) i1 _ D.st V2 _ hx1
  refine XC.block [18] 60 ?_
  refine And.intro qin ?_
  refine And.intro tin ?_
  exact loop _ er (mRq M q) 0 (Nat.zero_add _) F fO.rf pWr_0.symm _ rfl
theorem cl_mul_20_26_a (hM : clMd_a M I L F) (hm : mGd M) {q b k p : Nat} (hq : q < 3 + 9 * mFa M 3) (hB : ∀ j, j < mCq M q → fB b (F 20 j)) (hb : b ≤ 276) (hk : 156 + b ≤ k + 149) (k1 : 23 ≤ k) (k2 : k ≤ 272) (hp : p + mRq M q ≤ 16) {qq pp : Int32} (hqq : qq = nI q) (hpp : pp = nI p)
    (hQ : ∀ G, fO 26 F G → G 26 = pWr p (mRq M q) (F 26) (pMv M q (F 20)) → Q none (shG X (md1 T), I, L, G)) : XM xE0 (d + 1) 159 [.ref 45, .int qq, .ref 20, .ref 26, .int pp] (shG X (md1 T), I, L, F) Q := by
  obtain ⟨q1, q2, q3, q4, q5, q6⟩ := hm.q hq
  obtain ⟨w1, w2, w3, w4⟩ := hM.2.2.2.2.2.2.2.1 _ q2
  have h3 := hm.1.2.2.2.1
  have rr := (hm.2.1 _ q2).2.1
  rw [q4] at rr w2
  have qin : vp_in qq 21 := rf_in hqq (by omega) (by decide)
  have et : I 49 qq.toNatClampNeg = nI (mNd M q) := by rw [hqq, nI_clamp (by omega)]; exact hM.2.2.2.2.2.2.1 q hq
  have tin : vp_in (I 49 qq.toNatClampNeg) 24 := rf_in et q1 (by decide)
  have er : I 48 (I 49 qq.toNatClampNeg).toNatClampNeg - 1 = nI (mRq M q - 1) := by rw [et, nI_clamp (by omega), w2, nI_p1 rr.1]
  have loop : ∀ l, l = nI (mRq M q - 1) → ∀ (u i : Nat), i + u = mRq M q → ∀ G, fO 26 F G → G 26 = pWr p i (F 26) (pMv M q (F 20)) → ∀ x, x = nI i → XC xE0 (d + 1) xM_159 (18, [some (.ref 45), some (.int qq), some (.ref 20), some (.ref 26), some (.int pp), some (.int l), some (.int x)], [], (shG X (md1 T), I, L, G)) Q := by
    intro l hl u
    induction u with
    | zero =>
      intro i hi G D hv x hx
      have : i = mRq M q := by omega
      subst this
      have fin := hQ G D hv
      refine XC.block [18] 60 ?_
      exact And.intro (fun _ => ⟨trivial, fin⟩) (fun z => absurd (show l < x by rw [hl, hx]; exact nI_lt (by omega) (by omega)) z)
    | succ u ih =>
      intro i hi G D hv x hx
      have hlt : ¬ l < x := by rw [hl, hx]; exact nI_nlt (by omega) (by omega)
      have hx1 : x + 1 = nI (i + 1) := by rw [hx, nI_1]
      have i1 : i + 1 + u = mRq M q := by omega
      have y0 : G 20 = F 20 := D.fn (by decide)
      have B0 : ∀ j, j < mCq M q → fB b (G 20 j) := fun j hj => by rw [y0]; exact hB j hj
      have M0 : clMd_a M I L G := hM.fl (fun b k hb => D b k (by omega))
      have ei : pp + x = nI (p + i) := by rw [hpp, hx, nI_add]
      have pin : vp_in (pp + x) 16 := rf_in ei (by omega) (by decide)
      have V2 : x2 G 26 (pp + x).toNatClampNeg (pMv M q (G 20) i) 26 = pWr p (i + 1) (F 26) (pMv M q (F 20)) := pWr_st hv (by rw [ei, nI_clamp (by omega)]) (by rw [y0])
      have il : i < mRq M q := by omega
      refine XC.block [18] 60 ?_
      refine And.intro (fun z => absurd z hlt) (fun _ => ?_)
      refine cl_dot_20_a M0 hm hq il B0 hb hk k1 k2 hqq hx ?_
      refine And.intro pin ?_
      exact ih (i + 1) i1 _ D.st V2 _ hx1
  refine XC.block [18] 60 ?_
  refine And.intro qin ?_
  refine And.intro tin ?_
  exact loop _ er (mRq M q) 0 (Nat.zero_add _) F fO.rf pWr_0.symm _ rfl
theorem cl_add_22_a (hM : clMd_a M I L F) (hm : mGd M) {q b c k k' : Nat} (hq : q < 3 + 9 * mFa M 3) (hr : mRq M q = mFa M 0) (hB : ∀ j, j < mCq M q → fB b (F 22 j)) (hb : b ≤ 276) (hk : 156 + b ≤ k + 149) (k1 : 23 ≤ k) (k2 : k ≤ 272) (hX : ∀ j, j < mFa M 0 → fB c (F 19 j)) (hc : c < k') (hk' : k + 4 < k') (hk2 : k' ≤ 276) {qq : Int32} (hqq : qq = nI q)
    (hQ : ∀ G, fO 19 F G → (∀ i, i < mFa M 0 → G 19 i = FP.fadd (F 19 i) (pMv M q (F 22) i) ∧ fB k' (G 19 i)) → Q none (shG X (md1 T), I, L, G)) : XM xE0 (d + 1) 160 [.ref 45, .int qq, .ref 22, .ref 19] (shG X (md1 T), I, L, F) Q := by
  obtain ⟨q1, q2, q3, q4, q5, q6⟩ := hm.q hq
  obtain ⟨w1, w2, w3, w4⟩ := hM.2.2.2.2.2.2.2.1 _ q2
  have h3 := hm.1.2.2.2.1
  have h0 := hm.1.1
  rw [q4, hr] at w2
  have qin : vp_in qq 21 := rf_in hqq (by omega) (by decide)
  have et : I 49 qq.toNatClampNeg = nI (mNd M q) := by rw [hqq, nI_clamp (by omega)]; exact hM.2.2.2.2.2.2.1 q hq
  have tin : vp_in (I 49 qq.toNatClampNeg) 24 := rf_in et q1 (by decide)
  have er : I 48 (I 49 qq.toNatClampNeg).toNatClampNeg - 1 = nI (mFa M 0 - 1) := by rw [et, nI_clamp (by omega), w2, nI_p1 (by omega)]
  have loop : ∀ l, l = nI (mFa M 0 - 1) → ∀ (u i : Nat), i + u = mFa M 0 → ∀ G, fO 19 F G → (∀ i', i' < i → G 19 i' = FP.fadd (F 19 i') (pMv M q (F 22) i') ∧ fB k' (G 19 i')) → (∀ i', i ≤ i' → G 19 i' = F 19 i') → ∀ x, x = nI i → XC xE0 (d + 1) xM_160 (18, [some (.ref 45), some (.int qq), some (.ref 22), some (.ref 19), some (.int l), some (.int x)], [], (shG X (md1 T), I, L, G)) Q := by
    intro l hl u
    induction u with
    | zero =>
      intro i hi G D hv hw x hx
      have : i = mFa M 0 := by omega
      subst this
      have fin := hQ G D hv
      refine XC.block [18] 60 ?_
      exact And.intro (fun _ => ⟨trivial, fin⟩) (fun z => absurd (show l < x by rw [hl, hx]; exact nI_lt (by omega) (by omega)) z)
    | succ u ih =>
      intro i hi G D hv hw x hx
      have hlt : ¬ l < x := by rw [hl, hx]; exact nI_nlt (by omega) (by omega)
      have hx1 : x + 1 = nI (i + 1) := by rw [hx, nI_1]
      have i1 : i + 1 + u = mFa M 0 := by omega
      have il : i < mFa M 0 := by omega
      have il' : i < mRq M q := by rw [hr]; exact il
      have y0 : G 22 = F 22 := D.fn (by decide)
      have B0 : ∀ j, j < mCq M q → fB b (G 22 j) := fun j hj => by rw [y0]; exact hB j hj
      have M0 : clMd_a M I L G := hM.fl (fun b k hb => D b k (by omega))
      have tx : x.toNatClampNeg = i := by rw [hx, nI_clamp (by omega)]
      have xin : vp_in x 16 := rf_in hx (by omega) (by decide)
      have dB : fB (k + 4) (pMv M q (F 22) i) := pMv_B hm hq il' hB hb hk k1 k2
      have es : FP.fadd (G 19 x.toNatClampNeg) (pMv M q (G 22) i) = FP.fadd (F 19 i) (pMv M q (F 22) i) := by rw [tx, hw i (Nat.le_refl _), y0]
      have eb : fB k' (FP.fadd (G 19 x.toNatClampNeg) (pMv M q (G 22) i)) := by rw [es]; exact (hX i il).add dB hc hk' (by omega) (by omega)
      have V2 : ∀ i', i' < i + 1 → x2 G 19 x.toNatClampNeg (FP.fadd (G 19 x.toNatClampNeg) (pMv M q (G 22) i)) 19 i' = FP.fadd (F 19 i') (pMv M q (F 22) i') ∧ fB k' (x2 G 19 x.toNatClampNeg (FP.fadd (G 19 x.toNatClampNeg) (pMv M q (G 22) i)) 19 i') := by
        intro i' hi'
        rcases Nat.lt_or_ge i' i with y | y
        · rw [x2_o _ _ (by omega)]; exact hv i' y
        · have : i' = i := by omega
          subst this
          rw [show ∀ v, x2 G 19 x.toNatClampNeg v 19 i' = v from fun v => by rw [tx, x2_same]]
          exact ⟨es, eb⟩
      have W2 : ∀ i', i + 1 ≤ i' → x2 G 19 x.toNatClampNeg (FP.fadd (G 19 x.toNatClampNeg) (pMv M q (G 22) i)) 19 i' = F 19 i' := fun i' hi' => by rw [x2_o _ _ (by omega)]; exact hw i' (by omega)
      have gn := eb.n32 (by omega)
      refine XC.block [18] 60 ?_
      refine And.intro (fun z => absurd z hlt) (fun _ => ?_)
      refine And.intro xin ?_
      refine cl_dot_22_a M0 hm hq il' B0 hb hk k1 k2 hqq hx ?_
      refine And.intro gn ?_
      refine And.intro xin ?_
      exact ih (i + 1) i1 _ D.st V2 W2 _ hx1
  refine XC.block [18] 60 ?_
  refine And.intro qin ?_
  refine And.intro tin ?_
  exact loop _ er (mFa M 0) 0 (Nat.zero_add _) F fO.rf (fun i hi => absurd hi (Nat.not_lt_zero _)) (fun _ _ => rfl) _ rfl
theorem cl_add_23_a (hM : clMd_a M I L F) (hm : mGd M) {q b c k k' : Nat} (hq : q < 3 + 9 * mFa M 3) (hr : mRq M q = mFa M 0) (hB : ∀ j, j < mCq M q → fB b (F 23 j)) (hb : b ≤ 276) (hk : 156 + b ≤ k + 149) (k1 : 23 ≤ k) (k2 : k ≤ 272) (hX : ∀ j, j < mFa M 0 → fB c (F 19 j)) (hc : c < k') (hk' : k + 4 < k') (hk2 : k' ≤ 276) {qq : Int32} (hqq : qq = nI q)
    (hQ : ∀ G, fO 19 F G → (∀ i, i < mFa M 0 → G 19 i = FP.fadd (F 19 i) (pMv M q (F 23) i) ∧ fB k' (G 19 i)) → Q none (shG X (md1 T), I, L, G)) : XM xE0 (d + 1) 160 [.ref 45, .int qq, .ref 23, .ref 19] (shG X (md1 T), I, L, F) Q := by
  obtain ⟨q1, q2, q3, q4, q5, q6⟩ := hm.q hq
  obtain ⟨w1, w2, w3, w4⟩ := hM.2.2.2.2.2.2.2.1 _ q2
  have h3 := hm.1.2.2.2.1
  have h0 := hm.1.1
  rw [q4, hr] at w2
  have qin : vp_in qq 21 := rf_in hqq (by omega) (by decide)
  have et : I 49 qq.toNatClampNeg = nI (mNd M q) := by rw [hqq, nI_clamp (by omega)]; exact hM.2.2.2.2.2.2.1 q hq
  have tin : vp_in (I 49 qq.toNatClampNeg) 24 := rf_in et q1 (by decide)
  have er : I 48 (I 49 qq.toNatClampNeg).toNatClampNeg - 1 = nI (mFa M 0 - 1) := by rw [et, nI_clamp (by omega), w2, nI_p1 (by omega)]
  have loop : ∀ l, l = nI (mFa M 0 - 1) → ∀ (u i : Nat), i + u = mFa M 0 → ∀ G, fO 19 F G → (∀ i', i' < i → G 19 i' = FP.fadd (F 19 i') (pMv M q (F 23) i') ∧ fB k' (G 19 i')) → (∀ i', i ≤ i' → G 19 i' = F 19 i') → ∀ x, x = nI i → XC xE0 (d + 1) xM_160 (18, [some (.ref 45), some (.int qq), some (.ref 23), some (.ref 19), some (.int l), some (.int x)], [], (shG X (md1 T), I, L, G)) Q := by
    intro l hl u
    induction u with
    | zero =>
      intro i hi G D hv hw x hx
      have : i = mFa M 0 := by omega
      subst this
      have fin := hQ G D hv
      refine XC.block [18] 60 ?_
      exact And.intro (fun _ => ⟨trivial, fin⟩) (fun z => absurd (show l < x by rw [hl, hx]; exact nI_lt (by omega) (by omega)) z)
    | succ u ih =>
      intro i hi G D hv hw x hx
      have hlt : ¬ l < x := by rw [hl, hx]; exact nI_nlt (by omega) (by omega)
      have hx1 : x + 1 = nI (i + 1) := by rw [hx, nI_1]
      have i1 : i + 1 + u = mFa M 0 := by omega
      have il : i < mFa M 0 := by omega
      have il' : i < mRq M q := by rw [hr]; exact il
      have y0 : G 23 = F 23 := D.fn (by decide)
      have B0 : ∀ j, j < mCq M q → fB b (G 23 j) := fun j hj => by rw [y0]; exact hB j hj
      have M0 : clMd_a M I L G := hM.fl (fun b k hb => D b k (by omega))
      have tx : x.toNatClampNeg = i := by rw [hx, nI_clamp (by omega)]
      have xin : vp_in x 16 := rf_in hx (by omega) (by decide)
      have dB : fB (k + 4) (pMv M q (F 23) i) := pMv_B hm hq il' hB hb hk k1 k2
      have es : FP.fadd (G 19 x.toNatClampNeg) (pMv M q (G 23) i) = FP.fadd (F 19 i) (pMv M q (F 23) i) := by rw [tx, hw i (Nat.le_refl _), y0]
      have eb : fB k' (FP.fadd (G 19 x.toNatClampNeg) (pMv M q (G 23) i)) := by rw [es]; exact (hX i il).add dB hc hk' (by omega) (by omega)
      have V2 : ∀ i', i' < i + 1 → x2 G 19 x.toNatClampNeg (FP.fadd (G 19 x.toNatClampNeg) (pMv M q (G 23) i)) 19 i' = FP.fadd (F 19 i') (pMv M q (F 23) i') ∧ fB k' (x2 G 19 x.toNatClampNeg (FP.fadd (G 19 x.toNatClampNeg) (pMv M q (G 23) i)) 19 i') := by
        intro i' hi'
        rcases Nat.lt_or_ge i' i with y | y
        · rw [x2_o _ _ (by omega)]; exact hv i' y
        · have : i' = i := by omega
          subst this
          rw [show ∀ v, x2 G 19 x.toNatClampNeg v 19 i' = v from fun v => by rw [tx, x2_same]]
          exact ⟨es, eb⟩
      have W2 : ∀ i', i + 1 ≤ i' → x2 G 19 x.toNatClampNeg (FP.fadd (G 19 x.toNatClampNeg) (pMv M q (G 23) i)) 19 i' = F 19 i' := fun i' hi' => by rw [x2_o _ _ (by omega)]; exact hw i' (by omega)
      have gn := eb.n32 (by omega)
      refine XC.block [18] 60 ?_
      refine And.intro (fun z => absurd z hlt) (fun _ => ?_)
      refine And.intro xin ?_
      refine cl_dot_23_a M0 hm hq il' B0 hb hk k1 k2 hqq hx ?_
      refine And.intro gn ?_
      refine And.intro xin ?_
      exact ih (i + 1) i1 _ D.st V2 W2 _ hx1
  refine XC.block [18] 60 ?_
  refine And.intro qin ?_
  refine And.intro tin ?_
  exact loop _ er (mFa M 0) 0 (Nat.zero_add _) F fO.rf (fun i hi => absurd hi (Nat.not_lt_zero _)) (fun _ _ => rfl) _ rfl
theorem cl_norm_a (hM : clMd_a M I L F) (hm : mGd M) {q : Nat} (hq : q < 3 + 9 * mFa M 3) (h1 : mCq M q = mFa M 0) (h2 : mRq M q = 1) (hX : ∀ j, j < mFa M 0 → fB 210 (F 19 j)) {qq : Int32} (hqq : qq = nI q)
    (hQ : ∀ G, fO 20 F G → (∀ j, j < mFa M 0 → G 20 j = pNo M q (F 19) j) → (∀ j, j < mFa M 0 → fB 161 (G 20 j)) → Q none (shG X (md1 T), I, L, G)) : XM xE0 (d + 1) 120 [.ref 18, .ref 38, .int qq] (shG X (md1 T), I, L, F) Q := by
  obtain ⟨q1, q2, q3, q4, q5, q6⟩ := hm.q hq
  have h3 := hm.1.2.2.2.1
  rw [h1] at q3
  rw [h2] at q4
  rw [q3, q4] at q5 q6
  have hd := hm.1.1
  have d16 : mFa M 0 ≤ 16 := by omega
  have he := hm.2.2.2.1.1
  have e17 : I 39 0 = nI (mFa M 0) := hM.1 0 (by decide)
  have qin : vp_in qq 21 := rf_in hqq (by omega) (by decide)
  have et : I 49 qq.toNatClampNeg = nI (mNd M q) := by rw [hqq, nI_clamp (by omega)]; exact hM.2.2.2.2.2.2.1 q hq
  have fin := (pNm_ok (W := mWt M (mNd M q)) hX hd he)
  have c76 : ∀ t, t = nI (mNd M q) → ∀ m r, r = pNr (F 19) (mFa M 0) (mEp M) → ∀ (u i : Nat), i + u = mFa M 0 → ∀ G, fO 20 F G → (∀ l, l < i → G 20 l = pNo M q (F 19) l) → ∀ x, x = nI i → XC xE0 (d + 1) xM_120 (76, [some (.ref 18), some (.ref 38), some (.int qq), some (.int (I 39 0)), some (.int t), some (.float m), some (.float r), some (.int x)], [], (shG X (md1 T), I, L, G)) Q := by
    intro t ht m r hr u
    induction u with
    | zero =>
      intro i hi G D hv x hx
      have : i = mFa M 0 := by omega
      subst this
      have hb : ∀ j, j < mFa M 0 → fB 161 (G 20 j) := fun j hj => by
        rw [hv j hj]
        have w := (q6 0 j (by decide) hj).2
        rw [Nat.zero_mul, Nat.zero_add] at w
        exact ((fin.2 j hj).2 w)
      refine XC.block [76] 60 ?_
      exact And.intro (fun _ => ⟨trivial, hQ G D hv hb⟩) (fun z => absurd (show I 39 0 ≤ x by rw [e17, hx]; exact nI_le (by omega) (by omega)) z)
    | succ u ih =>
      intro i hi G D hv x hx
      have hlt : ¬ I 39 0 ≤ x := by rw [e17, hx]; exact nI_ge (by omega) (by omega)
      have hx1 : x + 1 = nI (i + 1) := by rw [hx, nI_1]
      have i1 : i + 1 + u = mFa M 0 := by omega
      have li := q6 0 i (by decide) (by omega)
      rw [Nat.zero_mul, Nat.zero_add] at li
      have M0 : clMd_a M I L G := hM.fl (fun b k hb => D b k (by omega))
      have ex : G 19 x.toNatClampNeg = F 19 i := by rw [hx, nI_clamp (by omega), D 19 _ (by decide)]
      have xin : vp_in x 16 := rf_in hx (by omega) (by decide)
      have g1 : vf_n32 (FP.fmul (G 19 x.toNatClampNeg) r) := by rw [ex, hr]; exact (fin.2 i (by omega)).1.n32 (by decide)
      have ew : mWt M (mNd M q) (0 * mCo M (mNd M q) + i) = mWt M (mNd M q) i := by rw [Nat.zero_mul, Nat.zero_add]
      have ep : FP.fmul (FP.fmul (G 19 x.toNatClampNeg) r) (mWt M (mNd M q) (0 * mCo M (mNd M q) + i)) = pNo M q (F 19) i := by rw [ew, ex, hr]; rfl
      have g2 : vf_n32 (FP.fmul (FP.fmul (G 19 x.toNatClampNeg) r) (mWt M (mNd M q) (0 * mCo M (mNd M q) + i))) := by rw [ep]; exact ((fin.2 i (by omega)).2 li.2).n32 (by decide)
      have hv2 := x2_fill (k := x.toNatClampNeg) hv (by rw [hx, nI_clamp (by omega)]) ep
      have r0 : 0 < mRo M (mNd M q) := by rw [q4]; decide
      have c0 : i < mCo M (mNd M q) := by rw [q3]; omega
      refine XC.block [76] 60 ?_
      refine And.intro (fun z => absurd z hlt) (fun _ => ?_)
      refine And.intro xin ?_
      refine And.intro g1 ?_
      refine cl_att_a M0 hm q2 r0 c0 ht rfl hx ?_
      refine And.intro g2 ?_
      refine And.intro xin ?_
      exact ih (i + 1) i1 _ D.st hv2 _ hx1
  have nq := pNq_ok hX hd
  have nv := pNv_ok hX hd he
  have c56 : ∀ t, t = nI (mNd M q) → ∀ m, m = pS (pSq (F 19)) (mFa M 0) → ∀ x4, XC xE0 (d + 1) xM_120 (56, [some (.ref 18), some (.ref 38), some (.int qq), some (.int (I 39 0)), some (.int t), some (.float m), some (.int x4), none], [], (shG X (md1 T), I, L, F)) Q := by
    intro t ht m hm' x4
    subst hm'
    have g1 : vf_n32 (FP.fdiv (pS (pSq (F 19)) (mFa M 0)) (FP.i2f (I 39 0))) := by rw [e17]; exact nq.1.n32 (by decide)
    have ev : FP.fadd (FP.fdiv (pS (pSq (F 19)) (mFa M 0)) (FP.i2f (I 39 0))) (F 38 3) = pNv (F 19) (mFa M 0) (mEp M) := by rw [e17, hM.2.2.2.2.2.2.2.2.1]; rfl
    have g2 : vf_n32 (FP.fadd (FP.fdiv (pS (pSq (F 19)) (mFa M 0)) (FP.i2f (I 39 0))) (F 38 3)) := by rw [ev]; exact nv.1.n32 (by decide)
    have c67 : ∀ v, v = pNv (F 19) (mFa M 0) (mEp M) → XC xE0 (d + 1) xM_120 (67, [some (.ref 18), some (.ref 38), some (.int qq), some (.int (I 39 0)), some (.int t), some (.float (pS (pSq (F 19)) (mFa M 0))), some (.int x4), none], [.float v, .float FP.fconst1], (shG X (md1 T), I, L, F)) Q := by
      intro v hv
      subst hv
      refine XC.block [76] 60 ?_
      refine fn_root_c nv ?_
      exact And.intro fin.1.n32 (c76 t ht _ _ rfl (mFa M 0) 0 (Nat.zero_add _) F fO.rf (fun l hl => absurd hl (Nat.not_lt_zero _)) _ rfl)
    refine XC.block [67] 60 ?_
    refine And.intro g1 ?_
    refine And.intro g2 ?_
    exact c67 _ ev
  have c24 : ∀ t, t = nI (mNd M q) → ∀ (u i : Nat), i + u = mFa M 0 → ∀ a, a = pS (pSq (F 19)) i → ∀ x, x = nI i → XC xE0 (d + 1) xM_120 (24, [some (.ref 18), some (.ref 38), some (.int qq), some (.int (I 39 0)), some (.int t), some (.float a), some (.int x), none], [], (shG X (md1 T), I, L, F)) Q := by
    intro t ht u
    induction u with
    | zero =>
      intro i hi a ha x hx
      have : i = mFa M 0 := by omega
      subst this
      refine XC.block [24, 56] 60 ?_
      exact And.intro (fun _ => c56 t ht _ ha _) (fun z => absurd (show I 39 0 ≤ x by rw [e17, hx]; exact nI_le (by omega) (by omega)) z)
    | succ u ih =>
      intro i hi a ha x hx
      have hlt : ¬ I 39 0 ≤ x := by rw [e17, hx]; exact nI_ge (by omega) (by omega)
      have hx1 : x + 1 = nI (i + 1) := by rw [hx, nI_1]
      have i1 : i + 1 + u = mFa M 0 := by omega
      have ex : F 19 x.toNatClampNeg = F 19 i := by rw [hx, nI_clamp (by omega)]
      have xin : vp_in x 16 := rf_in hx (by omega) (by decide)
      have g1 : vf_n32 (FP.fmul (F 19 x.toNatClampNeg) (F 19 x.toNatClampNeg)) := by rw [ex]; exact (pSq_ok hX i (by omega)).n32 (by decide)
      have es : FP.fadd a (FP.fmul (F 19 x.toNatClampNeg) (F 19 x.toNatClampNeg)) = pS (pSq (F 19)) (i + 1) := by rw [ex, ha]; rfl
      have g2 : vf_n32 (FP.fadd a (FP.fmul (F 19 x.toNatClampNeg) (F 19 x.toNatClampNeg))) := by rw [es]; exact (pSq_F hX hd (i + 1) (by omega)).n32
      refine XC.block [24, 56] 60 ?_
      refine And.intro (fun z => absurd z hlt) (fun _ => ?_)
      refine And.intro xin ?_
      refine And.intro xin ?_
      refine And.intro g1 ?_
      refine And.intro g2 ?_
      exact ih (i + 1) i1 _ es _ hx1
  have v0 : vp_in (0 : Int32) 12 := rf_in (j := 0) rfl (by decide) (by decide)
  refine XC.block [24] 60 ?_
  refine And.intro v0 ?_
  refine And.intro qin ?_
  exact c24 _ et (mFa M 0) 0 (Nat.zero_add _) _ rfl _ rfl
end NEA_a
section NEA_b
variable {X : List (Option Nat)} {T : List xS} {M : pMd} {I J : Nat → Nat → Int32} {L : Nat → Nat → Int64} {F G : Nat → Nat → UInt32} {d : Nat} {Q : xP}
theorem clMd_b.fl (h : clMd_b M I L F) (a : ∀ b k, 38 ≤ b → G b k = F b k) : clMd_b M I L G := ⟨h.1, h.2.1, h.2.2.1, h.2.2.2.1, h.2.2.2.2.1, h.2.2.2.2.2.1, h.2.2.2.2.2.2.1, fun i hi => ⟨(h.2.2.2.2.2.2.2.1 i hi).1, (h.2.2.2.2.2.2.2.1 i hi).2.1, (h.2.2.2.2.2.2.2.1 i hi).2.2.1, fun s hs => (a 63 _ (by decide)).trans ((h.2.2.2.2.2.2.2.1 i hi).2.2.2 s hs)⟩, (a 51 3 (by decide)).trans h.2.2.2.2.2.2.2.2.1, (a 51 4 (by decide)).trans h.2.2.2.2.2.2.2.2.2⟩
theorem cl_att_b (hM : clMd_b M I L F) (hm : mGd M) {t r c : Nat} (ht : t < mFa M 10) (hr : r < mRo M t) (hc : c < mCo M t) {tt rr cc : Int32} (ett : tt = nI t) (err : rr = nI r) (ecc : cc = nI c) (hQ : Q (some (.float (mWt M t (r * mCo M t + c)))) (shG X (md2 T), I, L, F)) : XM xE0 d 157 [.ref 58, .int tt, .int rr, .int cc] (shG X (md2 T), I, L, F) Q := by
  have h10 := hm.1.2.2.2.2.2.2.2.2.2
  obtain ⟨t1, t2, t3, t4⟩ := hm.2.1 t ht
  obtain ⟨w1, w2, w3, w4⟩ := hM.2.2.2.2.2.2.2.1 t ht
  have tt' : tt.toNatClampNeg = t := by rw [ett, nI_clamp (by omega)]
  have tin : vp_in tt 24 := rf_in ett (by omega) (by decide)
  have lt : r * mCo M t + c < mCo M t * mRo M t := by
    refine Nat.lt_of_lt_of_le (Nat.add_lt_add_left hc _) ?_
    rw [← Nat.succ_mul, Nat.mul_comm]
    exact Nat.mul_le_mul_left _ hr
  have ei : I 59 tt.toNatClampNeg + rr * I 60 tt.toNatClampNeg + cc = nI (mBg M t + (r * mCo M t + c)) := by rw [tt', w1, w3, err, ecc, nI_mul, nI_add, nI_add, Nat.add_assoc]
  have win : vp_in (I 59 tt.toNatClampNeg + rr * I 60 tt.toNatClampNeg + cc) 1866 := rf_in ei (by omega) (by decide)
  have fin : Q (some (.float (F 63 (I 59 tt.toNatClampNeg + rr * I 60 tt.toNatClampNeg + cc).toNatClampNeg))) (shG X (md2 T), I, L, F) := by rw [ei, nI_clamp (by omega), w4 _ lt]; exact hQ
  refine XC.block [] 60 ?_
  exact And.intro tin (And.intro tin (And.intro win ⟨trivial, fin⟩))
theorem cl_dot_20_b (hM : clMd_b M I L F) (hm : mGd M) {q r b k : Nat} (hq : q < 3 + 9 * mFa M 3) (hr : r < mRq M q) (hB : ∀ j, j < mCq M q → fB b (F 20 j)) (hb : b ≤ 276) (hk : 156 + b ≤ k + 149) (k1 : 23 ≤ k) (k2 : k ≤ 272) {qq rr : Int32} (hqq : qq = nI q) (hrr : rr = nI r) (hQ : Q (some (.float (pMv M q (F 20) r))) (shG X (md2 T), I, L, F)) : XM xE0 d 158 [.ref 58, .int qq, .int rr, .ref 20] (shG X (md2 T), I, L, F) Q := by
  obtain ⟨q1, q2, q3, q4, q5, q6⟩ := hm.q hq
  obtain ⟨w1, w2, w3, w4⟩ := hM.2.2.2.2.2.2.2.1 _ q2
  have h3 := hm.1.2.2.2.1
  have c16 : mCo M (mNd M q) ≤ 16 := by rw [q3]; exact mCq_le hm
  have r16 : mRo M (mNd M q) ≤ 16 := (hm.2.1 _ q2).2.1.2
  rw [← q4] at hr
  rw [← q3] at hB
  have qin : vp_in qq 21 := rf_in hqq (by omega) (by decide)
  have et : I 62 qq.toNatClampNeg = nI (mNd M q) := by rw [hqq, nI_clamp (by omega)]; exact hM.2.2.2.2.2.2.1 q hq
  have hA : ∀ j, j < mCo M (mNd M q) → fB 156 (mWt M (mNd M q) (r * mCo M (mNd M q) + j)) := fun j hj => (q6 r j hr hj).2
  have l0 := (q6 r 0 hr (by have := (hm.2.1 _ q2).1.1; omega)).1
  have loop : ∀ t, t = nI (mNd M q) → ∀ s, s = nI (mBg M (mNd M q) + r * mCo M (mNd M q)) → ∀ (u i : Nat), i + u = mCo M (mNd M q) → ∀ a, a = pDt (fun j => mWt M (mNd M q) (r * mCo M (mNd M q) + j)) (F 20) i → ∀ x, x = nI i → XC xE0 d xM_158 (33, [some (.ref 58), some (.int qq), some (.int rr), some (.ref 20), some (.int t), some (.int s), some (.float a), some (.int x)], [], (shG X (md2 T), I, L, F)) Q := by
    intro t ht s hs u
    have tin : vp_in t 24 := rf_in ht q1 (by decide)
    have e24 : I 60 t.toNatClampNeg = nI (mCo M (mNd M q)) := by rw [ht, nI_clamp (by omega)]; exact w1
    induction u with
    | zero =>
      intro i hi a ha x hx
      have : i = mCo M (mNd M q) := by omega
      subst this
      subst ha
      refine XC.block [33] 60 ?_
      refine And.intro tin ?_
      exact And.intro (fun _ => ⟨trivial, hQ⟩) (fun z => absurd (show I 60 t.toNatClampNeg ≤ x by rw [e24, hx]; exact nI_le (by omega) (by omega)) z)
    | succ u ih =>
      intro i hi a ha x hx
      have hlt : ¬ I 60 t.toNatClampNeg ≤ x := by rw [e24, hx]; exact nI_ge (by omega) (by omega)
      have hx1 : x + 1 = nI (i + 1) := by rw [hx, nI_1]
      have i1 : i + 1 + u = mCo M (mNd M q) := by omega
      have li := (q6 r i hr (by omega)).1
      have ei : s + x = nI (mBg M (mNd M q) + (r * mCo M (mNd M q) + i)) := by rw [hs, hx, nI_add, Nat.add_assoc]
      have win : vp_in (s + x) 1866 := rf_in ei (by omega) (by decide)
      have ew : F 63 (s + x).toNatClampNeg = mWt M (mNd M q) (r * mCo M (mNd M q) + i) := by rw [ei, nI_clamp (by omega)]; exact w4 _ li
      have ey : F 20 x.toNatClampNeg = F 20 i := by rw [hx, nI_clamp (by omega)]
      have yin : vp_in x 16 := rf_in hx (by omega) (by decide)
      have g1 : vf_n32 (FP.fmul (F 63 (s + x).toNatClampNeg) (F 20 x.toNatClampNeg)) := by
        rw [ew, ey]; exact ((pDt_m hA hB (by decide) hb hk k1 k2) i (by omega)).n32 (by omega)
      have es : FP.fadd a (FP.fmul (F 63 (s + x).toNatClampNeg) (F 20 x.toNatClampNeg)) = pDt (fun j => mWt M (mNd M q) (r * mCo M (mNd M q) + j)) (F 20) (i + 1) := by rw [ew, ey, ha]; rfl
      have g2 : vf_n32 (FP.fadd a (FP.fmul (F 63 (s + x).toNatClampNeg) (F 20 x.toNatClampNeg))) := by
        rw [es]; exact (pDt_F hA hB (by decide) hb hk k1 k2 c16 (i + 1) (by omega)).n32
      refine XC.block [33] 60 ?_
      refine And.intro tin ?_
      refine And.intro (fun z => absurd z hlt) (fun _ => ?_)
      refine And.intro win ?_
      refine And.intro yin ?_
      refine And.intro g1 ?_
      refine And.intro g2 ?_
      exact ih (i + 1) i1 _ es _ hx1
  have tin : vp_in (I 62 qq.toNatClampNeg) 24 := rf_in et q1 (by decide)
  have e24 : I 60 (I 62 qq.toNatClampNeg).toNatClampNeg = nI (mCo M (mNd M q)) := by rw [et, nI_clamp (by omega)]; exact w1
  have e26 : I 59 (I 62 qq.toNatClampNeg).toNatClampNeg = nI (mBg M (mNd M q)) := by rw [et, nI_clamp (by omega)]; exact w3
  have es : I 59 (I 62 qq.toNatClampNeg).toNatClampNeg + rr * I 60 (I 62 qq.toNatClampNeg).toNatClampNeg = nI (mBg M (mNd M q) + r * mCo M (mNd M q)) := by rw [e24, e26, hrr, nI_mul, nI_add]
  refine XC.block [33] 60 ?_
  refine And.intro qin ?_
  refine And.intro tin ?_
  refine And.intro tin ?_
  exact loop _ et _ es (mCo M (mNd M q)) 0 (Nat.zero_add _) _ rfl _ rfl
theorem cl_dot_22_b (hM : clMd_b M I L F) (hm : mGd M) {q r b k : Nat} (hq : q < 3 + 9 * mFa M 3) (hr : r < mRq M q) (hB : ∀ j, j < mCq M q → fB b (F 22 j)) (hb : b ≤ 276) (hk : 156 + b ≤ k + 149) (k1 : 23 ≤ k) (k2 : k ≤ 272) {qq rr : Int32} (hqq : qq = nI q) (hrr : rr = nI r) (hQ : Q (some (.float (pMv M q (F 22) r))) (shG X (md2 T), I, L, F)) : XM xE0 d 158 [.ref 58, .int qq, .int rr, .ref 22] (shG X (md2 T), I, L, F) Q := by
  obtain ⟨q1, q2, q3, q4, q5, q6⟩ := hm.q hq
  obtain ⟨w1, w2, w3, w4⟩ := hM.2.2.2.2.2.2.2.1 _ q2
  have h3 := hm.1.2.2.2.1
  have c16 : mCo M (mNd M q) ≤ 16 := by rw [q3]; exact mCq_le hm
  have r16 : mRo M (mNd M q) ≤ 16 := (hm.2.1 _ q2).2.1.2
  rw [← q4] at hr
  rw [← q3] at hB
  have qin : vp_in qq 21 := rf_in hqq (by omega) (by decide)
  have et : I 62 qq.toNatClampNeg = nI (mNd M q) := by rw [hqq, nI_clamp (by omega)]; exact hM.2.2.2.2.2.2.1 q hq
  have hA : ∀ j, j < mCo M (mNd M q) → fB 156 (mWt M (mNd M q) (r * mCo M (mNd M q) + j)) := fun j hj => (q6 r j hr hj).2
  have l0 := (q6 r 0 hr (by have := (hm.2.1 _ q2).1.1; omega)).1
  have loop : ∀ t, t = nI (mNd M q) → ∀ s, s = nI (mBg M (mNd M q) + r * mCo M (mNd M q)) → ∀ (u i : Nat), i + u = mCo M (mNd M q) → ∀ a, a = pDt (fun j => mWt M (mNd M q) (r * mCo M (mNd M q) + j)) (F 22) i → ∀ x, x = nI i → XC xE0 d xM_158 (33, [some (.ref 58), some (.int qq), some (.int rr), some (.ref 22), some (.int t), some (.int s), some (.float a), some (.int x)], [], (shG X (md2 T), I, L, F)) Q := by
    intro t ht s hs u
    have tin : vp_in t 24 := rf_in ht q1 (by decide)
    have e24 : I 60 t.toNatClampNeg = nI (mCo M (mNd M q)) := by rw [ht, nI_clamp (by omega)]; exact w1
    induction u with
    | zero =>
      intro i hi a ha x hx
      have : i = mCo M (mNd M q) := by omega
      subst this
      subst ha
      refine XC.block [33] 60 ?_
      refine And.intro tin ?_
      exact And.intro (fun _ => ⟨trivial, hQ⟩) (fun z => absurd (show I 60 t.toNatClampNeg ≤ x by rw [e24, hx]; exact nI_le (by omega) (by omega)) z)
    | succ u ih =>
      intro i hi a ha x hx
      have hlt : ¬ I 60 t.toNatClampNeg ≤ x := by rw [e24, hx]; exact nI_ge (by omega) (by omega)
      have hx1 : x + 1 = nI (i + 1) := by rw [hx, nI_1]
      have i1 : i + 1 + u = mCo M (mNd M q) := by omega
      have li := (q6 r i hr (by omega)).1
      have ei : s + x = nI (mBg M (mNd M q) + (r * mCo M (mNd M q) + i)) := by rw [hs, hx, nI_add, Nat.add_assoc]
      have win : vp_in (s + x) 1866 := rf_in ei (by omega) (by decide)
      have ew : F 63 (s + x).toNatClampNeg = mWt M (mNd M q) (r * mCo M (mNd M q) + i) := by rw [ei, nI_clamp (by omega)]; exact w4 _ li
      have ey : F 22 x.toNatClampNeg = F 22 i := by rw [hx, nI_clamp (by omega)]
      have yin : vp_in x 16 := rf_in hx (by omega) (by decide)
      have g1 : vf_n32 (FP.fmul (F 63 (s + x).toNatClampNeg) (F 22 x.toNatClampNeg)) := by
        rw [ew, ey]; exact ((pDt_m hA hB (by decide) hb hk k1 k2) i (by omega)).n32 (by omega)
      have es : FP.fadd a (FP.fmul (F 63 (s + x).toNatClampNeg) (F 22 x.toNatClampNeg)) = pDt (fun j => mWt M (mNd M q) (r * mCo M (mNd M q) + j)) (F 22) (i + 1) := by rw [ew, ey, ha]; rfl
      have g2 : vf_n32 (FP.fadd a (FP.fmul (F 63 (s + x).toNatClampNeg) (F 22 x.toNatClampNeg))) := by
        rw [es]; exact (pDt_F hA hB (by decide) hb hk k1 k2 c16 (i + 1) (by omega)).n32
      refine XC.block [33] 60 ?_
      refine And.intro tin ?_
      refine And.intro (fun z => absurd z hlt) (fun _ => ?_)
      refine And.intro win ?_
      refine And.intro yin ?_
      refine And.intro g1 ?_
      refine And.intro g2 ?_
      exact ih (i + 1) i1 _ es _ hx1
  have tin : vp_in (I 62 qq.toNatClampNeg) 24 := rf_in et q1 (by decide)
  have e24 : I 60 (I 62 qq.toNatClampNeg).toNatClampNeg = nI (mCo M (mNd M q)) := by rw [et, nI_clamp (by omega)]; exact w1
  have e26 : I 59 (I 62 qq.toNatClampNeg).toNatClampNeg = nI (mBg M (mNd M q)) := by rw [et, nI_clamp (by omega)]; exact w3
  have es : I 59 (I 62 qq.toNatClampNeg).toNatClampNeg + rr * I 60 (I 62 qq.toNatClampNeg).toNatClampNeg = nI (mBg M (mNd M q) + r * mCo M (mNd M q)) := by rw [e24, e26, hrr, nI_mul, nI_add]
  refine XC.block [33] 60 ?_
  refine And.intro qin ?_
  refine And.intro tin ?_
  refine And.intro tin ?_
  exact loop _ et _ es (mCo M (mNd M q)) 0 (Nat.zero_add _) _ rfl _ rfl
theorem cl_dot_23_b (hM : clMd_b M I L F) (hm : mGd M) {q r b k : Nat} (hq : q < 3 + 9 * mFa M 3) (hr : r < mRq M q) (hB : ∀ j, j < mCq M q → fB b (F 23 j)) (hb : b ≤ 276) (hk : 156 + b ≤ k + 149) (k1 : 23 ≤ k) (k2 : k ≤ 272) {qq rr : Int32} (hqq : qq = nI q) (hrr : rr = nI r) (hQ : Q (some (.float (pMv M q (F 23) r))) (shG X (md2 T), I, L, F)) : XM xE0 d 158 [.ref 58, .int qq, .int rr, .ref 23] (shG X (md2 T), I, L, F) Q := by
  obtain ⟨q1, q2, q3, q4, q5, q6⟩ := hm.q hq
  obtain ⟨w1, w2, w3, w4⟩ := hM.2.2.2.2.2.2.2.1 _ q2
  have h3 := hm.1.2.2.2.1
  have c16 : mCo M (mNd M q) ≤ 16 := by rw [q3]; exact mCq_le hm
  have r16 : mRo M (mNd M q) ≤ 16 := (hm.2.1 _ q2).2.1.2
  rw [← q4] at hr
  rw [← q3] at hB
  have qin : vp_in qq 21 := rf_in hqq (by omega) (by decide)
  have et : I 62 qq.toNatClampNeg = nI (mNd M q) := by rw [hqq, nI_clamp (by omega)]; exact hM.2.2.2.2.2.2.1 q hq
  have hA : ∀ j, j < mCo M (mNd M q) → fB 156 (mWt M (mNd M q) (r * mCo M (mNd M q) + j)) := fun j hj => (q6 r j hr hj).2
  have l0 := (q6 r 0 hr (by have := (hm.2.1 _ q2).1.1; omega)).1
  have loop : ∀ t, t = nI (mNd M q) → ∀ s, s = nI (mBg M (mNd M q) + r * mCo M (mNd M q)) → ∀ (u i : Nat), i + u = mCo M (mNd M q) → ∀ a, a = pDt (fun j => mWt M (mNd M q) (r * mCo M (mNd M q) + j)) (F 23) i → ∀ x, x = nI i → XC xE0 d xM_158 (33, [some (.ref 58), some (.int qq), some (.int rr), some (.ref 23), some (.int t), some (.int s), some (.float a), some (.int x)], [], (shG X (md2 T), I, L, F)) Q := by
    intro t ht s hs u
    have tin : vp_in t 24 := rf_in ht q1 (by decide)
    have e24 : I 60 t.toNatClampNeg = nI (mCo M (mNd M q)) := by rw [ht, nI_clamp (by omega)]; exact w1
    induction u with
    | zero =>
      intro i hi a ha x hx
      have : i = mCo M (mNd M q) := by omega
      subst this
      subst ha
      refine XC.block [33] 60 ?_
      refine And.intro tin ?_
      exact And.intro (fun _ => ⟨trivial, hQ⟩) (fun z => absurd (show I 60 t.toNatClampNeg ≤ x by rw [e24, hx]; exact nI_le (by omega) (by omega)) z)
    | succ u ih =>
      intro i hi a ha x hx
      have hlt : ¬ I 60 t.toNatClampNeg ≤ x := by rw [e24, hx]; exact nI_ge (by omega) (by omega)
      have hx1 : x + 1 = nI (i + 1) := by rw [hx, nI_1]
      have i1 : i + 1 + u = mCo M (mNd M q) := by omega
      have li := (q6 r i hr (by omega)).1
      have ei : s + x = nI (mBg M (mNd M q) + (r * mCo M (mNd M q) + i)) := by rw [hs, hx, nI_add, Nat.add_assoc]
      have win : vp_in (s + x) 1866 := rf_in ei (by omega) (by decide)
      have ew : F 63 (s + x).toNatClampNeg = mWt M (mNd M q) (r * mCo M (mNd M q) + i) := by rw [ei, nI_clamp (by omega)]; exact w4 _ li
      have ey : F 23 x.toNatClampNeg = F 23 i := by rw [hx, nI_clamp (by omega)]
      have yin : vp_in x 16 := rf_in hx (by omega) (by decide)
      have g1 : vf_n32 (FP.fmul (F 63 (s + x).toNatClampNeg) (F 23 x.toNatClampNeg)) := by
        rw [ew, ey]; exact ((pDt_m hA hB (by decide) hb hk k1 k2) i (by omega)).n32 (by omega)
      have es : FP.fadd a (FP.fmul (F 63 (s + x).toNatClampNeg) (F 23 x.toNatClampNeg)) = pDt (fun j => mWt M (mNd M q) (r * mCo M (mNd M q) + j)) (F 23) (i + 1) := by rw [ew, ey, ha]; rfl
      have g2 : vf_n32 (FP.fadd a (FP.fmul (F 63 (s + x).toNatClampNeg) (F 23 x.toNatClampNeg))) := by
        rw [es]; exact (pDt_F hA hB (by decide) hb hk k1 k2 c16 (i + 1) (by omega)).n32
      refine XC.block [33] 60 ?_
      refine And.intro tin ?_
      refine And.intro (fun z => absurd z hlt) (fun _ => ?_)
      refine And.intro win ?_
      refine And.intro yin ?_
      refine And.intro g1 ?_
      refine And.intro g2 ?_
      exact ih (i + 1) i1 _ es _ hx1
  have tin : vp_in (I 62 qq.toNatClampNeg) 24 := rf_in et q1 (by decide)
  have e24 : I 60 (I 62 qq.toNatClampNeg).toNatClampNeg = nI (mCo M (mNd M q)) := by rw [et, nI_clamp (by omega)]; exact w1
  have e26 : I 59 (I 62 qq.toNatClampNeg).toNatClampNeg = nI (mBg M (mNd M q)) := by rw [et, nI_clamp (by omega)]; exact w3
  have es : I 59 (I 62 qq.toNatClampNeg).toNatClampNeg + rr * I 60 (I 62 qq.toNatClampNeg).toNatClampNeg = nI (mBg M (mNd M q) + r * mCo M (mNd M q)) := by rw [e24, e26, hrr, nI_mul, nI_add]
  refine XC.block [33] 60 ?_
  refine And.intro qin ?_
  refine And.intro tin ?_
  refine And.intro tin ?_
  exact loop _ et _ es (mCo M (mNd M q)) 0 (Nat.zero_add _) _ rfl _ rfl
theorem cl_mul_20_21_b (hM : clMd_b M I L F) (hm : mGd M) {q b k p : Nat} (hq : q < 3 + 9 * mFa M 3) (hB : ∀ j, j < mCq M q → fB b (F 20 j)) (hb : b ≤ 276) (hk : 156 + b ≤ k + 149) (k1 : 23 ≤ k) (k2 : k ≤ 272) (hp : p + mRq M q ≤ 16) {qq pp : Int32} (hqq : qq = nI q) (hpp : pp = nI p)
    (hQ : ∀ G, fO 21 F G → G 21 = pWr p (mRq M q) (F 21) (pMv M q (F 20)) → Q none (shG X (md2 T), I, L, G)) : XM xE0 (d + 1) 159 [.ref 58, .int qq, .ref 20, .ref 21, .int pp] (shG X (md2 T), I, L, F) Q := by
  obtain ⟨q1, q2, q3, q4, q5, q6⟩ := hm.q hq
  obtain ⟨w1, w2, w3, w4⟩ := hM.2.2.2.2.2.2.2.1 _ q2
  have h3 := hm.1.2.2.2.1
  have rr := (hm.2.1 _ q2).2.1
  rw [q4] at rr w2
  have qin : vp_in qq 21 := rf_in hqq (by omega) (by decide)
  have et : I 62 qq.toNatClampNeg = nI (mNd M q) := by rw [hqq, nI_clamp (by omega)]; exact hM.2.2.2.2.2.2.1 q hq
  have tin : vp_in (I 62 qq.toNatClampNeg) 24 := rf_in et q1 (by decide)
  have er : I 61 (I 62 qq.toNatClampNeg).toNatClampNeg - 1 = nI (mRq M q - 1) := by rw [et, nI_clamp (by omega), w2, nI_p1 rr.1]
  have loop : ∀ l, l = nI (mRq M q - 1) → ∀ (u i : Nat), i + u = mRq M q → ∀ G, fO 21 F G → G 21 = pWr p i (F 21) (pMv M q (F 20)) → ∀ x, x = nI i → XC xE0 (d + 1) xM_159 (18, [some (.ref 58), some (.int qq), some (.ref 20), some (.ref 21), some (.int pp), some (.int l), some (.int x)], [], (shG X (md2 T), I, L, G)) Q := by
    intro l hl u
    induction u with
    | zero =>
      intro i hi G D hv x hx
      have : i = mRq M q := by omega
      subst this
      have fin := hQ G D hv
      refine XC.block [18] 60 ?_
      exact And.intro (fun _ => ⟨trivial, fin⟩) (fun z => absurd (show l < x by rw [hl, hx]; exact nI_lt (by omega) (by omega)) z)
    | succ u ih =>
      intro i hi G D hv x hx
      have hlt : ¬ l < x := by rw [hl, hx]; exact nI_nlt (by omega) (by omega)
      have hx1 : x + 1 = nI (i + 1) := by rw [hx, nI_1]
      have i1 : i + 1 + u = mRq M q := by omega
      have y0 : G 20 = F 20 := D.fn (by decide)
      have B0 : ∀ j, j < mCq M q → fB b (G 20 j) := fun j hj => by rw [y0]; exact hB j hj
      have M0 : clMd_b M I L G := hM.fl (fun b k hb => D b k (by omega))
      have ei : pp + x = nI (p + i) := by rw [hpp, hx, nI_add]
      have pin : vp_in (pp + x) 16 := rf_in ei (by omega) (by decide)
      have V2 : x2 G 21 (pp + x).toNatClampNeg (pMv M q (G 20) i) 21 = pWr p (i + 1) (F 21) (pMv M q (F 20)) := pWr_st hv (by rw [ei, nI_clamp (by omega)]) (by rw [y0])
      have il : i < mRq M q := by omega
      refine XC.block [18] 60 ?_
      refine And.intro (fun z => absurd z hlt) (fun _ => ?_)
      refine cl_dot_20_b M0 hm hq il B0 hb hk k1 k2 hqq hx ?_
      refine And.intro pin ?_
      exact ih (i + 1) i1 _ D.st V2 _ hx1
  refine XC.block [18] 60 ?_
  refine And.intro qin ?_
  refine And.intro tin ?_
  exact loop _ er (mRq M q) 0 (Nat.zero_add _) F fO.rf pWr_0.symm _ rfl
theorem cl_mul_20_28_b (hM : clMd_b M I L F) (hm : mGd M) {q b k p : Nat} (hq : q < 3 + 9 * mFa M 3) (hB : ∀ j, j < mCq M q → fB b (F 20 j)) (hb : b ≤ 276) (hk : 156 + b ≤ k + 149) (k1 : 23 ≤ k) (k2 : k ≤ 272) (hp : p + mRq M q ≤ 128) {qq pp : Int32} (hqq : qq = nI q) (hpp : pp = nI p)
    (hQ : ∀ G, fO 28 F G → G 28 = pWr p (mRq M q) (F 28) (pMv M q (F 20)) → Q none (shG X (md2 T), I, L, G)) : XM xE0 (d + 1) 159 [.ref 58, .int qq, .ref 20, .ref 28, .int pp] (shG X (md2 T), I, L, F) Q := by
  obtain ⟨q1, q2, q3, q4, q5, q6⟩ := hm.q hq
  obtain ⟨w1, w2, w3, w4⟩ := hM.2.2.2.2.2.2.2.1 _ q2
  have h3 := hm.1.2.2.2.1
  have rr := (hm.2.1 _ q2).2.1
  rw [q4] at rr w2
  have qin : vp_in qq 21 := rf_in hqq (by omega) (by decide)
  have et : I 62 qq.toNatClampNeg = nI (mNd M q) := by rw [hqq, nI_clamp (by omega)]; exact hM.2.2.2.2.2.2.1 q hq
  have tin : vp_in (I 62 qq.toNatClampNeg) 24 := rf_in et q1 (by decide)
  have er : I 61 (I 62 qq.toNatClampNeg).toNatClampNeg - 1 = nI (mRq M q - 1) := by rw [et, nI_clamp (by omega), w2, nI_p1 rr.1]
  have loop : ∀ l, l = nI (mRq M q - 1) → ∀ (u i : Nat), i + u = mRq M q → ∀ G, fO 28 F G → G 28 = pWr p i (F 28) (pMv M q (F 20)) → ∀ x, x = nI i → XC xE0 (d + 1) xM_159 (18, [some (.ref 58), some (.int qq), some (.ref 20), some (.ref 28), some (.int pp), some (.int l), some (.int x)], [], (shG X (md2 T), I, L, G)) Q := by
    intro l hl u
    induction u with
    | zero =>
      intro i hi G D hv x hx
      have : i = mRq M q := by omega
      subst this
      have fin := hQ G D hv
      refine XC.block [18] 60 ?_
      exact And.intro (fun _ => ⟨trivial, fin⟩) (fun z => absurd (show l < x by rw [hl, hx]; exact nI_lt (by omega) (by omega)) z)
    | succ u ih =>
      intro i hi G D hv x hx
      have hlt : ¬ l < x := by rw [hl, hx]; exact nI_nlt (by omega) (by omega)
      have hx1 : x + 1 = nI (i + 1) := by rw [hx, nI_1]
      have i1 : i + 1 + u = mRq M q := by omega
      have y0 : G 20 = F 20 := D.fn (by decide)
      have B0 : ∀ j, j < mCq M q → fB b (G 20 j) := fun j hj => by rw [y0]; exact hB j hj
      have M0 : clMd_b M I L G := hM.fl (fun b k hb => D b k (by omega))
      have ei : pp + x = nI (p + i) := by rw [hpp, hx, nI_add]
      have pin : vp_in (pp + x) 128 := rf_in ei (by omega) (by decide)
      have V2 : x2 G 28 (pp + x).toNatClampNeg (pMv M q (G 20) i) 28 = pWr p (i + 1) (F 28) (pMv M q (F 20)) := pWr_st hv (by rw [ei, nI_clamp (by omega)]) (by rw [y0])
      have il : i < mRq M q := by omega
      refine XC.block [18] 60 ?_
      refine And.intro (fun z => absurd z hlt) (fun _ => ?_)
      refine cl_dot_20_b M0 hm hq il B0 hb hk k1 k2 hqq hx ?_
      refine And.intro pin ?_
      exact ih (i + 1) i1 _ D.st V2 _ hx1
  refine XC.block [18] 60 ?_
  refine And.intro qin ?_
  refine And.intro tin ?_
  exact loop _ er (mRq M q) 0 (Nat.zero_add _) F fO.rf pWr_0.symm _ rfl
theorem cl_mul_20_29_b (hM : clMd_b M I L F) (hm : mGd M) {q b k p : Nat} (hq : q < 3 + 9 * mFa M 3) (hB : ∀ j, j < mCq M q → fB b (F 20 j)) (hb : b ≤ 276) (hk : 156 + b ≤ k + 149) (k1 : 23 ≤ k) (k2 : k ≤ 272) (hp : p + mRq M q ≤ 128) {qq pp : Int32} (hqq : qq = nI q) (hpp : pp = nI p)
    (hQ : ∀ G, fO 29 F G → G 29 = pWr p (mRq M q) (F 29) (pMv M q (F 20)) → Q none (shG X (md2 T), I, L, G)) : XM xE0 (d + 1) 159 [.ref 58, .int qq, .ref 20, .ref 29, .int pp] (shG X (md2 T), I, L, F) Q := by
  obtain ⟨q1, q2, q3, q4, q5, q6⟩ := hm.q hq
  obtain ⟨w1, w2, w3, w4⟩ := hM.2.2.2.2.2.2.2.1 _ q2
  have h3 := hm.1.2.2.2.1
  have rr := (hm.2.1 _ q2).2.1
  rw [q4] at rr w2
  have qin : vp_in qq 21 := rf_in hqq (by omega) (by decide)
  have et : I 62 qq.toNatClampNeg = nI (mNd M q) := by rw [hqq, nI_clamp (by omega)]; exact hM.2.2.2.2.2.2.1 q hq
  have tin : vp_in (I 62 qq.toNatClampNeg) 24 := rf_in et q1 (by decide)
  have er : I 61 (I 62 qq.toNatClampNeg).toNatClampNeg - 1 = nI (mRq M q - 1) := by rw [et, nI_clamp (by omega), w2, nI_p1 rr.1]
  have loop : ∀ l, l = nI (mRq M q - 1) → ∀ (u i : Nat), i + u = mRq M q → ∀ G, fO 29 F G → G 29 = pWr p i (F 29) (pMv M q (F 20)) → ∀ x, x = nI i → XC xE0 (d + 1) xM_159 (18, [some (.ref 58), some (.int qq), some (.ref 20), some (.ref 29), some (.int pp), some (.int l), some (.int x)], [], (shG X (md2 T), I, L, G)) Q := by
    intro l hl u
    induction u with
    | zero =>
      intro i hi G D hv x hx
      have : i = mRq M q := by omega
      subst this
      have fin := hQ G D hv
      refine XC.block [18] 60 ?_
      exact And.intro (fun _ => ⟨trivial, fin⟩) (fun z => absurd (show l < x by rw [hl, hx]; exact nI_lt (by omega) (by omega)) z)
    | succ u ih =>
      intro i hi G D hv x hx
      have hlt : ¬ l < x := by rw [hl, hx]; exact nI_nlt (by omega) (by omega)
      have hx1 : x + 1 = nI (i + 1) := by rw [hx, nI_1]
      have i1 : i + 1 + u = mRq M q := by omega
      have y0 : G 20 = F 20 := D.fn (by decide)
      have B0 : ∀ j, j < mCq M q → fB b (G 20 j) := fun j hj => by rw [y0]; exact hB j hj
      have M0 : clMd_b M I L G := hM.fl (fun b k hb => D b k (by omega))
      have ei : pp + x = nI (p + i) := by rw [hpp, hx, nI_add]
      have pin : vp_in (pp + x) 128 := rf_in ei (by omega) (by decide)
      have V2 : x2 G 29 (pp + x).toNatClampNeg (pMv M q (G 20) i) 29 = pWr p (i + 1) (F 29) (pMv M q (F 20)) := pWr_st hv (by rw [ei, nI_clamp (by omega)]) (by rw [y0])
      have il : i < mRq M q := by omega
      refine XC.block [18] 60 ?_
      refine And.intro (fun z => absurd z hlt) (fun _ => ?_)
      refine cl_dot_20_b M0 hm hq il B0 hb hk k1 k2 hqq hx ?_
      refine And.intro pin ?_
      exact ih (i + 1) i1 _ D.st V2 _ hx1
  refine XC.block [18] 60 ?_
  refine And.intro qin ?_
  refine And.intro tin ?_
  exact loop _ er (mRq M q) 0 (Nat.zero_add _) F fO.rf pWr_0.symm _ rfl
theorem cl_mul_20_31_b (hM : clMd_b M I L F) (hm : mGd M) {q b k p : Nat} (hq : q < 3 + 9 * mFa M 3) (hB : ∀ j, j < mCq M q → fB b (F 20 j)) (hb : b ≤ 276) (hk : 156 + b ≤ k + 149) (k1 : 23 ≤ k) (k2 : k ≤ 272) (hp : p + mRq M q ≤ 128) {qq pp : Int32} (hqq : qq = nI q) (hpp : pp = nI p)
    (hQ : ∀ G, fO 31 F G → G 31 = pWr p (mRq M q) (F 31) (pMv M q (F 20)) → Q none (shG X (md2 T), I, L, G)) : XM xE0 (d + 1) 159 [.ref 58, .int qq, .ref 20, .ref 31, .int pp] (shG X (md2 T), I, L, F) Q := by
  obtain ⟨q1, q2, q3, q4, q5, q6⟩ := hm.q hq
  obtain ⟨w1, w2, w3, w4⟩ := hM.2.2.2.2.2.2.2.1 _ q2
  have h3 := hm.1.2.2.2.1
  have rr := (hm.2.1 _ q2).2.1
  rw [q4] at rr w2
  have qin : vp_in qq 21 := rf_in hqq (by omega) (by decide)
  have et : I 62 qq.toNatClampNeg = nI (mNd M q) := by rw [hqq, nI_clamp (by omega)]; exact hM.2.2.2.2.2.2.1 q hq
  have tin : vp_in (I 62 qq.toNatClampNeg) 24 := rf_in et q1 (by decide)
  have er : I 61 (I 62 qq.toNatClampNeg).toNatClampNeg - 1 = nI (mRq M q - 1) := by rw [et, nI_clamp (by omega), w2, nI_p1 rr.1]
  have loop : ∀ l, l = nI (mRq M q - 1) → ∀ (u i : Nat), i + u = mRq M q → ∀ G, fO 31 F G → G 31 = pWr p i (F 31) (pMv M q (F 20)) → ∀ x, x = nI i → XC xE0 (d + 1) xM_159 (18, [some (.ref 58), some (.int qq), some (.ref 20), some (.ref 31), some (.int pp), some (.int l), some (.int x)], [], (shG X (md2 T), I, L, G)) Q := by
    intro l hl u
    induction u with
    | zero =>
      intro i hi G D hv x hx
      have : i = mRq M q := by omega
      subst this
      have fin := hQ G D hv
      refine XC.block [18] 60 ?_
      exact And.intro (fun _ => ⟨trivial, fin⟩) (fun z => absurd (show l < x by rw [hl, hx]; exact nI_lt (by omega) (by omega)) z)
    | succ u ih =>
      intro i hi G D hv x hx
      have hlt : ¬ l < x := by rw [hl, hx]; exact nI_nlt (by omega) (by omega)
      have hx1 : x + 1 = nI (i + 1) := by rw [hx, nI_1]
      have i1 : i + 1 + u = mRq M q := by omega
      have y0 : G 20 = F 20 := D.fn (by decide)
      have B0 : ∀ j, j < mCq M q → fB b (G 20 j) := fun j hj => by rw [y0]; exact hB j hj
      have M0 : clMd_b M I L G := hM.fl (fun b k hb => D b k (by omega))
      have ei : pp + x = nI (p + i) := by rw [hpp, hx, nI_add]
      have pin : vp_in (pp + x) 128 := rf_in ei (by omega) (by decide)
      have V2 : x2 G 31 (pp + x).toNatClampNeg (pMv M q (G 20) i) 31 = pWr p (i + 1) (F 31) (pMv M q (F 20)) := pWr_st hv (by rw [ei, nI_clamp (by omega)]) (by rw [y0])
      have il : i < mRq M q := by omega
      refine XC.block [18] 60 ?_
      refine And.intro (fun z => absurd z hlt) (fun _ => ?_)
      refine cl_dot_20_b M0 hm hq il B0 hb hk k1 k2 hqq hx ?_
      refine And.intro pin ?_
      exact ih (i + 1) i1 _ D.st V2 _ hx1
  refine XC.block [18] 60 ?_
  refine And.intro qin ?_
  refine And.intro tin ?_
  exact loop _ er (mRq M q) 0 (Nat.zero_add _) F fO.rf pWr_0.symm _ rfl
theorem cl_mul_20_32_b (hM : clMd_b M I L F) (hm : mGd M) {q b k p : Nat} (hq : q < 3 + 9 * mFa M 3) (hB : ∀ j, j < mCq M q → fB b (F 20 j)) (hb : b ≤ 276) (hk : 156 + b ≤ k + 149) (k1 : 23 ≤ k) (k2 : k ≤ 272) (hp : p + mRq M q ≤ 128) {qq pp : Int32} (hqq : qq = nI q) (hpp : pp = nI p)
    (hQ : ∀ G, fO 32 F G → G 32 = pWr p (mRq M q) (F 32) (pMv M q (F 20)) → Q none (shG X (md2 T), I, L, G)) : XM xE0 (d + 1) 159 [.ref 58, .int qq, .ref 20, .ref 32, .int pp] (shG X (md2 T), I, L, F) Q := by
  obtain ⟨q1, q2, q3, q4, q5, q6⟩ := hm.q hq
  obtain ⟨w1, w2, w3, w4⟩ := hM.2.2.2.2.2.2.2.1 _ q2
  have h3 := hm.1.2.2.2.1
  have rr := (hm.2.1 _ q2).2.1
  rw [q4] at rr w2
  have qin : vp_in qq 21 := rf_in hqq (by omega) (by decide)
  have et : I 62 qq.toNatClampNeg = nI (mNd M q) := by rw [hqq, nI_clamp (by omega)]; exact hM.2.2.2.2.2.2.1 q hq
  have tin : vp_in (I 62 qq.toNatClampNeg) 24 := rf_in et q1 (by decide)
  have er : I 61 (I 62 qq.toNatClampNeg).toNatClampNeg - 1 = nI (mRq M q - 1) := by rw [et, nI_clamp (by omega), w2, nI_p1 rr.1]
  have loop : ∀ l, l = nI (mRq M q - 1) → ∀ (u i : Nat), i + u = mRq M q → ∀ G, fO 32 F G → G 32 = pWr p i (F 32) (pMv M q (F 20)) → ∀ x, x = nI i → XC xE0 (d + 1) xM_159 (18, [some (.ref 58), some (.int qq), some (.ref 20), some (.ref 32), some (.int pp), some (.int l), some (.int x)], [], (shG X (md2 T), I, L, G)) Q := by
    intro l hl u
    induction u with
    | zero =>
      intro i hi G D hv x hx
      have : i = mRq M q := by omega
      subst this
      have fin := hQ G D hv
      refine XC.block [18] 60 ?_
      exact And.intro (fun _ => ⟨trivial, fin⟩) (fun z => absurd (show l < x by rw [hl, hx]; exact nI_lt (by omega) (by omega)) z)
    | succ u ih =>
      intro i hi G D hv x hx
      have hlt : ¬ l < x := by rw [hl, hx]; exact nI_nlt (by omega) (by omega)
      have hx1 : x + 1 = nI (i + 1) := by rw [hx, nI_1]
      have i1 : i + 1 + u = mRq M q := by omega
      have y0 : G 20 = F 20 := D.fn (by decide)
      have B0 : ∀ j, j < mCq M q → fB b (G 20 j) := fun j hj => by rw [y0]; exact hB j hj
      have M0 : clMd_b M I L G := hM.fl (fun b k hb => D b k (by omega))
      have ei : pp + x = nI (p + i) := by rw [hpp, hx, nI_add]
      have pin : vp_in (pp + x) 128 := rf_in ei (by omega) (by decide)
      have V2 : x2 G 32 (pp + x).toNatClampNeg (pMv M q (G 20) i) 32 = pWr p (i + 1) (F 32) (pMv M q (F 20)) := pWr_st hv (by rw [ei, nI_clamp (by omega)]) (by rw [y0])
      have il : i < mRq M q := by omega
      refine XC.block [18] 60 ?_
      refine And.intro (fun z => absurd z hlt) (fun _ => ?_)
      refine cl_dot_20_b M0 hm hq il B0 hb hk k1 k2 hqq hx ?_
      refine And.intro pin ?_
      exact ih (i + 1) i1 _ D.st V2 _ hx1
  refine XC.block [18] 60 ?_
  refine And.intro qin ?_
  refine And.intro tin ?_
  exact loop _ er (mRq M q) 0 (Nat.zero_add _) F fO.rf pWr_0.symm _ rfl
theorem cl_mul_20_23_b (hM : clMd_b M I L F) (hm : mGd M) {q b k p : Nat} (hq : q < 3 + 9 * mFa M 3) (hB : ∀ j, j < mCq M q → fB b (F 20 j)) (hb : b ≤ 276) (hk : 156 + b ≤ k + 149) (k1 : 23 ≤ k) (k2 : k ≤ 272) (hp : p + mRq M q ≤ 16) {qq pp : Int32} (hqq : qq = nI q) (hpp : pp = nI p)
    (hQ : ∀ G, fO 23 F G → G 23 = pWr p (mRq M q) (F 23) (pMv M q (F 20)) → Q none (shG X (md2 T), I, L, G)) : XM xE0 (d + 1) 159 [.ref 58, .int qq, .ref 20, .ref 23, .int pp] (shG X (md2 T), I, L, F) Q := by
  obtain ⟨q1, q2, q3, q4, q5, q6⟩ := hm.q hq
  obtain ⟨w1, w2, w3, w4⟩ := hM.2.2.2.2.2.2.2.1 _ q2
  have h3 := hm.1.2.2.2.1
  have rr := (hm.2.1 _ q2).2.1
  rw [q4] at rr w2
  have qin : vp_in qq 21 := rf_in hqq (by omega) (by decide)
  have et : I 62 qq.toNatClampNeg = nI (mNd M q) := by rw [hqq, nI_clamp (by omega)]; exact hM.2.2.2.2.2.2.1 q hq
  have tin : vp_in (I 62 qq.toNatClampNeg) 24 := rf_in et q1 (by decide)
  have er : I 61 (I 62 qq.toNatClampNeg).toNatClampNeg - 1 = nI (mRq M q - 1) := by rw [et, nI_clamp (by omega), w2, nI_p1 rr.1]
  have loop : ∀ l, l = nI (mRq M q - 1) → ∀ (u i : Nat), i + u = mRq M q → ∀ G, fO 23 F G → G 23 = pWr p i (F 23) (pMv M q (F 20)) → ∀ x, x = nI i → XC xE0 (d + 1) xM_159 (18, [some (.ref 58), some (.int qq), some (.ref 20), some (.ref 23), some (.int pp), some (.int l), some (.int x)], [], (shG X (md2 T), I, L, G)) Q := by
    intro l hl u
    induction u with
    | zero =>
      intro i hi G D hv x hx
      have : i = mRq M q := by omega
      subst this
      have fin := hQ G D hv
      refine XC.block [18] 60 ?_
      exact And.intro (fun _ => ⟨trivial, fin⟩) (fun z => absurd (show l < x by rw [hl, hx]; exact nI_lt (by omega) (by omega)) z)
    | succ u ih =>
      intro i hi G D hv x hx
      have hlt : ¬ l < x := by rw [hl, hx]; exact nI_nlt (by omega) (by omega)
      have hx1 : x + 1 = nI (i + 1) := by rw [hx, nI_1]
      have i1 : i + 1 + u = mRq M q := by omega
      have y0 : G 20 = F 20 := D.fn (by decide)
      have B0 : ∀ j, j < mCq M q → fB b (G 20 j) := fun j hj => by rw [y0]; exact hB j hj
      have M0 : clMd_b M I L G := hM.fl (fun b k hb => D b k (by omega))
      have ei : pp + x = nI (p + i) := by rw [hpp, hx, nI_add]
      have pin : vp_in (pp + x) 16 := rf_in ei (by omega) (by decide)
      have V2 : x2 G 23 (pp + x).toNatClampNeg (pMv M q (G 20) i) 23 = pWr p (i + 1) (F 23) (pMv M q (F 20)) := pWr_st hv (by rw [ei, nI_clamp (by omega)]) (by rw [y0])
      have il : i < mRq M q := by omega
      refine XC.block [18] 60 ?_
      refine And.intro (fun z => absurd z hlt) (fun _ => ?_)
      refine cl_dot_20_b M0 hm hq il B0 hb hk k1 k2 hqq hx ?_
      refine And.intro pin ?_
      exact ih (i + 1) i1 _ D.st V2 _ hx1
  refine XC.block [18] 60 ?_
  refine And.intro qin ?_
  refine And.intro tin ?_
  exact loop _ er (mRq M q) 0 (Nat.zero_add _) F fO.rf pWr_0.symm _ rfl
theorem cl_mul_20_24_b (hM : clMd_b M I L F) (hm : mGd M) {q b k p : Nat} (hq : q < 3 + 9 * mFa M 3) (hB : ∀ j, j < mCq M q → fB b (F 20 j)) (hb : b ≤ 276) (hk : 156 + b ≤ k + 149) (k1 : 23 ≤ k) (k2 : k ≤ 272) (hp : p + mRq M q ≤ 16) {qq pp : Int32} (hqq : qq = nI q) (hpp : pp = nI p)
    (hQ : ∀ G, fO 24 F G → G 24 = pWr p (mRq M q) (F 24) (pMv M q (F 20)) → Q none (shG X (md2 T), I, L, G)) : XM xE0 (d + 1) 159 [.ref 58, .int qq, .ref 20, .ref 24, .int pp] (shG X (md2 T), I, L, F) Q := by
  obtain ⟨q1, q2, q3, q4, q5, q6⟩ := hm.q hq
  obtain ⟨w1, w2, w3, w4⟩ := hM.2.2.2.2.2.2.2.1 _ q2
  have h3 := hm.1.2.2.2.1
  have rr := (hm.2.1 _ q2).2.1
  rw [q4] at rr w2
  have qin : vp_in qq 21 := rf_in hqq (by omega) (by decide)
  have et : I 62 qq.toNatClampNeg = nI (mNd M q) := by rw [hqq, nI_clamp (by omega)]; exact hM.2.2.2.2.2.2.1 q hq
  have tin : vp_in (I 62 qq.toNatClampNeg) 24 := rf_in et q1 (by decide)
  have er : I 61 (I 62 qq.toNatClampNeg).toNatClampNeg - 1 = nI (mRq M q - 1) := by rw [et, nI_clamp (by omega), w2, nI_p1 rr.1]
  have loop : ∀ l, l = nI (mRq M q - 1) → ∀ (u i : Nat), i + u = mRq M q → ∀ G, fO 24 F G → G 24 = pWr p i (F 24) (pMv M q (F 20)) → ∀ x, x = nI i → XC xE0 (d + 1) xM_159 (18, [some (.ref 58), some (.int qq), some (.ref 20), some (.ref 24), some (.int pp), some (.int l), some (.int x)], [], (shG X (md2 T), I, L, G)) Q := by
    intro l hl u
    induction u with
    | zero =>
      intro i hi G D hv x hx
      have : i = mRq M q := by omega
      subst this
      have fin := hQ G D hv
      refine XC.block [18] 60 ?_
      exact And.intro (fun _ => ⟨trivial, fin⟩) (fun z => absurd (show l < x by rw [hl, hx]; exact nI_lt (by omega) (by omega)) z)
    | succ u ih =>
      intro i hi G D hv x hx
      have hlt : ¬ l < x := by rw [hl, hx]; exact nI_nlt (by omega) (by omega)
      have hx1 : x + 1 = nI (i + 1) := by rw [hx, nI_1]
      have i1 : i + 1 + u = mRq M q := by omega
      have y0 : G 20 = F 20 := D.fn (by decide)
      have B0 : ∀ j, j < mCq M q → fB b (G 20 j) := fun j hj => by rw [y0]; exact hB j hj
      have M0 : clMd_b M I L G := hM.fl (fun b k hb => D b k (by omega))
      have ei : pp + x = nI (p + i) := by rw [hpp, hx, nI_add]
      have pin : vp_in (pp + x) 16 := rf_in ei (by omega) (by decide)
      have V2 : x2 G 24 (pp + x).toNatClampNeg (pMv M q (G 20) i) 24 = pWr p (i + 1) (F 24) (pMv M q (F 20)) := pWr_st hv (by rw [ei, nI_clamp (by omega)]) (by rw [y0])
      have il : i < mRq M q := by omega
      refine XC.block [18] 60 ?_
      refine And.intro (fun z => absurd z hlt) (fun _ => ?_)
      refine cl_dot_20_b M0 hm hq il B0 hb hk k1 k2 hqq hx ?_
      refine And.intro pin ?_
      exact ih (i + 1) i1 _ D.st V2 _ hx1
  refine XC.block [18] 60 ?_
  refine And.intro qin ?_
  refine And.intro tin ?_
  exact loop _ er (mRq M q) 0 (Nat.zero_add _) F fO.rf pWr_0.symm _ rfl
theorem cl_mul_20_26_b (hM : clMd_b M I L F) (hm : mGd M) {q b k p : Nat} (hq : q < 3 + 9 * mFa M 3) (hB : ∀ j, j < mCq M q → fB b (F 20 j)) (hb : b ≤ 276) (hk : 156 + b ≤ k + 149) (k1 : 23 ≤ k) (k2 : k ≤ 272) (hp : p + mRq M q ≤ 16) {qq pp : Int32} (hqq : qq = nI q) (hpp : pp = nI p)
    (hQ : ∀ G, fO 26 F G → G 26 = pWr p (mRq M q) (F 26) (pMv M q (F 20)) → Q none (shG X (md2 T), I, L, G)) : XM xE0 (d + 1) 159 [.ref 58, .int qq, .ref 20, .ref 26, .int pp] (shG X (md2 T), I, L, F) Q := by
  obtain ⟨q1, q2, q3, q4, q5, q6⟩ := hm.q hq
  obtain ⟨w1, w2, w3, w4⟩ := hM.2.2.2.2.2.2.2.1 _ q2
  have h3 := hm.1.2.2.2.1
  have rr := (hm.2.1 _ q2).2.1
  rw [q4] at rr w2
  have qin : vp_in qq 21 := rf_in hqq (by omega) (by decide)
  have et : I 62 qq.toNatClampNeg = nI (mNd M q) := by rw [hqq, nI_clamp (by omega)]; exact hM.2.2.2.2.2.2.1 q hq
  have tin : vp_in (I 62 qq.toNatClampNeg) 24 := rf_in et q1 (by decide)
  have er : I 61 (I 62 qq.toNatClampNeg).toNatClampNeg - 1 = nI (mRq M q - 1) := by rw [et, nI_clamp (by omega), w2, nI_p1 rr.1]
  have loop : ∀ l, l = nI (mRq M q - 1) → ∀ (u i : Nat), i + u = mRq M q → ∀ G, fO 26 F G → G 26 = pWr p i (F 26) (pMv M q (F 20)) → ∀ x, x = nI i → XC xE0 (d + 1) xM_159 (18, [some (.ref 58), some (.int qq), some (.ref 20), some (.ref 26), some (.int pp), some (.int l), some (.int x)], [], (shG X (md2 T), I, L, G)) Q := by
    intro l hl u
    induction u with
    | zero =>
      intro i hi G D hv x hx
      have : i = mRq M q := by omega
      subst this
      have fin := hQ G D hv
      refine XC.block [18] 60 ?_
      exact And.intro (fun _ => ⟨trivial, fin⟩) (fun z => absurd (show l < x by rw [hl, hx]; exact nI_lt (by omega) (by omega)) z)
    | succ u ih =>
      intro i hi G D hv x hx
      have hlt : ¬ l < x := by rw [hl, hx]; exact nI_nlt (by omega) (by omega)
      have hx1 : x + 1 = nI (i + 1) := by rw [hx, nI_1]
      have i1 : i + 1 + u = mRq M q := by omega
      have y0 : G 20 = F 20 := D.fn (by decide)
      have B0 : ∀ j, j < mCq M q → fB b (G 20 j) := fun j hj => by rw [y0]; exact hB j hj
      have M0 : clMd_b M I L G := hM.fl (fun b k hb => D b k (by omega))
      have ei : pp + x = nI (p + i) := by rw [hpp, hx, nI_add]
      have pin : vp_in (pp + x) 16 := rf_in ei (by omega) (by decide)
      have V2 : x2 G 26 (pp + x).toNatClampNeg (pMv M q (G 20) i) 26 = pWr p (i + 1) (F 26) (pMv M q (F 20)) := pWr_st hv (by rw [ei, nI_clamp (by omega)]) (by rw [y0])
      have il : i < mRq M q := by omega
      refine XC.block [18] 60 ?_
      refine And.intro (fun z => absurd z hlt) (fun _ => ?_)
      refine cl_dot_20_b M0 hm hq il B0 hb hk k1 k2 hqq hx ?_
      refine And.intro pin ?_
      exact ih (i + 1) i1 _ D.st V2 _ hx1
  refine XC.block [18] 60 ?_
  refine And.intro qin ?_
  refine And.intro tin ?_
  exact loop _ er (mRq M q) 0 (Nat.zero_add _) F fO.rf pWr_0.symm _ rfl
theorem cl_add_22_b (hM : clMd_b M I L F) (hm : mGd M) {q b c k k' : Nat} (hq : q < 3 + 9 * mFa M 3) (hr : mRq M q = mFa M 0) (hB : ∀ j, j < mCq M q → fB b (F 22 j)) (hb : b ≤ 276) (hk : 156 + b ≤ k + 149) (k1 : 23 ≤ k) (k2 : k ≤ 272) (hX : ∀ j, j < mFa M 0 → fB c (F 19 j)) (hc : c < k') (hk' : k + 4 < k') (hk2 : k' ≤ 276) {qq : Int32} (hqq : qq = nI q)
    (hQ : ∀ G, fO 19 F G → (∀ i, i < mFa M 0 → G 19 i = FP.fadd (F 19 i) (pMv M q (F 22) i) ∧ fB k' (G 19 i)) → Q none (shG X (md2 T), I, L, G)) : XM xE0 (d + 1) 160 [.ref 58, .int qq, .ref 22, .ref 19] (shG X (md2 T), I, L, F) Q := by
  obtain ⟨q1, q2, q3, q4, q5, q6⟩ := hm.q hq
  obtain ⟨w1, w2, w3, w4⟩ := hM.2.2.2.2.2.2.2.1 _ q2
  have h3 := hm.1.2.2.2.1
  have h0 := hm.1.1
  rw [q4, hr] at w2
  have qin : vp_in qq 21 := rf_in hqq (by omega) (by decide)
  have et : I 62 qq.toNatClampNeg = nI (mNd M q) := by rw [hqq, nI_clamp (by omega)]; exact hM.2.2.2.2.2.2.1 q hq
  have tin : vp_in (I 62 qq.toNatClampNeg) 24 := rf_in et q1 (by decide)
  have er : I 61 (I 62 qq.toNatClampNeg).toNatClampNeg - 1 = nI (mFa M 0 - 1) := by rw [et, nI_clamp (by omega), w2, nI_p1 (by omega)]
  have loop : ∀ l, l = nI (mFa M 0 - 1) → ∀ (u i : Nat), i + u = mFa M 0 → ∀ G, fO 19 F G → (∀ i', i' < i → G 19 i' = FP.fadd (F 19 i') (pMv M q (F 22) i') ∧ fB k' (G 19 i')) → (∀ i', i ≤ i' → G 19 i' = F 19 i') → ∀ x, x = nI i → XC xE0 (d + 1) xM_160 (18, [some (.ref 58), some (.int qq), some (.ref 22), some (.ref 19), some (.int l), some (.int x)], [], (shG X (md2 T), I, L, G)) Q := by
    intro l hl u
    induction u with
    | zero =>
      intro i hi G D hv hw x hx
      have : i = mFa M 0 := by omega
      subst this
      have fin := hQ G D hv
      refine XC.block [18] 60 ?_
      exact And.intro (fun _ => ⟨trivial, fin⟩) (fun z => absurd (show l < x by rw [hl, hx]; exact nI_lt (by omega) (by omega)) z)
    | succ u ih =>
      intro i hi G D hv hw x hx
      have hlt : ¬ l < x := by rw [hl, hx]; exact nI_nlt (by omega) (by omega)
      have hx1 : x + 1 = nI (i + 1) := by rw [hx, nI_1]
      have i1 : i + 1 + u = mFa M 0 := by omega
      have il : i < mFa M 0 := by omega
      have il' : i < mRq M q := by rw [hr]; exact il
      have y0 : G 22 = F 22 := D.fn (by decide)
      have B0 : ∀ j, j < mCq M q → fB b (G 22 j) := fun j hj => by rw [y0]; exact hB j hj
      have M0 : clMd_b M I L G := hM.fl (fun b k hb => D b k (by omega))
      have tx : x.toNatClampNeg = i := by rw [hx, nI_clamp (by omega)]
      have xin : vp_in x 16 := rf_in hx (by omega) (by decide)
      have dB : fB (k + 4) (pMv M q (F 22) i) := pMv_B hm hq il' hB hb hk k1 k2
      have es : FP.fadd (G 19 x.toNatClampNeg) (pMv M q (G 22) i) = FP.fadd (F 19 i) (pMv M q (F 22) i) := by rw [tx, hw i (Nat.le_refl _), y0]
      have eb : fB k' (FP.fadd (G 19 x.toNatClampNeg) (pMv M q (G 22) i)) := by rw [es]; exact (hX i il).add dB hc hk' (by omega) (by omega)
      have V2 : ∀ i', i' < i + 1 → x2 G 19 x.toNatClampNeg (FP.fadd (G 19 x.toNatClampNeg) (pMv M q (G 22) i)) 19 i' = FP.fadd (F 19 i') (pMv M q (F 22) i') ∧ fB k' (x2 G 19 x.toNatClampNeg (FP.fadd (G 19 x.toNatClampNeg) (pMv M q (G 22) i)) 19 i') := by
        intro i' hi'
        rcases Nat.lt_or_ge i' i with y | y
        · rw [x2_o _ _ (by omega)]; exact hv i' y
        · have : i' = i := by omega
          subst this
          rw [show ∀ v, x2 G 19 x.toNatClampNeg v 19 i' = v from fun v => by rw [tx, x2_same]]
          exact ⟨es, eb⟩
      have W2 : ∀ i', i + 1 ≤ i' → x2 G 19 x.toNatClampNeg (FP.fadd (G 19 x.toNatClampNeg) (pMv M q (G 22) i)) 19 i' = F 19 i' := fun i' hi' => by rw [x2_o _ _ (by omega)]; exact hw i' (by omega)
      have gn := eb.n32 (by omega)
      refine XC.block [18] 60 ?_
      refine And.intro (fun z => absurd z hlt) (fun _ => ?_)
      refine And.intro xin ?_
      refine cl_dot_22_b M0 hm hq il' B0 hb hk k1 k2 hqq hx ?_
      refine And.intro gn ?_
      refine And.intro xin ?_
      exact ih (i + 1) i1 _ D.st V2 W2 _ hx1
  refine XC.block [18] 60 ?_
  refine And.intro qin ?_
  refine And.intro tin ?_
  exact loop _ er (mFa M 0) 0 (Nat.zero_add _) F fO.rf (fun i hi => absurd hi (Nat.not_lt_zero _)) (fun _ _ => rfl) _ rfl
theorem cl_add_23_b (hM : clMd_b M I L F) (hm : mGd M) {q b c k k' : Nat} (hq : q < 3 + 9 * mFa M 3) (hr : mRq M q = mFa M 0) (hB : ∀ j, j < mCq M q → fB b (F 23 j)) (hb : b ≤ 276) (hk : 156 + b ≤ k + 149) (k1 : 23 ≤ k) (k2 : k ≤ 272) (hX : ∀ j, j < mFa M 0 → fB c (F 19 j)) (hc : c < k') (hk' : k + 4 < k') (hk2 : k' ≤ 276) {qq : Int32} (hqq : qq = nI q)
    (hQ : ∀ G, fO 19 F G → (∀ i, i < mFa M 0 → G 19 i = FP.fadd (F 19 i) (pMv M q (F 23) i) ∧ fB k' (G 19 i)) → Q none (shG X (md2 T), I, L, G)) : XM xE0 (d + 1) 160 [.ref 58, .int qq, .ref 23, .ref 19] (shG X (md2 T), I, L, F) Q := by
  obtain ⟨q1, q2, q3, q4, q5, q6⟩ := hm.q hq
  obtain ⟨w1, w2, w3, w4⟩ := hM.2.2.2.2.2.2.2.1 _ q2
  have h3 := hm.1.2.2.2.1
  have h0 := hm.1.1
  rw [q4, hr] at w2
  have qin : vp_in qq 21 := rf_in hqq (by omega) (by decide)
  have et : I 62 qq.toNatClampNeg = nI (mNd M q) := by rw [hqq, nI_clamp (by omega)]; exact hM.2.2.2.2.2.2.1 q hq
  have tin : vp_in (I 62 qq.toNatClampNeg) 24 := rf_in et q1 (by decide)
  have er : I 61 (I 62 qq.toNatClampNeg).toNatClampNeg - 1 = nI (mFa M 0 - 1) := by rw [et, nI_clamp (by omega), w2, nI_p1 (by omega)]
  have loop : ∀ l, l = nI (mFa M 0 - 1) → ∀ (u i : Nat), i + u = mFa M 0 → ∀ G, fO 19 F G → (∀ i', i' < i → G 19 i' = FP.fadd (F 19 i') (pMv M q (F 23) i') ∧ fB k' (G 19 i')) → (∀ i', i ≤ i' → G 19 i' = F 19 i') → ∀ x, x = nI i → XC xE0 (d + 1) xM_160 (18, [some (.ref 58), some (.int qq), some (.ref 23), some (.ref 19), some (.int l), some (.int x)], [], (shG X (md2 T), I, L, G)) Q := by
    intro l hl u
    induction u with
    | zero =>
      intro i hi G D hv hw x hx
      have : i = mFa M 0 := by omega
      subst this
      have fin := hQ G D hv
      refine XC.block [18] 60 ?_
      exact And.intro (fun _ => ⟨trivial, fin⟩) (fun z => absurd (show l < x by rw [hl, hx]; exact nI_lt (by omega) (by omega)) z)
    | succ u ih =>
      intro i hi G D hv hw x hx
      have hlt : ¬ l < x := by rw [hl, hx]; exact nI_nlt (by omega) (by omega)
      have hx1 : x + 1 = nI (i + 1) := by rw [hx, nI_1]
      have i1 : i + 1 + u = mFa M 0 := by omega
      have il : i < mFa M 0 := by omega
      have il' : i < mRq M q := by rw [hr]; exact il
      have y0 : G 23 = F 23 := D.fn (by decide)
      have B0 : ∀ j, j < mCq M q → fB b (G 23 j) := fun j hj => by rw [y0]; exact hB j hj
      have M0 : clMd_b M I L G := hM.fl (fun b k hb => D b k (by omega))
      have tx : x.toNatClampNeg = i := by rw [hx, nI_clamp (by omega)]
      have xin : vp_in x 16 := rf_in hx (by omega) (by decide)
      have dB : fB (k + 4) (pMv M q (F 23) i) := pMv_B hm hq il' hB hb hk k1 k2
      have es : FP.fadd (G 19 x.toNatClampNeg) (pMv M q (G 23) i) = FP.fadd (F 19 i) (pMv M q (F 23) i) := by rw [tx, hw i (Nat.le_refl _), y0]
      have eb : fB k' (FP.fadd (G 19 x.toNatClampNeg) (pMv M q (G 23) i)) := by rw [es]; exact (hX i il).add dB hc hk' (by omega) (by omega)
      have V2 : ∀ i', i' < i + 1 → x2 G 19 x.toNatClampNeg (FP.fadd (G 19 x.toNatClampNeg) (pMv M q (G 23) i)) 19 i' = FP.fadd (F 19 i') (pMv M q (F 23) i') ∧ fB k' (x2 G 19 x.toNatClampNeg (FP.fadd (G 19 x.toNatClampNeg) (pMv M q (G 23) i)) 19 i') := by
        intro i' hi'
        rcases Nat.lt_or_ge i' i with y | y
        · rw [x2_o _ _ (by omega)]; exact hv i' y
        · have : i' = i := by omega
          subst this
          rw [show ∀ v, x2 G 19 x.toNatClampNeg v 19 i' = v from fun v => by rw [tx, x2_same]]
          exact ⟨es, eb⟩
      have W2 : ∀ i', i + 1 ≤ i' → x2 G 19 x.toNatClampNeg (FP.fadd (G 19 x.toNatClampNeg) (pMv M q (G 23) i)) 19 i' = F 19 i' := fun i' hi' => by rw [x2_o _ _ (by omega)]; exact hw i' (by omega)
      have gn := eb.n32 (by omega)
      refine XC.block [18] 60 ?_
      refine And.intro (fun z => absurd z hlt) (fun _ => ?_)
      refine And.intro xin ?_
      refine cl_dot_23_b M0 hm hq il' B0 hb hk k1 k2 hqq hx ?_
      refine And.intro gn ?_
      refine And.intro xin ?_
      exact ih (i + 1) i1 _ D.st V2 W2 _ hx1
  refine XC.block [18] 60 ?_
  refine And.intro qin ?_
  refine And.intro tin ?_
  exact loop _ er (mFa M 0) 0 (Nat.zero_add _) F fO.rf (fun i hi => absurd hi (Nat.not_lt_zero _)) (fun _ _ => rfl) _ rfl
theorem cl_norm_b (hM : clMd_b M I L F) (hm : mGd M) {q : Nat} (hq : q < 3 + 9 * mFa M 3) (h1 : mCq M q = mFa M 0) (h2 : mRq M q = 1) (hX : ∀ j, j < mFa M 0 → fB 210 (F 19 j)) {qq : Int32} (hqq : qq = nI q)
    (hQ : ∀ G, fO 20 F G → (∀ j, j < mFa M 0 → G 20 j = pNo M q (F 19) j) → (∀ j, j < mFa M 0 → fB 161 (G 20 j)) → Q none (shG X (md2 T), I, L, G)) : XM xE0 (d + 1) 120 [.ref 18, .ref 51, .int qq] (shG X (md2 T), I, L, F) Q := by
  obtain ⟨q1, q2, q3, q4, q5, q6⟩ := hm.q hq
  have h3 := hm.1.2.2.2.1
  rw [h1] at q3
  rw [h2] at q4
  rw [q3, q4] at q5 q6
  have hd := hm.1.1
  have d16 : mFa M 0 ≤ 16 := by omega
  have he := hm.2.2.2.1.1
  have e17 : I 52 0 = nI (mFa M 0) := hM.1 0 (by decide)
  have qin : vp_in qq 21 := rf_in hqq (by omega) (by decide)
  have et : I 62 qq.toNatClampNeg = nI (mNd M q) := by rw [hqq, nI_clamp (by omega)]; exact hM.2.2.2.2.2.2.1 q hq
  have fin := (pNm_ok (W := mWt M (mNd M q)) hX hd he)
  have c76 : ∀ t, t = nI (mNd M q) → ∀ m r, r = pNr (F 19) (mFa M 0) (mEp M) → ∀ (u i : Nat), i + u = mFa M 0 → ∀ G, fO 20 F G → (∀ l, l < i → G 20 l = pNo M q (F 19) l) → ∀ x, x = nI i → XC xE0 (d + 1) xM_120 (76, [some (.ref 18), some (.ref 51), some (.int qq), some (.int (I 52 0)), some (.int t), some (.float m), some (.float r), some (.int x)], [], (shG X (md2 T), I, L, G)) Q := by
    intro t ht m r hr u
    induction u with
    | zero =>
      intro i hi G D hv x hx
      have : i = mFa M 0 := by omega
      subst this
      have hb : ∀ j, j < mFa M 0 → fB 161 (G 20 j) := fun j hj => by
        rw [hv j hj]
        have w := (q6 0 j (by decide) hj).2
        rw [Nat.zero_mul, Nat.zero_add] at w
        exact ((fin.2 j hj).2 w)
      refine XC.block [76] 60 ?_
      exact And.intro (fun _ => ⟨trivial, hQ G D hv hb⟩) (fun z => absurd (show I 52 0 ≤ x by rw [e17, hx]; exact nI_le (by omega) (by omega)) z)
    | succ u ih =>
      intro i hi G D hv x hx
      have hlt : ¬ I 52 0 ≤ x := by rw [e17, hx]; exact nI_ge (by omega) (by omega)
      have hx1 : x + 1 = nI (i + 1) := by rw [hx, nI_1]
      have i1 : i + 1 + u = mFa M 0 := by omega
      have li := q6 0 i (by decide) (by omega)
      rw [Nat.zero_mul, Nat.zero_add] at li
      have M0 : clMd_b M I L G := hM.fl (fun b k hb => D b k (by omega))
      have ex : G 19 x.toNatClampNeg = F 19 i := by rw [hx, nI_clamp (by omega), D 19 _ (by decide)]
      have xin : vp_in x 16 := rf_in hx (by omega) (by decide)
      have g1 : vf_n32 (FP.fmul (G 19 x.toNatClampNeg) r) := by rw [ex, hr]; exact (fin.2 i (by omega)).1.n32 (by decide)
      have ew : mWt M (mNd M q) (0 * mCo M (mNd M q) + i) = mWt M (mNd M q) i := by rw [Nat.zero_mul, Nat.zero_add]
      have ep : FP.fmul (FP.fmul (G 19 x.toNatClampNeg) r) (mWt M (mNd M q) (0 * mCo M (mNd M q) + i)) = pNo M q (F 19) i := by rw [ew, ex, hr]; rfl
      have g2 : vf_n32 (FP.fmul (FP.fmul (G 19 x.toNatClampNeg) r) (mWt M (mNd M q) (0 * mCo M (mNd M q) + i))) := by rw [ep]; exact ((fin.2 i (by omega)).2 li.2).n32 (by decide)
      have hv2 := x2_fill (k := x.toNatClampNeg) hv (by rw [hx, nI_clamp (by omega)]) ep
      have r0 : 0 < mRo M (mNd M q) := by rw [q4]; decide
      have c0 : i < mCo M (mNd M q) := by rw [q3]; omega
      refine XC.block [76] 60 ?_
      refine And.intro (fun z => absurd z hlt) (fun _ => ?_)
      refine And.intro xin ?_
      refine And.intro g1 ?_
      refine cl_att_b M0 hm q2 r0 c0 ht rfl hx ?_
      refine And.intro g2 ?_
      refine And.intro xin ?_
      exact ih (i + 1) i1 _ D.st hv2 _ hx1
  have nq := pNq_ok hX hd
  have nv := pNv_ok hX hd he
  have c56 : ∀ t, t = nI (mNd M q) → ∀ m, m = pS (pSq (F 19)) (mFa M 0) → ∀ x4, XC xE0 (d + 1) xM_120 (56, [some (.ref 18), some (.ref 51), some (.int qq), some (.int (I 52 0)), some (.int t), some (.float m), some (.int x4), none], [], (shG X (md2 T), I, L, F)) Q := by
    intro t ht m hm' x4
    subst hm'
    have g1 : vf_n32 (FP.fdiv (pS (pSq (F 19)) (mFa M 0)) (FP.i2f (I 52 0))) := by rw [e17]; exact nq.1.n32 (by decide)
    have ev : FP.fadd (FP.fdiv (pS (pSq (F 19)) (mFa M 0)) (FP.i2f (I 52 0))) (F 51 3) = pNv (F 19) (mFa M 0) (mEp M) := by rw [e17, hM.2.2.2.2.2.2.2.2.1]; rfl
    have g2 : vf_n32 (FP.fadd (FP.fdiv (pS (pSq (F 19)) (mFa M 0)) (FP.i2f (I 52 0))) (F 51 3)) := by rw [ev]; exact nv.1.n32 (by decide)
    have c67 : ∀ v, v = pNv (F 19) (mFa M 0) (mEp M) → XC xE0 (d + 1) xM_120 (67, [some (.ref 18), some (.ref 51), some (.int qq), some (.int (I 52 0)), some (.int t), some (.float (pS (pSq (F 19)) (mFa M 0))), some (.int x4), none], [.float v, .float FP.fconst1], (shG X (md2 T), I, L, F)) Q := by
      intro v hv
      subst hv
      refine XC.block [76] 60 ?_
      refine fn_root_c nv ?_
      exact And.intro fin.1.n32 (c76 t ht _ _ rfl (mFa M 0) 0 (Nat.zero_add _) F fO.rf (fun l hl => absurd hl (Nat.not_lt_zero _)) _ rfl)
    refine XC.block [67] 60 ?_
    refine And.intro g1 ?_
    refine And.intro g2 ?_
    exact c67 _ ev
  have c24 : ∀ t, t = nI (mNd M q) → ∀ (u i : Nat), i + u = mFa M 0 → ∀ a, a = pS (pSq (F 19)) i → ∀ x, x = nI i → XC xE0 (d + 1) xM_120 (24, [some (.ref 18), some (.ref 51), some (.int qq), some (.int (I 52 0)), some (.int t), some (.float a), some (.int x), none], [], (shG X (md2 T), I, L, F)) Q := by
    intro t ht u
    induction u with
    | zero =>
      intro i hi a ha x hx
      have : i = mFa M 0 := by omega
      subst this
      refine XC.block [24, 56] 60 ?_
      exact And.intro (fun _ => c56 t ht _ ha _) (fun z => absurd (show I 52 0 ≤ x by rw [e17, hx]; exact nI_le (by omega) (by omega)) z)
    | succ u ih =>
      intro i hi a ha x hx
      have hlt : ¬ I 52 0 ≤ x := by rw [e17, hx]; exact nI_ge (by omega) (by omega)
      have hx1 : x + 1 = nI (i + 1) := by rw [hx, nI_1]
      have i1 : i + 1 + u = mFa M 0 := by omega
      have ex : F 19 x.toNatClampNeg = F 19 i := by rw [hx, nI_clamp (by omega)]
      have xin : vp_in x 16 := rf_in hx (by omega) (by decide)
      have g1 : vf_n32 (FP.fmul (F 19 x.toNatClampNeg) (F 19 x.toNatClampNeg)) := by rw [ex]; exact (pSq_ok hX i (by omega)).n32 (by decide)
      have es : FP.fadd a (FP.fmul (F 19 x.toNatClampNeg) (F 19 x.toNatClampNeg)) = pS (pSq (F 19)) (i + 1) := by rw [ex, ha]; rfl
      have g2 : vf_n32 (FP.fadd a (FP.fmul (F 19 x.toNatClampNeg) (F 19 x.toNatClampNeg))) := by rw [es]; exact (pSq_F hX hd (i + 1) (by omega)).n32
      refine XC.block [24, 56] 60 ?_
      refine And.intro (fun z => absurd z hlt) (fun _ => ?_)
      refine And.intro xin ?_
      refine And.intro xin ?_
      refine And.intro g1 ?_
      refine And.intro g2 ?_
      exact ih (i + 1) i1 _ es _ hx1
  have v0 : vp_in (0 : Int32) 12 := rf_in (j := 0) rfl (by decide) (by decide)
  refine XC.block [24] 60 ?_
  refine And.intro v0 ?_
  refine And.intro qin ?_
  exact c24 _ et (mFa M 0) 0 (Nat.zero_add _) _ rfl _ rfl
end NEA_b
