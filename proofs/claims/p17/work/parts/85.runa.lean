/-! a MODEL that a step can run on; DOT and NORM of the reference on paper -/
/-- facts of a sound MODEL -/
def mGs (M : pMd) : Prop := (mFa M 0 = 8 ∨ mFa M 0 = 16) ∧ (mFa M 1 = 1 ∨ mFa M 1 = 2 ∨ mFa M 1 = 4) ∧ (1 ≤ mFa M 2 ∧ mFa M 1 % mFa M 2 = 0) ∧ (1 ≤ mFa M 3 ∧ mFa M 3 ≤ 2) ∧ (mFa M 4 = 8 ∨ mFa M 4 = 16) ∧ (2 ≤ mFa M 5 ∧ mFa M 5 ≤ 8) ∧ (2 ≤ mFa M 6 ∧ mFa M 6 ≤ 16) ∧ mFa M 7 ≤ 12 ∧ mFa M 8 < mFa M 6 ∧ mFa M 10 ≤ 24
/-- its TENSORS -/
def mGt (M : pMd) : Prop := ∀ i, i < mFa M 10 → (1 ≤ mCo M i ∧ mCo M i ≤ 16) ∧ (1 ≤ mRo M i ∧ mRo M i ≤ 16) ∧ mBg M i + mCo M i * mRo M i ≤ 1866 ∧ ∀ s, s < mCo M i * mRo M i → fB 156 (mWt M i s)
def mCq (M : pMd) (q : Nat) : Nat := if q < 3 then mFa M 0 else if (q - 3) % 9 = 8 then mFa M 4 else mFa M 0
def mKw (M : pMd) : Nat := mFa M 0 / mFa M 1 * mFa M 2
def mRq (M : pMd) (q : Nat) : Nat := if q < 3 then [mFa M 6, 1, mFa M 6].getD q 0 else [1, mFa M 0, mKw M, mKw M, mFa M 0, 1, mFa M 4, mFa M 4, mFa M 0].getD ((q - 3) % 9) 0
/-- the TENSORS that a step needs -/
def mGn (M : pMd) : Prop := ∀ q, q < 3 + 9 * mFa M 3 → mNd M q < mFa M 10 ∧ mCo M (mNd M q) = mCq M q ∧ mRo M (mNd M q) = mRq M q
/-- its words -/
def mGw (M : pMd) : Prop := (∀ i, i < mFa M 6 → (1 ≤ mTl M i ∧ mTl M i ≤ 4) ∧ ∀ j, j < mTl M i → mTc M i j < 256) ∧ ∀ i, i < mFa M 7 → mMa M i < mFa M 6 ∧ mMb M i < mFa M 6 ∧ mMt M i < mFa M 6
def mGd (M : pMd) : Prop := mGs M ∧ mGt M ∧ mGn M ∧ (fEp (mEp M) ∧ fBa (mBa M)) ∧ mGw M
/-- a TENSOR's product with a row -/
def pMv (M : pMd) (q : Nat) (Y : Nat → UInt32) (i : Nat) : UInt32 := pDt (fun j => mWt M (mNd M q) (i * mCo M (mNd M q) + j)) Y (mCo M (mNd M q))
def pNo (M : pMd) (q : Nat) (X : Nat → UInt32) : Nat → UInt32 := pNm X (mFa M 0) (mEp M) (mWt M (mNd M q))
theorem mGd.q {M : pMd} (h : mGd M) {q : Nat} (hq : q < 3 + 9 * mFa M 3) : mNd M q < 24 ∧ mNd M q < mFa M 10 ∧ mCo M (mNd M q) = mCq M q ∧ mRo M (mNd M q) = mRq M q ∧ mBg M (mNd M q) + mCo M (mNd M q) * mRo M (mNd M q) ≤ 1866 ∧ ∀ r j, r < mRo M (mNd M q) → j < mCo M (mNd M q) → r * mCo M (mNd M q) + j < mCo M (mNd M q) * mRo M (mNd M q) ∧ fB 156 (mWt M (mNd M q) (r * mCo M (mNd M q) + j)) := by
  obtain ⟨n1, n2, n3⟩ := h.2.2.1 q hq
  obtain ⟨t1, t2, t3, t4⟩ := h.2.1 _ n1
  refine ⟨Nat.lt_of_lt_of_le n1 h.1.2.2.2.2.2.2.2.2.2, n1, n2, n3, t3, fun r j hr hj => ?_⟩
  have lt : r * mCo M (mNd M q) + j < mCo M (mNd M q) * mRo M (mNd M q) := by
    refine Nat.lt_of_lt_of_le (Nat.add_lt_add_left hj _) ?_
    rw [← Nat.succ_mul, Nat.mul_comm]
    exact Nat.mul_le_mul_left _ hr
  exact ⟨lt, t4 _ lt⟩
theorem mCq_le {M : pMd} (h : mGd M) {q : Nat} : mCq M q ≤ 16 := by
  unfold mCq
  obtain ⟨h0, -, -, -, h4, -⟩ := h.1
  split
  · omega
  · split <;> omega
/-- nothing but cell c changes -/
def fO (c : Nat) (F G : Nat → Nat → UInt32) : Prop := ∀ b k, b ≠ c → G b k = F b k
theorem fO.rf {c : Nat} {F : Nat → Nat → UInt32} : fO c F F := fun _ _ _ => rfl
theorem fO.st {c k : Nat} {F G : Nat → Nat → UInt32} {x : UInt32} (h : fO c F G) : fO c F (x2 G c k x) := fun b k' hb => (x2_o _ _ (fun e => hb e.1)).trans (h b k' hb)
theorem fO.fn {c : Nat} {F G : Nat → Nat → UInt32} (h : fO c F G) {b : Nat} (hb : b ≠ c) : G b = F b := funext fun k => h b k hb
theorem x2_fill {G : Nat → Nat → UInt32} {f : Nat → UInt32} {c i k : Nat} (h : ∀ l, l < i → G c l = f l) (hk : k = i) {x : UInt32} (hx : x = f i) : ∀ l, l < i + 1 → x2 G c k x c l = f l := by
  intro l hl
  rcases Nat.lt_or_ge l i with y | y
  · rw [x2_o _ _ (by omega)]; exact h l y
  · have : l = i := by omega
    subst this
    rw [hk, x2_same]; exact hx
section RUA
variable {M : pMd} {I J : Nat → Nat → Int32} {L : Nat → Nat → Int64} {F G : Nat → Nat → UInt32} {d : Nat} {Q : xP}
theorem rfMd.fl (h : rfMd M I F) (a : ∀ b k, b < 32 → G b k = F b k) : rfMd M I G := ⟨h.1, h.2.1, h.2.2.1, h.2.2.2.1, h.2.2.2.2.1, fun i hi => ⟨(h.2.2.2.2.2.1 i hi).1, (h.2.2.2.2.2.1 i hi).2.1, (h.2.2.2.2.2.1 i hi).2.2.1, fun s hs => (a 27 _ (by decide)).trans ((h.2.2.2.2.2.1 i hi).2.2.2 s hs)⟩, (a 0 39 (by decide)).trans h.2.2.2.2.2.2.1, (a 0 40 (by decide)).trans h.2.2.2.2.2.2.2⟩
theorem rfMd.fO {c : Nat} (h : rfMd M I F) (a : fO c F G) (hc : 32 ≤ c) : rfMd M I G := h.fl (fun b k hb => a b k (by omega))
theorem rf_dot_33 (hM : rfMd M I F) (hm : mGd M) {q r b k : Nat} (hq : q < 3 + 9 * mFa M 3) (hr : r < mRq M q) (hB : ∀ j, j < mCq M q → fB b (F 33 j)) (hb : b ≤ 276) (hk : 156 + b ≤ k + 149) (k1 : 23 ≤ k) (k2 : k ≤ 272) {t rr : Int32} (ht : t = nI (mNd M q)) (hrr : rr = nI r) (hQ : Q (some (.float (pMv M q (F 33) r))) (sh2, I, L, F)) : XM xE0 d 65 [.ref 0, .int t, .int rr, .ref 33] (sh2, I, L, F) Q := by
  obtain ⟨q1, q2, q3, q4, q5, q6⟩ := hm.q hq
  obtain ⟨w1, w2, w3, w4⟩ := hM.2.2.2.2.2.1 _ q2
  have c16 : mCo M (mNd M q) ≤ 16 := by rw [q3]; exact mCq_le hm
  have r16 : mRo M (mNd M q) ≤ 16 := (hm.2.1 _ q2).2.1.2
  rw [← q4] at hr
  rw [← q3] at hB
  have e24 : I 24 t.toNatClampNeg = nI (mCo M (mNd M q)) := by rw [ht, nI_clamp (by omega)]; exact w1
  have e26 : I 26 t.toNatClampNeg = nI (mBg M (mNd M q)) := by rw [ht, nI_clamp (by omega)]; exact w3
  have tin : vp_in t 24 := rf_in ht q1 (by decide)
  have hA : ∀ j, j < mCo M (mNd M q) → fB 156 (mWt M (mNd M q) (r * mCo M (mNd M q) + j)) := fun j hj => (q6 r j hr hj).2
  have loop : ∀ (u i : Nat), i + u = mCo M (mNd M q) → ∀ a, a = pDt (fun j => mWt M (mNd M q) (r * mCo M (mNd M q) + j)) (F 33) i → ∀ x, x = nI i → XC xE0 d xM_65 (6, [some (.ref 0), some (.int t), some (.int rr), some (.ref 33), some (.float a), some (.int x)], [], (sh2, I, L, F)) Q := by
    intro u
    induction u with
    | zero =>
      intro i hi a ha x hx
      have : i = mCo M (mNd M q) := by omega
      subst this
      subst ha
      refine XC.block [6] 60 ?_
      refine And.intro tin ?_
      exact And.intro (fun _ => ⟨trivial, hQ⟩) (fun z => absurd (show I 24 t.toNatClampNeg ≤ x by rw [e24, hx]; exact nI_le (by omega) (by omega)) z)
    | succ u ih =>
      intro i hi a ha x hx
      have hlt : ¬ I 24 t.toNatClampNeg ≤ x := by rw [e24, hx]; exact nI_ge (by omega) (by omega)
      have hx1 : x + 1 = nI (i + 1) := by rw [hx, nI_1]
      have i1 : i + 1 + u = mCo M (mNd M q) := by omega
      have li := (q6 r i hr (by omega)).1
      have ei : I 26 t.toNatClampNeg + rr * I 24 t.toNatClampNeg + x = nI (mBg M (mNd M q) + (r * mCo M (mNd M q) + i)) := by rw [e26, e24, hrr, hx, nI_mul, nI_add, nI_add, Nat.add_assoc]
      have win : vp_in (I 26 t.toNatClampNeg + rr * I 24 t.toNatClampNeg + x) 2900 := rf_in ei (by omega) (by decide)
      have ew : F 27 (I 26 t.toNatClampNeg + rr * I 24 t.toNatClampNeg + x).toNatClampNeg = mWt M (mNd M q) (r * mCo M (mNd M q) + i) := by rw [ei, nI_clamp (by omega)]; exact w4 _ li
      have ey : F 33 x.toNatClampNeg = F 33 i := by rw [hx, nI_clamp (by omega)]
      have yin : vp_in x 16 := rf_in hx (by omega) (by decide)
      have g1 : vf_n32 (FP.fmul (F 27 (I 26 t.toNatClampNeg + rr * I 24 t.toNatClampNeg + x).toNatClampNeg) (F 33 x.toNatClampNeg)) := by
        rw [ew, ey]; exact ((pDt_m hA hB (by decide) hb hk k1 k2) i (by omega)).n32 (by omega)
      have es : FP.fadd a (FP.fmul (F 27 (I 26 t.toNatClampNeg + rr * I 24 t.toNatClampNeg + x).toNatClampNeg) (F 33 x.toNatClampNeg)) = pDt (fun j => mWt M (mNd M q) (r * mCo M (mNd M q) + j)) (F 33) (i + 1) := by rw [ew, ey, ha]; rfl
      have g2 : vf_n32 (FP.fadd a (FP.fmul (F 27 (I 26 t.toNatClampNeg + rr * I 24 t.toNatClampNeg + x).toNatClampNeg) (F 33 x.toNatClampNeg))) := by
        rw [es]; exact (pDt_F hA hB (by decide) hb hk k1 k2 c16 (i + 1) (by omega)).n32
      refine XC.block [6] 60 ?_
      refine And.intro tin ?_
      refine And.intro (fun z => absurd z hlt) (fun _ => ?_)
      refine And.intro tin ?_
      refine And.intro tin ?_
      refine And.intro win ?_
      refine And.intro yin ?_
      refine And.intro g1 ?_
      refine And.intro g2 ?_
      exact ih (i + 1) i1 _ es _ hx1
  refine XC.block [6] 60 ?_
  exact loop (mCo M (mNd M q)) 0 (Nat.zero_add _) _ rfl _ rfl
theorem rf_dot_37 (hM : rfMd M I F) (hm : mGd M) {q r b k : Nat} (hq : q < 3 + 9 * mFa M 3) (hr : r < mRq M q) (hB : ∀ j, j < mCq M q → fB b (F 37 j)) (hb : b ≤ 276) (hk : 156 + b ≤ k + 149) (k1 : 23 ≤ k) (k2 : k ≤ 272) {t rr : Int32} (ht : t = nI (mNd M q)) (hrr : rr = nI r) (hQ : Q (some (.float (pMv M q (F 37) r))) (sh2, I, L, F)) : XM xE0 d 65 [.ref 0, .int t, .int rr, .ref 37] (sh2, I, L, F) Q := by
  obtain ⟨q1, q2, q3, q4, q5, q6⟩ := hm.q hq
  obtain ⟨w1, w2, w3, w4⟩ := hM.2.2.2.2.2.1 _ q2
  have c16 : mCo M (mNd M q) ≤ 16 := by rw [q3]; exact mCq_le hm
  have r16 : mRo M (mNd M q) ≤ 16 := (hm.2.1 _ q2).2.1.2
  rw [← q4] at hr
  rw [← q3] at hB
  have e24 : I 24 t.toNatClampNeg = nI (mCo M (mNd M q)) := by rw [ht, nI_clamp (by omega)]; exact w1
  have e26 : I 26 t.toNatClampNeg = nI (mBg M (mNd M q)) := by rw [ht, nI_clamp (by omega)]; exact w3
  have tin : vp_in t 24 := rf_in ht q1 (by decide)
  have hA : ∀ j, j < mCo M (mNd M q) → fB 156 (mWt M (mNd M q) (r * mCo M (mNd M q) + j)) := fun j hj => (q6 r j hr hj).2
  have loop : ∀ (u i : Nat), i + u = mCo M (mNd M q) → ∀ a, a = pDt (fun j => mWt M (mNd M q) (r * mCo M (mNd M q) + j)) (F 37) i → ∀ x, x = nI i → XC xE0 d xM_65 (6, [some (.ref 0), some (.int t), some (.int rr), some (.ref 37), some (.float a), some (.int x)], [], (sh2, I, L, F)) Q := by
    intro u
    induction u with
    | zero =>
      intro i hi a ha x hx
      have : i = mCo M (mNd M q) := by omega
      subst this
      subst ha
      refine XC.block [6] 60 ?_
      refine And.intro tin ?_
      exact And.intro (fun _ => ⟨trivial, hQ⟩) (fun z => absurd (show I 24 t.toNatClampNeg ≤ x by rw [e24, hx]; exact nI_le (by omega) (by omega)) z)
    | succ u ih =>
      intro i hi a ha x hx
      have hlt : ¬ I 24 t.toNatClampNeg ≤ x := by rw [e24, hx]; exact nI_ge (by omega) (by omega)
      have hx1 : x + 1 = nI (i + 1) := by rw [hx, nI_1]
      have i1 : i + 1 + u = mCo M (mNd M q) := by omega
      have li := (q6 r i hr (by omega)).1
      have ei : I 26 t.toNatClampNeg + rr * I 24 t.toNatClampNeg + x = nI (mBg M (mNd M q) + (r * mCo M (mNd M q) + i)) := by rw [e26, e24, hrr, hx, nI_mul, nI_add, nI_add, Nat.add_assoc]
      have win : vp_in (I 26 t.toNatClampNeg + rr * I 24 t.toNatClampNeg + x) 2900 := rf_in ei (by omega) (by decide)
      have ew : F 27 (I 26 t.toNatClampNeg + rr * I 24 t.toNatClampNeg + x).toNatClampNeg = mWt M (mNd M q) (r * mCo M (mNd M q) + i) := by rw [ei, nI_clamp (by omega)]; exact w4 _ li
      have ey : F 37 x.toNatClampNeg = F 37 i := by rw [hx, nI_clamp (by omega)]
      have yin : vp_in x 16 := rf_in hx (by omega) (by decide)
      have g1 : vf_n32 (FP.fmul (F 27 (I 26 t.toNatClampNeg + rr * I 24 t.toNatClampNeg + x).toNatClampNeg) (F 37 x.toNatClampNeg)) := by
        rw [ew, ey]; exact ((pDt_m hA hB (by decide) hb hk k1 k2) i (by omega)).n32 (by omega)
      have es : FP.fadd a (FP.fmul (F 27 (I 26 t.toNatClampNeg + rr * I 24 t.toNatClampNeg + x).toNatClampNeg) (F 37 x.toNatClampNeg)) = pDt (fun j => mWt M (mNd M q) (r * mCo M (mNd M q) + j)) (F 37) (i + 1) := by rw [ew, ey, ha]; rfl
      have g2 : vf_n32 (FP.fadd a (FP.fmul (F 27 (I 26 t.toNatClampNeg + rr * I 24 t.toNatClampNeg + x).toNatClampNeg) (F 37 x.toNatClampNeg))) := by
        rw [es]; exact (pDt_F hA hB (by decide) hb hk k1 k2 c16 (i + 1) (by omega)).n32
      refine XC.block [6] 60 ?_
      refine And.intro tin ?_
      refine And.intro (fun z => absurd z hlt) (fun _ => ?_)
      refine And.intro tin ?_
      refine And.intro tin ?_
      refine And.intro win ?_
      refine And.intro yin ?_
      refine And.intro g1 ?_
      refine And.intro g2 ?_
      exact ih (i + 1) i1 _ es _ hx1
  refine XC.block [6] 60 ?_
  exact loop (mCo M (mNd M q)) 0 (Nat.zero_add _) _ rfl _ rfl
theorem rf_dot_38 (hM : rfMd M I F) (hm : mGd M) {q r b k : Nat} (hq : q < 3 + 9 * mFa M 3) (hr : r < mRq M q) (hB : ∀ j, j < mCq M q → fB b (F 38 j)) (hb : b ≤ 276) (hk : 156 + b ≤ k + 149) (k1 : 23 ≤ k) (k2 : k ≤ 272) {t rr : Int32} (ht : t = nI (mNd M q)) (hrr : rr = nI r) (hQ : Q (some (.float (pMv M q (F 38) r))) (sh2, I, L, F)) : XM xE0 d 65 [.ref 0, .int t, .int rr, .ref 38] (sh2, I, L, F) Q := by
  obtain ⟨q1, q2, q3, q4, q5, q6⟩ := hm.q hq
  obtain ⟨w1, w2, w3, w4⟩ := hM.2.2.2.2.2.1 _ q2
  have c16 : mCo M (mNd M q) ≤ 16 := by rw [q3]; exact mCq_le hm
  have r16 : mRo M (mNd M q) ≤ 16 := (hm.2.1 _ q2).2.1.2
  rw [← q4] at hr
  rw [← q3] at hB
  have e24 : I 24 t.toNatClampNeg = nI (mCo M (mNd M q)) := by rw [ht, nI_clamp (by omega)]; exact w1
  have e26 : I 26 t.toNatClampNeg = nI (mBg M (mNd M q)) := by rw [ht, nI_clamp (by omega)]; exact w3
  have tin : vp_in t 24 := rf_in ht q1 (by decide)
  have hA : ∀ j, j < mCo M (mNd M q) → fB 156 (mWt M (mNd M q) (r * mCo M (mNd M q) + j)) := fun j hj => (q6 r j hr hj).2
  have loop : ∀ (u i : Nat), i + u = mCo M (mNd M q) → ∀ a, a = pDt (fun j => mWt M (mNd M q) (r * mCo M (mNd M q) + j)) (F 38) i → ∀ x, x = nI i → XC xE0 d xM_65 (6, [some (.ref 0), some (.int t), some (.int rr), some (.ref 38), some (.float a), some (.int x)], [], (sh2, I, L, F)) Q := by
    intro u
    induction u with
    | zero =>
      intro i hi a ha x hx
      have : i = mCo M (mNd M q) := by omega
      subst this
      subst ha
      refine XC.block [6] 60 ?_
      refine And.intro tin ?_
      exact And.intro (fun _ => ⟨trivial, hQ⟩) (fun z => absurd (show I 24 t.toNatClampNeg ≤ x by rw [e24, hx]; exact nI_le (by omega) (by omega)) z)
    | succ u ih =>
      intro i hi a ha x hx
      have hlt : ¬ I 24 t.toNatClampNeg ≤ x := by rw [e24, hx]; exact nI_ge (by omega) (by omega)
      have hx1 : x + 1 = nI (i + 1) := by rw [hx, nI_1]
      have i1 : i + 1 + u = mCo M (mNd M q) := by omega
      have li := (q6 r i hr (by omega)).1
      have ei : I 26 t.toNatClampNeg + rr * I 24 t.toNatClampNeg + x = nI (mBg M (mNd M q) + (r * mCo M (mNd M q) + i)) := by rw [e26, e24, hrr, hx, nI_mul, nI_add, nI_add, Nat.add_assoc]
      have win : vp_in (I 26 t.toNatClampNeg + rr * I 24 t.toNatClampNeg + x) 2900 := rf_in ei (by omega) (by decide)
      have ew : F 27 (I 26 t.toNatClampNeg + rr * I 24 t.toNatClampNeg + x).toNatClampNeg = mWt M (mNd M q) (r * mCo M (mNd M q) + i) := by rw [ei, nI_clamp (by omega)]; exact w4 _ li
      have ey : F 38 x.toNatClampNeg = F 38 i := by rw [hx, nI_clamp (by omega)]
      have yin : vp_in x 16 := rf_in hx (by omega) (by decide)
      have g1 : vf_n32 (FP.fmul (F 27 (I 26 t.toNatClampNeg + rr * I 24 t.toNatClampNeg + x).toNatClampNeg) (F 38 x.toNatClampNeg)) := by
        rw [ew, ey]; exact ((pDt_m hA hB (by decide) hb hk k1 k2) i (by omega)).n32 (by omega)
      have es : FP.fadd a (FP.fmul (F 27 (I 26 t.toNatClampNeg + rr * I 24 t.toNatClampNeg + x).toNatClampNeg) (F 38 x.toNatClampNeg)) = pDt (fun j => mWt M (mNd M q) (r * mCo M (mNd M q) + j)) (F 38) (i + 1) := by rw [ew, ey, ha]; rfl
      have g2 : vf_n32 (FP.fadd a (FP.fmul (F 27 (I 26 t.toNatClampNeg + rr * I 24 t.toNatClampNeg + x).toNatClampNeg) (F 38 x.toNatClampNeg))) := by
        rw [es]; exact (pDt_F hA hB (by decide) hb hk k1 k2 c16 (i + 1) (by omega)).n32
      refine XC.block [6] 60 ?_
      refine And.intro tin ?_
      refine And.intro (fun z => absurd z hlt) (fun _ => ?_)
      refine And.intro tin ?_
      refine And.intro tin ?_
      refine And.intro win ?_
      refine And.intro yin ?_
      refine And.intro g1 ?_
      refine And.intro g2 ?_
      exact ih (i + 1) i1 _ es _ hx1
  refine XC.block [6] 60 ?_
  exact loop (mCo M (mNd M q)) 0 (Nat.zero_add _) _ rfl _ rfl
theorem rf_norm (hM : rfMd M I F) (hm : mGd M) {q : Nat} (hq : q < 3 + 9 * mFa M 3) (h1 : mCq M q = mFa M 0) (h2 : mRq M q = 1) (hX : ∀ j, j < mFa M 0 → fB 210 (F 32 j)) {t : Int32} (ht : t = nI (mNd M q))
    (hQ : ∀ G, fO 33 F G → (∀ j, j < mFa M 0 → G 33 j = pNo M q (F 32) j) → (∀ j, j < mFa M 0 → fB 161 (G 33 j)) → Q none (sh2, I, L, G)) : XM xE0 (d + 1) 64 [.ref 0, .int t] (sh2, I, L, F) Q := by
  obtain ⟨q1, q2, q3, q4, q5, q6⟩ := hm.q hq
  rw [h1] at q3
  rw [h2] at q4
  rw [q3, q4] at q5 q6
  obtain ⟨w1, w2, w3, w4⟩ := hM.2.2.2.2.2.1 _ q2
  rw [q3, q4] at w4
  have hd := hm.1.1
  have d16 : mFa M 0 ≤ 16 := by omega
  have he := hm.2.2.2.1.1
  have e17 : I 17 0 = nI (mFa M 0) := hM.2.1 0 (by decide)
  have e26 : I 26 t.toNatClampNeg = nI (mBg M (mNd M q)) := by rw [ht, nI_clamp (by omega)]; exact w3
  have tin : vp_in t 24 := rf_in ht q1 (by decide)
  have fin := (pNm_ok (W := mWt M (mNd M q)) hX hd he)
  have c63 : ∀ m r, r = pNr (F 32) (mFa M 0) (mEp M) → ∀ (u i : Nat), i + u = mFa M 0 → ∀ G, fO 33 F G → (∀ l, l < i → G 33 l = pNo M q (F 32) l) → ∀ x, x = nI i → XC xE0 (d + 1) xM_64 (63, [some (.ref 0), some (.int t), some (.int (I 17 0)), some (.float m), some (.float r), some (.int x)], [], (sh2, I, L, G)) Q := by
    intro m r hr u
    induction u with
    | zero =>
      intro i hi G D hv x hx
      have : i = mFa M 0 := by omega
      subst this
      have hb : ∀ j, j < mFa M 0 → fB 161 (G 33 j) := fun j hj => by
        rw [hv j hj]
        have w := (q6 0 j (by decide) hj).2
        rw [Nat.zero_mul, Nat.zero_add] at w
        exact ((fin.2 j hj).2 w)
      refine XC.block [63] 60 ?_
      exact And.intro (fun _ => ⟨trivial, hQ G D hv hb⟩) (fun z => absurd (show I 17 0 ≤ x by rw [e17, hx]; exact nI_le (by omega) (by omega)) z)
    | succ u ih =>
      intro i hi G D hv x hx
      have hlt : ¬ I 17 0 ≤ x := by rw [e17, hx]; exact nI_ge (by omega) (by omega)
      have hx1 : x + 1 = nI (i + 1) := by rw [hx, nI_1]
      have i1 : i + 1 + u = mFa M 0 := by omega
      have li := q6 0 i (by decide) (by omega)
      rw [Nat.zero_mul, Nat.zero_add] at li
      have ei : I 26 t.toNatClampNeg + x = nI (mBg M (mNd M q) + i) := by rw [e26, hx, nI_add]
      have win : vp_in (I 26 t.toNatClampNeg + x) 2900 := rf_in ei (by omega) (by decide)
      have ew : G 27 (I 26 t.toNatClampNeg + x).toNatClampNeg = mWt M (mNd M q) i := by rw [ei, nI_clamp (by omega), D 27 _ (by decide)]; exact w4 _ li.1
      have ex : G 32 x.toNatClampNeg = F 32 i := by rw [hx, nI_clamp (by omega), D 32 _ (by decide)]
      have xin : vp_in x 16 := rf_in hx (by omega) (by decide)
      have g1 : vf_n32 (FP.fmul (G 32 x.toNatClampNeg) r) := by rw [ex, hr]; exact (fin.2 i (by omega)).1.n32 (by decide)
      have ep : FP.fmul (FP.fmul (G 32 x.toNatClampNeg) r) (G 27 (I 26 t.toNatClampNeg + x).toNatClampNeg) = pNo M q (F 32) i := by rw [ew, ex, hr]; rfl
      have g2 : vf_n32 (FP.fmul (FP.fmul (G 32 x.toNatClampNeg) r) (G 27 (I 26 t.toNatClampNeg + x).toNatClampNeg)) := by rw [ep]; exact ((fin.2 i (by omega)).2 li.2).n32 (by decide)
      have hv2 := x2_fill (k := x.toNatClampNeg) hv (by rw [hx, nI_clamp (by omega)]) ep
      refine XC.block [63] 60 ?_
      refine And.intro (fun z => absurd z hlt) (fun _ => ?_)
      refine And.intro xin ?_
      refine And.intro g1 ?_
      refine And.intro tin ?_
      refine And.intro win ?_
      refine And.intro g2 ?_
      refine And.intro xin ?_
      exact ih (i + 1) i1 _ D.st hv2 _ hx1
  have nq := pNq_ok hX hd
  have nv := pNv_ok hX hd he
  have c42 : ∀ m, m = pS (pSq (F 32)) (mFa M 0) → ∀ x4, XC xE0 (d + 1) xM_64 (42, [some (.ref 0), some (.int t), some (.int (I 17 0)), some (.float m), some (.int x4), none], [], (sh2, I, L, F)) Q := by
    intro m hm' x4
    subst hm'
    have g1 : vf_n32 (FP.fdiv (pS (pSq (F 32)) (mFa M 0)) (FP.i2f (I 17 0))) := by rw [e17]; exact nq.1.n32 (by decide)
    have ev : FP.fadd (FP.fdiv (pS (pSq (F 32)) (mFa M 0)) (FP.i2f (I 17 0))) (F 0 39) = pNv (F 32) (mFa M 0) (mEp M) := by rw [e17, hM.2.2.2.2.2.2.1]; rfl
    have g2 : vf_n32 (FP.fadd (FP.fdiv (pS (pSq (F 32)) (mFa M 0)) (FP.i2f (I 17 0))) (F 0 39)) := by rw [ev]; exact nv.1.n32 (by decide)
    have c51 : ∀ v, v = pNv (F 32) (mFa M 0) (mEp M) → XC xE0 (d + 1) xM_64 (51, [some (.ref 0), some (.int t), some (.int (I 17 0)), some (.float (pS (pSq (F 32)) (mFa M 0))), some (.int x4), none], [.float v], (sh2, I, L, F)) Q := by
      intro v hv
      subst hv
      refine XC.block [63] 60 ?_
      refine fn_root_r nv ?_
      exact And.intro fin.1.n32 (c63 _ _ rfl (mFa M 0) 0 (Nat.zero_add _) F fO.rf (fun l hl => absurd hl (Nat.not_lt_zero _)) _ rfl)
    refine XC.block [51] 60 ?_
    refine And.intro g1 ?_
    refine And.intro g2 ?_
    exact c51 _ ev
  have c12 : ∀ (u i : Nat), i + u = mFa M 0 → ∀ a, a = pS (pSq (F 32)) i → ∀ x, x = nI i → XC xE0 (d + 1) xM_64 (12, [some (.ref 0), some (.int t), some (.int (I 17 0)), some (.float a), some (.int x), none], [], (sh2, I, L, F)) Q := by
    intro u
    induction u with
    | zero =>
      intro i hi a ha x hx
      have : i = mFa M 0 := by omega
      subst this
      refine XC.block [12, 42] 60 ?_
      exact And.intro (fun _ => c42 _ ha _) (fun z => absurd (show I 17 0 ≤ x by rw [e17, hx]; exact nI_le (by omega) (by omega)) z)
    | succ u ih =>
      intro i hi a ha x hx
      have hlt : ¬ I 17 0 ≤ x := by rw [e17, hx]; exact nI_ge (by omega) (by omega)
      have hx1 : x + 1 = nI (i + 1) := by rw [hx, nI_1]
      have i1 : i + 1 + u = mFa M 0 := by omega
      have ex : F 32 x.toNatClampNeg = F 32 i := by rw [hx, nI_clamp (by omega)]
      have xin : vp_in x 16 := rf_in hx (by omega) (by decide)
      have g1 : vf_n32 (FP.fmul (F 32 x.toNatClampNeg) (F 32 x.toNatClampNeg)) := by rw [ex]; exact (pSq_ok hX i (by omega)).n32 (by decide)
      have es : FP.fadd a (FP.fmul (F 32 x.toNatClampNeg) (F 32 x.toNatClampNeg)) = pS (pSq (F 32)) (i + 1) := by rw [ex, ha]; rfl
      have g2 : vf_n32 (FP.fadd a (FP.fmul (F 32 x.toNatClampNeg) (F 32 x.toNatClampNeg))) := by rw [es]; exact (pSq_F hX hd (i + 1) (by omega)).n32
      refine XC.block [12, 42] 60 ?_
      refine And.intro (fun z => absurd z hlt) (fun _ => ?_)
      refine And.intro xin ?_
      refine And.intro xin ?_
      refine And.intro g1 ?_
      refine And.intro g2 ?_
      exact ih (i + 1) i1 _ es _ hx1
  have v0 : vp_in (0 : Int32) 12 := rf_in (j := 0) rfl (by decide) (by decide)
  refine XC.block [12] 60 ?_
  refine And.intro v0 ?_
  exact c12 (mFa M 0) 0 (Nat.zero_add _) _ rfl _ rfl
end RUA
