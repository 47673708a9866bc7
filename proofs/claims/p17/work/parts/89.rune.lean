/-! a layer: as functions; of the reference on paper -/
theorem mCq_l {M : pMd} {l o : Nat} (ho : o < 9) : mCq M (3 + 9 * l + o) = if o = 8 then mFa M 4 else mFa M 0 := by
  unfold mCq
  rw [if_neg (by omega), show (3 + 9 * l + o - 3) % 9 = o by omega]
theorem mRq_l {M : pMd} {l o : Nat} (ho : o < 9) : mRq M (3 + 9 * l + o) = [1, mFa M 0, mKw M, mKw M, mFa M 0, 1, mFa M 4, mFa M 4, mFa M 0].getD o 0 := by
  unfold mRq
  rw [if_neg (by omega), show (3 + 9 * l + o - 3) % 9 = o by omega]
theorem pDt_ext {A B A' B' : Nat → UInt32} {n : Nat} (ha : ∀ j, j < n → A j = A' j) (hb : ∀ j, j < n → B j = B' j) : pDt A B n = pDt A' B' n := pS_ext n (fun j hj => by rw [ha j hj, hb j hj])
theorem pMv_ext {M : pMd} {q i : Nat} {Y Y' : Nat → UInt32} (h : ∀ j, j < mCo M (mNd M q) → Y j = Y' j) : pMv M q Y i = pMv M q Y' i := pDt_ext (fun _ _ => rfl) h
theorem pNo_ext {M : pMd} {q j : Nat} {X X' : Nat → UInt32} (h : ∀ j, j < mFa M 0 → X j = X' j) (hj : j < mFa M 0) : pNo M q X j = pNo M q X' j := by
  have e : pS (pSq X) (mFa M 0) = pS (pSq X') (mFa M 0) := pS_ext _ (fun j hj => by unfold pSq; rw [h j hj])
  unfold pNo pNm pNr pNv
  rw [e, h j hj]
theorem pTn_ext {s h N : Nat} {b : UInt32} {R R' : Nat → UInt32} (hN : N % 2 = 0) (hR : ∀ k, k < N → R k = R' k) {k : Nat} (hk : k < N) : pTn s b h R k = pTn s b h R' k := by
  unfold pTn
  split
  · rw [hR k hk, hR (k + 1) (by omega)]
  · rw [hR k hk, hR (k - 1) (by omega)]
theorem pZt_ext {M : pMd} {s n t : Nat} {K K' : Nat → Nat → UInt32} {q q' : Nat → UInt32} (hm : mGd M) (hn : n < mFa M 1) (hK : ∀ a j, a < mFa M 5 → j < mKw M → K a j = K' a j) (hq : ∀ k, k < mFa M 0 → q k = q' k) : pZt M s K q n t = pZt M s K' q' n t := by
  obtain ⟨s1, s2, s3, s4, s5⟩ := mSd hm hn
  have hc := hm.1.2.2.2.2.2.1
  unfold pZt pZ
  rw [pDt_ext (fun j hj => hK _ _ (Nat.mod_lt _ (by omega)) (by omega)) (fun j hj => hq _ (by omega))]
theorem pMi_ext {z z' V V' : Nat → UInt32} {n : Nat} (hz : ∀ t, t < n → z t = z' t) (hV : ∀ t, t < n → V t = V' t) : pMi z n V = pMi z' n V' := by
  have e1 : pMx z n = pMx z' n := pMx_ext n hz
  have e2 : ∀ t, t < n → pEz z n t = pEz z' n t := fun t ht => by unfold pEz; rw [e1, hz t ht]
  have e3 : pS (pEz z n) n = pS (pEz z' n) n := pS_ext n e2
  refine pS_ext n (fun t ht => ?_)
  show FP.fmul (pSh z n t) (V t) = FP.fmul (pSh z' n t) (V' t)
  unfold pSh
  rw [e2 t ht, e3, hV t ht]
theorem pAt_ext {M : pMd} {s n j : Nat} {K K' V V' : Nat → Nat → UInt32} {q q' : Nat → UInt32} (hm : mGd M) (hn : n < mFa M 1) (hj : j < mH M) (hK : ∀ a j, a < mFa M 5 → j < mKw M → K a j = K' a j) (hV : ∀ a j, a < mFa M 5 → j < mKw M → V a j = V' a j) (hq : ∀ k, k < mFa M 0 → q k = q' k) : pAt M s K V q n j = pAt M s K' V' q' n j := by
  obtain ⟨s1, s2, s3, s4, s5⟩ := mSd hm hn
  have hc := hm.1.2.2.2.2.2.1
  exact pMi_ext (fun t _ => pZt_ext hm hn hK hq) (fun t _ => hV _ _ (Nat.mod_lt _ (by omega)) (by omega))
/-- a layer's rows of a POSITION -/
def pY1 (M : pMd) (l : Nat) (X : Nat → UInt32) : Nat → UInt32 := pNo M (3 + 9 * l + 0) X
def pQ1 (M : pMd) (l s : Nat) (X : Nat → UInt32) : Nat → UInt32 := pTn s (mBa M) (mH M) (pMv M (3 + 9 * l + 1) (pY1 M l X))
def pK1 (M : pMd) (l s : Nat) (X : Nat → UInt32) : Nat → UInt32 := pTn s (mBa M) (mH M) (pMv M (3 + 9 * l + 2) (pY1 M l X))
def pV1 (M : pMd) (l : Nat) (X : Nat → UInt32) : Nat → UInt32 := pMv M (3 + 9 * l + 3) (pY1 M l X)
/-- what is remembered, with one place anew -/
def pKn (M : pMd) (s : Nat) (K : Nat → Nat → UInt32) (N : Nat → UInt32) (a j : Nat) : UInt32 := if a = s % mFa M 5 ∧ j < mKw M then N j else K a j
def pW1 (M : pMd) (l s : Nat) (K V : Nat → Nat → UInt32) (X : Nat → UInt32) (k : Nat) : UInt32 := pAt M s (pKn M s K (pK1 M l s X)) (pKn M s V (pV1 M l X)) (pQ1 M l s X) (k / mH M) (k % mH M)
def pX1 (M : pMd) (l s : Nat) (K V : Nat → Nat → UInt32) (X : Nat → UInt32) (i : Nat) : UInt32 := FP.fadd (X i) (pMv M (3 + 9 * l + 4) (pW1 M l s K V X) i)
def pG1 (M : pMd) (l : Nat) (X : Nat → UInt32) (i : Nat) : UInt32 := pGl (pMv M (3 + 9 * l + 6) (pNo M (3 + 9 * l + 5) X) i) (pMv M (3 + 9 * l + 7) (pNo M (3 + 9 * l + 5) X) i)
def pX2 (M : pMd) (l : Nat) (X : Nat → UInt32) (i : Nat) : UInt32 := FP.fadd (X i) (pMv M (3 + 9 * l + 8) (pG1 M l X) i)
theorem pKv_Wr {M : pMd} {l s : Nat} {R N : Nat → UInt32} (hw : mKw M ≤ 16) {a j : Nat} (ha : a < mFa M 5) (hj : j < mKw M) : pKv l (pWr (128 * l + 16 * (s % mFa M 5)) (mKw M) R N) a j = pKn M s (pKv l R) N a j := by
  have hb : s % mFa M 5 < mFa M 5 := Nat.mod_lt _ (by omega)
  unfold pKv pKn pWr
  rcases Nat.lt_trichotomy a (s % mFa M 5) with y | y | y
  · rw [if_neg (by omega), if_neg (by omega)]
  · rw [if_pos (by omega), if_pos (by omega), y, Nat.add_sub_cancel_left]
  · rw [if_neg (by omega), if_neg (by omega)]
section RUE
variable {M : pMd} {I J : Nat → Nat → Int32} {L : Nat → Nat → Int64} {F G : Nat → Nat → UInt32} {d : Nat} {Q : xP}
/-- where a layer's walk stands -/
def rfLc (M : pMd) (l s : Nat) (I : Nat → Nat → Int32) (F : Nat → Nat → UInt32) (ll tt dd ww : Int32) : Prop := rfMd M I F ∧ mGd M ∧ l < mFa M 3 ∧ s < 60 ∧ I 0 60 = nI s ∧ ll = nI l ∧ tt = nI (3 + 9 * l) ∧ dd = nI (mFa M 0) ∧ ww = nI (mKw M)
theorem rfLc.fl {l s : Nat} {ll tt dd ww : Int32} (h : rfLc M l s I F ll tt dd ww) (a : ∀ b k, b < 32 → G b k = F b k) : rfLc M l s I G ll tt dd ww := ⟨h.1.fl a, h.2⟩
theorem rfLc.tq {l s : Nat} {ll tt dd ww : Int32} (h : rfLc M l s I F ll tt dd ww) {o : Nat} (ho : o < 9) {oo : Int32} (hoo : oo = nI o) : vp_in (tt + oo) 21 ∧ I 23 (tt + oo).toNatClampNeg = nI (mNd M (3 + 9 * l + o)) ∧ 3 + 9 * l + o < 3 + 9 * mFa M 3 := by
  obtain ⟨hM, hm, hl, -, -, -, ht, -⟩ := h
  have h3 := hm.1.2.2.2.1
  have e : tt + oo = nI (3 + 9 * l + o) := by rw [ht, hoo, nI_add]
  refine ⟨rf_in e (by omega) (by decide), ?_, by omega⟩
  rw [e, nI_clamp (by omega)]
  exact hM.2.2.2.2.1 _ (by omega)
theorem rfLc.sz {l s : Nat} {ll tt dd ww : Int32} (h : rfLc M l s I F ll tt dd ww) : mFa M 0 ≤ 16 ∧ mFa M 4 ≤ 16 ∧ mKw M ≤ 16 ∧ mFa M 3 ≤ 2 := by
  have hm := h.2.1
  have h0 := hm.1.1
  have h4 := hm.1.2.2.2.2.1
  have h3 := hm.1.2.2.2.1
  obtain ⟨-, -, -, k, e⟩ := mHs hm
  rw [e] at k
  omega
theorem rf_ly44 {l s : Nat} {ll tt dd ww : Int32} (H : rfLc M l s I F ll tt dd ww) (hY : ∀ j, j < mFa M 0 → fB 161 (F 33 j))
    (next : ∀ G, (∀ b k, b ≠ 34 → G b k = F b k) → (∀ i, i < mFa M 0 → G 34 i = pMv M (3 + 9 * l + 1) (F 33) i) → ∀ x5, XC xE0 (d + 3) xM_68 (81, [some (.ref 0), some (.int ll), some (.int tt), some (.int dd), some (.int ww), some (.int x5)], [], (sh2, I, L, G)) Q) :
    ∀ (u i : Nat), i + u = mFa M 0 → ∀ G, (∀ b k, b ≠ 34 → G b k = F b k) → (∀ i', i' < i → G 34 i' = pMv M (3 + 9 * l + 1) (F 33) i') → ∀ x5, x5 = nI i → XC xE0 (d + 3) xM_68 (44, [some (.ref 0), some (.int ll), some (.int tt), some (.int dd), some (.int ww), some (.int x5)], [], (sh2, I, L, G)) Q := by
  obtain ⟨z1, z2, z3, z4⟩ := H.sz
  have h17 := H.1.2.1
  have hm := H.2.1
  have elim_ : dd = nI (mFa M 0) := H.2.2.2.2.2.2.2.1
  obtain ⟨p0, q0, r0⟩ := H.tq (o := 1) (by decide) (oo := 1) rfl
  have c0 : mCq M (3 + 9 * l + 1) = mFa M 0 := (mCq_l (by decide)).trans (if_neg (by decide))
  have w0 : mRq M (3 + 9 * l + 1) = mFa M 0 := mRq_l (by decide)
  intro u
  induction u with
  | zero =>
    intro i hi G D hv x5 hx
    have : i = mFa M 0 := by omega
    subst this
    refine XC.block [44, 81] 60 ?_
    exact And.intro (fun _ => next G D hv _) (fun z => absurd (show dd ≤ x5 by rw [elim_, hx]; exact nI_le (by omega) (by omega)) z)
  | succ u ih =>
    intro i hi G D hv x5 hx
    have hlt : ¬ dd ≤ x5 := by rw [elim_, hx]; exact nI_ge (by omega) (by omega)
    have il : i < mFa M 0 := by omega
    have i1 : i + 1 + u = mFa M 0 := by omega
    have hx1 : x5 + 1 = nI (i + 1) := by rw [hx, nI_1]
    have xin : vp_in x5 16 := rf_in hx (by omega) (by decide)
    have tx : x5.toNatClampNeg = i := by rw [hx, nI_clamp (by omega)]
    have a0 : ∀ b k, b < 32 → G b k = F b k := fun b k hb => by exact D b k (by omega)
    have y0 : G 33 = F 33 := funext fun k => by exact D 33 k (by decide)
    have B0 : ∀ j, j < mCq M (3 + 9 * l + 1) → fB 161 (G 33 j) := fun j hj => by rw [y0]; exact hY j (by rw [c0] at hj; exact hj)
    have M0 : rfMd M I G := H.1.fl a0
    have R0 : i < mRq M (3 + 9 * l + 1) := by rw [w0]; exact il
    have D2 : ∀ b k, b ≠ 34 → (x2 G 34 x5.toNatClampNeg (pMv M (3 + 9 * l + 1) (G 33) i)) b k = F b k := fun b k n0 => by rw [x2_o _ _ (by omega)]; exact D b k n0
    have V2 : ∀ i', i' < i + 1 → (x2 G 34 x5.toNatClampNeg (pMv M (3 + 9 * l + 1) (G 33) i)) 34 i' = pMv M (3 + 9 * l + 1) (F 33) i' := by
      intro i' hi'
      rw [tx]
      rcases Nat.lt_or_ge i' i with y | y
      · rw [x2_o _ _ (by omega)]; exact hv i' y
      · have : i' = i := by omega
        subst this
        rw [x2_same, y0]
    refine XC.block [44, 81] 60 ?_
    refine And.intro (fun z => absurd z hlt) (fun _ => ?_)
    refine And.intro p0 ?_
    refine rf_dot_33 M0 hm r0 R0 B0 (k := 168) (by decide) (by decide) (by decide) (by decide) q0 hx ?_
    refine And.intro xin ?_
    exact ih (i + 1) i1 _ D2 V2 _ hx1
theorem rf_ly84 {l s : Nat} {ll tt dd ww : Int32} (H : rfLc M l s I F ll tt dd ww) (hY : ∀ j, j < mFa M 0 → fB 161 (F 33 j))
    (next : ∀ G, (∀ b k, b ≠ 35 → b ≠ 36 → G b k = F b k) → (∀ i, i < mKw M → G 35 i = pMv M (3 + 9 * l + 2) (F 33) i ∧ G 36 i = pMv M (3 + 9 * l + 3) (F 33) i) → ∀ x5, XC xE0 (d + 3) xM_68 (147, [some (.ref 0), some (.int ll), some (.int tt), some (.int dd), some (.int ww), some (.int x5)], [], (sh2, I, L, G)) Q) :
    ∀ (u i : Nat), i + u = mKw M → ∀ G, (∀ b k, b ≠ 35 → b ≠ 36 → G b k = F b k) → (∀ i', i' < i → G 35 i' = pMv M (3 + 9 * l + 2) (F 33) i' ∧ G 36 i' = pMv M (3 + 9 * l + 3) (F 33) i') → ∀ x5, x5 = nI i → XC xE0 (d + 3) xM_68 (84, [some (.ref 0), some (.int ll), some (.int tt), some (.int dd), some (.int ww), some (.int x5)], [], (sh2, I, L, G)) Q := by
  obtain ⟨z1, z2, z3, z4⟩ := H.sz
  have h17 := H.1.2.1
  have hm := H.2.1
  have elim_ : ww = nI (mKw M) := H.2.2.2.2.2.2.2.2
  obtain ⟨p0, q0, r0⟩ := H.tq (o := 2) (by decide) (oo := 2) rfl
  have c0 : mCq M (3 + 9 * l + 2) = mFa M 0 := (mCq_l (by decide)).trans (if_neg (by decide))
  have w0 : mRq M (3 + 9 * l + 2) = mKw M := mRq_l (by decide)
  obtain ⟨p1, q1, r1⟩ := H.tq (o := 3) (by decide) (oo := 3) rfl
  have c1 : mCq M (3 + 9 * l + 3) = mFa M 0 := (mCq_l (by decide)).trans (if_neg (by decide))
  have w1 : mRq M (3 + 9 * l + 3) = mKw M := mRq_l (by decide)
  intro u
  induction u with
  | zero =>
    intro i hi G D hv x5 hx
    have : i = mKw M := by omega
    subst this
    refine XC.block [84, 147] 60 ?_
    exact And.intro (fun _ => next G D hv _) (fun z => absurd (show ww ≤ x5 by rw [elim_, hx]; exact nI_le (by omega) (by omega)) z)
  | succ u ih =>
    intro i hi G D hv x5 hx
    have hlt : ¬ ww ≤ x5 := by rw [elim_, hx]; exact nI_ge (by omega) (by omega)
    have il : i < mKw M := by omega
    have i1 : i + 1 + u = mKw M := by omega
    have hx1 : x5 + 1 = nI (i + 1) := by rw [hx, nI_1]
    have xin : vp_in x5 16 := rf_in hx (by omega) (by decide)
    have tx : x5.toNatClampNeg = i := by rw [hx, nI_clamp (by omega)]
    have a0 : ∀ b k, b < 32 → G b k = F b k := fun b k hb => by exact D b k (by omega) (by omega)
    have y0 : G 33 = F 33 := funext fun k => by exact D 33 k (by decide) (by decide)
    have B0 : ∀ j, j < mCq M (3 + 9 * l + 2) → fB 161 (G 33 j) := fun j hj => by rw [y0]; exact hY j (by rw [c0] at hj; exact hj)
    have M0 : rfMd M I G := H.1.fl a0
    have R0 : i < mRq M (3 + 9 * l + 2) := by rw [w0]; exact il
    have a1 : ∀ b k, b < 32 → (x2 G 35 x5.toNatClampNeg (pMv M (3 + 9 * l + 2) (G 33) i)) b k = F b k := fun b k hb => by rw [x2_o _ _ (by omega)]; exact D b k (by omega) (by omega)
    have y1 : (x2 G 35 x5.toNatClampNeg (pMv M (3 + 9 * l + 2) (G 33) i)) 33 = F 33 := funext fun k => by rw [x2_o _ _ (by omega)]; exact D 33 k (by decide) (by decide)
    have B1 : ∀ j, j < mCq M (3 + 9 * l + 3) → fB 161 ((x2 G 35 x5.toNatClampNeg (pMv M (3 + 9 * l + 2) (G 33) i)) 33 j) := fun j hj => by rw [y1]; exact hY j (by rw [c1] at hj; exact hj)
    have M1 : rfMd M I (x2 G 35 x5.toNatClampNeg (pMv M (3 + 9 * l + 2) (G 33) i)) := H.1.fl a1
    have R1 : i < mRq M (3 + 9 * l + 3) := by rw [w1]; exact il
    have D2 : ∀ b k, b ≠ 35 → b ≠ 36 → (x2 (x2 G 35 x5.toNatClampNeg (pMv M (3 + 9 * l + 2) (G 33) i)) 36 x5.toNatClampNeg (pMv M (3 + 9 * l + 3) ((x2 G 35 x5.toNatClampNeg (pMv M (3 + 9 * l + 2) (G 33) i)) 33) i)) b k = F b k := fun b k n0 n1 => by rw [x2_o _ _ (by omega)]; rw [x2_o _ _ (by omega)]; exact D b k n0 n1
    have V2 : ∀ i', i' < i + 1 → (x2 (x2 G 35 x5.toNatClampNeg (pMv M (3 + 9 * l + 2) (G 33) i)) 36 x5.toNatClampNeg (pMv M (3 + 9 * l + 3) ((x2 G 35 x5.toNatClampNeg (pMv M (3 + 9 * l + 2) (G 33) i)) 33) i)) 35 i' = pMv M (3 + 9 * l + 2) (F 33) i' ∧ (x2 (x2 G 35 x5.toNatClampNeg (pMv M (3 + 9 * l + 2) (G 33) i)) 36 x5.toNatClampNeg (pMv M (3 + 9 * l + 3) ((x2 G 35 x5.toNatClampNeg (pMv M (3 + 9 * l + 2) (G 33) i)) 33) i)) 36 i' = pMv M (3 + 9 * l + 3) (F 33) i' := by
      intro i' hi'
      rw [tx]
      rcases Nat.lt_or_ge i' i with y | y
      · refine ⟨?_, ?_⟩
        · rw [x2_o _ _ (by omega), x2_o _ _ (by omega)]; exact (hv i' y).1
        · rw [x2_o _ _ (by omega), x2_o _ _ (by omega)]; exact (hv i' y).2
      · have : i' = i := by omega
        subst this
        refine ⟨?_, ?_⟩
        · rw [x2_o _ _ (by omega), x2_same, y0]
        · rw [x2_same]; rw [tx] at y1; rw [y1]
    refine XC.block [84, 147] 60 ?_
    refine And.intro (fun z => absurd z hlt) (fun _ => ?_)
    refine And.intro p0 ?_
    refine rf_dot_33 M0 hm r0 R0 B0 (k := 168) (by decide) (by decide) (by decide) (by decide) q0 hx ?_
    refine And.intro xin ?_
    refine And.intro p1 ?_
    refine rf_dot_33 M1 hm r1 R1 B1 (k := 168) (by decide) (by decide) (by decide) (by decide) q1 hx ?_
    refine And.intro xin ?_
    exact ih (i + 1) i1 _ D2 V2 _ hx1
theorem rf_ly243 {l s : Nat} {ll tt dd ww : Int32} (H : rfLc M l s I F ll tt dd ww) (hY : ∀ j, j < mFa M 0 → fB 161 (F 33 j))
    (next : ∀ G, (∀ b k, b ≠ 38 → b ≠ 39 → G b k = F b k) → (∀ i, i < mFa M 4 → G 38 i = pMv M (3 + 9 * l + 6) (F 33) i ∧ G 39 i = pMv M (3 + 9 * l + 7) (F 33) i) → ∀ x5, XC xE0 (d + 3) xM_68 (312, [some (.ref 0), some (.int ll), some (.int tt), some (.int dd), some (.int ww), some (.int x5)], [], (sh2, I, L, G)) Q) :
    ∀ (u i : Nat), i + u = mFa M 4 → ∀ G, (∀ b k, b ≠ 38 → b ≠ 39 → G b k = F b k) → (∀ i', i' < i → G 38 i' = pMv M (3 + 9 * l + 6) (F 33) i' ∧ G 39 i' = pMv M (3 + 9 * l + 7) (F 33) i') → ∀ x5, x5 = nI i → XC xE0 (d + 3) xM_68 (243, [some (.ref 0), some (.int ll), some (.int tt), some (.int dd), some (.int ww), some (.int x5)], [], (sh2, I, L, G)) Q := by
  obtain ⟨z1, z2, z3, z4⟩ := H.sz
  have h17 := H.1.2.1
  have hm := H.2.1
  have v4 : vp_in (4 : Int32) 12 := rf_in (j := 4) rfl (by decide) (by decide)
  have elim_ : I 17 4 = nI (mFa M 4) := h17 4 (by decide)
  obtain ⟨p0, q0, r0⟩ := H.tq (o := 6) (by decide) (oo := 6) rfl
  have c0 : mCq M (3 + 9 * l + 6) = mFa M 0 := (mCq_l (by decide)).trans (if_neg (by decide))
  have w0 : mRq M (3 + 9 * l + 6) = mFa M 4 := mRq_l (by decide)
  obtain ⟨p1, q1, r1⟩ := H.tq (o := 7) (by decide) (oo := 7) rfl
  have c1 : mCq M (3 + 9 * l + 7) = mFa M 0 := (mCq_l (by decide)).trans (if_neg (by decide))
  have w1 : mRq M (3 + 9 * l + 7) = mFa M 4 := mRq_l (by decide)
  intro u
  induction u with
  | zero =>
    intro i hi G D hv x5 hx
    have : i = mFa M 4 := by omega
    subst this
    refine XC.block [243, 312] 60 ?_
    refine And.intro v4 ?_
    exact And.intro (fun _ => next G D hv _) (fun z => absurd (show I 17 4 ≤ x5 by rw [elim_, hx]; exact nI_le (by omega) (by omega)) z)
  | succ u ih =>
    intro i hi G D hv x5 hx
    have hlt : ¬ I 17 4 ≤ x5 := by rw [elim_, hx]; exact nI_ge (by omega) (by omega)
    have il : i < mFa M 4 := by omega
    have i1 : i + 1 + u = mFa M 4 := by omega
    have hx1 : x5 + 1 = nI (i + 1) := by rw [hx, nI_1]
    have xin : vp_in x5 16 := rf_in hx (by omega) (by decide)
    have tx : x5.toNatClampNeg = i := by rw [hx, nI_clamp (by omega)]
    have a0 : ∀ b k, b < 32 → G b k = F b k := fun b k hb => by exact D b k (by omega) (by omega)
    have y0 : G 33 = F 33 := funext fun k => by exact D 33 k (by decide) (by decide)
    have B0 : ∀ j, j < mCq M (3 + 9 * l + 6) → fB 161 (G 33 j) := fun j hj => by rw [y0]; exact hY j (by rw [c0] at hj; exact hj)
    have M0 : rfMd M I G := H.1.fl a0
    have R0 : i < mRq M (3 + 9 * l + 6) := by rw [w0]; exact il
    have a1 : ∀ b k, b < 32 → (x2 G 38 x5.toNatClampNeg (pMv M (3 + 9 * l + 6) (G 33) i)) b k = F b k := fun b k hb => by rw [x2_o _ _ (by omega)]; exact D b k (by omega) (by omega)
    have y1 : (x2 G 38 x5.toNatClampNeg (pMv M (3 + 9 * l + 6) (G 33) i)) 33 = F 33 := funext fun k => by rw [x2_o _ _ (by omega)]; exact D 33 k (by decide) (by decide)
    have B1 : ∀ j, j < mCq M (3 + 9 * l + 7) → fB 161 ((x2 G 38 x5.toNatClampNeg (pMv M (3 + 9 * l + 6) (G 33) i)) 33 j) := fun j hj => by rw [y1]; exact hY j (by rw [c1] at hj; exact hj)
    have M1 : rfMd M I (x2 G 38 x5.toNatClampNeg (pMv M (3 + 9 * l + 6) (G 33) i)) := H.1.fl a1
    have R1 : i < mRq M (3 + 9 * l + 7) := by rw [w1]; exact il
    have D2 : ∀ b k, b ≠ 38 → b ≠ 39 → (x2 (x2 G 38 x5.toNatClampNeg (pMv M (3 + 9 * l + 6) (G 33) i)) 39 x5.toNatClampNeg (pMv M (3 + 9 * l + 7) ((x2 G 38 x5.toNatClampNeg (pMv M (3 + 9 * l + 6) (G 33) i)) 33) i)) b k = F b k := fun b k n0 n1 => by rw [x2_o _ _ (by omega)]; rw [x2_o _ _ (by omega)]; exact D b k n0 n1
    have V2 : ∀ i', i' < i + 1 → (x2 (x2 G 38 x5.toNatClampNeg (pMv M (3 + 9 * l + 6) (G 33) i)) 39 x5.toNatClampNeg (pMv M (3 + 9 * l + 7) ((x2 G 38 x5.toNatClampNeg (pMv M (3 + 9 * l + 6) (G 33) i)) 33) i)) 38 i' = pMv M (3 + 9 * l + 6) (F 33) i' ∧ (x2 (x2 G 38 x5.toNatClampNeg (pMv M (3 + 9 * l + 6) (G 33) i)) 39 x5.toNatClampNeg (pMv M (3 + 9 * l + 7) ((x2 G 38 x5.toNatClampNeg (pMv M (3 + 9 * l + 6) (G 33) i)) 33) i)) 39 i' = pMv M (3 + 9 * l + 7) (F 33) i' := by
      intro i' hi'
      rw [tx]
      rcases Nat.lt_or_ge i' i with y | y
      · refine ⟨?_, ?_⟩
        · rw [x2_o _ _ (by omega), x2_o _ _ (by omega)]; exact (hv i' y).1
        · rw [x2_o _ _ (by omega), x2_o _ _ (by omega)]; exact (hv i' y).2
      · have : i' = i := by omega
        subst this
        refine ⟨?_, ?_⟩
        · rw [x2_o _ _ (by omega), x2_same, y0]
        · rw [x2_same]; rw [tx] at y1; rw [y1]
    refine XC.block [243, 312] 60 ?_
    refine And.intro v4 ?_
    refine And.intro (fun z => absurd z hlt) (fun _ => ?_)
    refine And.intro p0 ?_
    refine rf_dot_33 M0 hm r0 R0 B0 (k := 168) (by decide) (by decide) (by decide) (by decide) q0 hx ?_
    refine And.intro xin ?_
    refine And.intro p1 ?_
    refine rf_dot_33 M1 hm r1 R1 B1 (k := 168) (by decide) (by decide) (by decide) (by decide) q1 hx ?_
    refine And.intro xin ?_
    exact ih (i + 1) i1 _ D2 V2 _ hx1
theorem rf_ly183 {l s : Nat} {ll tt dd ww : Int32} (H : rfLc M l s I F ll tt dd ww) {b k : Nat} (hY : ∀ j, j < mFa M 0 → fB 176 (F 37 j)) (hX : ∀ j, j < mFa M 0 → fB b (F 32 j)) (hb : b < k) (hk : 187 < k) (hk2 : k ≤ 276)
    (next : ∀ G, fO 32 F G → (∀ i, i < mFa M 0 → G 32 i = FP.fadd (F 32 i) (pMv M (3 + 9 * l + 4) (F 37) i) ∧ fB k (G 32 i)) → ∀ x5, XC xE0 (d + 3) xM_68 (228, [some (.ref 0), some (.int ll), some (.int tt), some (.int dd), some (.int ww), some (.int x5)], [], (sh2, I, L, G)) Q) :
    ∀ (u i : Nat), i + u = mFa M 0 → ∀ G, fO 32 F G → (∀ i', i' < i → G 32 i' = FP.fadd (F 32 i') (pMv M (3 + 9 * l + 4) (F 37) i') ∧ fB k (G 32 i')) → (∀ i', i ≤ i' → G 32 i' = F 32 i') → ∀ x5, x5 = nI i → XC xE0 (d + 3) xM_68 (183, [some (.ref 0), some (.int ll), some (.int tt), some (.int dd), some (.int ww), some (.int x5)], [], (sh2, I, L, G)) Q := by
  obtain ⟨z1, z2, z3, z4⟩ := H.sz
  have hm := H.2.1
  have elim_ : dd = nI (mFa M 0) := H.2.2.2.2.2.2.2.1
  obtain ⟨p0, q0, r0⟩ := H.tq (o := 4) (by decide) (oo := 4) rfl
  have c0 : mCq M (3 + 9 * l + 4) = mFa M 0 := (mCq_l (by decide)).trans (if_neg (by decide))
  have w0 : mRq M (3 + 9 * l + 4) = mFa M 0 := mRq_l (by decide)
  have q3 := (hm.q r0).2.2.1
  intro u
  induction u with
  | zero =>
    intro i hi G D hv hw x5 hx
    have : i = mFa M 0 := by omega
    subst this
    refine XC.block [183, 228] 60 ?_
    exact And.intro (fun _ => next G D hv _) (fun z => absurd (show dd ≤ x5 by rw [elim_, hx]; exact nI_le (by omega) (by omega)) z)
  | succ u ih =>
    intro i hi G D hv hw x5 hx
    have hlt : ¬ dd ≤ x5 := by rw [elim_, hx]; exact nI_ge (by omega) (by omega)
    have il : i < mFa M 0 := by omega
    have i1 : i + 1 + u = mFa M 0 := by omega
    have hx1 : x5 + 1 = nI (i + 1) := by rw [hx, nI_1]
    have xin : vp_in x5 16 := rf_in hx (by omega) (by decide)
    have tx : x5.toNatClampNeg = i := by rw [hx, nI_clamp (by omega)]
    have y0 : G 37 = F 37 := D.fn (by decide)
    have B0 : ∀ j, j < mCq M (3 + 9 * l + 4) → fB 176 (G 37 j) := fun j hj => by rw [y0]; exact hY j (by rw [c0] at hj; exact hj)
    have M0 : rfMd M I G := H.1.fO D (by decide)
    have R0 : i < mRq M (3 + 9 * l + 4) := by rw [w0]; exact il
    have dB : fB 187 (pMv M (3 + 9 * l + 4) (F 37) i) := by
      obtain ⟨-, -, qc, qr, -, qw⟩ := hm.q r0
      refine pDt_B (k := 183) (i := 156) (j := 176) (fun j hj => (qw i j (by rw [qr]; exact R0) hj).2) (fun j hj => hY j (by rw [qc, c0] at hj; exact hj)) (by decide) (by decide) (by decide) (by decide) (by decide) (by rw [qc]; exact mCq_le hm)
    have es : FP.fadd (G 32 x5.toNatClampNeg) (pMv M (3 + 9 * l + 4) (G 37) i) = FP.fadd (F 32 i) (pMv M (3 + 9 * l + 4) (F 37) i) := by rw [tx, hw i (Nat.le_refl _), y0]
    have eb : fB k (FP.fadd (G 32 x5.toNatClampNeg) (pMv M (3 + 9 * l + 4) (G 37) i)) := by rw [es]; exact (hX i il).add dB hb hk (by omega) (by omega)
    have V2 : ∀ i', i' < i + 1 → x2 G 32 x5.toNatClampNeg (FP.fadd (G 32 x5.toNatClampNeg) (pMv M (3 + 9 * l + 4) (G 37) i)) 32 i' = FP.fadd (F 32 i') (pMv M (3 + 9 * l + 4) (F 37) i') ∧ fB k (x2 G 32 x5.toNatClampNeg (FP.fadd (G 32 x5.toNatClampNeg) (pMv M (3 + 9 * l + 4) (G 37) i)) 32 i') := by
      intro i' hi'
      rcases Nat.lt_or_ge i' i with y | y
      · rw [x2_o _ _ (by omega)]; exact hv i' y
      · have : i' = i := by omega
        subst this
        rw [show ∀ v, x2 G 32 x5.toNatClampNeg v 32 i' = v from fun v => by rw [tx, x2_same]]
        exact ⟨es, eb⟩
    have W2 : ∀ i', i + 1 ≤ i' → x2 G 32 x5.toNatClampNeg (FP.fadd (G 32 x5.toNatClampNeg) (pMv M (3 + 9 * l + 4) (G 37) i)) 32 i' = F 32 i' := fun i' hi' => by rw [x2_o _ _ (by omega)]; exact hw i' (by omega)
    have gn := eb.n32 (by omega)
    refine XC.block [183, 228] 60 ?_
    refine And.intro (fun z => absurd z hlt) (fun _ => ?_)
    refine And.intro xin ?_
    refine And.intro p0 ?_
    refine rf_dot_37 M0 hm r0 R0 B0 (k := 183) (by decide) (by decide) (by decide) (by decide) q0 hx ?_
    refine And.intro gn ?_
    refine And.intro xin ?_
    exact ih (i + 1) i1 _ D.st V2 W2 _ hx1
theorem rf_ly372 {l s : Nat} {ll tt dd ww : Int32} (H : rfLc M l s I F ll tt dd ww) {b k : Nat} (hY : ∀ j, j < mFa M 4 → fB 195 (F 38 j)) (hX : ∀ j, j < mFa M 0 → fB b (F 32 j)) (hb : b < k) (hk : 206 < k) (hk2 : k ≤ 276)
    (next : ∀ G, fO 32 F G → (∀ i, i < mFa M 0 → G 32 i = FP.fadd (F 32 i) (pMv M (3 + 9 * l + 8) (F 38) i) ∧ fB k (G 32 i)) → Q none (sh2, I, L, G)) :
    ∀ (u i : Nat), i + u = mFa M 0 → ∀ G, fO 32 F G → (∀ i', i' < i → G 32 i' = FP.fadd (F 32 i') (pMv M (3 + 9 * l + 8) (F 38) i') ∧ fB k (G 32 i')) → (∀ i', i ≤ i' → G 32 i' = F 32 i') → ∀ x5, x5 = nI i → XC xE0 (d + 3) xM_68 (372, [some (.ref 0), some (.int ll), some (.int tt), some (.int dd), some (.int ww), some (.int x5)], [], (sh2, I, L, G)) Q := by
  obtain ⟨z1, z2, z3, z4⟩ := H.sz
  have hm := H.2.1
  have elim_ : dd = nI (mFa M 0) := H.2.2.2.2.2.2.2.1
  obtain ⟨p0, q0, r0⟩ := H.tq (o := 8) (by decide) (oo := 8) rfl
  have c0 : mCq M (3 + 9 * l + 8) = mFa M 4 := (mCq_l (by decide)).trans (if_pos rfl)
  have w0 : mRq M (3 + 9 * l + 8) = mFa M 0 := mRq_l (by decide)
  have q3 := (hm.q r0).2.2.1
  intro u
  induction u with
  | zero =>
    intro i hi G D hv hw x5 hx
    have : i = mFa M 0 := by omega
    subst this
    refine XC.block [372, 999] 60 ?_
    exact And.intro (fun _ => ⟨trivial, next G D hv⟩) (fun z => absurd (show dd ≤ x5 by rw [elim_, hx]; exact nI_le (by omega) (by omega)) z)
  | succ u ih =>
    intro i hi G D hv hw x5 hx
    have hlt : ¬ dd ≤ x5 := by rw [elim_, hx]; exact nI_ge (by omega) (by omega)
    have il : i < mFa M 0 := by omega
    have i1 : i + 1 + u = mFa M 0 := by omega
    have hx1 : x5 + 1 = nI (i + 1) := by rw [hx, nI_1]
    have xin : vp_in x5 16 := rf_in hx (by omega) (by decide)
    have tx : x5.toNatClampNeg = i := by rw [hx, nI_clamp (by omega)]
    have y0 : G 38 = F 38 := D.fn (by decide)
    have B0 : ∀ j, j < mCq M (3 + 9 * l + 8) → fB 195 (G 38 j) := fun j hj => by rw [y0]; exact hY j (by rw [c0] at hj; exact hj)
    have M0 : rfMd M I G := H.1.fO D (by decide)
    have R0 : i < mRq M (3 + 9 * l + 8) := by rw [w0]; exact il
    have dB : fB 206 (pMv M (3 + 9 * l + 8) (F 38) i) := by
      obtain ⟨-, -, qc, qr, -, qw⟩ := hm.q r0
      refine pDt_B (k := 202) (i := 156) (j := 195) (fun j hj => (qw i j (by rw [qr]; exact R0) hj).2) (fun j hj => hY j (by rw [qc, c0] at hj; exact hj)) (by decide) (by decide) (by decide) (by decide) (by decide) (by rw [qc]; exact mCq_le hm)
    have es : FP.fadd (G 32 x5.toNatClampNeg) (pMv M (3 + 9 * l + 8) (G 38) i) = FP.fadd (F 32 i) (pMv M (3 + 9 * l + 8) (F 38) i) := by rw [tx, hw i (Nat.le_refl _), y0]
    have eb : fB k (FP.fadd (G 32 x5.toNatClampNeg) (pMv M (3 + 9 * l + 8) (G 38) i)) := by rw [es]; exact (hX i il).add dB hb hk (by omega) (by omega)
    have V2 : ∀ i', i' < i + 1 → x2 G 32 x5.toNatClampNeg (FP.fadd (G 32 x5.toNatClampNeg) (pMv M (3 + 9 * l + 8) (G 38) i)) 32 i' = FP.fadd (F 32 i') (pMv M (3 + 9 * l + 8) (F 38) i') ∧ fB k (x2 G 32 x5.toNatClampNeg (FP.fadd (G 32 x5.toNatClampNeg) (pMv M (3 + 9 * l + 8) (G 38) i)) 32 i') := by
      intro i' hi'
      rcases Nat.lt_or_ge i' i with y | y
      · rw [x2_o _ _ (by omega)]; exact hv i' y
      · have : i' = i := by omega
        subst this
        rw [show ∀ v, x2 G 32 x5.toNatClampNeg v 32 i' = v from fun v => by rw [tx, x2_same]]
        exact ⟨es, eb⟩
    have W2 : ∀ i', i + 1 ≤ i' → x2 G 32 x5.toNatClampNeg (FP.fadd (G 32 x5.toNatClampNeg) (pMv M (3 + 9 * l + 8) (G 38) i)) 32 i' = F 32 i' := fun i' hi' => by rw [x2_o _ _ (by omega)]; exact hw i' (by omega)
    have gn := eb.n32 (by omega)
    refine XC.block [372, 999] 60 ?_
    refine And.intro (fun z => absurd z hlt) (fun _ => ?_)
    refine And.intro xin ?_
    refine And.intro p0 ?_
    refine rf_dot_38 M0 hm r0 R0 B0 (k := 202) (by decide) (by decide) (by decide) (by decide) q0 hx ?_
    refine And.intro gn ?_
    refine And.intro xin ?_
    exact ih (i + 1) i1 _ D.st V2 W2 _ hx1
theorem rf_ly315 {l s : Nat} {ll tt dd ww : Int32} (H : rfLc M l s I F ll tt dd ww) (hg : ∀ j, j < mFa M 4 → fB 172 (F 38 j)) (hu : ∀ j, j < mFa M 4 → fB 172 (F 39 j))
    (next : ∀ G, fO 38 F G → (∀ i, i < mFa M 4 → G 38 i = pGl (F 38 i) (F 39 i)) → XC xE0 (d + 3) xM_68 (372, [some (.ref 0), some (.int ll), some (.int tt), some (.int dd), some (.int ww), some (.int 0)], [], (sh2, I, L, G)) Q) :
    ∀ (u i : Nat), i + u = mFa M 4 → ∀ G, fO 38 F G → (∀ i', i' < i → G 38 i' = pGl (F 38 i') (F 39 i')) → (∀ i', i ≤ i' → G 38 i' = F 38 i') → ∀ x5, x5 = nI i → XC xE0 (d + 3) xM_68 (315, [some (.ref 0), some (.int ll), some (.int tt), some (.int dd), some (.int ww), some (.int x5)], [], (sh2, I, L, G)) Q := by
  obtain ⟨z1, z2, z3, z4⟩ := H.sz
  have elim_ : I 17 4 = nI (mFa M 4) := H.1.2.1 4 (by decide)
  have v4 : vp_in (4 : Int32) 12 := rf_in (j := 4) rfl (by decide) (by decide)
  intro u
  induction u with
  | zero =>
    intro i hi G D hv hw x5 hx
    have : i = mFa M 4 := by omega
    subst this
    refine XC.block [315, 372] 60 ?_
    refine And.intro v4 ?_
    exact And.intro (fun _ => next G D hv) (fun z => absurd (show I 17 4 ≤ x5 by rw [elim_, hx]; exact nI_le (by omega) (by omega)) z)
  | succ u ih =>
    intro i hi G D hv hw x5 hx
    have hlt : ¬ I 17 4 ≤ x5 := by rw [elim_, hx]; exact nI_ge (by omega) (by omega)
    have il : i < mFa M 4 := by omega
    have i1 : i + 1 + u = mFa M 4 := by omega
    have hx1 : x5 + 1 = nI (i + 1) := by rw [hx, nI_1]
    have xin : vp_in x5 16 := rf_in hx (by omega) (by decide)
    have tx : x5.toNatClampNeg = i := by rw [hx, nI_clamp (by omega)]
    have eg : G 38 x5.toNatClampNeg = F 38 i := by rw [tx]; exact hw i (Nat.le_refl _)
    have eu : G 39 x5.toNatClampNeg = F 39 i := by rw [tx]; exact D 39 i (by decide)
    obtain ⟨k1, k2, k3, k4⟩ := pGl_ok (hg i il) (hu i il)
    rw [← eg] at k1 k2 k3 k4
    rw [← eu] at k4
    have V2 := x2_fill (k := x5.toNatClampNeg) (x := pGl (G 38 x5.toNatClampNeg) (G 39 x5.toNatClampNeg)) hv tx (by rw [eg, eu])
    have W2 : ∀ i', i + 1 ≤ i' → x2 G 38 x5.toNatClampNeg (pGl (G 38 x5.toNatClampNeg) (G 39 x5.toNatClampNeg)) 38 i' = F 38 i' := fun i' hi' => by rw [x2_o _ _ (by omega)]; exact hw i' (by omega)
    have gn := k4.n32 (by omega)
    refine XC.block [315, 372] 60 ?_
    refine And.intro v4 ?_
    refine And.intro (fun z => absurd z hlt) (fun _ => ?_)
    refine And.intro xin ?_
    refine And.intro xin ?_
    refine And.intro k1.n32 ?_
    refine fn_exp_r k1 ?_
    refine And.intro k2.n32 ?_
    refine And.intro k3.n32 ?_
    refine And.intro xin ?_
    refine And.intro gn ?_
    refine And.intro xin ?_
    exact ih (i + 1) i1 _ D.st V2 W2 _ hx1
end RUE
