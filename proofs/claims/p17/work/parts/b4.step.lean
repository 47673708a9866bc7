/-! a STEP on MODELS that are the same up to the sign of zero -/
section BST
variable {M1 M2 : pMd}
theorem pAt_e (h : mZ M1 M2) : pAt M1 = pAt M2 := by
  funext s K V Q n j
  unfold pAt pZt mH
  rw [h.1]
theorem mH_e (h : mZ M1 M2) : mH M1 = mH M2 := by unfold mH; rw [h.1]
theorem pNr_z {X X' : Nat → UInt32} {d : Nat} {e : UInt32} (hX : ∀ j, j < d → fz (X j) (X' j)) : pNr X d e = pNr X' d e := by
  have e : pS (pSq X) d = pS (pSq X') d := pS_ext d (fun j hj => fsq_z (hX j hj))
  unfold pNr pNv
  rw [e]
theorem pNo_z (h : mZ M1 M2) (hm : mGd M2) {q : Nat} (hq : q < 3 + 9 * mFa M2 3) (h1 : mCq M2 q = mFa M2 0) (h2 : mRq M2 q = 1) {X X' : Nat → UInt32} (hX : ∀ j, j < mFa M2 0 → fB 210 (X j) ∧ fz (X j) (X' j)) : ∀ j, j < mFa M2 0 → fB 161 (pNo M1 q X j) ∧ fz (pNo M1 q X j) (pNo M2 q X' j) := by
  intro j hj
  have hd : mFa M2 0 = 8 ∨ mFa M2 0 = 16 := hm.1.1
  have he : fEp (mEp M2) := hm.2.2.2.1.1
  obtain ⟨n1, n2, n3, n4, n5, n6⟩ := hm.q hq
  rw [h1] at n3
  rw [h2] at n4
  have lt : j < mCo M2 (mNd M2 q) * mRo M2 (mNd M2 q) := by rw [n3, n4]; omega
  have zw : fz (mWt M1 (mNd M2 q) j) (mWt M2 (mNd M2 q) j) := h.2.2.2.2.2.2.2.2.2.2.2 _ _ n2 lt
  have bw : fB 156 (mWt M2 (mNd M2 q) j) := by
    have := (n6 0 j (by rw [n4]; decide) (by rw [n3]; exact hj)).2
    rw [Nat.zero_mul, Nat.zero_add] at this
    exact this
  have bX' : ∀ j, j < mFa M2 0 → fB 210 (X' j) := fun j hj => (hX j hj).2.sy.bd (hX j hj).1
  obtain ⟨r1, r2⟩ := pNm_ok (W := mWt M1 (mNd M2 q)) (fun j hj => (hX j hj).1) hd he
  obtain ⟨r1', r2'⟩ := pNm_ok (W := mWt M2 (mNd M2 q)) bX' hd he
  have er := pNr_z (e := mEp M2) (fun j hj => (hX j hj).2)
  unfold pNo
  rw [h.1, h.2.2.2.2.2.2.2.2.2.1, h.2.2.2.2.2.2.1]
  refine ⟨(r2 j hj).2 (zw.bd bw), ?_⟩
  show fz (FP.fmul (FP.fmul (X j) (pNr X (mFa M2 0) (mEp M2))) (mWt M1 (mNd M2 q) j)) (FP.fmul (FP.fmul (X' j) (pNr X' (mFa M2 0) (mEp M2))) (mWt M2 (mNd M2 q) j))
  have s1 : fz (FP.fmul (X j) (pNr X (mFa M2 0) (mEp M2))) (FP.fmul (X' j) (pNr X' (mFa M2 0) (mEp M2))) := by
    rw [← er]
    exact (hX j hj).2.mul fz.rf ((hX j hj).1.fin (by decide)) r1 ((bX' j hj).fin (by decide)) r1
  exact s1.mul zw ((r2 j hj).1.fin (by decide)) ((zw.bd bw).fin (by decide)) ((r2' j hj).1.fin (by decide)) (bw.fin (by decide))
theorem pMv_z (h : mZ M1 M2) (hm : mGd M2) {q i b k : Nat} (hq : q < 3 + 9 * mFa M2 3) (hi : i < mRq M2 q) {Y Y' : Nat → UInt32} (hY : ∀ j, j < mCq M2 q → fB b (Y j) ∧ fz (Y j) (Y' j)) (hb : b ≤ 276) (hk : 156 + b ≤ k + 149) (k1 : 23 ≤ k) (k2 : k ≤ 272) : pMv M1 q Y i = pMv M2 q Y' i ∧ fnn (pMv M1 q Y i) := by
  obtain ⟨n1, n2, n3, n4, n5, n6⟩ := hm.q hq
  have c16 : mCq M2 q ≤ 16 := mCq_le hm
  unfold pMv
  rw [h.2.2.2.2.2.2.1, h.2.2.2.2.2.2.2.1, n3]
  rw [n3, n4] at n6
  refine pDt_z (i := 156) (j := b) (k := k) (fun t ht => ?_) hY (by decide) hb hk k1 k2 c16
  obtain ⟨l1, l2⟩ := n6 i t hi ht
  have zw : fz (mWt M1 (mNd M2 q) (i * mCq M2 q + t)) (mWt M2 (mNd M2 q) (i * mCq M2 q + t)) := h.2.2.2.2.2.2.2.2.2.2.2 _ _ n2 (by rw [n3, n4]; exact l1)
  exact ⟨zw.bd l2, zw⟩
theorem pZt_B (hm : mGd M2) {s n : Nat} (hn : n < mFa M2 1) {K : Nat → Nat → UInt32} {q : Nat → UInt32} (hK : ∀ a j, a < mFa M2 5 → j < mKw M2 → fB 182 (K a j)) (hq : ∀ k, k < mFa M2 0 → fB 182 (q k)) (t : Nat) : fB 220 (pZt M2 s K q n t) := by
  have hc := hm.1.2.2.2.2.2.1
  obtain ⟨d1, d2, d3, d4, d5⟩ := mSd hm hn
  refine pZ_ok (mHs hm).1 (fun j hj => ?_) (fun j hj => ?_)
  · have hj : j < mH M2 := hj
    exact hK _ _ (Nat.mod_lt _ (by omega)) (by omega)
  · have hj : j < mH M2 := hj
    exact hq _ (by omega)
theorem pKn_z (h : mZ M1 M2) {s : Nat} {K : Nat → Nat → UInt32} {N N' : Nat → UInt32} (hN : ∀ j, j < mKw M2 → N j = N' j) : pKn M1 s K N = pKn M2 s K N' := by
  funext a j
  unfold pKn
  rw [h.1, h.kw]
  split
  · rename_i y
    exact hN j y.2
  · rfl
/-- what a layer does with both -/
theorem layer_z (h : mZ M1 M2) (hm : mGd M2) {l s : Nat} (hl : l < mFa M2 3) (hs : s < 60) {X X' : Nat → UInt32} (hX : ∀ j, j < mFa M2 0 → fB (206 + 2 * l) (X j) ∧ fz (X j) (X' j)) {K V : Nat → Nat → UInt32} (hK : ∀ a j, a < 8 → j < 16 → fB 182 (K a j) ∧ fB 172 (V a j)) :
    (∀ j, j < mKw M2 → pK1 M1 l s X j = pK1 M2 l s X' j) ∧ (∀ j, j < mKw M2 → pV1 M1 l X j = pV1 M2 l X' j) ∧ (∀ i, i < mFa M2 0 → pX2 M1 l (pX1 M1 l s K V X) i = pX2 M2 l (pX1 M2 l s K V X') i ∧ fB (208 + 2 * l) (pX2 M1 l (pX1 M1 l s K V X) i)) ∧ (∀ j, j < mKw M2 → fB 182 (pK1 M2 l s X' j)) ∧ ∀ j, j < mKw M2 → fB 172 (pV1 M2 l X' j) := by
  have hm1 := h.gd hm
  have hl2 : mFa M2 3 ≤ 2 := hm.1.2.2.2.1.2
  have hc := hm.1.2.2.2.2.2.1
  have h4 := hm.1.2.2.2.2.1
  obtain ⟨ke, de, kH, dH, H0⟩ := mKe hm
  obtain ⟨w16, d16⟩ := mKl hm
  have e3 : mFa M1 3 = mFa M2 3 := by rw [h.1]
  have q_ : ∀ o, o < 9 → 3 + 9 * l + o < 3 + 9 * mFa M2 3 := fun o ho => by omega
  have q1_ : ∀ o, o < 9 → 3 + 9 * l + o < 3 + 9 * mFa M1 3 := fun o ho => by rw [e3]; omega
  have cd : ∀ o, o < 8 → mCq M2 (3 + 9 * l + o) = mFa M2 0 := fun o ho => by rw [mCq_l (by omega), if_neg (by omega)]
  have c8 : mCq M2 (3 + 9 * l + 8) = mFa M2 4 := by rw [mCq_l (by decide), if_pos rfl]
  have r_ : ∀ o, o < 9 → mRq M2 (3 + 9 * l + o) = [1, mFa M2 0, mKw M2, mKw M2, mFa M2 0, 1, mFa M2 4, mFa M2 4, mFa M2 0].getD o 0 := fun o ho => mRq_l ho
  have hX210 : ∀ j, j < mFa M2 0 → fB 210 (X j) ∧ fz (X j) (X' j) := fun j hj => ⟨(hX j hj).1.mono (by omega), (hX j hj).2⟩
  -- y
  have y1 := pNo_z h hm (q_ 0 (by decide)) (cd 0 (by decide)) (r_ 0 (by decide)) hX210
  have mvK : ∀ i, i < mKw M2 → pMv M1 (3 + 9 * l + 2) (pY1 M1 l X) i = pMv M2 (3 + 9 * l + 2) (pY1 M2 l X') i := fun i hi => (pMv_z (k := 168) h hm (q_ 2 (by decide)) (by rw [r_ 2 (by decide)]; exact hi) (fun j hj => y1 j (by rw [cd 2 (by decide)] at hj; exact hj)) (by decide) (by decide) (by decide) (by decide)).1
  have mvQ : ∀ i, i < mFa M2 0 → pMv M1 (3 + 9 * l + 1) (pY1 M1 l X) i = pMv M2 (3 + 9 * l + 1) (pY1 M2 l X') i := fun i hi => (pMv_z (k := 168) h hm (q_ 1 (by decide)) (by rw [r_ 1 (by decide)]; exact hi) (fun j hj => y1 j (by rw [cd 1 (by decide)] at hj; exact hj)) (by decide) (by decide) (by decide) (by decide)).1
  have mvV : ∀ i, i < mKw M2 → pV1 M1 l X i = pV1 M2 l X' i := fun i hi => (pMv_z (k := 168) h hm (q_ 3 (by decide)) (by rw [r_ 3 (by decide)]; exact hi) (fun j hj => y1 j (by rw [cd 3 (by decide)] at hj; exact hj)) (by decide) (by decide) (by decide) (by decide)).1
  have kz : ∀ j, j < mKw M2 → pK1 M1 l s X j = pK1 M2 l s X' j := fun j hj => by
    unfold pK1
    rw [h.2.2.2.2.2.2.2.2.2.2.1, mH_e h]
    exact pTn_ext ke mvK hj
  have qz : ∀ j, j < mFa M2 0 → pQ1 M1 l s X j = pQ1 M2 l s X' j := fun j hj => by
    unfold pQ1
    rw [h.2.2.2.2.2.2.2.2.2.2.1, mH_e h]
    exact pTn_ext de mvQ hj
  -- bounds
  have yB : ∀ j, j < mFa M2 0 → fB 161 (pY1 M2 l X' j) := fun j hj => (y1 j hj).2.sy.bd (y1 j hj).1
  have mB : ∀ o, 1 ≤ o → o < 4 → ∀ i, i < mRq M2 (3 + 9 * l + o) → fB 172 (pMv M2 (3 + 9 * l + o) (pY1 M2 l X') i) := fun o o1 o4 i hi => pMv_B (k := 168) hm (q_ o (by omega)) hi (fun j hj => yB j (by rw [cd o (by omega)] at hj; exact hj)) (by decide) (by decide) (by decide) (by decide)
  have kB : ∀ j, j < mKw M2 → fB 182 (pK1 M2 l s X' j) := pTn_B hm.2.2.2.1.2 (by omega) (mHs hm).1 ke (fun i hi => mB 2 (by decide) (by decide) i (by rw [r_ 2 (by decide)]; exact hi))
  have qB : ∀ j, j < mFa M2 0 → fB 182 (pQ1 M2 l s X' j) := pTn_B hm.2.2.2.1.2 (by omega) (mHs hm).1 de (fun i hi => mB 1 (by decide) (by decide) i (by rw [r_ 1 (by decide)]; exact hi))
  have vB : ∀ j, j < mKw M2 → fB 172 (pV1 M2 l X' j) := fun i hi => mB 3 (by decide) (by decide) i (by rw [r_ 3 (by decide)]; exact hi)
  have KB : ∀ a j, a < mFa M2 5 → j < mKw M2 → fB 182 (pKn M2 s K (pK1 M2 l s X') a j) := fun a j ha hj => by
    unfold pKn
    split
    · exact kB j hj
    · exact (hK a j (by omega) (by omega)).1
  have VB : ∀ a j, a < mFa M2 5 → j < mKw M2 → fB 172 (pKn M2 s V (pV1 M2 l X') a j) := fun a j ha hj => by
    unfold pKn
    split
    · exact vB j hj
    · exact (hK a j (by omega) (by omega)).2
  have nj : ∀ k, k < mFa M2 0 → k / mH M2 < mFa M2 1 ∧ k % mH M2 < mH M2 := fun k hk => ⟨Nat.div_lt_of_lt_mul (by rw [Nat.mul_comm, dH]; exact hk), Nat.mod_lt _ H0⟩
  have wz : ∀ k, k < mFa M2 0 → pW1 M1 l s K V X k = pW1 M2 l s K V X' k := fun k hk => by
    obtain ⟨n1, n2⟩ := nj k hk
    unfold pW1
    rw [pAt_e h, mH_e h, pKn_z h kz, pKn_z h mvV]
    exact pAt_ext hm n1 n2 (fun _ _ _ _ => rfl) (fun _ _ _ _ => rfl) qz
  have wB : ∀ k, k < mFa M2 0 → fB 176 (pW1 M2 l s K V X' k) := fun k hk => by
    obtain ⟨n1, n2⟩ := nj k hk
    obtain ⟨d1, d2, d3, d4, d5⟩ := mSd hm n1
    exact pAt_B ⟨by omega, hc.2⟩ (pZt_B hm n1 KB qB) (fun t => VB _ _ (Nat.mod_lt _ (by omega)) (by omega))
  have x1 : ∀ i, i < mFa M2 0 → pX1 M1 l s K V X i = pX1 M2 l s K V X' i ∧ fB (207 + 2 * l) (pX1 M1 l s K V X i) := fun i hi => by
    have ri : i < mRq M2 (3 + 9 * l + 4) := by rw [r_ 4 (by decide)]; exact hi
    obtain ⟨e, nn⟩ := pMv_z (k := 183) h hm (q_ 4 (by decide)) ri (Y := pW1 M1 l s K V X) (Y' := pW1 M2 l s K V X') (fun j hj => by
      rw [cd 4 (by decide)] at hj
      exact ⟨by rw [wz j hj]; exact wB j hj, Or.inl (wz j hj)⟩) (b := 176) (by decide) (by decide) (by decide) (by decide)
    have eB : fB 187 (pMv M2 (3 + 9 * l + 4) (pW1 M2 l s K V X') i) := pMv_B (k := 183) hm (q_ 4 (by decide)) ri (fun j hj => wB j (by rw [cd 4 (by decide)] at hj; exact hj)) (by decide) (by decide) (by decide) (by decide)
    have eB1 : fB 187 (pMv M1 (3 + 9 * l + 4) (pW1 M1 l s K V X) i) := by rw [e]; exact eB
    refine ⟨?_, (hX i hi).1.add eB1 (by omega) (by omega) (by omega) (by omega)⟩
    show FP.fadd (X i) (pMv M1 (3 + 9 * l + 4) (pW1 M1 l s K V X) i) = FP.fadd (X' i) (pMv M2 (3 + 9 * l + 4) (pW1 M2 l s K V X') i)
    have cm : ∀ a b : UInt32, FP.fadd a b = FP.fadd b a := fun a b => Jvm.FP.Core.fadd_comm a b
    rw [cm (X i), cm (X' i), ← e]
    exact fadd_fz (eB1.fin (by decide)) nn (hX i hi).2
  have y2 := pNo_z h hm (q_ 5 (by decide)) (cd 5 (by decide)) (r_ 5 (by decide)) (X := pX1 M1 l s K V X) (X' := pX1 M2 l s K V X') (fun j hj => ⟨(x1 j hj).2.mono (by omega), Or.inl (x1 j hj).1⟩)
  have mv2 : ∀ o, (o = 6 ∨ o = 7) → ∀ i, i < mFa M2 4 → pMv M1 (3 + 9 * l + o) (pNo M1 (3 + 9 * l + 5) (pX1 M1 l s K V X)) i = pMv M2 (3 + 9 * l + o) (pNo M2 (3 + 9 * l + 5) (pX1 M2 l s K V X')) i ∧ fB 172 (pMv M2 (3 + 9 * l + o) (pNo M2 (3 + 9 * l + 5) (pX1 M2 l s K V X')) i) := fun o ho i hi => by
    have ri : i < mRq M2 (3 + 9 * l + o) := by
      rw [r_ o (by omega)]
      rcases ho with rfl | rfl <;> exact hi
    refine ⟨(pMv_z (k := 168) h hm (q_ o (by omega)) ri (fun j hj => y2 j (by rw [cd o (by omega)] at hj; exact hj)) (by decide) (by decide) (by decide) (by decide)).1, ?_⟩
    exact pMv_B (k := 168) hm (q_ o (by omega)) ri (fun j hj => by
      rw [cd o (by omega)] at hj
      exact (y2 j hj).2.sy.bd (y2 j hj).1) (by decide) (by decide) (by decide) (by decide)
  have gz : ∀ i, i < mFa M2 4 → pG1 M1 l (pX1 M1 l s K V X) i = pG1 M2 l (pX1 M2 l s K V X') i ∧ fB 195 (pG1 M2 l (pX1 M2 l s K V X') i) := fun i hi => by
    obtain ⟨a1, a2⟩ := mv2 6 (Or.inl rfl) i hi
    obtain ⟨b1, b2⟩ := mv2 7 (Or.inr rfl) i hi
    refine ⟨?_, (pGl_ok a2 b2).2.2.2⟩
    unfold pG1
    rw [a1, b1]
  refine ⟨kz, mvV, ?_, kB, vB⟩
  intro i hi
  have ri : i < mRq M2 (3 + 9 * l + 8) := by rw [r_ 8 (by decide)]; exact hi
  obtain ⟨e, nn⟩ := pMv_z (k := 202) h hm (q_ 8 (by decide)) ri (Y := pG1 M1 l (pX1 M1 l s K V X)) (Y' := pG1 M2 l (pX1 M2 l s K V X')) (fun j hj => by
    rw [c8] at hj
    exact ⟨by rw [(gz j hj).1]; exact (gz j hj).2, Or.inl (gz j hj).1⟩) (b := 195) (by decide) (by decide) (by decide) (by decide)
  have eB : fB 206 (pMv M2 (3 + 9 * l + 8) (pG1 M2 l (pX1 M2 l s K V X')) i) := pMv_B (k := 202) hm (q_ 8 (by decide)) ri (fun j hj => (gz j (by rw [c8] at hj; exact hj)).2) (by decide) (by decide) (by decide) (by decide)
  refine ⟨?_, ?_⟩
  · unfold pX2
    rw [e, (x1 i hi).1]
  · have eB1 : fB 206 (pMv M1 (3 + 9 * l + 8) (pG1 M1 l (pX1 M1 l s K V X)) i) := by rw [e]; exact eB
    exact (x1 i hi).2.add eB1 (by omega) (by omega) (by omega) (by omega)
theorem lx_z (h : mZ M1 M2) (hm : mGd M2) {s : Nat} (hs : s < 60) {X X' : Nat → UInt32} (hX : ∀ j, j < mFa M2 0 → fB 206 (X j) ∧ fz (X j) (X' j)) {K V : Nat → Nat → Nat → UInt32} (hK : ∀ l a j, l < 2 → a < 8 → j < 16 → fB 182 (K l a j) ∧ fB 172 (V l a j)) : ∀ l, l ≤ mFa M2 3 → ∀ j, j < mFa M2 0 → fB (206 + 2 * l) (pLx M1 s K V X l j) ∧ fz (pLx M1 s K V X l j) (pLx M2 s K V X' l j)
  | 0, _, j, hj => hX j hj
  | l + 1, hl, j, hj => by
    have ih := lx_z h hm hs hX hK l (by omega)
    have hl2 : mFa M2 3 ≤ 2 := hm.1.2.2.2.1.2
    have k := (layer_z h hm (l := l) (s := s) (by omega) hs ih (K := K l) (V := V l) (fun a j ha hj => hK l a j (by omega) ha hj)).2.2.1 j hj
    exact ⟨k.2.mono (by omega), Or.inl k.1⟩
theorem step_z (h : mZ M1 M2) (hm : mGd M2) {s t : Nat} (hs : s < 60) (ht : t < mFa M2 6) {K V : Nat → Nat → Nat → UInt32} (hK : ∀ l a j, l < 2 → a < 8 → j < 16 → fB 182 (K l a j) ∧ fB 172 (V l a j)) : pKs M1 s t K V = pKs M2 s t K V ∧ pVs M1 s t K V = pVs M2 s t K V ∧ (∀ i, i < mFa M2 6 → pLo M1 s t K V i = pLo M2 s t K V i) ∧ ∀ l a j, l < 2 → a < 8 → j < 16 → fB 182 (pKs M2 s t K V l a j) ∧ fB 172 (pVs M2 s t K V l a j) := by
  have hl2 : mFa M2 3 ≤ 2 := hm.1.2.2.2.1.2
  have q0 : 0 < 3 + 9 * mFa M2 3 := by omega
  have c0 : mCq M2 0 = mFa M2 0 := if_pos (by decide)
  have w0 : mRq M2 0 = mFa M2 6 := if_pos (by decide)
  have hX : ∀ j, j < mFa M2 0 → fB 206 (pX0 M1 t j) ∧ fz (pX0 M1 t j) (pX0 M2 t j) := fun j hj => by
    obtain ⟨n1, n2, n3, n4, n5, n6⟩ := hm.q q0
    rw [n3, n4, c0, w0] at n6
    obtain ⟨l1, l2⟩ := n6 t j ht hj
    have zw : fz (mWt M1 (mNd M2 0) (t * mFa M2 0 + j)) (mWt M2 (mNd M2 0) (t * mFa M2 0 + j)) := h.2.2.2.2.2.2.2.2.2.2.2 _ _ n2 (by rw [n3, n4, c0, w0]; exact l1)
    unfold pX0
    rw [h.2.2.2.2.2.2.1, h.1]
    exact ⟨(zw.bd l2).mono (by decide), zw⟩
  have lx := lx_z h hm hs hX hK
  have ly : ∀ l, l < mFa M2 3 → _ := fun l hl => layer_z h hm (l := l) (s := s) hl hs (lx l (by omega)) (K := K l) (V := V l) (fun a j ha hj => hK l a j (by omega) ha hj)
  refine ⟨?_, ?_, fun i hi => ?_, fun l a j hl ha hj => ?_⟩
  · funext l a j
    unfold pKs
    rw [h.1]
    split
    · rename_i y
      rw [pKn_z h (ly l y).1]
    · rfl
  · funext l a j
    unfold pVs
    rw [h.1]
    split
    · rename_i y
      rw [pKn_z h (ly l y).2.1]
    · rfl
  · have y := pNo_z h hm (q := 1) (by omega) (if_pos (by decide)) (if_pos (by decide)) (X := pLx M1 s K V (pX0 M1 t) (mFa M1 3)) (X' := pLx M2 s K V (pX0 M2 t) (mFa M2 3)) (fun j hj => by
      rw [h.1]
      exact ⟨(lx (mFa M2 3) (Nat.le_refl _) j hj).1.mono (by omega), (lx (mFa M2 3) (Nat.le_refl _) j hj).2⟩)
    have c2 : mCq M2 2 = mFa M2 0 := if_pos (by decide)
    have w2 : mRq M2 2 = mFa M2 6 := if_pos (by decide)
    unfold pLo
    exact (pMv_z (k := 168) h hm (q := 2) (by omega) (by rw [w2]; exact hi) (fun j hj => y j (by rw [c2] at hj; exact hj)) (by decide) (by decide) (by decide) (by decide)).1
  · unfold pKs pVs
    split
    · rename_i y
      unfold pKn
      split
      · rename_i w
        exact ⟨(ly l y).2.2.2.1 j w.2, (ly l y).2.2.2.2 j w.2⟩
      · exact hK l a j hl ha hj
    · exact hK l a j hl ha hj
/-- networks that are the same below N LOGITS -/
def nQ (N : Nat) (S1 S2 : pNs) : Prop := nS S1 = nS S2 ∧ nK S1 = nK S2 ∧ nV S1 = nV S2 ∧ nTl S1 = nTl S2 ∧ nY S1 = nY S2 ∧ ∀ i, i < N → nLo S1 i = nLo S2 i
theorem nQ.rf {N : Nat} {S : pNs} : nQ N S S := ⟨rfl, rfl, rfl, rfl, rfl, fun _ _ => rfl⟩
theorem nQ.cl {M : pMd} {S1 S2 : pNs} {I : Nat → Nat → Int32} {F : Nat → Nat → UInt32} (h : nQ (mFa M 6) S1 S2) (k : clNs M S1 I F) : clNs M S2 I F := by
  obtain ⟨q1, q2, q3, q4, q5, q6⟩ := h
  obtain ⟨k1, k2, k3, k4, k5, k6⟩ := k
  rw [q1] at k1 k2 k4
  rw [q2, q3] at k3
  rw [q4] at k5
  rw [q5] at k6
  exact ⟨k1, k2, k3, fun s0 i hi => ⟨(k4 s0 i hi).1.trans (q6 i hi), (k4 s0 i hi).2⟩, k5, k6⟩
def nB (S : pNs) : Prop := ∀ l a j, l < 2 → a < 8 → j < 16 → fB 182 (nK S l a j) ∧ fB 172 (nV S l a j)
theorem rfNs.nB {M : pMd} {S : pNs} {I : Nat → Nat → Int32} {F : Nat → Nat → UInt32} (k : rfNs M S I F) : nB S := by
  obtain ⟨b1, b2, b3⟩ := k.2.2.1
  intro l a j hl ha hj
  obtain ⟨e1, e2⟩ := b3 l a j hl ha hj
  rw [← e1, ← e2]
  exact ⟨b1 _ (by omega), b2 _ (by omega)⟩
theorem stp_z (h : mZ M1 M2) (hm : mGd M2) {S1 S2 : pNs} (hS : nQ (mFa M2 6) S1 S2) (hb : nB S2) (hs : nS S2 < 60) {t : Nat} (ht : t < mFa M2 6) : nQ (mFa M2 6) (pStp M1 S1 t) (pStp M2 S2 t) ∧ nB (pStp M2 S2 t) := by
  obtain ⟨q1, q2, q3, q4, q5, q6⟩ := hS
  obtain ⟨z1, z2, z3, z4⟩ := step_z h hm hs ht hb
  refine ⟨⟨?_, ?_, ?_, q4, q5, fun i hi => ?_⟩, z4⟩
  · show nS S1 + 1 = nS S2 + 1
    rw [q1]
  · show pKs M1 (nS S1) t (nK S1) (nV S1) = pKs M2 (nS S2) t (nK S2) (nV S2)
    rw [q1, q2, q3]; exact z1
  · show pVs M1 (nS S1) t (nK S1) (nV S1) = pVs M2 (nS S2) t (nK S2) (nV S2)
    rw [q1, q2, q3]; exact z2
  · show pLo M1 (nS S1) t (nK S1) (nV S1) i = pLo M2 (nS S2) t (nK S2) (nV S2) i
    rw [q1, q2, q3]; exact z3 i hi
theorem tel_z {N t : Nat} {S1 S2 : pNs} (hS : nQ N S1 S2) : nQ N (pTel S1 t) (pTel S2 t) := by
  obtain ⟨q1, q2, q3, q4, q5, q6⟩ := hS
  refine ⟨q1, q2, q3, ?_, ?_, q6⟩
  · show (fun k => if k = nY S1 % 32 then t else nTl S1 k) = (fun k => if k = nY S2 % 32 then t else nTl S2 k)
    rw [q4, q5]
  · show nY S1 + 1 = nY S2 + 1
    rw [q5]
theorem sy_z (h : mZ M1 M2) (hm : mGd M2) : ∀ (u i : Nat) (S1 S2 : pNs), nQ (mFa M2 6) S1 S2 → nB S2 → nS S2 ≤ 60 → (pSy M1 u i S1).1 = (pSy M2 u i S2).1 ∧ nQ (mFa M2 6) (pSy M1 u i S1).2 (pSy M2 u i S2).2
  | 0, _, _, _, hS, _, _ => ⟨rfl, hS⟩
  | u + 1, i, S1, S2, hS, hb, hs => by
    have h6 := hm.1.2.2.2.2.2.2.1
    have eso : pSo (nLo S1) (mFa M2 6) = pSo (nLo S2) (mFa M2 6) := pSo_ext _ (fun k hk => hS.2.2.2.2.2 k hk)
    have tlt : pSo (nLo S2) (mFa M2 6) 0 < mFa M2 6 := pSo_lt _ 0 (by omega)
    unfold pSy
    rw [h.1, eso, hS.1]
    split
    · exact ⟨rfl, tel_z hS⟩
    · rename_i y
      have s59 : nS S2 < 60 := Nat.lt_of_le_of_ne hs (fun w => y (Or.inr w))
      have k := stp_z h hm (tel_z (t := pSo (nLo S2) (mFa M2 6) 0) hS) hb s59 tlt
      exact sy_z h hm u (i + 1) _ _ k.1 k.2 (show nS S2 + 1 ≤ 60 from s59)
theorem sy_Y {M : pMd} : ∀ (u i : Nat) (S : pNs), nY (pSy M u i S).2 ≤ nY S + u
  | 0, _, S => Nat.le_refl _
  | u + 1, i, S => by
    unfold pSy
    split
    · show nY S + 1 ≤ nY S + (u + 1)
      omega
    · refine Nat.le_trans (sy_Y u (i + 1) _) ?_
      show nY S + 1 + u ≤ nY S + (u + 1)
      omega
theorem wa_z (h : mZ M1 M2) {t r c : Nat} (ht : t < mFa M2 10) (hr : r < mRo M2 t) (hc : c < mCo M2 t) : mWa M1 t r c = mWa M2 t r c := by
  have lt : r * mCo M2 t + c < mCo M2 t * mRo M2 t := by
    refine Nat.lt_of_lt_of_le (Nat.add_lt_add_left hc _) ?_
    rw [← Nat.succ_mul, Nat.mul_comm]
    exact Nat.mul_le_mul_left _ hr
  unfold mWa
  rw [h.2.2.2.2.2.2.2.1]
  exact f2i_z (h.2.2.2.2.2.2.2.2.2.2.2 _ _ ht lt) rfl
theorem pFd_z (h : mZ M1 M2) (o : Nat) : ∀ j r, pFd M1 o j r = pFd M2 o j r
  | 0, _ => rfl
  | j + 1, r => by
    unfold pFd
    rw [h.2.1, h.2.2.1, pFd_z h o j]
theorem pFm_z (h : mZ M1 M2) {en : Nat → Nat} {c : Nat} : ∀ u m, pFm M1 en c u m = pFm M2 en c u m
  | 0, _ => rfl
  | u + 1, m => by
    unfold pFm
    rw [h.2.2.2.1, h.2.2.2.2.1, pFm_z h u (m + 1)]
theorem pMl_z (h : mZ M1 M2) : ∀ u e, pMl M1 u e = pMl M2 u e
  | 0, _ => rfl
  | u + 1, e => by
    unfold pMl
    rw [h.1, pFm_z h, h.2.2.2.2.2.1]
    split
    · rfl
    · exact pMl_z h u _
theorem pEc_z (h : mZ M1 M2) {x : Nat → Nat} {n : Nat} : pEc M1 x n = pEc M2 x n := by
  unfold pEc
  rw [h.1, pMl_z h]
  congr 2
  funext k
  exact pFd_z h _ _ _
end BST
