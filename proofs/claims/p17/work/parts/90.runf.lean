/-! a layer of the reference on paper -/
theorem pMv_B {M : pMd} (hm : mGd M) {q i b k : Nat} (hq : q < 3 + 9 * mFa M 3) (hi : i < mRq M q) {Y : Nat → UInt32} (hY : ∀ j, j < mCq M q → fB b (Y j)) (hb : b ≤ 276) (hk : 156 + b ≤ k + 149) (k1 : 23 ≤ k) (k2 : k ≤ 272) : fB (k + 4) (pMv M q Y i) := by
  obtain ⟨-, -, qc, qr, -, qw⟩ := hm.q hq
  exact pDt_B (fun j hj => (qw i j (by rw [qr]; exact hi) hj).2) (fun j hj => hY j (by rw [qc] at hj; exact hj)) (by decide) hb hk k1 k2 (by rw [qc]; exact mCq_le hm)
theorem pMv_e {M : pMd} (hm : mGd M) {q i : Nat} (hq : q < 3 + 9 * mFa M 3) {Y Y' : Nat → UInt32} (h : ∀ j, j < mCq M q → Y j = Y' j) : pMv M q Y i = pMv M q Y' i := pMv_ext (fun j hj => h j (by rw [(hm.q hq).2.2.1] at hj; exact hj))
theorem mKe {M : pMd} (hm : mGd M) : mKw M % 2 = 0 ∧ mFa M 0 % 2 = 0 ∧ mFa M 2 * mH M = mKw M ∧ mFa M 1 * mH M = mFa M 0 ∧ 0 < mH M := by
  obtain ⟨hh, h1, h2, h3, h4⟩ := mHs hm
  have h0 := hm.1.1
  refine ⟨?_, by omega, h4, h1, ?_⟩
  · rw [← h4]
    rcases hh with e | e | e | e <;> rw [e] <;> omega
  · show 0 < mFa M 0 / mFa M 1
    rcases hh with e | e | e | e <;> rw [e] <;> decide
section RUF
variable {M : pMd} {I J : Nat → Nat → Int32} {L : Nat → Nat → Int64} {F G : Nat → Nat → UInt32} {d : Nat} {Q : xP}
/-- nothing but the network's rows changes -/
def rfNt (F G : Nat → Nat → UInt32) : Prop := ∀ b k, ¬ (32 ≤ b ∧ b ≤ 42) → G b k = F b k
theorem rf_layer (hM : rfMd M I F) (hm : mGd M) {l s : Nat} (hl : l < mFa M 3) (hs : s < 60) (h60 : I 0 60 = nI s) (hK : ∀ k, k < 256 → fB 182 (F 41 k)) (hV : ∀ k, k < 256 → fB 172 (F 42 k)) (hX : ∀ j, j < mFa M 0 → fB (206 + 2 * l) (F 32 j)) {ll : Int32} (hll : ll = nI l)
    (hQ : ∀ G, rfNt F G → (∀ i, i < mFa M 0 → G 32 i = pX2 M l (pX1 M l s (pKv l (F 41)) (pKv l (F 42)) (F 32)) i ∧ fB (208 + 2 * l) (G 32 i)) → G 41 = pWr (128 * l + 16 * (s % mFa M 5)) (mKw M) (F 41) (pK1 M l s (F 32)) → (∀ k, k < 256 → fB 182 (G 41 k)) → G 42 = pWr (128 * l + 16 * (s % mFa M 5)) (mKw M) (F 42) (pV1 M l (F 32)) → (∀ k, k < 256 → fB 172 (G 42 k)) → Q none (sh2, I, L, G)) : XM xE0 (d + 3) 68 [.ref 0, .int ll] (sh2, I, L, F) Q := by
  obtain ⟨hh, hh1, hh2, hh3, hh4⟩ := mHs hm
  obtain ⟨kw2, d2, kw, dh, hp⟩ := mKe hm
  have h0 := hm.1.1
  have h1 := hm.1.2.1
  have h2' := hm.1.2.2.1
  have h3 := hm.1.2.2.2.1
  have h4 := hm.1.2.2.2.2.1
  have hc := hm.1.2.2.2.2.2.1
  have wle : mKw M ≤ 16 := by rw [← hh4]; omega
  have e0 : I 17 0 = nI (mFa M 0) := hM.2.1 0 (by decide)
  have e1 : I 17 1 = nI (mFa M 1) := hM.2.1 1 (by decide)
  have e2 : I 17 2 = nI (mFa M 2) := hM.2.1 2 (by decide)
  have ed : I 17 0 / I 17 1 = nI (mH M) := by rw [e0, e1]; exact pk_div (by omega) (by omega) (by omega)
  have ew : I 17 0 / I 17 1 * I 17 2 = nI (mKw M) := by rw [ed, e2, nI_mul]; rfl
  have et : 3 + 9 * ll = nI (3 + 9 * l) := by rw [hll, show (9 : Int32) = nI 9 from rfl, show (3 : Int32) = nI 3 from rfl, nI_mul, nI_add]
  have nz1 : ¬ I 17 1 = 0 := by rw [e1]; exact nI_ne0 (by omega) (by omega)
  have v0 : vp_in (0 : Int32) 12 := rf_in (j := 0) rfl (by decide) (by decide)
  have v1 : vp_in (1 : Int32) 12 := rf_in (j := 1) rfl (by decide) (by decide)
  have v2 : vp_in (2 : Int32) 12 := rf_in (j := 2) rfl (by decide) (by decide)
  have qo : ∀ o, o < 9 → 3 + 9 * l + o < 3 + 9 * mFa M 3 := fun o ho => by omega
  have cd : ∀ o, o < 8 → mCq M (3 + 9 * l + o) = mFa M 0 := fun o ho => (mCq_l (by omega)).trans (if_neg (by omega))
  have c8 : mCq M (3 + 9 * l + 8) = mFa M 4 := (mCq_l (by decide)).trans (if_pos rfl)
  have ro : ∀ o, o < 9 → mRq M (3 + 9 * l + o) = [1, mFa M 0, mKw M, mKw M, mFa M 0, 1, mFa M 4, mFa M 4, mFa M 0].getD o 0 := fun o ho => mRq_l ho
  have hX0 : ∀ j, j < mFa M 0 → fB 210 (F 32 j) := fun j hj => (hX j hj).mono (by omega)
  have c31 : ∀ tt dd ww, tt = nI (3 + 9 * l) → dd = nI (mFa M 0) → ww = nI (mKw M) → XC xE0 (d + 3) xM_68 (31, [some (.ref 0), some (.int ll), some (.int tt), some (.int dd), some (.int ww), none], [], (sh2, I, L, F)) Q := by
    intro tt dd ww ht hd hw
    have H : rfLc M l s I F ll tt dd ww := ⟨hM, hm, hl, hs, h60, hll, ht, hd, hw⟩
    have tin : vp_in tt 21 := rf_in ht (by omega) (by decide)
    have t23 : I 23 tt.toNatClampNeg = nI (mNd M (3 + 9 * l + 0)) := by rw [ht, nI_clamp (by omega)]; exact hM.2.2.2.2.1 _ (by omega)
    obtain ⟨p5, q5, r5⟩ := H.tq (o := 5) (by decide) (oo := 5) rfl
    -- the last sums
    have c312 : ∀ G9, rfLc M l s I G9 ll tt dd ww → (∀ j, j < mFa M 4 → fB 172 (G9 38 j)) → (∀ j, j < mFa M 4 → fB 172 (G9 39 j)) → (∀ j, j < mFa M 0 → fB (207 + 2 * l) (G9 32 j)) → (∀ G, (∀ b k, b ≠ 32 → b ≠ 38 → G b k = G9 b k) → (∀ Z, (∀ i, i < mFa M 4 → pGl (G9 38 i) (G9 39 i) = Z i) → ∀ i, i < mFa M 0 → G 32 i = FP.fadd (G9 32 i) (pMv M (3 + 9 * l + 8) Z i) ∧ fB (208 + 2 * l) (G 32 i)) → Q none (sh2, I, L, G)) → ∀ x5, XC xE0 (d + 3) xM_68 (312, [some (.ref 0), some (.int ll), some (.int tt), some (.int dd), some (.int ww), some (.int x5)], [], (sh2, I, L, G9)) Q := by
      intro G9 H9 b38 b39 b32 fin x5
      refine XC.block [315] 60 ?_
      refine rf_ly315 H9 b38 b39 (fun G10 D10 g10 => ?_) (mFa M 4) 0 (Nat.zero_add _) G9 fO.rf (fun i hi => absurd hi (Nat.not_lt_zero _)) (fun _ _ => rfl) _ rfl
      have H10 : rfLc M l s I G10 ll tt dd ww := H9.fl (fun b k hb => D10 b k (by omega))
      have gB : ∀ j, j < mFa M 4 → fB 195 (G10 38 j) := fun j hj => by rw [g10 j hj]; exact (pGl_ok (b38 j hj) (b39 j hj)).2.2.2
      have x10 : G10 32 = G9 32 := D10.fn (by decide)
      refine rf_ly372 H10 gB (b := 207 + 2 * l) (k := 208 + 2 * l) (by rw [x10]; exact b32) (by omega) (by omega) (by omega) (fun G11 D11 g11 => ?_) (mFa M 0) 0 (Nat.zero_add _) G10 fO.rf (fun i hi => absurd hi (Nat.not_lt_zero _)) (fun _ _ => rfl) _ rfl
      refine fin G11 (fun b k b1 b2 => (D11 b k b1).trans (D10 b k b2)) (fun Z hZ i hi => ?_)
      obtain ⟨ga, gb⟩ := g11 i hi
      refine ⟨?_, gb⟩
      rw [ga, x10]
      congr 1
      exact pMv_e hm (qo 8 (by decide)) (fun j hj => (g10 j (by rw [c8] at hj; exact hj)).trans (hZ j (by rw [c8] at hj; exact hj)))
    -- the second NORM
    have c228 : ∀ G7, rfLc M l s I G7 ll tt dd ww → (∀ j, j < mFa M 0 → fB (207 + 2 * l) (G7 32 j)) → (∀ G, (∀ b k, b ≠ 32 → b ≠ 33 → b ≠ 38 → b ≠ 39 → G b k = G7 b k) → (∀ X, (∀ i, i < mFa M 0 → G7 32 i = X i) → ∀ i, i < mFa M 0 → G 32 i = pX2 M l X i ∧ fB (208 + 2 * l) (G 32 i)) → Q none (sh2, I, L, G)) → ∀ x5, XC xE0 (d + 3) xM_68 (228, [some (.ref 0), some (.int ll), some (.int tt), some (.int dd), some (.int ww), some (.int x5)], [], (sh2, I, L, G7)) Q := by
      intro G7 H7 b32 fin x5
      have hX7 : ∀ j, j < mFa M 0 → fB 210 (G7 32 j) := fun j hj => (b32 j hj).mono (by omega)
      refine XC.block [243] 60 ?_
      refine And.intro p5 ?_
      refine rf_norm H7.1 hm (qo 5 (by decide)) (cd 5 (by decide)) (ro 5 (by decide)) hX7 q5 (fun G8 D8 g8 b8 => ?_)
      have H8 : rfLc M l s I G8 ll tt dd ww := H7.fl (fun b k hb => D8 b k (by omega))
      refine rf_ly243 H8 b8 (fun G9 D9 g9 x5' => ?_) (mFa M 4) 0 (Nat.zero_add _) G8 (fun _ _ _ _ => rfl) (fun i hi => absurd hi (Nat.not_lt_zero _)) _ rfl
      have H9 : rfLc M l s I G9 ll tt dd ww := H8.fl (fun b k hb => D9 b k (by omega) (by omega))
      have b38 : ∀ j, j < mFa M 4 → fB 172 (G9 38 j) := fun j hj => by
        rw [(g9 j hj).1]
        exact pMv_B hm (k := 168) (qo 6 (by decide)) (by rw [ro 6 (by decide)]; exact hj) (b := 161) (fun j hj => b8 j (by rw [cd 6 (by decide)] at hj; exact hj)) (by decide) (by decide) (by decide) (by decide)
      have b39 : ∀ j, j < mFa M 4 → fB 172 (G9 39 j) := fun j hj => by
        rw [(g9 j hj).2]
        exact pMv_B hm (k := 168) (qo 7 (by decide)) (by rw [ro 7 (by decide)]; exact hj) (b := 161) (fun j hj => b8 j (by rw [cd 7 (by decide)] at hj; exact hj)) (by decide) (by decide) (by decide) (by decide)
      have x9 : ∀ k, G9 32 k = G7 32 k := fun k => (D9 32 k (by decide) (by decide)).trans (D8 32 k (by decide))
      refine c312 G9 H9 b38 b39 (fun j hj => by rw [x9]; exact b32 j hj) (fun G D g => ?_) _
      refine fin G (fun b k b1 b2 b3 b4 => (D b k b1 b3).trans ((D9 b k b3 b4).trans (D8 b k b2))) (fun X hXe i hi => ?_)
      have y : ∀ j, j < mFa M 0 → G8 33 j = pNo M (3 + 9 * l + 5) X j := fun j hj => (g8 j hj).trans (pNo_ext hXe hj)
      have z := g (pG1 M l X) (fun i hi => by
        rw [(g9 i hi).1, (g9 i hi).2]
        unfold pG1
        rw [pMv_e hm (qo 6 (by decide)) (fun j hj => y j (by rw [cd 6 (by decide)] at hj; exact hj)), pMv_e hm (qo 7 (by decide)) (fun j hj => y j (by rw [cd 7 (by decide)] at hj; exact hj))]) i hi
      refine ⟨?_, z.2⟩
      rw [z.1, x9, hXe i hi]
      rfl
    -- attention's sums
    have c147 : ∀ G3, rfLc M l s I G3 ll tt dd ww → (∀ b k, b ≠ 33 → b ≠ 34 → b ≠ 35 → b ≠ 36 → G3 b k = F b k) → (∀ i, i < mFa M 0 → G3 34 i = pMv M (3 + 9 * l + 1) (pY1 M l (F 32)) i ∧ fB 172 (G3 34 i)) → (∀ i, i < mKw M → (G3 35 i = pMv M (3 + 9 * l + 2) (pY1 M l (F 32)) i ∧ fB 172 (G3 35 i)) ∧ G3 36 i = pV1 M l (F 32) i ∧ fB 172 (G3 36 i)) → ∀ x5, XC xE0 (d + 3) xM_68 (147, [some (.ref 0), some (.int ll), some (.int tt), some (.int dd), some (.int ww), some (.int x5)], [], (sh2, I, L, G3)) Q := by
      intro G3 H3 D3 g34 g35 x5
      refine XC.block [183] 60 ?_
      refine And.intro v1 ?_
      refine rf_turn_34 (s := s) H3.1 hm (by omega) h60 (N := mFa M 1) (by rw [hh1]; omega) (by omega) (fun k hk => (g34 k (by rw [hh1] at hk; exact hk)).2) e1 (fun G4 D4 t4 _ => ?_)
      have H4 : rfLc M l s I G4 ll tt dd ww := H3.fl (fun b k hb => D4 b k (by omega))
      refine And.intro v2 ?_
      have e35 : G4 35 = G3 35 := D4.fn (by decide)
      refine rf_turn_35 (s := s) H4.1 hm (by omega) h60 (N := mFa M 2) (by rw [hh4]; exact wle) (by omega) (fun k hk => by rw [e35]; exact (g35 k (by rw [hh4] at hk; exact hk)).1.2) e2 (fun G5 D5 t5 _ => ?_)
      have H5 : rfLc M l s I G5 ll tt dd ww := H4.fl (fun b k hb => D5 b k (by omega))
      have f5 : ∀ b k, b ≠ 33 → b ≠ 34 → b ≠ 35 → b ≠ 36 → G5 b k = F b k := fun b k b1 b2 b3 b4 => (D5 b k b3).trans ((D4 b k b2).trans (D3 b k b1 b2 b3 b4))
      have q5e : ∀ k, k < mFa M 0 → G5 34 k = pQ1 M l s (F 32) k := fun k hk => by
        rw [D5 34 k (by decide), t4 k (by rw [hh1]; exact hk)]
        exact pTn_ext d2 (fun k hk => (g34 k hk).1) hk
      have k5e : ∀ k, k < mKw M → G5 35 k = pK1 M l s (F 32) k := fun k hk => by
        rw [t5 k (by rw [hh4]; exact hk), e35]
        exact pTn_ext kw2 (fun k hk => (g35 k hk).1.1) hk
      have v5e : ∀ k, k < mKw M → G5 36 k = pV1 M l (F 32) k := fun k hk => by
        rw [D5 36 k (by decide), D4 36 k (by decide)]
        exact (g35 k hk).2.1
      have hb := hm.2.2.2.1.2
      have q5b : ∀ k, k < mFa M 0 → fB 182 (G5 34 k) := fun k hk => by
        rw [D5 34 k (by decide), t4 k (by rw [hh1]; exact hk)]
        exact pTn_B hb (by omega) hh d2 (fun k hk => (g34 k hk).2) k hk
      have k5b : ∀ k, k < mKw M → fB 182 (G5 35 k) := fun k hk => by
        rw [t5 k (by rw [hh4]; exact hk), e35]
        exact pTn_B hb (by omega) hh kw2 (fun k hk => (g35 k hk).1.2) k hk
      have v5b : ∀ k, k < mKw M → fB 172 (G5 36 k) := fun k hk => by
        rw [D5 36 k (by decide), D4 36 k (by decide)]
        exact (g35 k hk).2.2
      have f41 : G5 41 = F 41 := funext fun k => f5 41 k (by decide) (by decide) (by decide) (by decide)
      have f42 : G5 42 = F 42 := funext fun k => f5 42 k (by decide) (by decide) (by decide) (by decide)
      refine rf_attend H5.1 hm (by omega) hs h60 (by rw [f41]; exact hK) (by rw [f42]; exact hV) q5b k5b v5b hll (fun G6 D6 g41 g42 g37 => ?_)
      have H6 : rfLc M l s I G6 ll tt dd ww := H5.fl (fun b k hb => D6 b k (by omega) (by omega) (by omega) (by omega))
      rw [f41, pWr_ext k5e] at g41
      rw [f42, pWr_ext v5e] at g42
      have f32 : G6 32 = F 32 := funext fun k => (D6 32 k (by decide) (by decide) (by decide) (by decide)).trans (f5 32 k (by decide) (by decide) (by decide) (by decide))
      have w6 : ∀ k, k < mFa M 0 → G6 37 k = pW1 M l s (pKv l (F 41)) (pKv l (F 42)) (F 32) k := fun k hk => by
        rw [(g37 k hk).1, g41, g42]
        have kn : k / mH M < mFa M 1 := Nat.div_lt_of_lt_mul (by rw [Nat.mul_comm, dh]; exact hk)
        exact pAt_ext hm kn (Nat.mod_lt _ hp) (fun a j ha hj => pKv_Wr wle ha hj) (fun a j ha hj => pKv_Wr wle ha hj) q5e
      refine rf_ly183 H6 (fun j hj => (g37 j hj).2) (b := 206 + 2 * l) (k := 207 + 2 * l) (by rw [f32]; exact hX) (by omega) (by omega) (by omega) (fun G7 D7 g7 x5' => ?_) (mFa M 0) 0 (Nat.zero_add _) G6 fO.rf (fun i hi => absurd hi (Nat.not_lt_zero _)) (fun _ _ => rfl) _ rfl
      have H7 : rfLc M l s I G7 ll tt dd ww := H6.fl (fun b k hb => D7 b k (by omega))
      refine c228 G7 H7 (fun j hj => (g7 j hj).2) (fun G D g => ?_) _
      have k41 : G 41 = pWr (128 * l + 16 * (s % mFa M 5)) (mKw M) (F 41) (pK1 M l s (F 32)) := g41 ▸ funext fun k => (D 41 k (by decide) (by decide) (by decide) (by decide)).trans (D7 41 k (by decide))
      have k42 : G 42 = pWr (128 * l + 16 * (s % mFa M 5)) (mKw M) (F 42) (pV1 M l (F 32)) := g42 ▸ funext fun k => (D 42 k (by decide) (by decide) (by decide) (by decide)).trans (D7 42 k (by decide))
      refine hQ G (fun b k hb => ?_) (fun i hi => ?_) k41 ?_ k42 ?_
      · rw [D b k (by omega) (by omega) (by omega) (by omega), D7 b k (by omega), D6 b k (by omega) (by omega) (by omega) (by omega)]
        exact f5 b k (by omega) (by omega) (by omega) (by omega)
      · refine g _ (fun i hi => ?_) i hi
        rw [(g7 i hi).1, f32]
        unfold pX1
        congr 1
        exact pMv_e hm (qo 4 (by decide)) (fun j hj => w6 j (by rw [cd 4 (by decide)] at hj; exact hj))
      · rw [k41]; exact pWr_B hK (fun j hj => by rw [← k5e j hj]; exact k5b j hj)
      · rw [k42]; exact pWr_B hV (fun j hj => by rw [← v5e j hj]; exact v5b j hj)
    refine XC.block [44] 60 ?_
    refine And.intro tin ?_
    refine rf_norm hM hm (qo 0 (by decide)) (cd 0 (by decide)) (ro 0 (by decide)) hX0 t23 (fun G1 D1 g1 b1 => ?_)
    have H1 : rfLc M l s I G1 ll tt dd ww := H.fl (fun b k hb => D1 b k (by omega))
    refine rf_ly44 H1 b1 (fun G2 D2 g2 x5 => ?_) (mFa M 0) 0 (Nat.zero_add _) G1 (fun _ _ _ => rfl) (fun i hi => absurd hi (Nat.not_lt_zero _)) _ rfl
    have H2 : rfLc M l s I G2 ll tt dd ww := H1.fl (fun b k hb => D2 b k (by omega))
    have y2 : G2 33 = G1 33 := funext fun k => D2 33 k (by decide)
    refine XC.block [84] 60 ?_
    refine rf_ly84 H2 (by rw [y2]; exact b1) (fun G3 D3 g3 x5 => ?_) (mKw M) 0 (Nat.zero_add _) G2 (fun _ _ _ _ => rfl) (fun i hi => absurd hi (Nat.not_lt_zero _)) _ rfl
    have H3 : rfLc M l s I G3 ll tt dd ww := H2.fl (fun b k hb => D3 b k (by omega) (by omega))
    have mb : ∀ o i, o < 8 → i < mRq M (3 + 9 * l + o) → fB 172 (pMv M (3 + 9 * l + o) (G1 33) i) := fun o i ho hi => pMv_B hm (k := 168) (qo o (by omega)) hi (b := 161) (fun j hj => b1 j (by rw [cd o ho] at hj; exact hj)) (by decide) (by decide) (by decide) (by decide)
    have me : ∀ o i, o < 8 → pMv M (3 + 9 * l + o) (G1 33) i = pMv M (3 + 9 * l + o) (pY1 M l (F 32)) i := fun o i ho => pMv_e hm (qo o (by omega)) (fun j hj => g1 j (by rw [cd o ho] at hj; exact hj))
    refine c147 G3 H3 (fun b k n1 n2 n3 n4 => (D3 b k n3 n4).trans ((D2 b k n2).trans (D1 b k n1))) (fun i hi => ?_) (fun i hi => ?_) _
    · rw [D3 34 i (by decide) (by decide), g2 i hi]
      exact ⟨me 1 i (by decide), mb 1 i (by decide) (by rw [ro 1 (by decide)]; exact hi)⟩
    · rw [(g3 i hi).1, (g3 i hi).2, y2]
      exact ⟨⟨me 2 i (by decide), mb 2 i (by decide) (by rw [ro 2 (by decide)]; exact hi)⟩, me 3 i (by decide), mb 3 i (by decide) (by rw [ro 3 (by decide)]; exact hi)⟩
  refine XC.block [31] 60 ?_
  refine And.intro v0 ?_
  refine And.intro v1 ?_
  refine And.intro nz1 ?_
  refine And.intro v2 ?_
  exact c31 _ _ _ et e0 ew
end RUF
