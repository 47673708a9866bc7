/-! the class on paper: a step -/
/-- the class's rows hold what is remembered -/
def clKV (K V : Nat → Nat → Nat → UInt32) (F : Nat → Nat → UInt32) : Prop := (∀ k, k < 128 → fB 182 (F 28 k) ∧ fB 182 (F 29 k)) ∧ (∀ k, k < 128 → fB 172 (F 31 k) ∧ fB 172 (F 32 k)) ∧ ∀ a j, a < 8 → j < 16 → (pKc (F 28) a j = K 0 a j ∧ pKc (F 31) a j = V 0 a j) ∧ pKc (F 29) a j = K 1 a j ∧ pKc (F 32) a j = V 1 a j
theorem clKV.ag {K V : Nat → Nat → Nat → UInt32} {F G : Nat → Nat → UInt32} (h : clKV K V F) (a : ∀ b k, 28 ≤ b → b ≤ 32 → G b k = F b k) : clKV K V G := by
  have e1 : G 28 = F 28 := funext fun k => a 28 k (by decide) (by decide)
  have e2 : G 29 = F 29 := funext fun k => a 29 k (by decide) (by decide)
  have e3 : G 31 = F 31 := funext fun k => a 31 k (by decide) (by decide)
  have e4 : G 32 = F 32 := funext fun k => a 32 k (by decide) (by decide)
  unfold clKV
  rw [e1, e2, e3, e4]
  exact h
theorem pKn_ext {M : pMd} {s a j : Nat} {K K' : Nat → Nat → UInt32} {N N' : Nat → UInt32} (hK : K a j = K' a j) (hN : N j = N' j) : pKn M s K N a j = pKn M s K' N' a j := by
  unfold pKn
  rw [hK, hN]
theorem mKl {M : pMd} (hm : mGd M) : mKw M ≤ 16 ∧ mFa M 0 ≤ 16 := by
  obtain ⟨-, -, -, k, e⟩ := mHs hm
  have h0 := hm.1.1
  rw [e] at k
  omega
section NEE_a
variable {X : List (Option Nat)} {T : List xS} {M : pMd} {I J : Nat → Nat → Int32} {L : Nat → Nat → Int64} {F G : Nat → Nat → UInt32} {d : Nat} {Q : xP}
theorem cl_advance_a (hM : clMd_a M I L F) (hm : mGd M) {s : Nat} {K V : Nat → Nat → Nat → UInt32} (hs : s < 60) (h60 : I 18 10 = nI s) (hKV : clKV K V F) {t : Nat} (ht : t < mFa M 6) {aa : Int32} (hat : aa = nI t)
    (hQ : ∀ G, (∀ b k, ¬ (19 ≤ b ∧ b ≤ 32) → G b k = F b k) → clKV (pKs M s t K V) (pVs M s t K V) G → (∀ i, i < mFa M 6 → G 26 i = pLo M s t K V i ∧ fB 172 (G 26 i)) → Q (some (.int (nI s))) (shG X (md1 T), x2 I 18 10 (nI (s + 1)), L, G)) : XM xE0 (d + 4) 119 [.ref 18, .ref 38, .int aa] (shG X (md1 T), I, L, F) Q := by
  have h0 := hm.1.1
  have h3 := hm.1.2.2.2.1
  have h6 := hm.1.2.2.2.2.2.2.1
  have hc := hm.1.2.2.2.2.2.1
  obtain ⟨wle, d16⟩ := mKl hm
  have e0 : I 39 0 = nI (mFa M 0) := hM.1 0 (by decide)
  have e3 : I 39 3 = nI (mFa M 3) := hM.1 3 (by decide)
  have v0 : vp_in (0 : Int32) 12 := rf_in (j := 0) rfl (by decide) (by decide)
  have v3 : vp_in (3 : Int32) 12 := rf_in (j := 3) rfl (by decide) (by decide)
  have v021 : vp_in (0 : Int32) 21 := rf_in (j := 0) rfl (by decide) (by decide)
  have q0 : 0 < 3 + 9 * mFa M 3 := by omega
  have q1 : 1 < 3 + 9 * mFa M 3 := by omega
  have q2 : 2 < 3 + 9 * mFa M 3 := by omega
  have c0 : mCq M 0 = mFa M 0 := if_pos (by decide)
  have w0 : mRq M 0 = mFa M 6 := if_pos (by decide)
  have c1 : mCq M 1 = mFa M 0 := if_pos (by decide)
  have w1 : mRq M 1 = 1 := if_pos (by decide)
  have c2 : mCq M 2 = mFa M 0 := if_pos (by decide)
  have w2 : mRq M 2 = mFa M 6 := if_pos (by decide)
  have en0 : I 49 0 = nI (mNd M 0) := hM.2.2.2.2.2.2.1 0 q0
  -- the end
  have c93 : ∀ (G : Nat → Nat → UInt32), (∀ b k, ¬ (19 ≤ b ∧ b ≤ 32) → G b k = F b k) → clKV (pKs M s t K V) (pVs M s t K V) G → (∀ i, i < mFa M 0 → G 19 i = pLx M s K V (pX0 M t) (mFa M 3) i ∧ fB 210 (G 19 i)) → ∀ (x3 x4 : Int32) y5, XC xE0 (d + 4) xM_119 (93, [some (.ref 18), some (.ref 38), some (.int aa), some (.int x3), some (.int x4), y5], [], (shG X (md1 T), I, L, G)) Q := by
    intro G D kv hx x3 x4 y5
    have GM : clMd_a M I L G := hM.fl (fun b k hb => D b k (by omega))
    have fin : ∀ (G2 : Nat → Nat → UInt32), (∀ b k, ¬ (19 ≤ b ∧ b ≤ 32) → G2 b k = F b k) → clKV (pKs M s t K V) (pVs M s t K V) G2 → (∀ i, i < mFa M 6 → G2 26 i = pLo M s t K V i ∧ fB 172 (G2 26 i)) → Q (some (.int (x2 I 18 10 (I 18 10 + 1) 18 10 - 1))) (shG X (md1 T), x2 I 18 10 (I 18 10 + 1), L, G2) := fun G2 a b c => by
      rw [x2_same, h60, nI_1, nI_pred]; exact hQ G2 a b c
    refine XC.block [] 60 ?_
    refine cl_norm_a GM hm q1 c1 w1 (fun j hj => (hx j hj).2) rfl (fun G1 D1 g1 b1 => ?_)
    have GM1 : clMd_a M I L G1 := GM.fl (fun b k hb => D1 b k (by omega))
    refine cl_mul_20_26_a GM1 hm q2 (b := 161) (k := 168) (p := 0) (fun j hj => b1 j (by rw [c2] at hj; exact hj)) (by decide) (by decide) (by decide) (by decide) (by rw [w2]; omega) rfl rfl (fun G2 D2 g2 => ?_)
    rw [w2] at g2
    refine ⟨trivial, fin G2 (fun b k hb => ?_) (kv.ag (fun b k hb1 hb2 => (D2 b k (by omega)).trans (D1 b k (by omega)))) (fun i hi => ?_)⟩
    · rw [D2 b k (by omega), D1 b k (by omega)]; exact D b k hb
    · rw [g2, pWr_i0 hi]
      refine ⟨?_, pMv_B hm (k := 168) q2 (by rw [w2]; exact hi) (b := 161) (fun j hj => b1 j (by rw [c2] at hj; exact hj)) (by decide) (by decide) (by decide) (by decide)⟩
      exact pMv_e hm q2 (fun j hj => (g1 j (by rw [c2] at hj; exact hj)).trans (pNo_ext (fun j hj => (hx j hj).1) (by rw [c2] at hj; exact hj)))
  -- the second layer
  have c51_1 : ∀ (G : Nat → Nat → UInt32), (∀ b k, ¬ (19 ≤ b ∧ b ≤ 32) → G b k = F b k) → (∀ k, k < 128 → fB 182 (G 28 k) ∧ fB 182 (G 29 k)) → (∀ k, k < 128 → fB 172 (G 31 k) ∧ fB 172 (G 32 k)) → (∀ a j, a < 8 → j < 16 → (pKc (G 28) a j = pKs M s t K V 0 a j ∧ pKc (G 31) a j = pVs M s t K V 0 a j) ∧ pKc (G 29) a j = K 1 a j ∧ pKc (G 32) a j = V 1 a j) → (∀ i, i < mFa M 0 → G 19 i = pLx M s K V (pX0 M t) 1 i ∧ fB 208 (G 19 i)) → ∀ x4, x4 = 1 → ∀ (x3 : Int32) y5, XC xE0 (d + 4) xM_119 (51, [some (.ref 18), some (.ref 38), some (.int aa), some (.int x3), some (.int x4), y5], [], (shG X (md1 T), I, L, G)) Q := by
    intro G D bk bv kv hx x4 hx4 x3 y5
    subst hx4
    have GM : clMd_a M I L G := hM.fl (fun b k hb => D b k (by omega))
    have stop : mFa M 3 = 1 → ∀ y5, XC xE0 (d + 4) xM_119 (93, [some (.ref 18), some (.ref 38), some (.int aa), some (.int x3), some (.int 1), y5], [], (shG X (md1 T), I, L, G)) Q := fun e1 y5 => by
      refine c93 G D ⟨bk, bv, fun a j ha hj => ⟨(kv a j ha hj).1, ?_, ?_⟩⟩ (fun i hi => ?_) _ _ _
      · rw [(kv a j ha hj).2.1]; unfold pKs; rw [if_neg (by omega)]
      · rw [(kv a j ha hj).2.2]; unfold pVs; rw [if_neg (by omega)]
      · rw [e1]; exact ⟨(hx i hi).1, (hx i hi).2.mono (by decide)⟩
    have k3 : I 39 3 ≤ 1 ↔ mFa M 3 = 1 := by rw [e3, show (1 : Int32) = nI 1 from rfl, nI_leI (by omega) (by decide)]; omega
    have k4 : ¬ I 39 3 ≤ 1 → 1 < mFa M 3 := fun z => by
      have : ¬ mFa M 3 = 1 := fun e => z (k3.mpr e)
      omega
    have layer : 1 < mFa M 3 → ∀ (G1 : Nat → Nat → UInt32), (∀ b k, b ≠ 19 → b ≠ 20 → b ≠ 21 → b ≠ 22 → b ≠ 25 → b ≠ 29 → b ≠ 32 → G1 b k = G b k) → (∀ i, i < mFa M 0 → G1 19 i = pX1 M 1 s (pKc (G 29)) (pKc (G 32)) (G 19) i ∧ fB (207 + 2 * 1) (G1 19 i)) → G1 29 = pWr (16 * (s % mFa M 5)) (mKw M) (G 29) (pK1 M 1 s (G 19)) → (∀ k, k < 128 → fB 182 (G1 29 k)) → G1 32 = pWr (16 * (s % mFa M 5)) (mKw M) (G 32) (pV1 M 1 (G 19)) → (∀ k, k < 128 → fB 172 (G1 32 k)) → ∀ (G2 : Nat → Nat → UInt32), (∀ b k, b ≠ 19 → b ≠ 20 → b ≠ 23 → b ≠ 24 → G2 b k = G1 b k) → (∀ i, i < mFa M 0 → G2 19 i = pX2 M 1 (G1 19) i ∧ fB (208 + 2 * 1) (G2 19 i)) → ∀ x4 : Int32, x4 = 2 → ∀ y5, XC xE0 (d + 4) xM_119 (51, [some (.ref 18), some (.ref 38), some (.int aa), some (.int x3), some (.int x4), y5], [], (shG X (md1 T), I, L, G2)) Q := by
      intro l2 G1 D1 x1 k29 b29 k32 b32 G2 D2 x2e x4 hx4 y5
      subst hx4
      have el : mFa M 3 = 2 := by omega
      have D' : ∀ b k, ¬ (19 ≤ b ∧ b ≤ 32) → G2 b k = F b k := fun b k hb => by
        rw [D2 b k (by omega) (by omega) (by omega) (by omega), D1 b k (by omega) (by omega) (by omega) (by omega) (by omega) (by omega) (by omega)]
        exact D b k hb
      have g28 : ∀ k, G2 28 k = G 28 k := fun k => (D2 28 k (by decide) (by decide) (by decide) (by decide)).trans (D1 28 k (by decide) (by decide) (by decide) (by decide) (by decide) (by decide) (by decide))
      have g31 : ∀ k, G2 31 k = G 31 k := fun k => (D2 31 k (by decide) (by decide) (by decide) (by decide)).trans (D1 31 k (by decide) (by decide) (by decide) (by decide) (by decide) (by decide) (by decide))
      have g29 : ∀ k, G2 29 k = G1 29 k := fun k => D2 29 k (by decide) (by decide) (by decide) (by decide)
      have g32 : ∀ k, G2 32 k = G1 32 k := fun k => D2 32 k (by decide) (by decide) (by decide) (by decide)
      have kvn : clKV (pKs M s t K V) (pVs M s t K V) G2 := by
        refine ⟨fun k hk => ?_, fun k hk => ?_, fun a j ha hj => ⟨⟨?_, ?_⟩, ?_, ?_⟩⟩
        · rw [g28, g29]; exact ⟨(bk k hk).1, b29 k hk⟩
        · rw [g31, g32]; exact ⟨(bv k hk).1, b32 k hk⟩
        · rw [show G2 28 = G 28 from funext g28]; exact (kv a j ha hj).1.1
        · rw [show G2 31 = G 31 from funext g31]; exact (kv a j ha hj).1.2
        · rw [show G2 29 = G1 29 from funext g29, k29, pKc_Wr wle hj]
          exact (pKn_ext (kv a j ha hj).2.1 (pK1_ext hm l2 (fun j hj => (hx j hj).1) j)).trans (if_pos l2).symm
        · rw [show G2 32 = G1 32 from funext g32, k32, pKc_Wr wle hj]
          exact (pKn_ext (kv a j ha hj).2.2 (pV1_ext hm l2 (fun j hj => (hx j hj).1) j)).trans (if_pos l2).symm
      have xn : ∀ i, i < mFa M 0 → G2 19 i = pLx M s K V (pX0 M t) (mFa M 3) i ∧ fB 210 (G2 19 i) := fun i hi => by
        rw [el]
        refine ⟨?_, (x2e i hi).2⟩
        rw [(x2e i hi).1]
        refine pX2_ext hm (by omega) (fun j hj => ?_) hi
        rw [(x1 j hj).1]
        exact pX1_ext hm (by omega) (fun j hj => (hx j hj).1) (fun a j ha hj => (kv a j (by omega) (by omega)).2.1) (fun a j ha hj => (kv a j (by omega) (by omega)).2.2) hj
      have k := c93 G2 D' kvn xn x3 2
      have ge : I 39 3 ≤ 2 := by rw [e3, show (2 : Int32) = nI 2 from rfl]; exact nI_le (by omega) (by decide)
      refine XC.block [51, 93] 60 ?_
      refine And.intro v3 ?_
      exact And.intro (fun _ => k _) (fun z => absurd ge z)
    have b19 : ∀ j, j < mFa M 0 → fB (206 + 2 * 1) (G 19 j) := fun j hj => (hx j hj).2
    have b29 : ∀ k, k < 128 → fB 182 (G 29 k) := fun k hk => (bk k hk).2
    have b32 : ∀ k, k < 128 → fB 172 (G 32 k) := fun k hk => (bv k hk).2
    refine XC.block [51, 93] 60 ?_
    refine And.intro v3 ?_
    refine And.intro (fun z => stop (k3.mp z) _) (fun z => ?_)
    have l2 : 1 < mFa M 3 := k4 z
    refine cl_attend_1_a GM hm l2 hs h60 b29 b32 b19 (pt := 3 + 1 * 9) rfl (fun G1 D1 x1 k29 c29 k32 c32 => ?_)
    have GM1 : clMd_a M I L G1 := GM.fl (fun b k hb => D1 b k (by omega) (by omega) (by omega) (by omega) (by omega) (by omega) (by omega))
    refine cl_feed_a GM1 hm l2 (fun j hj => (x1 j hj).2) (pt := 3 + 1 * 9) rfl (fun G2 D2 x2e => ?_)
    exact layer l2 G1 D1 x1 k29 c29 k32 c32 G2 D2 x2e _ rfl _
  -- the first layer
  have c51_0 : ∀ (G : Nat → Nat → UInt32), (∀ b k, b ≠ 19 → G b k = F b k) → (∀ i, i < mFa M 0 → G 19 i = pX0 M t i ∧ fB 206 (G 19 i)) → ∀ x4, x4 = 0 → ∀ (x3 : Int32) y5, XC xE0 (d + 4) xM_119 (51, [some (.ref 18), some (.ref 38), some (.int aa), some (.int x3), some (.int x4), y5], [], (shG X (md1 T), I, L, G)) Q := by
    intro G D hx x4 hx4 x3 y5
    subst hx4
    have GM : clMd_a M I L G := hM.fl (fun b k hb => D b k (by omega))
    have kv : clKV K V G := hKV.ag (fun b k hb1 hb2 => D b k (by omega))
    have l1 : 0 < mFa M 3 := by omega
    have nle : ¬ I 39 3 ≤ 0 := by rw [e3]; exact nI_nle l1 (by omega)
    have layer : ∀ (G1 : Nat → Nat → UInt32), (∀ b k, b ≠ 19 → b ≠ 20 → b ≠ 21 → b ≠ 22 → b ≠ 25 → b ≠ 28 → b ≠ 31 → G1 b k = G b k) → (∀ i, i < mFa M 0 → G1 19 i = pX1 M 0 s (pKc (G 28)) (pKc (G 31)) (G 19) i ∧ fB (207 + 2 * 0) (G1 19 i)) → G1 28 = pWr (16 * (s % mFa M 5)) (mKw M) (G 28) (pK1 M 0 s (G 19)) → (∀ k, k < 128 → fB 182 (G1 28 k)) → G1 31 = pWr (16 * (s % mFa M 5)) (mKw M) (G 31) (pV1 M 0 (G 19)) → (∀ k, k < 128 → fB 172 (G1 31 k)) → ∀ (G2 : Nat → Nat → UInt32), (∀ b k, b ≠ 19 → b ≠ 20 → b ≠ 23 → b ≠ 24 → G2 b k = G1 b k) → (∀ i, i < mFa M 0 → G2 19 i = pX2 M 0 (G1 19) i ∧ fB (208 + 2 * 0) (G2 19 i)) → ∀ x4 : Int32, x4 = 1 → ∀ y5, XC xE0 (d + 4) xM_119 (51, [some (.ref 18), some (.ref 38), some (.int aa), some (.int x3), some (.int x4), y5], [], (shG X (md1 T), I, L, G2)) Q := by
      intro G1 D1 x1 k28 b28 k31 b31 G2 D2 x2e x4 hx4 y5
      have g28 : ∀ k, G2 28 k = G1 28 k := fun k => D2 28 k (by decide) (by decide) (by decide) (by decide)
      have g31 : ∀ k, G2 31 k = G1 31 k := fun k => D2 31 k (by decide) (by decide) (by decide) (by decide)
      have g29 : ∀ k, G2 29 k = G 29 k := fun k => (D2 29 k (by decide) (by decide) (by decide) (by decide)).trans (D1 29 k (by decide) (by decide) (by decide) (by decide) (by decide) (by decide) (by decide))
      have g32 : ∀ k, G2 32 k = G 32 k := fun k => (D2 32 k (by decide) (by decide) (by decide) (by decide)).trans (D1 32 k (by decide) (by decide) (by decide) (by decide) (by decide) (by decide) (by decide))
      refine c51_1 G2 (fun b k hb => ?_) (fun k hk => ?_) (fun k hk => ?_) (fun a j ha hj => ⟨⟨?_, ?_⟩, ?_, ?_⟩) (fun i hi => ⟨?_, (x2e i hi).2⟩) x4 hx4 _ _
      · rw [D2 b k (by omega) (by omega) (by omega) (by omega), D1 b k (by omega) (by omega) (by omega) (by omega) (by omega) (by omega) (by omega)]
        exact D b k (by omega)
      · rw [g28, g29]; exact ⟨b28 k hk, (kv.1 k hk).2⟩
      · rw [g31, g32]; exact ⟨b31 k hk, (kv.2.1 k hk).2⟩
      · rw [show G2 28 = G1 28 from funext g28, k28, pKc_Wr wle hj]
        exact (pKn_ext (kv.2.2 a j ha hj).1.1 (pK1_ext hm l1 (fun j hj => (hx j hj).1) j)).trans (if_pos l1).symm
      · rw [show G2 31 = G1 31 from funext g31, k31, pKc_Wr wle hj]
        exact (pKn_ext (kv.2.2 a j ha hj).1.2 (pV1_ext hm l1 (fun j hj => (hx j hj).1) j)).trans (if_pos l1).symm
      · rw [show G2 29 = G 29 from funext g29]; exact (kv.2.2 a j ha hj).2.1
      · rw [show G2 32 = G 32 from funext g32]; exact (kv.2.2 a j ha hj).2.2
      · rw [(x2e i hi).1]
        refine pX2_ext hm l1 (fun j hj => ?_) hi
        rw [(x1 j hj).1]
        exact pX1_ext hm l1 (fun j hj => (hx j hj).1) (fun a j ha hj => (kv.2.2 a j (by omega) (by omega)).1.1) (fun a j ha hj => (kv.2.2 a j (by omega) (by omega)).1.2) hj
    have b19 : ∀ j, j < mFa M 0 → fB (206 + 2 * 0) (G 19 j) := fun j hj => (hx j hj).2
    have b28 : ∀ k, k < 128 → fB 182 (G 28 k) := fun k hk => (kv.1 k hk).1
    have b31 : ∀ k, k < 128 → fB 172 (G 31 k) := fun k hk => (kv.2.1 k hk).1
    refine XC.block [51, 93] 60 ?_
    refine And.intro v3 ?_
    refine And.intro (fun z => absurd z nle) (fun _ => ?_)
    refine cl_attend_0_a GM hm l1 hs h60 b28 b31 b19 (pt := 3 + 0 * 9) rfl (fun G1 D1 x1 k28 c28 k31 c31 => ?_)
    have GM1 : clMd_a M I L G1 := GM.fl (fun b k hb => D1 b k (by omega) (by omega) (by omega) (by omega) (by omega) (by omega) (by omega))
    refine cl_feed_a GM1 hm l1 (fun j hj => (x1 j hj).2) (pt := 3 + 0 * 9) rfl (fun G2 D2 x2e => ?_)
    exact layer G1 D1 x1 k28 c28 k31 c31 G2 D2 x2e _ rfl _
  -- the TOKEN's row
  have c13 : ∀ x3, x3 = nI (mNd M 0) → ∀ (u j : Nat), j + u = mFa M 0 → ∀ G, fO 19 F G → (∀ j', j' < j → G 19 j' = pX0 M t j' ∧ fB 156 (G 19 j')) → ∀ x4, x4 = nI j → XC xE0 (d + 4) xM_119 (13, [some (.ref 18), some (.ref 38), some (.int aa), some (.int x3), some (.int x4), none], [], (shG X (md1 T), I, L, G)) Q := by
    intro x3 hx3 u
    obtain ⟨n1, n2, n3, n4, n5, n6⟩ := hm.q q0
    rw [c0] at n3
    rw [w0] at n4
    induction u with
    | zero =>
      intro j hj G D hv x4 hx4
      have : j = mFa M 0 := by omega
      subst this
      have k := c51_0 G D (fun i hi => ⟨(hv i hi).1, (hv i hi).2.mono (by decide)⟩) 0 rfl x3
      refine XC.block [13, 51] 60 ?_
      refine And.intro v0 ?_
      exact And.intro (fun _ => k _) (fun z => absurd (show I 39 0 ≤ x4 by rw [e0, hx4]; exact nI_le (by omega) (by omega)) z)
    | succ u ih =>
      intro j hj G D hv x4 hx4
      have hlt : ¬ I 39 0 ≤ x4 := by rw [e0, hx4]; exact nI_ge (by omega) (by omega)
      have hx1 : x4 + 1 = nI (j + 1) := by rw [hx4, nI_1]
      have xin : vp_in x4 16 := rf_in hx4 (by omega) (by decide)
      have tx : x4.toNatClampNeg = j := by rw [hx4, nI_clamp (by omega)]
      have GM : clMd_a M I L G := hM.fl (fun b k hb => D b k (by omega))
      have tl : t < mRo M (mNd M 0) := by rw [n4]; exact ht
      have jl : j < mCo M (mNd M 0) := by rw [n3]; omega
      have ew : mWt M (mNd M 0) (t * mCo M (mNd M 0) + j) = pX0 M t j := by rw [n3]; rfl
      have wb := (n6 t j tl jl).2
      have V2 : ∀ j', j' < j + 1 → x2 G 19 x4.toNatClampNeg (mWt M (mNd M 0) (t * mCo M (mNd M 0) + j)) 19 j' = pX0 M t j' ∧ fB 156 (x2 G 19 x4.toNatClampNeg (mWt M (mNd M 0) (t * mCo M (mNd M 0) + j)) 19 j') := by
        intro j' hj'
        rcases Nat.lt_or_ge j' j with y | y
        · rw [x2_o _ _ (by omega)]; exact hv j' y
        · have : j' = j := by omega
          subst this
          rw [tx, x2_same]
          exact ⟨ew, wb⟩
      refine XC.block [13, 51] 60 ?_
      refine And.intro v0 ?_
      refine And.intro (fun z => absurd z hlt) (fun _ => ?_)
      refine cl_att_a GM hm n2 tl jl hx3 hat hx4 ?_
      refine And.intro xin ?_
      exact ih (j + 1) (by omega) _ D.st V2 _ hx1
  refine XC.block [13] 60 ?_
  refine And.intro v021 ?_
  exact c13 _ en0 (mFa M 0) 0 (Nat.zero_add _) F fO.rf (fun j hj => absurd hj (Nat.not_lt_zero _)) _ rfl
end NEE_a
section NEE_b
variable {X : List (Option Nat)} {T : List xS} {M : pMd} {I J : Nat → Nat → Int32} {L : Nat → Nat → Int64} {F G : Nat → Nat → UInt32} {d : Nat} {Q : xP}
theorem cl_advance_b (hM : clMd_b M I L F) (hm : mGd M) {s : Nat} {K V : Nat → Nat → Nat → UInt32} (hs : s < 60) (h60 : I 18 10 = nI s) (hKV : clKV K V F) {t : Nat} (ht : t < mFa M 6) {aa : Int32} (hat : aa = nI t)
    (hQ : ∀ G, (∀ b k, ¬ (19 ≤ b ∧ b ≤ 32) → G b k = F b k) → clKV (pKs M s t K V) (pVs M s t K V) G → (∀ i, i < mFa M 6 → G 26 i = pLo M s t K V i ∧ fB 172 (G 26 i)) → Q (some (.int (nI s))) (shG X (md2 T), x2 I 18 10 (nI (s + 1)), L, G)) : XM xE0 (d + 4) 119 [.ref 18, .ref 51, .int aa] (shG X (md2 T), I, L, F) Q := by
  have h0 := hm.1.1
  have h3 := hm.1.2.2.2.1
  have h6 := hm.1.2.2.2.2.2.2.1
  have hc := hm.1.2.2.2.2.2.1
  obtain ⟨wle, d16⟩ := mKl hm
  have e0 : I 52 0 = nI (mFa M 0) := hM.1 0 (by decide)
  have e3 : I 52 3 = nI (mFa M 3) := hM.1 3 (by decide)
  have v0 : vp_in (0 : Int32) 12 := rf_in (j := 0) rfl (by decide) (by decide)
  have v3 : vp_in (3 : Int32) 12 := rf_in (j := 3) rfl (by decide) (by decide)
  have v021 : vp_in (0 : Int32) 21 := rf_in (j := 0) rfl (by decide) (by decide)
  have q0 : 0 < 3 + 9 * mFa M 3 := by omega
  have q1 : 1 < 3 + 9 * mFa M 3 := by omega
  have q2 : 2 < 3 + 9 * mFa M 3 := by omega
  have c0 : mCq M 0 = mFa M 0 := if_pos (by decide)
  have w0 : mRq M 0 = mFa M 6 := if_pos (by decide)
  have c1 : mCq M 1 = mFa M 0 := if_pos (by decide)
  have w1 : mRq M 1 = 1 := if_pos (by decide)
  have c2 : mCq M 2 = mFa M 0 := if_pos (by decide)
  have w2 : mRq M 2 = mFa M 6 := if_pos (by decide)
  have en0 : I 62 0 = nI (mNd M 0) := hM.2.2.2.2.2.2.1 0 q0
  -- the end
  have c93 : ∀ (G : Nat → Nat → UInt32), (∀ b k, ¬ (19 ≤ b ∧ b ≤ 32) → G b k = F b k) → clKV (pKs M s t K V) (pVs M s t K V) G → (∀ i, i < mFa M 0 → G 19 i = pLx M s K V (pX0 M t) (mFa M 3) i ∧ fB 210 (G 19 i)) → ∀ (x3 x4 : Int32) y5, XC xE0 (d + 4) xM_119 (93, [some (.ref 18), some (.ref 51), some (.int aa), some (.int x3), some (.int x4), y5], [], (shG X (md2 T), I, L, G)) Q := by
    intro G D kv hx x3 x4 y5
    have GM : clMd_b M I L G := hM.fl (fun b k hb => D b k (by omega))
    have fin : ∀ (G2 : Nat → Nat → UInt32), (∀ b k, ¬ (19 ≤ b ∧ b ≤ 32) → G2 b k = F b k) → clKV (pKs M s t K V) (pVs M s t K V) G2 → (∀ i, i < mFa M 6 → G2 26 i = pLo M s t K V i ∧ fB 172 (G2 26 i)) → Q (some (.int (x2 I 18 10 (I 18 10 + 1) 18 10 - 1))) (shG X (md2 T), x2 I 18 10 (I 18 10 + 1), L, G2) := fun G2 a b c => by
      rw [x2_same, h60, nI_1, nI_pred]; exact hQ G2 a b c
    refine XC.block [] 60 ?_
    refine cl_norm_b GM hm q1 c1 w1 (fun j hj => (hx j hj).2) rfl (fun G1 D1 g1 b1 => ?_)
    have GM1 : clMd_b M I L G1 := GM.fl (fun b k hb => D1 b k (by omega))
    refine cl_mul_20_26_b GM1 hm q2 (b := 161) (k := 168) (p := 0) (fun j hj => b1 j (by rw [c2] at hj; exact hj)) (by decide) (by decide) (by decide) (by decide) (by rw [w2]; omega) rfl rfl (fun G2 D2 g2 => ?_)
    rw [w2] at g2
    refine ⟨trivial, fin G2 (fun b k hb => ?_) (kv.ag (fun b k hb1 hb2 => (D2 b k (by omega)).trans (D1 b k (by omega)))) (fun i hi => ?_)⟩
    · rw [D2 b k (by omega), D1 b k (by omega)]; exact D b k hb
    · rw [g2, pWr_i0 hi]
      refine ⟨?_, pMv_B hm (k := 168) q2 (by rw [w2]; exact hi) (b := 161) (fun j hj => b1 j (by rw [c2] at hj; exact hj)) (by decide) (by decide) (by decide) (by decide)⟩
      exact pMv_e hm q2 (fun j hj => (g1 j (by rw [c2] at hj; exact hj)).trans (pNo_ext (fun j hj => (hx j hj).1) (by rw [c2] at hj; exact hj)))
  -- the second layer
  have c51_1 : ∀ (G : Nat → Nat → UInt32), (∀ b k, ¬ (19 ≤ b ∧ b ≤ 32) → G b k = F b k) → (∀ k, k < 128 → fB 182 (G 28 k) ∧ fB 182 (G 29 k)) → (∀ k, k < 128 → fB 172 (G 31 k) ∧ fB 172 (G 32 k)) → (∀ a j, a < 8 → j < 16 → (pKc (G 28) a j = pKs M s t K V 0 a j ∧ pKc (G 31) a j = pVs M s t K V 0 a j) ∧ pKc (G 29) a j = K 1 a j ∧ pKc (G 32) a j = V 1 a j) → (∀ i, i < mFa M 0 → G 19 i = pLx M s K V (pX0 M t) 1 i ∧ fB 208 (G 19 i)) → ∀ x4, x4 = 1 → ∀ (x3 : Int32) y5, XC xE0 (d + 4) xM_119 (51, [some (.ref 18), some (.ref 51), some (.int aa), some (.int x3), some (.int x4), y5], [], (shG X (md2 T), I, L, G)) Q := by
    intro G D bk bv kv hx x4 hx4 x3 y5
    subst hx4
    have GM : clMd_b M I L G := hM.fl (fun b k hb => D b k (by omega))
    have stop : mFa M 3 = 1 → ∀ y5, XC xE0 (d + 4) xM_119 (93, [some (.ref 18), some (.ref 51), some (.int aa), some (.int x3), some (.int 1), y5], [], (shG X (md2 T), I, L, G)) Q := fun e1 y5 => by
      refine c93 G D ⟨bk, bv, fun a j ha hj => ⟨(kv a j ha hj).1, ?_, ?_⟩⟩ (fun i hi => ?_) _ _ _
      · rw [(kv a j ha hj).2.1]; unfold pKs; rw [if_neg (by omega)]
      · rw [(kv a j ha hj).2.2]; unfold pVs; rw [if_neg (by omega)]
      · rw [e1]; exact ⟨(hx i hi).1, (hx i hi).2.mono (by decide)⟩
    have k3 : I 52 3 ≤ 1 ↔ mFa M 3 = 1 := by rw [e3, show (1 : Int32) = nI 1 from rfl, nI_leI (by omega) (by decide)]; omega
    have k4 : ¬ I 52 3 ≤ 1 → 1 < mFa M 3 := fun z => by
      have : ¬ mFa M 3 = 1 := fun e => z (k3.mpr e)
      omega
    have layer : 1 < mFa M 3 → ∀ (G1 : Nat → Nat → UInt32), (∀ b k, b ≠ 19 → b ≠ 20 → b ≠ 21 → b ≠ 22 → b ≠ 25 → b ≠ 29 → b ≠ 32 → G1 b k = G b k) → (∀ i, i < mFa M 0 → G1 19 i = pX1 M 1 s (pKc (G 29)) (pKc (G 32)) (G 19) i ∧ fB (207 + 2 * 1) (G1 19 i)) → G1 29 = pWr (16 * (s % mFa M 5)) (mKw M) (G 29) (pK1 M 1 s (G 19)) → (∀ k, k < 128 → fB 182 (G1 29 k)) → G1 32 = pWr (16 * (s % mFa M 5)) (mKw M) (G 32) (pV1 M 1 (G 19)) → (∀ k, k < 128 → fB 172 (G1 32 k)) → ∀ (G2 : Nat → Nat → UInt32), (∀ b k, b ≠ 19 → b ≠ 20 → b ≠ 23 → b ≠ 24 → G2 b k = G1 b k) → (∀ i, i < mFa M 0 → G2 19 i = pX2 M 1 (G1 19) i ∧ fB (208 + 2 * 1) (G2 19 i)) → ∀ x4 : Int32, x4 = 2 → ∀ y5, XC xE0 (d + 4) xM_119 (51, [some (.ref 18), some (.ref 51), some (.int aa), some (.int x3), some (.int x4), y5], [], (shG X (md2 T), I, L, G2)) Q := by
      intro l2 G1 D1 x1 k29 b29 k32 b32 G2 D2 x2e x4 hx4 y5
      subst hx4
      have el : mFa M 3 = 2 := by omega
      have D' : ∀ b k, ¬ (19 ≤ b ∧ b ≤ 32) → G2 b k = F b k := fun b k hb => by
        rw [D2 b k (by omega) (by omega) (by omega) (by omega), D1 b k (by omega) (by omega) (by omega) (by omega) (by omega) (by omega) (by omega)]
        exact D b k hb
      have g28 : ∀ k, G2 28 k = G 28 k := fun k => (D2 28 k (by decide) (by decide) (by decide) (by decide)).trans (D1 28 k (by decide) (by decide) (by decide) (by decide) (by decide) (by decide) (by decide))
      have g31 : ∀ k, G2 31 k = G 31 k := fun k => (D2 31 k (by decide) (by decide) (by decide) (by decide)).trans (D1 31 k (by decide) (by decide) (by decide) (by decide) (by decide) (by decide) (by decide))
      have g29 : ∀ k, G2 29 k = G1 29 k := fun k => D2 29 k (by decide) (by decide) (by decide) (by decide)
      have g32 : ∀ k, G2 32 k = G1 32 k := fun k => D2 32 k (by decide) (by decide) (by decide) (by decide)
      have kvn : clKV (pKs M s t K V) (pVs M s t K V) G2 := by
        refine ⟨fun k hk => ?_, fun k hk => ?_, fun a j ha hj => ⟨⟨?_, ?_⟩, ?_, ?_⟩⟩
        · rw [g28, g29]; exact ⟨(bk k hk).1, b29 k hk⟩
        · rw [g31, g32]; exact ⟨(bv k hk).1, b32 k hk⟩
        · rw [show G2 28 = G 28 from funext g28]; exact (kv a j ha hj).1.1
        · rw [show G2 31 = G 31 from funext g31]; exact (kv a j ha hj).1.2
        · rw [show G2 29 = G1 29 from funext g29, k29, pKc_Wr wle hj]
          exact (pKn_ext (kv a j ha hj).2.1 (pK1_ext hm l2 (fun j hj => (hx j hj).1) j)).trans (if_pos l2).symm
        · rw [show G2 32 = G1 32 from funext g32, k32, pKc_Wr wle hj]
          exact (pKn_ext (kv a j ha hj).2.2 (pV1_ext hm l2 (fun j hj => (hx j hj).1) j)).trans (if_pos l2).symm
      have xn : ∀ i, i < mFa M 0 → G2 19 i = pLx M s K V (pX0 M t) (mFa M 3) i ∧ fB 210 (G2 19 i) := fun i hi => by
        rw [el]
        refine ⟨?_, (x2e i hi).2⟩
        rw [(x2e i hi).1]
        refine pX2_ext hm (by omega) (fun j hj => ?_) hi
        rw [(x1 j hj).1]
        exact pX1_ext hm (by omega) (fun j hj => (hx j hj).1) (fun a j ha hj => (kv a j (by omega) (by omega)).2.1) (fun a j ha hj => (kv a j (by omega) (by omega)).2.2) hj
      have k := c93 G2 D' kvn xn x3 2
      have ge : I 52 3 ≤ 2 := by rw [e3, show (2 : Int32) = nI 2 from rfl]; exact nI_le (by omega) (by decide)
      refine XC.block [51, 93] 60 ?_
      refine And.intro v3 ?_
      exact And.intro (fun _ => k _) (fun z => absurd ge z)
    have b19 : ∀ j, j < mFa M 0 → fB (206 + 2 * 1) (G 19 j) := fun j hj => (hx j hj).2
    have b29 : ∀ k, k < 128 → fB 182 (G 29 k) := fun k hk => (bk k hk).2
    have b32 : ∀ k, k < 128 → fB 172 (G 32 k) := fun k hk => (bv k hk).2
    refine XC.block [51, 93] 60 ?_
    refine And.intro v3 ?_
    refine And.intro (fun z => stop (k3.mp z) _) (fun z => ?_)
    have l2 : 1 < mFa M 3 := k4 z
    refine cl_attend_1_b GM hm l2 hs h60 b29 b32 b19 (pt := 3 + 1 * 9) rfl (fun G1 D1 x1 k29 c29 k32 c32 => ?_)
    have GM1 : clMd_b M I L G1 := GM.fl (fun b k hb => D1 b k (by omega) (by omega) (by omega) (by omega) (by omega) (by omega) (by omega))
    refine cl_feed_b GM1 hm l2 (fun j hj => (x1 j hj).2) (pt := 3 + 1 * 9) rfl (fun G2 D2 x2e => ?_)
    exact layer l2 G1 D1 x1 k29 c29 k32 c32 G2 D2 x2e _ rfl _
  -- the first layer
  have c51_0 : ∀ (G : Nat → Nat → UInt32), (∀ b k, b ≠ 19 → G b k = F b k) → (∀ i, i < mFa M 0 → G 19 i = pX0 M t i ∧ fB 206 (G 19 i)) → ∀ x4, x4 = 0 → ∀ (x3 : Int32) y5, XC xE0 (d + 4) xM_119 (51, [some (.ref 18), some (.ref 51), some (.int aa), some (.int x3), some (.int x4), y5], [], (shG X (md2 T), I, L, G)) Q := by
    intro G D hx x4 hx4 x3 y5
    subst hx4
    have GM : clMd_b M I L G := hM.fl (fun b k hb => D b k (by omega))
    have kv : clKV K V G := hKV.ag (fun b k hb1 hb2 => D b k (by omega))
    have l1 : 0 < mFa M 3 := by omega
    have nle : ¬ I 52 3 ≤ 0 := by rw [e3]; exact nI_nle l1 (by omega)
    have layer : ∀ (G1 : Nat → Nat → UInt32), (∀ b k, b ≠ 19 → b ≠ 20 → b ≠ 21 → b ≠ 22 → b ≠ 25 → b ≠ 28 → b ≠ 31 → G1 b k = G b k) → (∀ i, i < mFa M 0 → G1 19 i = pX1 M 0 s (pKc (G 28)) (pKc (G 31)) (G 19) i ∧ fB (207 + 2 * 0) (G1 19 i)) → G1 28 = pWr (16 * (s % mFa M 5)) (mKw M) (G 28) (pK1 M 0 s (G 19)) → (∀ k, k < 128 → fB 182 (G1 28 k)) → G1 31 = pWr (16 * (s % mFa M 5)) (mKw M) (G 31) (pV1 M 0 (G 19)) → (∀ k, k < 128 → fB 172 (G1 31 k)) → ∀ (G2 : Nat → Nat → UInt32), (∀ b k, b ≠ 19 → b ≠ 20 → b ≠ 23 → b ≠ 24 → G2 b k = G1 b k) → (∀ i, i < mFa M 0 → G2 19 i = pX2 M 0 (G1 19) i ∧ fB (208 + 2 * 0) (G2 19 i)) → ∀ x4 : Int32, x4 = 1 → ∀ y5, XC xE0 (d + 4) xM_119 (51, [some (.ref 18), some (.ref 51), some (.int aa), some (.int x3), some (.int x4), y5], [], (shG X (md2 T), I, L, G2)) Q := by
      intro G1 D1 x1 k28 b28 k31 b31 G2 D2 x2e x4 hx4 y5
      have g28 : ∀ k, G2 28 k = G1 28 k := fun k => D2 28 k (by decide) (by decide) (by decide) (by decide)
      have g31 : ∀ k, G2 31 k = G1 31 k := fun k => D2 31 k (by decide) (by decide) (by decide) (by decide)
      have g29 : ∀ k, G2 29 k = G 29 k := fun k => (D2 29 k (by decide) (by decide) (by decide) (by decide)).trans (D1 29 k (by decide) (by decide) (by decide) (by decide) (by decide) (by decide) (by decide))
      have g32 : ∀ k, G2 32 k = G 32 k := fun k => (D2 32 k (by decide) (by decide) (by decide) (by decide)).trans (D1 32 k (by decide) (by decide) (by decide) (by decide) (by decide) (by decide) (by decide))
      refine c51_1 G2 (fun b k hb => ?_) (fun k hk => ?_) (fun k hk => ?_) (fun a j ha hj => ⟨⟨?_, ?_⟩, ?_, ?_⟩) (fun i hi => ⟨?_, (x2e i hi).2⟩) x4 hx4 _ _
      · rw [D2 b k (by omega) (by omega) (by omega) (by omega), D1 b k (by omega) (by omega) (by omega) (by omega) (by omega) (by omega) (by omega)]
        exact D b k (by omega)
      · rw [g28, g29]; exact ⟨b28 k hk, (kv.1 k hk).2⟩
      · rw [g31, g32]; exact ⟨b31 k hk, (kv.2.1 k hk).2⟩
      · rw [show G2 28 = G1 28 from funext g28, k28, pKc_Wr wle hj]
        exact (pKn_ext (kv.2.2 a j ha hj).1.1 (pK1_ext hm l1 (fun j hj => (hx j hj).1) j)).trans (if_pos l1).symm
      · rw [show G2 31 = G1 31 from funext g31, k31, pKc_Wr wle hj]
        exact (pKn_ext (kv.2.2 a j ha hj).1.2 (pV1_ext hm l1 (fun j hj => (hx j hj).1) j)).trans (if_pos l1).symm
      · rw [show G2 29 = G 29 from funext g29]; exact (kv.2.2 a j ha hj).2.1
      · rw [show G2 32 = G 32 from funext g32]; exact (kv.2.2 a j ha hj).2.2
      · rw [(x2e i hi).1]
        refine pX2_ext hm l1 (fun j hj => ?_) hi
        rw [(x1 j hj).1]
        exact pX1_ext hm l1 (fun j hj => (hx j hj).1) (fun a j ha hj => (kv.2.2 a j (by omega) (by omega)).1.1) (fun a j ha hj => (kv.2.2 a j (by omega) (by omega)).1.2) hj
    have b19 : ∀ j, j < mFa M 0 → fB (206 + 2 * 0) (G 19 j) := fun j hj => (hx j hj).2
    have b28 : ∀ k, k < 128 → fB 182 (G 28 k) := fun k hk => (kv.1 k hk).1
    have b31 : ∀ k, k < 128 → fB 172 (G 31 k) := fun k hk => (kv.2.1 k hk).1
    refine XC.block [51, 93] 60 ?_
    refine And.intro v3 ?_
    refine And.intro (fun z => absurd z nle) (fun _ => ?_)
    refine cl_attend_0_b GM hm l1 hs h60 b28 b31 b19 (pt := 3 + 0 * 9) rfl (fun G1 D1 x1 k28 c28 k31 c31 => ?_)
    have GM1 : clMd_b M I L G1 := GM.fl (fun b k hb => D1 b k (by omega) (by omega) (by omega) (by omega) (by omega) (by omega) (by omega))
    refine cl_feed_b GM1 hm l1 (fun j hj => (x1 j hj).2) (pt := 3 + 0 * 9) rfl (fun G2 D2 x2e => ?_)
    exact layer G1 D1 x1 k28 c28 k31 c31 G2 D2 x2e _ rfl _
  -- the TOKEN's row
  have c13 : ∀ x3, x3 = nI (mNd M 0) → ∀ (u j : Nat), j + u = mFa M 0 → ∀ G, fO 19 F G → (∀ j', j' < j → G 19 j' = pX0 M t j' ∧ fB 156 (G 19 j')) → ∀ x4, x4 = nI j → XC xE0 (d + 4) xM_119 (13, [some (.ref 18), some (.ref 51), some (.int aa), some (.int x3), some (.int x4), none], [], (shG X (md2 T), I, L, G)) Q := by
    intro x3 hx3 u
    obtain ⟨n1, n2, n3, n4, n5, n6⟩ := hm.q q0
    rw [c0] at n3
    rw [w0] at n4
    induction u with
    | zero =>
      intro j hj G D hv x4 hx4
      have : j = mFa M 0 := by omega
      subst this
      have k := c51_0 G D (fun i hi => ⟨(hv i hi).1, (hv i hi).2.mono (by decide)⟩) 0 rfl x3
      refine XC.block [13, 51] 60 ?_
      refine And.intro v0 ?_
      exact And.intro (fun _ => k _) (fun z => absurd (show I 52 0 ≤ x4 by rw [e0, hx4]; exact nI_le (by omega) (by omega)) z)
    | succ u ih =>
      intro j hj G D hv x4 hx4
      have hlt : ¬ I 52 0 ≤ x4 := by rw [e0, hx4]; exact nI_ge (by omega) (by omega)
      have hx1 : x4 + 1 = nI (j + 1) := by rw [hx4, nI_1]
      have xin : vp_in x4 16 := rf_in hx4 (by omega) (by decide)
      have tx : x4.toNatClampNeg = j := by rw [hx4, nI_clamp (by omega)]
      have GM : clMd_b M I L G := hM.fl (fun b k hb => D b k (by omega))
      have tl : t < mRo M (mNd M 0) := by rw [n4]; exact ht
      have jl : j < mCo M (mNd M 0) := by rw [n3]; omega
      have ew : mWt M (mNd M 0) (t * mCo M (mNd M 0) + j) = pX0 M t j := by rw [n3]; rfl
      have wb := (n6 t j tl jl).2
      have V2 : ∀ j', j' < j + 1 → x2 G 19 x4.toNatClampNeg (mWt M (mNd M 0) (t * mCo M (mNd M 0) + j)) 19 j' = pX0 M t j' ∧ fB 156 (x2 G 19 x4.toNatClampNeg (mWt M (mNd M 0) (t * mCo M (mNd M 0) + j)) 19 j') := by
        intro j' hj'
        rcases Nat.lt_or_ge j' j with y | y
        · rw [x2_o _ _ (by omega)]; exact hv j' y
        · have : j' = j := by omega
          subst this
          rw [tx, x2_same]
          exact ⟨ew, wb⟩
      refine XC.block [13, 51] 60 ?_
      refine And.intro v0 ?_
      refine And.intro (fun z => absurd z hlt) (fun _ => ?_)
      refine cl_att_b GM hm n2 tl jl hx3 hat hx4 ?_
      refine And.intro xin ?_
      exact ih (j + 1) (by omega) _ D.st V2 _ hx1
  refine XC.block [13] 60 ?_
  refine And.intro v021 ?_
  exact c13 _ en0 (mFa M 0) 0 (Nat.zero_add _) F fO.rf (fun j hj => absurd hj (Nat.not_lt_zero _)) _ rfl
end NEE_b
