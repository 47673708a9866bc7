/-! attention of the reference on paper: from its beginning -/
theorem pWr_0 {p : Nat} {R N : Nat → UInt32} : pWr p 0 R N = R := by
  funext k
  unfold pWr
  rw [if_neg (by omega)]
theorem pWr_st {G : Nat → Nat → UInt32} {c p j k : Nat} {R N : Nat → UInt32} {x : UInt32} (h : G c = pWr p j R N) (hk : k = p + j) (hx : x = N j) : x2 G c k x c = pWr p (j + 1) R N := by
  funext i
  subst hk
  rcases Nat.lt_trichotomy i (p + j) with y | y | y
  · rw [x2_o _ _ (by omega), h]
    unfold pWr
    rcases Nat.lt_or_ge i p with z | z
    · rw [if_neg (by omega), if_neg (by omega)]
    · rw [if_pos (by omega), if_pos (by omega)]
  · subst y
    rw [x2_same, hx]
    unfold pWr
    rw [if_pos (by omega), Nat.add_sub_cancel_left]
  · rw [x2_o _ _ (by omega), h]
    unfold pWr
    rw [if_neg (by omega), if_neg (by omega)]
theorem pWr_B {b p w n : Nat} {R N : Nat → UInt32} (hR : ∀ k, k < n → fB b (R k)) (hN : ∀ j, j < w → fB b (N j)) : ∀ k, k < n → fB b (pWr p w R N k) := by
  intro k hk
  unfold pWr
  split
  · exact hN _ (by omega)
  · exact hR k hk
theorem pWr_ext {p w : Nat} {R N N' : Nat → UInt32} (h : ∀ j, j < w → N j = N' j) : pWr p w R N = pWr p w R N' := by
  funext k
  unfold pWr
  split
  · exact h _ (by omega)
  · rfl
section RUD
variable {M : pMd} {I J : Nat → Nat → Int32} {L : Nat → Nat → Int64} {F G : Nat → Nat → UInt32} {d : Nat} {Q : xP}
theorem pAt_B {s : Nat} {K V : Nat → Nat → UInt32} {q : Nat → UInt32} {n j : Nat} (hc : 1 ≤ mFa M 5 ∧ mFa M 5 ≤ 8) (hz : ∀ t, fB 220 (pZt M s K q n t)) (hV : ∀ t, fB 172 (V ((aFr s (mFa M 5) + t) % mFa M 5) (n / (mFa M 1 / mFa M 2) * mH M + j))) : fB 176 (pAt M s K V q n j) := by
  obtain ⟨f1, f2, f3, f4⟩ := aFr_ok (s := s) (c := mFa M 5) hc.1
  exact (pMi_ok (fun t _ => hz t) (by omega) (fun t _ => hV t)).2.2
theorem rf_attend (hM : rfMd M I F) (hm : mGd M) {l s : Nat} (hl : l < 2) (hs : s < 60) (h60 : I 0 60 = nI s) (hK : ∀ k, k < 256 → fB 182 (F 41 k)) (hV : ∀ k, k < 256 → fB 172 (F 42 k)) (hq : ∀ k, k < mFa M 0 → fB 182 (F 34 k)) (hk : ∀ k, k < mKw M → fB 182 (F 35 k)) (hv : ∀ k, k < mKw M → fB 172 (F 36 k)) {ll : Int32} (hll : ll = nI l)
    (hQ : ∀ G, (∀ b k, b ≠ 37 → b ≠ 40 → b ≠ 41 → b ≠ 42 → G b k = F b k) → G 41 = pWr (128 * l + 16 * (s % mFa M 5)) (mKw M) (F 41) (F 35) → G 42 = pWr (128 * l + 16 * (s % mFa M 5)) (mKw M) (F 42) (F 36) → (∀ k, k < mFa M 0 → G 37 k = pAt M s (pKv l (G 41)) (pKv l (G 42)) (F 34) (k / mH M) (k % mH M) ∧ fB 176 (G 37 k)) → Q none (sh2, I, L, G)) : XM xE0 (d + 1) 67 [.ref 0, .int ll] (sh2, I, L, F) Q := by
  have h0 := hm.1.1
  have h1 := hm.1.2.1
  have hc := hm.1.2.2.2.2.2.1
  obtain ⟨hh, hh1, hh2, hh3, hh4⟩ := mHs hm
  have e0 : I 17 0 = nI (mFa M 0) := hM.2.1 0 (by decide)
  have e1 : I 17 1 = nI (mFa M 1) := hM.2.1 1 (by decide)
  have e2 : I 17 2 = nI (mFa M 2) := hM.2.1 2 (by decide)
  have e5 : I 17 5 = nI (mFa M 5) := hM.2.1 5 (by decide)
  have ed : I 17 0 / I 17 1 = nI (mH M) := by rw [e0, e1]; exact pk_div (by omega) (by omega) (by omega)
  have ew : I 17 0 / I 17 1 * I 17 2 = nI (mKw M) := by rw [ed, e2, nI_mul]; rfl
  have hp : 0 < mH M := by
    rcases hh with e | e | e | e <;> (have e : mH M = _ := e; omega)
  have wle : mKw M ≤ 16 := by rw [← hh4]; omega
  have nz1 : ¬ I 17 1 = 0 := by rw [e1]; exact nI_ne0 (by omega) (by omega)
  have nz5 : ¬ I 17 5 = 0 := by rw [e5]; exact nI_ne0 (by omega) (by omega)
  have esl : I 0 60 - I 0 60 / I 17 5 * I 17 5 = nI (s % mFa M 5) := by rw [h60, e5]; exact pk_rem (by omega) (by omega) (by omega)
  have sl8 : s % mFa M 5 < 8 := Nat.lt_of_lt_of_le (Nat.mod_lt _ (by omega)) hc.2
  have v0 : vp_in (0 : Int32) 12 := rf_in (j := 0) rfl (by decide) (by decide)
  have v1 : vp_in (1 : Int32) 12 := rf_in (j := 1) rfl (by decide) (by decide)
  have v2 : vp_in (2 : Int32) 12 := rf_in (j := 2) rfl (by decide) (by decide)
  have v5 : vp_in (5 : Int32) 12 := rf_in (j := 5) rfl (by decide) (by decide)
  -- the heads
  have c131 : ∀ hx wx cx fx sx, hx = nI (mH M) → cx = nI (mFa M 5) → fx = nI (aFr s (mFa M 5)) → ∀ G, (∀ b k, b ≠ 41 → b ≠ 42 → G b k = F b k) → G 41 = pWr (128 * l + 16 * (s % mFa M 5)) (mKw M) (F 41) (F 35) → G 42 = pWr (128 * l + 16 * (s % mFa M 5)) (mKw M) (F 42) (F 36) → ∀ (x7 : Int32), XC xE0 (d + 1) xM_67 (131, [some (.ref 0), some (.int ll), some (.int hx), some (.int wx), some (.int cx), some (.int fx), some (.int sx), some (.int x7), none, none, none, none, none, none, none], [], (sh2, I, L, G)) Q := by
    intro hx wx cx fx sx ehx ecx efx G D g41 g42 x7
    have frv : fRv (FP.i2f hx) := by rw [ehx]; exact fh_rv hh
    have ebf : pRoot (FP.i2f hx) = pHr (mH M) := by rw [ehx]; rfl
    have e34 : G 34 = F 34 := funext fun k => D 34 k (by decide) (by decide)
    have H : rfHc M l s I G ll hx cx fx (pRoot (FP.i2f hx)) := by
      refine ⟨hm, hl, hs, h60, hM.2.1, ?_, ?_, ?_, hll, ehx, ecx, efx, ebf⟩
      · rw [g41]; exact pWr_B hK hk
      · rw [g42]; exact pWr_B hV hv
      · rw [e34]; exact hq
    have fin : ∀ G', fHd G G' → (∀ n j, n < mFa M 1 → j < mH M → G' 37 (n * mH M + j) = pAt M s (pKv l (G 41)) (pKv l (G 42)) (G 34) n j) → Q none (sh2, I, L, G') := by
      intro G' D' hw
      have g41' : G' 41 = G 41 := funext fun k => D' 41 k (by decide) (by decide)
      have g42' : G' 42 = G 42 := funext fun k => D' 42 k (by decide) (by decide)
      refine hQ G' (fun b k b1 b2 b3 b4 => (D' b k b1 b2).trans (D b k b3 b4)) (g41'.trans g41) (g42'.trans g42) (fun k hk => ?_)
      have kn : k / mH M < mFa M 1 := Nat.div_lt_of_lt_mul (by rw [Nat.mul_comm]; show k < mFa M 1 * (mFa M 0 / mFa M 1); rw [hh1]; exact hk)
      have kj : k % mH M < mH M := Nat.mod_lt _ hp
      have e := hw (k / mH M) (k % mH M) kn kj
      rw [Nat.div_add_mod'] at e
      rw [g41', g42', ← e34]
      refine ⟨e, ?_⟩
      rw [e]
      obtain ⟨b1, b2, -⟩ := rf_hdB H kn
      exact pAt_B ⟨by omega, hc.2⟩ b1 (fun t => (b2 t _ kj).2.1)
    refine XC.block [141] 60 ?_
    refine fn_root_r frv ?_
    exact rf_at141 H fin (mFa M 1) 0 (Nat.zero_add _) G fHd.rf (fun n' j hn' => absurd hn' (Nat.not_lt_zero _)) _ rfl _ _ _ _ _ _
  -- the rows are written
  have c67 : ∀ hx wx cx fx sx, hx = nI (mH M) → wx = nI (mKw M) → cx = nI (mFa M 5) → fx = nI (aFr s (mFa M 5)) → sx = nI (s % mFa M 5) → ∀ (u j : Nat), j + u = mKw M → ∀ G, (∀ b k, b ≠ 41 → b ≠ 42 → G b k = F b k) → G 41 = pWr (128 * l + 16 * (s % mFa M 5)) j (F 41) (F 35) → G 42 = pWr (128 * l + 16 * (s % mFa M 5)) j (F 42) (F 36) → ∀ x7, x7 = nI j → XC xE0 (d + 1) xM_67 (67, [some (.ref 0), some (.int ll), some (.int hx), some (.int wx), some (.int cx), some (.int fx), some (.int sx), some (.int x7), none, none, none, none, none, none, none], [], (sh2, I, L, G)) Q := by
    intro hx wx cx fx sx ehx ewx ecx efx esx u
    induction u with
    | zero =>
      intro j hj G D g41 g42 x7 hx7
      have : j = mKw M := by omega
      subst this
      refine XC.block [67, 131] 60 ?_
      exact And.intro (fun _ => c131 hx wx cx fx sx ehx ecx efx G D g41 g42 _) (fun z => absurd (show wx ≤ x7 by rw [ewx, hx7]; exact nI_le (by omega) (by omega)) z)
    | succ u ih =>
      intro j hj G D g41 g42 x7 hx7
      have hlt : ¬ wx ≤ x7 := by rw [ewx, hx7]; exact nI_ge (by omega) (by omega)
      have j1 : j + 1 + u = mKw M := by omega
      have hx1 : x7 + 1 = nI (j + 1) := by rw [hx7, nI_1]
      have ei : 128 * ll + 16 * sx + x7 = nI (128 * l + 16 * (s % mFa M 5) + j) := by rw [esx, hll, hx7, show (128 : Int32) = nI 128 from rfl, show (16 : Int32) = nI 16 from rfl, nI_mul, nI_mul, nI_add, nI_add]
      have vin : vp_in (128 * ll + 16 * sx + x7) 256 := rf_in ei (by omega) (by decide)
      have ti : (128 * ll + 16 * sx + x7).toNatClampNeg = 128 * l + 16 * (s % mFa M 5) + j := by rw [ei, nI_clamp (by omega)]
      have xin : vp_in x7 16 := rf_in hx7 (by omega) (by decide)
      have t7 : x7.toNatClampNeg = j := by rw [hx7, nI_clamp (by omega)]
      have k1 : G 35 x7.toNatClampNeg = F 35 j := by rw [t7]; exact D 35 j (by decide) (by decide)
      have k2 : x2 G 41 (128 * ll + 16 * sx + x7).toNatClampNeg (G 35 x7.toNatClampNeg) 36 x7.toNatClampNeg = F 36 j := by rw [x2_o _ _ (by omega), t7]; exact D 36 j (by decide) (by decide)
      have w1 := pWr_st g41 ti k1
      have g42' : x2 G 41 (128 * ll + 16 * sx + x7).toNatClampNeg (G 35 x7.toNatClampNeg) 42 = pWr (128 * l + 16 * (s % mFa M 5)) j (F 42) (F 36) := by
        rw [← g42]; funext k; exact x2_o _ _ (by omega)
      have w2 := pWr_st g42' ti k2
      have w1' : x2 (x2 G 41 (128 * ll + 16 * sx + x7).toNatClampNeg (G 35 x7.toNatClampNeg)) 42 (128 * ll + 16 * sx + x7).toNatClampNeg (x2 G 41 (128 * ll + 16 * sx + x7).toNatClampNeg (G 35 x7.toNatClampNeg) 36 x7.toNatClampNeg) 41 = pWr (128 * l + 16 * (s % mFa M 5)) (j + 1) (F 41) (F 35) := by
        rw [← w1]; funext k; exact x2_o _ _ (by omega)
      have D2 : ∀ b k, b ≠ 41 → b ≠ 42 → x2 (x2 G 41 (128 * ll + 16 * sx + x7).toNatClampNeg (G 35 x7.toNatClampNeg)) 42 (128 * ll + 16 * sx + x7).toNatClampNeg (x2 G 41 (128 * ll + 16 * sx + x7).toNatClampNeg (G 35 x7.toNatClampNeg) 36 x7.toNatClampNeg) b k = F b k := fun b k b1 b2 => by
        rw [x2_o _ _ (by omega), x2_o _ _ (by omega)]; exact D b k b1 b2
      refine XC.block [67, 131] 60 ?_
      refine And.intro (fun z => absurd z hlt) (fun _ => ?_)
      refine And.intro xin ?_
      refine And.intro vin ?_
      refine And.intro xin ?_
      refine And.intro vin ?_
      exact ih (j + 1) j1 _ D2 w1' w2 _ hx1
  have c53 : ∀ fx, fx = nI (aFr s (mFa M 5)) → XC xE0 (d + 1) xM_67 (53, [some (.ref 0), some (.int ll), some (.int (I 17 0 / I 17 1)), some (.int (I 17 0 / I 17 1 * I 17 2)), some (.int (I 17 5)), none, none, none, none, none, none, none, none, none, none], [.int fx], (sh2, I, L, F)) Q := by
    intro fx efx
    refine XC.block [67] 60 ?_
    refine And.intro nz5 ?_
    exact c67 _ _ _ _ _ ed ew e5 efx esl (mKw M) 0 (Nat.zero_add _) F (fun _ _ _ _ => rfl) pWr_0.symm pWr_0.symm _ rfl
  have k1 : I 17 5 ≤ I 0 60 → I 0 60 - I 17 5 + 1 = nI (aFr s (mFa M 5)) := fun z => by
    rw [h60, e5, nI_leI (by omega) (by omega)] at z
    rw [h60, e5, pk_sub z, nI_1]
    unfold aFr
    rw [if_neg (by omega)]
  have k2 : ¬ I 17 5 ≤ I 0 60 → (0 : Int32) = nI (aFr s (mFa M 5)) := fun z => by
    rw [h60, e5, nI_leI (by omega) (by omega)] at z
    unfold aFr
    rw [if_pos (by omega)]; rfl
  refine XC.block [53] 60 ?_
  refine And.intro v0 ?_
  refine And.intro v1 ?_
  refine And.intro nz1 ?_
  refine And.intro v2 ?_
  refine And.intro v5 ?_
  exact And.intro (fun z => c53 _ (k1 z)) (fun z => c53 _ (k2 z))
end RUD
