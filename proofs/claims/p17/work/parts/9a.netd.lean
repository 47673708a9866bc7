/-! the class on paper: a layer -/
theorem pKc_Wr {M : pMd} {s : Nat} {R N : Nat → UInt32} (hw : mKw M ≤ 16) {a j : Nat} (hj : j < 16) : pKc (pWr (16 * (s % mFa M 5)) (mKw M) R N) a j = pKn M s (pKc R) N a j := by
  unfold pKc pKn pWr
  rcases Nat.lt_trichotomy a (s % mFa M 5) with y | y | y
  · rw [if_neg (by omega), if_neg (by omega)]
  · subst y
    rcases Nat.lt_or_ge j (mKw M) with z | z
    · rw [if_pos (by omega), if_pos ⟨rfl, z⟩, Nat.add_sub_cancel_left]
    · rw [if_neg (by omega), if_neg (by omega)]
  · rw [if_neg (by omega), if_neg (by omega)]
theorem pWr_Wr {p w : Nat} {R N N' : Nat → UInt32} : pWr p w (pWr p w R N) N' = pWr p w R N' := by
  funext k
  unfold pWr
  split <;> rfl
theorem pWr_in {p w j : Nat} {R N : Nat → UInt32} (hj : j < w) : pWr p w R N (p + j) = N j := by
  unfold pWr
  rw [if_pos (by omega), Nat.add_sub_cancel_left]
theorem pWr_i0 {w j : Nat} {R N : Nat → UInt32} (hj : j < w) : pWr 0 w R N j = N j := by
  unfold pWr
  rw [if_pos (by omega), Nat.sub_zero]
section NED_a
variable {X : List (Option Nat)} {T : List xS} {M : pMd} {I J : Nat → Nat → Int32} {L : Nat → Nat → Int64} {F G : Nat → Nat → UInt32} {d : Nat} {Q : xP}
theorem cl_feed_a (hM : clMd_a M I L F) (hm : mGd M) {l : Nat} (hl : l < mFa M 3) (hX : ∀ j, j < mFa M 0 → fB (207 + 2 * l) (F 19 j)) {pt : Int32} (hpt : pt = nI (3 + 9 * l))
    (hQ : ∀ G, (∀ b k, b ≠ 19 → b ≠ 20 → b ≠ 23 → b ≠ 24 → G b k = F b k) → (∀ i, i < mFa M 0 → G 19 i = pX2 M l (F 19) i ∧ fB (208 + 2 * l) (G 19 i)) → Q none (shG X (md1 T), I, L, G)) : XM xE0 (d + 2) 127 [.ref 18, .ref 38, .int pt] (shG X (md1 T), I, L, F) Q := by
  have h0 := hm.1.1
  have h3 := hm.1.2.2.2.1
  have h4 := hm.1.2.2.2.2.1
  have qo : ∀ o, o < 9 → 3 + 9 * l + o < 3 + 9 * mFa M 3 := fun o ho => by omega
  have cd : ∀ o, o < 8 → mCq M (3 + 9 * l + o) = mFa M 0 := fun o ho => (mCq_l (by omega)).trans (if_neg (by omega))
  have c8 : mCq M (3 + 9 * l + 8) = mFa M 4 := (mCq_l (by decide)).trans (if_pos rfl)
  have ro : ∀ o, o < 9 → mRq M (3 + 9 * l + o) = [1, mFa M 0, mKw M, mKw M, mFa M 0, 1, mFa M 4, mFa M 4, mFa M 0].getD o 0 := fun o ho => mRq_l ho
  have ep : ∀ o, ∀ oo : Int32, oo = nI o → pt + oo = nI (3 + 9 * l + o) := fun o oo ho => by rw [hpt, ho, nI_add]
  have e4 : I 39 4 = nI (mFa M 4) := hM.1 4 (by decide)
  have v4 : vp_in (4 : Int32) 12 := rf_in (j := 4) rfl (by decide) (by decide)
  have hX0 : ∀ j, j < mFa M 0 → fB 210 (F 19 j) := fun j hj => (hX j hj).mono (by omega)
  -- the gate and the last sums
  have c99 : ∀ (G2 : Nat → Nat → UInt32), (∀ b k, b ≠ 20 → b ≠ 23 → b ≠ 24 → G2 b k = F b k) → (∀ i, i < mFa M 4 → G2 23 i = pG1 M l (F 19) i ∧ fB 195 (G2 23 i)) → ∀ x, XC xE0 (d + 2) xM_127 (99, [some (.ref 18), some (.ref 38), some (.int pt), some (.int x)], [], (shG X (md1 T), I, L, G2)) Q := by
    intro G2 D2 g2 x
    have M2 : clMd_a M I L G2 := hM.fl (fun b k hb => D2 b k (by omega) (by omega) (by omega))
    have x2e : G2 19 = F 19 := funext fun k => D2 19 k (by decide) (by decide) (by decide)
    refine XC.block [] 60 ?_
    refine cl_add_23_a M2 hm (qo 8 (by decide)) (ro 8 (by decide)) (b := 195) (k := 202) (c := 207 + 2 * l) (k' := 208 + 2 * l) (fun j hj => (g2 j (by rw [c8] at hj; exact hj)).2) (by decide) (by decide) (by decide) (by decide) (by rw [x2e]; exact hX) (by omega) (by omega) (by omega) (ep 8 8 rfl) (fun G3 D3 g3 => ?_)
    refine ⟨trivial, hQ G3 (fun b k b1 b2 b3 b4 => (D3 b k b1).trans (D2 b k b2 b3 b4)) (fun i hi => ?_)⟩
    refine ⟨?_, (g3 i hi).2⟩
    rw [(g3 i hi).1, x2e]
    unfold pX2
    congr 1
    exact pMv_e hm (qo 8 (by decide)) (fun j hj => (g2 j (by rw [c8] at hj; exact hj)).1)
  have c50 : ∀ (G1 : Nat → Nat → UInt32), (∀ b k, b ≠ 20 → b ≠ 23 → b ≠ 24 → G1 b k = F b k) → (∀ i, i < mFa M 4 → (G1 23 i = pMv M (3 + 9 * l + 6) (pNo M (3 + 9 * l + 5) (F 19)) i ∧ fB 172 (G1 23 i)) ∧ G1 24 i = pMv M (3 + 9 * l + 7) (pNo M (3 + 9 * l + 5) (F 19)) i ∧ fB 172 (G1 24 i)) → ∀ (u i : Nat), i + u = mFa M 4 → ∀ G, fO 23 G1 G → (∀ i', i' < i → G 23 i' = pG1 M l (F 19) i' ∧ fB 195 (G 23 i')) → (∀ i', i ≤ i' → G 23 i' = G1 23 i') → ∀ x, x = nI i → XC xE0 (d + 2) xM_127 (50, [some (.ref 18), some (.ref 38), some (.int pt), some (.int x)], [], (shG X (md1 T), I, L, G)) Q := by
    intro G1 D1 g1 u
    induction u with
    | zero =>
      intro i hi G D hv hw x hx
      have : i = mFa M 4 := by omega
      subst this
      have k := c99 G (fun b k b1 b2 b3 => (D b k b2).trans (D1 b k b1 b2 b3)) hv
      refine XC.block [50, 99] 60 ?_
      refine And.intro v4 ?_
      exact And.intro (fun _ => k _) (fun z => absurd (show I 39 4 ≤ x by rw [e4, hx]; exact nI_le (by omega) (by omega)) z)
    | succ u ih =>
      intro i hi G D hv hw x hx
      have hlt : ¬ I 39 4 ≤ x := by rw [e4, hx]; exact nI_ge (by omega) (by omega)
      have il : i < mFa M 4 := by omega
      have hx1 : x + 1 = nI (i + 1) := by rw [hx, nI_1]
      have xin : vp_in x 16 := rf_in hx (by omega) (by decide)
      have tx : x.toNatClampNeg = i := by rw [hx, nI_clamp (by omega)]
      have eg : G 23 x.toNatClampNeg = G1 23 i := by rw [tx]; exact hw i (Nat.le_refl _)
      have eu : G 24 x.toNatClampNeg = G1 24 i := by rw [tx]; exact D 24 i (by decide)
      obtain ⟨⟨a1, a2⟩, a3, a4⟩ := g1 i il
      obtain ⟨k1, k2, k3, k4⟩ := pGl_ok a2 a4
      rw [← eg] at k1 k2 k3 k4
      rw [← eu] at k4
      have ev : pGl (G 23 x.toNatClampNeg) (G 24 x.toNatClampNeg) = pG1 M l (F 19) i := by rw [eg, eu, a1, a3]; rfl
      have V2 : ∀ i', i' < i + 1 → x2 G 23 x.toNatClampNeg (pGl (G 23 x.toNatClampNeg) (G 24 x.toNatClampNeg)) 23 i' = pG1 M l (F 19) i' ∧ fB 195 (x2 G 23 x.toNatClampNeg (pGl (G 23 x.toNatClampNeg) (G 24 x.toNatClampNeg)) 23 i') := by
        intro i' hi'
        rcases Nat.lt_or_ge i' i with y | y
        · rw [x2_o _ _ (by omega)]; exact hv i' y
        · have : i' = i := by omega
          subst this
          rw [show ∀ v, x2 G 23 x.toNatClampNeg v 23 i' = v from fun v => by rw [tx, x2_same]]
          exact ⟨ev, k4⟩
      have W2 : ∀ i', i + 1 ≤ i' → x2 G 23 x.toNatClampNeg (pGl (G 23 x.toNatClampNeg) (G 24 x.toNatClampNeg)) 23 i' = G1 23 i' := fun i' hi' => by rw [x2_o _ _ (by omega)]; exact hw i' (by omega)
      have gn := k4.n32 (by omega)
      refine XC.block [50, 99] 60 ?_
      refine And.intro v4 ?_
      refine And.intro (fun z => absurd z hlt) (fun _ => ?_)
      refine And.intro xin ?_
      refine And.intro xin ?_
      refine And.intro k1.n32 ?_
      refine fn_exp_c k1 ?_
      refine And.intro k2.n32 ?_
      refine And.intro k3.n32 ?_
      refine And.intro xin ?_
      refine And.intro gn ?_
      refine And.intro xin ?_
      exact ih (i + 1) (by omega) _ D.st V2 W2 _ hx1
  refine XC.block [50] 60 ?_
  refine cl_norm_a hM hm (qo 5 (by decide)) (cd 5 (by decide)) (ro 5 (by decide)) hX0 (ep 5 5 rfl) (fun Ga Da ga ba => ?_)
  have Ma : clMd_a M I L Ga := hM.fl (fun b k hb => Da b k (by omega))
  refine cl_mul_20_23_a Ma hm (qo 6 (by decide)) (b := 161) (k := 168) (p := 0) (fun j hj => ba j (by rw [cd 6 (by decide)] at hj; exact hj)) (by decide) (by decide) (by decide) (by decide) (by rw [ro 6 (by decide)]; show 0 + mFa M 4 ≤ 16; omega) (ep 6 6 rfl) rfl (fun Gb Db gb => ?_)
  have Mb : clMd_a M I L Gb := Ma.fl (fun b k hb => Db b k (by omega))
  have yb : Gb 20 = Ga 20 := Db.fn (by decide)
  refine cl_mul_20_24_a Mb hm (qo 7 (by decide)) (b := 161) (k := 168) (p := 0) (fun j hj => by rw [yb]; exact ba j (by rw [cd 7 (by decide)] at hj; exact hj)) (by decide) (by decide) (by decide) (by decide) (by rw [ro 7 (by decide)]; show 0 + mFa M 4 ≤ 16; omega) (ep 7 7 rfl) rfl (fun Gc Dc gc => ?_)
  rw [ro 6 (by decide)] at gb
  rw [ro 7 (by decide), yb] at gc
  have gb : Gb 23 = pWr 0 (mFa M 4) (Ga 23) (pMv M (3 + 9 * l + 6) (Ga 20)) := gb
  have gc : Gc 24 = pWr 0 (mFa M 4) (Gb 24) (pMv M (3 + 9 * l + 7) (Ga 20)) := gc
  have mb : ∀ o i, o < 8 → i < mRq M (3 + 9 * l + o) → fB 172 (pMv M (3 + 9 * l + o) (Ga 20) i) := fun o i ho hi => pMv_B hm (k := 168) (qo o (by omega)) hi (b := 161) (fun j hj => ba j (by rw [cd o ho] at hj; exact hj)) (by decide) (by decide) (by decide) (by decide)
  have me : ∀ o i, o < 8 → pMv M (3 + 9 * l + o) (Ga 20) i = pMv M (3 + 9 * l + o) (pNo M (3 + 9 * l + 5) (F 19)) i := fun o i ho => pMv_e hm (qo o (by omega)) (fun j hj => ga j (by rw [cd o ho] at hj; exact hj))
  refine c50 Gc (fun b k b1 b2 b3 => (Dc b k b3).trans ((Db b k b2).trans (Da b k b1))) (fun i hi => ?_) (mFa M 4) 0 (Nat.zero_add _) Gc fO.rf (fun i hi => absurd hi (Nat.not_lt_zero _)) (fun _ _ => rfl) _ rfl
  rw [Dc 23 i (by decide), gb, gc, pWr_i0 hi, pWr_i0 hi]
  exact ⟨⟨me 6 i (by decide), mb 6 i (by decide) (by rw [ro 6 (by decide)]; exact hi)⟩, me 7 i (by decide), mb 7 i (by decide) (by rw [ro 7 (by decide)]; exact hi)⟩
theorem cl_attend_0_a (hM : clMd_a M I L F) (hm : mGd M) (hl : 0 < mFa M 3) {s : Nat} (hs : s < 60) (h60 : I 18 10 = nI s) (hK : ∀ k, k < 128 → fB 182 (F 28 k)) (hV : ∀ k, k < 128 → fB 172 (F 31 k)) (hX : ∀ j, j < mFa M 0 → fB (206 + 2 * 0) (F 19 j)) {pt : Int32} (hpt : pt = nI (3 + 9 * 0))
    (hQ : ∀ G, (∀ b k, b ≠ 19 → b ≠ 20 → b ≠ 21 → b ≠ 22 → b ≠ 25 → b ≠ 28 → b ≠ 31 → G b k = F b k) → (∀ i, i < mFa M 0 → G 19 i = pX1 M 0 s (pKc (F 28)) (pKc (F 31)) (F 19) i ∧ fB (207 + 2 * 0) (G 19 i)) → G 28 = pWr (16 * (s % mFa M 5)) (mKw M) (F 28) (pK1 M 0 s (F 19)) → (∀ k, k < 128 → fB 182 (G 28 k)) → G 31 = pWr (16 * (s % mFa M 5)) (mKw M) (F 31) (pV1 M 0 (F 19)) → (∀ k, k < 128 → fB 172 (G 31 k)) → Q none (shG X (md1 T), I, L, G)) : XM xE0 (d + 3) 122 [.ref 18, .ref 38, .int 0, .int pt] (shG X (md1 T), I, L, F) Q := by
  obtain ⟨hh, hh1, hh2, hh3, hh4⟩ := mHs hm
  obtain ⟨kw2, d2, kw, dh, hp⟩ := mKe hm
  have h0 := hm.1.1
  have h1 := hm.1.2.1
  have h2' := hm.1.2.2.1
  have h3 := hm.1.2.2.2.1
  have hc := hm.1.2.2.2.2.2.1
  have wle : mKw M ≤ 16 := by rw [← hh4]; omega
  have sl8 : s % mFa M 5 < 8 := Nat.lt_of_lt_of_le (Nat.mod_lt _ (by omega)) hc.2
  have hb := hm.2.2.2.1.2
  have qo : ∀ o, o < 9 → 3 + 9 * 0 + o < 3 + 9 * mFa M 3 := fun o ho => by omega
  have cd : ∀ o, o < 8 → mCq M (3 + 9 * 0 + o) = mFa M 0 := fun o ho => (mCq_l (by omega)).trans (if_neg (by omega))
  have ro : ∀ o, o < 9 → mRq M (3 + 9 * 0 + o) = [1, mFa M 0, mKw M, mKw M, mFa M 0, 1, mFa M 4, mFa M 4, mFa M 0].getD o 0 := fun o ho => mRq_l ho
  have ep : ∀ o, ∀ oo : Int32, oo = nI o → pt + oo = nI (3 + 9 * 0 + o) := fun o oo ho => by rw [hpt, ho, nI_add]
  have e1 : I 39 1 = nI (mFa M 1) := hM.1 1 (by decide)
  have e2 : I 39 2 = nI (mFa M 2) := hM.1 2 (by decide)
  have e5 : I 39 5 = nI (mFa M 5) := hM.1 5 (by decide)
  have em5 : I 38 5 = nI (mH M) := hM.2.2.2.1.1
  have em6 : I 38 6 = nI (mFa M 1 / mFa M 2) := hM.2.2.2.1.2
  have v1 : vp_in (1 : Int32) 12 := rf_in (j := 1) rfl (by decide) (by decide)
  have v2 : vp_in (2 : Int32) 12 := rf_in (j := 2) rfl (by decide) (by decide)
  have vl : vp_in (0 : Int32) 2 := rf_in (j := 0) rfl (by decide) (by decide)
  have gpos : 0 < mFa M 1 / mFa M 2 := Nat.div_pos hh2 h2'.1
  have gle : mFa M 1 / mFa M 2 ≤ 4 := Nat.le_trans (Nat.div_le_self _ _) (by omega)
  have nz6 : ¬ I 38 6 = 0 := by rw [em6]; exact nI_ne0 gpos (by omega)
  have hX0 : ∀ j, j < mFa M 0 → fB 210 (F 19 j) := fun j hj => (hX j hj).mono (by omega)
  -- the heads
  have c193 : ∀ (hr : Int32) (G5 : Nat → Nat → UInt32), (∀ b k, b ≠ 20 → b ≠ 21 → b ≠ 22 → b ≠ 25 → b ≠ 28 → b ≠ 31 → G5 b k = F b k) → (∀ k, k < mFa M 0 → G5 22 k = pW1 M 0 s (pKc (F 28)) (pKc (F 31)) (F 19) k ∧ fB 176 (G5 22 k)) → G5 28 = pWr (16 * (s % mFa M 5)) (mKw M) (F 28) (pK1 M 0 s (F 19)) → (∀ k, k < 128 → fB 182 (G5 28 k)) → G5 31 = pWr (16 * (s % mFa M 5)) (mKw M) (F 31) (pV1 M 0 (F 19)) → (∀ k, k < 128 → fB 172 (G5 31 k)) → ∀ x5 y6 y7 y8, XC xE0 (d + 3) xM_122 (193, [some (.ref 18), some (.ref 38), some (.int 0), some (.int pt), some (.int hr), some (.int x5), y6, y7, y8], [], (shG X (md1 T), I, L, G5)) Q := by
    intro hr G5 D5 g22 gk bk gv bv x5 y6 y7 y8
    have M5 : clMd_a M I L G5 := hM.fl (fun b k hb => D5 b k (by omega) (by omega) (by omega) (by omega) (by omega) (by omega))
    have x5e : G5 19 = F 19 := funext fun k => D5 19 k (by decide) (by decide) (by decide) (by decide) (by decide) (by decide)
    refine XC.block [] 60 ?_
    refine cl_add_22_a M5 hm (qo 4 (by decide)) (ro 4 (by decide)) (b := 176) (k := 183) (c := 206 + 2 * 0) (k' := 207 + 2 * 0) (fun j hj => (g22 j (by rw [cd 4 (by decide)] at hj; exact hj)).2) (by decide) (by decide) (by decide) (by decide) (by rw [x5e]; exact hX) (by omega) (by omega) (by omega) (ep 4 4 rfl) (fun G6 D6 g6 => ?_)
    refine ⟨trivial, hQ G6 (fun b k b1 b2 b3 b4 b5 b6 b7 => (D6 b k b1).trans (D5 b k b2 b3 b4 b5 b6 b7)) (fun i hi => ?_) ((D6.fn (by decide)).trans gk) (by rw [D6.fn (by decide)]; exact bk) ((D6.fn (by decide)).trans gv) (by rw [D6.fn (by decide)]; exact bv)⟩
    refine ⟨?_, (g6 i hi).2⟩
    rw [(g6 i hi).1, x5e]
    unfold pX1
    congr 1
    exact pMv_e hm (qo 4 (by decide)) (fun j hj => (g22 j (by rw [cd 4 (by decide)] at hj; exact hj)).1)
  have c119 : ∀ (hr : Int32) (G4 : Nat → Nat → UInt32), (∀ b k, b ≠ 20 → b ≠ 21 → b ≠ 28 → b ≠ 31 → G4 b k = F b k) → (∀ k, k < mFa M 0 → G4 21 k = pQ1 M 0 s (F 19) k ∧ fB 182 (G4 21 k)) → G4 28 = pWr (16 * (s % mFa M 5)) (mKw M) (F 28) (pK1 M 0 s (F 19)) → (∀ k, k < 128 → fB 182 (G4 28 k)) → G4 31 = pWr (16 * (s % mFa M 5)) (mKw M) (F 31) (pV1 M 0 (F 19)) → (∀ k, k < 128 → fB 172 (G4 31 k)) → ∀ (u n : Nat), n + u = mFa M 1 → ∀ G, (∀ b k, b ≠ 22 → b ≠ 25 → G b k = G4 b k) → (∀ n' j, n' < n → j < mH M → G 22 (n' * mH M + j) = pAt M s (pKc (G4 28)) (pKc (G4 31)) (G4 21) n' j) → ∀ x5, x5 = nI n → ∀ y6 y7 y8, XC xE0 (d + 3) xM_122 (119, [some (.ref 18), some (.ref 38), some (.int 0), some (.int pt), some (.int hr), some (.int x5), y6, y7, y8], [], (shG X (md1 T), I, L, G)) Q := by
    intro hr G4 D4 g21 gk bk gv bv u
    have bq : ∀ k, k < mFa M 0 → fB 182 (G4 21 k) := fun k hk => (g21 k hk).2
    induction u with
    | zero =>
      intro n hn G D hw x5 hx5 y6 y7 y8
      have : n = mFa M 1 := by omega
      subst this
      have k := c193 hr G (fun b k b1 b2 b3 b4 b5 b6 => (D b k b3 b4).trans (D4 b k b1 b2 b5 b6)) (fun k hk => by
        have kn : k / mH M < mFa M 1 := Nat.div_lt_of_lt_mul (by rw [Nat.mul_comm, dh]; exact hk)
        have kj : k % mH M < mH M := Nat.mod_lt _ hp
        have e := hw (k / mH M) (k % mH M) kn kj
        rw [Nat.div_add_mod'] at e
        have HB := cl_hdB_28_a (I := I) (F := G4) (s := s) ⟨hm, hs, h60, e5, em5, bk, bq⟩ kn
        refine ⟨?_, ?_⟩
        · rw [e, gk, gv]
          exact pAt_ext hm kn kj (fun a j ha hj => pKc_Wr wle (by omega)) (fun a j ha hj => pKc_Wr wle (by omega)) (fun k hk => (g21 k hk).1)
        · rw [e]
          refine pAt_B ⟨by omega, hc.2⟩ HB.1 (fun t => ?_)
          have := (HB.2.1 t _ kj).2
          exact bv _ (by rw [← Nat.add_assoc]; exact this)) ((funext fun k => D 28 k (by decide) (by decide)).trans gk) (fun k hk => by rw [D 28 k (by decide) (by decide)]; exact bk k hk) ((funext fun k => D 31 k (by decide) (by decide)).trans gv) (fun k hk => by rw [D 31 k (by decide) (by decide)]; exact bv k hk)
      refine XC.block [119, 193] 60 ?_
      refine And.intro v1 ?_
      exact And.intro (fun _ => k _ _ _ _) (fun z => absurd (show I 39 1 ≤ x5 by rw [e1, hx5]; exact nI_le (by omega) (by omega)) z)
    | succ u ih =>
      intro n hn G D hw x5 hx5 y6 y7 y8
      have hlt : ¬ I 39 1 ≤ x5 := by rw [e1, hx5]; exact nI_ge (by omega) (by omega)
      have nl : n < mFa M 1 := by omega
      have x51 : x5 + 1 = nI (n + 1) := by rw [hx5, nI_1]
      have eow : x5 * I 38 5 = nI (n * mH M) := by rw [hx5, em5, nI_mul]
      have esh : x5 / I 38 6 * I 38 5 = nI (n / (mFa M 1 / mFa M 2) * mH M) := by rw [hx5, em6, em5, pk_div (by omega) gpos (by omega), nI_mul]
      have gK : G 28 = G4 28 := funext fun k => D 28 k (by decide) (by decide)
      have gV : G 31 = G4 31 := funext fun k => D 31 k (by decide) (by decide)
      have g21' : G 21 = G4 21 := funext fun k => D 21 k (by decide) (by decide)
      have HC : clHc_28_a M s I G := ⟨hm, hs, h60, e5, em5, by rw [gK]; exact bk, by rw [g21']; exact bq⟩
      have HB := cl_hdB_28_a HC nl
      have c168 : ∀ o6 o7, o6 = nI (n * mH M) → o7 = nI (n / (mFa M 1 / mFa M 2) * mH M) → ∀ G1, fO 25 G G1 → (∀ t, t < aCn s (mFa M 5) → G1 25 t = pEz (pZt M s (pKc (G 28)) (G 21) n) (aCn s (mFa M 5)) t) → ∀ e, e = pS (pEz (pZt M s (pKc (G 28)) (G 21) n) (aCn s (mFa M 5))) (aCn s (mFa M 5)) → XC xE0 (d + 3) xM_122 (168, [some (.ref 18), some (.ref 38), some (.int 0), some (.int pt), some (.int hr), some (.int x5), some (.int o6), some (.int o7), y8], [.float e], (shG X (md1 T), I, L, G1)) Q := by
        intro o6 o7 h6 h7 G1 D1 hz e he
        have g1V : G1 31 = G4 31 := (D1.fn (by decide)).trans gV
        refine XC.block [119] 60 ?_
        refine And.intro vl ?_
        refine cl_mix_31_a hm hs h60 e5 em5 nl HB.1 (by rw [g1V]; exact bv) hz he h6 h7 (fun G2 D2 g2 => ?_)
        refine ih (n + 1) (by omega) G2 (fun b k b1 b2 => (D2 b k b1).trans ((D1 b k b2).trans (D b k b1 b2))) (fun n' j hn' hj => ?_) _ x51 _ _ _
        rw [g2]
        rcases Nat.lt_or_ge n' n with y | y
        · have : (n' + 1) * mH M ≤ n * mH M := Nat.mul_le_mul_right _ y
          rw [Nat.succ_mul n' (mH M)] at this
          unfold pWr
          rw [if_neg (by omega), D1 22 _ (by decide)]
          exact hw n' j y hj
        · have : n' = n := by omega
          subst this
          rw [pWr_in hj, g1V, gK, g21']
          rfl
      refine XC.block [119, 168] 60 ?_
      refine And.intro v1 ?_
      refine And.intro (fun z => absurd z hlt) (fun _ => ?_)
      refine And.intro nz6 ?_
      refine And.intro vl ?_
      refine cl_weigh_28_a HC nl eow esh (fun G1 D1 hz e he => ?_)
      exact c168 _ _ eow esh G1 D1 hz e he
  -- the rows
  have c10 : ∀ hr, hr = nI (16 * (s % mFa M 5)) → XC xE0 (d + 3) xM_122 (10, [some (.ref 18), some (.ref 38), some (.int 0), some (.int pt), some (.int hr), none, none, none, none], [], (shG X (md1 T), I, L, F)) Q := by
    intro hr ehr
    have c81 : ∀ (Gd : Nat → Nat → UInt32), (∀ b k, b ≠ 20 → b ≠ 21 → b ≠ 28 → b ≠ 31 → Gd b k = F b k) → (∀ k, k < mFa M 0 → Gd 21 k = pMv M (3 + 9 * 0 + 1) (pY1 M 0 (F 19)) k ∧ fB 172 (Gd 21 k)) → (∀ k, k < mKw M → Gd 28 (16 * (s % mFa M 5) + k) = pMv M (3 + 9 * 0 + 2) (pY1 M 0 (F 19)) k ∧ fB 172 (Gd 28 (16 * (s % mFa M 5) + k))) → (∃ N, Gd 28 = pWr (16 * (s % mFa M 5)) (mKw M) (F 28) N) → Gd 31 = pWr (16 * (s % mFa M 5)) (mKw M) (F 31) (pV1 M 0 (F 19)) → (∀ k, k < 128 → fB 172 (Gd 31 k)) → XC xE0 (d + 3) xM_122 (81, [some (.ref 18), some (.ref 38), some (.int 0), some (.int pt), some (.int hr), none, none, none, none], [], (shG X (md1 T), I, L, Gd)) Q := by
      intro Gd Dd q1 k1 ⟨N, kN⟩ vv bv
      have Md : clMd_a M I L Gd := hM.fl (fun b k hb => Dd b k (by omega) (by omega) (by omega) (by omega))
      refine XC.block [119] 60 ?_
      refine And.intro v1 ?_
      refine cl_turn_21_a (s := s) Md hm (by omega) h60 (N := mFa M 1) (p := 0) (by rw [dh]; omega) (by omega) (fun k hk => by rw [Nat.zero_add]; exact (q1 k (by rw [dh] at hk; exact hk)).2) rfl e1 (fun Ge De te => ?_)
      have Me : clMd_a M I L Ge := Md.fl (fun b k hb => De b k (by omega))
      refine And.intro vl ?_
      refine And.intro v2 ?_
      have eK : Ge 28 = Gd 28 := De.fn (by decide)
      refine cl_turn_28_a (s := s) Me hm (by omega) h60 (N := mFa M 2) (p := 16 * (s % mFa M 5)) (by rw [kw]; omega) (by omega) (fun k hk => by rw [eK]; exact (k1 k (by rw [kw] at hk; exact hk)).2) ehr e2 (fun Gf Df tf => ?_)
      rw [dh] at te
      rw [kw, eK, kN, pWr_Wr, ← kN] at tf
      have fk : Gf 28 = pWr (16 * (s % mFa M 5)) (mKw M) (F 28) (pK1 M 0 s (F 19)) := tf.trans (pWr_ext (fun j hj => pTn_ext kw2 (fun k hk => (k1 k hk).1) hj))
      refine c119 hr Gf (fun b k b1 b2 b3 b4 => (Df b k b3).trans ((De b k b2).trans (Dd b k b1 b2 b3 b4))) (fun k hk => ?_) fk ?_ ?_ ?_ (mFa M 1) 0 (Nat.zero_add _) Gf (fun _ _ _ _ => rfl) (fun n' j hn' => absurd hn' (Nat.not_lt_zero _)) _ rfl _ _ _
      · rw [Df 21 k (by decide), te, pWr_i0 hk]
        refine ⟨?_, ?_⟩
        · exact pTn_ext d2 (fun k hk => by rw [Nat.zero_add]; exact (q1 k hk).1) hk
        · exact pTn_B hb (by omega) hh d2 (fun k hk => by rw [Nat.zero_add]; exact (q1 k hk).2) k hk
      · rw [tf]; exact pWr_B hK (fun j hj => pTn_B hb (by omega) hh kw2 (fun k hk => (k1 k hk).2) j hj)
      · exact (Df.fn (by decide)).trans ((De.fn (by decide)).trans vv)
      · rw [Df.fn (by decide), De.fn (by decide)]; exact bv
    refine XC.block [81] 60 ?_
    refine cl_norm_a hM hm (qo 0 (by decide)) (cd 0 (by decide)) (ro 0 (by decide)) hX0 (ep 0 0 rfl) (fun Ga Da ga ba => ?_)
    have Ma : clMd_a M I L Ga := hM.fl (fun b k hb => Da b k (by omega))
    refine cl_mul_20_21_a Ma hm (qo 1 (by decide)) (b := 161) (k := 168) (p := 0) (fun j hj => ba j (by rw [cd 1 (by decide)] at hj; exact hj)) (by decide) (by decide) (by decide) (by decide) (by rw [ro 1 (by decide)]; show 0 + mFa M 0 ≤ 16; omega) (ep 1 1 rfl) rfl (fun Gb Db gb => ?_)
    have Mb : clMd_a M I L Gb := Ma.fl (fun b k hb => Db b k (by omega))
    have yb : Gb 20 = Ga 20 := Db.fn (by decide)
    refine And.intro vl ?_
    refine cl_mul_20_28_a Mb hm (qo 2 (by decide)) (b := 161) (k := 168) (p := 16 * (s % mFa M 5)) (fun j hj => by rw [yb]; exact ba j (by rw [cd 2 (by decide)] at hj; exact hj)) (by decide) (by decide) (by decide) (by decide) (by rw [ro 2 (by decide)]; show 16 * (s % mFa M 5) + mKw M ≤ 128; omega) (ep 2 2 rfl) ehr (fun Gc Dc gc => ?_)
    have Mc : clMd_a M I L Gc := Mb.fl (fun b k hb => Dc b k (by omega))
    have yc : Gc 20 = Ga 20 := (Dc.fn (by decide)).trans yb
    refine And.intro vl ?_
    refine cl_mul_20_31_a Mc hm (qo 3 (by decide)) (b := 161) (k := 168) (p := 16 * (s % mFa M 5)) (fun j hj => by rw [yc]; exact ba j (by rw [cd 3 (by decide)] at hj; exact hj)) (by decide) (by decide) (by decide) (by decide) (by rw [ro 3 (by decide)]; show 16 * (s % mFa M 5) + mKw M ≤ 128; omega) (ep 3 3 rfl) ehr (fun Gd Dd gd => ?_)
    have mb : ∀ o i, o < 8 → i < mRq M (3 + 9 * 0 + o) → fB 172 (pMv M (3 + 9 * 0 + o) (Ga 20) i) := fun o i ho hi => pMv_B hm (k := 168) (qo o (by omega)) hi (b := 161) (fun j hj => ba j (by rw [cd o ho] at hj; exact hj)) (by decide) (by decide) (by decide) (by decide)
    have me : ∀ o i, o < 8 → pMv M (3 + 9 * 0 + o) (Ga 20) i = pMv M (3 + 9 * 0 + o) (pY1 M 0 (F 19)) i := fun o i ho => pMv_e hm (qo o (by omega)) (fun j hj => ga j (by rw [cd o ho] at hj; exact hj))
    rw [ro 1 (by decide)] at gb
    rw [ro 2 (by decide), yb] at gc
    rw [ro 3 (by decide), yc] at gd
    have gb : Gb 21 = pWr 0 (mFa M 0) (Ga 21) (pMv M (3 + 9 * 0 + 1) (Ga 20)) := gb
    have gc : Gc 28 = pWr (16 * (s % mFa M 5)) (mKw M) (Gb 28) (pMv M (3 + 9 * 0 + 2) (Ga 20)) := gc
    have gd : Gd 31 = pWr (16 * (s % mFa M 5)) (mKw M) (Gc 31) (pMv M (3 + 9 * 0 + 3) (Ga 20)) := gd
    have kF : Gb 28 = F 28 := (Db.fn (by decide)).trans (Da.fn (by decide))
    have vF : Gc 31 = F 31 := (Dc.fn (by decide)).trans ((Db.fn (by decide)).trans (Da.fn (by decide)))
    rw [kF] at gc
    rw [vF] at gd
    refine c81 Gd (fun b k b1 b2 b3 b4 => (Dd b k b4).trans ((Dc b k b3).trans ((Db b k b2).trans (Da b k b1)))) (fun k hk => ?_) (fun k hk => ?_) ⟨_, (Dd.fn (by decide)).trans gc⟩ (gd.trans (pWr_ext (fun j _ => me 3 j (by decide)))) ?_
    · rw [Dd 21 k (by decide), Dc 21 k (by decide), gb, pWr_i0 hk]
      exact ⟨me 1 k (by decide), mb 1 k (by decide) (by rw [ro 1 (by decide)]; exact hk)⟩
    · rw [Dd 28 _ (by decide), gc, pWr_in hk]
      exact ⟨me 2 k (by decide), mb 2 k (by decide) (by rw [ro 2 (by decide)]; exact hk)⟩
    · rw [gd]; exact pWr_B hV (fun j hj => mb 3 j (by decide) (by rw [ro 3 (by decide)]; exact hj))
  refine XC.block [10] 60 ?_
  refine cl_placeOf_a e5 hm (p := s) (by omega) h60 (fun v hv => ?_)
  exact c10 v hv
theorem cl_attend_1_a (hM : clMd_a M I L F) (hm : mGd M) (hl : 1 < mFa M 3) {s : Nat} (hs : s < 60) (h60 : I 18 10 = nI s) (hK : ∀ k, k < 128 → fB 182 (F 29 k)) (hV : ∀ k, k < 128 → fB 172 (F 32 k)) (hX : ∀ j, j < mFa M 0 → fB (206 + 2 * 1) (F 19 j)) {pt : Int32} (hpt : pt = nI (3 + 9 * 1))
    (hQ : ∀ G, (∀ b k, b ≠ 19 → b ≠ 20 → b ≠ 21 → b ≠ 22 → b ≠ 25 → b ≠ 29 → b ≠ 32 → G b k = F b k) → (∀ i, i < mFa M 0 → G 19 i = pX1 M 1 s (pKc (F 29)) (pKc (F 32)) (F 19) i ∧ fB (207 + 2 * 1) (G 19 i)) → G 29 = pWr (16 * (s % mFa M 5)) (mKw M) (F 29) (pK1 M 1 s (F 19)) → (∀ k, k < 128 → fB 182 (G 29 k)) → G 32 = pWr (16 * (s % mFa M 5)) (mKw M) (F 32) (pV1 M 1 (F 19)) → (∀ k, k < 128 → fB 172 (G 32 k)) → Q none (shG X (md1 T), I, L, G)) : XM xE0 (d + 3) 122 [.ref 18, .ref 38, .int 1, .int pt] (shG X (md1 T), I, L, F) Q := by
  obtain ⟨hh, hh1, hh2, hh3, hh4⟩ := mHs hm
  obtain ⟨kw2, d2, kw, dh, hp⟩ := mKe hm
  have h0 := hm.1.1
  have h1 := hm.1.2.1
  have h2' := hm.1.2.2.1
  have h3 := hm.1.2.2.2.1
  have hc := hm.1.2.2.2.2.2.1
  have wle : mKw M ≤ 16 := by rw [← hh4]; omega
  have sl8 : s % mFa M 5 < 8 := Nat.lt_of_lt_of_le (Nat.mod_lt _ (by omega)) hc.2
  have hb := hm.2.2.2.1.2
  have qo : ∀ o, o < 9 → 3 + 9 * 1 + o < 3 + 9 * mFa M 3 := fun o ho => by omega
  have cd : ∀ o, o < 8 → mCq M (3 + 9 * 1 + o) = mFa M 0 := fun o ho => (mCq_l (by omega)).trans (if_neg (by omega))
  have ro : ∀ o, o < 9 → mRq M (3 + 9 * 1 + o) = [1, mFa M 0, mKw M, mKw M, mFa M 0, 1, mFa M 4, mFa M 4, mFa M 0].getD o 0 := fun o ho => mRq_l ho
  have ep : ∀ o, ∀ oo : Int32, oo = nI o → pt + oo = nI (3 + 9 * 1 + o) := fun o oo ho => by rw [hpt, ho, nI_add]
  have e1 : I 39 1 = nI (mFa M 1) := hM.1 1 (by decide)
  have e2 : I 39 2 = nI (mFa M 2) := hM.1 2 (by decide)
  have e5 : I 39 5 = nI (mFa M 5) := hM.1 5 (by decide)
  have em5 : I 38 5 = nI (mH M) := hM.2.2.2.1.1
  have em6 : I 38 6 = nI (mFa M 1 / mFa M 2) := hM.2.2.2.1.2
  have v1 : vp_in (1 : Int32) 12 := rf_in (j := 1) rfl (by decide) (by decide)
  have v2 : vp_in (2 : Int32) 12 := rf_in (j := 2) rfl (by decide) (by decide)
  have vl : vp_in (1 : Int32) 2 := rf_in (j := 1) rfl (by decide) (by decide)
  have gpos : 0 < mFa M 1 / mFa M 2 := Nat.div_pos hh2 h2'.1
  have gle : mFa M 1 / mFa M 2 ≤ 4 := Nat.le_trans (Nat.div_le_self _ _) (by omega)
  have nz6 : ¬ I 38 6 = 0 := by rw [em6]; exact nI_ne0 gpos (by omega)
  have hX0 : ∀ j, j < mFa M 0 → fB 210 (F 19 j) := fun j hj => (hX j hj).mono (by omega)
  -- the heads
  have c193 : ∀ (hr : Int32) (G5 : Nat → Nat → UInt32), (∀ b k, b ≠ 20 → b ≠ 21 → b ≠ 22 → b ≠ 25 → b ≠ 29 → b ≠ 32 → G5 b k = F b k) → (∀ k, k < mFa M 0 → G5 22 k = pW1 M 1 s (pKc (F 29)) (pKc (F 32)) (F 19) k ∧ fB 176 (G5 22 k)) → G5 29 = pWr (16 * (s % mFa M 5)) (mKw M) (F 29) (pK1 M 1 s (F 19)) → (∀ k, k < 128 → fB 182 (G5 29 k)) → G5 32 = pWr (16 * (s % mFa M 5)) (mKw M) (F 32) (pV1 M 1 (F 19)) → (∀ k, k < 128 → fB 172 (G5 32 k)) → ∀ x5 y6 y7 y8, XC xE0 (d + 3) xM_122 (193, [some (.ref 18), some (.ref 38), some (.int 1), some (.int pt), some (.int hr), some (.int x5), y6, y7, y8], [], (shG X (md1 T), I, L, G5)) Q := by
    intro hr G5 D5 g22 gk bk gv bv x5 y6 y7 y8
    have M5 : clMd_a M I L G5 := hM.fl (fun b k hb => D5 b k (by omega) (by omega) (by omega) (by omega) (by omega) (by omega))
    have x5e : G5 19 = F 19 := funext fun k => D5 19 k (by decide) (by decide) (by decide) (by decide) (by decide) (by decide)
    refine XC.block [] 60 ?_
    refine cl_add_22_a M5 hm (qo 4 (by decide)) (ro 4 (by decide)) (b := 176) (k := 183) (c := 206 + 2 * 1) (k' := 207 + 2 * 1) (fun j hj => (g22 j (by rw [cd 4 (by decide)] at hj; exact hj)).2) (by decide) (by decide) (by decide) (by decide) (by rw [x5e]; exact hX) (by omega) (by omega) (by omega) (ep 4 4 rfl) (fun G6 D6 g6 => ?_)
    refine ⟨trivial, hQ G6 (fun b k b1 b2 b3 b4 b5 b6 b7 => (D6 b k b1).trans (D5 b k b2 b3 b4 b5 b6 b7)) (fun i hi => ?_) ((D6.fn (by decide)).trans gk) (by rw [D6.fn (by decide)]; exact bk) ((D6.fn (by decide)).trans gv) (by rw [D6.fn (by decide)]; exact bv)⟩
    refine ⟨?_, (g6 i hi).2⟩
    rw [(g6 i hi).1, x5e]
    unfold pX1
    congr 1
    exact pMv_e hm (qo 4 (by decide)) (fun j hj => (g22 j (by rw [cd 4 (by decide)] at hj; exact hj)).1)
  have c119 : ∀ (hr : Int32) (G4 : Nat → Nat → UInt32), (∀ b k, b ≠ 20 → b ≠ 21 → b ≠ 29 → b ≠ 32 → G4 b k = F b k) → (∀ k, k < mFa M 0 → G4 21 k = pQ1 M 1 s (F 19) k ∧ fB 182 (G4 21 k)) → G4 29 = pWr (16 * (s % mFa M 5)) (mKw M) (F 29) (pK1 M 1 s (F 19)) → (∀ k, k < 128 → fB 182 (G4 29 k)) → G4 32 = pWr (16 * (s % mFa M 5)) (mKw M) (F 32) (pV1 M 1 (F 19)) → (∀ k, k < 128 → fB 172 (G4 32 k)) → ∀ (u n : Nat), n + u = mFa M 1 → ∀ G, (∀ b k, b ≠ 22 → b ≠ 25 → G b k = G4 b k) → (∀ n' j, n' < n → j < mH M → G 22 (n' * mH M + j) = pAt M s (pKc (G4 29)) (pKc (G4 32)) (G4 21) n' j) → ∀ x5, x5 = nI n → ∀ y6 y7 y8, XC xE0 (d + 3) xM_122 (119, [some (.ref 18), some (.ref 38), some (.int 1), some (.int pt), some (.int hr), some (.int x5), y6, y7, y8], [], (shG X (md1 T), I, L, G)) Q := by
    intro hr G4 D4 g21 gk bk gv bv u
    have bq : ∀ k, k < mFa M 0 → fB 182 (G4 21 k) := fun k hk => (g21 k hk).2
    induction u with
    | zero =>
      intro n hn G D hw x5 hx5 y6 y7 y8
      have : n = mFa M 1 := by omega
      subst this
      have k := c193 hr G (fun b k b1 b2 b3 b4 b5 b6 => (D b k b3 b4).trans (D4 b k b1 b2 b5 b6)) (fun k hk => by
        have kn : k / mH M < mFa M 1 := Nat.div_lt_of_lt_mul (by rw [Nat.mul_comm, dh]; exact hk)
        have kj : k % mH M < mH M := Nat.mod_lt _ hp
        have e := hw (k / mH M) (k % mH M) kn kj
        rw [Nat.div_add_mod'] at e
        have HB := cl_hdB_29_a (I := I) (F := G4) (s := s) ⟨hm, hs, h60, e5, em5, bk, bq⟩ kn
        refine ⟨?_, ?_⟩
        · rw [e, gk, gv]
          exact pAt_ext hm kn kj (fun a j ha hj => pKc_Wr wle (by omega)) (fun a j ha hj => pKc_Wr wle (by omega)) (fun k hk => (g21 k hk).1)
        · rw [e]
          refine pAt_B ⟨by omega, hc.2⟩ HB.1 (fun t => ?_)
          have := (HB.2.1 t _ kj).2
          exact bv _ (by rw [← Nat.add_assoc]; exact this)) ((funext fun k => D 29 k (by decide) (by decide)).trans gk) (fun k hk => by rw [D 29 k (by decide) (by decide)]; exact bk k hk) ((funext fun k => D 32 k (by decide) (by decide)).trans gv) (fun k hk => by rw [D 32 k (by decide) (by decide)]; exact bv k hk)
      refine XC.block [119, 193] 60 ?_
      refine And.intro v1 ?_
      exact And.intro (fun _ => k _ _ _ _) (fun z => absurd (show I 39 1 ≤ x5 by rw [e1, hx5]; exact nI_le (by omega) (by omega)) z)
    | succ u ih =>
      intro n hn G D hw x5 hx5 y6 y7 y8
      have hlt : ¬ I 39 1 ≤ x5 := by rw [e1, hx5]; exact nI_ge (by omega) (by omega)
      have nl : n < mFa M 1 := by omega
      have x51 : x5 + 1 = nI (n + 1) := by rw [hx5, nI_1]
      have eow : x5 * I 38 5 = nI (n * mH M) := by rw [hx5, em5, nI_mul]
      have esh : x5 / I 38 6 * I 38 5 = nI (n / (mFa M 1 / mFa M 2) * mH M) := by rw [hx5, em6, em5, pk_div (by omega) gpos (by omega), nI_mul]
      have gK : G 29 = G4 29 := funext fun k => D 29 k (by decide) (by decide)
      have gV : G 32 = G4 32 := funext fun k => D 32 k (by decide) (by decide)
      have g21' : G 21 = G4 21 := funext fun k => D 21 k (by decide) (by decide)
      have HC : clHc_29_a M s I G := ⟨hm, hs, h60, e5, em5, by rw [gK]; exact bk, by rw [g21']; exact bq⟩
      have HB := cl_hdB_29_a HC nl
      have c168 : ∀ o6 o7, o6 = nI (n * mH M) → o7 = nI (n / (mFa M 1 / mFa M 2) * mH M) → ∀ G1, fO 25 G G1 → (∀ t, t < aCn s (mFa M 5) → G1 25 t = pEz (pZt M s (pKc (G 29)) (G 21) n) (aCn s (mFa M 5)) t) → ∀ e, e = pS (pEz (pZt M s (pKc (G 29)) (G 21) n) (aCn s (mFa M 5))) (aCn s (mFa M 5)) → XC xE0 (d + 3) xM_122 (168, [some (.ref 18), some (.ref 38), some (.int 1), some (.int pt), some (.int hr), some (.int x5), some (.int o6), some (.int o7), y8], [.float e], (shG X (md1 T), I, L, G1)) Q := by
        intro o6 o7 h6 h7 G1 D1 hz e he
        have g1V : G1 32 = G4 32 := (D1.fn (by decide)).trans gV
        refine XC.block [119] 60 ?_
        refine And.intro vl ?_
        refine cl_mix_32_a hm hs h60 e5 em5 nl HB.1 (by rw [g1V]; exact bv) hz he h6 h7 (fun G2 D2 g2 => ?_)
        refine ih (n + 1) (by omega) G2 (fun b k b1 b2 => (D2 b k b1).trans ((D1 b k b2).trans (D b k b1 b2))) (fun n' j hn' hj => ?_) _ x51 _ _ _
        rw [g2]
        rcases Nat.lt_or_ge n' n with y | y
        · have : (n' + 1) * mH M ≤ n * mH M := Nat.mul_le_mul_right _ y
          rw [Nat.succ_mul n' (mH M)] at this
          unfold pWr
          rw [if_neg (by omega), D1 22 _ (by decide)]
          exact hw n' j y hj
        · have : n' = n := by omega
          subst this
          rw [pWr_in hj, g1V, gK, g21']
          rfl
      refine XC.block [119, 168] 60 ?_
      refine And.intro v1 ?_
      refine And.intro (fun z => absurd z hlt) (fun _ => ?_)
      refine And.intro nz6 ?_
      refine And.intro vl ?_
      refine cl_weigh_29_a HC nl eow esh (fun G1 D1 hz e he => ?_)
      exact c168 _ _ eow esh G1 D1 hz e he
  -- the rows
  have c10 : ∀ hr, hr = nI (16 * (s % mFa M 5)) → XC xE0 (d + 3) xM_122 (10, [some (.ref 18), some (.ref 38), some (.int 1), some (.int pt), some (.int hr), none, none, none, none], [], (shG X (md1 T), I, L, F)) Q := by
    intro hr ehr
    have c81 : ∀ (Gd : Nat → Nat → UInt32), (∀ b k, b ≠ 20 → b ≠ 21 → b ≠ 29 → b ≠ 32 → Gd b k = F b k) → (∀ k, k < mFa M 0 → Gd 21 k = pMv M (3 + 9 * 1 + 1) (pY1 M 1 (F 19)) k ∧ fB 172 (Gd 21 k)) → (∀ k, k < mKw M → Gd 29 (16 * (s % mFa M 5) + k) = pMv M (3 + 9 * 1 + 2) (pY1 M 1 (F 19)) k ∧ fB 172 (Gd 29 (16 * (s % mFa M 5) + k))) → (∃ N, Gd 29 = pWr (16 * (s % mFa M 5)) (mKw M) (F 29) N) → Gd 32 = pWr (16 * (s % mFa M 5)) (mKw M) (F 32) (pV1 M 1 (F 19)) → (∀ k, k < 128 → fB 172 (Gd 32 k)) → XC xE0 (d + 3) xM_122 (81, [some (.ref 18), some (.ref 38), some (.int 1), some (.int pt), some (.int hr), none, none, none, none], [], (shG X (md1 T), I, L, Gd)) Q := by
      intro Gd Dd q1 k1 ⟨N, kN⟩ vv bv
      have Md : clMd_a M I L Gd := hM.fl (fun b k hb => Dd b k (by omega) (by omega) (by omega) (by omega))
      refine XC.block [119] 60 ?_
      refine And.intro v1 ?_
      refine cl_turn_21_a (s := s) Md hm (by omega) h60 (N := mFa M 1) (p := 0) (by rw [dh]; omega) (by omega) (fun k hk => by rw [Nat.zero_add]; exact (q1 k (by rw [dh] at hk; exact hk)).2) rfl e1 (fun Ge De te => ?_)
      have Me : clMd_a M I L Ge := Md.fl (fun b k hb => De b k (by omega))
      refine And.intro vl ?_
      refine And.intro v2 ?_
      have eK : Ge 29 = Gd 29 := De.fn (by decide)
      refine cl_turn_29_a (s := s) Me hm (by omega) h60 (N := mFa M 2) (p := 16 * (s % mFa M 5)) (by rw [kw]; omega) (by omega) (fun k hk => by rw [eK]; exact (k1 k (by rw [kw] at hk; exact hk)).2) ehr e2 (fun Gf Df tf => ?_)
      rw [dh] at te
      rw [kw, eK, kN, pWr_Wr, ← kN] at tf
      have fk : Gf 29 = pWr (16 * (s % mFa M 5)) (mKw M) (F 29) (pK1 M 1 s (F 19)) := tf.trans (pWr_ext (fun j hj => pTn_ext kw2 (fun k hk => (k1 k hk).1) hj))
      refine c119 hr Gf (fun b k b1 b2 b3 b4 => (Df b k b3).trans ((De b k b2).trans (Dd b k b1 b2 b3 b4))) (fun k hk => ?_) fk ?_ ?_ ?_ (mFa M 1) 0 (Nat.zero_add _) Gf (fun _ _ _ _ => rfl) (fun n' j hn' => absurd hn' (Nat.not_lt_zero _)) _ rfl _ _ _
      · rw [Df 21 k (by decide), te, pWr_i0 hk]
        refine ⟨?_, ?_⟩
        · exact pTn_ext d2 (fun k hk => by rw [Nat.zero_add]; exact (q1 k hk).1) hk
        · exact pTn_B hb (by omega) hh d2 (fun k hk => by rw [Nat.zero_add]; exact (q1 k hk).2) k hk
      · rw [tf]; exact pWr_B hK (fun j hj => pTn_B hb (by omega) hh kw2 (fun k hk => (k1 k hk).2) j hj)
      · exact (Df.fn (by decide)).trans ((De.fn (by decide)).trans vv)
      · rw [Df.fn (by decide), De.fn (by decide)]; exact bv
    refine XC.block [81] 60 ?_
    refine cl_norm_a hM hm (qo 0 (by decide)) (cd 0 (by decide)) (ro 0 (by decide)) hX0 (ep 0 0 rfl) (fun Ga Da ga ba => ?_)
    have Ma : clMd_a M I L Ga := hM.fl (fun b k hb => Da b k (by omega))
    refine cl_mul_20_21_a Ma hm (qo 1 (by decide)) (b := 161) (k := 168) (p := 0) (fun j hj => ba j (by rw [cd 1 (by decide)] at hj; exact hj)) (by decide) (by decide) (by decide) (by decide) (by rw [ro 1 (by decide)]; show 0 + mFa M 0 ≤ 16; omega) (ep 1 1 rfl) rfl (fun Gb Db gb => ?_)
    have Mb : clMd_a M I L Gb := Ma.fl (fun b k hb => Db b k (by omega))
    have yb : Gb 20 = Ga 20 := Db.fn (by decide)
    refine And.intro vl ?_
    refine cl_mul_20_29_a Mb hm (qo 2 (by decide)) (b := 161) (k := 168) (p := 16 * (s % mFa M 5)) (fun j hj => by rw [yb]; exact ba j (by rw [cd 2 (by decide)] at hj; exact hj)) (by decide) (by decide) (by decide) (by decide) (by rw [ro 2 (by decide)]; show 16 * (s % mFa M 5) + mKw M ≤ 128; omega) (ep 2 2 rfl) ehr (fun Gc Dc gc => ?_)
    have Mc : clMd_a M I L Gc := Mb.fl (fun b k hb => Dc b k (by omega))
    have yc : Gc 20 = Ga 20 := (Dc.fn (by decide)).trans yb
    refine And.intro vl ?_
    refine cl_mul_20_32_a Mc hm (qo 3 (by decide)) (b := 161) (k := 168) (p := 16 * (s % mFa M 5)) (fun j hj => by rw [yc]; exact ba j (by rw [cd 3 (by decide)] at hj; exact hj)) (by decide) (by decide) (by decide) (by decide) (by rw [ro 3 (by decide)]; show 16 * (s % mFa M 5) + mKw M ≤ 128; omega) (ep 3 3 rfl) ehr (fun Gd Dd gd => ?_)
    have mb : ∀ o i, o < 8 → i < mRq M (3 + 9 * 1 + o) → fB 172 (pMv M (3 + 9 * 1 + o) (Ga 20) i) := fun o i ho hi => pMv_B hm (k := 168) (qo o (by omega)) hi (b := 161) (fun j hj => ba j (by rw [cd o ho] at hj; exact hj)) (by decide) (by decide) (by decide) (by decide)
    have me : ∀ o i, o < 8 → pMv M (3 + 9 * 1 + o) (Ga 20) i = pMv M (3 + 9 * 1 + o) (pY1 M 1 (F 19)) i := fun o i ho => pMv_e hm (qo o (by omega)) (fun j hj => ga j (by rw [cd o ho] at hj; exact hj))
    rw [ro 1 (by decide)] at gb
    rw [ro 2 (by decide), yb] at gc
    rw [ro 3 (by decide), yc] at gd
    have gb : Gb 21 = pWr 0 (mFa M 0) (Ga 21) (pMv M (3 + 9 * 1 + 1) (Ga 20)) := gb
    have gc : Gc 29 = pWr (16 * (s % mFa M 5)) (mKw M) (Gb 29) (pMv M (3 + 9 * 1 + 2) (Ga 20)) := gc
    have gd : Gd 32 = pWr (16 * (s % mFa M 5)) (mKw M) (Gc 32) (pMv M (3 + 9 * 1 + 3) (Ga 20)) := gd
    have kF : Gb 29 = F 29 := (Db.fn (by decide)).trans (Da.fn (by decide))
    have vF : Gc 32 = F 32 := (Dc.fn (by decide)).trans ((Db.fn (by decide)).trans (Da.fn (by decide)))
    rw [kF] at gc
    rw [vF] at gd
    refine c81 Gd (fun b k b1 b2 b3 b4 => (Dd b k b4).trans ((Dc b k b3).trans ((Db b k b2).trans (Da b k b1)))) (fun k hk => ?_) (fun k hk => ?_) ⟨_, (Dd.fn (by decide)).trans gc⟩ (gd.trans (pWr_ext (fun j _ => me 3 j (by decide)))) ?_
    · rw [Dd 21 k (by decide), Dc 21 k (by decide), gb, pWr_i0 hk]
      exact ⟨me 1 k (by decide), mb 1 k (by decide) (by rw [ro 1 (by decide)]; exact hk)⟩
    · rw [Dd 29 _ (by decide), gc, pWr_in hk]
      exact ⟨me 2 k (by decide), mb 2 k (by decide) (by rw [ro 2 (by decide)]; exact hk)⟩
    · rw [gd]; exact pWr_B hV (fun j hj => mb 3 j (by decide) (by rw [ro 3 (by decide)]; exact hj))
  refine XC.block [10] 60 ?_
  refine cl_placeOf_a e5 hm (p := s) (by omega) h60 (fun v hv => ?_)
  exact c10 v hv
end NED_a
section NED_b
variable {X : List (Option Nat)} {T : List xS} {M : pMd} {I J : Nat → Nat → Int32} {L : Nat → Nat → Int64} {F G : Nat → Nat → UInt32} {d : Nat} {Q : xP}
theorem cl_feed_b (hM : clMd_b M I L F) (hm : mGd M) {l : Nat} (hl : l < mFa M 3) (hX : ∀ j, j < mFa M 0 → fB (207 + 2 * l) (F 19 j)) {pt : Int32} (hpt : pt = nI (3 + 9 * l))
    (hQ : ∀ G, (∀ b k, b ≠ 19 → b ≠ 20 → b ≠ 23 → b ≠ 24 → G b k = F b k) → (∀ i, i < mFa M 0 → G 19 i = pX2 M l (F 19) i ∧ fB (208 + 2 * l) (G 19 i)) → Q none (shG X (md2 T), I, L, G)) : XM xE0 (d + 2) 127 [.ref 18, .ref 51, .int pt] (shG X (md2 T), I, L, F) Q := by
  have h0 := hm.1.1
  have h3 := hm.1.2.2.2.1
  have h4 := hm.1.2.2.2.2.1
  have qo : ∀ o, o < 9 → 3 + 9 * l + o < 3 + 9 * mFa M 3 := fun o ho => by omega
  have cd : ∀ o, o < 8 → mCq M (3 + 9 * l + o) = mFa M 0 := fun o ho => (mCq_l (by omega)).trans (if_neg (by omega))
  have c8 : mCq M (3 + 9 * l + 8) = mFa M 4 := (mCq_l (by decide)).trans (if_pos rfl)
  have ro : ∀ o, o < 9 → mRq M (3 + 9 * l + o) = [1, mFa M 0, mKw M, mKw M, mFa M 0, 1, mFa M 4, mFa M 4, mFa M 0].getD o 0 := fun o ho => mRq_l ho
  have ep : ∀ o, ∀ oo : Int32, oo = nI o → pt + oo = nI (3 + 9 * l + o) := fun o oo ho => by rw [hpt, ho, nI_add]
  have e4 : I 52 4 = nI (mFa M 4) := hM.1 4 (by decide)
  have v4 : vp_in (4 : Int32) 12 := rf_in (j := 4) rfl (by decide) (by decide)
  have hX0 : ∀ j, j < mFa M 0 → fB 210 (F 19 j) := fun j hj => (hX j hj).mono (by omega)
  -- the gate and the last sums
  have c99 : ∀ (G2 : Nat → Nat → UInt32), (∀ b k, b ≠ 20 → b ≠ 23 → b ≠ 24 → G2 b k = F b k) → (∀ i, i < mFa M 4 → G2 23 i = pG1 M l (F 19) i ∧ fB 195 (G2 23 i)) → ∀ x, XC xE0 (d + 2) xM_127 (99, [some (.ref 18), some (.ref 51), some (.int pt), some (.int x)], [], (shG X (md2 T), I, L, G2)) Q := by
    intro G2 D2 g2 x
    have M2 : clMd_b M I L G2 := hM.fl (fun b k hb => D2 b k (by omega) (by omega) (by omega))
    have x2e : G2 19 = F 19 := funext fun k => D2 19 k (by decide) (by decide) (by decide)
    refine XC.block [] 60 ?_
    refine cl_add_23_b M2 hm (qo 8 (by decide)) (ro 8 (by decide)) (b := 195) (k := 202) (c := 207 + 2 * l) (k' := 208 + 2 * l) (fun j hj => (g2 j (by rw [c8] at hj; exact hj)).2) (by decide) (by decide) (by decide) (by decide) (by rw [x2e]; exact hX) (by omega) (by omega) (by omega) (ep 8 8 rfl) (fun G3 D3 g3 => ?_)
    refine ⟨trivial, hQ G3 (fun b k b1 b2 b3 b4 => (D3 b k b1).trans (D2 b k b2 b3 b4)) (fun i hi => ?_)⟩
    refine ⟨?_, (g3 i hi).2⟩
    rw [(g3 i hi).1, x2e]
    unfold pX2
    congr 1
    exact pMv_e hm (qo 8 (by decide)) (fun j hj => (g2 j (by rw [c8] at hj; exact hj)).1)
  have c50 : ∀ (G1 : Nat → Nat → UInt32), (∀ b k, b ≠ 20 → b ≠ 23 → b ≠ 24 → G1 b k = F b k) → (∀ i, i < mFa M 4 → (G1 23 i = pMv M (3 + 9 * l + 6) (pNo M (3 + 9 * l + 5) (F 19)) i ∧ fB 172 (G1 23 i)) ∧ G1 24 i = pMv M (3 + 9 * l + 7) (pNo M (3 + 9 * l + 5) (F 19)) i ∧ fB 172 (G1 24 i)) → ∀ (u i : Nat), i + u = mFa M 4 → ∀ G, fO 23 G1 G → (∀ i', i' < i → G 23 i' = pG1 M l (F 19) i' ∧ fB 195 (G 23 i')) → (∀ i', i ≤ i' → G 23 i' = G1 23 i') → ∀ x, x = nI i → XC xE0 (d + 2) xM_127 (50, [some (.ref 18), some (.ref 51), some (.int pt), some (.int x)], [], (shG X (md2 T), I, L, G)) Q := by
    intro G1 D1 g1 u
    induction u with
    | zero =>
      intro i hi G D hv hw x hx
      have : i = mFa M 4 := by omega
      subst this
      have k := c99 G (fun b k b1 b2 b3 => (D b k b2).trans (D1 b k b1 b2 b3)) hv
      refine XC.block [50, 99] 60 ?_
      refine And.intro v4 ?_
      exact And.intro (fun _ => k _) (fun z => absurd (show I 52 4 ≤ x by rw [e4, hx]; exact nI_le (by omega) (by omega)) z)
    | succ u ih =>
      intro i hi G D hv hw x hx
      have hlt : ¬ I 52 4 ≤ x := by rw [e4, hx]; exact nI_ge (by omega) (by omega)
      have il : i < mFa M 4 := by omega
      have hx1 : x + 1 = nI (i + 1) := by rw [hx, nI_1]
      have xin : vp_in x 16 := rf_in hx (by omega) (by decide)
      have tx : x.toNatClampNeg = i := by rw [hx, nI_clamp (by omega)]
      have eg : G 23 x.toNatClampNeg = G1 23 i := by rw [tx]; exact hw i (Nat.le_refl _)
      have eu : G 24 x.toNatClampNeg = G1 24 i := by rw [tx]; exact D 24 i (by decide)
      obtain ⟨⟨a1, a2⟩, a3, a4⟩ := g1 i il
      obtain ⟨k1, k2, k3, k4⟩ := pGl_ok a2 a4
      rw [← eg] at k1 k2 k3 k4
      rw [← eu] at k4
      have ev : pGl (G 23 x.toNatClampNeg) (G 24 x.toNatClampNeg) = pG1 M l (F 19) i := by rw [eg, eu, a1, a3]; rfl
      have V2 : ∀ i', i' < i + 1 → x2 G 23 x.toNatClampNeg (pGl (G 23 x.toNatClampNeg) (G 24 x.toNatClampNeg)) 23 i' = pG1 M l (F 19) i' ∧ fB 195 (x2 G 23 x.toNatClampNeg (pGl (G 23 x.toNatClampNeg) (G 24 x.toNatClampNeg)) 23 i') := by
        intro i' hi'
        rcases Nat.lt_or_ge i' i with y | y
        · rw [x2_o _ _ (by omega)]; exact hv i' y
        · have : i' = i := by omega
          subst this
          rw [show ∀ v, x2 G 23 x.toNatClampNeg v 23 i' = v from fun v => by rw [tx, x2_same]]
          exact ⟨ev, k4⟩
      have W2 : ∀ i', i + 1 ≤ i' → x2 G 23 x.toNatClampNeg (pGl (G 23 x.toNatClampNeg) (G 24 x.toNatClampNeg)) 23 i' = G1 23 i' := fun i' hi' => by rw [x2_o _ _ (by omega)]; exact hw i' (by omega)
      have gn := k4.n32 (by omega)
      refine XC.block [50, 99] 60 ?_
      refine And.intro v4 ?_
      refine And.intro (fun z => absurd z hlt) (fun _ => ?_)
      refine And.intro xin ?_
      refine And.intro xin ?_
      refine And.intro k1.n32 ?_
      refine fn_exp_c k1 ?_
      refine And.intro k2.n32 ?_
      refine And.intro k3.n32 ?_
      refine And.intro xin ?_
      refine And.intro gn ?_
      refine And.intro xin ?_
      exact ih (i + 1) (by omega) _ D.st V2 W2 _ hx1
  refine XC.block [50] 60 ?_
  refine cl_norm_b hM hm (qo 5 (by decide)) (cd 5 (by decide)) (ro 5 (by decide)) hX0 (ep 5 5 rfl) (fun Ga Da ga ba => ?_)
  have Ma : clMd_b M I L Ga := hM.fl (fun b k hb => Da b k (by omega))
  refine cl_mul_20_23_b Ma hm (qo 6 (by decide)) (b := 161) (k := 168) (p := 0) (fun j hj => ba j (by rw [cd 6 (by decide)] at hj; exact hj)) (by decide) (by decide) (by decide) (by decide) (by rw [ro 6 (by decide)]; show 0 + mFa M 4 ≤ 16; omega) (ep 6 6 rfl) rfl (fun Gb Db gb => ?_)
  have Mb : clMd_b M I L Gb := Ma.fl (fun b k hb => Db b k (by omega))
  have yb : Gb 20 = Ga 20 := Db.fn (by decide)
  refine cl_mul_20_24_b Mb hm (qo 7 (by decide)) (b := 161) (k := 168) (p := 0) (fun j hj => by rw [yb]; exact ba j (by rw [cd 7 (by decide)] at hj; exact hj)) (by decide) (by decide) (by decide) (by decide) (by rw [ro 7 (by decide)]; show 0 + mFa M 4 ≤ 16; omega) (ep 7 7 rfl) rfl (fun Gc Dc gc => ?_)
  rw [ro 6 (by decide)] at gb
  rw [ro 7 (by decide), yb] at gc
  have gb : Gb 23 = pWr 0 (mFa M 4) (Ga 23) (pMv M (3 + 9 * l + 6) (Ga 20)) := gb
  have gc : Gc 24 = pWr 0 (mFa M 4) (Gb 24) (pMv M (3 + 9 * l + 7) (Ga 20)) := gc
  have mb : ∀ o i, o < 8 → i < mRq M (3 + 9 * l + o) → fB 172 (pMv M (3 + 9 * l + o) (Ga 20) i) := fun o i ho hi => pMv_B hm (k := 168) (qo o (by omega)) hi (b := 161) (fun j hj => ba j (by rw [cd o ho] at hj; exact hj)) (by decide) (by decide) (by decide) (by decide)
  have me : ∀ o i, o < 8 → pMv M (3 + 9 * l + o) (Ga 20) i = pMv M (3 + 9 * l + o) (pNo M (3 + 9 * l + 5) (F 19)) i := fun o i ho => pMv_e hm (qo o (by omega)) (fun j hj => ga j (by rw [cd o ho] at hj; exact hj))
  refine c50 Gc (fun b k b1 b2 b3 => (Dc b k b3).trans ((Db b k b2).trans (Da b k b1))) (fun i hi => ?_) (mFa M 4) 0 (Nat.zero_add _) Gc fO.rf (fun i hi => absurd hi (Nat.not_lt_zero _)) (fun _ _ => rfl) _ rfl
  rw [Dc 23 i (by decide), gb, gc, pWr_i0 hi, pWr_i0 hi]
  exact ⟨⟨me 6 i (by decide), mb 6 i (by decide) (by rw [ro 6 (by decide)]; exact hi)⟩, me 7 i (by decide), mb 7 i (by decide) (by rw [ro 7 (by decide)]; exact hi)⟩
theorem cl_attend_0_b (hM : clMd_b M I L F) (hm : mGd M) (hl : 0 < mFa M 3) {s : Nat} (hs : s < 60) (h60 : I 18 10 = nI s) (hK : ∀ k, k < 128 → fB 182 (F 28 k)) (hV : ∀ k, k < 128 → fB 172 (F 31 k)) (hX : ∀ j, j < mFa M 0 → fB (206 + 2 * 0) (F 19 j)) {pt : Int32} (hpt : pt = nI (3 + 9 * 0))
    (hQ : ∀ G, (∀ b k, b ≠ 19 → b ≠ 20 → b ≠ 21 → b ≠ 22 → b ≠ 25 → b ≠ 28 → b ≠ 31 → G b k = F b k) → (∀ i, i < mFa M 0 → G 19 i = pX1 M 0 s (pKc (F 28)) (pKc (F 31)) (F 19) i ∧ fB (207 + 2 * 0) (G 19 i)) → G 28 = pWr (16 * (s % mFa M 5)) (mKw M) (F 28) (pK1 M 0 s (F 19)) → (∀ k, k < 128 → fB 182 (G 28 k)) → G 31 = pWr (16 * (s % mFa M 5)) (mKw M) (F 31) (pV1 M 0 (F 19)) → (∀ k, k < 128 → fB 172 (G 31 k)) → Q none (shG X (md2 T), I, L, G)) : XM xE0 (d + 3) 122 [.ref 18, .ref 51, .int 0, .int pt] (shG X (md2 T), I, L, F) Q := by
  obtain ⟨hh, hh1, hh2, hh3, hh4⟩ := mHs hm
  obtain ⟨kw2, d2, kw, dh, hp⟩ := mKe hm
  have h0 := hm.1.1
  have h1 := hm.1.2.1
  have h2' := hm.1.2.2.1
  have h3 := hm.1.2.2.2.1
  have hc := hm.1.2.2.2.2.2.1
  have wle : mKw M ≤ 16 := by rw [← hh4]; omega
  have sl8 : s % mFa M 5 < 8 := Nat.lt_of_lt_of_le (Nat.mod_lt _ (by omega)) hc.2
  have hb := hm.2.2.2.1.2
  have qo : ∀ o, o < 9 → 3 + 9 * 0 + o < 3 + 9 * mFa M 3 := fun o ho => by omega
  have cd : ∀ o, o < 8 → mCq M (3 + 9 * 0 + o) = mFa M 0 := fun o ho => (mCq_l (by omega)).trans (if_neg (by omega))
  have ro : ∀ o, o < 9 → mRq M (3 + 9 * 0 + o) = [1, mFa M 0, mKw M, mKw M, mFa M 0, 1, mFa M 4, mFa M 4, mFa M 0].getD o 0 := fun o ho => mRq_l ho
  have ep : ∀ o, ∀ oo : Int32, oo = nI o → pt + oo = nI (3 + 9 * 0 + o) := fun o oo ho => by rw [hpt, ho, nI_add]
  have e1 : I 52 1 = nI (mFa M 1) := hM.1 1 (by decide)
  have e2 : I 52 2 = nI (mFa M 2) := hM.1 2 (by decide)
  have e5 : I 52 5 = nI (mFa M 5) := hM.1 5 (by decide)
  have em5 : I 51 5 = nI (mH M) := hM.2.2.2.1.1
  have em6 : I 51 6 = nI (mFa M 1 / mFa M 2) := hM.2.2.2.1.2
  have v1 : vp_in (1 : Int32) 12 := rf_in (j := 1) rfl (by decide) (by decide)
  have v2 : vp_in (2 : Int32) 12 := rf_in (j := 2) rfl (by decide) (by decide)
  have vl : vp_in (0 : Int32) 2 := rf_in (j := 0) rfl (by decide) (by decide)
  have gpos : 0 < mFa M 1 / mFa M 2 := Nat.div_pos hh2 h2'.1
  have gle : mFa M 1 / mFa M 2 ≤ 4 := Nat.le_trans (Nat.div_le_self _ _) (by omega)
  have nz6 : ¬ I 51 6 = 0 := by rw [em6]; exact nI_ne0 gpos (by omega)
  have hX0 : ∀ j, j < mFa M 0 → fB 210 (F 19 j) := fun j hj => (hX j hj).mono (by omega)
  -- the heads
  have c193 : ∀ (hr : Int32) (G5 : Nat → Nat → UInt32), (∀ b k, b ≠ 20 → b ≠ 21 → b ≠ 22 → b ≠ 25 → b ≠ 28 → b ≠ 31 → G5 b k = F b k) → (∀ k, k < mFa M 0 → G5 22 k = pW1 M 0 s (pKc (F 28)) (pKc (F 31)) (F 19) k ∧ fB 176 (G5 22 k)) → G5 28 = pWr (16 * (s % mFa M 5)) (mKw M) (F 28) (pK1 M 0 s (F 19)) → (∀ k, k < 128 → fB 182 (G5 28 k)) → G5 31 = pWr (16 * (s % mFa M 5)) (mKw M) (F 31) (pV1 M 0 (F 19)) → (∀ k, k < 128 → fB 172 (G5 31 k)) → ∀ x5 y6 y7 y8, XC xE0 (d + 3) xM_122 (193, [some (.ref 18), some (.ref 51), some (.int 0), some (.int pt), some (.int hr), some (.int x5), y6, y7, y8], [], (shG X (md2 T), I, L, G5)) Q := by
    intro hr G5 D5 g22 gk bk gv bv x5 y6 y7 y8
    have M5 : clMd_b M I L G5 := hM.fl (fun b k hb => D5 b k (by omega) (by omega) (by omega) (by omega) (by omega) (by omega))
    have x5e : G5 19 = F 19 := funext fun k => D5 19 k (by decide) (by decide) (by decide) (by decide) (by decide) (by decide)
    refine XC.block [] 60 ?_
    refine cl_add_22_b M5 hm (qo 4 (by decide)) (ro 4 (by decide)) (b := 176) (k := 183) (c := 206 + 2 * 0) (k' := 207 + 2 * 0) (fun j hj => (g22 j (by rw [cd 4 (by decide)] at hj; exact hj)).2) (by decide) (by decide) (by decide) (by decide) (by rw [x5e]; exact hX) (by omega) (by omega) (by omega) (ep 4 4 rfl) (fun G6 D6 g6 => ?_)
    refine ⟨trivial, hQ G6 (fun b k b1 b2 b3 b4 b5 b6 b7 => (D6 b k b1).trans (D5 b k b2 b3 b4 b5 b6 b7)) (fun i hi => ?_) ((D6.fn (by decide)).trans gk) (by rw [D6.fn (by decide)]; exact bk) ((D6.fn (by decide)).trans gv) (by rw [D6.fn (by decide)]; exact bv)⟩
    refine ⟨?_, (g6 i hi).2⟩
    rw [(g6 i hi).1, x5e]
    unfold pX1
    congr 1
    exact pMv_e hm (qo 4 (by decide)) (fun j hj => (g22 j (by rw [cd 4 (by decide)] at hj; exact hj)).1)
  have c119 : ∀ (hr : Int32) (G4 : Nat → Nat → UInt32), (∀ b k, b ≠ 20 → b ≠ 21 → b ≠ 28 → b ≠ 31 → G4 b k = F b k) → (∀ k, k < mFa M 0 → G4 21 k = pQ1 M 0 s (F 19) k ∧ fB 182 (G4 21 k)) → G4 28 = pWr (16 * (s % mFa M 5)) (mKw M) (F 28) (pK1 M 0 s (F 19)) → (∀ k, k < 128 → fB 182 (G4 28 k)) → G4 31 = pWr (16 * (s % mFa M 5)) (mKw M) (F 31) (pV1 M 0 (F 19)) → (∀ k, k < 128 → fB 172 (G4 31 k)) → ∀ (u n : Nat), n + u = mFa M 1 → ∀ G, (∀ b k, b ≠ 22 → b ≠ 25 → G b k = G4 b k) → (∀ n' j, n' < n → j < mH M → G 22 (n' * mH M + j) = pAt M s (pKc (G4 28)) (pKc (G4 31)) (G4 21) n' j) → ∀ x5, x5 = nI n → ∀ y6 y7 y8, XC xE0 (d + 3) xM_122 (119, [some (.ref 18), some (.ref 51), some (.int 0), some (.int pt), some (.int hr), some (.int x5), y6, y7, y8], [], (shG X (md2 T), I, L, G)) Q := by
    intro hr G4 D4 g21 gk bk gv bv u
    have bq : ∀ k, k < mFa M 0 → fB 182 (G4 21 k) := fun k hk => (g21 k hk).2
    induction u with
    | zero =>
      intro n hn G D hw x5 hx5 y6 y7 y8
      have : n = mFa M 1 := by omega
      subst this
      have k := c193 hr G (fun b k b1 b2 b3 b4 b5 b6 => (D b k b3 b4).trans (D4 b k b1 b2 b5 b6)) (fun k hk => by
        have kn : k / mH M < mFa M 1 := Nat.div_lt_of_lt_mul (by rw [Nat.mul_comm, dh]; exact hk)
        have kj : k % mH M < mH M := Nat.mod_lt _ hp
        have e := hw (k / mH M) (k % mH M) kn kj
        rw [Nat.div_add_mod'] at e
        have HB := cl_hdB_28_b (I := I) (F := G4) (s := s) ⟨hm, hs, h60, e5, em5, bk, bq⟩ kn
        refine ⟨?_, ?_⟩
        · rw [e, gk, gv]
          exact pAt_ext hm kn kj (fun a j ha hj => pKc_Wr wle (by omega)) (fun a j ha hj => pKc_Wr wle (by omega)) (fun k hk => (g21 k hk).1)
        · rw [e]
          refine pAt_B ⟨by omega, hc.2⟩ HB.1 (fun t => ?_)
          have := (HB.2.1 t _ kj).2
          exact bv _ (by rw [← Nat.add_assoc]; exact this)) ((funext fun k => D 28 k (by decide) (by decide)).trans gk) (fun k hk => by rw [D 28 k (by decide) (by decide)]; exact bk k hk) ((funext fun k => D 31 k (by decide) (by decide)).trans gv) (fun k hk => by rw [D 31 k (by decide) (by decide)]; exact bv k hk)
      refine XC.block [119, 193] 60 ?_
      refine And.intro v1 ?_
      exact And.intro (fun _ => k _ _ _ _) (fun z => absurd (show I 52 1 ≤ x5 by rw [e1, hx5]; exact nI_le (by omega) (by omega)) z)
    | succ u ih =>
      intro n hn G D hw x5 hx5 y6 y7 y8
      have hlt : ¬ I 52 1 ≤ x5 := by rw [e1, hx5]; exact nI_ge (by omega) (by omega)
      have nl : n < mFa M 1 := by omega
      have x51 : x5 + 1 = nI (n + 1) := by rw [hx5, nI_1]
      have eow : x5 * I 51 5 = nI (n * mH M) := by rw [hx5, em5, nI_mul]
      have esh : x5 / I 51 6 * I 51 5 = nI (n / (mFa M 1 / mFa M 2) * mH M) := by rw [hx5, em6, em5, pk_div (by omega) gpos (by omega), nI_mul]
      have gK : G 28 = G4 28 := funext fun k => D 28 k (by decide) (by decide)
      have gV : G 31 = G4 31 := funext fun k => D 31 k (by decide) (by decide)
      have g21' : G 21 = G4 21 := funext fun k => D 21 k (by decide) (by decide)
      have HC : clHc_28_b M s I G := ⟨hm, hs, h60, e5, em5, by rw [gK]; exact bk, by rw [g21']; exact bq⟩
      have HB := cl_hdB_28_b HC nl
      have c168 : ∀ o6 o7, o6 = nI (n * mH M) → o7 = nI (n / (mFa M 1 / mFa M 2) * mH M) → ∀ G1, fO 25 G G1 → (∀ t, t < aCn s (mFa M 5) → G1 25 t = pEz (pZt M s (pKc (G 28)) (G 21) n) (aCn s (mFa M 5)) t) → ∀ e, e = pS (pEz (pZt M s (pKc (G 28)) (G 21) n) (aCn s (mFa M 5))) (aCn s (mFa M 5)) → XC xE0 (d + 3) xM_122 (168, [some (.ref 18), some (.ref 51), some (.int 0), some (.int pt), some (.int hr), some (.int x5), some (.int o6), some (.int o7), y8], [.float e], (shG X (md2 T), I, L, G1)) Q := by
        intro o6 o7 h6 h7 G1 D1 hz e he
        have g1V : G1 31 = G4 31 := (D1.fn (by decide)).trans gV
        refine XC.block [119] 60 ?_
        refine And.intro vl ?_
        refine cl_mix_31_b hm hs h60 e5 em5 nl HB.1 (by rw [g1V]; exact bv) hz he h6 h7 (fun G2 D2 g2 => ?_)
        refine ih (n + 1) (by omega) G2 (fun b k b1 b2 => (D2 b k b1).trans ((D1 b k b2).trans (D b k b1 b2))) (fun n' j hn' hj => ?_) _ x51 _ _ _
        rw [g2]
        rcases Nat.lt_or_ge n' n with y | y
        · have : (n' + 1) * mH M ≤ n * mH M := Nat.mul_le_mul_right _ y
          rw [Nat.succ_mul n' (mH M)] at this
          unfold pWr
          rw [if_neg (by omega), D1 22 _ (by decide)]
          exact hw n' j y hj
        · have : n' = n := by omega
          subst this
          rw [pWr_in hj, g1V, gK, g21']
          rfl
      refine XC.block [119, 168] 60 ?_
      refine And.intro v1 ?_
      refine And.intro (fun z => absurd z hlt) (fun _ => ?_)
      refine And.intro nz6 ?_
      refine And.intro vl ?_
      refine cl_weigh_28_b HC nl eow esh (fun G1 D1 hz e he => ?_)
      exact c168 _ _ eow esh G1 D1 hz e he
  -- the rows
  have c10 : ∀ hr, hr = nI (16 * (s % mFa M 5)) → XC xE0 (d + 3) xM_122 (10, [some (.ref 18), some (.ref 51), some (.int 0), some (.int pt), some (.int hr), none, none, none, none], [], (shG X (md2 T), I, L, F)) Q := by
    intro hr ehr
    have c81 : ∀ (Gd : Nat → Nat → UInt32), (∀ b k, b ≠ 20 → b ≠ 21 → b ≠ 28 → b ≠ 31 → Gd b k = F b k) → (∀ k, k < mFa M 0 → Gd 21 k = pMv M (3 + 9 * 0 + 1) (pY1 M 0 (F 19)) k ∧ fB 172 (Gd 21 k)) → (∀ k, k < mKw M → Gd 28 (16 * (s % mFa M 5) + k) = pMv M (3 + 9 * 0 + 2) (pY1 M 0 (F 19)) k ∧ fB 172 (Gd 28 (16 * (s % mFa M 5) + k))) → (∃ N, Gd 28 = pWr (16 * (s % mFa M 5)) (mKw M) (F 28) N) → Gd 31 = pWr (16 * (s % mFa M 5)) (mKw M) (F 31) (pV1 M 0 (F 19)) → (∀ k, k < 128 → fB 172 (Gd 31 k)) → XC xE0 (d + 3) xM_122 (81, [some (.ref 18), some (.ref 51), some (.int 0), some (.int pt), some (.int hr), none, none, none, none], [], (shG X (md2 T), I, L, Gd)) Q := by
      intro Gd Dd q1 k1 ⟨N, kN⟩ vv bv
      have Md : clMd_b M I L Gd := hM.fl (fun b k hb => Dd b k (by omega) (by omega) (by omega) (by omega))
      refine XC.block [119] 60 ?_
      refine And.intro v1 ?_
      refine cl_turn_21_b (s := s) Md hm (by omega) h60 (N := mFa M 1) (p := 0) (by rw [dh]; omega) (by omega) (fun k hk => by rw [Nat.zero_add]; exact (q1 k (by rw [dh] at hk; exact hk)).2) rfl e1 (fun Ge De te => ?_)
      have Me : clMd_b M I L Ge := Md.fl (fun b k hb => De b k (by omega))
      refine And.intro vl ?_
      refine And.intro v2 ?_
      have eK : Ge 28 = Gd 28 := De.fn (by decide)
      refine cl_turn_28_b (s := s) Me hm (by omega) h60 (N := mFa M 2) (p := 16 * (s % mFa M 5)) (by rw [kw]; omega) (by omega) (fun k hk => by rw [eK]; exact (k1 k (by rw [kw] at hk; exact hk)).2) ehr e2 (fun Gf Df tf => ?_)
      rw [dh] at te
      rw [kw, eK, kN, pWr_Wr, ← kN] at tf
      have fk : Gf 28 = pWr (16 * (s % mFa M 5)) (mKw M) (F 28) (pK1 M 0 s (F 19)) := tf.trans (pWr_ext (fun j hj => pTn_ext kw2 (fun k hk => (k1 k hk).1) hj))
      refine c119 hr Gf (fun b k b1 b2 b3 b4 => (Df b k b3).trans ((De b k b2).trans (Dd b k b1 b2 b3 b4))) (fun k hk => ?_) fk ?_ ?_ ?_ (mFa M 1) 0 (Nat.zero_add _) Gf (fun _ _ _ _ => rfl) (fun n' j hn' => absurd hn' (Nat.not_lt_zero _)) _ rfl _ _ _
      · rw [Df 21 k (by decide), te, pWr_i0 hk]
        refine ⟨?_, ?_⟩
        · exact pTn_ext d2 (fun k hk => by rw [Nat.zero_add]; exact (q1 k hk).1) hk
        · exact pTn_B hb (by omega) hh d2 (fun k hk => by rw [Nat.zero_add]; exact (q1 k hk).2) k hk
      · rw [tf]; exact pWr_B hK (fun j hj => pTn_B hb (by omega) hh kw2 (fun k hk => (k1 k hk).2) j hj)
      · exact (Df.fn (by decide)).trans ((De.fn (by decide)).trans vv)
      · rw [Df.fn (by decide), De.fn (by decide)]; exact bv
    refine XC.block [81] 60 ?_
    refine cl_norm_b hM hm (qo 0 (by decide)) (cd 0 (by decide)) (ro 0 (by decide)) hX0 (ep 0 0 rfl) (fun Ga Da ga ba => ?_)
    have Ma : clMd_b M I L Ga := hM.fl (fun b k hb => Da b k (by omega))
    refine cl_mul_20_21_b Ma hm (qo 1 (by decide)) (b := 161) (k := 168) (p := 0) (fun j hj => ba j (by rw [cd 1 (by decide)] at hj; exact hj)) (by decide) (by decide) (by decide) (by decide) (by rw [ro 1 (by decide)]; show 0 + mFa M 0 ≤ 16; omega) (ep 1 1 rfl) rfl (fun Gb Db gb => ?_)
    have Mb : clMd_b M I L Gb := Ma.fl (fun b k hb => Db b k (by omega))
    have yb : Gb 20 = Ga 20 := Db.fn (by decide)
    refine And.intro vl ?_
    refine cl_mul_20_28_b Mb hm (qo 2 (by decide)) (b := 161) (k := 168) (p := 16 * (s % mFa M 5)) (fun j hj => by rw [yb]; exact ba j (by rw [cd 2 (by decide)] at hj; exact hj)) (by decide) (by decide) (by decide) (by decide) (by rw [ro 2 (by decide)]; show 16 * (s % mFa M 5) + mKw M ≤ 128; omega) (ep 2 2 rfl) ehr (fun Gc Dc gc => ?_)
    have Mc : clMd_b M I L Gc := Mb.fl (fun b k hb => Dc b k (by omega))
    have yc : Gc 20 = Ga 20 := (Dc.fn (by decide)).trans yb
    refine And.intro vl ?_
    refine cl_mul_20_31_b Mc hm (qo 3 (by decide)) (b := 161) (k := 168) (p := 16 * (s % mFa M 5)) (fun j hj => by rw [yc]; exact ba j (by rw [cd 3 (by decide)] at hj; exact hj)) (by decide) (by decide) (by decide) (by decide) (by rw [ro 3 (by decide)]; show 16 * (s % mFa M 5) + mKw M ≤ 128; omega) (ep 3 3 rfl) ehr (fun Gd Dd gd => ?_)
    have mb : ∀ o i, o < 8 → i < mRq M (3 + 9 * 0 + o) → fB 172 (pMv M (3 + 9 * 0 + o) (Ga 20) i) := fun o i ho hi => pMv_B hm (k := 168) (qo o (by omega)) hi (b := 161) (fun j hj => ba j (by rw [cd o ho] at hj; exact hj)) (by decide) (by decide) (by decide) (by decide)
    have me : ∀ o i, o < 8 → pMv M (3 + 9 * 0 + o) (Ga 20) i = pMv M (3 + 9 * 0 + o) (pY1 M 0 (F 19)) i := fun o i ho => pMv_e hm (qo o (by omega)) (fun j hj => ga j (by rw [cd o ho] at hj; exact hj))
    rw [ro 1 (by decide)] at gb
    rw [ro 2 (by decide), yb] at gc
    rw [ro 3 (by decide), yc] at gd
    have gb : Gb 21 = pWr 0 (mFa M 0) (Ga 21) (pMv M (3 + 9 * 0 + 1) (Ga 20)) := gb
    have gc : Gc 28 = pWr (16 * (s % mFa M 5)) (mKw M) (Gb 28) (pMv M (3 + 9 * 0 + 2) (Ga 20)) := gc
    have gd : Gd 31 = pWr (16 * (s % mFa M 5)) (mKw M) (Gc 31) (pMv M (3 + 9 * 0 + 3) (Ga 20)) := gd
    have kF : Gb 28 = F 28 := (Db.fn (by decide)).trans (Da.fn (by decide))
    have vF : Gc 31 = F 31 := (Dc.fn (by decide)).trans ((Db.fn (by decide)).trans (Da.fn (by decide)))
    rw [kF] at gc
    rw [vF] at gd
    refine c81 Gd (fun b k b1 b2 b3 b4 => (Dd b k b4).trans ((Dc b k b3).trans ((Db b k b2).trans (Da b k b1)))) (fun k hk => ?_) (fun k hk => ?_) ⟨_, (Dd.fn (by decide)).trans gc⟩ (gd.trans (pWr_ext (fun j _ => me 3 j (by decide)))) ?_
    · rw [Dd 21 k (by decide), Dc 21 k (by decide), gb, pWr_i0 hk]
      exact ⟨me 1 k (by decide), mb 1 k (by decide) (by rw [ro 1 (by decide)]; exact hk)⟩
    · rw [Dd 28 _ (by decide), gc, pWr_in hk]
      exact ⟨me 2 k (by decide), mb 2 k (by decide) (by rw [ro 2 (by decide)]; exact hk)⟩
    · rw [gd]; exact pWr_B hV (fun j hj => mb 3 j (by decide) (by rw [ro 3 (by decide)]; exact hj))
  refine XC.block [10] 60 ?_
  refine cl_placeOf_b e5 hm (p := s) (by omega) h60 (fun v hv => ?_)
  exact c10 v hv
theorem cl_attend_1_b (hM : clMd_b M I L F) (hm : mGd M) (hl : 1 < mFa M 3) {s : Nat} (hs : s < 60) (h60 : I 18 10 = nI s) (hK : ∀ k, k < 128 → fB 182 (F 29 k)) (hV : ∀ k, k < 128 → fB 172 (F 32 k)) (hX : ∀ j, j < mFa M 0 → fB (206 + 2 * 1) (F 19 j)) {pt : Int32} (hpt : pt = nI (3 + 9 * 1))
    (hQ : ∀ G, (∀ b k, b ≠ 19 → b ≠ 20 → b ≠ 21 → b ≠ 22 → b ≠ 25 → b ≠ 29 → b ≠ 32 → G b k = F b k) → (∀ i, i < mFa M 0 → G 19 i = pX1 M 1 s (pKc (F 29)) (pKc (F 32)) (F 19) i ∧ fB (207 + 2 * 1) (G 19 i)) → G 29 = pWr (16 * (s % mFa M 5)) (mKw M) (F 29) (pK1 M 1 s (F 19)) → (∀ k, k < 128 → fB 182 (G 29 k)) → G 32 = pWr (16 * (s % mFa M 5)) (mKw M) (F 32) (pV1 M 1 (F 19)) → (∀ k, k < 128 → fB 172 (G 32 k)) → Q none (shG X (md2 T), I, L, G)) : XM xE0 (d + 3) 122 [.ref 18, .ref 51, .int 1, .int pt] (shG X (md2 T), I, L, F) Q := by
  obtain ⟨hh, hh1, hh2, hh3, hh4⟩ := mHs hm
  obtain ⟨kw2, d2, kw, dh, hp⟩ := mKe hm
  have h0 := hm.1.1
  have h1 := hm.1.2.1
  have h2' := hm.1.2.2.1
  have h3 := hm.1.2.2.2.1
  have hc := hm.1.2.2.2.2.2.1
  have wle : mKw M ≤ 16 := by rw [← hh4]; omega
  have sl8 : s % mFa M 5 < 8 := Nat.lt_of_lt_of_le (Nat.mod_lt _ (by omega)) hc.2
  have hb := hm.2.2.2.1.2
  have qo : ∀ o, o < 9 → 3 + 9 * 1 + o < 3 + 9 * mFa M 3 := fun o ho => by omega
  have cd : ∀ o, o < 8 → mCq M (3 + 9 * 1 + o) = mFa M 0 := fun o ho => (mCq_l (by omega)).trans (if_neg (by omega))
  have ro : ∀ o, o < 9 → mRq M (3 + 9 * 1 + o) = [1, mFa M 0, mKw M, mKw M, mFa M 0, 1, mFa M 4, mFa M 4, mFa M 0].getD o 0 := fun o ho => mRq_l ho
  have ep : ∀ o, ∀ oo : Int32, oo = nI o → pt + oo = nI (3 + 9 * 1 + o) := fun o oo ho => by rw [hpt, ho, nI_add]
  have e1 : I 52 1 = nI (mFa M 1) := hM.1 1 (by decide)
  have e2 : I 52 2 = nI (mFa M 2) := hM.1 2 (by decide)
  have e5 : I 52 5 = nI (mFa M 5) := hM.1 5 (by decide)
  have em5 : I 51 5 = nI (mH M) := hM.2.2.2.1.1
  have em6 : I 51 6 = nI (mFa M 1 / mFa M 2) := hM.2.2.2.1.2
  have v1 : vp_in (1 : Int32) 12 := rf_in (j := 1) rfl (by decide) (by decide)
  have v2 : vp_in (2 : Int32) 12 := rf_in (j := 2) rfl (by decide) (by decide)
  have vl : vp_in (1 : Int32) 2 := rf_in (j := 1) rfl (by decide) (by decide)
  have gpos : 0 < mFa M 1 / mFa M 2 := Nat.div_pos hh2 h2'.1
  have gle : mFa M 1 / mFa M 2 ≤ 4 := Nat.le_trans (Nat.div_le_self _ _) (by omega)
  have nz6 : ¬ I 51 6 = 0 := by rw [em6]; exact nI_ne0 gpos (by omega)
  have hX0 : ∀ j, j < mFa M 0 → fB 210 (F 19 j) := fun j hj => (hX j hj).mono (by omega)
  -- the heads
  have c193 : ∀ (hr : Int32) (G5 : Nat → Nat → UInt32), (∀ b k, b ≠ 20 → b ≠ 21 → b ≠ 22 → b ≠ 25 → b ≠ 29 → b ≠ 32 → G5 b k = F b k) → (∀ k, k < mFa M 0 → G5 22 k = pW1 M 1 s (pKc (F 29)) (pKc (F 32)) (F 19) k ∧ fB 176 (G5 22 k)) → G5 29 = pWr (16 * (s % mFa M 5)) (mKw M) (F 29) (pK1 M 1 s (F 19)) → (∀ k, k < 128 → fB 182 (G5 29 k)) → G5 32 = pWr (16 * (s % mFa M 5)) (mKw M) (F 32) (pV1 M 1 (F 19)) → (∀ k, k < 128 → fB 172 (G5 32 k)) → ∀ x5 y6 y7 y8, XC xE0 (d + 3) xM_122 (193, [some (.ref 18), some (.ref 51), some (.int 1), some (.int pt), some (.int hr), some (.int x5), y6, y7, y8], [], (shG X (md2 T), I, L, G5)) Q := by
    intro hr G5 D5 g22 gk bk gv bv x5 y6 y7 y8
    have M5 : clMd_b M I L G5 := hM.fl (fun b k hb => D5 b k (by omega) (by omega) (by omega) (by omega) (by omega) (by omega))
    have x5e : G5 19 = F 19 := funext fun k => D5 19 k (by decide) (by decide) (by decide) (by decide) (by decide) (by decide)
    refine XC.block [] 60 ?_
    refine cl_add_22_b M5 hm (qo 4 (by decide)) (ro 4 (by decide)) (b := 176) (k := 183) (c := 206 + 2 * 1) (k' := 207 + 2 * 1) (fun j hj => (g22 j (by rw [cd 4 (by decide)] at hj; exact hj)).2) (by decide) (by decide) (by decide) (by decide) (by rw [x5e]; exact hX) (by omega) (by omega) (by omega) (ep 4 4 rfl) (fun G6 D6 g6 => ?_)
    refine ⟨trivial, hQ G6 (fun b k b1 b2 b3 b4 b5 b6 b7 => (D6 b k b1).trans (D5 b k b2 b3 b4 b5 b6 b7)) (fun i hi => ?_) ((D6.fn (by decide)).trans gk) (by rw [D6.fn (by decide)]; exact bk) ((D6.fn (by decide)).trans gv) (by rw [D6.fn (by decide)]; exact bv)⟩
    refine ⟨?_, (g6 i hi).2⟩
    rw [(g6 i hi).1, x5e]
    unfold pX1
    congr 1
    exact pMv_e hm (qo 4 (by decide)) (fun j hj => (g22 j (by rw [cd 4 (by decide)] at hj; exact hj)).1)
  have c119 : ∀ (hr : Int32) (G4 : Nat → Nat → UInt32), (∀ b k, b ≠ 20 → b ≠ 21 → b ≠ 29 → b ≠ 32 → G4 b k = F b k) → (∀ k, k < mFa M 0 → G4 21 k = pQ1 M 1 s (F 19) k ∧ fB 182 (G4 21 k)) → G4 29 = pWr (16 * (s % mFa M 5)) (mKw M) (F 29) (pK1 M 1 s (F 19)) → (∀ k, k < 128 → fB 182 (G4 29 k)) → G4 32 = pWr (16 * (s % mFa M 5)) (mKw M) (F 32) (pV1 M 1 (F 19)) → (∀ k, k < 128 → fB 172 (G4 32 k)) → ∀ (u n : Nat), n + u = mFa M 1 → ∀ G, (∀ b k, b ≠ 22 → b ≠ 25 → G b k = G4 b k) → (∀ n' j, n' < n → j < mH M → G 22 (n' * mH M + j) = pAt M s (pKc (G4 29)) (pKc (G4 32)) (G4 21) n' j) → ∀ x5, x5 = nI n → ∀ y6 y7 y8, XC xE0 (d + 3) xM_122 (119, [some (.ref 18), some (.ref 51), some (.int 1), some (.int pt), some (.int hr), some (.int x5), y6, y7, y8], [], (shG X (md2 T), I, L, G)) Q := by
    intro hr G4 D4 g21 gk bk gv bv u
    have bq : ∀ k, k < mFa M 0 → fB 182 (G4 21 k) := fun k hk => (g21 k hk).2
    induction u with
    | zero =>
      intro n hn G D hw x5 hx5 y6 y7 y8
      have : n = mFa M 1 := by omega
      subst this
      have k := c193 hr G (fun b k b1 b2 b3 b4 b5 b6 => (D b k b3 b4).trans (D4 b k b1 b2 b5 b6)) (fun k hk => by
        have kn : k / mH M < mFa M 1 := Nat.div_lt_of_lt_mul (by rw [Nat.mul_comm, dh]; exact hk)
        have kj : k % mH M < mH M := Nat.mod_lt _ hp
        have e := hw (k / mH M) (k % mH M) kn kj
        rw [Nat.div_add_mod'] at e
        have HB := cl_hdB_29_b (I := I) (F := G4) (s := s) ⟨hm, hs, h60, e5, em5, bk, bq⟩ kn
        refine ⟨?_, ?_⟩
        · rw [e, gk, gv]
          exact pAt_ext hm kn kj (fun a j ha hj => pKc_Wr wle (by omega)) (fun a j ha hj => pKc_Wr wle (by omega)) (fun k hk => (g21 k hk).1)
        · rw [e]
          refine pAt_B ⟨by omega, hc.2⟩ HB.1 (fun t => ?_)
          have := (HB.2.1 t _ kj).2
          exact bv _ (by rw [← Nat.add_assoc]; exact this)) ((funext fun k => D 29 k (by decide) (by decide)).trans gk) (fun k hk => by rw [D 29 k (by decide) (by decide)]; exact bk k hk) ((funext fun k => D 32 k (by decide) (by decide)).trans gv) (fun k hk => by rw [D 32 k (by decide) (by decide)]; exact bv k hk)
      refine XC.block [119, 193] 60 ?_
      refine And.intro v1 ?_
      exact And.intro (fun _ => k _ _ _ _) (fun z => absurd (show I 52 1 ≤ x5 by rw [e1, hx5]; exact nI_le (by omega) (by omega)) z)
    | succ u ih =>
      intro n hn G D hw x5 hx5 y6 y7 y8
      have hlt : ¬ I 52 1 ≤ x5 := by rw [e1, hx5]; exact nI_ge (by omega) (by omega)
      have nl : n < mFa M 1 := by omega
      have x51 : x5 + 1 = nI (n + 1) := by rw [hx5, nI_1]
      have eow : x5 * I 51 5 = nI (n * mH M) := by rw [hx5, em5, nI_mul]
      have esh : x5 / I 51 6 * I 51 5 = nI (n / (mFa M 1 / mFa M 2) * mH M) := by rw [hx5, em6, em5, pk_div (by omega) gpos (by omega), nI_mul]
      have gK : G 29 = G4 29 := funext fun k => D 29 k (by decide) (by decide)
      have gV : G 32 = G4 32 := funext fun k => D 32 k (by decide) (by decide)
      have g21' : G 21 = G4 21 := funext fun k => D 21 k (by decide) (by decide)
      have HC : clHc_29_b M s I G := ⟨hm, hs, h60, e5, em5, by rw [gK]; exact bk, by rw [g21']; exact bq⟩
      have HB := cl_hdB_29_b HC nl
      have c168 : ∀ o6 o7, o6 = nI (n * mH M) → o7 = nI (n / (mFa M 1 / mFa M 2) * mH M) → ∀ G1, fO 25 G G1 → (∀ t, t < aCn s (mFa M 5) → G1 25 t = pEz (pZt M s (pKc (G 29)) (G 21) n) (aCn s (mFa M 5)) t) → ∀ e, e = pS (pEz (pZt M s (pKc (G 29)) (G 21) n) (aCn s (mFa M 5))) (aCn s (mFa M 5)) → XC xE0 (d + 3) xM_122 (168, [some (.ref 18), some (.ref 51), some (.int 1), some (.int pt), some (.int hr), some (.int x5), some (.int o6), some (.int o7), y8], [.float e], (shG X (md2 T), I, L, G1)) Q := by
        intro o6 o7 h6 h7 G1 D1 hz e he
        have g1V : G1 32 = G4 32 := (D1.fn (by decide)).trans gV
        refine XC.block [119] 60 ?_
        refine And.intro vl ?_
        refine cl_mix_32_b hm hs h60 e5 em5 nl HB.1 (by rw [g1V]; exact bv) hz he h6 h7 (fun G2 D2 g2 => ?_)
        refine ih (n + 1) (by omega) G2 (fun b k b1 b2 => (D2 b k b1).trans ((D1 b k b2).trans (D b k b1 b2))) (fun n' j hn' hj => ?_) _ x51 _ _ _
        rw [g2]
        rcases Nat.lt_or_ge n' n with y | y
        · have : (n' + 1) * mH M ≤ n * mH M := Nat.mul_le_mul_right _ y
          rw [Nat.succ_mul n' (mH M)] at this
          unfold pWr
          rw [if_neg (by omega), D1 22 _ (by decide)]
          exact hw n' j y hj
        · have : n' = n := by omega
          subst this
          rw [pWr_in hj, g1V, gK, g21']
          rfl
      refine XC.block [119, 168] 60 ?_
      refine And.intro v1 ?_
      refine And.intro (fun z => absurd z hlt) (fun _ => ?_)
      refine And.intro nz6 ?_
      refine And.intro vl ?_
      refine cl_weigh_29_b HC nl eow esh (fun G1 D1 hz e he => ?_)
      exact c168 _ _ eow esh G1 D1 hz e he
  -- the rows
  have c10 : ∀ hr, hr = nI (16 * (s % mFa M 5)) → XC xE0 (d + 3) xM_122 (10, [some (.ref 18), some (.ref 51), some (.int 1), some (.int pt), some (.int hr), none, none, none, none], [], (shG X (md2 T), I, L, F)) Q := by
    intro hr ehr
    have c81 : ∀ (Gd : Nat → Nat → UInt32), (∀ b k, b ≠ 20 → b ≠ 21 → b ≠ 29 → b ≠ 32 → Gd b k = F b k) → (∀ k, k < mFa M 0 → Gd 21 k = pMv M (3 + 9 * 1 + 1) (pY1 M 1 (F 19)) k ∧ fB 172 (Gd 21 k)) → (∀ k, k < mKw M → Gd 29 (16 * (s % mFa M 5) + k) = pMv M (3 + 9 * 1 + 2) (pY1 M 1 (F 19)) k ∧ fB 172 (Gd 29 (16 * (s % mFa M 5) + k))) → (∃ N, Gd 29 = pWr (16 * (s % mFa M 5)) (mKw M) (F 29) N) → Gd 32 = pWr (16 * (s % mFa M 5)) (mKw M) (F 32) (pV1 M 1 (F 19)) → (∀ k, k < 128 → fB 172 (Gd 32 k)) → XC xE0 (d + 3) xM_122 (81, [some (.ref 18), some (.ref 51), some (.int 1), some (.int pt), some (.int hr), none, none, none, none], [], (shG X (md2 T), I, L, Gd)) Q := by
      intro Gd Dd q1 k1 ⟨N, kN⟩ vv bv
      have Md : clMd_b M I L Gd := hM.fl (fun b k hb => Dd b k (by omega) (by omega) (by omega) (by omega))
      refine XC.block [119] 60 ?_
      refine And.intro v1 ?_
      refine cl_turn_21_b (s := s) Md hm (by omega) h60 (N := mFa M 1) (p := 0) (by rw [dh]; omega) (by omega) (fun k hk => by rw [Nat.zero_add]; exact (q1 k (by rw [dh] at hk; exact hk)).2) rfl e1 (fun Ge De te => ?_)
      have Me : clMd_b M I L Ge := Md.fl (fun b k hb => De b k (by omega))
      refine And.intro vl ?_
      refine And.intro v2 ?_
      have eK : Ge 29 = Gd 29 := De.fn (by decide)
      refine cl_turn_29_b (s := s) Me hm (by omega) h60 (N := mFa M 2) (p := 16 * (s % mFa M 5)) (by rw [kw]; omega) (by omega) (fun k hk => by rw [eK]; exact (k1 k (by rw [kw] at hk; exact hk)).2) ehr e2 (fun Gf Df tf => ?_)
      rw [dh] at te
      rw [kw, eK, kN, pWr_Wr, ← kN] at tf
      have fk : Gf 29 = pWr (16 * (s % mFa M 5)) (mKw M) (F 29) (pK1 M 1 s (F 19)) := tf.trans (pWr_ext (fun j hj => pTn_ext kw2 (fun k hk => (k1 k hk).1) hj))
      refine c119 hr Gf (fun b k b1 b2 b3 b4 => (Df b k b3).trans ((De b k b2).trans (Dd b k b1 b2 b3 b4))) (fun k hk => ?_) fk ?_ ?_ ?_ (mFa M 1) 0 (Nat.zero_add _) Gf (fun _ _ _ _ => rfl) (fun n' j hn' => absurd hn' (Nat.not_lt_zero _)) _ rfl _ _ _
      · rw [Df 21 k (by decide), te, pWr_i0 hk]
        refine ⟨?_, ?_⟩
        · exact pTn_ext d2 (fun k hk => by rw [Nat.zero_add]; exact (q1 k hk).1) hk
        · exact pTn_B hb (by omega) hh d2 (fun k hk => by rw [Nat.zero_add]; exact (q1 k hk).2) k hk
      · rw [tf]; exact pWr_B hK (fun j hj => pTn_B hb (by omega) hh kw2 (fun k hk => (k1 k hk).2) j hj)
      · exact (Df.fn (by decide)).trans ((De.fn (by decide)).trans vv)
      · rw [Df.fn (by decide), De.fn (by decide)]; exact bv
    refine XC.block [81] 60 ?_
    refine cl_norm_b hM hm (qo 0 (by decide)) (cd 0 (by decide)) (ro 0 (by decide)) hX0 (ep 0 0 rfl) (fun Ga Da ga ba => ?_)
    have Ma : clMd_b M I L Ga := hM.fl (fun b k hb => Da b k (by omega))
    refine cl_mul_20_21_b Ma hm (qo 1 (by decide)) (b := 161) (k := 168) (p := 0) (fun j hj => ba j (by rw [cd 1 (by decide)] at hj; exact hj)) (by decide) (by decide) (by decide) (by decide) (by rw [ro 1 (by decide)]; show 0 + mFa M 0 ≤ 16; omega) (ep 1 1 rfl) rfl (fun Gb Db gb => ?_)
    have Mb : clMd_b M I L Gb := Ma.fl (fun b k hb => Db b k (by omega))
    have yb : Gb 20 = Ga 20 := Db.fn (by decide)
    refine And.intro vl ?_
    refine cl_mul_20_29_b Mb hm (qo 2 (by decide)) (b := 161) (k := 168) (p := 16 * (s % mFa M 5)) (fun j hj => by rw [yb]; exact ba j (by rw [cd 2 (by decide)] at hj; exact hj)) (by decide) (by decide) (by decide) (by decide) (by rw [ro 2 (by decide)]; show 16 * (s % mFa M 5) + mKw M ≤ 128; omega) (ep 2 2 rfl) ehr (fun Gc Dc gc => ?_)
    have Mc : clMd_b M I L Gc := Mb.fl (fun b k hb => Dc b k (by omega))
    have yc : Gc 20 = Ga 20 := (Dc.fn (by decide)).trans yb
    refine And.intro vl ?_
    refine cl_mul_20_32_b Mc hm (qo 3 (by decide)) (b := 161) (k := 168) (p := 16 * (s % mFa M 5)) (fun j hj => by rw [yc]; exact ba j (by rw [cd 3 (by decide)] at hj; exact hj)) (by decide) (by decide) (by decide) (by decide) (by rw [ro 3 (by decide)]; show 16 * (s % mFa M 5) + mKw M ≤ 128; omega) (ep 3 3 rfl) ehr (fun Gd Dd gd => ?_)
    have mb : ∀ o i, o < 8 → i < mRq M (3 + 9 * 1 + o) → fB 172 (pMv M (3 + 9 * 1 + o) (Ga 20) i) := fun o i ho hi => pMv_B hm (k := 168) (qo o (by omega)) hi (b := 161) (fun j hj => ba j (by rw [cd o ho] at hj; exact hj)) (by decide) (by decide) (by decide) (by decide)
    have me : ∀ o i, o < 8 → pMv M (3 + 9 * 1 + o) (Ga 20) i = pMv M (3 + 9 * 1 + o) (pY1 M 1 (F 19)) i := fun o i ho => pMv_e hm (qo o (by omega)) (fun j hj => ga j (by rw [cd o ho] at hj; exact hj))
    rw [ro 1 (by decide)] at gb
    rw [ro 2 (by decide), yb] at gc
    rw [ro 3 (by decide), yc] at gd
    have gb : Gb 21 = pWr 0 (mFa M 0) (Ga 21) (pMv M (3 + 9 * 1 + 1) (Ga 20)) := gb
    have gc : Gc 29 = pWr (16 * (s % mFa M 5)) (mKw M) (Gb 29) (pMv M (3 + 9 * 1 + 2) (Ga 20)) := gc
    have gd : Gd 32 = pWr (16 * (s % mFa M 5)) (mKw M) (Gc 32) (pMv M (3 + 9 * 1 + 3) (Ga 20)) := gd
    have kF : Gb 29 = F 29 := (Db.fn (by decide)).trans (Da.fn (by decide))
    have vF : Gc 32 = F 32 := (Dc.fn (by decide)).trans ((Db.fn (by decide)).trans (Da.fn (by decide)))
    rw [kF] at gc
    rw [vF] at gd
    refine c81 Gd (fun b k b1 b2 b3 b4 => (Dd b k b4).trans ((Dc b k b3).trans ((Db b k b2).trans (Da b k b1)))) (fun k hk => ?_) (fun k hk => ?_) ⟨_, (Dd.fn (by decide)).trans gc⟩ (gd.trans (pWr_ext (fun j _ => me 3 j (by decide)))) ?_
    · rw [Dd 21 k (by decide), Dc 21 k (by decide), gb, pWr_i0 hk]
      exact ⟨me 1 k (by decide), mb 1 k (by decide) (by rw [ro 1 (by decide)]; exact hk)⟩
    · rw [Dd 29 _ (by decide), gc, pWr_in hk]
      exact ⟨me 2 k (by decide), mb 2 k (by decide) (by rw [ro 2 (by decide)]; exact hk)⟩
    · rw [gd]; exact pWr_B hV (fun j hj => mb 3 j (by decide) (by rw [ro 3 (by decide)]; exact hj))
  refine XC.block [10] 60 ?_
  refine cl_placeOf_b e5 hm (p := s) (by omega) h60 (fun v hv => ?_)
  exact c10 v hv
end NED_b
