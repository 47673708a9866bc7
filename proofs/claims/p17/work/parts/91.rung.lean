/-! a step: as functions; of the reference on paper -/
theorem pKv_Wr2 {M : pMd} {l s : Nat} {R N : Nat → UInt32} (hw : mKw M ≤ 16) {a j : Nat} (hj : j < 16) : pKv l (pWr (128 * l + 16 * (s % mFa M 5)) (mKw M) R N) a j = pKn M s (pKv l R) N a j := by
  unfold pKv pKn pWr
  rcases Nat.lt_trichotomy a (s % mFa M 5) with y | y | y
  · rw [if_neg (by omega), if_neg (by omega)]
  · subst y
    rcases Nat.lt_or_ge j (mKw M) with z | z
    · rw [if_pos (by omega), if_pos ⟨rfl, z⟩, Nat.add_sub_cancel_left]
    · rw [if_neg (by omega), if_neg (by omega)]
  · rw [if_neg (by omega), if_neg (by omega)]
theorem pKv_Wr3 {M : pMd} {l l' s : Nat} {R N : Nat → UInt32} (hw : mKw M ≤ 16) (hs : s % mFa M 5 < 8) (hl : l' ≠ l) {a j : Nat} (ha : a < 8) (hj : j < 16) : pKv l' (pWr (128 * l + 16 * (s % mFa M 5)) (mKw M) R N) a j = pKv l' R a j := by
  unfold pKv pWr
  rw [if_neg (by omega)]
/-- a POSITION's row after l layers -/
def pLx (M : pMd) (s : Nat) (K V : Nat → Nat → Nat → UInt32) (X : Nat → UInt32) : Nat → Nat → UInt32
  | 0 => X
  | l + 1 => pX2 M l (pX1 M l s (K l) (V l) (pLx M s K V X l))
/-- a TOKEN's row -/
def pX0 (M : pMd) (t : Nat) (j : Nat) : UInt32 := mWt M (mNd M 0) (t * mFa M 0 + j)
/-- what is remembered after a step -/
def pKs (M : pMd) (s t : Nat) (K V : Nat → Nat → Nat → UInt32) (l a j : Nat) : UInt32 := if l < mFa M 3 then pKn M s (K l) (pK1 M l s (pLx M s K V (pX0 M t) l)) a j else K l a j
def pVs (M : pMd) (s t : Nat) (K V : Nat → Nat → Nat → UInt32) (l a j : Nat) : UInt32 := if l < mFa M 3 then pKn M s (V l) (pV1 M l (pLx M s K V (pX0 M t) l)) a j else V l a j
/-- the LOGITS after a step -/
def pLo (M : pMd) (s t : Nat) (K V : Nat → Nat → Nat → UInt32) (i : Nat) : UInt32 := pMv M 2 (pNo M 1 (pLx M s K V (pX0 M t) (mFa M 3))) i
/-- the reference's rows hold what is remembered -/
def rfKV (K V : Nat → Nat → Nat → UInt32) (F : Nat → Nat → UInt32) : Prop := (∀ k, k < 256 → fB 182 (F 41 k)) ∧ (∀ k, k < 256 → fB 172 (F 42 k)) ∧ ∀ l a j, l < 2 → a < 8 → j < 16 → pKv l (F 41) a j = K l a j ∧ pKv l (F 42) a j = V l a j
theorem pV1_ext {M : pMd} (hm : mGd M) {l : Nat} (hl : l < mFa M 3) {X X' : Nat → UInt32} (h : ∀ j, j < mFa M 0 → X j = X' j) (i : Nat) : pV1 M l X i = pV1 M l X' i := pMv_e hm (by omega) (fun j hj => pNo_ext h (by rw [mCq_l (by decide), if_neg (by decide)] at hj; exact hj))
theorem pK1_ext {M : pMd} (hm : mGd M) {l s : Nat} (hl : l < mFa M 3) {X X' : Nat → UInt32} (h : ∀ j, j < mFa M 0 → X j = X' j) (k : Nat) : pK1 M l s X k = pK1 M l s X' k := by
  have e : pMv M (3 + 9 * l + 2) (pY1 M l X) = pMv M (3 + 9 * l + 2) (pY1 M l X') := funext fun i => pMv_e hm (by omega) (fun j hj => pNo_ext h (by rw [mCq_l (by decide), if_neg (by decide)] at hj; exact hj))
  unfold pK1
  rw [e]
theorem pQ1_ext {M : pMd} (hm : mGd M) {l s : Nat} (hl : l < mFa M 3) {X X' : Nat → UInt32} (h : ∀ j, j < mFa M 0 → X j = X' j) (k : Nat) : pQ1 M l s X k = pQ1 M l s X' k := by
  have e : pMv M (3 + 9 * l + 1) (pY1 M l X) = pMv M (3 + 9 * l + 1) (pY1 M l X') := funext fun i => pMv_e hm (by omega) (fun j hj => pNo_ext h (by rw [mCq_l (by decide), if_neg (by decide)] at hj; exact hj))
  unfold pQ1
  rw [e]
theorem pX1_ext {M : pMd} (hm : mGd M) {l s : Nat} (hl : l < mFa M 3) {X X' : Nat → UInt32} {K K' V V' : Nat → Nat → UInt32} (h : ∀ j, j < mFa M 0 → X j = X' j) (hK : ∀ a j, a < mFa M 5 → j < mKw M → K a j = K' a j) (hV : ∀ a j, a < mFa M 5 → j < mKw M → V a j = V' a j) {i : Nat} (hi : i < mFa M 0) : pX1 M l s K V X i = pX1 M l s K' V' X' i := by
  obtain ⟨kw2, d2, kw, dh, hp⟩ := mKe hm
  unfold pX1
  rw [h i hi]
  congr 1
  refine pMv_e hm (by omega) (fun k hk => ?_)
  rw [mCq_l (by decide), if_neg (by decide)] at hk
  have kn : k / mH M < mFa M 1 := Nat.div_lt_of_lt_mul (by rw [Nat.mul_comm, dh]; exact hk)
  refine pAt_ext hm kn (Nat.mod_lt _ hp) (fun a j ha hj => ?_) (fun a j ha hj => ?_) (fun k _ => pQ1_ext hm hl h k)
  · unfold pKn
    split
    · exact pK1_ext hm hl h j
    · exact hK a j ha hj
  · unfold pKn
    split
    · exact pV1_ext hm hl h j
    · exact hV a j ha hj
theorem pX2_ext {M : pMd} (hm : mGd M) {l : Nat} (hl : l < mFa M 3) {X X' : Nat → UInt32} (h : ∀ j, j < mFa M 0 → X j = X' j) {i : Nat} (hi : i < mFa M 0) : pX2 M l X i = pX2 M l X' i := by
  unfold pX2
  rw [h i hi]
  congr 1
  refine pMv_e hm (by omega) (fun k hk => ?_)
  have n : ∀ j, j < mFa M 0 → pNo M (3 + 9 * l + 5) X j = pNo M (3 + 9 * l + 5) X' j := fun j hj => pNo_ext h hj
  unfold pG1
  rw [pMv_e hm (q := 3 + 9 * l + 6) (by omega) (fun j hj => n j (by rw [mCq_l (by decide), if_neg (by decide)] at hj; exact hj)), pMv_e hm (q := 3 + 9 * l + 7) (by omega) (fun j hj => n j (by rw [mCq_l (by decide), if_neg (by decide)] at hj; exact hj))]
section RUG
variable {M : pMd} {I J : Nat → Nat → Int32} {L : Nat → Nat → Int64} {F G : Nat → Nat → UInt32} {d : Nat} {Q : xP}
theorem rf_st94 (hm : mGd M) {s t : Nat} {K V : Nat → Nat → Nat → UInt32} (hs : s < 60) (h60 : I 0 60 = nI s) (hKV : rfKV K V F) {aa : Int32}
    (next : ∀ G, rfNt F G → rfMd M I G → rfKV (pKs M s t K V) (pVs M s t K V) G → (∀ i, i < mFa M 0 → G 32 i = pLx M s K V (pX0 M t) (mFa M 3) i ∧ fB 210 (G 32 i)) → ∀ x2', XC xE0 (d + 4) xM_69 (115, [some (.ref 0), some (.int aa), some (.int x2')], [], (sh2, I, L, G)) Q) :
    ∀ (u l : Nat), l + u = mFa M 3 → ∀ G, rfNt F G → rfMd M I G → (∀ k, k < 256 → fB 182 (G 41 k)) → (∀ k, k < 256 → fB 172 (G 42 k)) → (∀ l' a j, l' < 2 → a < 8 → j < 16 → pKv l' (G 41) a j = (if l' < l then pKn M s (K l') (pK1 M l' s (pLx M s K V (pX0 M t) l')) a j else K l' a j) ∧ pKv l' (G 42) a j = (if l' < l then pKn M s (V l') (pV1 M l' (pLx M s K V (pX0 M t) l')) a j else V l' a j)) → (∀ i, i < mFa M 0 → G 32 i = pLx M s K V (pX0 M t) l i ∧ fB (206 + 2 * l) (G 32 i)) → ∀ x2', x2' = nI l → XC xE0 (d + 4) xM_69 (94, [some (.ref 0), some (.int aa), some (.int x2')], [], (sh2, I, L, G)) Q := by
  have h3 := hm.1.2.2.2.1
  have hc := hm.1.2.2.2.2.2.1
  have sl8 : s % mFa M 5 < 8 := Nat.lt_of_lt_of_le (Nat.mod_lt _ (by omega)) hc.2
  have v3 : vp_in (3 : Int32) 12 := rf_in (j := 3) rfl (by decide) (by decide)
  obtain ⟨kw2, d2, kw, dh, hp⟩ := mKe hm
  have wle : mKw M ≤ 16 := by
    obtain ⟨-, -, -, k, e⟩ := mHs hm
    have h0 := hm.1.1
    rw [e] at k
    omega
  intro u
  induction u with
  | zero =>
    intro l hl G D GM b41 b42 kv hx x2' hx2
    have : l = mFa M 3 := by omega
    subst this
    have e3 : I 17 3 = nI (mFa M 3) := GM.2.1 3 (by decide)
    have c := next G D GM ⟨b41, b42, fun l' a j hl' ha hj => kv l' a j hl' ha hj⟩ (fun i hi => ⟨(hx i hi).1, (hx i hi).2.mono (by omega)⟩)
    refine XC.block [94, 115] 60 ?_
    refine And.intro v3 ?_
    exact And.intro (fun _ => c _) (fun z => absurd (show I 17 3 ≤ x2' by rw [e3, hx2]; exact nI_le (by omega) (by omega)) z)
  | succ u ih =>
    intro l hl G D GM b41 b42 kv hx x2' hx2
    have e3 : I 17 3 = nI (mFa M 3) := GM.2.1 3 (by decide)
    have hlt : ¬ I 17 3 ≤ x2' := by rw [e3, hx2]; exact nI_ge (by omega) (by omega)
    have ll : l < mFa M 3 := by omega
    have l1 : l + 1 + u = mFa M 3 := by omega
    have hx1 : x2' + 1 = nI (l + 1) := by rw [hx2, nI_1]
    refine XC.block [94, 115] 60 ?_
    refine And.intro v3 ?_
    refine And.intro (fun z => absurd z hlt) (fun _ => ?_)
    refine rf_layer GM hm ll hs h60 b41 b42 (fun j hj => (hx j hj).2) hx2 (fun G' D' x' k41 c41 k42 c42 => ?_)
    refine ih (l + 1) l1 G' (fun b k hb => (D' b k hb).trans (D b k hb)) (GM.fl (fun b k hb => D' b k (by omega))) c41 c42 (fun l' a j hl' ha hj => ?_) (fun i hi => ?_) _ hx1
    · rcases Nat.lt_trichotomy l' l with y | y | y
      · rw [k41, k42, pKv_Wr3 wle sl8 (by omega) ha hj, pKv_Wr3 wle sl8 (by omega) ha hj, (kv l' a j hl' ha hj).1, (kv l' a j hl' ha hj).2, if_pos y, if_pos y, if_pos (by omega), if_pos (by omega)]
        exact ⟨rfl, rfl⟩
      · subst y
        have kk := kv l' a j hl' ha hj
        rw [if_neg (by omega), if_neg (by omega)] at kk
        rw [k41, k42, pKv_Wr2 wle hj, pKv_Wr2 wle hj, if_pos (by omega), if_pos (by omega)]
        refine ⟨?_, ?_⟩
        · unfold pKn
          split
          · exact pK1_ext hm ll (fun j hj => (hx j hj).1) j
          · exact kk.1
        · unfold pKn
          split
          · exact pV1_ext hm ll (fun j hj => (hx j hj).1) j
          · exact kk.2
      · rw [k41, k42, pKv_Wr3 wle sl8 (by omega) ha hj, pKv_Wr3 wle sl8 (by omega) ha hj, (kv l' a j hl' ha hj).1, (kv l' a j hl' ha hj).2, if_neg (by omega), if_neg (by omega), if_neg (by omega), if_neg (by omega)]
        exact ⟨rfl, rfl⟩
    · refine ⟨?_, (x' i hi).2.mono (by omega)⟩
      rw [(x' i hi).1]
      have l2 : l < 2 := by omega
      refine pX2_ext hm ll (fun j hj => pX1_ext hm ll (fun j hj => (hx j hj).1) (fun a j ha hj => ?_) (fun a j ha hj => ?_) hj) hi
      · have := (kv l a j l2 (by omega) (by omega)).1
        rw [if_neg (by omega)] at this
        exact this
      · have := (kv l a j l2 (by omega) (by omega)).2
        rw [if_neg (by omega)] at this
        exact this
theorem rf_st127 (hM : rfMd M I F) (hm : mGd M) (hY : ∀ j, j < mFa M 0 → fB 161 (F 33 j)) {aa : Int32}
    (hQ : ∀ G, fO 43 F G → (∀ i, i < mFa M 6 → G 43 i = pMv M 2 (F 33) i ∧ fB 172 (G 43 i)) → Q (some (.int (I 0 60 + 1 - 1))) (sh2, x2 I 0 60 (I 0 60 + 1), L, G)) :
    ∀ (u i : Nat), i + u = mFa M 6 → ∀ G, fO 43 F G → (∀ i', i' < i → G 43 i' = pMv M 2 (F 33) i' ∧ fB 172 (G 43 i')) → ∀ x2', x2' = nI i → XC xE0 (d + 4) xM_69 (127, [some (.ref 0), some (.int aa), some (.int x2')], [], (sh2, I, L, G)) Q := by
  have h6 := hm.1.2.2.2.2.2.2.1
  have h3 := hm.1.2.2.2.1
  have e6 : I 17 6 = nI (mFa M 6) := hM.2.1 6 (by decide)
  have v6 : vp_in (6 : Int32) 12 := rf_in (j := 6) rfl (by decide) (by decide)
  have v2 : vp_in (2 : Int32) 21 := rf_in (j := 2) rfl (by decide) (by decide)
  have q2 : 2 < 3 + 9 * mFa M 3 := by omega
  have e23 : I 23 2 = nI (mNd M 2) := hM.2.2.2.2.1 2 q2
  have c2 : mCq M 2 = mFa M 0 := if_pos (by decide)
  have w2 : mRq M 2 = mFa M 6 := if_pos (by decide)
  intro u
  induction u with
  | zero =>
    intro i hi G D hv x2' hx2
    have : i = mFa M 6 := by omega
    subst this
    have fin := hQ G D hv
    refine XC.block [127] 60 ?_
    refine And.intro v6 ?_
    exact And.intro (fun _ => ⟨trivial, fin⟩) (fun z => absurd (show I 17 6 ≤ x2' by rw [e6, hx2]; exact nI_le (by omega) (by omega)) z)
  | succ u ih =>
    intro i hi G D hv x2' hx2
    have hlt : ¬ I 17 6 ≤ x2' := by rw [e6, hx2]; exact nI_ge (by omega) (by omega)
    have i1 : i + 1 + u = mFa M 6 := by omega
    have hx1 : x2' + 1 = nI (i + 1) := by rw [hx2, nI_1]
    have xin : vp_in x2' 16 := rf_in hx2 (by omega) (by decide)
    have tx : x2'.toNatClampNeg = i := by rw [hx2, nI_clamp (by omega)]
    have y0 : G 33 = F 33 := D.fn (by decide)
    have B0 : ∀ j, j < mCq M 2 → fB 161 (G 33 j) := fun j hj => by rw [y0]; exact hY j (by rw [c2] at hj; exact hj)
    have M0 : rfMd M I G := hM.fO D (by decide)
    have R0 : i < mRq M 2 := by rw [w2]; omega
    have bb := pMv_B hm (k := 168) q2 R0 B0 (by decide) (by decide) (by decide) (by decide)
    have V2 : ∀ i', i' < i + 1 → x2 G 43 x2'.toNatClampNeg (pMv M 2 (G 33) i) 43 i' = pMv M 2 (F 33) i' ∧ fB 172 (x2 G 43 x2'.toNatClampNeg (pMv M 2 (G 33) i) 43 i') := by
      intro i' hi'
      rcases Nat.lt_or_ge i' i with y | y
      · rw [x2_o _ _ (by omega)]; exact hv i' y
      · have : i' = i := by omega
        subst this
        rw [tx, x2_same]
        exact ⟨by rw [y0], bb⟩
    refine XC.block [127] 60 ?_
    refine And.intro v6 ?_
    refine And.intro (fun z => absurd z hlt) (fun _ => ?_)
    refine And.intro v2 ?_
    refine rf_dot_33 M0 hm q2 R0 B0 (k := 168) (by decide) (by decide) (by decide) (by decide) e23 hx2 ?_
    refine And.intro xin ?_
    exact ih (i + 1) i1 _ D.st V2 _ hx1
theorem rf_step (hM : rfMd M I F) (hm : mGd M) {s : Nat} {K V : Nat → Nat → Nat → UInt32} (hs : s ≤ 60) (h60 : I 0 60 = nI s) (hKV : rfKV K V F) {aa : Int32}
    (hrf : ¬ (¬ aa < 0 ∧ aa ≤ nI (mFa M 6) - 1) → Q (some (.int (-1))) (sh2, I, L, F))
    (hfl : s = 60 → Q (some (.int (-2))) (sh2, I, L, F))
    (hgo : s < 60 → ∀ t, t < mFa M 6 → aa = nI t → ∀ G, (∀ b k, ¬ (32 ≤ b ∧ b ≤ 43) → G b k = F b k) → rfKV (pKs M s t K V) (pVs M s t K V) G → (∀ i, i < mFa M 6 → G 43 i = pLo M s t K V i ∧ fB 172 (G 43 i)) → Q (some (.int (nI s))) (sh2, x2 I 0 60 (nI (s + 1)), L, G)) : XM xE0 (d + 4) 69 [.ref 0, .int aa] (sh2, I, L, F) Q := by
  have h0 := hm.1.1
  have h3 := hm.1.2.2.2.1
  have h6 := hm.1.2.2.2.2.2.2.1
  have e0 : I 17 0 = nI (mFa M 0) := hM.2.1 0 (by decide)
  have e6 : I 17 6 = nI (mFa M 6) := hM.2.1 6 (by decide)
  have v0 : vp_in (0 : Int32) 12 := rf_in (j := 0) rfl (by decide) (by decide)
  have v6 : vp_in (6 : Int32) 12 := rf_in (j := 6) rfl (by decide) (by decide)
  have v1 : vp_in (1 : Int32) 21 := rf_in (j := 1) rfl (by decide) (by decide)
  have v021 : vp_in (0 : Int32) 21 := rf_in (j := 0) rfl (by decide) (by decide)
  have q0 : 0 < 3 + 9 * mFa M 3 := by omega
  have q1 : 1 < 3 + 9 * mFa M 3 := by omega
  have c0 : mCq M 0 = mFa M 0 := if_pos (by decide)
  have w0 : mRq M 0 = mFa M 6 := if_pos (by decide)
  have c1 : mCq M 1 = mFa M 0 := if_pos (by decide)
  have w1 : mRq M 1 = 1 := if_pos (by decide)
  have e230 : I 23 0 = nI (mNd M 0) := hM.2.2.2.2.1 0 q0
  have e231 : I 23 1 = nI (mNd M 1) := hM.2.2.2.2.1 1 q1
  have c115 : s < 60 → ∀ t, t < mFa M 6 → aa = nI t → ∀ G, (∀ b k, ¬ (32 ≤ b ∧ b ≤ 42) → G b k = F b k) → rfMd M I G → rfKV (pKs M s t K V) (pVs M s t K V) G → (∀ i, i < mFa M 0 → G 32 i = pLx M s K V (pX0 M t) (mFa M 3) i ∧ fB 210 (G 32 i)) → ∀ x2', XC xE0 (d + 4) xM_69 (115, [some (.ref 0), some (.int aa), some (.int x2')], [], (sh2, I, L, G)) Q := by
    intro hs' t ht hat G D GM kv hx x2'
    refine XC.block [127] 60 ?_
    refine And.intro v1 ?_
    refine rf_norm GM hm q1 c1 w1 (fun j hj => (hx j hj).2) e231 (fun G1 D1 g1 b1 => ?_)
    have GM1 : rfMd M I G1 := GM.fO D1 (by decide)
    refine rf_st127 GM1 hm b1 (fun G2 D2 g2 => ?_) (mFa M 6) 0 (Nat.zero_add _) G1 fO.rf (fun i hi => absurd hi (Nat.not_lt_zero _)) _ rfl
    have g41 : G2 41 = G 41 := (D2.fn (by decide)).trans (D1.fn (by decide))
    have g42 : G2 42 = G 42 := (D2.fn (by decide)).trans (D1.fn (by decide))
    have kv2 : rfKV (pKs M s t K V) (pVs M s t K V) G2 := by unfold rfKV; rw [g41, g42]; exact kv
    rw [h60, nI_1, nI_pred]
    refine hgo hs' t ht hat G2 (fun b k hb => ?_) kv2 (fun i hi => ?_)
    · rw [D2 b k (by omega), D1 b k (by omega)]
      exact D b k (by omega)
    · refine ⟨?_, (g2 i hi).2⟩
      rw [(g2 i hi).1]
      exact pMv_e hm (by omega) (fun j hj => (g1 j (by rw [show mCq M 2 = mFa M 0 from if_pos (by decide)] at hj; exact hj)).trans (pNo_ext (fun j hj => (hx j hj).1) (by rw [show mCq M 2 = mFa M 0 from if_pos (by decide)] at hj; exact hj)))
  have c43 : s < 60 → ∀ t, t < mFa M 6 → aa = nI t → ∀ (u j : Nat), j + u = mFa M 0 → ∀ G, fO 32 F G → (∀ j', j' < j → G 32 j' = pX0 M t j' ∧ fB 156 (G 32 j')) → ∀ x2', x2' = nI j → XC xE0 (d + 4) xM_69 (43, [some (.ref 0), some (.int aa), some (.int x2')], [], (sh2, I, L, G)) Q := by
    intro hs' t ht hat u
    obtain ⟨n1, n2, n3, n4, n5, n6⟩ := hm.q q0
    rw [c0] at n3
    rw [w0] at n4
    rw [n3, n4] at n5 n6
    obtain ⟨w1', w2', w3', w4'⟩ := hM.2.2.2.2.2.1 _ n2
    rw [n3, n4] at w4'
    have nin : vp_in (I 23 0) 24 := rf_in e230 n1 (by decide)
    have e26 : I 26 (I 23 0).toNatClampNeg = nI (mBg M (mNd M 0)) := by rw [e230, nI_clamp (by omega)]; exact w3'
    induction u with
    | zero =>
      intro j hj G D hv x2' hx2
      have : j = mFa M 0 := by omega
      subst this
      have kv : rfKV K V G := by unfold rfKV; rw [D.fn (by decide), D.fn (by decide)]; exact hKV
      have GM : rfMd M I G := hM.fO D (by decide)
      have fin : ∀ x, x = nI 0 → XC xE0 (d + 4) xM_69 (94, [some (.ref 0), some (.int aa), some (.int x)], [], (sh2, I, L, G)) Q := fun x hx => by
        refine rf_st94 hm hs' h60 kv (fun G' D' GM' kv' hx' x2'' => ?_) (mFa M 3) 0 (Nat.zero_add _) G (fun _ _ _ => rfl) GM kv.1 kv.2.1 (fun l' a j hl' ha hj => ?_) (fun i hi => ⟨(hv i hi).1, (hv i hi).2.mono (by decide)⟩) x hx
        · exact c115 hs' t ht hat G' (fun b k hb => (D' b k hb).trans (D b k (by omega))) GM' kv' hx' _
        · rw [if_neg (Nat.not_lt_zero _), if_neg (Nat.not_lt_zero _)]
          exact kv.2.2 l' a j hl' ha hj
      refine XC.block [43, 94] 60 ?_
      refine And.intro v0 ?_
      exact And.intro (fun _ => fin _ rfl) (fun z => absurd (show I 17 0 ≤ x2' by rw [e0, hx2]; exact nI_le (by omega) (by omega)) z)
    | succ u ih =>
      intro j hj G D hv x2' hx2
      have hlt : ¬ I 17 0 ≤ x2' := by rw [e0, hx2]; exact nI_ge (by omega) (by omega)
      have j1 : j + 1 + u = mFa M 0 := by omega
      have hx1 : x2' + 1 = nI (j + 1) := by rw [hx2, nI_1]
      have xin : vp_in x2' 16 := rf_in hx2 (by omega) (by decide)
      have tx : x2'.toNatClampNeg = j := by rw [hx2, nI_clamp (by omega)]
      have li := n6 t j ht (by omega)
      have ei : I 26 (I 23 0).toNatClampNeg + aa * I 17 0 + x2' = nI (mBg M (mNd M 0) + (t * mFa M 0 + j)) := by rw [e26, e0, hat, hx2, nI_mul, nI_add, nI_add, Nat.add_assoc]
      have win : vp_in (I 26 (I 23 0).toNatClampNeg + aa * I 17 0 + x2') 2900 := rf_in ei (by omega) (by decide)
      have ew : G 27 (I 26 (I 23 0).toNatClampNeg + aa * I 17 0 + x2').toNatClampNeg = pX0 M t j := by rw [ei, nI_clamp (by omega), D 27 _ (by decide)]; exact w4' _ li.1
      have V2 : ∀ j', j' < j + 1 → x2 G 32 x2'.toNatClampNeg (G 27 (I 26 (I 23 0).toNatClampNeg + aa * I 17 0 + x2').toNatClampNeg) 32 j' = pX0 M t j' ∧ fB 156 (x2 G 32 x2'.toNatClampNeg (G 27 (I 26 (I 23 0).toNatClampNeg + aa * I 17 0 + x2').toNatClampNeg) 32 j') := by
        intro j' hj'
        rcases Nat.lt_or_ge j' j with y | y
        · rw [x2_o _ _ (by omega)]; exact hv j' y
        · have : j' = j := by omega
          subst this
          rw [tx, x2_same, ew]
          exact ⟨rfl, li.2⟩
      refine XC.block [43, 94] 60 ?_
      refine And.intro v0 ?_
      refine And.intro (fun z => absurd z hlt) (fun _ => ?_)
      refine And.intro v021 ?_
      refine And.intro nin ?_
      refine And.intro v0 ?_
      refine And.intro win ?_
      refine And.intro xin ?_
      exact ih (j + 1) j1 _ D.st V2 _ hx1
  have hne : ¬ I 0 38 = 0 := by rw [hM.1]; decide
  have fr : aa ≤ I 17 6 - 1 → aa ≤ nI (mFa M 6) - 1 := fun z => by rw [← e6]; exact z
  have fr' : aa ≤ nI (mFa M 6) - 1 → aa ≤ I 17 6 - 1 := fun z => by rw [e6]; exact z
  have tt : ¬ aa < 0 → aa ≤ I 17 6 - 1 → ∃ t, t < mFa M 6 ∧ aa = nI t := fun z1 z2 => by
    obtain ⟨t, ht, e⟩ := nI_of z1
    refine ⟨t, ?_, e⟩
    rw [e, e6, nI_p1 (by omega), nI_leI (by omega) (by omega)] at z2
    omega
  have nfl : I 0 60 = 60 ↔ s = 60 := by rw [h60, show (60 : Int32) = nI 60 from rfl, nI_eq (by omega) (by omega)]
  have go : s < 60 → ¬ aa < 0 → aa ≤ I 17 6 - 1 → ∀ y, y = nI 0 → XC xE0 (d + 4) xM_69 (43, [some (.ref 0), some (.int aa), some (.int y)], [], (sh2, I, L, F)) Q := fun hs' z1 z2 y hy => by
    obtain ⟨t, ht, e⟩ := tt z1 z2
    exact c43 hs' t ht e (mFa M 0) 0 (Nat.zero_add _) F fO.rf (fun j hj => absurd hj (Nat.not_lt_zero _)) _ hy
  refine XC.block [43] 60 ?_
  refine And.intro (fun _ => ?_) (fun z => absurd hne z)
  refine And.intro v6 ?_
  refine fr_in (fun z1 z2 => ?_) (fun z => ?_)
  · refine And.intro (fun _ => ?_) (fun z => absurd (show ¬ (1 : Int32) = 0 by decide) z)
    refine And.intro (fun z => ?_) (fun z => ?_)
    · exact go (Nat.lt_of_le_of_ne hs (fun w => z (nfl.mpr w))) z1 z2 _ rfl
    · exact ⟨trivial, hfl (nfl.mp (Classical.not_not.mp z))⟩
  · refine And.intro (fun w => absurd (show (0 : Int32) = 0 from rfl) w) (fun _ => ⟨trivial, hrf (fun w => ?_)⟩)
    exact z.elim (fun z => w.1 z) (fun z => z (fr' w.2))
end RUG
