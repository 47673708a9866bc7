/-! the class on paper: TURN -/
def pDn (z i h j : Nat) : Prop := j % z / 2 < i ∨ (j % z / 2 = i ∧ j / z < h)
theorem pDn_st {z i h j : Nat} (hz : fHs z) (hi : 2 * i < z) : pDn z i (h + 1) j ↔ (pDn z i h j ∨ j = h * z + 2 * i ∨ j = h * z + 2 * i + 1) := by
  unfold pDn
  rcases hz with rfl | rfl | rfl | rfl <;> omega
theorem pDn_no {z i h : Nat} (hz : fHs z) (hi : 2 * i < z) : ¬ pDn z i h (h * z + 2 * i) ∧ ¬ pDn z i h (h * z + 2 * i + 1) := by
  unfold pDn
  rcases hz with rfl | rfl | rfl | rfl <;> omega
theorem pDn_nx {z i N j : Nat} (hz : fHs z) (hj : j < N * z) : pDn z i N j ↔ pDn z (i + 1) 0 j := by
  unfold pDn
  rcases hz with rfl | rfl | rfl | rfl <;> omega
theorem pDn_end {z N j : Nat} (hz : fHs z) (hj : j < N * z) : pDn z (z / 2) 0 j := by
  unfold pDn
  rcases hz with rfl | rfl | rfl | rfl <;> omega
/-- a row in part turned -/
def pTp (s : Nat) (b : UInt32) (z p N i h : Nat) (R G : Nat → UInt32) : Prop := (∀ j, j < N * z → (pDn z i h j → G (p + j) = pTn s b z (fun k => R (p + k)) j) ∧ (¬ pDn z i h j → G (p + j) = R (p + j))) ∧ ∀ k, ¬ (p ≤ k ∧ k < p + N * z) → G k = R k
theorem pTp_0 {s z p N : Nat} {b : UInt32} {R : Nat → UInt32} : pTp s b z p N 0 0 R R := ⟨fun j _ => ⟨fun h => h.elim (fun y => absurd y (Nat.not_lt_zero _)) (fun y => absurd y.2 (Nat.not_lt_zero _)), fun _ => rfl⟩, fun _ _ => rfl⟩
theorem pTp_nx {s z p N i : Nat} {b : UInt32} {R G : Nat → UInt32} (hz : fHs z) (h : pTp s b z p N i N R G) : pTp s b z p N (i + 1) 0 R G := ⟨fun j hj => ⟨fun w => (h.1 j hj).1 ((pDn_nx hz hj).mpr w), fun w => (h.1 j hj).2 (fun y => w ((pDn_nx hz hj).mp y))⟩, h.2⟩
theorem pTp_end {s z p N : Nat} {b : UInt32} {R G : Nat → UInt32} (hz : fHs z) (h : pTp s b z p N (z / 2) 0 R G) : G = pWr p (N * z) R (pTn s b z (fun k => R (p + k))) := by
  funext k
  unfold pWr
  split
  · rename_i y
    have e := (h.1 (k - p) (by omega)).1 (pDn_end (N := N) hz (by omega))
    rw [Nat.add_sub_cancel' y.1] at e
    exact e
  · rename_i y
    exact h.2 k y
theorem pTp_st {s z p N i h c : Nat} {b : UInt32} {R : Nat → UInt32} {G : Nat → Nat → UInt32} (hz : fHs z) (hi : 2 * i < z) (hh : h < N) (H : pTp s b z p N i h R (G c)) : pTp s b z p N i (h + 1) R (x2 (x2 G c (p + (h * z + 2 * i)) (pTa (pCc (pAn s b i)) (pSs (pAn s b i)) (R (p + (h * z + 2 * i))) (R (p + (h * z + 2 * i + 1))))) c (p + (h * z + 2 * i + 1)) (pTb (pCc (pAn s b i)) (pSs (pAn s b i)) (R (p + (h * z + 2 * i))) (R (p + (h * z + 2 * i + 1)))) c) := by
  have lt : h * z + 2 * i + 1 < N * z := by
    have : (h + 1) * z ≤ N * z := Nat.mul_le_mul_right _ hh
    rw [Nat.succ_mul h z] at this
    rcases hz with rfl | rfl | rfl | rfl <;> omega
  refine ⟨fun j hj => ?_, fun k hk => ?_⟩
  · rw [pDn_st hz hi]
    rcases Nat.decEq j (h * z + 2 * i) with y | y
    · rcases Nat.decEq j (h * z + 2 * i + 1) with y' | y'
      · refine ⟨fun w => ?_, fun w => ?_⟩
        · rw [x2_o _ _ (by omega), x2_o _ _ (by omega)]
          exact (H.1 j hj).1 (w.elim id (fun w => absurd w (by omega)))
        · rw [x2_o _ _ (by omega), x2_o _ _ (by omega)]
          exact (H.1 j hj).2 (fun w' => w (Or.inl w'))
      · subst y'
        refine ⟨fun _ => ?_, fun w => absurd (Or.inr (Or.inr rfl)) w⟩
        rw [x2_same, pTn_o hz hi]
    · subst y
      refine ⟨fun _ => ?_, fun w => absurd (Or.inr (Or.inl rfl)) w⟩
      rw [x2_o _ _ (by omega), x2_same, pTn_e hz hi]
  · rw [x2_o _ _ (by omega), x2_o _ _ (by omega)]
    exact H.2 k hk
section NEB_a
variable {X : List (Option Nat)} {T : List xS} {M : pMd} {I J : Nat → Nat → Int32} {L : Nat → Nat → Int64} {F G : Nat → Nat → UInt32} {d : Nat} {Q : xP}
theorem cl_turn_21_a (hM : clMd_a M I L F) (hm : mGd M) {s N p : Nat} (hs : s < 64) (h60 : I 18 10 = nI s) (hN : p + N * mH M ≤ 16) (hN2 : N ≤ 8) (hR : ∀ k, k < N * mH M → fB 172 (F 21 (p + k))) {pp nn : Int32} (hpp : pp = nI p) (hnn : nn = nI N)
    (hQ : ∀ G, fO 21 F G → G 21 = pWr p (N * mH M) (F 21) (pTn s (mBa M) (mH M) (fun k => F 21 (p + k))) → Q none (shG X (md1 T), I, L, G)) : XM xE0 d 123 [.ref 18, .ref 38, .ref 21, .int pp, .int nn] (shG X (md1 T), I, L, F) Q := by
  have hh : fHs (mH M) := (mHs hm).1
  have eb : ∀ G, fO 21 F G → G 38 4 = mBa M := fun G D => (D 38 4 (by decide)).trans hM.2.2.2.2.2.2.2.2.2
  have hb := hm.2.2.2.1.2
  have ed : I 38 5 = nI (mH M) := hM.2.2.2.1.1
  generalize mH M = z at hh hN hR hQ ed
  have z16 : z ≤ 16 := by rcases hh with rfl | rfl | rfl | rfl <;> omega
  have hev : 2 * (z / 2) = z := by rcases hh with rfl | rfl | rfl | rfl <;> rfl
  have st2 : ∀ n i, 2 * i < z → n < N → n * z + 2 * i + 1 < N * z := by
    intro n i hi hn
    have e : (n + 1) * z ≤ N * z := Nat.mul_le_mul_right _ hn
    rw [Nat.succ_mul n z] at e
    omega
  have c67 : ∀ zx, zx = nI z → ∀ i, 2 * i < z → ∀ f6 a8, ∀ xi, xi = nI i → (∀ G, fO 21 F G → pTp s (mBa M) z p N i N (F 21) (G 21) → ∀ x11 y12 y13 y14, XC xE0 d xM_123 (140, [some (.ref 18), some (.ref 38), some (.ref 21), some (.int pp), some (.int nn), some (.int zx), some (.float f6), some (.int xi), some (.float a8), some (.float (pCc (pAn s (mBa M) i))), some (.float (pSs (pAn s (mBa M) i))), some (.int x11), y12, y13, y14], [], (shG X (md1 T), I, L, G)) Q) → ∀ (u h : Nat), h + u = N → ∀ G, fO 21 F G → pTp s (mBa M) z p N i h (F 21) (G 21) → ∀ x11, x11 = nI h → ∀ y12 y13 y14, XC xE0 d xM_123 (67, [some (.ref 18), some (.ref 38), some (.ref 21), some (.int pp), some (.int nn), some (.int zx), some (.float f6), some (.int xi), some (.float a8), some (.float (pCc (pAn s (mBa M) i))), some (.float (pSs (pAn s (mBa M) i))), some (.int x11), y12, y13, y14], [], (shG X (md1 T), I, L, G)) Q := by
    intro zx ezx i hi f6 a8 xi exi next u
    have a := pCc_ok (pAn_ok hb hs (i := i) (by omega))
    induction u with
    | zero =>
      intro h hu G D H x11 e11 y12 y13 y14
      have : h = N := by omega
      subst this
      have k := next G D H
      refine XC.block [67, 140] 60 ?_
      exact And.intro (fun _ => k _ _ _ _) (fun w => absurd (show nn ≤ x11 by rw [hnn, e11]; exact nI_le (by omega) (by omega)) w)
    | succ u ih =>
      intro h hu G D H x11 e11 y12 y13 y14
      have hlt : ¬ nn ≤ x11 := by rw [hnn, e11]; exact nI_ge (by omega) (by omega)
      have lt := st2 h i hi (by omega)
      have x1 : x11 + 1 = nI (h + 1) := by rw [e11, nI_1]
      have k1 : pp + x11 * zx + 2 * xi = nI (p + (h * z + 2 * i)) := by rw [hpp, e11, ezx, exi, show (2 : Int32) = nI 2 from rfl, nI_mul, nI_mul, nI_add, nI_add, Nat.add_assoc]
      have tb := pTa_ok a.2.2.2.1 a.2.2.2.2.2 (hR (h * z + 2 * i) (by omega)) (hR (h * z + 2 * i + 1) lt)
      have r1 : G 21 (p + (h * z + 2 * i)) = F 21 (p + (h * z + 2 * i)) := (H.1 _ (by omega)).2 (pDn_no hh hi).1
      have r2 : G 21 (p + (h * z + 2 * i + 1)) = F 21 (p + (h * z + 2 * i + 1)) := (H.1 _ lt).2 (pDn_no hh hi).2
      have c88 : ∀ at_, at_ = nI (p + (h * z + 2 * i)) → XC xE0 d xM_123 (88, [some (.ref 18), some (.ref 38), some (.ref 21), some (.int pp), some (.int nn), some (.int zx), some (.float f6), some (.int xi), some (.float a8), some (.float (pCc (pAn s (mBa M) i))), some (.float (pSs (pAn s (mBa M) i))), some (.int x11), some (.int at_), y13, y14], [], (shG X (md1 T), I, L, G)) Q := by
        intro at_ eat
        have k2 : at_ + 1 = nI (p + (h * z + 2 * i + 1)) := by rw [eat, nI_1]; rfl
        have v1 : vp_in at_ 16 := rf_in eat (by omega) (by decide)
        have v2 : vp_in (at_ + 1) 16 := rf_in k2 (by omega) (by decide)
        have t1 : at_.toNatClampNeg = p + (h * z + 2 * i) := by rw [eat, nI_clamp (by omega)]
        have t2 : (at_ + 1).toNatClampNeg = p + (h * z + 2 * i + 1) := by rw [k2, nI_clamp (by omega)]
        have c102 : ∀ u v, u = F 21 (p + (h * z + 2 * i)) → v = F 21 (p + (h * z + 2 * i + 1)) → XC xE0 d xM_123 (102, [some (.ref 18), some (.ref 38), some (.ref 21), some (.int pp), some (.int nn), some (.int zx), some (.float f6), some (.int xi), some (.float a8), some (.float (pCc (pAn s (mBa M) i))), some (.float (pSs (pAn s (mBa M) i))), some (.int x11), some (.int at_), some (.float u), some (.float v)], [], (shG X (md1 T), I, L, G)) Q := by
          intro u v hu' hv'
          subst hu'
          subst hv'
          have H2 := pTp_st hh hi (show h < N by omega) H
          rw [← t1, ← t2] at H2
          rw [← t1, ← t2] at tb
          rw [← t1, ← t2]
          refine XC.block [67] 60 ?_
          refine And.intro tb.1.n32 ?_
          refine And.intro tb.2.1.n32 ?_
          refine And.intro (tb.2.2.1.n32 (by decide)) ?_
          refine And.intro v1 ?_
          refine And.intro tb.2.2.2.1.n32 ?_
          refine And.intro tb.2.2.2.2.1.n32 ?_
          refine And.intro (tb.2.2.2.2.2.n32 (by decide)) ?_
          refine And.intro v2 ?_
          exact ih (h + 1) (by omega) _ D.st.st H2 _ x1 _ _ _
        have q1 : G 21 at_.toNatClampNeg = F 21 (p + (h * z + 2 * i)) := by rw [t1]; exact r1
        have q2 : G 21 (at_ + 1).toNatClampNeg = F 21 (p + (h * z + 2 * i + 1)) := by rw [t2]; exact r2
        refine XC.block [102] 60 ?_
        refine And.intro v1 ?_
        refine And.intro v2 ?_
        exact c102 _ _ q1 q2
      refine XC.block [88, 140] 60 ?_
      exact And.intro (fun w => absurd w hlt) (fun _ => c88 _ k1)
  have c13 : ∀ zx, zx = nI z → ∀ (u i : Nat), i + u = z / 2 → ∀ G, fO 21 F G → pTp s (mBa M) z p N i 0 (F 21) (G 21) → ∀ f6, f6 = pBy (mBa M) i → ∀ xi, xi = nI i → ∀ y8 y9 y10 y11 y12 y13 y14, XC xE0 d xM_123 (13, [some (.ref 18), some (.ref 38), some (.ref 21), some (.int pp), some (.int nn), some (.int zx), some (.float f6), some (.int xi), y8, y9, y10, y11, y12, y13, y14], [], (shG X (md1 T), I, L, G)) Q := by
    intro zx ezx u
    have ez2 : zx / 2 = nI (z / 2) := by rw [ezx]; exact pk_div (d := 2) (by omega) (by omega) (by omega)
    induction u with
    | zero =>
      intro i hi G D H f6 e6 xi exi y8 y9 y10 y11 y12 y13 y14
      have : i = z / 2 := by omega
      subst this
      have fin := hQ G D (pTp_end hh H)
      refine XC.block [13] 60 ?_
      refine And.intro (show ¬ (2 : Int32) = 0 by decide) ?_
      exact And.intro (fun _ => ⟨trivial, fin⟩) (fun w => absurd (show zx / 2 ≤ xi by rw [ez2, exi]; exact nI_le (by omega) (by omega)) w)
    | succ u ih =>
      intro i hi G D H f6 e6 xi exi y8 y9 y10 y11 y12 y13 y14
      have hlt : ¬ zx / 2 ≤ xi := by rw [ez2, exi]; exact nI_ge (by omega) (by omega)
      have i2 : 2 * i < z := by omega
      have xi1 : xi + 1 = nI (i + 1) := by rw [exi, nI_1]
      have an := pAn_ok hb hs (i := i) (by omega)
      have a := pCc_ok an
      have ea : FP.fdiv (FP.i2f (I 18 10)) f6 = pAn s (mBa M) i := by rw [h60, e6]; rfl
      have ga : vf_n32 (FP.fdiv (FP.i2f (I 18 10)) f6) := by rw [ea]; exact an.n32 (by decide)
      have c140 : ∀ a8 G, fO 21 F G → pTp s (mBa M) z p N i N (F 21) (G 21) → ∀ x11 y12 y13 y14, XC xE0 d xM_123 (140, [some (.ref 18), some (.ref 38), some (.ref 21), some (.int pp), some (.int nn), some (.int zx), some (.float f6), some (.int xi), some (.float a8), some (.float (pCc (pAn s (mBa M) i))), some (.float (pSs (pAn s (mBa M) i))), some (.int x11), y12, y13, y14], [], (shG X (md1 T), I, L, G)) Q := by
        intro a8 G D H x11 y12 y13 y14
        have em : FP.fmul f6 (G 38 4) = pBy (mBa M) (i + 1) := by rw [eb G D, e6]; rfl
        have gm : vf_n32 (FP.fmul f6 (G 38 4)) := by rw [em]; exact (pBy_ok hb (i + 1) (by omega)).1.n32 (by omega)
        have k := ih (i + 1) (by omega) G D (pTp_nx hh H) _ em _ xi1
        refine XC.block [13] 60 ?_
        exact And.intro gm (k _ _ _ _ _ _ _)
      have c32 : ∀ w, w = pAn s (mBa M) i → XC xE0 d xM_123 (32, [some (.ref 18), some (.ref 38), some (.ref 21), some (.int pp), some (.int nn), some (.int zx), some (.float f6), some (.int xi), some (.float w), y9, y10, y11, y12, y13, y14], [], (shG X (md1 T), I, L, G)) Q := by
        intro w hw'
        subst hw'
        refine XC.block [67] 60 ?_
        refine And.intro a.1.n32 ?_
        refine And.intro a.2.1.n32 ?_
        refine And.intro a.1.n32 ?_
        refine And.intro a.2.2.1.n32 ?_
        refine And.intro (a.2.2.2.1.n32 (by decide)) ?_
        refine And.intro a.2.2.2.2.1.n32 ?_
        refine And.intro a.1.n32 ?_
        refine And.intro a.2.2.1.n32 ?_
        refine And.intro (a.2.2.2.2.2.n32 (by decide)) ?_
        exact c67 zx ezx i i2 f6 _ xi exi (c140 _) N 0 (Nat.zero_add _) G D H _ rfl _ _ _
      refine XC.block [32] 60 ?_
      refine And.intro (show ¬ (2 : Int32) = 0 by decide) ?_
      refine And.intro (fun w => absurd w hlt) (fun _ => ?_)
      exact And.intro ga (c32 _ ea)
  refine XC.block [13] 60 ?_
  exact c13 _ ed (z / 2) 0 (Nat.zero_add _) F fO.rf pTp_0 _ rfl _ rfl _ _ _ _ _ _ _
theorem cl_turn_28_a (hM : clMd_a M I L F) (hm : mGd M) {s N p : Nat} (hs : s < 64) (h60 : I 18 10 = nI s) (hN : p + N * mH M ≤ 128) (hN2 : N ≤ 8) (hR : ∀ k, k < N * mH M → fB 172 (F 28 (p + k))) {pp nn : Int32} (hpp : pp = nI p) (hnn : nn = nI N)
    (hQ : ∀ G, fO 28 F G → G 28 = pWr p (N * mH M) (F 28) (pTn s (mBa M) (mH M) (fun k => F 28 (p + k))) → Q none (shG X (md1 T), I, L, G)) : XM xE0 d 123 [.ref 18, .ref 38, .ref 28, .int pp, .int nn] (shG X (md1 T), I, L, F) Q := by
  have hh : fHs (mH M) := (mHs hm).1
  have eb : ∀ G, fO 28 F G → G 38 4 = mBa M := fun G D => (D 38 4 (by decide)).trans hM.2.2.2.2.2.2.2.2.2
  have hb := hm.2.2.2.1.2
  have ed : I 38 5 = nI (mH M) := hM.2.2.2.1.1
  generalize mH M = z at hh hN hR hQ ed
  have z16 : z ≤ 16 := by rcases hh with rfl | rfl | rfl | rfl <;> omega
  have hev : 2 * (z / 2) = z := by rcases hh with rfl | rfl | rfl | rfl <;> rfl
  have st2 : ∀ n i, 2 * i < z → n < N → n * z + 2 * i + 1 < N * z := by
    intro n i hi hn
    have e : (n + 1) * z ≤ N * z := Nat.mul_le_mul_right _ hn
    rw [Nat.succ_mul n z] at e
    omega
  have c67 : ∀ zx, zx = nI z → ∀ i, 2 * i < z → ∀ f6 a8, ∀ xi, xi = nI i → (∀ G, fO 28 F G → pTp s (mBa M) z p N i N (F 28) (G 28) → ∀ x11 y12 y13 y14, XC xE0 d xM_123 (140, [some (.ref 18), some (.ref 38), some (.ref 28), some (.int pp), some (.int nn), some (.int zx), some (.float f6), some (.int xi), some (.float a8), some (.float (pCc (pAn s (mBa M) i))), some (.float (pSs (pAn s (mBa M) i))), some (.int x11), y12, y13, y14], [], (shG X (md1 T), I, L, G)) Q) → ∀ (u h : Nat), h + u = N → ∀ G, fO 28 F G → pTp s (mBa M) z p N i h (F 28) (G 28) → ∀ x11, x11 = nI h → ∀ y12 y13 y14, XC xE0 d xM_123 (67, [some (.ref 18), some (.ref 38), some (.ref 28), some (.int pp), some (.int nn), some (.int zx), some (.float f6), some (.int xi), some (.float a8), some (.float (pCc (pAn s (mBa M) i))), some (.float (pSs (pAn s (mBa M) i))), some (.int x11), y12, y13, y14], [], (shG X (md1 T), I, L, G)) Q := by
    intro zx ezx i hi f6 a8 xi exi next u
    have a := pCc_ok (pAn_ok hb hs (i := i) (by omega))
    induction u with
    | zero =>
      intro h hu G D H x11 e11 y12 y13 y14
      have : h = N := by omega
      subst this
      have k := next G D H
      refine XC.block [67, 140] 60 ?_
      exact And.intro (fun _ => k _ _ _ _) (fun w => absurd (show nn ≤ x11 by rw [hnn, e11]; exact nI_le (by omega) (by omega)) w)
    | succ u ih =>
      intro h hu G D H x11 e11 y12 y13 y14
      have hlt : ¬ nn ≤ x11 := by rw [hnn, e11]; exact nI_ge (by omega) (by omega)
      have lt := st2 h i hi (by omega)
      have x1 : x11 + 1 = nI (h + 1) := by rw [e11, nI_1]
      have k1 : pp + x11 * zx + 2 * xi = nI (p + (h * z + 2 * i)) := by rw [hpp, e11, ezx, exi, show (2 : Int32) = nI 2 from rfl, nI_mul, nI_mul, nI_add, nI_add, Nat.add_assoc]
      have tb := pTa_ok a.2.2.2.1 a.2.2.2.2.2 (hR (h * z + 2 * i) (by omega)) (hR (h * z + 2 * i + 1) lt)
      have r1 : G 28 (p + (h * z + 2 * i)) = F 28 (p + (h * z + 2 * i)) := (H.1 _ (by omega)).2 (pDn_no hh hi).1
      have r2 : G 28 (p + (h * z + 2 * i + 1)) = F 28 (p + (h * z + 2 * i + 1)) := (H.1 _ lt).2 (pDn_no hh hi).2
      have c88 : ∀ at_, at_ = nI (p + (h * z + 2 * i)) → XC xE0 d xM_123 (88, [some (.ref 18), some (.ref 38), some (.ref 28), some (.int pp), some (.int nn), some (.int zx), some (.float f6), some (.int xi), some (.float a8), some (.float (pCc (pAn s (mBa M) i))), some (.float (pSs (pAn s (mBa M) i))), some (.int x11), some (.int at_), y13, y14], [], (shG X (md1 T), I, L, G)) Q := by
        intro at_ eat
        have k2 : at_ + 1 = nI (p + (h * z + 2 * i + 1)) := by rw [eat, nI_1]; rfl
        have v1 : vp_in at_ 128 := rf_in eat (by omega) (by decide)
        have v2 : vp_in (at_ + 1) 128 := rf_in k2 (by omega) (by decide)
        have t1 : at_.toNatClampNeg = p + (h * z + 2 * i) := by rw [eat, nI_clamp (by omega)]
        have t2 : (at_ + 1).toNatClampNeg = p + (h * z + 2 * i + 1) := by rw [k2, nI_clamp (by omega)]
        have c102 : ∀ u v, u = F 28 (p + (h * z + 2 * i)) → v = F 28 (p + (h * z + 2 * i + 1)) → XC xE0 d xM_123 (102, [some (.ref 18), some (.ref 38), some (.ref 28), some (.int pp), some (.int nn), some (.int zx), some (.float f6), some (.int xi), some (.float a8), some (.float (pCc (pAn s (mBa M) i))), some (.float (pSs (pAn s (mBa M) i))), some (.int x11), some (.int at_), some (.float u), some (.float v)], [], (shG X (md1 T), I, L, G)) Q := by
          intro u v hu' hv'
          subst hu'
          subst hv'
          have H2 := pTp_st hh hi (show h < N by omega) H
          rw [← t1, ← t2] at H2
          rw [← t1, ← t2] at tb
          rw [← t1, ← t2]
          refine XC.block [67] 60 ?_
          refine And.intro tb.1.n32 ?_
          refine And.intro tb.2.1.n32 ?_
          refine And.intro (tb.2.2.1.n32 (by decide)) ?_
          refine And.intro v1 ?_
          refine And.intro tb.2.2.2.1.n32 ?_
          refine And.intro tb.2.2.2.2.1.n32 ?_
          refine And.intro (tb.2.2.2.2.2.n32 (by decide)) ?_
          refine And.intro v2 ?_
          exact ih (h + 1) (by omega) _ D.st.st H2 _ x1 _ _ _
        have q1 : G 28 at_.toNatClampNeg = F 28 (p + (h * z + 2 * i)) := by rw [t1]; exact r1
        have q2 : G 28 (at_ + 1).toNatClampNeg = F 28 (p + (h * z + 2 * i + 1)) := by rw [t2]; exact r2
        refine XC.block [102] 60 ?_
        refine And.intro v1 ?_
        refine And.intro v2 ?_
        exact c102 _ _ q1 q2
      refine XC.block [88, 140] 60 ?_
      exact And.intro (fun w => absurd w hlt) (fun _ => c88 _ k1)
  have c13 : ∀ zx, zx = nI z → ∀ (u i : Nat), i + u = z / 2 → ∀ G, fO 28 F G → pTp s (mBa M) z p N i 0 (F 28) (G 28) → ∀ f6, f6 = pBy (mBa M) i → ∀ xi, xi = nI i → ∀ y8 y9 y10 y11 y12 y13 y14, XC xE0 d xM_123 (13, [some (.ref 18), some (.ref 38), some (.ref 28), some (.int pp), some (.int nn), some (.int zx), some (.float f6), some (.int xi), y8, y9, y10, y11, y12, y13, y14], [], (shG X (md1 T), I, L, G)) Q := by
    intro zx ezx u
    have ez2 : zx / 2 = nI (z / 2) := by rw [ezx]; exact pk_div (d := 2) (by omega) (by omega) (by omega)
    induction u with
    | zero =>
      intro i hi G D H f6 e6 xi exi y8 y9 y10 y11 y12 y13 y14
      have : i = z / 2 := by omega
      subst this
      have fin := hQ G D (pTp_end hh H)
      refine XC.block [13] 60 ?_
      refine And.intro (show ¬ (2 : Int32) = 0 by decide) ?_
      exact And.intro (fun _ => ⟨trivial, fin⟩) (fun w => absurd (show zx / 2 ≤ xi by rw [ez2, exi]; exact nI_le (by omega) (by omega)) w)
    | succ u ih =>
      intro i hi G D H f6 e6 xi exi y8 y9 y10 y11 y12 y13 y14
      have hlt : ¬ zx / 2 ≤ xi := by rw [ez2, exi]; exact nI_ge (by omega) (by omega)
      have i2 : 2 * i < z := by omega
      have xi1 : xi + 1 = nI (i + 1) := by rw [exi, nI_1]
      have an := pAn_ok hb hs (i := i) (by omega)
      have a := pCc_ok an
      have ea : FP.fdiv (FP.i2f (I 18 10)) f6 = pAn s (mBa M) i := by rw [h60, e6]; rfl
      have ga : vf_n32 (FP.fdiv (FP.i2f (I 18 10)) f6) := by rw [ea]; exact an.n32 (by decide)
      have c140 : ∀ a8 G, fO 28 F G → pTp s (mBa M) z p N i N (F 28) (G 28) → ∀ x11 y12 y13 y14, XC xE0 d xM_123 (140, [some (.ref 18), some (.ref 38), some (.ref 28), some (.int pp), some (.int nn), some (.int zx), some (.float f6), some (.int xi), some (.float a8), some (.float (pCc (pAn s (mBa M) i))), some (.float (pSs (pAn s (mBa M) i))), some (.int x11), y12, y13, y14], [], (shG X (md1 T), I, L, G)) Q := by
        intro a8 G D H x11 y12 y13 y14
        have em : FP.fmul f6 (G 38 4) = pBy (mBa M) (i + 1) := by rw [eb G D, e6]; rfl
        have gm : vf_n32 (FP.fmul f6 (G 38 4)) := by rw [em]; exact (pBy_ok hb (i + 1) (by omega)).1.n32 (by omega)
        have k := ih (i + 1) (by omega) G D (pTp_nx hh H) _ em _ xi1
        refine XC.block [13] 60 ?_
        exact And.intro gm (k _ _ _ _ _ _ _)
      have c32 : ∀ w, w = pAn s (mBa M) i → XC xE0 d xM_123 (32, [some (.ref 18), some (.ref 38), some (.ref 28), some (.int pp), some (.int nn), some (.int zx), some (.float f6), some (.int xi), some (.float w), y9, y10, y11, y12, y13, y14], [], (shG X (md1 T), I, L, G)) Q := by
        intro w hw'
        subst hw'
        refine XC.block [67] 60 ?_
        refine And.intro a.1.n32 ?_
        refine And.intro a.2.1.n32 ?_
        refine And.intro a.1.n32 ?_
        refine And.intro a.2.2.1.n32 ?_
        refine And.intro (a.2.2.2.1.n32 (by decide)) ?_
        refine And.intro a.2.2.2.2.1.n32 ?_
        refine And.intro a.1.n32 ?_
        refine And.intro a.2.2.1.n32 ?_
        refine And.intro (a.2.2.2.2.2.n32 (by decide)) ?_
        exact c67 zx ezx i i2 f6 _ xi exi (c140 _) N 0 (Nat.zero_add _) G D H _ rfl _ _ _
      refine XC.block [32] 60 ?_
      refine And.intro (show ¬ (2 : Int32) = 0 by decide) ?_
      refine And.intro (fun w => absurd w hlt) (fun _ => ?_)
      exact And.intro ga (c32 _ ea)
  refine XC.block [13] 60 ?_
  exact c13 _ ed (z / 2) 0 (Nat.zero_add _) F fO.rf pTp_0 _ rfl _ rfl _ _ _ _ _ _ _
theorem cl_turn_29_a (hM : clMd_a M I L F) (hm : mGd M) {s N p : Nat} (hs : s < 64) (h60 : I 18 10 = nI s) (hN : p + N * mH M ≤ 128) (hN2 : N ≤ 8) (hR : ∀ k, k < N * mH M → fB 172 (F 29 (p + k))) {pp nn : Int32} (hpp : pp = nI p) (hnn : nn = nI N)
    (hQ : ∀ G, fO 29 F G → G 29 = pWr p (N * mH M) (F 29) (pTn s (mBa M) (mH M) (fun k => F 29 (p + k))) → Q none (shG X (md1 T), I, L, G)) : XM xE0 d 123 [.ref 18, .ref 38, .ref 29, .int pp, .int nn] (shG X (md1 T), I, L, F) Q := by
  have hh : fHs (mH M) := (mHs hm).1
  have eb : ∀ G, fO 29 F G → G 38 4 = mBa M := fun G D => (D 38 4 (by decide)).trans hM.2.2.2.2.2.2.2.2.2
  have hb := hm.2.2.2.1.2
  have ed : I 38 5 = nI (mH M) := hM.2.2.2.1.1
  generalize mH M = z at hh hN hR hQ ed
  have z16 : z ≤ 16 := by rcases hh with rfl | rfl | rfl | rfl <;> omega
  have hev : 2 * (z / 2) = z := by rcases hh with rfl | rfl | rfl | rfl <;> rfl
  have st2 : ∀ n i, 2 * i < z → n < N → n * z + 2 * i + 1 < N * z := by
    intro n i hi hn
    have e : (n + 1) * z ≤ N * z := Nat.mul_le_mul_right _ hn
    rw [Nat.succ_mul n z] at e
    omega
  have c67 : ∀ zx, zx = nI z → ∀ i, 2 * i < z → ∀ f6 a8, ∀ xi, xi = nI i → (∀ G, fO 29 F G → pTp s (mBa M) z p N i N (F 29) (G 29) → ∀ x11 y12 y13 y14, XC xE0 d xM_123 (140, [some (.ref 18), some (.ref 38), some (.ref 29), some (.int pp), some (.int nn), some (.int zx), some (.float f6), some (.int xi), some (.float a8), some (.float (pCc (pAn s (mBa M) i))), some (.float (pSs (pAn s (mBa M) i))), some (.int x11), y12, y13, y14], [], (shG X (md1 T), I, L, G)) Q) → ∀ (u h : Nat), h + u = N → ∀ G, fO 29 F G → pTp s (mBa M) z p N i h (F 29) (G 29) → ∀ x11, x11 = nI h → ∀ y12 y13 y14, XC xE0 d xM_123 (67, [some (.ref 18), some (.ref 38), some (.ref 29), some (.int pp), some (.int nn), some (.int zx), some (.float f6), some (.int xi), some (.float a8), some (.float (pCc (pAn s (mBa M) i))), some (.float (pSs (pAn s (mBa M) i))), some (.int x11), y12, y13, y14], [], (shG X (md1 T), I, L, G)) Q := by
    intro zx ezx i hi f6 a8 xi exi next u
    have a := pCc_ok (pAn_ok hb hs (i := i) (by omega))
    induction u with
    | zero =>
      intro h hu G D H x11 e11 y12 y13 y14
      have : h = N := by omega
      subst this
      have k := next G D H
      refine XC.block [67, 140] 60 ?_
      exact And.intro (fun _ => k _ _ _ _) (fun w => absurd (show nn ≤ x11 by rw [hnn, e11]; exact nI_le (by omega) (by omega)) w)
    | succ u ih =>
      intro h hu G D H x11 e11 y12 y13 y14
      have hlt : ¬ nn ≤ x11 := by rw [hnn, e11]; exact nI_ge (by omega) (by omega)
      have lt := st2 h i hi (by omega)
      have x1 : x11 + 1 = nI (h + 1) := by rw [e11, nI_1]
      have k1 : pp + x11 * zx + 2 * xi = nI (p + (h * z + 2 * i)) := by rw [hpp, e11, ezx, exi, show (2 : Int32) = nI 2 from rfl, nI_mul, nI_mul, nI_add, nI_add, Nat.add_assoc]
      have tb := pTa_ok a.2.2.2.1 a.2.2.2.2.2 (hR (h * z + 2 * i) (by omega)) (hR (h * z + 2 * i + 1) lt)
      have r1 : G 29 (p + (h * z + 2 * i)) = F 29 (p + (h * z + 2 * i)) := (H.1 _ (by omega)).2 (pDn_no hh hi).1
      have r2 : G 29 (p + (h * z + 2 * i + 1)) = F 29 (p + (h * z + 2 * i + 1)) := (H.1 _ lt).2 (pDn_no hh hi).2
      have c88 : ∀ at_, at_ = nI (p + (h * z + 2 * i)) → XC xE0 d xM_123 (88, [some (.ref 18), some (.ref 38), some (.ref 29), some (.int pp), some (.int nn), some (.int zx), some (.float f6), some (.int xi), some (.float a8), some (.float (pCc (pAn s (mBa M) i))), some (.float (pSs (pAn s (mBa M) i))), some (.int x11), some (.int at_), y13, y14], [], (shG X (md1 T), I, L, G)) Q := by
        intro at_ eat
        have k2 : at_ + 1 = nI (p + (h * z + 2 * i + 1)) := by rw [eat, nI_1]; rfl
        have v1 : vp_in at_ 128 := rf_in eat (by omega) (by decide)
        have v2 : vp_in (at_ + 1) 128 := rf_in k2 (by omega) (by decide)
        have t1 : at_.toNatClampNeg = p + (h * z + 2 * i) := by rw [eat, nI_clamp (by omega)]
        have t2 : (at_ + 1).toNatClampNeg = p + (h * z + 2 * i + 1) := by rw [k2, nI_clamp (by omega)]
        have c102 : ∀ u v, u = F 29 (p + (h * z + 2 * i)) → v = F 29 (p + (h * z + 2 * i + 1)) → XC xE0 d xM_123 (102, [some (.ref 18), some (.ref 38), some (.ref 29), some (.int pp), some (.int nn), some (.int zx), some (.float f6), some (.int xi), some (.float a8), some (.float (pCc (pAn s (mBa M) i))), some (.float (pSs (pAn s (mBa M) i))), some (.int x11), some (.int at_), some (.float u), some (.float v)], [], (shG X (md1 T), I, L, G)) Q := by
          intro u v hu' hv'
          subst hu'
          subst hv'
          have H2 := pTp_st hh hi (show h < N by omega) H
          rw [← t1, ← t2] at H2
          rw [← t1, ← t2] at tb
          rw [← t1, ← t2]
          refine XC.block [67] 60 ?_
          refine And.intro tb.1.n32 ?_
          refine And.intro tb.2.1.n32 ?_
          refine And.intro (tb.2.2.1.n32 (by decide)) ?_
          refine And.intro v1 ?_
          refine And.intro tb.2.2.2.1.n32 ?_
          refine And.intro tb.2.2.2.2.1.n32 ?_
          refine And.intro (tb.2.2.2.2.2.n32 (by decide)) ?_
          refine And.intro v2 ?_
          exact ih (h + 1) (by omega) _ D.st.st H2 _ x1 _ _ _
        have q1 : G 29 at_.toNatClampNeg = F 29 (p + (h * z + 2 * i)) := by rw [t1]; exact r1
        have q2 : G 29 (at_ + 1).toNatClampNeg = F 29 (p + (h * z + 2 * i + 1)) := by rw [t2]; exact r2
        refine XC.block [102] 60 ?_
        refine And.intro v1 ?_
        refine And.intro v2 ?_
        exact c102 _ _ q1 q2
      refine XC.block [88, 140] 60 ?_
      exact And.intro (fun w => absurd w hlt) (fun _ => c88 _ k1)
  have c13 : ∀ zx, zx = nI z → ∀ (u i : Nat), i + u = z / 2 → ∀ G, fO 29 F G → pTp s (mBa M) z p N i 0 (F 29) (G 29) → ∀ f6, f6 = pBy (mBa M) i → ∀ xi, xi = nI i → ∀ y8 y9 y10 y11 y12 y13 y14, XC xE0 d xM_123 (13, [some (.ref 18), some (.ref 38), some (.ref 29), some (.int pp), some (.int nn), some (.int zx), some (.float f6), some (.int xi), y8, y9, y10, y11, y12, y13, y14], [], (shG X (md1 T), I, L, G)) Q := by
    intro zx ezx u
    have ez2 : zx / 2 = nI (z / 2) := by rw [ezx]; exact pk_div (d := 2) (by omega) (by omega) (by omega)
    induction u with
    | zero =>
      intro i hi G D H f6 e6 xi exi y8 y9 y10 y11 y12 y13 y14
      have : i = z / 2 := by omega
      subst this
      have fin := hQ G D (pTp_end hh H)
      refine XC.block [13] 60 ?_
      refine And.intro (show ¬ (2 : Int32) = 0 by decide) ?_
      exact And.intro (fun _ => ⟨trivial, fin⟩) (fun w => absurd (show zx / 2 ≤ xi by rw [ez2, exi]; exact nI_le (by omega) (by omega)) w)
    | succ u ih =>
      intro i hi G D H f6 e6 xi exi y8 y9 y10 y11 y12 y13 y14
      have hlt : ¬ zx / 2 ≤ xi := by rw [ez2, exi]; exact nI_ge (by omega) (by omega)
      have i2 : 2 * i < z := by omega
      have xi1 : xi + 1 = nI (i + 1) := by rw [exi, nI_1]
      have an := pAn_ok hb hs (i := i) (by omega)
      have a := pCc_ok an
      have ea : FP.fdiv (FP.i2f (I 18 10)) f6 = pAn s (mBa M) i := by rw [h60, e6]; rfl
      have ga : vf_n32 (FP.fdiv (FP.i2f (I 18 10)) f6) := by rw [ea]; exact an.n32 (by decide)
      have c140 : ∀ a8 G, fO 29 F G → pTp s (mBa M) z p N i N (F 29) (G 29) → ∀ x11 y12 y13 y14, XC xE0 d xM_123 (140, [some (.ref 18), some (.ref 38), some (.ref 29), some (.int pp), some (.int nn), some (.int zx), some (.float f6), some (.int xi), some (.float a8), some (.float (pCc (pAn s (mBa M) i))), some (.float (pSs (pAn s (mBa M) i))), some (.int x11), y12, y13, y14], [], (shG X (md1 T), I, L, G)) Q := by
        intro a8 G D H x11 y12 y13 y14
        have em : FP.fmul f6 (G 38 4) = pBy (mBa M) (i + 1) := by rw [eb G D, e6]; rfl
        have gm : vf_n32 (FP.fmul f6 (G 38 4)) := by rw [em]; exact (pBy_ok hb (i + 1) (by omega)).1.n32 (by omega)
        have k := ih (i + 1) (by omega) G D (pTp_nx hh H) _ em _ xi1
        refine XC.block [13] 60 ?_
        exact And.intro gm (k _ _ _ _ _ _ _)
      have c32 : ∀ w, w = pAn s (mBa M) i → XC xE0 d xM_123 (32, [some (.ref 18), some (.ref 38), some (.ref 29), some (.int pp), some (.int nn), some (.int zx), some (.float f6), some (.int xi), some (.float w), y9, y10, y11, y12, y13, y14], [], (shG X (md1 T), I, L, G)) Q := by
        intro w hw'
        subst hw'
        refine XC.block [67] 60 ?_
        refine And.intro a.1.n32 ?_
        refine And.intro a.2.1.n32 ?_
        refine And.intro a.1.n32 ?_
        refine And.intro a.2.2.1.n32 ?_
        refine And.intro (a.2.2.2.1.n32 (by decide)) ?_
        refine And.intro a.2.2.2.2.1.n32 ?_
        refine And.intro a.1.n32 ?_
        refine And.intro a.2.2.1.n32 ?_
        refine And.intro (a.2.2.2.2.2.n32 (by decide)) ?_
        exact c67 zx ezx i i2 f6 _ xi exi (c140 _) N 0 (Nat.zero_add _) G D H _ rfl _ _ _
      refine XC.block [32] 60 ?_
      refine And.intro (show ¬ (2 : Int32) = 0 by decide) ?_
      refine And.intro (fun w => absurd w hlt) (fun _ => ?_)
      exact And.intro ga (c32 _ ea)
  refine XC.block [13] 60 ?_
  exact c13 _ ed (z / 2) 0 (Nat.zero_add _) F fO.rf pTp_0 _ rfl _ rfl _ _ _ _ _ _ _
end NEB_a
section NEB_b
variable {X : List (Option Nat)} {T : List xS} {M : pMd} {I J : Nat → Nat → Int32} {L : Nat → Nat → Int64} {F G : Nat → Nat → UInt32} {d : Nat} {Q : xP}
theorem cl_turn_21_b (hM : clMd_b M I L F) (hm : mGd M) {s N p : Nat} (hs : s < 64) (h60 : I 18 10 = nI s) (hN : p + N * mH M ≤ 16) (hN2 : N ≤ 8) (hR : ∀ k, k < N * mH M → fB 172 (F 21 (p + k))) {pp nn : Int32} (hpp : pp = nI p) (hnn : nn = nI N)
    (hQ : ∀ G, fO 21 F G → G 21 = pWr p (N * mH M) (F 21) (pTn s (mBa M) (mH M) (fun k => F 21 (p + k))) → Q none (shG X (md2 T), I, L, G)) : XM xE0 d 123 [.ref 18, .ref 51, .ref 21, .int pp, .int nn] (shG X (md2 T), I, L, F) Q := by
  have hh : fHs (mH M) := (mHs hm).1
  have eb : ∀ G, fO 21 F G → G 51 4 = mBa M := fun G D => (D 51 4 (by decide)).trans hM.2.2.2.2.2.2.2.2.2
  have hb := hm.2.2.2.1.2
  have ed : I 51 5 = nI (mH M) := hM.2.2.2.1.1
  generalize mH M = z at hh hN hR hQ ed
  have z16 : z ≤ 16 := by rcases hh with rfl | rfl | rfl | rfl <;> omega
  have hev : 2 * (z / 2) = z := by rcases hh with rfl | rfl | rfl | rfl <;> rfl
  have st2 : ∀ n i, 2 * i < z → n < N → n * z + 2 * i + 1 < N * z := by
    intro n i hi hn
    have e : (n + 1) * z ≤ N * z := Nat.mul_le_mul_right _ hn
    rw [Nat.succ_mul n z] at e
    omega
  have c67 : ∀ zx, zx = nI z → ∀ i, 2 * i < z → ∀ f6 a8, ∀ xi, xi = nI i → (∀ G, fO 21 F G → pTp s (mBa M) z p N i N (F 21) (G 21) → ∀ x11 y12 y13 y14, XC xE0 d xM_123 (140, [some (.ref 18), some (.ref 51), some (.ref 21), some (.int pp), some (.int nn), some (.int zx), some (.float f6), some (.int xi), some (.float a8), some (.float (pCc (pAn s (mBa M) i))), some (.float (pSs (pAn s (mBa M) i))), some (.int x11), y12, y13, y14], [], (shG X (md2 T), I, L, G)) Q) → ∀ (u h : Nat), h + u = N → ∀ G, fO 21 F G → pTp s (mBa M) z p N i h (F 21) (G 21) → ∀ x11, x11 = nI h → ∀ y12 y13 y14, XC xE0 d xM_123 (67, [some (.ref 18), some (.ref 51), some (.ref 21), some (.int pp), some (.int nn), some (.int zx), some (.float f6), some (.int xi), some (.float a8), some (.float (pCc (pAn s (mBa M) i))), some (.float (pSs (pAn s (mBa M) i))), some (.int x11), y12, y13, y14], [], (shG X (md2 T), I, L, G)) Q := by
    intro zx ezx i hi f6 a8 xi exi next u
    have a := pCc_ok (pAn_ok hb hs (i := i) (by omega))
    induction u with
    | zero =>
      intro h hu G D H x11 e11 y12 y13 y14
      have : h = N := by omega
      subst this
      have k := next G D H
      refine XC.block [67, 140] 60 ?_
      exact And.intro (fun _ => k _ _ _ _) (fun w => absurd (show nn ≤ x11 by rw [hnn, e11]; exact nI_le (by omega) (by omega)) w)
    | succ u ih =>
      intro h hu G D H x11 e11 y12 y13 y14
      have hlt : ¬ nn ≤ x11 := by rw [hnn, e11]; exact nI_ge (by omega) (by omega)
      have lt := st2 h i hi (by omega)
      have x1 : x11 + 1 = nI (h + 1) := by rw [e11, nI_1]
      have k1 : pp + x11 * zx + 2 * xi = nI (p + (h * z + 2 * i)) := by rw [hpp, e11, ezx, exi, show (2 : Int32) = nI 2 from rfl, nI_mul, nI_mul, nI_add, nI_add, Nat.add_assoc]
      have tb := pTa_ok a.2.2.2.1 a.2.2.2.2.2 (hR (h * z + 2 * i) (by omega)) (hR (h * z + 2 * i + 1) lt)
      have r1 : G 21 (p + (h * z + 2 * i)) = F 21 (p + (h * z + 2 * i)) := (H.1 _ (by omega)).2 (pDn_no hh hi).1
      have r2 : G 21 (p + (h * z + 2 * i + 1)) = F 21 (p + (h * z + 2 * i + 1)) := (H.1 _ lt).2 (pDn_no hh hi).2
      have c88 : ∀ at_, at_ = nI (p + (h * z + 2 * i)) → XC xE0 d xM_123 (88, [some (.ref 18), some (.ref 51), some (.ref 21), some (.int pp), some (.int nn), some (.int zx), some (.float f6), some (.int xi), some (.float a8), some (.float (pCc (pAn s (mBa M) i))), some (.float (pSs (pAn s (mBa M) i))), some (.int x11), some (.int at_), y13, y14], [], (shG X (md2 T), I, L, G)) Q := by
        intro at_ eat
        have k2 : at_ + 1 = nI (p + (h * z + 2 * i + 1)) := by rw [eat, nI_1]; rfl
        have v1 : vp_in at_ 16 := rf_in eat (by omega) (by decide)
        have v2 : vp_in (at_ + 1) 16 := rf_in k2 (by omega) (by decide)
        have t1 : at_.toNatClampNeg = p + (h * z + 2 * i) := by rw [eat, nI_clamp (by omega)]
        have t2 : (at_ + 1).toNatClampNeg = p + (h * z + 2 * i + 1) := by rw [k2, nI_clamp (by omega)]
        have c102 : ∀ u v, u = F 21 (p + (h * z + 2 * i)) → v = F 21 (p + (h * z + 2 * i + 1)) → XC xE0 d xM_123 (102, [some (.ref 18), some (.ref 51), some (.ref 21), some (.int pp), some (.int nn), some (.int zx), some (.float f6), some (.int xi), some (.float a8), some (.float (pCc (pAn s (mBa M) i))), some (.float (pSs (pAn s (mBa M) i))), some (.int x11), some (.int at_), some (.float u), some (.float v)], [], (shG X (md2 T), I, L, G)) Q := by
          intro u v hu' hv'
          subst hu'
          subst hv'
          have H2 := pTp_st hh hi (show h < N by omega) H
          rw [← t1, ← t2] at H2
          rw [← t1, ← t2] at tb
          rw [← t1, ← t2]
          refine XC.block [67] 60 ?_
          refine And.intro tb.1.n32 ?_
          refine And.intro tb.2.1.n32 ?_
          refine And.intro (tb.2.2.1.n32 (by decide)) ?_
          refine And.intro v1 ?_
          refine And.intro tb.2.2.2.1.n32 ?_
          refine And.intro tb.2.2.2.2.1.n32 ?_
          refine And.intro (tb.2.2.2.2.2.n32 (by decide)) ?_
          refine And.intro v2 ?_
          exact ih (h + 1) (by omega) _ D.st.st H2 _ x1 _ _ _
        have q1 : G 21 at_.toNatClampNeg = F 21 (p + (h * z + 2 * i)) := by rw [t1]; exact r1
        have q2 : G 21 (at_ + 1).toNatClampNeg = F 21 (p + (h * z + 2 * i + 1)) := by rw [t2]; exact r2
        refine XC.block [102] 60 ?_
        refine And.intro v1 ?_
        refine And.intro v2 ?_
        exact c102 _ _ q1 q2
      refine XC.block [88, 140] 60 ?_
      exact And.intro (fun w => absurd w hlt) (fun _ => c88 _ k1)
  have c13 : ∀ zx, zx = nI z → ∀ (u i : Nat), i + u = z / 2 → ∀ G, fO 21 F G → pTp s (mBa M) z p N i 0 (F 21) (G 21) → ∀ f6, f6 = pBy (mBa M) i → ∀ xi, xi = nI i → ∀ y8 y9 y10 y11 y12 y13 y14, XC xE0 d xM_123 (13, [some (.ref 18), some (.ref 51), some (.ref 21), some (.int pp), some (.int nn), some (.int zx), some (.float f6), some (.int xi), y8, y9, y10, y11, y12, y13, y14], [], (shG X (md2 T), I, L, G)) Q := by
    intro zx ezx u
    have ez2 : zx / 2 = nI (z / 2) := by rw [ezx]; exact pk_div (d := 2) (by omega) (by omega) (by omega)
    induction u with
    | zero =>
      intro i hi G D H f6 e6 xi exi y8 y9 y10 y11 y12 y13 y14
      have : i = z / 2 := by omega
      subst this
      have fin := hQ G D (pTp_end hh H)
      refine XC.block [13] 60 ?_
      refine And.intro (show ¬ (2 : Int32) = 0 by decide) ?_
      exact And.intro (fun _ => ⟨trivial, fin⟩) (fun w => absurd (show zx / 2 ≤ xi by rw [ez2, exi]; exact nI_le (by omega) (by omega)) w)
    | succ u ih =>
      intro i hi G D H f6 e6 xi exi y8 y9 y10 y11 y12 y13 y14
      have hlt : ¬ zx / 2 ≤ xi := by rw [ez2, exi]; exact nI_ge (by omega) (by omega)
      have i2 : 2 * i < z := by omega
      have xi1 : xi + 1 = nI (i + 1) := by rw [exi, nI_1]
      have an := pAn_ok hb hs (i := i) (by omega)
      have a := pCc_ok an
      have ea : FP.fdiv (FP.i2f (I 18 10)) f6 = pAn s (mBa M) i := by rw [h60, e6]; rfl
      have ga : vf_n32 (FP.fdiv (FP.i2f (I 18 10)) f6) := by rw [ea]; exact an.n32 (by decide)
      have c140 : ∀ a8 G, fO 21 F G → pTp s (mBa M) z p N i N (F 21) (G 21) → ∀ x11 y12 y13 y14, XC xE0 d xM_123 (140, [some (.ref 18), some (.ref 51), some (.ref 21), some (.int pp), some (.int nn), some (.int zx), some (.float f6), some (.int xi), some (.float a8), some (.float (pCc (pAn s (mBa M) i))), some (.float (pSs (pAn s (mBa M) i))), some (.int x11), y12, y13, y14], [], (shG X (md2 T), I, L, G)) Q := by
        intro a8 G D H x11 y12 y13 y14
        have em : FP.fmul f6 (G 51 4) = pBy (mBa M) (i + 1) := by rw [eb G D, e6]; rfl
        have gm : vf_n32 (FP.fmul f6 (G 51 4)) := by rw [em]; exact (pBy_ok hb (i + 1) (by omega)).1.n32 (by omega)
        have k := ih (i + 1) (by omega) G D (pTp_nx hh H) _ em _ xi1
        refine XC.block [13] 60 ?_
        exact And.intro gm (k _ _ _ _ _ _ _)
      have c32 : ∀ w, w = pAn s (mBa M) i → XC xE0 d xM_123 (32, [some (.ref 18), some (.ref 51), some (.ref 21), some (.int pp), some (.int nn), some (.int zx), some (.float f6), some (.int xi), some (.float w), y9, y10, y11, y12, y13, y14], [], (shG X (md2 T), I, L, G)) Q := by
        intro w hw'
        subst hw'
        refine XC.block [67] 60 ?_
        refine And.intro a.1.n32 ?_
        refine And.intro a.2.1.n32 ?_
        refine And.intro a.1.n32 ?_
        refine And.intro a.2.2.1.n32 ?_
        refine And.intro (a.2.2.2.1.n32 (by decide)) ?_
        refine And.intro a.2.2.2.2.1.n32 ?_
        refine And.intro a.1.n32 ?_
        refine And.intro a.2.2.1.n32 ?_
        refine And.intro (a.2.2.2.2.2.n32 (by decide)) ?_
        exact c67 zx ezx i i2 f6 _ xi exi (c140 _) N 0 (Nat.zero_add _) G D H _ rfl _ _ _
      refine XC.block [32] 60 ?_
      refine And.intro (show ¬ (2 : Int32) = 0 by decide) ?_
      refine And.intro (fun w => absurd w hlt) (fun _ => ?_)
      exact And.intro ga (c32 _ ea)
  refine XC.block [13] 60 ?_
  exact c13 _ ed (z / 2) 0 (Nat.zero_add _) F fO.rf pTp_0 _ rfl _ rfl _ _ _ _ _ _ _
theorem cl_turn_28_b (hM : clMd_b M I L F) (hm : mGd M) {s N p : Nat} (hs : s < 64) (h60 : I 18 10 = nI s) (hN : p + N * mH M ≤ 128) (hN2 : N ≤ 8) (hR : ∀ k, k < N * mH M → fB 172 (F 28 (p + k))) {pp nn : Int32} (hpp : pp = nI p) (hnn : nn = nI N)
    (hQ : ∀ G, fO 28 F G → G 28 = pWr p (N * mH M) (F 28) (pTn s (mBa M) (mH M) (fun k => F 28 (p + k))) → Q none (shG X (md2 T), I, L, G)) : XM xE0 d 123 [.ref 18, .ref 51, .ref 28, .int pp, .int nn] (shG X (md2 T), I, L, F) Q := by
  have hh : fHs (mH M) := (mHs hm).1
  have eb : ∀ G, fO 28 F G → G 51 4 = mBa M := fun G D => (D 51 4 (by decide)).trans hM.2.2.2.2.2.2.2.2.2
  have hb := hm.2.2.2.1.2
  have ed : I 51 5 = nI (mH M) := hM.2.2.2.1.1
  generalize mH M = z at hh hN hR hQ ed
  have z16 : z ≤ 16 := by rcases hh with rfl | rfl | rfl | rfl <;> omega
  have hev : 2 * (z / 2) = z := by rcases hh with rfl | rfl | rfl | rfl <;> rfl
  have st2 : ∀ n i, 2 * i < z → n < N → n * z + 2 * i + 1 < N * z := by
    intro n i hi hn
    have e : (n + 1) * z ≤ N * z := Nat.mul_le_mul_right _ hn
    rw [Nat.succ_mul n z] at e
    omega
  have c67 : ∀ zx, zx = nI z → ∀ i, 2 * i < z → ∀ f6 a8, ∀ xi, xi = nI i → (∀ G, fO 28 F G → pTp s (mBa M) z p N i N (F 28) (G 28) → ∀ x11 y12 y13 y14, XC xE0 d xM_123 (140, [some (.ref 18), some (.ref 51), some (.ref 28), some (.int pp), some (.int nn), some (.int zx), some (.float f6), some (.int xi), some (.float a8), some (.float (pCc (pAn s (mBa M) i))), some (.float (pSs (pAn s (mBa M) i))), some (.int x11), y12, y13, y14], [], (shG X (md2 T), I, L, G)) Q) → ∀ (u h : Nat), h + u = N → ∀ G, fO 28 F G → pTp s (mBa M) z p N i h (F 28) (G 28) → ∀ x11, x11 = nI h → ∀ y12 y13 y14, XC xE0 d xM_123 (67, [some (.ref 18), some (.ref 51), some (.ref 28), some (.int pp), some (.int nn), some (.int zx), some (.float f6), some (.int xi), some (.float a8), some (.float (pCc (pAn s (mBa M) i))), some (.float (pSs (pAn s (mBa M) i))), some (.int x11), y12, y13, y14], [], (shG X (md2 T), I, L, G)) Q := by
    intro zx ezx i hi f6 a8 xi exi next u
    have a := pCc_ok (pAn_ok hb hs (i := i) (by omega))
    induction u with
    | zero =>
      intro h hu G D H x11 e11 y12 y13 y14
      have : h = N := by omega
      subst this
      have k := next G D H
      refine XC.block [67, 140] 60 ?_
      exact And.intro (fun _ => k _ _ _ _) (fun w => absurd (show nn ≤ x11 by rw [hnn, e11]; exact nI_le (by omega) (by omega)) w)
    | succ u ih =>
      intro h hu G D H x11 e11 y12 y13 y14
      have hlt : ¬ nn ≤ x11 := by rw [hnn, e11]; exact nI_ge (by omega) (by omega)
      have lt := st2 h i hi (by omega)
      have x1 : x11 + 1 = nI (h + 1) := by rw [e11, nI_1]
      have k1 : pp + x11 * zx + 2 * xi = nI (p + (h * z + 2 * i)) := by rw [hpp, e11, ezx, exi, show (2 : Int32) = nI 2 from rfl, nI_mul, nI_mul, nI_add, nI_add, Nat.add_assoc]
      have tb := pTa_ok a.2.2.2.1 a.2.2.2.2.2 (hR (h * z + 2 * i) (by omega)) (hR (h * z + 2 * i + 1) lt)
      have r1 : G 28 (p + (h * z + 2 * i)) = F 28 (p + (h * z + 2 * i)) := (H.1 _ (by omega)).2 (pDn_no hh hi).1
      have r2 : G 28 (p + (h * z + 2 * i + 1)) = F 28 (p + (h * z + 2 * i + 1)) := (H.1 _ lt).2 (pDn_no hh hi).2
      have c88 : ∀ at_, at_ = nI (p + (h * z + 2 * i)) → XC xE0 d xM_123 (88, [some (.ref 18), some (.ref 51), some (.ref 28), some (.int pp), some (.int nn), some (.int zx), some (.float f6), some (.int xi), some (.float a8), some (.float (pCc (pAn s (mBa M) i))), some (.float (pSs (pAn s (mBa M) i))), some (.int x11), some (.int at_), y13, y14], [], (shG X (md2 T), I, L, G)) Q := by
        intro at_ eat
        have k2 : at_ + 1 = nI (p + (h * z + 2 * i + 1)) := by rw [eat, nI_1]; rfl
        have v1 : vp_in at_ 128 := rf_in eat (by omega) (by decide)
        have v2 : vp_in (at_ + 1) 128 := rf_in k2 (by omega) (by decide)
        have t1 : at_.toNatClampNeg = p + (h * z + 2 * i) := by rw [eat, nI_clamp (by omega)]
        have t2 : (at_ + 1).toNatClampNeg = p + (h * z + 2 * i + 1) := by rw [k2, nI_clamp (by omega)]
        have c102 : ∀ u v, u = F 28 (p + (h * z + 2 * i)) → v = F 28 (p + (h * z + 2 * i + 1)) → XC xE0 d xM_123 (102, [some (.ref 18), some (.ref 51), some (.ref 28), some (.int pp), some (.int nn), some (.int zx), some (.float f6), some (.int xi), some (.float a8), some (.float (pCc (pAn s (mBa M) i))), some (.float (pSs (pAn s (mBa M) i))), some (.int x11), some (.int at_), some (.float u), some (.float v)], [], (shG X (md2 T), I, L, G)) Q := by
          intro u v hu' hv'
          subst hu'
          subst hv'
          have H2 := pTp_st hh hi (show h < N by omega) H
          rw [← t1, ← t2] at H2
          rw [← t1, ← t2] at tb
          rw [← t1, ← t2]
          refine XC.block [67] 60 ?_
          refine And.intro tb.1.n32 ?_
          refine And.intro tb.2.1.n32 ?_
          refine And.intro (tb.2.2.1.n32 (by decide)) ?_
          refine And.intro v1 ?_
          refine And.intro tb.2.2.2.1.n32 ?_
          refine And.intro tb.2.2.2.2.1.n32 ?_
          refine And.intro (tb.2.2.2.2.2.n32 (by decide)) ?_
          refine And.intro v2 ?_
          exact ih (h + 1) (by omega) _ D.st.st H2 _ x1 _ _ _
        have q1 : G 28 at_.toNatClampNeg = F 28 (p + (h * z + 2 * i)) := by rw [t1]; exact r1
        have q2 : G 28 (at_ + 1).toNatClampNeg = F 28 (p + (h * z + 2 * i + 1)) := by rw [t2]; exact r2
        refine XC.block [102] 60 ?_
        refine And.intro v1 ?_
        refine And.intro v2 ?_
        exact c102 _ _ q1 q2
      refine XC.block [88, 140] 60 ?_
      exact And.intro (fun w => absurd w hlt) (fun _ => c88 _ k1)
  have c13 : ∀ zx, zx = nI z → ∀ (u i : Nat), i + u = z / 2 → ∀ G, fO 28 F G → pTp s (mBa M) z p N i 0 (F 28) (G 28) → ∀ f6, f6 = pBy (mBa M) i → ∀ xi, xi = nI i → ∀ y8 y9 y10 y11 y12 y13 y14, XC xE0 d xM_123 (13, [some (.ref 18), some (.ref 51), some (.ref 28), some (.int pp), some (.int nn), some (.int zx), some (.float f6), some (.int xi), y8, y9, y10, y11, y12, y13, y14], [], (shG X (md2 T), I, L, G)) Q := by
    intro zx ezx u
    have ez2 : zx / 2 = nI (z / 2) := by rw [ezx]; exact pk_div (d := 2) (by omega) (by omega) (by omega)
    induction u with
    | zero =>
      intro i hi G D H f6 e6 xi exi y8 y9 y10 y11 y12 y13 y14
      have : i = z / 2 := by omega
      subst this
      have fin := hQ G D (pTp_end hh H)
      refine XC.block [13] 60 ?_
      refine And.intro (show ¬ (2 : Int32) = 0 by decide) ?_
      exact And.intro (fun _ => ⟨trivial, fin⟩) (fun w => absurd (show zx / 2 ≤ xi by rw [ez2, exi]; exact nI_le (by omega) (by omega)) w)
    | succ u ih =>
      intro i hi G D H f6 e6 xi exi y8 y9 y10 y11 y12 y13 y14
      have hlt : ¬ zx / 2 ≤ xi := by rw [ez2, exi]; exact nI_ge (by omega) (by omega)
      have i2 : 2 * i < z := by omega
      have xi1 : xi + 1 = nI (i + 1) := by rw [exi, nI_1]
      have an := pAn_ok hb hs (i := i) (by omega)
      have a := pCc_ok an
      have ea : FP.fdiv (FP.i2f (I 18 10)) f6 = pAn s (mBa M) i := by rw [h60, e6]; rfl
      have ga : vf_n32 (FP.fdiv (FP.i2f (I 18 10)) f6) := by rw [ea]; exact an.n32 (by decide)
      have c140 : ∀ a8 G, fO 28 F G → pTp s (mBa M) z p N i N (F 28) (G 28) → ∀ x11 y12 y13 y14, XC xE0 d xM_123 (140, [some (.ref 18), some (.ref 51), some (.ref 28), some (.int pp), some (.int nn), some (.int zx), some (.float f6), some (.int xi), some (.float a8), some (.float (pCc (pAn s (mBa M) i))), some (.float (pSs (pAn s (mBa M) i))), some (.int x11), y12, y13, y14], [], (shG X (md2 T), I, L, G)) Q := by
        intro a8 G D H x11 y12 y13 y14
        have em : FP.fmul f6 (G 51 4) = pBy (mBa M) (i + 1) := by rw [eb G D, e6]; rfl
        have gm : vf_n32 (FP.fmul f6 (G 51 4)) := by rw [em]; exact (pBy_ok hb (i + 1) (by omega)).1.n32 (by omega)
        have k := ih (i + 1) (by omega) G D (pTp_nx hh H) _ em _ xi1
        refine XC.block [13] 60 ?_
        exact And.intro gm (k _ _ _ _ _ _ _)
      have c32 : ∀ w, w = pAn s (mBa M) i → XC xE0 d xM_123 (32, [some (.ref 18), some (.ref 51), some (.ref 28), some (.int pp), some (.int nn), some (.int zx), some (.float f6), some (.int xi), some (.float w), y9, y10, y11, y12, y13, y14], [], (shG X (md2 T), I, L, G)) Q := by
        intro w hw'
        subst hw'
        refine XC.block [67] 60 ?_
        refine And.intro a.1.n32 ?_
        refine And.intro a.2.1.n32 ?_
        refine And.intro a.1.n32 ?_
        refine And.intro a.2.2.1.n32 ?_
        refine And.intro (a.2.2.2.1.n32 (by decide)) ?_
        refine And.intro a.2.2.2.2.1.n32 ?_
        refine And.intro a.1.n32 ?_
        refine And.intro a.2.2.1.n32 ?_
        refine And.intro (a.2.2.2.2.2.n32 (by decide)) ?_
        exact c67 zx ezx i i2 f6 _ xi exi (c140 _) N 0 (Nat.zero_add _) G D H _ rfl _ _ _
      refine XC.block [32] 60 ?_
      refine And.intro (show ¬ (2 : Int32) = 0 by decide) ?_
      refine And.intro (fun w => absurd w hlt) (fun _ => ?_)
      exact And.intro ga (c32 _ ea)
  refine XC.block [13] 60 ?_
  exact c13 _ ed (z / 2) 0 (Nat.zero_add _) F fO.rf pTp_0 _ rfl _ rfl _ _ _ _ _ _ _
theorem cl_turn_29_b (hM : clMd_b M I L F) (hm : mGd M) {s N p : Nat} (hs : s < 64) (h60 : I 18 10 = nI s) (hN : p + N * mH M ≤ 128) (hN2 : N ≤ 8) (hR : ∀ k, k < N * mH M → fB 172 (F 29 (p + k))) {pp nn : Int32} (hpp : pp = nI p) (hnn : nn = nI N)
    (hQ : ∀ G, fO 29 F G → G 29 = pWr p (N * mH M) (F 29) (pTn s (mBa M) (mH M) (fun k => F 29 (p + k))) → Q none (shG X (md2 T), I, L, G)) : XM xE0 d 123 [.ref 18, .ref 51, .ref 29, .int pp, .int nn] (shG X (md2 T), I, L, F) Q := by
  have hh : fHs (mH M) := (mHs hm).1
  have eb : ∀ G, fO 29 F G → G 51 4 = mBa M := fun G D => (D 51 4 (by decide)).trans hM.2.2.2.2.2.2.2.2.2
  have hb := hm.2.2.2.1.2
  have ed : I 51 5 = nI (mH M) := hM.2.2.2.1.1
  generalize mH M = z at hh hN hR hQ ed
  have z16 : z ≤ 16 := by rcases hh with rfl | rfl | rfl | rfl <;> omega
  have hev : 2 * (z / 2) = z := by rcases hh with rfl | rfl | rfl | rfl <;> rfl
  have st2 : ∀ n i, 2 * i < z → n < N → n * z + 2 * i + 1 < N * z := by
    intro n i hi hn
    have e : (n + 1) * z ≤ N * z := Nat.mul_le_mul_right _ hn
    rw [Nat.succ_mul n z] at e
    omega
  have c67 : ∀ zx, zx = nI z → ∀ i, 2 * i < z → ∀ f6 a8, ∀ xi, xi = nI i → (∀ G, fO 29 F G → pTp s (mBa M) z p N i N (F 29) (G 29) → ∀ x11 y12 y13 y14, XC xE0 d xM_123 (140, [some (.ref 18), some (.ref 51), some (.ref 29), some (.int pp), some (.int nn), some (.int zx), some (.float f6), some (.int xi), some (.float a8), some (.float (pCc (pAn s (mBa M) i))), some (.float (pSs (pAn s (mBa M) i))), some (.int x11), y12, y13, y14], [], (shG X (md2 T), I, L, G)) Q) → ∀ (u h : Nat), h + u = N → ∀ G, fO 29 F G → pTp s (mBa M) z p N i h (F 29) (G 29) → ∀ x11, x11 = nI h → ∀ y12 y13 y14, XC xE0 d xM_123 (67, [some (.ref 18), some (.ref 51), some (.ref 29), some (.int pp), some (.int nn), some (.int zx), some (.float f6), some (.int xi), some (.float a8), some (.float (pCc (pAn s (mBa M) i))), some (.float (pSs (pAn s (mBa M) i))), some (.int x11), y12, y13, y14], [], (shG X (md2 T), I, L, G)) Q := by
    intro zx ezx i hi f6 a8 xi exi next u
    have a := pCc_ok (pAn_ok hb hs (i := i) (by omega))
    induction u with
    | zero =>
      intro h hu G D H x11 e11 y12 y13 y14
      have : h = N := by omega
      subst this
      have k := next G D H
      refine XC.block [67, 140] 60 ?_
      exact And.intro (fun _ => k _ _ _ _) (fun w => absurd (show nn ≤ x11 by rw [hnn, e11]; exact nI_le (by omega) (by omega)) w)
    | succ u ih =>
      intro h hu G D H x11 e11 y12 y13 y14
      have hlt : ¬ nn ≤ x11 := by rw [hnn, e11]; exact nI_ge (by omega) (by omega)
      have lt := st2 h i hi (by omega)
      have x1 : x11 + 1 = nI (h + 1) := by rw [e11, nI_1]
      have k1 : pp + x11 * zx + 2 * xi = nI (p + (h * z + 2 * i)) := by rw [hpp, e11, ezx, exi, show (2 : Int32) = nI 2 from rfl, nI_mul, nI_mul, nI_add, nI_add, Nat.add_assoc]
      have tb := pTa_ok a.2.2.2.1 a.2.2.2.2.2 (hR (h * z + 2 * i) (by omega)) (hR (h * z + 2 * i + 1) lt)
      have r1 : G 29 (p + (h * z + 2 * i)) = F 29 (p + (h * z + 2 * i)) := (H.1 _ (by omega)).2 (pDn_no hh hi).1
      have r2 : G 29 (p + (h * z + 2 * i + 1)) = F 29 (p + (h * z + 2 * i + 1)) := (H.1 _ lt).2 (pDn_no hh hi).2
      have c88 : ∀ at_, at_ = nI (p + (h * z + 2 * i)) → XC xE0 d xM_123 (88, [some (.ref 18), some (.ref 51), some (.ref 29), some (.int pp), some (.int nn), some (.int zx), some (.float f6), some (.int xi), some (.float a8), some (.float (pCc (pAn s (mBa M) i))), some (.float (pSs (pAn s (mBa M) i))), some (.int x11), some (.int at_), y13, y14], [], (shG X (md2 T), I, L, G)) Q := by
        intro at_ eat
        have k2 : at_ + 1 = nI (p + (h * z + 2 * i + 1)) := by rw [eat, nI_1]; rfl
        have v1 : vp_in at_ 128 := rf_in eat (by omega) (by decide)
        have v2 : vp_in (at_ + 1) 128 := rf_in k2 (by omega) (by decide)
        have t1 : at_.toNatClampNeg = p + (h * z + 2 * i) := by rw [eat, nI_clamp (by omega)]
        have t2 : (at_ + 1).toNatClampNeg = p + (h * z + 2 * i + 1) := by rw [k2, nI_clamp (by omega)]
        have c102 : ∀ u v, u = F 29 (p + (h * z + 2 * i)) → v = F 29 (p + (h * z + 2 * i + 1)) → XC xE0 d xM_123 (102, [some (.ref 18), some (.ref 51), some (.ref 29), some (.int pp), some (.int nn), some (.int zx), some (.float f6), some (.int xi), some (.float a8), some (.float (pCc (pAn s (mBa M) i))), some (.float (pSs (pAn s (mBa M) i))), some (.int x11), some (.int at_), some (.float u), some (.float v)], [], (shG X (md2 T), I, L, G)) Q := by
          intro u v hu' hv'
          subst hu'
          subst hv'
          have H2 := pTp_st hh hi (show h < N by omega) H
          rw [← t1, ← t2] at H2
          rw [← t1, ← t2] at tb
          rw [← t1, ← t2]
          refine XC.block [67] 60 ?_
          refine And.intro tb.1.n32 ?_
          refine And.intro tb.2.1.n32 ?_
          refine And.intro (tb.2.2.1.n32 (by decide)) ?_
          refine And.intro v1 ?_
          refine And.intro tb.2.2.2.1.n32 ?_
          refine And.intro tb.2.2.2.2.1.n32 ?_
          refine And.intro (tb.2.2.2.2.2.n32 (by decide)) ?_
          refine And.intro v2 ?_
          exact ih (h + 1) (by omega) _ D.st.st H2 _ x1 _ _ _
        have q1 : G 29 at_.toNatClampNeg = F 29 (p + (h * z + 2 * i)) := by rw [t1]; exact r1
        have q2 : G 29 (at_ + 1).toNatClampNeg = F 29 (p + (h * z + 2 * i + 1)) := by rw [t2]; exact r2
        refine XC.block [102] 60 ?_
        refine And.intro v1 ?_
        refine And.intro v2 ?_
        exact c102 _ _ q1 q2
      refine XC.block [88, 140] 60 ?_
      exact And.intro (fun w => absurd w hlt) (fun _ => c88 _ k1)
  have c13 : ∀ zx, zx = nI z → ∀ (u i : Nat), i + u = z / 2 → ∀ G, fO 29 F G → pTp s (mBa M) z p N i 0 (F 29) (G 29) → ∀ f6, f6 = pBy (mBa M) i → ∀ xi, xi = nI i → ∀ y8 y9 y10 y11 y12 y13 y14, XC xE0 d xM_123 (13, [some (.ref 18), some (.ref 51), some (.ref 29), some (.int pp), some (.int nn), some (.int zx), some (.float f6), some (.int xi), y8, y9, y10, y11, y12, y13, y14], [], (shG X (md2 T), I, L, G)) Q := by
    intro zx ezx u
    have ez2 : zx / 2 = nI (z / 2) := by rw [ezx]; exact pk_div (d := 2) (by omega) (by omega) (by omega)
    induction u with
    | zero =>
      intro i hi G D H f6 e6 xi exi y8 y9 y10 y11 y12 y13 y14
      have : i = z / 2 := by omega
      subst this
      have fin := hQ G D (pTp_end hh H)
      refine XC.block [13] 60 ?_
      refine And.intro (show ¬ (2 : Int32) = 0 by decide) ?_
      exact And.intro (fun _ => ⟨trivial, fin⟩) (fun w => absurd (show zx / 2 ≤ xi by rw [ez2, exi]; exact nI_le (by omega) (by omega)) w)
    | succ u ih =>
      intro i hi G D H f6 e6 xi exi y8 y9 y10 y11 y12 y13 y14
      have hlt : ¬ zx / 2 ≤ xi := by rw [ez2, exi]; exact nI_ge (by omega) (by omega)
      have i2 : 2 * i < z := by omega
      have xi1 : xi + 1 = nI (i + 1) := by rw [exi, nI_1]
      have an := pAn_ok hb hs (i := i) (by omega)
      have a := pCc_ok an
      have ea : FP.fdiv (FP.i2f (I 18 10)) f6 = pAn s (mBa M) i := by rw [h60, e6]; rfl
      have ga : vf_n32 (FP.fdiv (FP.i2f (I 18 10)) f6) := by rw [ea]; exact an.n32 (by decide)
      have c140 : ∀ a8 G, fO 29 F G → pTp s (mBa M) z p N i N (F 29) (G 29) → ∀ x11 y12 y13 y14, XC xE0 d xM_123 (140, [some (.ref 18), some (.ref 51), some (.ref 29), some (.int pp), some (.int nn), some (.int zx), some (.float f6), some (.int xi), some (.float a8), some (.float (pCc (pAn s (mBa M) i))), some (.float (pSs (pAn s (mBa M) i))), some (.int x11), y12, y13, y14], [], (shG X (md2 T), I, L, G)) Q := by
        intro a8 G D H x11 y12 y13 y14
        have em : FP.fmul f6 (G 51 4) = pBy (mBa M) (i + 1) := by rw [eb G D, e6]; rfl
        have gm : vf_n32 (FP.fmul f6 (G 51 4)) := by rw [em]; exact (pBy_ok hb (i + 1) (by omega)).1.n32 (by omega)
        have k := ih (i + 1) (by omega) G D (pTp_nx hh H) _ em _ xi1
        refine XC.block [13] 60 ?_
        exact And.intro gm (k _ _ _ _ _ _ _)
      have c32 : ∀ w, w = pAn s (mBa M) i → XC xE0 d xM_123 (32, [some (.ref 18), some (.ref 51), some (.ref 29), some (.int pp), some (.int nn), some (.int zx), some (.float f6), some (.int xi), some (.float w), y9, y10, y11, y12, y13, y14], [], (shG X (md2 T), I, L, G)) Q := by
        intro w hw'
        subst hw'
        refine XC.block [67] 60 ?_
        refine And.intro a.1.n32 ?_
        refine And.intro a.2.1.n32 ?_
        refine And.intro a.1.n32 ?_
        refine And.intro a.2.2.1.n32 ?_
        refine And.intro (a.2.2.2.1.n32 (by decide)) ?_
        refine And.intro a.2.2.2.2.1.n32 ?_
        refine And.intro a.1.n32 ?_
        refine And.intro a.2.2.1.n32 ?_
        refine And.intro (a.2.2.2.2.2.n32 (by decide)) ?_
        exact c67 zx ezx i i2 f6 _ xi exi (c140 _) N 0 (Nat.zero_add _) G D H _ rfl _ _ _
      refine XC.block [32] 60 ?_
      refine And.intro (show ¬ (2 : Int32) = 0 by decide) ?_
      refine And.intro (fun w => absurd w hlt) (fun _ => ?_)
      exact And.intro ga (c32 _ ea)
  refine XC.block [13] 60 ?_
  exact c13 _ ed (z / 2) 0 (Nat.zero_add _) F fO.rf pTp_0 _ rfl _ rfl _ _ _ _ _ _ _
end NEB_b
