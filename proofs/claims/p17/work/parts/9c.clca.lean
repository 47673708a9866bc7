/-! the class on paper: ORDER, the draw -/
section CCA
variable {X : List (Option Nat)} {T : List xS} {M : pMd} {I J : Nat → Nat → Int32} {L : Nat → Nat → Int64} {F G : Nat → Nat → UInt32} {d : Nat} {Q : xP}
theorem cl_sort {N : Nat} (hN : N ≤ 16) {nn : Int32} (hnn : nn = nI N)
    (hQ : ∀ J, (∀ b k, b ≠ 34 → J b k = I b k) → (∀ k, k < N → J 34 k = nI (pSo (F 26) (N) k)) → Q none (shG X T, J, L, F)) : XM xE0 d 78 [.ref 33, .ref 26, .int nn] (shG X T, I, L, F) Q := by
  have c62 : ∀ i, i < N → (∀ J, (∀ b k, b ≠ 34 → J b k = I b k) → (∀ k, k < i + 1 → J 34 k = nI (pSo (F 26) (i + 1) k)) → ∀ xi, xi = nI (i + 1) → ∀ y2, XC xE0 d xM_78 (2, [some (.ref 33), some (.ref 26), some (.int nn), some (.int xi), y2], [], (shG X T, J, L, F)) Q) → ∀ j, j ≤ i → pPos (F 26) (pSo (F 26) i) i i = j → ∀ J, (∀ b k, b ≠ 34 → J b k = I b k) → (∀ k, k < j → J 34 k = nI (pSo (F 26) i k)) → (∀ k, j < k → k ≤ i → J 34 k = nI (pSo (F 26) i (k - 1))) → ∀ xi xj, xi = nI i → xj = nI j → XC xE0 d xM_78 (55, [some (.ref 33), some (.ref 26), some (.int nn), some (.int xi), some (.int xj)], [], (shG X T, J, L, F)) Q := by
    intro i hi next j hj hp J D h1 h2 xi xj exi exj
    have jin : vp_in xj 16 := rf_in exj (by omega) (by decide)
    have tj : xj.toNatClampNeg = j := by rw [exj, nI_clamp (by omega)]
    have xi1 : xi + 1 = nI (i + 1) := by rw [exi, nI_1]
    have D2 : ∀ b k, b ≠ 34 → x2 J 34 xj.toNatClampNeg xi b k = I b k := fun b k hb => by rw [x2_o _ _ (fun e => hb e.1)]; exact D b k hb
    have V2 : ∀ k, k < i + 1 → x2 J 34 xj.toNatClampNeg xi 34 k = nI (pSo (F 26) (i + 1) k) := by
      intro k hk
      show _ = nI (pIns (F 26) (pSo (F 26) i) i k)
      unfold pIns
      rw [hp, tj]
      rcases Nat.lt_trichotomy k j with y | y | y
      · rw [x2_o _ _ (by omega), if_pos y]; exact h1 k y
      · subst y
        rw [x2_same, if_neg (by omega), if_pos rfl]; exact exi
      · rw [x2_o _ _ (by omega), if_neg (by omega), if_neg (by omega), if_pos (by omega)]; exact h2 k y (by omega)
    refine XC.block [2] 60 ?_
    refine And.intro jin ?_
    exact next _ D2 V2 _ xi1 _
  have c15 : ∀ i, i < N → (∀ J, (∀ b k, b ≠ 34 → J b k = I b k) → (∀ k, k < i + 1 → J 34 k = nI (pSo (F 26) (i + 1) k)) → ∀ xi, xi = nI (i + 1) → ∀ y2, XC xE0 d xM_78 (2, [some (.ref 33), some (.ref 26), some (.int nn), some (.int xi), y2], [], (shG X T, J, L, F)) Q) → ∀ j, j ≤ i → pPos (F 26) (pSo (F 26) i) i i = pPos (F 26) (pSo (F 26) i) i j → ∀ J, (∀ b k, b ≠ 34 → J b k = I b k) → (∀ k, k < j → J 34 k = nI (pSo (F 26) i k)) → (∀ k, j < k → k ≤ i → J 34 k = nI (pSo (F 26) i (k - 1))) → ∀ xi xj, xi = nI i → xj = nI j → XC xE0 d xM_78 (10, [some (.ref 33), some (.ref 26), some (.int nn), some (.int xi), some (.int xj)], [], (shG X T, J, L, F)) Q := by
    intro i hi next j
    induction j with
    | zero =>
      intro hj hp J D h1 h2 xi xj exi exj
      have c := c62 i hi next 0 hj hp J D h1 h2 xi xj exi exj
      refine XC.block [10, 55] 60 ?_
      exact And.intro (fun _ => c) (fun z => absurd (show xj ≤ 0 by rw [exj]; decide) z)
    | succ j ih =>
      intro hj hp J D h1 h2 xi xj exi exj
      have hlt : ¬ xj ≤ 0 := by rw [exj]; exact nI_nle (by omega) (by omega)
      have ej : xj - 1 = nI j := by rw [exj, nI_pred]
      have ej2 : xj + (-1) = nI j := by rw [exj]; exact pk_m1 j
      have tj1 : (xj - 1).toNatClampNeg = j := by rw [ej, nI_clamp (by omega)]
      have tj : xj.toNatClampNeg = j + 1 := by rw [exj, nI_clamp (by omega)]
      have ti : xi.toNatClampNeg = i := by rw [exi, nI_clamp (by omega)]
      have j1 : vp_in (xj - 1) 16 := rf_in ej (by omega) (by decide)
      have jin : vp_in xj 16 := rf_in exj (by omega) (by decide)
      have iin : vp_in xi 16 := rf_in exi (by omega) (by decide)
      have eo : J 34 (xj - 1).toNatClampNeg = nI (pSo (F 26) i j) := by rw [tj1]; exact h1 j (by omega)
      have ol := pSo_lt (lo := F 26) i j (by omega)
      have oin : vp_in (J 34 (xj - 1).toNatClampNeg) 16 := rf_in eo (by omega) (by decide)
      have ec : Op.cmpValue (FP.fcmp (F 26 (J 34 (xj - 1).toNatClampNeg).toNatClampNeg) (F 26 xi.toNatClampNeg)) .g = Op.cmpValue (FP.fcmp (F 26 (pSo (F 26) i j)) (F 26 i)) .g := by rw [eo, nI_clamp (by omega), ti]
      have stop : ¬ Op.cmpValue (FP.fcmp (F 26 (J 34 (xj - 1).toNatClampNeg).toNatClampNeg) (F 26 xi.toNatClampNeg)) .g < 0 → XC xE0 d xM_78 (55, [some (.ref 33), some (.ref 26), some (.int nn), some (.int xi), some (.int xj)], [], (shG X T, J, L, F)) Q := fun z => by
        rw [ec] at z
        exact c62 i hi next (j + 1) hj (hp.trans (if_neg z)) J D h1 h2 xi xj exi exj
      have D2 : ∀ b k, b ≠ 34 → x2 J 34 xj.toNatClampNeg (J 34 (xj - 1).toNatClampNeg) b k = I b k := fun b k hb => by rw [x2_o _ _ (fun e => hb e.1)]; exact D b k hb
      have go : Op.cmpValue (FP.fcmp (F 26 (J 34 (xj - 1).toNatClampNeg).toNatClampNeg) (F 26 xi.toNatClampNeg)) .g < 0 → XC xE0 d xM_78 (10, [some (.ref 33), some (.ref 26), some (.int nn), some (.int xi), some (.int (xj + (-1)))], [], (shG X T, x2 J 34 xj.toNatClampNeg (J 34 (xj - 1).toNatClampNeg), L, F)) Q := fun z => by
        rw [ec] at z
        refine ih (by omega) (hp.trans (if_pos z)) _ D2 (fun k hk => ?_) (fun k k1 k2 => ?_) xi _ exi ej2
        · rw [x2_o _ _ (by omega)]; exact h1 k (by omega)
        · rcases Nat.lt_or_ge (j + 1) k with y | y
          · rw [x2_o _ _ (by omega)]; exact h2 k y k2
          · have : k = j + 1 := by omega
            subst this
            rw [tj, x2_same]; exact eo
      refine XC.block [10, 55] 60 ?_
      refine And.intro (fun z => absurd z hlt) (fun _ => ?_)
      refine And.intro j1 ?_
      refine And.intro oin ?_
      refine And.intro iin ?_
      refine And.intro (fun z => stop (Int32.not_lt.mpr z)) (fun z => ?_)
      refine And.intro j1 ?_
      refine And.intro jin ?_
      exact go (Int32.not_le.mp z)
  have c2 : ∀ (u i : Nat), i + u = N → ∀ J, (∀ b k, b ≠ 34 → J b k = I b k) → (∀ k, k < i → J 34 k = nI (pSo (F 26) i k)) → ∀ xi, xi = nI i → ∀ y2, XC xE0 d xM_78 (2, [some (.ref 33), some (.ref 26), some (.int nn), some (.int xi), y2], [], (shG X T, J, L, F)) Q := by
    intro u
    induction u with
    | zero =>
      intro i hi J D hv xi exi y2
      have : i = N := by omega
      subst this
      have fin := hQ J D hv
      refine XC.block [2, 10] 60 ?_
      exact And.intro (fun _ => ⟨trivial, fin⟩) (fun z => absurd (show nn ≤ xi by rw [hnn, exi]; exact nI_le (by omega) (by omega)) z)
    | succ u ih =>
      intro i hi J D hv xi exi y2
      have hlt : ¬ nn ≤ xi := by rw [hnn, exi]; exact nI_ge (by omega) (by omega)
      have i1 : i + 1 + u = N := by omega
      have c := c15 i (by omega) (fun J' D' V' xi' e' y2' => ih (i + 1) i1 J' D' V' xi' e' y2') i (Nat.le_refl _) rfl J D hv (fun k k1 k2 => absurd k1 (by omega)) xi xi exi exi
      refine XC.block [2, 10] 60 ?_
      exact And.intro (fun z => absurd z hlt) (fun _ => c)
  refine XC.block [2] 60 ?_
  exact c2 (N) 0 (Nat.zero_add _) I (fun _ _ _ => rfl) (fun k hk => absurd hk (Nat.not_lt_zero _)) _ rfl _
theorem cl_addUp {N n : Nat} {o : Nat → Nat} (hN : 0 < N) (hN2 : N ≤ 16) (hn : n ≤ N) (ho : ∀ k, k < N → I 34 k = nI (o k)) (hol : ∀ k, k < N → o k < N) (hl : ∀ k, k < N → fB 172 (F 26 k)) {t : UInt32} (ht : fF t) (ht2 : fL 142 t) {nn : Int32} (hnn : nn = nI n)
    (hQ : ∀ G, fO 35 F G → (∀ i, i < n → G 35 i = pS (pCh (F 26) o t) (i + 1)) → Q none (shG X T, I, L, G)) : XM xE0 (d + 1) 80 [.ref 33, .ref 26, .float t, .int nn] (shG X T, I, L, F) Q := by
  have chk : ∀ i, i < n → fB 186 (pCh (F 26) o t i) := fun i hi => (pCh_ok (i := i) hl hol hN ht ht2 (by omega)).2.2.1
  have v0 : vp_in (0 : Int32) 16 := rf_in (j := 0) rfl (by decide) (by decide)
  have eo0 : I 34 0 = nI (o 0) := ho 0 hN
  have o0 := hol 0 hN
  have oin0 : vp_in (I 34 0) 16 := rf_in eo0 (by omega) (by decide)
  have e0 : F 26 (I 34 0).toNatClampNeg = F 26 (o 0) := by rw [eo0, nI_clamp (by omega)]
  have loop : ∀ g, g = F 26 (o 0) → ∀ (u i : Nat), i + u = n → ∀ G, fO 35 F G → (∀ j, j < i → G 35 j = pS (pCh (F 26) o t) (j + 1)) → ∀ s, s = pS (pCh (F 26) o t) i → ∀ x, x = nI i → XC xE0 (d + 1) xM_80 (16, [some (.ref 33), some (.ref 26), some (.float t), some (.int nn), some (.float g), some (.float s), some (.int x)], [], (shG X T, I, L, G)) Q := by
    intro g hg u
    induction u with
    | zero =>
      intro i hi G D hv s hs x hx
      have : i = n := by omega
      subst this
      have fin := hQ G D hv
      refine XC.block [16] 60 ?_
      exact And.intro (fun _ => ⟨trivial, fin⟩) (fun z => absurd (show nn ≤ x by rw [hnn, hx]; exact nI_le (by omega) (by omega)) z)
    | succ u ih =>
      intro i hi G D hv s hs x hx
      have hlt : ¬ nn ≤ x := by rw [hnn, hx]; exact nI_ge (by omega) (by omega)
      have xin : vp_in x 16 := rf_in hx (by omega) (by decide)
      have tx : x.toNatClampNeg = i := by rw [hx, nI_clamp (by omega)]
      have hx1 : x + 1 = nI (i + 1) := by rw [hx, nI_1]
      have eo : I 34 x.toNatClampNeg = nI (o i) := by rw [tx]; exact ho i (by omega)
      have ol := hol i (by omega)
      have oin : vp_in (I 34 x.toNatClampNeg) 16 := rf_in eo (by omega) (by decide)
      have ck := pCh_ok (i := i) hl hol hN ht ht2 (by omega)
      have l0 : G 26 (I 34 x.toNatClampNeg).toNatClampNeg = F 26 (o i) := by rw [eo, nI_clamp (by omega), D 26 _ (by decide)]
      have es : FP.fsub (G 26 (I 34 x.toNatClampNeg).toNatClampNeg) g = FP.fsub (F 26 (o i)) (F 26 (o 0)) := by rw [l0, hg]
      have g1 : vf_n32 (FP.fsub (G 26 (I 34 x.toNatClampNeg).toNatClampNeg) g) := by rw [es]; exact ck.1.n32
      have f2 : fF (FP.fdiv (FP.fsub (G 26 (I 34 x.toNatClampNeg).toNatClampNeg) g) t) := by rw [es]; exact ck.2.1
      have ea : FP.fadd s (pExp (FP.fdiv (FP.fsub (G 26 (I 34 x.toNatClampNeg).toNatClampNeg) g) t)) = pS (pCh (F 26) o t) (i + 1) := by rw [es, hs]; rfl
      have ga : vf_n32 (FP.fadd s (pExp (FP.fdiv (FP.fsub (G 26 (I 34 x.toNatClampNeg).toNatClampNeg) g) t))) := by rw [ea]; exact (pS_F (k := 186) (by decide) (by decide) (by omega) (fun j hj => chk j (by omega))).n32
      have V2 := x2_fill (f := fun j => pS (pCh (F 26) o t) (j + 1)) (k := x.toNatClampNeg) hv tx ea
      have i1 : i + 1 + u = n := by omega
      refine XC.block [16] 60 ?_
      refine And.intro (fun z => absurd z hlt) (fun _ => ?_)
      refine And.intro xin ?_
      refine And.intro oin ?_
      refine And.intro g1 ?_
      refine And.intro f2.n32 ?_
      refine fn_exp_c f2 ?_
      refine And.intro ga ?_
      refine And.intro xin ?_
      exact ih (i + 1) i1 _ D.st V2 _ ea _ hx1
  refine XC.block [16] 60 ?_
  refine And.intro v0 ?_
  refine And.intro oin0 ?_
  exact loop _ e0 n 0 (Nat.zero_add _) F fO.rf (fun j hj => absurd hj (Nat.not_lt_zero _)) _ rfl _ rfl
theorem cl_firstAtLeast {n : Nat} {ch : Nat → UInt32} {en : UInt32} (h1 : 1 ≤ n) (h2 : n ≤ 16) (hG : ∀ i, i < n → F 35 i = pS ch (i + 1)) {nn : Int32} (hnn : nn = nI n)
    (hQ : ∀ v, v = nI (pStay ch en n 0 - 1) → Q (some (.int v)) (shG X T, I, L, F)) : XM xE0 d 81 [.ref 33, .float en, .int nn] (shG X T, I, L, F) Q := by
  have e1 : nn - 1 = nI (n - 1) := by rw [hnn, nI_p1 h1]
  have st0 : pStay ch en n 0 = pStay ch en (n - 1) 1 := by
    obtain ⟨u, rfl⟩ : ∃ u, n = u + 1 := ⟨n - 1, by omega⟩
    exact if_pos (Or.inl rfl)
  have loop : ∀ (u i : Nat), i + u = n - 1 → pStay ch en u (i + 1) = pStay ch en n 0 → ∀ x, x = nI i → XC xE0 d xM_81 (2, [some (.ref 33), some (.float en), some (.int nn), some (.int x)], [], (shG X T, I, L, F)) Q := by
    intro u
    induction u with
    | zero =>
      intro i hi hE x hx
      have fin := hQ x (by rw [hx, ← hE]; rfl)
      refine XC.block [2] 60 ?_
      exact And.intro (fun _ => ⟨trivial, fin⟩) (fun z => absurd (show nn - 1 ≤ x by rw [e1, hx]; exact nI_le (by omega) (by omega)) z)
    | succ u ih =>
      intro i hi hE x hx
      have hlt : ¬ nn - 1 ≤ x := by rw [e1, hx]; exact nI_ge (by omega) (by omega)
      have xin : vp_in x 16 := rf_in hx (by omega) (by decide)
      have tx : x.toNatClampNeg = i := by rw [hx, nI_clamp (by omega)]
      have hx1 : x + 1 = nI (i + 1) := by rw [hx, nI_1]
      have es : F 35 x.toNatClampNeg = pS ch (i + 1) := by rw [tx]; exact hG i (by omega)
      have stop : ¬ Op.cmpValue (FP.fcmp (F 35 x.toNatClampNeg) en) .g < 0 → Q (some (.int x)) (shG X T, I, L, F) := fun z => by
        rw [es] at z
        have e : i + 1 = pStay ch en n 0 := (if_neg (fun w => w.elim (fun w => absurd w (Nat.succ_ne_zero i)) z)).symm.trans hE
        exact hQ x (by rw [hx, ← e]; rfl)
      have on : Op.cmpValue (FP.fcmp (F 35 x.toNatClampNeg) en) .g < 0 → pStay ch en u (i + 1 + 1) = pStay ch en n 0 := fun z => by
        rw [es] at z
        exact (if_pos (Or.inr z)).symm.trans hE
      refine XC.block [2] 60 ?_
      refine And.intro (fun z => absurd z hlt) (fun _ => ?_)
      refine And.intro xin ?_
      exact And.intro (fun z => ⟨trivial, stop (Int32.not_lt.mpr z)⟩) (fun z => ih (i + 1) (by omega) (on (Int32.not_le.mp z)) _ hx1)
  refine XC.block [2] 60 ?_
  exact loop (n - 1) 0 (Nat.zero_add _) st0.symm _ rfl
theorem cl_moveOn (hQ : ∀ L', (∀ b k, ¬ (b = 33 ∧ k = 2) → L' b k = L b k) → L' 33 2 = pSd (L 33 2) → Q none (shG X T, I, L', F)) : XM xE0 d 82 [.ref 33] (shG X T, I, L, F) Q := by
  have D3 : ∀ b k, ¬ (b = 33 ∧ k = 2) → x2 (x2 (x2 L 33 2 (pX13 (L 33 2))) 33 2 (pX7 (x2 L 33 2 (pX13 (L 33 2)) 33 2))) 33 2 (pX17 (x2 (x2 L 33 2 (pX13 (L 33 2))) 33 2 (pX7 (x2 L 33 2 (pX13 (L 33 2)) 33 2)) 33 2)) b k = L b k := fun b k h => by rw [x2_o _ _ h, x2_o _ _ h, x2_o _ _ h]
  have E3 : x2 (x2 (x2 L 33 2 (pX13 (L 33 2))) 33 2 (pX7 (x2 L 33 2 (pX13 (L 33 2)) 33 2))) 33 2 (pX17 (x2 (x2 L 33 2 (pX13 (L 33 2))) 33 2 (pX7 (x2 L 33 2 (pX13 (L 33 2)) 33 2)) 33 2)) 33 2 = pSd (L 33 2) := by rw [x2_same, x2_same, x2_same]; rfl
  have c := hQ _ D3 E3
  refine XC.block [] 60 ?_
  exact ⟨trivial, c⟩
theorem cl_pick {N n : Nat} {o : Nat → Nat} (hN : 0 < N) (hN2 : N ≤ 16) (hn1 : 1 ≤ n) (hn : n ≤ N) (ho : ∀ k, k < N → I 34 k = nI (o k)) (hol : ∀ k, k < N → o k < N) (hl : ∀ k, k < N → fB 172 (F 26 k)) {ta cc : Nat} (t0 : 0 < ta) (t4 : ta < 401) (c4 : cc < 401) {a nn c : Int32} (ha : a = nI ta) (hnn : nn = nI n) (hc : c = nI cc)
    (hQ : ∀ G, fO 35 F G → ∀ L', (∀ b k, ¬ (b = 33 ∧ k = 2) → L' b k = L b k) → L' 33 2 = pSd (L 33 2) → Q (some (.int (nI (o (pDr (pCh (F 26) o (pTm a)) c n (pSd (L 33 2))))))) (shG X T, I, L', G)) : XM xE0 (d + 2) 79 [.ref 33, .ref 26, .int a, .int nn, .int c] (shG X T, I, L, F) Q := by
  have tk := pTm_ok t0 t4
  rw [← ha] at tk
  have chk : ∀ i, i < n → fB 186 (pCh (F 26) o (pTm a) i) := fun i hi => (pCh_ok (i := i) hl hol hN tk.1 tk.2 (by omega)).2.2.1
  have ge := pEn_ok (n := n) chk (by omega) c4
  rw [← hc] at ge
  have st1 := pStay_1 (ch := pCh (F 26) o (pTm a)) (en := pEn c (pCh (F 26) o (pTm a)) n) (n := n) (by omega)
  have sF : ∀ i, i ≤ n → fF (pS (pCh (F 26) o (pTm a)) i) := fun i hi => pS_F (k := 186) (by decide) (by decide) (by omega) (fun j hj => chk j (by omega))
  have sB : ∀ i, i ≤ n → fB 190 (pS (pCh (F 26) o (pTm a)) i) := fun i hi => pS_B (k := 186) (by decide) (by decide) (by omega) (fun j hj => chk j (by omega))
  have e1 : nn - 1 = nI (n - 1) := by rw [hnn, nI_p1 hn1]
  have n1in : vp_in (nn - 1) 16 := rf_in e1 (by omega) (by decide)
  have c65 : ∀ G, fO 35 F G → (∀ i, i < n → G 35 i = pS (pCh (F 26) o (pTm a)) (i + 1)) → ∀ L', (∀ b k, ¬ (b = 33 ∧ k = 2) → L' b k = L b k) → L' 33 2 = pSd (L 33 2) → ∀ f5 x6 f7, x6 = nI (pStay (pCh (F 26) o (pTm a)) (pEn c (pCh (F 26) o (pTm a)) n) n 0 - 1) → f7 = pDd (pSd (L 33 2)) (pS (pCh (F 26) o (pTm a)) (pStay (pCh (F 26) o (pTm a)) (pEn c (pCh (F 26) o (pTm a)) n) n 0)) → ∀ (u i : Nat), i + u = pStay (pCh (F 26) o (pTm a)) (pEn c (pCh (F 26) o (pTm a)) n) n 0 - 1 → pPk (pCh (F 26) o (pTm a)) f7 (u + 1) i = pPk (pCh (F 26) o (pTm a)) f7 (pStay (pCh (F 26) o (pTm a)) (pEn c (pCh (F 26) o (pTm a)) n) n 0) 0 → ∀ x8, x8 = nI i → XC xE0 (d + 2) xM_79 (65, [some (.ref 33), some (.ref 26), some (.int a), some (.int nn), some (.int c), some (.float f5), some (.int x6), some (.float f7), some (.int x8)], [], (shG X T, I, L', G)) Q := by
    intro G D hv L' DL eL f5 x6 f7 h6 h7 u
    have f7F : fF f7 := by rw [h7]; exact (pDd_ok (sB _ st1.2)).2
    have gl : ∀ i, i ≤ n → Op.cmpValue (FP.fcmp (pS (pCh (F 26) o (pTm a)) i) f7) .g = Op.cmpValue (FP.fcmp (pS (pCh (F 26) o (pTm a)) i) f7) .l := fun i hi => (fcmp_v (sF i hi) f7F .g).trans (fcmp_v (sF i hi) f7F .l).symm
    induction u with
    | zero =>
      intro i hi hE x8 h8
      have xin : vp_in x8 16 := rf_in h8 (by omega) (by decide)
      have e : pPk (pCh (F 26) o (pTm a)) f7 1 i = i := by
        show (if 0 < Op.cmpValue (FP.fcmp (pS (pCh (F 26) o (pTm a)) (i + 1)) f7) .l then i else (i + 1) - 1) = i
        split <;> omega
      have fin : Q (some (.int (I 34 x8.toNatClampNeg))) (shG X T, I, L', G) := by
        rw [h8, nI_clamp (by omega), ho i (by omega)]
        have q := hQ G D L' DL eL
        unfold pDr at q
        rw [← h7, ← hE, e] at q
        exact q
      refine XC.block [65] 60 ?_
      exact And.intro (fun _ => And.intro xin ⟨trivial, fin⟩) (fun z => absurd (show x6 ≤ x8 by rw [h6, h8]; exact nI_le (by omega) (by omega)) z)
    | succ u ih =>
      intro i hi hE x8 h8
      have hlt : ¬ x6 ≤ x8 := by rw [h6, h8]; exact nI_ge (by omega) (by omega)
      have xin : vp_in x8 16 := rf_in h8 (by omega) (by decide)
      have tx : x8.toNatClampNeg = i := by rw [h8, nI_clamp (by omega)]
      have hx1 : x8 + 1 = nI (i + 1) := by rw [h8, nI_1]
      have es : G 35 x8.toNatClampNeg = pS (pCh (F 26) o (pTm a)) (i + 1) := by rw [tx]; exact hv i (by omega)
      have yes : 0 < Op.cmpValue (FP.fcmp (G 35 x8.toNatClampNeg) f7) .g → Q (some (.int (I 34 x8.toNatClampNeg))) (shG X T, I, L', G) := fun z => by
        rw [es, gl (i + 1) (by omega)] at z
        rw [tx, ho i (by omega)]
        have e : pPk (pCh (F 26) o (pTm a)) f7 (u + 1 + 1) i = i := if_pos z
        have q := hQ G D L' DL eL
        unfold pDr at q
        rw [← h7, ← hE, e] at q
        exact q
      have no : ¬ 0 < Op.cmpValue (FP.fcmp (G 35 x8.toNatClampNeg) f7) .g → pPk (pCh (F 26) o (pTm a)) f7 (u + 1) (i + 1) = pPk (pCh (F 26) o (pTm a)) f7 (pStay (pCh (F 26) o (pTm a)) (pEn c (pCh (F 26) o (pTm a)) n) n 0) 0 := fun z => by
        rw [es, gl (i + 1) (by omega)] at z
        exact (if_neg z).symm.trans hE
      refine XC.block [65] 60 ?_
      refine And.intro (fun z => absurd z hlt) (fun _ => ?_)
      refine And.intro xin ?_
      refine And.intro (fun z => And.intro xin ⟨trivial, yes z⟩) (fun z => ?_)
      exact ih (i + 1) (by omega) (no z) _ hx1
  have c41 : ∀ G, fO 35 F G → (∀ i, i < n → G 35 i = pS (pCh (F 26) o (pTm a)) (i + 1)) → ∀ L', (∀ b k, ¬ (b = 33 ∧ k = 2) → L' b k = L b k) → L' 33 2 = pSd (L 33 2) → ∀ f5 x6, x6 = nI (pStay (pCh (F 26) o (pTm a)) (pEn c (pCh (F 26) o (pTm a)) n) n 0 - 1) → XC xE0 (d + 2) xM_79 (41, [some (.ref 33), some (.ref 26), some (.int a), some (.int nn), some (.int c), some (.float f5), some (.int x6), none, none], [], (shG X T, I, L', G)) Q := by
    intro G D hv L' DL eL f5 x6 h6
    have xin : vp_in x6 16 := rf_in h6 (by omega) (by decide)
    have es : G 35 x6.toNatClampNeg = pS (pCh (F 26) o (pTm a)) (pStay (pCh (F 26) o (pTm a)) (pEn c (pCh (F 26) o (pTm a)) n) n 0) := by
      rw [h6, nI_clamp (by omega), hv _ (by omega)]
      congr 1
      omega
    have b8 : fB 190 (G 35 x6.toNatClampNeg) := by rw [es]; exact sB _ st1.2
    have g := pDd_ok (w := L' 33 2) b8
    have ed : pDd (L' 33 2) (G 35 x6.toNatClampNeg) = pDd (pSd (L 33 2)) (pS (pCh (F 26) o (pTm a)) (pStay (pCh (F 26) o (pTm a)) (pEn c (pCh (F 26) o (pTm a)) n) n 0)) := by rw [eL, es]
    have k := c65 G D hv L' DL eL f5 x6 _ h6 ed (pStay (pCh (F 26) o (pTm a)) (pEn c (pCh (F 26) o (pTm a)) n) n 0 - 1) 0 (Nat.zero_add _) (by rw [Nat.sub_add_cancel st1.1]) _ rfl
    refine XC.block [65] 60 ?_
    refine And.intro g.1.n32 ?_
    refine And.intro xin ?_
    refine And.intro g.2.n32 ?_
    exact k
  have c26 : ∀ G, fO 35 F G → (∀ i, i < n → G 35 i = pS (pCh (F 26) o (pTm a)) (i + 1)) → ∀ f5, f5 = pEn c (pCh (F 26) o (pTm a)) n → XC xE0 (d + 2) xM_79 (26, [some (.ref 33), some (.ref 26), some (.int a), some (.int nn), some (.int c), none, none, none, none], [.float f5], (shG X T, I, L, G)) Q := by
    intro G D hv f5 h5
    subst h5
    refine XC.block [41] 60 ?_
    refine cl_firstAtLeast hn1 (by omega) hv hnn (fun v hv' => ?_)
    refine cl_moveOn (fun L' DL eL => ?_)
    exact c41 G D hv L' DL eL _ _ hv'
  refine XC.block [26] 60 ?_
  refine And.intro tk.1.n32 ?_
  refine cl_addUp hN hN2 hn ho hol hl tk.1 tk.2 hnn (fun G D hv => ?_)
  have en1 : G 35 (nn - 1).toNatClampNeg = pS (pCh (F 26) o (pTm a)) n := by
    rw [e1, nI_clamp (by omega), hv _ (by omega)]
    congr 1
    omega
  have g2 : vf_n32 (FP.fmul (FP.fdiv (FP.i2f c) 1120403456) (G 35 (nn - 1).toNatClampNeg)) := by rw [en1]; exact ge.2.n32
  have k := c26 G D hv (FP.fmul (FP.fdiv (FP.i2f c) 1120403456) (G 35 (nn - 1).toNatClampNeg)) (by rw [en1]; rfl)
  refine And.intro ge.1.n32 ?_
  refine And.intro n1in ?_
  refine And.intro g2 ?_
  exact k
end CCA
