/-! encode: as functions; of the reference on paper -/
/-- the TOKEN of one OCTET: the least, else 0 -/
def pFd (M : pMd) (o : Nat) : Nat → Nat → Nat
  | 0, r => r
  | j + 1, r => pFd M o j (if mTl M j = 1 ∧ mTc M j 0 = o then j else r)
/-- the first place of a pair -/
def pFi (en : Nat → Nat) (a b : Nat) : Nat → Nat → Option Nat
  | 0, _ => none
  | u + 1, i => if en i = a ∧ en (i + 1) = b then some i else pFi en a b u (i + 1)
/-- the first MERGE that can be done, and where -/
def pFm (M : pMd) (en : Nat → Nat) (c : Nat) : Nat → Nat → Option (Nat × Nat)
  | 0, _ => none
  | u + 1, m => match pFi en (mMa M m) (mMb M m) (c - 1) 0 with
    | some i => some (m, i)
    | none => pFm M en c u (m + 1)
def pJn (en : Nat → Nat) (i v k : Nat) : Nat := if k < i then en k else if k = i then v else en (k + 1)
def pMl (M : pMd) : Nat → (Nat → Nat) × Nat → (Nat → Nat) × Nat
  | 0, e => e
  | u + 1, e => match pFm M e.1 e.2 (mFa M 7) 0 with
    | none => e
    | some (m, i) => pMl M u (pJn e.1 i (mMt M m), e.2 - 1)
/-- a TEXT as TOKENS -/
def pEc (M : pMd) (x : Nat → Nat) (n : Nat) : (Nat → Nat) × Nat := pMl M n (fun k => pFd M (x k) (mFa M 6) 0, n)
theorem pFd_lt {M : pMd} {o N : Nat} : ∀ j r, j ≤ N → r < N → pFd M o j r < N
  | 0, r, _, h => h
  | j + 1, r, hj, h => by
    refine pFd_lt j _ (by omega) ?_
    split <;> omega
theorem pFi_some {en : Nat → Nat} {a b : Nat} : ∀ u i k, pFi en a b u i = some k → i ≤ k ∧ k < i + u ∧ en k = a ∧ en (k + 1) = b
  | 0, i, k, h => by cases h
  | u + 1, i, k, h => by
    have h : (if en i = a ∧ en (i + 1) = b then some i else pFi en a b u (i + 1)) = some k := h
    split at h
    · rename_i y
      injection h with h
      subst h
      exact ⟨Nat.le_refl _, by omega, y.1, y.2⟩
    · have := pFi_some u (i + 1) k h
      omega
section RUL
variable {M : pMd} {I J : Nat → Nat → Int32} {L : Nat → Nat → Int64} {F G : Nat → Nat → UInt32} {d : Nat} {Q : xP}
/-- TOKENS as the reference holds them -/
def rfEn (N : Nat) (en : Nat → Nat) (c : Nat) (J : Nat → Nat → Int32) : Prop := (∀ k, k < c → J 29 k = nI (en k)) ∧ (∀ k, k < c → en k < N) ∧ J 0 59 = nI c ∧ c ≤ 24
/-- what encode may change -/
def rfEJ (I J : Nat → Nat → Int32) : Prop := ∀ b k, b ≠ 29 → ¬ (b = 0 ∧ k = 59) → J b k = I b k
theorem rfEJ.st {k : Nat} {v : Int32} (h : rfEJ I J) : rfEJ I (x2 J 29 k v) := fun b k' h1 h2 => (x2_o _ _ (fun e => h1 e.1)).trans (h b k' h1 h2)
/-- a merge is done: back to the loop -/
theorem rf_ec233 {en : Nat → Nat} {c : Nat} (hm : mGd M) {m i : Nat} (hmm : m < mFa M 7) (hi : i < 24) {xm xi : Int32} (exm : xm = nI m) (exi : xi = nI i) (hE : rfEn (mFa M 6) en c J) (e7 : J 17 7 = nI (mFa M 7))
    (next : ∀ y2 y3 y4, XC xE0 d xM_59 (102, [some (.ref 0), some (.int 1), y2, y3, y4], [], (sh2, J, L, F)) Q) {y4 : Option Value} : XC xE0 d xM_59 (233, [some (.ref 0), some (.int 1), some (.int xm), some (.int xi), y4], [], (sh2, J, L, F)) Q := by
  have v7 : vp_in (7 : Int32) 12 := rf_in (j := 7) rfl (by decide) (by decide)
  refine XC.block [102] 60 ?_
  refine And.intro (fun _ => ?_) (fun _ => ?_)
  · refine And.intro v7 ?_
    exact And.intro (fun _ => next _ _ _) (fun _ => And.intro (fun _ => next _ _ _) (fun z => absurd (show ¬ (1 : Int32) = 0 by decide) z))
  · refine And.intro (fun _ => ?_) (fun z => absurd (show ¬ (1 : Int32) = 0 by decide) z)
    refine And.intro v7 ?_
    exact And.intro (fun _ => next _ _ _) (fun _ => And.intro (fun _ => next _ _ _) (fun z => absurd (show ¬ (1 : Int32) = 0 by decide) z))
/-- the places behind move up -/
theorem rf_ec202 {en : Nat → Nat} {c : Nat} (hm : mGd M) {m i v : Nat} (hmm : m < mFa M 7) (hi : i + 1 < c) (hc : c ≤ 24) {xm xi : Int32} (exm : xm = nI m) (exi : xi = nI i) (hv : v < mFa M 6) (hen : ∀ k, k < c → en k < mFa M 6) (e7 : I 17 7 = nI (mFa M 7))
    (next : ∀ J, rfEJ I J → rfEn (mFa M 6) (pJn en i v) (c - 1) J → ∀ y2 y3 y4, XC xE0 d xM_59 (102, [some (.ref 0), some (.int 1), y2, y3, y4], [], (sh2, J, L, F)) Q) :
    ∀ (u j : Nat), j + u = c - 1 → i < j → ∀ J, rfEJ I J → J 0 59 = nI (c - 1) → (∀ k, k < j → J 29 k = nI (pJn en i v k)) → (∀ k, j ≤ k → k < c → J 29 k = nI (en k)) → ∀ xj, xj = nI j → XC xE0 d xM_59 (202, [some (.ref 0), some (.int 1), some (.int xm), some (.int xi), some (.int xj)], [], (sh2, J, L, F)) Q := by
  intro u
  induction u with
  | zero =>
    intro j hj hij J D h59 h1 h2 xj exj
    have : j = c - 1 := by omega
    subst this
    have hE : rfEn (mFa M 6) (pJn en i v) (c - 1) J := by
      refine ⟨h1, fun k hk => ?_, h59, by omega⟩
      unfold pJn
      split
      · exact hen k (by omega)
      · split
        · exact hv
        · exact hen (k + 1) (by omega)
    have c233 := rf_ec233 (d := d) (L := L) (F := F) (Q := Q) hm hmm (show i < 24 by omega) exm exi hE ((D 17 7 (by decide) (by omega)).trans e7) (next J D hE) (y4 := some (.int xj))
    refine XC.block [202, 233] 60 ?_
    exact And.intro (fun _ => c233) (fun z => absurd (show J 0 59 ≤ xj by rw [h59, exj]; exact nI_le (by omega) (by omega)) z)
  | succ u ih =>
    intro j hj hij J D h59 h1 h2 xj exj
    have hlt : ¬ J 0 59 ≤ xj := by rw [h59, exj]; exact nI_ge (by omega) (by omega)
    have ej1 : xj + 1 = nI (j + 1) := by rw [exj, nI_1]
    have jin : vp_in xj 24 := rf_in exj (by omega) (by decide)
    have jin1 : vp_in (xj + 1) 24 := rf_in ej1 (by omega) (by decide)
    have tj : xj.toNatClampNeg = j := by rw [exj, nI_clamp (by omega)]
    have ev : J 29 (xj + 1).toNatClampNeg = nI (en (j + 1)) := by rw [ej1, nI_clamp (by omega)]; exact h2 (j + 1) (by omega) (by omega)
    have a1 : x2 J 29 xj.toNatClampNeg (J 29 (xj + 1).toNatClampNeg) 0 59 = nI (c - 1) := by rw [x2_o _ _ (by omega)]; exact h59
    have a2 : ∀ k, k < j + 1 → x2 J 29 xj.toNatClampNeg (J 29 (xj + 1).toNatClampNeg) 29 k = nI (pJn en i v k) := by
      intro k hk
      rcases Nat.lt_or_ge k j with y | y
      · rw [x2_o _ _ (by omega)]; exact h1 k y
      · have : k = j := by omega
        subst this
        rw [show ∀ w, x2 J 29 xj.toNatClampNeg w 29 k = w from fun w => by rw [tj, x2_same], ev]
        unfold pJn
        rw [if_neg (by omega), if_neg (by omega)]
    have a3 : ∀ k, j + 1 ≤ k → k < c → x2 J 29 xj.toNatClampNeg (J 29 (xj + 1).toNatClampNeg) 29 k = nI (en k) := fun k h h' => by rw [x2_o _ _ (by omega)]; exact h2 k (by omega) h'
    refine XC.block [202, 233] 60 ?_
    refine And.intro (fun z => absurd z hlt) (fun _ => ?_)
    refine And.intro jin1 ?_
    refine And.intro jin ?_
    exact ih (j + 1) (by omega) (by omega) _ D.st a1 a2 a3 _ ej1
theorem rf_ec127 (hM : rfMd M I F) (hm : mGd M) {en : Nat → Nat} {c : Nat} {m : Nat} (hmm : m < mFa M 7) {xm : Int32} (exm : xm = nI m) {J : Nat → Nat → Int32} (D : rfEJ I J) (hE : rfEn (mFa M 6) en c J)
    (next : ∀ i, pFi en (mMa M m) (mMb M m) (c - 1) 0 = some i → ∀ J, rfEJ I J → rfEn (mFa M 6) (pJn en i (mMt M m)) (c - 1) J → ∀ y2 y3 y4, XC xE0 d xM_59 (102, [some (.ref 0), some (.int 1), y2, y3, y4], [], (sh2, J, L, F)) Q)
    (none_ : pFi en (mMa M m) (mMb M m) (c - 1) 0 = none → ∀ y3 y4, XC xE0 d xM_59 (239, [some (.ref 0), some (.int 0), some (.int xm), y3, y4], [], (sh2, J, L, F)) Q) :
    ∀ (u i : Nat), i + u = c - 1 → pFi en (mMa M m) (mMb M m) u i = pFi en (mMa M m) (mMb M m) (c - 1) 0 → ∀ xi, xi = nI i → ∀ y4, XC xE0 d xM_59 (127, [some (.ref 0), some (.int 0), some (.int xm), some (.int xi), y4], [], (sh2, J, L, F)) Q := by
  obtain ⟨e1, e2, e3, e4⟩ := hE
  have h7 := hm.1.2.2.2.2.2.2.2.1
  have h6 := hm.1.2.2.2.2.2.2.1
  obtain ⟨g1, g2, g3⟩ := hm.2.2.2.2.2 m hmm
  obtain ⟨m1, m2, m3⟩ := hM.2.2.2.1 m hmm
  have min_ : vp_in xm 12 := rf_in exm (by omega) (by decide)
  have tm : xm.toNatClampNeg = m := by rw [exm, nI_clamp (by omega)]
  have w1 : J 20 xm.toNatClampNeg = nI (mMa M m) := by rw [tm, D 20 m (by decide) (by omega)]; exact m1
  have w2 : J 21 xm.toNatClampNeg = nI (mMb M m) := by rw [tm, D 21 m (by decide) (by omega)]; exact m2
  have w3 : J 22 xm.toNatClampNeg = nI (mMt M m) := by rw [tm, D 22 m (by decide) (by omega)]; exact m3
  intro u
  induction u with
  | zero =>
    intro i hi hp xi exi y4
    have ei1 : xi + 1 = nI (i + 1) := by rw [exi, nI_1]
    have n := none_ hp.symm
    refine XC.block [127, 239] 60 ?_
    exact And.intro (fun _ => n _ _) (fun z => absurd (show J 0 59 ≤ xi + 1 by rw [e3, ei1]; exact nI_le (by omega) (by omega)) z)
  | succ u ih =>
    intro i hi hp xi exi y4
    have ei1 : xi + 1 = nI (i + 1) := by rw [exi, nI_1]
    have hlt : ¬ J 0 59 ≤ xi + 1 := by rw [e3, ei1]; exact nI_ge (by omega) (by omega)
    have iin : vp_in xi 24 := rf_in exi (by omega) (by decide)
    have iin1 : vp_in (xi + 1) 24 := rf_in ei1 (by omega) (by decide)
    have ti : xi.toNatClampNeg = i := by rw [exi, nI_clamp (by omega)]
    have v1 : J 29 xi.toNatClampNeg = nI (en i) := by rw [ti]; exact e1 i (by omega)
    have v2 : J 29 (xi + 1).toNatClampNeg = nI (en (i + 1)) := by rw [ei1, nI_clamp (by omega)]; exact e1 (i + 1) (by omega)
    have l1 := e2 i (by omega)
    have l2 := e2 (i + 1) (by omega)
    have q1 : J 29 xi.toNatClampNeg = J 20 xm.toNatClampNeg ↔ en i = mMa M m := by rw [v1, w1, nI_eq (by omega) (by omega)]
    have q2 : J 29 (xi + 1).toNatClampNeg = J 21 xm.toNatClampNeg ↔ en (i + 1) = mMb M m := by rw [v2, w2, nI_eq (by omega) (by omega)]
    have no : ¬ (en i = mMa M m ∧ en (i + 1) = mMb M m) → ∀ xi', xi' = nI (i + 1) → XC xE0 d xM_59 (127, [some (.ref 0), some (.int 0), some (.int xm), some (.int xi'), y4], [], (sh2, J, L, F)) Q := fun z xi' e' => ih (i + 1) (by omega) ((if_neg z).symm.trans hp) xi' e' y4
    have e7 : J 17 7 = nI (mFa M 7) := (D 17 7 (by decide) (by omega)).trans (hM.2.1 7 (by decide))
    have c197 : en i = mMa M m ∧ en (i + 1) = mMb M m → XC xE0 d xM_59 (202, [some (.ref 0), some (.int 1), some (.int xm), some (.int xi), some (.int (xi + 1))], [], (sh2, x2 (x2 J 29 xi.toNatClampNeg (J 22 xm.toNatClampNeg)) 0 59 (x2 J 29 xi.toNatClampNeg (J 22 xm.toNatClampNeg) 0 59 - 1), L, F)) Q := fun z => by
      have f : pFi en (mMa M m) (mMb M m) (c - 1) 0 = some i := hp.symm.trans (if_pos z)
      refine rf_ec202 (I := I) hm hmm (by omega) e4 exm exi g3 e2 (hM.2.1 7 (by decide)) (next i f) (c - 1 - (i + 1)) (i + 1) (by omega) (by omega) _ (fun b k h1 h2 => ?_) ?_ (fun k hk => ?_) (fun k k1 k2 => ?_) _ ei1
      · rw [x2_o _ _ h2, x2_o _ _ (fun w => h1 w.1)]; exact D b k h1 h2
      · rw [x2_same, x2_o _ _ (by omega), e3, nI_p1 (by omega)]
      · rw [x2_o _ _ (by omega), ti]
        unfold pJn
        rcases Nat.lt_or_ge k i with y | y
        · rw [x2_o _ _ (by omega), if_pos y]; exact e1 k (by omega)
        · have : k = i := by omega
          subst this
          rw [x2_same, if_neg (by omega), if_pos rfl]; exact w3
      · rw [x2_o _ _ (by omega), x2_o _ _ (by omega)]; exact e1 k (by omega)
    refine XC.block [127, 202, 239] 60 ?_
    refine And.intro (fun z => absurd z hlt) (fun _ => ?_)
    refine And.intro (fun z => absurd (show (0 : Int32) = 0 from rfl) z) (fun _ => ?_)
    refine And.intro iin ?_
    refine And.intro min_ ?_
    refine And.intro (fun z => no (fun w => z (q1.mpr w.1)) _ ei1) (fun z1 => ?_)
    refine And.intro iin1 ?_
    refine And.intro min_ ?_
    refine And.intro (fun z => no (fun w => z (q2.mpr w.2)) _ ei1) (fun z2 => ?_)
    refine And.intro min_ ?_
    refine And.intro iin ?_
    exact c197 ⟨q1.mp (Classical.not_not.mp z1), q2.mp (Classical.not_not.mp z2)⟩
theorem rf_ec110 (hM : rfMd M I F) (hm : mGd M) {en : Nat → Nat} {c : Nat} {J : Nat → Nat → Int32} (D : rfEJ I J) (hE : rfEn (mFa M 6) en c J)
    (next : ∀ m i, pFm M en c (mFa M 7) 0 = some (m, i) → i + 1 < c → m < mFa M 7 → ∀ J, rfEJ I J → rfEn (mFa M 6) (pJn en i (mMt M m)) (c - 1) J → ∀ y2 y3 y4, XC xE0 d xM_59 (102, [some (.ref 0), some (.int 1), y2, y3, y4], [], (sh2, J, L, F)) Q)
    (none_ : pFm M en c (mFa M 7) 0 = none → Q (some (.int (nI c))) (sh2, J, L, F)) :
    ∀ (u m : Nat), m + u = mFa M 7 → pFm M en c u m = pFm M en c (mFa M 7) 0 → ∀ xm, xm = nI m → ∀ y3 y4, XC xE0 d xM_59 (110, [some (.ref 0), some (.int 0), some (.int xm), y3, y4], [], (sh2, J, L, F)) Q := by
  have h7 := hm.1.2.2.2.2.2.2.2.1
  have v7 : vp_in (7 : Int32) 12 := rf_in (j := 7) rfl (by decide) (by decide)
  have e7 : J 17 7 = nI (mFa M 7) := (D 17 7 (by decide) (by omega)).trans (hM.2.1 7 (by decide))
  intro u
  induction u with
  | zero =>
    intro m hmu hp xm exm y3 y4
    have fin : Q (some (.int (J 0 59))) (sh2, J, L, F) := by rw [hE.2.2.1]; exact none_ hp.symm
    refine XC.block [110] 60 ?_
    refine And.intro v7 ?_
    refine And.intro (fun _ => ?_) (fun z => absurd (show J 17 7 ≤ xm by rw [e7, exm]; exact nI_le (by omega) (by omega)) z)
    exact And.intro (fun _ => ⟨trivial, fin⟩) (fun z => absurd (show (0 : Int32) = 0 from rfl) z)
  | succ u ih =>
    intro m hmu hp xm exm y3 y4
    have hlt : ¬ J 17 7 ≤ xm := by rw [e7, exm]; exact nI_ge (by omega) (by omega)
    have xm1 : xm + 1 = nI (m + 1) := by rw [exm, nI_1]
    have go : ∀ xi, xi = nI 0 → XC xE0 d xM_59 (127, [some (.ref 0), some (.int 0), some (.int xm), some (.int xi), y4], [], (sh2, J, L, F)) Q := fun xi exi => by
      refine rf_ec127 hM hm (by omega) exm D hE (fun i f => ?_) (fun f y3 y4 => ?_) (c - 1) 0 (Nat.zero_add _) rfl xi exi y4
      · have e : pFm M en c (mFa M 7) 0 = some (m, i) := by
          rw [← hp]
          show (match pFi en (mMa M m) (mMb M m) (c - 1) 0 with | some i => some (m, i) | none => pFm M en c u (m + 1)) = _
          rw [f]
        have b := pFi_some _ _ _ f
        exact next m i e (by omega) (by omega)
      · have e : pFm M en c u (m + 1) = pFm M en c (mFa M 7) 0 := by
          rw [← hp]
          show _ = (match pFi en (mMa M m) (mMb M m) (c - 1) 0 with | some i => some (m, i) | none => pFm M en c u (m + 1))
          rw [f]
        have k := ih (m + 1) (by omega) e _ xm1 y3 y4
        refine XC.block [110] 60 ?_
        exact k
    refine XC.block [110, 127] 60 ?_
    refine And.intro v7 ?_
    refine And.intro (fun z => absurd z hlt) (fun _ => ?_)
    exact And.intro (fun z => absurd (show (0 : Int32) = 0 from rfl) z) (fun _ => go _ rfl)
theorem rf_ec102 (hM : rfMd M I F) (hm : mGd M) : ∀ (u : Nat) (e : (Nat → Nat) × Nat), e.2 ≤ u → (∀ J, rfEJ I J → rfEn (mFa M 6) (pMl M u e).1 (pMl M u e).2 J → Q (some (.int (nI (pMl M u e).2))) (sh2, J, L, F)) → ∀ J, rfEJ I J → rfEn (mFa M 6) e.1 e.2 J → ∀ y2 y3 y4, XC xE0 d xM_59 (102, [some (.ref 0), some (.int 1), y2, y3, y4], [], (sh2, J, L, F)) Q := by
  intro u
  induction u with
  | zero =>
    intro e he hQ J D hE y2 y3 y4
    have go : ∀ xm, xm = nI 0 → ∀ y3 y4, XC xE0 d xM_59 (110, [some (.ref 0), some (.int 0), some (.int xm), y3, y4], [], (sh2, J, L, F)) Q := fun xm exm y3 y4 => rf_ec110 hM hm D hE (fun m i f hi => absurd hi (by omega)) (fun _ => hQ J D hE) (mFa M 7) 0 (Nat.zero_add _) rfl xm exm y3 y4
    refine XC.block [110] 60 ?_
    exact And.intro (fun z => absurd (show (1 : Int32) = 0 from z) (by decide)) (fun _ => go _ rfl _ _)
  | succ u ih =>
    intro e he hQ J D hE y2 y3 y4
    have go : ∀ xm, xm = nI 0 → ∀ y3 y4, XC xE0 d xM_59 (110, [some (.ref 0), some (.int 0), some (.int xm), y3, y4], [], (sh2, J, L, F)) Q := fun xm exm y3 y4 => by
      refine rf_ec110 hM hm D hE (fun m i f hi hmm J' D' hE' => ?_) (fun f => ?_) (mFa M 7) 0 (Nat.zero_add _) rfl xm exm y3 y4
      · have ee : pMl M (u + 1) e = pMl M u (pJn e.1 i (mMt M m), e.2 - 1) := by
          show (match pFm M e.1 e.2 (mFa M 7) 0 with | none => e | some (m, i) => pMl M u (pJn e.1 i (mMt M m), e.2 - 1)) = _
          rw [f]
        rw [ee] at hQ
        exact ih (pJn e.1 i (mMt M m), e.2 - 1) (by show e.2 - 1 ≤ u; omega) hQ J' D' hE'
      · have ee : pMl M (u + 1) e = e := by
          show (match pFm M e.1 e.2 (mFa M 7) 0 with | none => e | some (m, i) => pMl M u (pJn e.1 i (mMt M m), e.2 - 1)) = _
          rw [f]
        rw [ee] at hQ
        exact hQ J D hE
    refine XC.block [110] 60 ?_
    exact And.intro (fun z => absurd (show (1 : Int32) = 0 from z) (by decide)) (fun _ => go _ rfl _ _)
/-- the TOKEN of an OCTET -/
theorem rf_ec50 (hM : rfMd M I F) (hm : mGd M) {i o : Nat} (hi : i < 24) (ho : o < 256) {xi : Int32} (exi : xi = nI i) {J0 : Nat → Nat → Int32} (D0 : rfEJ I J0) (hx : J0 28 i = nI o)
    (next : ∀ J, (∀ b k, ¬ (b = 29 ∧ k = i) → J b k = J0 b k) → J 29 i = nI (pFd M o (mFa M 6) 0) → ∀ xi, xi = nI (i + 1) → ∀ y2, XC xE0 d xM_59 (25, [some (.ref 0), some (.int xi), y2, none, none], [], (sh2, J, L, F)) Q) :
    ∀ (j : Nat), j ≤ mFa M 6 → ∀ r, pFd M o j r = pFd M o (mFa M 6) 0 → ∀ J, (∀ b k, ¬ (b = 29 ∧ k = i) → J b k = J0 b k) → J 29 i = nI r → ∀ xt, xt = nI j - 1 → XC xE0 d xM_59 (50, [some (.ref 0), some (.int xi), some (.int xt), none, none], [], (sh2, J, L, F)) Q := by
  have h6 := hm.1.2.2.2.2.2.2.1
  have ex1 : xi + 1 = nI (i + 1) := by rw [exi, nI_1]
  have ti : xi.toNatClampNeg = i := by rw [exi, nI_clamp (by omega)]
  have iin : vp_in xi 24 := rf_in exi hi (by decide)
  intro j
  induction j with
  | zero =>
    intro hj r hp J D hr xt ext
    have k := next J D (by rw [hr, ← hp]; rfl) _ ex1
    refine XC.block [25, 50] 60 ?_
    exact And.intro (fun _ => k _) (fun z => absurd (show xt < 0 by rw [ext]; decide) z)
  | succ j ih =>
    intro hj r hp J D hr xt ext
    rw [nI_pred] at ext
    have hlt : ¬ xt < 0 := by rw [ext]; exact nI_pos (by omega)
    have tin : vp_in xt 16 := rf_in ext (by omega) (by decide)
    have tt : xt.toNatClampNeg = j := by rw [ext, nI_clamp (by omega)]
    have xt1 : xt + (-1) = nI j - 1 := by rw [ext]; exact (Int32.sub_eq_add_neg _ _).symm
    have q := hM.2.2.1 j (by omega)
    have tl := (hm.2.2.2.2.1 j (by omega)).1
    have e19 : J 19 xt.toNatClampNeg = nI (mTl M j) := by rw [tt, D 19 j (by omega), D0 19 j (by decide) (by omega)]; exact q.1
    have c1 : J 19 xt.toNatClampNeg = 1 ↔ mTl M j = 1 := by rw [e19, show (1 : Int32) = nI 1 from rfl, nI_eq (by omega) (by decide)]
    have e4 : 4 * xt = nI (4 * j + 0) := by rw [ext, show (4 : Int32) = nI 4 from rfl, nI_mul]; rfl
    have lin : vp_in (4 * xt) 64 := rf_in e4 (by omega) (by decide)
    have ex : J 28 xi.toNatClampNeg = nI o := by rw [ti, D 28 i (by omega)]; exact hx
    have c2 : mTl M j = 1 → (J 18 (4 * xt).toNatClampNeg = J 28 xi.toNatClampNeg ↔ mTc M j 0 = o) := fun z => by
      rw [ex, e4, nI_clamp (by omega), D 18 _ (by omega), D0 18 _ (by decide) (by omega), q.2 0 (by omega)]
      have := (hm.2.2.2.2.1 j (by omega)).2 0 (by omega)
      rw [nI_eq (by omega) (by omega)]
    have no : ¬ (mTl M j = 1 ∧ mTc M j 0 = o) → ∀ xt', xt' = nI j - 1 → XC xE0 d xM_59 (50, [some (.ref 0), some (.int xi), some (.int xt'), none, none], [], (sh2, J, L, F)) Q := fun z xt' e' => ih (by omega) r ((congrArg (pFd M o j) (if_neg z)).symm.trans hp) J D hr xt' e'
    have yes : mTl M j = 1 ∧ mTc M j 0 = o → ∀ xt', xt' = nI j - 1 → XC xE0 d xM_59 (50, [some (.ref 0), some (.int xi), some (.int xt'), none, none], [], (sh2, x2 J 29 xi.toNatClampNeg xt, L, F)) Q := fun z xt' e' => by
      refine ih (by omega) j ((congrArg (pFd M o j) (if_pos z)).symm.trans hp) _ (fun b k h => ?_) ?_ xt' e'
      · rw [x2_o _ _ (by rw [ti]; exact h)]; exact D b k h
      · rw [ti, x2_same]; exact ext
    refine XC.block [25, 50] 60 ?_
    refine And.intro (fun z => absurd z hlt) (fun _ => ?_)
    refine And.intro tin ?_
    refine And.intro (fun z => no (fun w => z (c1.mpr w.1)) _ xt1) (fun z1 => ?_)
    have z1 := c1.mp (Classical.not_not.mp z1)
    refine And.intro lin ?_
    refine And.intro iin ?_
    refine And.intro (fun z => no (fun w => z ((c2 z1).mpr w.2)) _ xt1) (fun z2 => ?_)
    refine And.intro iin ?_
    exact yes ⟨z1, (c2 z1).mp (Classical.not_not.mp z2)⟩ _ xt1
theorem rf_enc1 (hM : rfMd M I F) (hm : mGd M) {x : Nat → Nat} {n : Nat} (hx : ∀ k, x k < 256) (hn : n ≤ 24) (hT : ∀ k, k < 24 → I 28 k = nI (x k)) (h59 : I 0 59 = nI n)
    (hQ : ∀ J, rfEJ I J → rfEn (mFa M 6) (pEc M x n).1 (pEc M x n).2 J → Q (some (.int (nI (pEc M x n).2))) (sh2, J, L, F)) : ∀ xi, xi = nI 0 → ∀ y2, XC xE0 d xM_59 (25, [some (.ref 0), some (.int xi), y2, none, none], [], (sh2, I, L, F)) Q := by
  have h6 := hm.1.2.2.2.2.2.2.1
  have v6 : vp_in (6 : Int32) 12 := rf_in (j := 6) rfl (by decide) (by decide)
  have c25 : ∀ (u i : Nat), i + u = n → ∀ J, rfEJ I J → J 0 59 = nI n → (∀ k, k < i → J 29 k = nI (pFd M (x k) (mFa M 6) 0)) → ∀ xi, xi = nI i → ∀ y2, XC xE0 d xM_59 (25, [some (.ref 0), some (.int xi), y2, none, none], [], (sh2, J, L, F)) Q := by
    intro u
    induction u with
    | zero =>
      intro i hi J D h59 hv xi exi y2
      have : i = n := by omega
      subst this
      have hE : rfEn (mFa M 6) (fun k => pFd M (x k) (mFa M 6) 0) i J := ⟨hv, fun k hk => pFd_lt _ _ (Nat.le_refl _) (by omega), h59, hn⟩
      have fin : ∀ y2 y3 y4, XC xE0 d xM_59 (102, [some (.ref 0), some (.int 1), y2, y3, y4], [], (sh2, J, L, F)) Q := fun y2 y3 y4 => rf_ec102 hM hm i (fun k => pFd M (x k) (mFa M 6) 0, i) (Nat.le_refl _) hQ J D hE y2 y3 y4
      refine XC.block [25, 102] 60 ?_
      exact And.intro (fun _ => fin _ _ _) (fun z => absurd (show J 0 59 ≤ xi by rw [h59, exi]; exact nI_le (by omega) (by omega)) z)
    | succ u ih =>
      intro i hi J D h59 hv xi exi y2
      have hlt : ¬ J 0 59 ≤ xi := by rw [h59, exi]; exact nI_ge (by omega) (by omega)
      have iin : vp_in xi 24 := rf_in exi (by omega) (by decide)
      have ti : xi.toNatClampNeg = i := by rw [exi, nI_clamp (by omega)]
      have e6 : J 17 6 = nI (mFa M 6) := (D 17 6 (by decide) (by omega)).trans (hM.2.1 6 (by decide))
      have D0 : rfEJ I (x2 J 29 xi.toNatClampNeg 0) := D.st
      have x28 : x2 J 29 xi.toNatClampNeg 0 28 i = nI (x i) := by rw [x2_o _ _ (by omega), D 28 i (by decide) (by omega)]; exact hT i (by omega)
      have e0 : x2 J 29 xi.toNatClampNeg 0 29 i = nI 0 := by rw [ti, x2_same]; rfl
      have e6' : x2 J 29 xi.toNatClampNeg 0 17 6 - 1 = nI (mFa M 6) - 1 := by rw [x2_o _ _ (by omega), e6]
      have go : ∀ xt, xt = nI (mFa M 6) - 1 → XC xE0 d xM_59 (50, [some (.ref 0), some (.int xi), some (.int xt), none, none], [], (sh2, x2 J 29 xi.toNatClampNeg 0, L, F)) Q := fun xt ext => by
        refine rf_ec50 hM hm (by omega) (hx i) exi D0 x28 (fun J' D' h' xi' e' y2' => ?_) (mFa M 6) (Nat.le_refl _) 0 rfl _ (fun _ _ _ => rfl) e0 xt ext
        refine ih (i + 1) (by omega) J' (fun b k h1 h2 => (D' b k (fun w => h1 w.1)).trans (D0 b k h1 h2)) ?_ (fun k hk => ?_) xi' e' y2'
        · rw [D' 0 59 (by omega), x2_o _ _ (by omega)]; exact h59
        · rcases Nat.lt_or_ge k i with y | y
          · rw [D' 29 k (by omega), x2_o _ _ (by omega)]; exact hv k y
          · have : k = i := by omega
            subst this
            exact h'
      refine XC.block [25, 50] 60 ?_
      refine And.intro (fun z => absurd z hlt) (fun _ => ?_)
      refine And.intro iin ?_
      refine And.intro v6 ?_
      exact go _ e6'
  exact c25 n 0 (Nat.zero_add _) I (fun _ _ _ _ => rfl) h59 (fun k hk => absurd hk (Nat.not_lt_zero _))
theorem rfMd.agE (h : rfMd M I F) (D : ∀ b k, b ≠ 0 → b ≠ 29 → J b k = I b k) (h38 : J 0 38 = I 0 38) : rfMd M J F := ⟨h38.trans h.1, fun j hj => (D 17 j (by decide) (by decide)).trans (h.2.1 j hj), fun i hi => ⟨(D 19 i (by decide) (by decide)).trans (h.2.2.1 i hi).1, fun j hj => (D 18 _ (by decide) (by decide)).trans ((h.2.2.1 i hi).2 j hj)⟩, fun i hi => ⟨(D 20 i (by decide) (by decide)).trans (h.2.2.2.1 i hi).1, (D 21 i (by decide) (by decide)).trans (h.2.2.2.1 i hi).2.1, (D 22 i (by decide) (by decide)).trans (h.2.2.2.1 i hi).2.2⟩, fun q hq => (D 23 q (by decide) (by decide)).trans (h.2.2.2.2.1 q hq), fun i hi => ⟨(D 24 i (by decide) (by decide)).trans (h.2.2.2.2.2.1 i hi).1, (D 25 i (by decide) (by decide)).trans (h.2.2.2.2.2.1 i hi).2.1, (D 26 i (by decide) (by decide)).trans (h.2.2.2.2.2.1 i hi).2.2.1, (h.2.2.2.2.2.1 i hi).2.2.2⟩, h.2.2.2.2.2.2⟩
theorem rf_encode (hM : rfMd M I F) (hm : mGd M) {x : Nat → Nat} {n : Nat} (hx : ∀ k, x k < 256) (hn : n ≤ 24) (hT : rfTx x n I)
    (hQ : ∀ J, (∀ b k, b ≠ 29 → ¬ (b = 0 ∧ (k = 58 ∨ k = 59)) → J b k = I b k) → J 0 58 = 0 → rfEn (mFa M 6) (pEc M x n).1 (pEc M x n).2 J → Q (some (.int (nI (pEc M x n).2))) (sh2, J, L, F)) : XM xE0 d 59 [.ref 0] (sh2, I, L, F) Q := by
  have hne : ¬ I 0 38 = 0 := by rw [hM.1]; decide
  have D1 : ∀ b k, ¬ (b = 0 ∧ (k = 58 ∨ k = 59)) → x2 (x2 I 0 59 (I 0 58)) 0 58 0 b k = I b k := fun b k h2 => by rw [x2_o _ _ (fun w => h2 ⟨w.1, Or.inl w.2⟩), x2_o _ _ (fun w => h2 ⟨w.1, Or.inr w.2⟩)]
  have a1 : x2 (x2 I 0 59 (I 0 58)) 0 58 0 0 58 = 0 := x2_same _ _ _ _
  have a2 : x2 (x2 I 0 59 (I 0 58)) 0 58 0 0 59 = nI n := by rw [x2_o _ _ (by omega), x2_same]; exact hT.2
  have M1 : rfMd M (x2 (x2 I 0 59 (I 0 58)) 0 58 0) F := hM.agE (fun b k h _ => D1 b k (by omega)) (D1 0 38 (by omega))
  have T1 : ∀ k, k < 24 → x2 (x2 I 0 59 (I 0 58)) 0 58 0 28 k = nI (x k) := fun k hk => (D1 28 k (by omega)).trans (hT.1 k hk)
  have c := rf_enc1 (d := d) (L := L) (Q := Q) M1 hm hx hn T1 a2 (fun J D hE => hQ J (fun b k h1 h2 => (D b k h1 (fun w => h2 ⟨w.1, Or.inr w.2⟩)).trans (D1 b k h2)) ((D 0 58 (by decide) (by omega)).trans a1) hE)
  refine XC.block [25] 60 ?_
  exact And.intro (fun _ => c _ rfl _) (fun z => absurd hne z)
end RUL
