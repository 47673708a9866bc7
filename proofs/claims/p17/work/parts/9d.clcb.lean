/-! the class on paper: TOKENS of a TEXT -/
theorem sFw_s {w : Nat → Nat} {v u i : Nat} : sFw w v (u + 1) i = if w i = v then some i else sFw w v u (i + 1) := by
  show (bif w i == v then some i else sFw w v u (i + 1)) = _
  by_cases h : w i = v
  · rw [if_pos h, beq_iff_eq.mpr h]; rfl
  · rw [if_neg h, beq_eq_false_iff_ne.mpr h]; rfl
theorem sFw_snoc {w : Nat → Nat} {v : Nat} : ∀ u i, sFw w v (u + 1) i = (match sFw w v u i with | some k => some k | none => if w (i + u) = v then some (i + u) else none)
  | 0, i => by
    rw [sFw_s]
    rfl
  | u + 1, i => by
    rw [sFw_s (u := u + 1) (i := i), sFw_s (u := u) (i := i)]
    by_cases h : w i = v
    · rw [if_pos h, if_pos h]
    · rw [if_neg h, if_neg h, sFw_snoc u (i + 1), show i + 1 + u = i + (u + 1) by omega]
theorem sNum_lt4 {f : Nat → Nat} (h : ∀ j, f j < 256) : ∀ m p, sNum f p m < 256 ^ m
  | 0, _ => Nat.one_pos
  | m + 1, p => by
    show f p + 256 * sNum f (p + 1) m < 256 ^ (m + 1)
    have a := sNum_lt4 h m (p + 1)
    have b := h p
    rw [Nat.pow_succ]
    omega
theorem sNum_ltj {f : Nat → Nat} : ∀ m p, (∀ j, j < p + m → f j < 256) → sNum f p m < 256 ^ m
  | 0, _, _ => Nat.one_pos
  | m + 1, p, h => by
    show f p + 256 * sNum f (p + 1) m < 256 ^ (m + 1)
    have a := sNum_ltj m (p + 1) (fun j hj => h j (by omega))
    have b := h p (by omega)
    rw [Nat.pow_succ]
    omega
theorem mTw_lt {M : pMd} (hm : mGd M) {i : Nat} (hi : i < mFa M 6) : sNum (mTc M i) 0 (mTl M i) < 2 ^ 32 ∧ mTw M i < 2 ^ 40 := by
  obtain ⟨⟨l1, l2⟩, l3⟩ := hm.2.2.2.2.1 i hi
  have a := sNum_ltj (f := mTc M i) (mTl M i) 0 (fun j hj => l3 j (by omega))
  have b : 256 ^ mTl M i ≤ 256 ^ 4 := Nat.pow_le_pow_right (by decide) l2
  have c : sNum (mTc M i) 0 (mTl M i) < 2 ^ 32 := Nat.lt_of_lt_of_le a b
  refine ⟨c, ?_⟩
  unfold mTw
  omega
theorem mTw_1 {M : pMd} (hm : mGd M) {i o : Nat} (hi : i < mFa M 6) (ho : o < 256) : mTw M i = 1 * 2 ^ 32 + o ↔ mTl M i = 1 ∧ mTc M i 0 = o := by
  have a := (mTw_lt hm hi).1
  unfold mTw at *
  constructor
  · intro h
    have l1 : mTl M i = 1 := by omega
    refine ⟨l1, ?_⟩
    rw [l1] at h
    have e : sNum (mTc M i) 0 1 = mTc M i 0 := by show mTc M i 0 + 256 * 0 = _; omega
    rw [e] at h
    omega
  · rintro ⟨l1, h⟩
    rw [l1]
    have e : sNum (mTc M i) 0 1 = mTc M i 0 := by show mTc M i 0 + 256 * 0 = _; omega
    rw [e, h]
theorem pFd_Fw {M : pMd} (hm : mGd M) {o : Nat} (ho : o < 256) : ∀ j r, j ≤ mFa M 6 → pFd M o j r = (sFw (mTw M) (1 * 2 ^ 32 + o) j 0).getD r
  | 0, r, _ => rfl
  | j + 1, r, hj => by
    show pFd M o j (if mTl M j = 1 ∧ mTc M j 0 = o then j else r) = _
    rw [pFd_Fw hm ho j _ (by omega), sFw_snoc]
    cases sFw (mTw M) (1 * 2 ^ 32 + o) j 0 with
    | some k => rfl
    | none =>
      show (if mTl M j = 1 ∧ mTc M j 0 = o then j else r) = (if mTw M (0 + j) = 1 * 2 ^ 32 + o then some (0 + j) else none).getD r
      rw [Nat.zero_add]
      by_cases h : mTl M j = 1 ∧ mTc M j 0 = o
      · rw [if_pos h, if_pos ((mTw_1 hm (by omega) ho).mpr h)]; rfl
      · rw [if_neg h, if_neg (fun w => h ((mTw_1 hm (by omega) ho).mp w))]; rfl
theorem pFd_max {M : pMd} (hm : mGd M) {o : Nat} (ho : o < 256) : (if rfO (sFw (mTw M) (1 * 2 ^ 32 + o) (mFa M 6) 0) < 0 then 0 else rfO (sFw (mTw M) (1 * 2 ^ 32 + o) (mFa M 6) 0)) = nI (pFd M o (mFa M 6) 0) := by
  have h6 := hm.1.2.2.2.2.2.2.1
  have l := pFd_lt (M := M) (o := o) (mFa M 6) 0 (Nat.le_refl _) (show 0 < mFa M 6 by omega)
  have e := pFd_Fw hm ho (mFa M 6) 0 (Nat.le_refl _)
  cases h : sFw (mTw M) (1 * 2 ^ 32 + o) (mFa M 6) 0 with
  | none =>
    rw [h] at e
    rw [e]
    exact if_pos (by decide)
  | some k =>
    rw [h] at e
    have e : pFd M o (mFa M 6) 0 = k := e
    rw [e] at l
    rw [e]
    show (if nI k < 0 then 0 else nI k) = nI k
    exact if_neg (nI_pos (by omega))
/-- the TEXT as the class holds it -/
def clTx (x : Nat → Nat) (n : Nat) (I : Nat → Nat → Int32) : Prop := (∀ k, k < 24 → I 4 k &&& 255 = nI (x k)) ∧ I 3 1 = nI n
/-- TOKENS as the class holds them -/
def clEn (N : Nat) (en : Nat → Nat) (c : Nat) (J : Nat → Nat → Int32) : Prop := (∀ k, k < c → J 17 k = nI (en k)) ∧ (∀ k, k < c → en k < N) ∧ J 16 1 = nI c ∧ c ≤ 24
def clEJ (I J : Nat → Nat → Int32) : Prop := ∀ b k, b ≠ 17 → ¬ (b = 16 ∧ k = 1) → J b k = I b k
section CCB
variable {X : List (Option Nat)} {T : List xS} {M : pMd} {I J : Nat → Nat → Int32} {L : Nat → Nat → Int64} {F G : Nat → Nat → UInt32} {d : Nat} {Q : xP}
theorem clEJ.st {k : Nat} {v : Int32} (h : clEJ I J) : clEJ I (x2 J 17 k v) := fun b k' h1 h2 => (x2_o _ _ (fun e => h1 e.1)).trans (h b k' h1 h2)
theorem clEJ.tr {H : Nat → Nat → Int32} (h : clEJ I J) (h' : clEJ J H) : clEJ I H := fun b k h1 h2 => (h' b k h1 h2).trans (h b k h1 h2)
theorem cl_atT {x : Nat → Nat} {n : Nat} (hT : clTx x n I) (hn : n ≤ 24) {p : Nat} (hp : p < n) {a : Int32} (ha : a = nI p) (h1 : ∀ v, v = nI (x p) → Q (some (.int v)) (shG X T, I, L, F)) : XM xE0 d 133 [.ref 3, .int a] (shG X T, I, L, F) Q := by
  have pin : vp_in a 24 := rf_in ha (by omega) (by decide)
  have c1 : ¬ a < 0 := by rw [ha]; exact nI_pos (by omega)
  have c2 : a < I 3 1 := by rw [ha, hT.2]; exact nI_lt hp (by omega)
  have fin := h1 (I 4 a.toNatClampNeg &&& 255) (by rw [ha, nI_clamp (by omega)]; exact hT.1 p (by omega))
  refine XC.block [] 60 ?_
  refine And.intro (fun z => absurd z c1) (fun _ => ?_)
  exact And.intro (fun _ => And.intro pin ⟨trivial, fin⟩) (fun z => absurd c2 z)
theorem cl_join {N : Nat} {en : Nat → Nat} {c i v : Nat} (hE : clEn N en c I) (hi : i + 1 < c) (hv : v < N) {xi xv : Int32} (exi : xi = nI i) (exv : xv = nI v)
    (hQ : ∀ J, clEJ I J → clEn N (pJn en i v) (c - 1) J → Q none (shG X T, J, L, F)) : XM xE0 d 86 [.ref 16, .int xi, .int xv] (shG X T, I, L, F) Q := by
  obtain ⟨e1, e2, e3, e4⟩ := hE
  have iin : vp_in xi 24 := rf_in exi (by omega) (by decide)
  have ti : xi.toNatClampNeg = i := by rw [exi, nI_clamp (by omega)]
  have ei1 : xi + 1 = nI (i + 1) := by rw [exi, nI_1]
  have loop : ∀ (u j : Nat), j + u = c - 1 → i < j → ∀ J, clEJ I J → J 16 1 = nI (c - 1) → (∀ k, k < j → J 17 k = nI (pJn en i v k)) → (∀ k, j ≤ k → k < c → J 17 k = nI (en k)) → ∀ xj, xj = nI j → XC xE0 d xM_86 (21, [some (.ref 16), some (.int xi), some (.int xv), some (.int xj)], [], (shG X T, J, L, F)) Q := by
    intro u
    induction u with
    | zero =>
      intro j hj hij J D h59 h1 h2 xj exj
      have : j = c - 1 := by omega
      subst this
      have hE : clEn N (pJn en i v) (c - 1) J := by
        refine ⟨h1, fun k hk => ?_, h59, by omega⟩
        unfold pJn
        split
        · exact e2 k (by omega)
        · split
          · exact hv
          · exact e2 (k + 1) (by omega)
      have fin := hQ J D hE
      refine XC.block [21] 60 ?_
      exact And.intro (fun _ => ⟨trivial, fin⟩) (fun z => absurd (show J 16 1 ≤ xj by rw [h59, exj]; exact nI_le (by omega) (by omega)) z)
    | succ u ih =>
      intro j hj hij J D h59 h1 h2 xj exj
      have hlt : ¬ J 16 1 ≤ xj := by rw [h59, exj]; exact nI_ge (by omega) (by omega)
      have ej1 : xj + 1 = nI (j + 1) := by rw [exj, nI_1]
      have jin : vp_in xj 24 := rf_in exj (by omega) (by decide)
      have jin1 : vp_in (xj + 1) 24 := rf_in ej1 (by omega) (by decide)
      have tj : xj.toNatClampNeg = j := by rw [exj, nI_clamp (by omega)]
      have ev : J 17 (xj + 1).toNatClampNeg = nI (en (j + 1)) := by rw [ej1, nI_clamp (by omega)]; exact h2 (j + 1) (by omega) (by omega)
      have a1 : x2 J 17 xj.toNatClampNeg (J 17 (xj + 1).toNatClampNeg) 16 1 = nI (c - 1) := by rw [x2_o _ _ (by omega)]; exact h59
      have a2 : ∀ k, k < j + 1 → x2 J 17 xj.toNatClampNeg (J 17 (xj + 1).toNatClampNeg) 17 k = nI (pJn en i v k) := by
        intro k hk
        rcases Nat.lt_or_ge k j with y | y
        · rw [x2_o _ _ (by omega)]; exact h1 k y
        · have : k = j := by omega
          subst this
          rw [show ∀ w, x2 J 17 xj.toNatClampNeg w 17 k = w from fun w => by rw [tj, x2_same], ev]
          unfold pJn
          rw [if_neg (by omega), if_neg (by omega)]
      have a3 : ∀ k, j + 1 ≤ k → k < c → x2 J 17 xj.toNatClampNeg (J 17 (xj + 1).toNatClampNeg) 17 k = nI (en k) := fun k h h' => by rw [x2_o _ _ (by omega)]; exact h2 k (by omega) h'
      refine XC.block [21] 60 ?_
      refine And.intro (fun z => absurd z hlt) (fun _ => ?_)
      refine And.intro jin1 ?_
      refine And.intro jin ?_
      exact ih (j + 1) (by omega) (by omega) _ D.st a1 a2 a3 _ ej1
  have D0 : clEJ I (x2 (x2 I 17 xi.toNatClampNeg xv) 16 1 (x2 I 17 xi.toNatClampNeg xv 16 1 - 1)) := fun b k h1 h2 => by rw [x2_o _ _ h2, x2_o _ _ (fun w => h1 w.1)]
  have b1 : x2 (x2 I 17 xi.toNatClampNeg xv) 16 1 (x2 I 17 xi.toNatClampNeg xv 16 1 - 1) 16 1 = nI (c - 1) := by rw [x2_same, x2_o _ _ (by omega), e3, nI_p1 (by omega)]
  have b2 : ∀ k, k < i + 1 → x2 (x2 I 17 xi.toNatClampNeg xv) 16 1 (x2 I 17 xi.toNatClampNeg xv 16 1 - 1) 17 k = nI (pJn en i v k) := fun k hk => by
    rw [x2_o _ _ (by omega), ti]
    unfold pJn
    rcases Nat.lt_or_ge k i with y | y
    · rw [x2_o _ _ (by omega), if_pos y]; exact e1 k (by omega)
    · have : k = i := by omega
      subst this
      rw [x2_same, if_neg (by omega), if_pos rfl]; exact exv
  have b3 : ∀ k, i + 1 ≤ k → k < c → x2 (x2 I 17 xi.toNatClampNeg xv) 16 1 (x2 I 17 xi.toNatClampNeg xv 16 1 - 1) 17 k = nI (en k) := fun k k1 k2 => by
    rw [x2_o _ _ (by omega), x2_o _ _ (by omega)]; exact e1 k k2
  have k := loop (c - 1 - (i + 1)) (i + 1) (by omega) (by omega) _ D0 b1 b2 b3 _ ei1
  refine XC.block [21] 60 ?_
  exact And.intro iin k
end CCB
section CCC_a
variable {X : List (Option Nat)} {T : List xS} {M : pMd} {I J : Nat → Nat → Int32} {L : Nat → Nat → Int64} {F G : Nat → Nat → UInt32} {d : Nat} {Q : xP}
theorem clMd_a.ag (h : clMd_a M I L F) (a : ∀ b k, 38 ≤ b → J b k = I b k) : clMd_a M J L F := ⟨fun j hj => (a 39 j (by decide)).trans (h.1 j hj), ⟨(a 40 4 (by decide)).trans h.2.1.1, (a 40 5 (by decide)).trans h.2.1.2⟩, (a 45 5 (by decide)).trans h.2.2.1, ⟨(a 38 5 (by decide)).trans h.2.2.2.1.1, (a 38 6 (by decide)).trans h.2.2.2.1.2⟩, h.2.2.2.2.1, fun i hi => ⟨(a 42 i (by decide)).trans (h.2.2.2.2.2.1 i hi).1, (a 43 i (by decide)).trans (h.2.2.2.2.2.1 i hi).2.1, (a 44 i (by decide)).trans (h.2.2.2.2.2.1 i hi).2.2⟩, fun q hq => (a 49 q (by decide)).trans (h.2.2.2.2.2.2.1 q hq), fun i hi => ⟨(a 47 i (by decide)).trans (h.2.2.2.2.2.2.2.1 i hi).1, (a 48 i (by decide)).trans (h.2.2.2.2.2.2.2.1 i hi).2.1, (a 46 i (by decide)).trans (h.2.2.2.2.2.2.2.1 i hi).2.2.1, (h.2.2.2.2.2.2.2.1 i hi).2.2.2⟩, h.2.2.2.2.2.2.2.2⟩
theorem cl_mergeOnce_a (hM : clMd_a M I L F) (hm : mGd M) {en : Nat → Nat} {c : Nat} (hE : clEn (mFa M 6) en c I)
    (hnone : pFm M en c (mFa M 7) 0 = none → Q (some (.int 0)) (shG X (md1 T), I, L, F))
    (hsome : ∀ m i, pFm M en c (mFa M 7) 0 = some (m, i) → i + 1 < c → ∀ J, clEJ I J → clEn (mFa M 6) (pJn en i (mMt M m)) (c - 1) J → Q (some (.int 1)) (shG X (md1 T), J, L, F)) : XM xE0 (d + 1) 85 [.ref 16, .ref 40] (shG X (md1 T), I, L, F) Q := by
  obtain ⟨e1, e2, e3, e4⟩ := id hE
  have h7 := hm.1.2.2.2.2.2.2.2.1
  have h6 := hm.1.2.2.2.2.2.2.1
  have e7 : I 40 5 = nI (mFa M 7) := hM.2.1.2
  have c12 : ∀ m, m < mFa M 7 → ∀ xm, xm = nI m → (∀ i, pFi en (mMa M m) (mMb M m) (c - 1) 0 = some i → pFm M en c (mFa M 7) 0 = some (m, i)) → (pFi en (mMa M m) (mMb M m) (c - 1) 0 = none → ∀ y3, XC xE0 (d + 1) xM_85 (73, [some (.ref 16), some (.ref 40), some (.int xm), y3], [], (shG X (md1 T), I, L, F)) Q) → ∀ (u i : Nat), i + u = c - 1 → pFi en (mMa M m) (mMb M m) u i = pFi en (mMa M m) (mMb M m) (c - 1) 0 → ∀ xi, xi = nI i → XC xE0 (d + 1) xM_85 (12, [some (.ref 16), some (.ref 40), some (.int xm), some (.int xi)], [], (shG X (md1 T), I, L, F)) Q := by
    intro m hmm xm exm found none_ u
    obtain ⟨g1, g2, g3⟩ := hm.2.2.2.2.2 m hmm
    obtain ⟨m1, m2, m3⟩ := hM.2.2.2.2.2.1 m hmm
    have min_ : vp_in xm 12 := rf_in exm (by omega) (by decide)
    have tm : xm.toNatClampNeg = m := by rw [exm, nI_clamp (by omega)]
    have w1 : I 42 xm.toNatClampNeg = nI (mMa M m) := by rw [tm]; exact m1
    have w2 : I 43 xm.toNatClampNeg = nI (mMb M m) := by rw [tm]; exact m2
    have w3 : I 44 xm.toNatClampNeg = nI (mMt M m) := by rw [tm]; exact m3
    induction u with
    | zero =>
      intro i hi hp xi exi
      have ei1 : xi + 1 = nI (i + 1) := by rw [exi, nI_1]
      have n := none_ hp.symm
      refine XC.block [12, 73] 60 ?_
      exact And.intro (fun _ => n _) (fun z => absurd (show I 16 1 ≤ xi + 1 by rw [e3, ei1]; exact nI_le (by omega) (by omega)) z)
    | succ u ih =>
      intro i hi hp xi exi
      have ei1 : xi + 1 = nI (i + 1) := by rw [exi, nI_1]
      have hlt : ¬ I 16 1 ≤ xi + 1 := by rw [e3, ei1]; exact nI_ge (by omega) (by omega)
      have iin : vp_in xi 24 := rf_in exi (by omega) (by decide)
      have iin1 : vp_in (xi + 1) 24 := rf_in ei1 (by omega) (by decide)
      have ti : xi.toNatClampNeg = i := by rw [exi, nI_clamp (by omega)]
      have v1 : I 17 xi.toNatClampNeg = nI (en i) := by rw [ti]; exact e1 i (by omega)
      have v2 : I 17 (xi + 1).toNatClampNeg = nI (en (i + 1)) := by rw [ei1, nI_clamp (by omega)]; exact e1 (i + 1) (by omega)
      have l1 := e2 i (by omega)
      have l2 := e2 (i + 1) (by omega)
      have q1 : I 17 xi.toNatClampNeg = I 42 xm.toNatClampNeg ↔ en i = mMa M m := by rw [v1, w1, nI_eq (by omega) (by omega)]
      have q2 : I 17 (xi + 1).toNatClampNeg = I 43 xm.toNatClampNeg ↔ en (i + 1) = mMb M m := by rw [v2, w2, nI_eq (by omega) (by omega)]
      have no : ¬ (en i = mMa M m ∧ en (i + 1) = mMb M m) → ∀ xi', xi' = nI (i + 1) → XC xE0 (d + 1) xM_85 (12, [some (.ref 16), some (.ref 40), some (.int xm), some (.int xi')], [], (shG X (md1 T), I, L, F)) Q := fun z xi' e' => ih (i + 1) (by omega) ((if_neg z).symm.trans hp) xi' e'
      have yes : en i = mMa M m ∧ en (i + 1) = mMb M m → ∀ J, clEJ I J → clEn (mFa M 6) (pJn en i (mMt M m)) (c - 1) J → Q (some (.int 1)) (shG X (md1 T), J, L, F) := fun z J D hE' => hsome m i (found i (hp.symm.trans (if_pos z))) (by omega) J D hE'
      have ic : i + 1 < c := by omega
      refine XC.block [12, 73] 60 ?_
      refine And.intro (fun z => absurd z hlt) (fun _ => ?_)
      refine And.intro iin ?_
      refine And.intro min_ ?_
      refine And.intro (fun z => no (fun w => z (q1.mpr w.1)) _ ei1) (fun z1 => ?_)
      refine And.intro iin1 ?_
      refine And.intro min_ ?_
      refine And.intro (fun z => no (fun w => z (q2.mpr w.2)) _ ei1) (fun z2 => ?_)
      refine And.intro min_ ?_
      refine cl_join hE ic g3 exi w3 (fun J D hE' => ?_)
      exact ⟨(show (1 : Int32) &&& 1 = 1 by decide), yes ⟨q1.mp (Classical.not_not.mp z1), q2.mp (Classical.not_not.mp z2)⟩ J D hE'⟩
  have c2 : ∀ (u m : Nat), m + u = mFa M 7 → pFm M en c u m = pFm M en c (mFa M 7) 0 → ∀ xm, xm = nI m → ∀ y3, XC xE0 (d + 1) xM_85 (2, [some (.ref 16), some (.ref 40), some (.int xm), y3], [], (shG X (md1 T), I, L, F)) Q := by
    intro u
    induction u with
    | zero =>
      intro m hmu hp xm exm y3
      have fin := hnone hp.symm
      refine XC.block [2] 60 ?_
      exact And.intro (fun _ => ⟨(show (0 : Int32) &&& 1 = 0 by decide), fin⟩) (fun z => absurd (show I 40 5 ≤ xm by rw [e7, exm]; exact nI_le (by omega) (by omega)) z)
    | succ u ih =>
      intro m hmu hp xm exm y3
      have hlt : ¬ I 40 5 ≤ xm := by rw [e7, exm]; exact nI_ge (by omega) (by omega)
      have xm1 : xm + 1 = nI (m + 1) := by rw [exm, nI_1]
      have go : ∀ xi, xi = nI 0 → XC xE0 (d + 1) xM_85 (12, [some (.ref 16), some (.ref 40), some (.int xm), some (.int xi)], [], (shG X (md1 T), I, L, F)) Q := fun xi exi => by
        refine c12 m (by omega) xm exm (fun i f => ?_) (fun f y3 => ?_) (c - 1) 0 (Nat.zero_add _) rfl xi exi
        · rw [← hp]
          show (match pFi en (mMa M m) (mMb M m) (c - 1) 0 with | some i => some (m, i) | none => pFm M en c u (m + 1)) = _
          rw [f]
        · have e : pFm M en c u (m + 1) = pFm M en c (mFa M 7) 0 := by
            rw [← hp]
            show _ = (match pFi en (mMa M m) (mMb M m) (c - 1) 0 with | some i => some (m, i) | none => pFm M en c u (m + 1))
            rw [f]
          have k := ih (m + 1) (by omega) e _ xm1 y3
          refine XC.block [2] 60 ?_
          exact k
      refine XC.block [2, 12] 60 ?_
      exact And.intro (fun z => absurd z hlt) (fun _ => go _ rfl)
  refine XC.block [2] 60 ?_
  exact c2 (mFa M 7) 0 (Nat.zero_add _) rfl _ rfl _
theorem cl_tit50_a (hM : clMd_a M I L F) (hm : mGd M) : ∀ (u : Nat) (e : (Nat → Nat) × Nat), e.2 = u → u ≤ 24 → (∀ J, clEJ I J → clEn (mFa M 6) (pMl M u e).1 (pMl M u e).2 J → Q none (shG X (md1 T), J, L, F)) → ∀ J, clEJ I J → clEn (mFa M 6) e.1 e.2 J → ∀ r, r + u ≤ 24 → (r < 24) → ∀ x4, x4 = nI r → XC xE0 (d + 2) xM_84 (50, [some (.ref 16), some (.ref 3), some (.ref 40), some (.int 1), some (.int x4)], [], (shG X (md1 T), J, L, F)) Q := by
  intro u
  induction u with
  | zero =>
    intro e he h24 hQ J D hE r hr hr2 x4 hx4
    have MJ : clMd_a M J L F := hM.ag (fun b k hb => D b k (by omega) (by omega))
    have hlt : ¬ (24 : Int32) ≤ x4 := by rw [hx4, show (24 : Int32) = nI 24 from rfl]; exact nI_ge (by omega) (by decide)
    have fin := hQ J D hE
    have no : ∀ m i, pFm M e.1 e.2 (mFa M 7) 0 = some (m, i) → i + 1 < e.2 → False := fun m i f h => by omega
    refine XC.block [50] 60 ?_
    refine And.intro (fun z => absurd (show (1 : Int32) = 0 from z) (by decide)) (fun _ => ?_)
    refine And.intro (fun z => absurd z hlt) (fun _ => ?_)
    refine cl_mergeOnce_a MJ hm hE (fun f => ?_) (fun m i f hi => (no m i f hi).elim)
    refine XC.block [] 60 ?_
    exact And.intro (fun _ => ⟨trivial, fin⟩) (fun z => absurd (show (0 : Int32) = 0 from rfl) z)
  | succ u ih =>
    intro e he h24 hQ J D hE r hr hr2 x4 hx4
    have MJ : clMd_a M J L F := hM.ag (fun b k hb => D b k (by omega) (by omega))
    have hlt : ¬ (24 : Int32) ≤ x4 := by rw [hx4, show (24 : Int32) = nI 24 from rfl]; exact nI_ge (by omega) (by decide)
    have x41 : x4 + 1 = nI (r + 1) := by rw [hx4, nI_1]
    have fin : pFm M e.1 e.2 (mFa M 7) 0 = none → Q none (shG X (md1 T), J, L, F) := fun f => by
      have ee : pMl M (u + 1) e = e := by
        show (match pFm M e.1 e.2 (mFa M 7) 0 with | none => e | some (m, i) => pMl M u (pJn e.1 i (mMt M m), e.2 - 1)) = _
        rw [f]
      rw [ee] at hQ
      exact hQ J D hE
    have go : ∀ m i, pFm M e.1 e.2 (mFa M 7) 0 = some (m, i) → i + 1 < e.2 → ∀ J', clEJ J J' → clEn (mFa M 6) (pJn e.1 i (mMt M m)) (e.2 - 1) J' → ∀ x4, x4 = nI (r + 1) → XC xE0 (d + 2) xM_84 (50, [some (.ref 16), some (.ref 3), some (.ref 40), some (.int 1), some (.int x4)], [], (shG X (md1 T), J', L, F)) Q := fun m i f hi J' D' hE' x4 hx4 => by
      have ee : pMl M (u + 1) e = pMl M u (pJn e.1 i (mMt M m), e.2 - 1) := by
        show (match pFm M e.1 e.2 (mFa M 7) 0 with | none => e | some (m, i) => pMl M u (pJn e.1 i (mMt M m), e.2 - 1)) = _
        rw [f]
      rw [ee] at hQ
      exact ih (pJn e.1 i (mMt M m), e.2 - 1) (by show e.2 - 1 = u; omega) (by omega) hQ J' (D.tr D') hE' (r + 1) (by omega) (by omega) x4 hx4
    refine XC.block [50] 60 ?_
    refine And.intro (fun z => absurd (show (1 : Int32) = 0 from z) (by decide)) (fun _ => ?_)
    refine And.intro (fun z => absurd z hlt) (fun _ => ?_)
    refine cl_mergeOnce_a MJ hm hE (fun f => ?_) (fun m i f hi J' D' hE' => ?_)
    · refine XC.block [] 60 ?_
      exact And.intro (fun _ => ⟨trivial, fin f⟩) (fun z => absurd (show (0 : Int32) = 0 from rfl) z)
    · exact go m i f hi J' D' hE' _ x41
theorem cl_tit_a (hM : clMd_a M I L F) (hm : mGd M) {x : Nat → Nat} {n : Nat} (hx : ∀ k, x k < 256) (hn : n ≤ 24) (hT : clTx x n I)
    (hQ : ∀ J, clEJ I J → clEn (mFa M 6) (pEc M x n).1 (pEc M x n).2 J → Q none (shG X (md1 T), J, L, F)) : XM xE0 (d + 2) 84 [.ref 16, .ref 3, .ref 40] (shG X (md1 T), I, L, F) Q := by
  have h6 := hm.1.2.2.2.2.2.2.1
  have c10 : ∀ (u i : Nat), i + u = n → ∀ J, clEJ I J → J 16 1 = nI n → (∀ k, k < i → J 17 k = nI (pFd M (x k) (mFa M 6) 0)) → ∀ x3, x3 = nI i → XC xE0 (d + 2) xM_84 (10, [some (.ref 16), some (.ref 3), some (.ref 40), some (.int x3), none], [], (shG X (md1 T), J, L, F)) Q := by
    intro u
    induction u with
    | zero =>
      intro i hi J D h1 hv x3 hx3
      have : i = n := by omega
      subst this
      have hE : clEn (mFa M 6) (fun k => pFd M (x k) (mFa M 6) 0) i J := ⟨hv, fun k hk => pFd_lt _ _ (Nat.le_refl _) (by omega), h1, hn⟩
      have k := cl_tit50_a (X := X) (T := T) (d := d) hM hm i (fun k => pFd M (x k) (mFa M 6) 0, i) rfl hn hQ J D hE 0 (by omega) (by decide) 0 rfl
      refine XC.block [10, 50] 60 ?_
      exact And.intro (fun _ => k) (fun z => absurd (show J 16 1 ≤ x3 by rw [h1, hx3]; exact nI_le (by omega) (by omega)) z)
    | succ u ih =>
      intro i hi J D h1 hv x3 hx3
      have hlt : ¬ J 16 1 ≤ x3 := by rw [h1, hx3]; exact nI_ge (by omega) (by omega)
      have iin : vp_in x3 24 := rf_in hx3 (by omega) (by decide)
      have ti : x3.toNatClampNeg = i := by rw [hx3, nI_clamp (by omega)]
      have x31 : x3 + 1 = nI (i + 1) := by rw [hx3, nI_1]
      have MJ : clMd_a M J L F := hM.ag (fun b k hb => D b k (by omega) (by omega))
      have TJ : clTx x n J := ⟨fun k hk => by rw [D 4 k (by decide) (by omega)]; exact hT.1 k hk, (D 3 1 (by decide) (by omega)).trans hT.2⟩
      have il : i < n := by omega
      have wj : ∀ j, j < mFa M 6 → L 41 j = lN (mTw M j) ∧ mTw M j < 2 ^ 63 := fun j hj => ⟨hM.2.2.2.2.1 j hj, Nat.lt_trans (mTw_lt hm hj).2 (by decide)⟩
      have w4 : J 40 4 = nI (mFa M 6) := MJ.2.1.1
      have xs : ∀ v, v = nI (x i) → v.toInt64 = lN (x i) := fun v hv => by rw [hv]; exact nI_l (by have := hx i; omega)
      have x32 : x i < 2 ^ 32 := by have := hx i; omega
      have fin : ∀ v, v = rfO (sFw (mTw M) (1 * 2 ^ 32 + x i) (mFa M 6) 0) → ∀ x3, x3 = nI (i + 1) → XC xE0 (d + 2) xM_84 (10, [some (.ref 16), some (.ref 3), some (.ref 40), some (.int x3), none], [], (shG X (md1 T), x2 J 17 (nI i).toNatClampNeg (if v < 0 then 0 else v), L, F)) Q := fun v hv' x3 hx3 => by
        have e : (if v < 0 then 0 else v) = nI (pFd M (x i) (mFa M 6) 0) := by rw [hv']; exact pFd_max hm (hx i)
        rw [nI_clamp (by omega)]
        refine ih (i + 1) (by omega) _ D.st (by rw [x2_o _ _ (by omega)]; exact h1) (fun k hk => ?_) x3 hx3
        rcases Nat.lt_or_ge k i with y | y
        · rw [x2_o _ _ (by omega)]; exact hv k y
        · have : k = i := by omega
          subst this
          rw [x2_same]; exact e
      rw [← hx3] at fin
      refine XC.block [10, 50] 60 ?_
      refine And.intro (fun z => absurd z hlt) (fun _ => ?_)
      refine cl_atT TJ hn il hx3 (fun v hv' => ?_)
      refine cl_find_a h6.2 w4 wj (by decide) x32 (xs v hv') (show (1 : Int32) = nI 1 from rfl) (fun v2 hv2 => ?_)
      refine And.intro iin ?_
      exact fin v2 hv2 _ x31
  have D0 : clEJ I (x2 I 16 1 (I 3 1)) := fun b k h1 h2 => x2_o _ _ h2
  have a1 : x2 I 16 1 (I 3 1) 16 1 = nI n := by rw [x2_same]; exact hT.2
  have k := c10 n 0 (Nat.zero_add _) _ D0 a1 (fun k hk => absurd hk (Nat.not_lt_zero _)) _ rfl
  refine XC.block [10] 60 ?_
  exact k
end CCC_a
section CCC_b
variable {X : List (Option Nat)} {T : List xS} {M : pMd} {I J : Nat → Nat → Int32} {L : Nat → Nat → Int64} {F G : Nat → Nat → UInt32} {d : Nat} {Q : xP}
theorem clMd_b.ag (h : clMd_b M I L F) (a : ∀ b k, 38 ≤ b → J b k = I b k) : clMd_b M J L F := ⟨fun j hj => (a 52 j (by decide)).trans (h.1 j hj), ⟨(a 53 4 (by decide)).trans h.2.1.1, (a 53 5 (by decide)).trans h.2.1.2⟩, (a 58 5 (by decide)).trans h.2.2.1, ⟨(a 51 5 (by decide)).trans h.2.2.2.1.1, (a 51 6 (by decide)).trans h.2.2.2.1.2⟩, h.2.2.2.2.1, fun i hi => ⟨(a 55 i (by decide)).trans (h.2.2.2.2.2.1 i hi).1, (a 56 i (by decide)).trans (h.2.2.2.2.2.1 i hi).2.1, (a 57 i (by decide)).trans (h.2.2.2.2.2.1 i hi).2.2⟩, fun q hq => (a 62 q (by decide)).trans (h.2.2.2.2.2.2.1 q hq), fun i hi => ⟨(a 60 i (by decide)).trans (h.2.2.2.2.2.2.2.1 i hi).1, (a 61 i (by decide)).trans (h.2.2.2.2.2.2.2.1 i hi).2.1, (a 59 i (by decide)).trans (h.2.2.2.2.2.2.2.1 i hi).2.2.1, (h.2.2.2.2.2.2.2.1 i hi).2.2.2⟩, h.2.2.2.2.2.2.2.2⟩
theorem cl_mergeOnce_b (hM : clMd_b M I L F) (hm : mGd M) {en : Nat → Nat} {c : Nat} (hE : clEn (mFa M 6) en c I)
    (hnone : pFm M en c (mFa M 7) 0 = none → Q (some (.int 0)) (shG X (md2 T), I, L, F))
    (hsome : ∀ m i, pFm M en c (mFa M 7) 0 = some (m, i) → i + 1 < c → ∀ J, clEJ I J → clEn (mFa M 6) (pJn en i (mMt M m)) (c - 1) J → Q (some (.int 1)) (shG X (md2 T), J, L, F)) : XM xE0 (d + 1) 85 [.ref 16, .ref 53] (shG X (md2 T), I, L, F) Q := by
  obtain ⟨e1, e2, e3, e4⟩ := id hE
  have h7 := hm.1.2.2.2.2.2.2.2.1
  have h6 := hm.1.2.2.2.2.2.2.1
  have e7 : I 53 5 = nI (mFa M 7) := hM.2.1.2
  have c12 : ∀ m, m < mFa M 7 → ∀ xm, xm = nI m → (∀ i, pFi en (mMa M m) (mMb M m) (c - 1) 0 = some i → pFm M en c (mFa M 7) 0 = some (m, i)) → (pFi en (mMa M m) (mMb M m) (c - 1) 0 = none → ∀ y3, XC xE0 (d + 1) xM_85 (73, [some (.ref 16), some (.ref 53), some (.int xm), y3], [], (shG X (md2 T), I, L, F)) Q) → ∀ (u i : Nat), i + u = c - 1 → pFi en (mMa M m) (mMb M m) u i = pFi en (mMa M m) (mMb M m) (c - 1) 0 → ∀ xi, xi = nI i → XC xE0 (d + 1) xM_85 (12, [some (.ref 16), some (.ref 53), some (.int xm), some (.int xi)], [], (shG X (md2 T), I, L, F)) Q := by
    intro m hmm xm exm found none_ u
    obtain ⟨g1, g2, g3⟩ := hm.2.2.2.2.2 m hmm
    obtain ⟨m1, m2, m3⟩ := hM.2.2.2.2.2.1 m hmm
    have min_ : vp_in xm 12 := rf_in exm (by omega) (by decide)
    have tm : xm.toNatClampNeg = m := by rw [exm, nI_clamp (by omega)]
    have w1 : I 55 xm.toNatClampNeg = nI (mMa M m) := by rw [tm]; exact m1
    have w2 : I 56 xm.toNatClampNeg = nI (mMb M m) := by rw [tm]; exact m2
    have w3 : I 57 xm.toNatClampNeg = nI (mMt M m) := by rw [tm]; exact m3
    induction u with
    | zero =>
      intro i hi hp xi exi
      have ei1 : xi + 1 = nI (i + 1) := by rw [exi, nI_1]
      have n := none_ hp.symm
      refine XC.block [12, 73] 60 ?_
      exact And.intro (fun _ => n _) (fun z => absurd (show I 16 1 ≤ xi + 1 by rw [e3, ei1]; exact nI_le (by omega) (by omega)) z)
    | succ u ih =>
      intro i hi hp xi exi
      have ei1 : xi + 1 = nI (i + 1) := by rw [exi, nI_1]
      have hlt : ¬ I 16 1 ≤ xi + 1 := by rw [e3, ei1]; exact nI_ge (by omega) (by omega)
      have iin : vp_in xi 24 := rf_in exi (by omega) (by decide)
      have iin1 : vp_in (xi + 1) 24 := rf_in ei1 (by omega) (by decide)
      have ti : xi.toNatClampNeg = i := by rw [exi, nI_clamp (by omega)]
      have v1 : I 17 xi.toNatClampNeg = nI (en i) := by rw [ti]; exact e1 i (by omega)
      have v2 : I 17 (xi + 1).toNatClampNeg = nI (en (i + 1)) := by rw [ei1, nI_clamp (by omega)]; exact e1 (i + 1) (by omega)
      have l1 := e2 i (by omega)
      have l2 := e2 (i + 1) (by omega)
      have q1 : I 17 xi.toNatClampNeg = I 55 xm.toNatClampNeg ↔ en i = mMa M m := by rw [v1, w1, nI_eq (by omega) (by omega)]
      have q2 : I 17 (xi + 1).toNatClampNeg = I 56 xm.toNatClampNeg ↔ en (i + 1) = mMb M m := by rw [v2, w2, nI_eq (by omega) (by omega)]
      have no : ¬ (en i = mMa M m ∧ en (i + 1) = mMb M m) → ∀ xi', xi' = nI (i + 1) → XC xE0 (d + 1) xM_85 (12, [some (.ref 16), some (.ref 53), some (.int xm), some (.int xi')], [], (shG X (md2 T), I, L, F)) Q := fun z xi' e' => ih (i + 1) (by omega) ((if_neg z).symm.trans hp) xi' e'
      have yes : en i = mMa M m ∧ en (i + 1) = mMb M m → ∀ J, clEJ I J → clEn (mFa M 6) (pJn en i (mMt M m)) (c - 1) J → Q (some (.int 1)) (shG X (md2 T), J, L, F) := fun z J D hE' => hsome m i (found i (hp.symm.trans (if_pos z))) (by omega) J D hE'
      have ic : i + 1 < c := by omega
      refine XC.block [12, 73] 60 ?_
      refine And.intro (fun z => absurd z hlt) (fun _ => ?_)
      refine And.intro iin ?_
      refine And.intro min_ ?_
      refine And.intro (fun z => no (fun w => z (q1.mpr w.1)) _ ei1) (fun z1 => ?_)
      refine And.intro iin1 ?_
      refine And.intro min_ ?_
      refine And.intro (fun z => no (fun w => z (q2.mpr w.2)) _ ei1) (fun z2 => ?_)
      refine And.intro min_ ?_
      refine cl_join hE ic g3 exi w3 (fun J D hE' => ?_)
      exact ⟨(show (1 : Int32) &&& 1 = 1 by decide), yes ⟨q1.mp (Classical.not_not.mp z1), q2.mp (Classical.not_not.mp z2)⟩ J D hE'⟩
  have c2 : ∀ (u m : Nat), m + u = mFa M 7 → pFm M en c u m = pFm M en c (mFa M 7) 0 → ∀ xm, xm = nI m → ∀ y3, XC xE0 (d + 1) xM_85 (2, [some (.ref 16), some (.ref 53), some (.int xm), y3], [], (shG X (md2 T), I, L, F)) Q := by
    intro u
    induction u with
    | zero =>
      intro m hmu hp xm exm y3
      have fin := hnone hp.symm
      refine XC.block [2] 60 ?_
      exact And.intro (fun _ => ⟨(show (0 : Int32) &&& 1 = 0 by decide), fin⟩) (fun z => absurd (show I 53 5 ≤ xm by rw [e7, exm]; exact nI_le (by omega) (by omega)) z)
    | succ u ih =>
      intro m hmu hp xm exm y3
      have hlt : ¬ I 53 5 ≤ xm := by rw [e7, exm]; exact nI_ge (by omega) (by omega)
      have xm1 : xm + 1 = nI (m + 1) := by rw [exm, nI_1]
      have go : ∀ xi, xi = nI 0 → XC xE0 (d + 1) xM_85 (12, [some (.ref 16), some (.ref 53), some (.int xm), some (.int xi)], [], (shG X (md2 T), I, L, F)) Q := fun xi exi => by
        refine c12 m (by omega) xm exm (fun i f => ?_) (fun f y3 => ?_) (c - 1) 0 (Nat.zero_add _) rfl xi exi
        · rw [← hp]
          show (match pFi en (mMa M m) (mMb M m) (c - 1) 0 with | some i => some (m, i) | none => pFm M en c u (m + 1)) = _
          rw [f]
        · have e : pFm M en c u (m + 1) = pFm M en c (mFa M 7) 0 := by
            rw [← hp]
            show _ = (match pFi en (mMa M m) (mMb M m) (c - 1) 0 with | some i => some (m, i) | none => pFm M en c u (m + 1))
            rw [f]
          have k := ih (m + 1) (by omega) e _ xm1 y3
          refine XC.block [2] 60 ?_
          exact k
      refine XC.block [2, 12] 60 ?_
      exact And.intro (fun z => absurd z hlt) (fun _ => go _ rfl)
  refine XC.block [2] 60 ?_
  exact c2 (mFa M 7) 0 (Nat.zero_add _) rfl _ rfl _
theorem cl_tit50_b (hM : clMd_b M I L F) (hm : mGd M) : ∀ (u : Nat) (e : (Nat → Nat) × Nat), e.2 = u → u ≤ 24 → (∀ J, clEJ I J → clEn (mFa M 6) (pMl M u e).1 (pMl M u e).2 J → Q none (shG X (md2 T), J, L, F)) → ∀ J, clEJ I J → clEn (mFa M 6) e.1 e.2 J → ∀ r, r + u ≤ 24 → (r < 24) → ∀ x4, x4 = nI r → XC xE0 (d + 2) xM_84 (50, [some (.ref 16), some (.ref 3), some (.ref 53), some (.int 1), some (.int x4)], [], (shG X (md2 T), J, L, F)) Q := by
  intro u
  induction u with
  | zero =>
    intro e he h24 hQ J D hE r hr hr2 x4 hx4
    have MJ : clMd_b M J L F := hM.ag (fun b k hb => D b k (by omega) (by omega))
    have hlt : ¬ (24 : Int32) ≤ x4 := by rw [hx4, show (24 : Int32) = nI 24 from rfl]; exact nI_ge (by omega) (by decide)
    have fin := hQ J D hE
    have no : ∀ m i, pFm M e.1 e.2 (mFa M 7) 0 = some (m, i) → i + 1 < e.2 → False := fun m i f h => by omega
    refine XC.block [50] 60 ?_
    refine And.intro (fun z => absurd (show (1 : Int32) = 0 from z) (by decide)) (fun _ => ?_)
    refine And.intro (fun z => absurd z hlt) (fun _ => ?_)
    refine cl_mergeOnce_b MJ hm hE (fun f => ?_) (fun m i f hi => (no m i f hi).elim)
    refine XC.block [] 60 ?_
    exact And.intro (fun _ => ⟨trivial, fin⟩) (fun z => absurd (show (0 : Int32) = 0 from rfl) z)
  | succ u ih =>
    intro e he h24 hQ J D hE r hr hr2 x4 hx4
    have MJ : clMd_b M J L F := hM.ag (fun b k hb => D b k (by omega) (by omega))
    have hlt : ¬ (24 : Int32) ≤ x4 := by rw [hx4, show (24 : Int32) = nI 24 from rfl]; exact nI_ge (by omega) (by decide)
    have x41 : x4 + 1 = nI (r + 1) := by rw [hx4, nI_1]
    have fin : pFm M e.1 e.2 (mFa M 7) 0 = none → Q none (shG X (md2 T), J, L, F) := fun f => by
      have ee : pMl M (u + 1) e = e := by
        show (match pFm M e.1 e.2 (mFa M 7) 0 with | none => e | some (m, i) => pMl M u (pJn e.1 i (mMt M m), e.2 - 1)) = _
        rw [f]
      rw [ee] at hQ
      exact hQ J D hE
    have go : ∀ m i, pFm M e.1 e.2 (mFa M 7) 0 = some (m, i) → i + 1 < e.2 → ∀ J', clEJ J J' → clEn (mFa M 6) (pJn e.1 i (mMt M m)) (e.2 - 1) J' → ∀ x4, x4 = nI (r + 1) → XC xE0 (d + 2) xM_84 (50, [some (.ref 16), some (.ref 3), some (.ref 53), some (.int 1), some (.int x4)], [], (shG X (md2 T), J', L, F)) Q := fun m i f hi J' D' hE' x4 hx4 => by
      have ee : pMl M (u + 1) e = pMl M u (pJn e.1 i (mMt M m), e.2 - 1) := by
        show (match pFm M e.1 e.2 (mFa M 7) 0 with | none => e | some (m, i) => pMl M u (pJn e.1 i (mMt M m), e.2 - 1)) = _
        rw [f]
      rw [ee] at hQ
      exact ih (pJn e.1 i (mMt M m), e.2 - 1) (by show e.2 - 1 = u; omega) (by omega) hQ J' (D.tr D') hE' (r + 1) (by omega) (by omega) x4 hx4
    refine XC.block [50] 60 ?_
    refine And.intro (fun z => absurd (show (1 : Int32) = 0 from z) (by decide)) (fun _ => ?_)
    refine And.intro (fun z => absurd z hlt) (fun _ => ?_)
    refine cl_mergeOnce_b MJ hm hE (fun f => ?_) (fun m i f hi J' D' hE' => ?_)
    · refine XC.block [] 60 ?_
      exact And.intro (fun _ => ⟨trivial, fin f⟩) (fun z => absurd (show (0 : Int32) = 0 from rfl) z)
    · exact go m i f hi J' D' hE' _ x41
theorem cl_tit_b (hM : clMd_b M I L F) (hm : mGd M) {x : Nat → Nat} {n : Nat} (hx : ∀ k, x k < 256) (hn : n ≤ 24) (hT : clTx x n I)
    (hQ : ∀ J, clEJ I J → clEn (mFa M 6) (pEc M x n).1 (pEc M x n).2 J → Q none (shG X (md2 T), J, L, F)) : XM xE0 (d + 2) 84 [.ref 16, .ref 3, .ref 53] (shG X (md2 T), I, L, F) Q := by
  have h6 := hm.1.2.2.2.2.2.2.1
  have c10 : ∀ (u i : Nat), i + u = n → ∀ J, clEJ I J → J 16 1 = nI n → (∀ k, k < i → J 17 k = nI (pFd M (x k) (mFa M 6) 0)) → ∀ x3, x3 = nI i → XC xE0 (d + 2) xM_84 (10, [some (.ref 16), some (.ref 3), some (.ref 53), some (.int x3), none], [], (shG X (md2 T), J, L, F)) Q := by
    intro u
    induction u with
    | zero =>
      intro i hi J D h1 hv x3 hx3
      have : i = n := by omega
      subst this
      have hE : clEn (mFa M 6) (fun k => pFd M (x k) (mFa M 6) 0) i J := ⟨hv, fun k hk => pFd_lt _ _ (Nat.le_refl _) (by omega), h1, hn⟩
      have k := cl_tit50_b (X := X) (T := T) (d := d) hM hm i (fun k => pFd M (x k) (mFa M 6) 0, i) rfl hn hQ J D hE 0 (by omega) (by decide) 0 rfl
      refine XC.block [10, 50] 60 ?_
      exact And.intro (fun _ => k) (fun z => absurd (show J 16 1 ≤ x3 by rw [h1, hx3]; exact nI_le (by omega) (by omega)) z)
    | succ u ih =>
      intro i hi J D h1 hv x3 hx3
      have hlt : ¬ J 16 1 ≤ x3 := by rw [h1, hx3]; exact nI_ge (by omega) (by omega)
      have iin : vp_in x3 24 := rf_in hx3 (by omega) (by decide)
      have ti : x3.toNatClampNeg = i := by rw [hx3, nI_clamp (by omega)]
      have x31 : x3 + 1 = nI (i + 1) := by rw [hx3, nI_1]
      have MJ : clMd_b M J L F := hM.ag (fun b k hb => D b k (by omega) (by omega))
      have TJ : clTx x n J := ⟨fun k hk => by rw [D 4 k (by decide) (by omega)]; exact hT.1 k hk, (D 3 1 (by decide) (by omega)).trans hT.2⟩
      have il : i < n := by omega
      have wj : ∀ j, j < mFa M 6 → L 54 j = lN (mTw M j) ∧ mTw M j < 2 ^ 63 := fun j hj => ⟨hM.2.2.2.2.1 j hj, Nat.lt_trans (mTw_lt hm hj).2 (by decide)⟩
      have w4 : J 53 4 = nI (mFa M 6) := MJ.2.1.1
      have xs : ∀ v, v = nI (x i) → v.toInt64 = lN (x i) := fun v hv => by rw [hv]; exact nI_l (by have := hx i; omega)
      have x32 : x i < 2 ^ 32 := by have := hx i; omega
      have fin : ∀ v, v = rfO (sFw (mTw M) (1 * 2 ^ 32 + x i) (mFa M 6) 0) → ∀ x3, x3 = nI (i + 1) → XC xE0 (d + 2) xM_84 (10, [some (.ref 16), some (.ref 3), some (.ref 53), some (.int x3), none], [], (shG X (md2 T), x2 J 17 (nI i).toNatClampNeg (if v < 0 then 0 else v), L, F)) Q := fun v hv' x3 hx3 => by
        have e : (if v < 0 then 0 else v) = nI (pFd M (x i) (mFa M 6) 0) := by rw [hv']; exact pFd_max hm (hx i)
        rw [nI_clamp (by omega)]
        refine ih (i + 1) (by omega) _ D.st (by rw [x2_o _ _ (by omega)]; exact h1) (fun k hk => ?_) x3 hx3
        rcases Nat.lt_or_ge k i with y | y
        · rw [x2_o _ _ (by omega)]; exact hv k y
        · have : k = i := by omega
          subst this
          rw [x2_same]; exact e
      rw [← hx3] at fin
      refine XC.block [10, 50] 60 ?_
      refine And.intro (fun z => absurd z hlt) (fun _ => ?_)
      refine cl_atT TJ hn il hx3 (fun v hv' => ?_)
      refine cl_find_b h6.2 w4 wj (by decide) x32 (xs v hv') (show (1 : Int32) = nI 1 from rfl) (fun v2 hv2 => ?_)
      refine And.intro iin ?_
      exact fin v2 hv2 _ x31
  have D0 : clEJ I (x2 I 16 1 (I 3 1)) := fun b k h1 h2 => x2_o _ _ h2
  have a1 : x2 I 16 1 (I 3 1) 16 1 = nI n := by rw [x2_same]; exact hT.2
  have k := c10 n 0 (Nat.zero_add _) _ D0 a1 (fun k hk => absurd hk (Nat.not_lt_zero _)) _ rfl
  refine XC.block [10] 60 ?_
  exact k
end CCC_b
