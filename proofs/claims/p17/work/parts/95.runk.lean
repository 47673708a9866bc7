/-! draw: as functions; of the reference on paper -/
def pTm (a : Int32) : UInt32 := FP.fdiv (FP.i2f a) 1120403456
def pCh (lo : Nat → UInt32) (o : Nat → Nat) (t : UInt32) (i : Nat) : UInt32 := pExp (FP.fdiv (FP.fsub (lo (o i)) (lo (o 0))) t)
def pStay (ch : Nat → UInt32) (en : UInt32) : Nat → Nat → Nat
  | 0, st => st
  | u + 1, st => if st = 0 ∨ Op.cmpValue (FP.fcmp (pS ch st) en) .g < 0 then pStay ch en u (st + 1) else st
def pPk (ch : Nat → UInt32) (dd : UInt32) : Nat → Nat → Nat
  | 0, i => i - 1
  | u + 1, i => if 0 < Op.cmpValue (FP.fcmp (pS ch (i + 1)) dd) .l then i else pPk ch dd u (i + 1)
def pX13 (w : Int64) : Int64 := w ^^^ (w <<< ((13 : Int32).toInt64 &&& 63))
def pX7 (w : Int64) : Int64 := w ^^^ (w.toUInt64 >>> ((7 : Int32).toInt64.toUInt64 &&& Int64.toUInt64 63)).toInt64
def pX17 (w : Int64) : Int64 := w ^^^ (w <<< ((17 : Int32).toInt64 &&& 63))
def pSd (w : Int64) : Int64 := pX17 (pX7 (pX13 w))
def pS40 (w : Int64) : Int64 := (w.toUInt64 >>> ((40 : Int32).toInt64.toUInt64 &&& Int64.toUInt64 63)).toInt64
/-- how far the chances go, and the draw -/
def pEn (c : Int32) (ch : Nat → UInt32) (n : Nat) : UInt32 := FP.fmul (FP.fdiv (FP.i2f c) 1120403456) (pS ch n)
def pDd (w : Int64) (s : UInt32) : UInt32 := FP.fmul (FP.fdiv (FP.l2f (pS40 w)) 1266679808) s
def pDr (ch : Nat → UInt32) (c : Int32) (n : Nat) (w : Int64) : Nat := pPk ch (pDd w (pS ch (pStay ch (pEn c ch n) n 0))) (pStay ch (pEn c ch n) n 0) 0
/-- the TOKEN that is drawn: N TOKENS, temperature a, the k likeliest, percent c, w the SEED moved on -/
def pDw (lo : Nat → UInt32) (N : Nat) (a : Int32) (k : Nat) (c : Int32) (w : Int64) : Nat := pSo lo N (pDr (pCh lo (pSo lo N) (pTm a)) c (min k N) w)
theorem fi_400 : ∀ s, s < 401 → fu (FP.i2f (nI s)) ≤ 2 ^ 158 ∧ (FP.i2f (nI s)).toNat < 2 ^ 31 ∧ (0 < s → 2 ^ 149 ≤ fu (FP.i2f (nI s))) := by decide +kernel
theorem f100 : fu 1120403456 ≤ 2 ^ 156 ∧ 2 ^ 155 ≤ fu 1120403456 := by decide +kernel
theorem f100p : fpos 1120403456 := by show (1120403456 : UInt32).toNat < 2 ^ 31; decide
theorem fF_100 : fF 1120403456 := ffin_of f100.1 (by decide)
theorem pTm_ok {s : Nat} (h0 : 0 < s) (h : s < 401) : fF (pTm (nI s)) ∧ fL 142 (pTm (nI s)) := by
  obtain ⟨h1, h2, h3⟩ := fi_400 s h
  have b : fB 158 (FP.i2f (nI s)) := h1
  have l : fL 149 (FP.i2f (nI s)) := ⟨h3 h0, h2⟩
  have q : fB 152 (pTm (nI s)) := b.div fF_100 f100.2 (by decide) (by decide) (by decide) (by decide)
  exact ⟨q.fin (by decide), l.div (b.fin (by decide)) f100.1 (by have := f100.2; have := Nat.two_pow_pos 155; omega) f100p (by decide) (by decide) (by decide) (by decide)⟩
theorem pCh_ok {lo : Nat → UInt32} {o : Nat → Nat} {t : UInt32} {i N : Nat} (hl : ∀ k, k < N → fB 172 (lo k)) (ho : ∀ k, k < N → o k < N) (hN : 0 < N) (ht : fF t) (hl2 : fL 142 t) (hi : i < N) : fF (FP.fsub (lo (o i)) (lo (o 0))) ∧ fF (FP.fdiv (FP.fsub (lo (o i)) (lo (o 0))) t) ∧ fB 186 (pCh lo o t i) ∧ fL 121 (pCh lo o t i) := by
  have b : fB 173 (FP.fsub (lo (o i)) (lo (o 0))) := (hl _ (ho i hi)).sub (hl _ (ho 0 hN)) (by decide) (by decide) (by decide) (by decide)
  have q : fB 180 (FP.fdiv (FP.fsub (lo (o i)) (lo (o 0))) t) := b.div ht hl2.1 (by decide) (by decide) (by decide) (by decide)
  exact ⟨b.fin (by decide), q.fin (by decide), pExp_ok (q.fin (by decide))⟩
theorem pEn_ok {ch : Nat → UInt32} {n s : Nat} (hc : ∀ i, i < n → fB 186 (ch i)) (hn : n ≤ 16) (h : s < 401) : fF (FP.fdiv (FP.i2f (nI s)) 1120403456) ∧ fF (pEn (nI s) ch n) := by
  obtain ⟨h1, h2, h3⟩ := fi_400 s h
  have b : fB 158 (FP.i2f (nI s)) := h1
  have q : fB 152 (FP.fdiv (FP.i2f (nI s)) 1120403456) := b.div fF_100 f100.2 (by decide) (by decide) (by decide) (by decide)
  have p : fB 190 (pS ch n) := pS_B (k := 186) (by decide) (by decide) hn hc
  exact ⟨q.fin (by decide), (q.mul p (k := 193) (by decide) (by decide) (by decide) (by decide) (by decide)).fin (by decide)⟩
theorem pDd_ok {w : Int64} {s : UInt32} (hs : fB 190 s) : fF (FP.fdiv (FP.l2f (pS40 w)) 1266679808) ∧ fF (pDd w s) := by
  have b : fB 214 (FP.l2f (pS40 w)) := by
    have m : (FP.l2f (pS40 w)).toNat % 2 ^ 31 < 192 * 2 ^ 23 := Jvm.FP.Core.l2f_mag _
    refine Nat.le_trans (fu_le_iff (m := 192 * 2 ^ 23).mpr (by omega)) ?_
    rw [funits_pow (by decide)]
    exact Nat.le_refl _
  have e : fu 1266679808 = 2 ^ 173 := by decide +kernel
  have q : fB 190 (FP.fdiv (FP.l2f (pS40 w)) 1266679808) := b.div (ffin_of (j := 173) (Nat.le_of_eq e) (by decide)) (j := 173) (Nat.le_of_eq e.symm) (by decide) (by decide) (by decide) (by decide)
  exact ⟨q.fin (by decide), (q.mul hs (k := 231) (by decide) (by decide) (by decide) (by decide) (by decide)).fin (by decide)⟩
theorem pStay_le {ch : Nat → UInt32} {en : UInt32} : ∀ u st, st ≤ pStay ch en u st ∧ pStay ch en u st ≤ st + u
  | 0, st => ⟨Nat.le_refl _, Nat.le_refl _⟩
  | u + 1, st => by
    show st ≤ (if st = 0 ∨ Op.cmpValue (FP.fcmp (pS ch st) en) .g < 0 then pStay ch en u (st + 1) else st) ∧ (if st = 0 ∨ Op.cmpValue (FP.fcmp (pS ch st) en) .g < 0 then pStay ch en u (st + 1) else st) ≤ st + (u + 1)
    have := pStay_le (ch := ch) (en := en) u (st + 1)
    split <;> omega
theorem pStay_1 {ch : Nat → UInt32} {en : UInt32} {n : Nat} (h : 0 < n) : 1 ≤ pStay ch en n 0 ∧ pStay ch en n 0 ≤ n := by
  obtain ⟨u, rfl⟩ : ∃ u, n = u + 1 := ⟨n - 1, by omega⟩
  have e : pStay ch en (u + 1) 0 = pStay ch en u 1 := if_pos (Or.inl rfl)
  have := pStay_le (ch := ch) (en := en) u 1
  rw [e]
  omega
section RUK
variable {M : pMd} {I J : Nat → Nat → Int32} {L : Nat → Nat → Int64} {F G : Nat → Nat → UInt32} {d : Nat} {Q : xP}
/-- where draw's walk stands: order, chances -/
def rfDc (M : pMd) (o : Nat → Nat) (n : Nat) (J : Nat → Nat → Int32) : Prop := 2 ≤ mFa M 6 ∧ mFa M 6 ≤ 16 ∧ (∀ k, k < mFa M 6 → J 31 k = nI (o k)) ∧ (∀ k, k < mFa M 6 → o k < mFa M 6) ∧ 1 ≤ n ∧ n ≤ mFa M 6
theorem rf_dw290 {o : Nat → Nat} {n st : Nat} {ch : Nat → UInt32} (H : rfDc M o n J) (hst : st ≤ n) (hs1 : 1 ≤ st) (hc : ∀ i, i < n → fB 186 (ch i)) (hG : ∀ i, i < n → G 44 i = ch i) {dd : UInt32} {a b c n4 s5 : Int32} {f6 f7 f8 f9 : UInt32} (es : s5 = nI st)
    (hQ : Q (some (.int (nI (o (pPk ch dd st 0))))) (sh2, J, L, G)) :
    ∀ (u i : Nat), i + u = st → pPk ch dd u i = pPk ch dd st 0 → ∀ up, up = pS ch i → ∀ x, x = nI i → XC xE0 (d + 2) xM_73 (290, [some (.ref 0), some (.int a), some (.int b), some (.int c), some (.int n4), some (.int s5), some (.float f6), some (.float f7), some (.float f8), some (.float f9), some (.float dd), some (.float up), some (.int x)], [], (sh2, J, L, G)) Q := by
  obtain ⟨h2, h16, ho, hol, n1, n2⟩ := H
  intro u
  induction u with
  | zero =>
    intro i hi hE up hup x hx
    have : i = st := by omega
    subst this
    have e1 : s5 - 1 = nI (i - 1) := by rw [es, nI_p1 hs1]
    have oin : vp_in (s5 - 1) 16 := rf_in e1 (by omega) (by decide)
    have fin : Q (some (.int (J 31 (s5 - 1).toNatClampNeg))) (sh2, J, L, G) := by
      rw [e1, nI_clamp (by omega), ho (i - 1) (by omega)]
      have : pPk ch dd i 0 = i - 1 := hE.symm
      rw [this] at hQ
      exact hQ
    refine XC.block [290] 60 ?_
    exact And.intro (fun _ => And.intro oin ⟨trivial, fin⟩) (fun z => absurd (show s5 ≤ x by rw [es, hx]; exact nI_le (by omega) (by omega)) z)
  | succ u ih =>
    intro i hi hE up hup x hx
    have hlt : ¬ s5 ≤ x := by rw [es, hx]; exact nI_ge (by omega) (by omega)
    have xin : vp_in x 16 := rf_in hx (by omega) (by decide)
    have tx : x.toNatClampNeg = i := by rw [hx, nI_clamp (by omega)]
    have hx1 : x + 1 = nI (i + 1) := by rw [hx, nI_1]
    have ea : FP.fadd up (G 44 x.toNatClampNeg) = pS ch (i + 1) := by rw [tx, hG i (by omega), hup]; rfl
    have ga : vf_n32 (FP.fadd up (G 44 x.toNatClampNeg)) := by rw [ea]; exact (pS_F (k := 186) (by decide) (by decide) (by omega) (fun j hj => hc j (by omega))).n32
    have yes : 0 < Op.cmpValue (FP.fcmp (FP.fadd up (G 44 x.toNatClampNeg)) dd) .l → Q (some (.int (J 31 x.toNatClampNeg))) (sh2, J, L, G) := fun z => by
      rw [ea] at z
      rw [tx, ho i (by omega)]
      have : pPk ch dd st 0 = i := hE.symm.trans (if_pos z)
      rw [this] at hQ
      exact hQ
    have no : ¬ 0 < Op.cmpValue (FP.fcmp (FP.fadd up (G 44 x.toNatClampNeg)) dd) .l → pPk ch dd u (i + 1) = pPk ch dd st 0 := fun z => by
      rw [ea] at z
      exact (if_neg z).symm.trans hE
    refine XC.block [290] 60 ?_
    refine And.intro (fun z => absurd z hlt) (fun _ => ?_)
    refine And.intro xin ?_
    refine And.intro ga ?_
    refine And.intro (fun z => ?_) (fun z => ?_)
    · exact ih (i + 1) (by omega) (no (Int32.not_lt.mpr z)) _ ea _ hx1
    · exact And.intro xin ⟨trivial, yes (Int32.not_le.mp z)⟩
theorem rf_dw220 {o : Nat → Nat} {n st : Nat} {ch : Nat → UInt32} (H : rfDc M o n J) (hst : st ≤ n) (hs1 : 1 ≤ st) (hc : ∀ i, i < n → fB 186 (ch i)) (hG : ∀ i, i < n → G 44 i = ch i) {a b c n4 s5 : Int32} {f6 f7 f8 f9 : UInt32} (es : s5 = nI st) (e8 : f8 = pS ch st)
    (hQ : ∀ L', (∀ b k, ¬ (b = 0 ∧ k = 62) → L' b k = L b k) → L' 0 62 = pSd (L 0 62) → Q (some (.int (nI (o (pPk ch (pDd (pSd (L 0 62)) (pS ch st)) st 0))))) (sh2, J, L', G)) :
    XC xE0 (d + 2) xM_73 (220, [some (.ref 0), some (.int a), some (.int b), some (.int c), some (.int n4), some (.int s5), some (.float f6), some (.float f7), some (.float f8), some (.float f9), none, none, none], [], (sh2, J, L, G)) Q := by
  have hn : n ≤ 16 := by have := H.2.2.2.2.2; have := H.2.1; omega
  have c268 : ∀ L', (∀ b k, ¬ (b = 0 ∧ k = 62) → L' b k = L b k) → L' 0 62 = pSd (L 0 62) → XC xE0 (d + 2) xM_73 (268, [some (.ref 0), some (.int a), some (.int b), some (.int c), some (.int n4), some (.int s5), some (.float f6), some (.float f7), some (.float f8), some (.float f9), none, none, none], [], (sh2, J, L', G)) Q := by
    intro L' D e
    have b8 : fB 190 f8 := by rw [e8]; exact pS_B (k := 186) (by decide) (by decide) (by omega) (fun j hj => hc j (by omega))
    have g := pDd_ok (w := L' 0 62) b8
    have ed : pDd (L' 0 62) f8 = pDd (pSd (L 0 62)) (pS ch st) := by rw [e, e8]
    have fin : Q (some (.int (nI (o (pPk ch (pDd (L' 0 62) f8) st 0))))) (sh2, J, L', G) := by rw [ed]; exact hQ L' D e
    refine XC.block [290] 60 ?_
    refine And.intro g.1.n32 ?_
    refine And.intro g.2.n32 ?_
    exact rf_dw290 H hst hs1 hc hG es fin st 0 (Nat.zero_add _) rfl _ rfl _ rfl
  have D3 : ∀ b k, ¬ (b = 0 ∧ k = 62) → x2 (x2 (x2 L 0 62 (pX13 (L 0 62))) 0 62 (pX7 (x2 L 0 62 (pX13 (L 0 62)) 0 62))) 0 62 (pX17 (x2 (x2 L 0 62 (pX13 (L 0 62))) 0 62 (pX7 (x2 L 0 62 (pX13 (L 0 62)) 0 62)) 0 62)) b k = L b k := fun b k h => by rw [x2_o _ _ h, x2_o _ _ h, x2_o _ _ h]
  have E3 : x2 (x2 (x2 L 0 62 (pX13 (L 0 62))) 0 62 (pX7 (x2 L 0 62 (pX13 (L 0 62)) 0 62))) 0 62 (pX17 (x2 (x2 L 0 62 (pX13 (L 0 62))) 0 62 (pX7 (x2 L 0 62 (pX13 (L 0 62)) 0 62)) 0 62)) 0 62 = pSd (L 0 62) := by rw [x2_same, x2_same, x2_same]; rfl
  have c := c268 _ D3 E3
  refine XC.block [268] 60 ?_
  exact c
theorem rf_dw182 {o : Nat → Nat} {n : Nat} {ch : Nat → UInt32} (H : rfDc M o n J) (hc : ∀ i, i < n → fB 186 (ch i)) (hG : ∀ i, i < n → G 44 i = ch i) {a b c n4 : Int32} {f6 f7 f9 : UInt32} (en : n4 = nI n)
    (hQ : ∀ L', (∀ b k, ¬ (b = 0 ∧ k = 62) → L' b k = L b k) → L' 0 62 = pSd (L 0 62) → Q (some (.int (nI (o (pPk ch (pDd (pSd (L 0 62)) (pS ch (pStay ch f9 n 0))) (pStay ch f9 n 0) 0))))) (sh2, J, L', G)) :
    ∀ (u st : Nat), st + u = n → pStay ch f9 u st = pStay ch f9 n 0 → ∀ f8, f8 = pS ch st → ∀ s5, s5 = nI st → XC xE0 (d + 2) xM_73 (182, [some (.ref 0), some (.int a), some (.int b), some (.int c), some (.int n4), some (.int s5), some (.float f6), some (.float f7), some (.float f8), some (.float f9), none, none, none], [], (sh2, J, L, G)) Q := by
  have hn : n ≤ 16 := by have := H.2.2.2.2.2; have := H.2.1; omega
  have n1 := H.2.2.2.2.1
  intro u
  induction u with
  | zero =>
    intro st hst hE f8 h8 s5 h5
    have : st = n := by omega
    subst this
    have e : st = pStay ch f9 st 0 := hE
    have fin : XC xE0 (d + 2) xM_73 (220, [some (.ref 0), some (.int a), some (.int b), some (.int c), some (.int n4), some (.int s5), some (.float f6), some (.float f7), some (.float f8), some (.float f9), none, none, none], [], (sh2, J, L, G)) Q := by
      rw [← e] at hQ
      exact rf_dw220 H (Nat.le_refl _) n1 hc hG h5 h8 hQ
    refine XC.block [182, 220] 60 ?_
    exact And.intro (fun _ => fin) (fun z => absurd (show n4 ≤ s5 by rw [en, h5]; exact nI_le (by omega) (by omega)) z)
  | succ u ih =>
    intro st hst hE f8 h8 s5 h5
    have hlt : ¬ n4 ≤ s5 := by rw [en, h5]; exact nI_ge (by omega) (by omega)
    have xin : vp_in s5 16 := rf_in h5 (by omega) (by decide)
    have tx : s5.toNatClampNeg = st := by rw [h5, nI_clamp (by omega)]
    have hx1 : s5 + 1 = nI (st + 1) := by rw [h5, nI_1]
    have s0 : s5 = 0 ↔ st = 0 := by rw [h5, show (0 : Int32) = nI 0 from rfl, nI_eq (by omega) (by decide)]
    have ea : FP.fadd f8 (G 44 s5.toNatClampNeg) = pS ch (st + 1) := by rw [tx, hG st (by omega), h8]; rfl
    have ga : vf_n32 (FP.fadd f8 (G 44 s5.toNatClampNeg)) := by rw [ea]; exact (pS_F (k := 186) (by decide) (by decide) (by omega) (fun j hj => hc j (by omega))).n32
    have on : (st = 0 ∨ Op.cmpValue (FP.fcmp (pS ch st) f9) .g < 0) → pStay ch f9 u (st + 1) = pStay ch f9 n 0 := fun z => (if_pos z).symm.trans hE
    have stop : ¬ st = 0 → ¬ Op.cmpValue (FP.fcmp f8 f9) .g < 0 → XC xE0 (d + 2) xM_73 (220, [some (.ref 0), some (.int a), some (.int b), some (.int c), some (.int n4), some (.int s5), some (.float f6), some (.float f7), some (.float f8), some (.float f9), none, none, none], [], (sh2, J, L, G)) Q := fun z1 z2 => by
      rw [h8] at z2
      have e : st = pStay ch f9 n 0 := (if_neg (fun w => w.elim z1 z2)).symm.trans hE
      rw [← e] at hQ
      exact rf_dw220 H (by omega) (by omega) hc hG h5 h8 hQ
    refine XC.block [182, 220] 60 ?_
    refine And.intro (fun z => absurd z hlt) (fun _ => ?_)
    refine And.intro (fun z => ?_) (fun z => ?_)
    · refine And.intro xin ?_
      refine And.intro ga ?_
      exact ih (st + 1) (by omega) (on (Or.inl (s0.mp z))) _ ea _ hx1
    · refine And.intro (fun y => stop (fun w => z (s0.mpr w)) (Int32.not_lt.mpr y)) (fun y => ?_)
      refine And.intro xin ?_
      refine And.intro ga ?_
      exact ih (st + 1) (by omega) (on (Or.inr (h8 ▸ Int32.not_le.mp y))) _ ea _ hx1
theorem rf_dw109 {o : Nat → Nat} {n : Nat} (H : rfDc M o n J) (hl : ∀ k, k < mFa M 6 → fB 172 (F 43 k)) {a b c n4 : Int32} {t : UInt32} (ht : fF t) (ht2 : fL 142 t) (en : n4 = nI n) {cc : Nat} (hcc : cc < 401) (ec : c = nI cc)
    (hQ : ∀ G, fO 44 F G → ∀ L', (∀ b k, ¬ (b = 0 ∧ k = 62) → L' b k = L b k) → L' 0 62 = pSd (L 0 62) → Q (some (.int (nI (o (pDr (pCh (F 43) o t) c n (pSd (L 0 62))))))) (sh2, J, L', G)) :
    ∀ (u i : Nat), i + u = n → ∀ G, fO 44 F G → (∀ j, j < i → G 44 j = pCh (F 43) o t j) → ∀ f7, f7 = pS (pCh (F 43) o t) i → ∀ x, x = nI i → XC xE0 (d + 2) xM_73 (109, [some (.ref 0), some (.int a), some (.int b), some (.int c), some (.int n4), some (.int 0), some (.float t), some (.float f7), some (.float FP.fconst0), some (.int x), none, none, none], [], (sh2, J, L, G)) Q := by
  have H0 := H
  obtain ⟨h2, h16, ho, hol, n1, n2⟩ := H
  have chk : ∀ i, i < n → fB 186 (pCh (F 43) o t i) := fun i hi => (pCh_ok (i := i) hl hol (by omega) ht ht2 (by omega)).2.2.1
  have v0 : vp_in (0 : Int32) 16 := rf_in (j := 0) rfl (by decide) (by decide)
  have eo0 : J 31 0 = nI (o 0) := ho 0 (by omega)
  have oin0 : vp_in (J 31 0) 16 := rf_in eo0 (by have := hol 0 (by omega); omega) (by decide)
  intro u
  induction u with
  | zero =>
    intro i hi G D hv f7 h7 x hx
    have : i = n := by omega
    subst this
    have ge := pEn_ok chk (n := i) (by omega) hcc
    rw [← ec] at ge
    have c182 : ∀ f9, f9 = pEn c (pCh (F 43) o t) i → ∀ f7, XC xE0 (d + 2) xM_73 (182, [some (.ref 0), some (.int a), some (.int b), some (.int c), some (.int n4), some (.int 0), some (.float t), some (.float f7), some (.float FP.fconst0), some (.float f9), none, none, none], [], (sh2, J, L, G)) Q := fun f9 h9 f7 => by
      subst h9
      exact rf_dw182 H0 chk hv en (hQ G D) i 0 (Nat.zero_add _) rfl _ rfl _ rfl
    subst h7
    refine XC.block [109, 182] 60 ?_
    refine And.intro (fun _ => ?_) (fun z => absurd (show n4 ≤ x by rw [en, hx]; exact nI_le (by omega) (by omega)) z)
    refine And.intro ge.1.n32 ?_
    refine And.intro ge.2.n32 ?_
    exact c182 _ rfl _
  | succ u ih =>
    intro i hi G D hv f7 h7 x hx
    have hlt : ¬ n4 ≤ x := by rw [en, hx]; exact nI_ge (by omega) (by omega)
    have xin : vp_in x 16 := rf_in hx (by omega) (by decide)
    have tx : x.toNatClampNeg = i := by rw [hx, nI_clamp (by omega)]
    have hx1 : x + 1 = nI (i + 1) := by rw [hx, nI_1]
    have eo : J 31 x.toNatClampNeg = nI (o i) := by rw [tx]; exact ho i (by omega)
    have ol := hol i (by omega)
    have oin : vp_in (J 31 x.toNatClampNeg) 16 := rf_in eo (by omega) (by decide)
    have ck := pCh_ok (i := i) hl hol (by omega) ht ht2 (by omega)
    have l0 : G 43 (J 31 x.toNatClampNeg).toNatClampNeg = F 43 (o i) := by rw [eo, nI_clamp (by omega), D 43 _ (by decide)]
    have l1 : G 43 (J 31 0).toNatClampNeg = F 43 (o 0) := by rw [eo0, nI_clamp (by have := hol 0 (by omega); omega), D 43 _ (by decide)]
    have es : FP.fsub (G 43 (J 31 x.toNatClampNeg).toNatClampNeg) (G 43 (J 31 0).toNatClampNeg) = FP.fsub (F 43 (o i)) (F 43 (o 0)) := by rw [l0, l1]
    have g1 : vf_n32 (FP.fsub (G 43 (J 31 x.toNatClampNeg).toNatClampNeg) (G 43 (J 31 0).toNatClampNeg)) := by rw [es]; exact ck.1.n32
    have f2 : fF (FP.fdiv (FP.fsub (G 43 (J 31 x.toNatClampNeg).toNatClampNeg) (G 43 (J 31 0).toNatClampNeg)) t) := by rw [es]; exact ck.2.1
    have ev : pExp (FP.fdiv (FP.fsub (G 43 (J 31 x.toNatClampNeg).toNatClampNeg) (G 43 (J 31 0).toNatClampNeg)) t) = pCh (F 43) o t i := by rw [es]; rfl
    have V2 := x2_fill (k := x.toNatClampNeg) hv tx ev
    have rb : x2 G 44 x.toNatClampNeg (pExp (FP.fdiv (FP.fsub (G 43 (J 31 x.toNatClampNeg).toNatClampNeg) (G 43 (J 31 0).toNatClampNeg)) t)) 44 x.toNatClampNeg = pCh (F 43) o t i := by rw [x2_same]; exact ev
    have ea : FP.fadd f7 (x2 G 44 x.toNatClampNeg (pExp (FP.fdiv (FP.fsub (G 43 (J 31 x.toNatClampNeg).toNatClampNeg) (G 43 (J 31 0).toNatClampNeg)) t)) 44 x.toNatClampNeg) = pS (pCh (F 43) o t) (i + 1) := by rw [rb, h7]; rfl
    have ga : vf_n32 (FP.fadd f7 (x2 G 44 x.toNatClampNeg (pExp (FP.fdiv (FP.fsub (G 43 (J 31 x.toNatClampNeg).toNatClampNeg) (G 43 (J 31 0).toNatClampNeg)) t)) 44 x.toNatClampNeg)) := by rw [ea]; exact (pS_F (k := 186) (by decide) (by decide) (by omega) (fun j hj => chk j (by omega))).n32
    have i1 : i + 1 + u = n := by omega
    refine XC.block [109, 182] 60 ?_
    refine And.intro (fun z => absurd z hlt) (fun _ => ?_)
    refine And.intro xin ?_
    refine And.intro oin ?_
    refine And.intro v0 ?_
    refine And.intro oin0 ?_
    refine And.intro g1 ?_
    refine And.intro f2.n32 ?_
    refine fn_exp_r f2 ?_
    refine And.intro xin ?_
    refine And.intro xin ?_
    refine And.intro ga ?_
    exact ih (i + 1) i1 _ D.st V2 _ ea _ hx1
theorem rf_draw (hM : rfMd M I F) (hm : mGd M) {s : Nat} (hs : s ≤ 60) (h60 : I 0 60 = nI s) (hB : 0 < s → ∀ i, i < mFa M 6 → fB 172 (F 43 i)) {a b c : Int32}
    (hrf : ¬ ((¬ a < 0 ∧ a ≤ 400) ∧ (¬ b < 1 ∧ b ≤ 16) ∧ ¬ c < 1 ∧ c ≤ 100) → Q (some (.int (-1))) (sh2, I, L, F))
    (hno : s = 0 → Q (some (.int (-3))) (sh2, I, L, F))
    (h0 : 0 < s → a = 0 → ∀ J, (∀ b k, b ≠ 31 → J b k = I b k) → Q (some (.int (nI (pSo (F 43) (mFa M 6) 0)))) (sh2, J, L, F))
    (hok : 0 < s → ∀ ta k cc, 0 < ta → a = nI ta → 1 ≤ k → k ≤ 16 → b = nI k → c = nI cc → ∀ J, (∀ b k, b ≠ 31 → J b k = I b k) → ∀ G, fO 44 F G → ∀ L', (∀ b k, ¬ (b = 0 ∧ k = 62) → L' b k = L b k) → L' 0 62 = pSd (L 0 62) → Q (some (.int (nI (pDw (F 43) (mFa M 6) a k c (pSd (L 0 62)))))) (sh2, J, L', G)) : XM xE0 (d + 2) 73 [.ref 0, .int a, .int b, .int c] (sh2, I, L, F) Q := by
  have h6 := hm.1.2.2.2.2.2.2.1
  have hne : ¬ I 0 38 = 0 := by rw [hM.1]; decide
  have sz : I 0 60 = 0 ↔ s = 0 := by rw [h60, show (0 : Int32) = nI 0 from rfl, nI_eq (by omega) (by decide)]
  have v0 : vp_in (0 : Int32) 16 := rf_in (j := 0) rfl (by decide) (by decide)
  have v6 : vp_in (6 : Int32) 12 := rf_in (j := 6) rfl (by decide) (by decide)
  have c87 : 0 < s → ∀ ta k cc, 0 < ta → ta < 401 → a = nI ta → 1 ≤ k → k ≤ 16 → b = nI k → cc < 401 → c = nI cc → ∀ J, (∀ b k, b ≠ 31 → J b k = I b k) → (∀ k, k < mFa M 6 → J 31 k = nI (pSo (F 43) (mFa M 6) k)) → ∀ n4, n4 = nI (min k (mFa M 6)) → XC xE0 (d + 2) xM_73 (87, [some (.ref 0), some (.int a), some (.int b), some (.int c), none, none, none, none, none, none, none, none, none], [.int n4], (sh2, J, L, F)) Q := by
    intro s0 ta k cc t0 t4 ea k1 k2 eb c4 ec J D ho n4 en
    have H : rfDc M (pSo (F 43) (mFa M 6)) (min k (mFa M 6)) J := ⟨h6.1, h6.2, ho, fun k hk => pSo_lt _ k hk, by omega, by omega⟩
    have tk := pTm_ok t0 t4
    rw [← ea] at tk
    have fin := fun G D L' hL hw => hok s0 ta k cc t0 ea k1 k2 eb ec J (by assumption) G D L' hL hw
    refine XC.block [109] 60 ?_
    refine And.intro tk.1.n32 ?_
    exact rf_dw109 H (hB s0) tk.1 tk.2 en c4 ec fin (min k (mFa M 6)) 0 (Nat.zero_add _) F fO.rf (fun j hj => absurd hj (Nat.not_lt_zero _)) _ rfl _ rfl
  have rng : ¬ a < 0 → a ≤ 400 → ¬ b < 1 → b ≤ 16 → ¬ c < 1 → c ≤ 100 → ∃ ta k cc, ta < 401 ∧ a = nI ta ∧ 1 ≤ k ∧ k ≤ 16 ∧ b = nI k ∧ cc < 401 ∧ c = nI cc := by
    intro z1 z2 z3 z4 z5 z6
    obtain ⟨ta, ht, ea⟩ := rgx (N := 400) (by decide) z1 z2
    obtain ⟨k, hk, eb⟩ := rgx (N := 16) (by decide) (fun w => z3 (Int32.lt_trans w (by decide))) z4
    obtain ⟨cc, hc, ec⟩ := rgx (N := 100) (by decide) (fun w => z5 (Int32.lt_trans w (by decide))) z6
    rw [eb, show (1 : Int32) = nI 1 from rfl, nI_ltI (by omega) (by decide)] at z3
    exact ⟨ta, k, cc, by omega, ea, by omega, hk, eb, by omega, ec⟩
  have c50 : 0 < s → ¬ a < 0 → a ≤ 400 → ¬ b < 1 → b ≤ 16 → ¬ c < 1 → c ≤ 100 → XC xE0 (d + 2) xM_73 (50, [some (.ref 0), some (.int a), some (.int b), some (.int c), none, none, none, none, none, none, none, none, none], [], (sh2, I, L, F)) Q := by
    intro s0 z1 z2 z3 z4 z5 z6
    obtain ⟨ta, k, cc, t4, ea, k1, k2, eb, c4, ec⟩ := rng z1 z2 z3 z4 z5 z6
    have az : a = 0 ↔ ta = 0 := by rw [ea, show (0 : Int32) = nI 0 from rfl, nI_eq (by omega) (by decide)]
    have f0 : a = 0 → ∀ J, (∀ b k, b ≠ 31 → J b k = I b k) → (∀ k, k < mFa M 6 → J 31 k = nI (pSo (F 43) (mFa M 6) k)) → Q (some (.int (J 31 0))) (sh2, J, L, F) := fun z J D ho => by rw [ho 0 (by omega)]; exact h0 s0 z J D
    have c65 : ¬ a = 0 → ∀ J, (∀ b k, b ≠ 31 → J b k = I b k) → (∀ k, k < mFa M 6 → J 31 k = nI (pSo (F 43) (mFa M 6) k)) → XC xE0 (d + 2) xM_73 (65, [some (.ref 0), some (.int a), some (.int b), some (.int c), none, none, none, none, none, none, none, none, none], [], (sh2, J, L, F)) Q := by
      intro z J D ho
      have e6 : J 17 6 = nI (mFa M 6) := (D 17 6 (by decide)).trans (hM.2.1 6 (by decide))
      have t0 : 0 < ta := Nat.pos_of_ne_zero (fun w => z (az.mpr w))
      have w1 : b ≤ J 17 6 → b = nI (min k (mFa M 6)) := fun y => by
        rw [eb, e6, nI_leI (by omega) (by omega)] at y
        rw [eb]; congr 1; omega
      have w2 : ¬ b ≤ J 17 6 → J 17 6 = nI (min k (mFa M 6)) := fun y => by
        rw [eb, e6, nI_leI (by omega) (by omega)] at y
        rw [e6]; congr 1; omega
      have g := fun n4 en => c87 s0 ta k cc t0 t4 ea k1 k2 eb c4 ec J D ho n4 en
      refine XC.block [87] 60 ?_
      refine And.intro v6 ?_
      exact And.intro (fun y => g _ (w1 y)) (fun y => And.intro v6 (g _ (w2 y)))
    refine XC.block [65] 60 ?_
    refine rf_sort hM hm (fun J D ho => ?_)
    exact And.intro (fun z => c65 z J D ho) (fun z => And.intro v0 ⟨trivial, f0 (Classical.not_not.mp z) J D ho⟩)
  have nope : (a < 0 ∨ ¬ a ≤ 400) → Q (some (.int (-1))) (sh2, I, L, F) := fun z => hrf (fun w => z.elim w.1.1 (fun y => y w.1.2))
  have nopb : (b < 1 ∨ ¬ b ≤ 16) → Q (some (.int (-1))) (sh2, I, L, F) := fun z => hrf (fun w => z.elim w.2.1.1 (fun y => y w.2.1.2))
  have nopc : (c < 1 ∨ ¬ c ≤ 100) → Q (some (.int (-1))) (sh2, I, L, F) := fun z => hrf (fun w => z.elim w.2.2.1 (fun y => y w.2.2.2))
  refine XC.block [50] 60 ?_
  refine fr_in (fun z1 z2 => ?_) (fun z => ?_)
  · refine And.intro (fun z => absurd (show (1 : Int32) = 0 from z) (by decide)) (fun _ => ?_)
    refine fr_in (fun z3 z4 => ?_) (fun z => ?_)
    · refine And.intro (fun z => absurd (show (1 : Int32) = 0 from z) (by decide)) (fun _ => ?_)
      refine fr_in (fun z5 z6 => ?_) (fun z => ?_)
      · refine And.intro (fun _ => ?_) (fun z => absurd (show ¬ (1 : Int32) = 0 by decide) z)
        refine And.intro (fun z => absurd z hne) (fun _ => ?_)
        exact And.intro (fun z => c50 (Nat.pos_of_ne_zero (fun w => z (sz.mpr w))) z1 z2 z3 z4 z5 z6) (fun z => ⟨trivial, hno (sz.mp (Classical.not_not.mp z))⟩)
      · exact And.intro (fun w => absurd (show (0 : Int32) = 0 from rfl) w) (fun _ => ⟨trivial, nopc z⟩)
    · exact And.intro (fun _ => ⟨trivial, nopb z⟩) (fun w => absurd (show (0 : Int32) = 0 from rfl) w)
  · exact And.intro (fun _ => ⟨trivial, nope z⟩) (fun w => absurd (show (0 : Int32) = 0 from rfl) w)
end RUK
