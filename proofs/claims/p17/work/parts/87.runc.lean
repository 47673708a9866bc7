/-! attention of the reference on paper -/
def mH (M : pMd) : Nat := mFa M 0 / mFa M 1
/-- the earliest POSITION that is remembered; their number -/
def aFr (s c : Nat) : Nat := if s < c then 0 else s - c + 1
def aCn (s c : Nat) : Nat := s + 1 - aFr s c
theorem aFr_ok {s c : Nat} (hc : 1 ≤ c) : aFr s c + aCn s c = s + 1 ∧ 1 ≤ aCn s c ∧ aCn s c ≤ c ∧ aFr s c ≤ s := by
  unfold aCn aFr
  split <;> omega
def pZt (M : pMd) (s : Nat) (K : Nat → Nat → UInt32) (Q : Nat → UInt32) (n t : Nat) : UInt32 := pZ (fun j => K ((aFr s (mFa M 5) + t) % mFa M 5) (n / (mFa M 1 / mFa M 2) * mH M + j)) (fun j => Q (n * mH M + j)) (mH M)
def pAt (M : pMd) (s : Nat) (K V : Nat → Nat → UInt32) (Q : Nat → UInt32) (n j : Nat) : UInt32 := pMi (pZt M s K Q n) (aCn s (mFa M 5)) (fun t => V ((aFr s (mFa M 5) + t) % mFa M 5) (n / (mFa M 1 / mFa M 2) * mH M + j))
/-- a row with w of its places written anew -/
def pWr (p w : Nat) (R N : Nat → UInt32) (k : Nat) : UInt32 := if p ≤ k ∧ k < p + w then N (k - p) else R k
theorem mSd {M : pMd} (hm : mGd M) {n : Nat} (hn : n < mFa M 1) : n / (mFa M 1 / mFa M 2) * mH M + mH M ≤ mKw M ∧ mKw M ≤ mFa M 0 ∧ mFa M 0 ≤ 16 ∧ n * mH M + mH M ≤ mFa M 0 ∧ 0 < mFa M 1 / mFa M 2 := by
  obtain ⟨-, h1, h2, h3, h4⟩ := mHs hm
  have h0 := hm.1.1
  have hk := hm.1.2.2.1
  have e : mFa M 2 * (mFa M 1 / mFa M 2) = mFa M 1 := Nat.mul_div_cancel' (Nat.dvd_of_mod_eq_zero hk.2)
  have g0 : 0 < mFa M 1 / mFa M 2 := Nat.div_pos h2 hk.1
  have l : n / (mFa M 1 / mFa M 2) < mFa M 2 := Nat.div_lt_of_lt_mul (by rw [Nat.mul_comm, e]; exact hn)
  refine ⟨?_, by rw [← h4]; exact h3, by omega, ?_, g0⟩
  · rw [← h4, ← Nat.succ_mul]
    exact Nat.mul_le_mul_right _ l
  · rw [← Nat.succ_mul]
    exact Nat.le_trans (Nat.mul_le_mul_right _ hn) (Nat.le_of_eq h1)
section RUC
variable {M : pMd} {I J : Nat → Nat → Int32} {L : Nat → Nat → Int64} {F G : Nat → Nat → UInt32} {d : Nat} {Q : xP}
/-- only the scratch of a head changes -/
def fHd (F G : Nat → Nat → UInt32) : Prop := ∀ b k, b ≠ 37 → b ≠ 40 → G b k = F b k
theorem fHd.rf : fHd F F := fun _ _ _ _ => rfl
theorem fHd.z {k : Nat} {x : UInt32} (h : fHd F G) : fHd F (x2 G 40 k x) := fun b k' h1 h2 => (x2_o _ _ (fun e => h2 e.1)).trans (h b k' h1 h2)
theorem fHd.w {k : Nat} {x : UInt32} (h : fHd F G) : fHd F (x2 G 37 k x) := fun b k' h1 h2 => (x2_o _ _ (fun e => h1 e.1)).trans (h b k' h1 h2)
/-- where a head's walk stands -/
def rfHc (M : pMd) (l s : Nat) (I : Nat → Nat → Int32) (F : Nat → Nat → UInt32) (ll hx cx fx : Int32) (bf : UInt32) : Prop := mGd M ∧ l < 2 ∧ s < 60 ∧ I 0 60 = nI s ∧ (∀ j, j < 12 → I 17 j = nI (mFa M j)) ∧ (∀ k, k < 256 → fB 182 (F 41 k)) ∧ (∀ k, k < 256 → fB 172 (F 42 k)) ∧ (∀ k, k < mFa M 0 → fB 182 (F 34 k)) ∧ ll = nI l ∧ hx = nI (mH M) ∧ cx = nI (mFa M 5) ∧ fx = nI (aFr s (mFa M 5)) ∧ bf = pHr (mH M)
def pKv (l : Nat) (R : Nat → UInt32) (s j : Nat) : UInt32 := R (128 * l + 16 * s + j)
theorem rf_hdB {l s : Nat} {ll hx cx fx : Int32} {bf : UInt32} (H : rfHc M l s I F ll hx cx fx bf) {n : Nat} (hn : n < mFa M 1) : (∀ t, fB 220 (pZt M s (pKv l (F 41)) (F 34) n t)) ∧ (∀ t j, j < mH M → fB 182 (pKv l (F 41) ((aFr s (mFa M 5) + t) % mFa M 5) (n / (mFa M 1 / mFa M 2) * mH M + j)) ∧ fB 172 (pKv l (F 42) ((aFr s (mFa M 5) + t) % mFa M 5) (n / (mFa M 1 / mFa M 2) * mH M + j)) ∧ 128 * l + 16 * ((aFr s (mFa M 5) + t) % mFa M 5) + n / (mFa M 1 / mFa M 2) * mH M + j < 256) ∧ (∀ j, j < mH M → fB 182 (F 34 (n * mH M + j))) := by
  obtain ⟨hm, hl, hs, h60, h17, hK, hV, hq, -⟩ := H
  obtain ⟨s1, s2, s3, s4, s5⟩ := mSd hm hn
  have hc := hm.1.2.2.2.2.2.1
  have ix : ∀ t j, j < mH M → 128 * l + 16 * ((aFr s (mFa M 5) + t) % mFa M 5) + n / (mFa M 1 / mFa M 2) * mH M + j < 256 := by
    intro t j hj
    have := Nat.mod_lt (aFr s (mFa M 5) + t) (show 0 < mFa M 5 by omega)
    omega
  have q1 : ∀ j, j < mH M → fB 182 (F 34 (n * mH M + j)) := fun j hj => hq _ (by omega)
  refine ⟨fun t => pZ_ok (mHs hm).1 (fun j hj => ?_) q1, fun t j hj => ⟨?_, ?_, ix t j hj⟩, q1⟩
  · have := ix t j hj
    exact hK _ (by rw [← Nat.add_assoc]; exact this)
  · have := ix t j hj
    exact hK _ (by rw [← Nat.add_assoc]; exact this)
  · have := ix t j hj
    exact hV _ (by rw [← Nat.add_assoc]; exact this)
theorem rf_at197 {l s : Nat} {ll hx wx cx fx sx : Int32} {bf : UInt32} (H : rfHc M l s I F ll hx cx fx bf) {n t : Nat} (hn : n < mFa M 1) (ht : t < aCn s (mFa M 5)) {G : Nat → Nat → UInt32} (D : fHd F G) {xn sd xt : Int32} (hxn : xn = nI n) (hsd : sd = nI (n / (mFa M 1 / mFa M 2) * mH M)) (hxt : xt = nI (aFr s (mFa M 5) + t)) {m e : UInt32}
    (next : ∀ a, a = pDt (fun j => pKv l (F 41) ((aFr s (mFa M 5) + t) % mFa M 5) (n / (mFa M 1 / mFa M 2) * mH M + j)) (fun j => F 34 (n * mH M + j)) (mH M) → ∀ (xj : Int32), XC xE0 (d + 1) xM_67 (252, [some (.ref 0), some (.int ll), some (.int hx), some (.int wx), some (.int cx), some (.int fx), some (.int sx), some (.float bf), some (.int xn), some (.int sd), some (.float m), some (.float e), some (.int xt), some (.float a), some (.int xj)], [], (sh2, I, L, G)) Q) :
    ∀ (u j : Nat), j + u = mH M → ∀ a, a = pDt (fun j => pKv l (F 41) ((aFr s (mFa M 5) + t) % mFa M 5) (n / (mFa M 1 / mFa M 2) * mH M + j)) (fun j => F 34 (n * mH M + j)) j → ∀ xj, xj = nI j → XC xE0 (d + 1) xM_67 (197, [some (.ref 0), some (.int ll), some (.int hx), some (.int wx), some (.int cx), some (.int fx), some (.int sx), some (.float bf), some (.int xn), some (.int sd), some (.float m), some (.float e), some (.int xt), some (.float a), some (.int xj)], [], (sh2, I, L, G)) Q := by
  obtain ⟨hb1, hb2, hb3⟩ := rf_hdB H hn
  obtain ⟨hm, hl, hs, h60, h17, hK, hV, hq, hll, hhx, hcx, hfx, hbf⟩ := H
  obtain ⟨s1, s2, s3, s4, s5⟩ := mSd hm hn
  have hc := hm.1.2.2.2.2.2.1
  obtain ⟨f1, f2, f3, f4⟩ := aFr_ok (s := s) (c := mFa M 5) (by omega)
  have nz : ¬ cx = 0 := by rw [hcx]; exact nI_ne0 (by omega) (by omega)
  have er : xt - xt / cx * cx = nI ((aFr s (mFa M 5) + t) % mFa M 5) := by rw [hxt, hcx]; exact pk_rem (by omega) (by omega) (by omega)
  have hA : ∀ j, j < mH M → fB 182 (pKv l (F 41) ((aFr s (mFa M 5) + t) % mFa M 5) (n / (mFa M 1 / mFa M 2) * mH M + j)) := fun j hj => (hb2 t j hj).1
  have gm := pDt_m (k := 215) hA hb3 (by decide) (by decide) (by decide) (by decide) (by decide)
  have gF := pDt_F (k := 215) hA hb3 (by decide) (by decide) (by decide) (by decide) (by decide) (by omega)
  intro u
  induction u with
  | zero =>
    intro j hj a ha xj hxj
    have : j = mH M := by omega
    subst this
    refine XC.block [197, 252] 60 ?_
    exact And.intro (fun _ => next _ ha _) (fun z => absurd (show hx ≤ xj by rw [hhx, hxj]; exact nI_le (by omega) (by omega)) z)
  | succ u ih =>
    intro j hj a ha xj hxj
    have hlt : ¬ hx ≤ xj := by rw [hhx, hxj]; exact nI_ge (by omega) (by omega)
    have jl : j < mH M := by omega
    have ix := (hb2 t j jl).2.2
    have ei : 128 * ll + 16 * (xt - xt / cx * cx) + sd + xj = nI (128 * l + 16 * ((aFr s (mFa M 5) + t) % mFa M 5) + n / (mFa M 1 / mFa M 2) * mH M + j) := by rw [er, hll, hsd, hxj, show (128 : Int32) = nI 128 from rfl, show (16 : Int32) = nI 16 from rfl, nI_mul, nI_mul, nI_add, nI_add, nI_add]
    have vin : vp_in (128 * ll + 16 * (xt - xt / cx * cx) + sd + xj) 256 := rf_in ei ix (by decide)
    have eq_ : xn * hx + xj = nI (n * mH M + j) := by rw [hxn, hhx, hxj, nI_mul, nI_add]
    have qin : vp_in (xn * hx + xj) 16 := rf_in eq_ (by omega) (by decide)
    have e1 : G 41 (128 * ll + 16 * (xt - xt / cx * cx) + sd + xj).toNatClampNeg = pKv l (F 41) ((aFr s (mFa M 5) + t) % mFa M 5) (n / (mFa M 1 / mFa M 2) * mH M + j) := by
      rw [ei, nI_clamp (by omega), D 41 _ (by decide) (by decide)]
      unfold pKv
      rw [← Nat.add_assoc]
    have e2 : G 34 (xn * hx + xj).toNatClampNeg = F 34 (n * mH M + j) := by rw [eq_, nI_clamp (by omega), D 34 _ (by decide) (by decide)]
    have g1 : vf_n32 (FP.fmul (G 41 (128 * ll + 16 * (xt - xt / cx * cx) + sd + xj).toNatClampNeg) (G 34 (xn * hx + xj).toNatClampNeg)) := by rw [e1, e2]; exact (gm j jl).n32 (by decide)
    have es : FP.fadd a (FP.fmul (G 41 (128 * ll + 16 * (xt - xt / cx * cx) + sd + xj).toNatClampNeg) (G 34 (xn * hx + xj).toNatClampNeg)) = pDt (fun j => pKv l (F 41) ((aFr s (mFa M 5) + t) % mFa M 5) (n / (mFa M 1 / mFa M 2) * mH M + j)) (fun j => F 34 (n * mH M + j)) (j + 1) := by rw [e1, e2, ha]; rfl
    have g2 : vf_n32 (FP.fadd a (FP.fmul (G 41 (128 * ll + 16 * (xt - xt / cx * cx) + sd + xj).toNatClampNeg) (G 34 (xn * hx + xj).toNatClampNeg))) := by rw [es]; exact (gF (j + 1) (by omega)).n32
    have hx1 : xj + 1 = nI (j + 1) := by rw [hxj, nI_1]
    have j1 : j + 1 + u = mH M := by omega
    refine XC.block [197, 252] 60 ?_
    refine And.intro (fun z => absurd z hlt) (fun _ => ?_)
    refine And.intro nz ?_
    refine And.intro vin ?_
    refine And.intro qin ?_
    refine And.intro g1 ?_
    refine And.intro g2 ?_
    exact ih (j + 1) j1 _ es _ hx1
theorem rf_at182 {l s : Nat} {ll hx wx cx fx sx : Int32} {bf : UInt32} (H : rfHc M l s I F ll hx cx fx bf) {n : Nat} (hn : n < mFa M 1) {xn sd : Int32} (hxn : xn = nI n) (hsd : sd = nI (n / (mFa M 1 / mFa M 2) * mH M)) {W : Nat → UInt32}
    (next : ∀ G, fHd F G → G 37 = W → (∀ t, t < aCn s (mFa M 5) → G 40 t = pZt M s (pKv l (F 41)) (F 34) n t) → ∀ m, m = pMx (pZt M s (pKv l (F 41)) (F 34) n) (aCn s (mFa M 5)) → ∀ y13 y14, XC xE0 (d + 1) xM_67 (312, [some (.ref 0), some (.int ll), some (.int hx), some (.int wx), some (.int cx), some (.int fx), some (.int sx), some (.float bf), some (.int xn), some (.int sd), some (.float m), some (.float FP.fconst0), some (.int fx), y13, y14], [], (sh2, I, L, G)) Q) :
    ∀ (u t : Nat), t + u = aCn s (mFa M 5) → ∀ G, fHd F G → G 37 = W → (∀ t', t' < t → G 40 t' = pZt M s (pKv l (F 41)) (F 34) n t') → ∀ m, m = pMx (pZt M s (pKv l (F 41)) (F 34) n) t → ∀ xt, xt = nI (aFr s (mFa M 5) + t) → ∀ y13 y14, XC xE0 (d + 1) xM_67 (182, [some (.ref 0), some (.int ll), some (.int hx), some (.int wx), some (.int cx), some (.int fx), some (.int sx), some (.float bf), some (.int xn), some (.int sd), some (.float m), some (.float FP.fconst0), some (.int xt), y13, y14], [], (sh2, I, L, G)) Q := by
  have H0 := H
  obtain ⟨hb1, hb2, hb3⟩ := rf_hdB H hn
  obtain ⟨hm, hl, hs, h60, h17, hK, hV, hq, hll, hhx, hcx, hfx, hbf⟩ := H
  have hc := hm.1.2.2.2.2.2.1
  obtain ⟨f1, f2, f3, f4⟩ := aFr_ok (s := s) (c := mFa M 5) (by omega)
  intro u
  induction u with
  | zero =>
    intro t ht G D gw hv m hm' xt hxt y13 y14
    have : t = aCn s (mFa M 5) := by omega
    subst this
    refine XC.block [312] 60 ?_
    exact And.intro (fun _ => next G D gw hv m hm' _ _) (fun z => absurd (show I 0 60 < xt by rw [h60, hxt]; exact nI_lt (by omega) (by omega)) z)
  | succ u ih =>
    intro t ht G D gw hv m hm' xt hxt y13 y14
    have hlt : ¬ I 0 60 < xt := by rw [h60, hxt]; exact nI_nlt (by omega) (by omega)
    have t8 : t < aCn s (mFa M 5) := by omega
    have t1 : t + 1 + u = aCn s (mFa M 5) := by omega
    have ek : xt - fx = nI t := by rw [hxt, hfx, pk_sub (by omega), Nat.add_sub_cancel_left]
    have kin : vp_in (xt - fx) 8 := rf_in ek (by omega) (by decide)
    have tk : (xt - fx).toNatClampNeg = t := by rw [ek, nI_clamp (by omega)]
    have hx1 : xt + 1 = nI (aFr s (mFa M 5) + (t + 1)) := by rw [hxt, nI_1, Nat.add_assoc]
    have teq : xt = fx ↔ t = 0 := by rw [hxt, hfx, nI_eq (by omega) (by omega)]; omega
    have c252 : ∀ a, a = pDt (fun j => pKv l (F 41) ((aFr s (mFa M 5) + t) % mFa M 5) (n / (mFa M 1 / mFa M 2) * mH M + j)) (fun j => F 34 (n * mH M + j)) (mH M) → ∀ (xj : Int32), XC xE0 (d + 1) xM_67 (252, [some (.ref 0), some (.int ll), some (.int hx), some (.int wx), some (.int cx), some (.int fx), some (.int sx), some (.float bf), some (.int xn), some (.int sd), some (.float m), some (.float FP.fconst0), some (.int xt), some (.float a), some (.int xj)], [], (sh2, I, L, G)) Q := by
      intro a ha xj
      have ez : FP.fdiv a bf = pZt M s (pKv l (F 41)) (F 34) n t := by rw [ha, hbf]; rfl
      have gz : vf_n32 (FP.fdiv a bf) := by rw [ez]; exact (hb1 t).n32 (by decide)
      have rb : x2 G 40 (xt - fx).toNatClampNeg (FP.fdiv a bf) 40 (xt - fx).toNatClampNeg = pZt M s (pKv l (F 41)) (F 34) n t := by rw [x2_same]; exact ez
      have hv2 := x2_fill (k := (xt - fx).toNatClampNeg) hv tk ez
      have gw2 : x2 G 40 (xt - fx).toNatClampNeg (FP.fdiv a bf) 37 = W := by
        rw [← gw]; funext k; exact x2_o _ _ (by omega)
      have m1 : xt = fx → x2 G 40 (xt - fx).toNatClampNeg (FP.fdiv a bf) 40 (xt - fx).toNatClampNeg = pMx (pZt M s (pKv l (F 41)) (F 34) n) (t + 1) := fun z => rb.trans (if_pos (Or.inl (teq.mp z))).symm
      have m2 : 0 < Op.cmpValue (FP.fcmp (x2 G 40 (xt - fx).toNatClampNeg (FP.fdiv a bf) 40 (xt - fx).toNatClampNeg) m) .l → x2 G 40 (xt - fx).toNatClampNeg (FP.fdiv a bf) 40 (xt - fx).toNatClampNeg = pMx (pZt M s (pKv l (F 41)) (F 34) n) (t + 1) := fun z => by
        rw [rb, hm'] at z
        exact rb.trans (if_pos (Or.inr z)).symm
      have m3 : ¬ xt = fx → ¬ 0 < Op.cmpValue (FP.fcmp (x2 G 40 (xt - fx).toNatClampNeg (FP.fdiv a bf) 40 (xt - fx).toNatClampNeg) m) .l → m = pMx (pZt M s (pKv l (F 41)) (F 34) n) (t + 1) := fun y z => by
        rw [rb, hm'] at z
        exact hm'.trans (if_neg (fun w => w.elim (fun w => y (teq.mpr w)) z)).symm
      refine XC.block [182] 60 ?_
      refine And.intro gz ?_
      refine And.intro kin ?_
      refine And.intro (fun z => ?_) (fun z => ?_)
      · refine And.intro kin ?_
        exact ih (t + 1) t1 _ D.z gw2 hv2 _ (m1 z) _ hx1 _ _
      · refine And.intro kin ?_
        refine And.intro (fun y => ?_) (fun y => ?_)
        · exact ih (t + 1) t1 _ D.z gw2 hv2 _ (m3 z (Int32.not_lt.mpr y)) _ hx1 _ _
        · refine And.intro kin ?_
          exact ih (t + 1) t1 _ D.z gw2 hv2 _ (m2 (Int32.not_le.mp y)) _ hx1 _ _
    refine XC.block [197] 60 ?_
    refine And.intro (fun z => absurd z hlt) (fun _ => ?_)
    exact rf_at197 H0 hn t8 D hxn hsd hxt c252 (mH M) 0 (Nat.zero_add _) _ rfl _ rfl
theorem rf_at312 {l s : Nat} {ll hx wx cx fx sx : Int32} {bf : UInt32} (H : rfHc M l s I F ll hx cx fx bf) {n : Nat} (hn : n < mFa M 1) {xn sd : Int32} {W : Nat → UInt32} {m : UInt32} (hm' : m = pMx (pZt M s (pKv l (F 41)) (F 34) n) (aCn s (mFa M 5)))
    (next : ∀ G, fHd F G → G 37 = W → (∀ t, t < aCn s (mFa M 5) → G 40 t = pEz (pZt M s (pKv l (F 41)) (F 34) n) (aCn s (mFa M 5)) t) → ∀ e, e = pS (pEz (pZt M s (pKv l (F 41)) (F 34) n) (aCn s (mFa M 5))) (aCn s (mFa M 5)) → ∀ y13 y14, XC xE0 (d + 1) xM_67 (371, [some (.ref 0), some (.int ll), some (.int hx), some (.int wx), some (.int cx), some (.int fx), some (.int sx), some (.float bf), some (.int xn), some (.int sd), some (.float m), some (.float e), some (.int 0), y13, y14], [], (sh2, I, L, G)) Q) :
    ∀ (u t : Nat), t + u = aCn s (mFa M 5) → ∀ G, fHd F G → G 37 = W → (∀ t', t' < t → G 40 t' = pEz (pZt M s (pKv l (F 41)) (F 34) n) (aCn s (mFa M 5)) t') → (∀ t', t ≤ t' → t' < aCn s (mFa M 5) → G 40 t' = pZt M s (pKv l (F 41)) (F 34) n t') → ∀ e, e = pS (pEz (pZt M s (pKv l (F 41)) (F 34) n) (aCn s (mFa M 5))) t → ∀ xt, xt = nI (aFr s (mFa M 5) + t) → ∀ y13 y14, XC xE0 (d + 1) xM_67 (312, [some (.ref 0), some (.int ll), some (.int hx), some (.int wx), some (.int cx), some (.int fx), some (.int sx), some (.float bf), some (.int xn), some (.int sd), some (.float m), some (.float e), some (.int xt), y13, y14], [], (sh2, I, L, G)) Q := by
  obtain ⟨hb1, hb2, hb3⟩ := rf_hdB H hn
  obtain ⟨hm, hl, hs, h60, h17, hK, hV, hq, hll, hhx, hcx, hfx, hbf⟩ := H
  have hc := hm.1.2.2.2.2.2.1
  obtain ⟨f1, f2, f3, f4⟩ := aFr_ok (s := s) (c := mFa M 5) (by omega)
  have ez := fun t ht => pEz_ok (z := pZt M s (pKv l (F 41)) (F 34) n) (n := aCn s (mFa M 5)) (t := t) (fun t _ => hb1 t) ht
  have es := pSh_ok (z := pZt M s (pKv l (F 41)) (F 34) n) (n := aCn s (mFa M 5)) (fun t _ => hb1 t) (by omega)
  intro u
  induction u with
  | zero =>
    intro t ht G D gw hv hw e he xt hxt y13 y14
    have : t = aCn s (mFa M 5) := by omega
    subst this
    refine XC.block [312, 371] 60 ?_
    exact And.intro (fun _ => next G D gw hv e he _ _) (fun z => absurd (show I 0 60 < xt by rw [h60, hxt]; exact nI_lt (by omega) (by omega)) z)
  | succ u ih =>
    intro t ht G D gw hv hw e he xt hxt y13 y14
    have hlt : ¬ I 0 60 < xt := by rw [h60, hxt]; exact nI_nlt (by omega) (by omega)
    have t8 : t < aCn s (mFa M 5) := by omega
    have t1 : t + 1 + u = aCn s (mFa M 5) := by omega
    have ek : xt - fx = nI t := by rw [hxt, hfx, pk_sub (by omega), Nat.add_sub_cancel_left]
    have kin : vp_in (xt - fx) 8 := rf_in ek (by omega) (by decide)
    have tk : (xt - fx).toNatClampNeg = t := by rw [ek, nI_clamp (by omega)]
    have hx1 : xt + 1 = nI (aFr s (mFa M 5) + (t + 1)) := by rw [hxt, nI_1, Nat.add_assoc]
    have rz : G 40 (xt - fx).toNatClampNeg = pZt M s (pKv l (F 41)) (F 34) n t := by rw [tk]; exact hw t (Nat.le_refl _) t8
    have esub : FP.fsub (G 40 (xt - fx).toNatClampNeg) m = FP.fsub (pZt M s (pKv l (F 41)) (F 34) n t) (pMx (pZt M s (pKv l (F 41)) (F 34) n) (aCn s (mFa M 5))) := by rw [rz, hm']
    have fs : fF (FP.fsub (G 40 (xt - fx).toNatClampNeg) m) := by rw [esub]; exact (ez t t8).1
    have ev : pExp (FP.fsub (G 40 (xt - fx).toNatClampNeg) m) = pEz (pZt M s (pKv l (F 41)) (F 34) n) (aCn s (mFa M 5)) t := by rw [esub]; rfl
    have rb : x2 G 40 (xt - fx).toNatClampNeg (pExp (FP.fsub (G 40 (xt - fx).toNatClampNeg) m)) 40 (xt - fx).toNatClampNeg = pEz (pZt M s (pKv l (F 41)) (F 34) n) (aCn s (mFa M 5)) t := by rw [x2_same]; exact ev
    have ea : FP.fadd e (x2 G 40 (xt - fx).toNatClampNeg (pExp (FP.fsub (G 40 (xt - fx).toNatClampNeg) m)) 40 (xt - fx).toNatClampNeg) = pS (pEz (pZt M s (pKv l (F 41)) (F 34) n) (aCn s (mFa M 5))) (t + 1) := by rw [rb, he]; rfl
    have ga : vf_n32 (FP.fadd e (x2 G 40 (xt - fx).toNatClampNeg (pExp (FP.fsub (G 40 (xt - fx).toNatClampNeg) m)) 40 (xt - fx).toNatClampNeg)) := by rw [ea]; exact (es.1 (t + 1) (by omega)).n32
    have hv2 := x2_fill (k := (xt - fx).toNatClampNeg) hv tk ev
    have hw2 : ∀ t', t + 1 ≤ t' → t' < aCn s (mFa M 5) → x2 G 40 (xt - fx).toNatClampNeg (pExp (FP.fsub (G 40 (xt - fx).toNatClampNeg) m)) 40 t' = pZt M s (pKv l (F 41)) (F 34) n t' := by
      intro t' h1 h2
      rw [x2_o _ _ (by omega)]
      exact hw t' (by omega) h2
    have gw2 : x2 G 40 (xt - fx).toNatClampNeg (pExp (FP.fsub (G 40 (xt - fx).toNatClampNeg) m)) 37 = W := by
      rw [← gw]; funext k; exact x2_o _ _ (by omega)
    refine XC.block [312, 371] 60 ?_
    refine And.intro (fun z => absurd z hlt) (fun _ => ?_)
    refine And.intro kin ?_
    refine And.intro fs.n32 ?_
    refine fn_exp_r fs ?_
    refine And.intro kin ?_
    refine And.intro kin ?_
    refine And.intro ga ?_
    exact ih (t + 1) t1 _ D.z gw2 hv2 hw2 _ ea _ hx1 _ _
theorem rf_at384 {l s : Nat} {ll hx wx cx fx sx : Int32} {bf : UInt32} (H : rfHc M l s I F ll hx cx fx bf) {n j : Nat} (hn : n < mFa M 1) (hj : j < mH M) {xn sd xj : Int32} (hsd : sd = nI (n / (mFa M 1 / mFa M 2) * mH M)) (hxj : xj = nI j) {m e : UInt32} (he : e = pS (pEz (pZt M s (pKv l (F 41)) (F 34) n) (aCn s (mFa M 5))) (aCn s (mFa M 5))) {G : Nat → Nat → UInt32} (D : fHd F G) (hz : ∀ t, t < aCn s (mFa M 5) → G 40 t = pEz (pZt M s (pKv l (F 41)) (F 34) n) (aCn s (mFa M 5)) t)
    (next : ∀ a, a = pAt M s (pKv l (F 41)) (pKv l (F 42)) (F 34) n j → ∀ (xt : Int32), XC xE0 (d + 1) xM_67 (443, [some (.ref 0), some (.int ll), some (.int hx), some (.int wx), some (.int cx), some (.int fx), some (.int sx), some (.float bf), some (.int xn), some (.int sd), some (.float m), some (.float e), some (.int xj), some (.float a), some (.int xt)], [], (sh2, I, L, G)) Q) :
    ∀ (u t : Nat), t + u = aCn s (mFa M 5) → ∀ a, a = pS (fun t => FP.fmul (pSh (pZt M s (pKv l (F 41)) (F 34) n) (aCn s (mFa M 5)) t) (pKv l (F 42) ((aFr s (mFa M 5) + t) % mFa M 5) (n / (mFa M 1 / mFa M 2) * mH M + j))) t → ∀ xt, xt = nI (aFr s (mFa M 5) + t) → XC xE0 (d + 1) xM_67 (384, [some (.ref 0), some (.int ll), some (.int hx), some (.int wx), some (.int cx), some (.int fx), some (.int sx), some (.float bf), some (.int xn), some (.int sd), some (.float m), some (.float e), some (.int xj), some (.float a), some (.int xt)], [], (sh2, I, L, G)) Q := by
  obtain ⟨hb1, hb2, hb3⟩ := rf_hdB H hn
  obtain ⟨hm, hl, hs, h60, h17, hK, hV, hq, hll, hhx, hcx, hfx, hbf⟩ := H
  have hc := hm.1.2.2.2.2.2.1
  obtain ⟨f1, f2, f3, f4⟩ := aFr_ok (s := s) (c := mFa M 5) (by omega)
  have nz : ¬ cx = 0 := by rw [hcx]; exact nI_ne0 (by omega) (by omega)
  have es := pSh_ok (z := pZt M s (pKv l (F 41)) (F 34) n) (n := aCn s (mFa M 5)) (fun t _ => hb1 t) (by omega)
  have em := pMi_ok (z := pZt M s (pKv l (F 41)) (F 34) n) (n := aCn s (mFa M 5)) (V := fun t => pKv l (F 42) ((aFr s (mFa M 5) + t) % mFa M 5) (n / (mFa M 1 / mFa M 2) * mH M + j)) (fun t _ => hb1 t) (by omega) (fun t _ => (hb2 t j hj).2.1)
  intro u
  induction u with
  | zero =>
    intro t ht a ha xt hxt
    have : t = aCn s (mFa M 5) := by omega
    subst this
    refine XC.block [384, 443] 60 ?_
    exact And.intro (fun _ => next a ha _) (fun z => absurd (show I 0 60 < xt by rw [h60, hxt]; exact nI_lt (by omega) (by omega)) z)
  | succ u ih =>
    intro t ht a ha xt hxt
    have hlt : ¬ I 0 60 < xt := by rw [h60, hxt]; exact nI_nlt (by omega) (by omega)
    have t8 : t < aCn s (mFa M 5) := by omega
    have t1 : t + 1 + u = aCn s (mFa M 5) := by omega
    have ek : xt - fx = nI t := by rw [hxt, hfx, pk_sub (by omega), Nat.add_sub_cancel_left]
    have kin : vp_in (xt - fx) 8 := rf_in ek (by omega) (by decide)
    have tk : (xt - fx).toNatClampNeg = t := by rw [ek, nI_clamp (by omega)]
    have hx1 : xt + 1 = nI (aFr s (mFa M 5) + (t + 1)) := by rw [hxt, nI_1, Nat.add_assoc]
    have er : xt - xt / cx * cx = nI ((aFr s (mFa M 5) + t) % mFa M 5) := by rw [hxt, hcx]; exact pk_rem (by omega) (by omega) (by omega)
    have ix := (hb2 t j hj).2.2
    have ei : 128 * ll + 16 * (xt - xt / cx * cx) + sd + xj = nI (128 * l + 16 * ((aFr s (mFa M 5) + t) % mFa M 5) + n / (mFa M 1 / mFa M 2) * mH M + j) := by rw [er, hll, hsd, hxj, show (128 : Int32) = nI 128 from rfl, show (16 : Int32) = nI 16 from rfl, nI_mul, nI_mul, nI_add, nI_add, nI_add]
    have vin : vp_in (128 * ll + 16 * (xt - xt / cx * cx) + sd + xj) 256 := rf_in ei ix (by decide)
    have e1 : G 42 (128 * ll + 16 * (xt - xt / cx * cx) + sd + xj).toNatClampNeg = pKv l (F 42) ((aFr s (mFa M 5) + t) % mFa M 5) (n / (mFa M 1 / mFa M 2) * mH M + j) := by
      rw [ei, nI_clamp (by omega), D 42 _ (by decide) (by decide)]
      unfold pKv
      rw [← Nat.add_assoc]
    have e2 : FP.fdiv (G 40 (xt - fx).toNatClampNeg) e = pSh (pZt M s (pKv l (F 41)) (F 34) n) (aCn s (mFa M 5)) t := by rw [tk, hz t t8, he]; rfl
    have g0 : vf_n32 (FP.fdiv (G 40 (xt - fx).toNatClampNeg) e) := by rw [e2]; exact (es.2 t t8).n32 (by decide)
    have g1 : vf_n32 (FP.fmul (FP.fdiv (G 40 (xt - fx).toNatClampNeg) e) (G 42 (128 * ll + 16 * (xt - xt / cx * cx) + sd + xj).toNatClampNeg)) := by rw [e1, e2]; exact (em.1 t t8).n32 (by decide)
    have ea : FP.fadd a (FP.fmul (FP.fdiv (G 40 (xt - fx).toNatClampNeg) e) (G 42 (128 * ll + 16 * (xt - xt / cx * cx) + sd + xj).toNatClampNeg)) = pS (fun t => FP.fmul (pSh (pZt M s (pKv l (F 41)) (F 34) n) (aCn s (mFa M 5)) t) (pKv l (F 42) ((aFr s (mFa M 5) + t) % mFa M 5) (n / (mFa M 1 / mFa M 2) * mH M + j))) (t + 1) := by rw [e1, e2, ha]; rfl
    have g2 : vf_n32 (FP.fadd a (FP.fmul (FP.fdiv (G 40 (xt - fx).toNatClampNeg) e) (G 42 (128 * ll + 16 * (xt - xt / cx * cx) + sd + xj).toNatClampNeg))) := by rw [ea]; exact (em.2.1 (t + 1) (by omega)).n32
    refine XC.block [384, 443] 60 ?_
    refine And.intro (fun z => absurd z hlt) (fun _ => ?_)
    refine And.intro kin ?_
    refine And.intro g0 ?_
    refine And.intro nz ?_
    refine And.intro vin ?_
    refine And.intro g1 ?_
    refine And.intro g2 ?_
    exact ih (t + 1) t1 _ ea _ hx1
theorem rf_at371 {l s : Nat} {ll hx wx cx fx sx : Int32} {bf : UInt32} (H : rfHc M l s I F ll hx cx fx bf) {n : Nat} (hn : n < mFa M 1) {xn sd : Int32} (hxn : xn = nI n) (hsd : sd = nI (n / (mFa M 1 / mFa M 2) * mH M)) {m e : UInt32} (he : e = pS (pEz (pZt M s (pKv l (F 41)) (F 34) n) (aCn s (mFa M 5))) (aCn s (mFa M 5))) {W : Nat → UInt32}
    (next : ∀ G, fHd F G → (∀ k, k < n * mH M → G 37 k = W k) → (∀ j, j < mH M → G 37 (n * mH M + j) = pAt M s (pKv l (F 41)) (pKv l (F 42)) (F 34) n j) → ∀ xn', xn' = nI (n + 1) → ∀ y9 y10 y11 y12 y13 y14, XC xE0 (d + 1) xM_67 (141, [some (.ref 0), some (.int ll), some (.int hx), some (.int wx), some (.int cx), some (.int fx), some (.int sx), some (.float bf), some (.int xn'), y9, y10, y11, y12, y13, y14], [], (sh2, I, L, G)) Q) :
    ∀ (u j : Nat), j + u = mH M → ∀ G, fHd F G → (∀ k, k < n * mH M → G 37 k = W k) → (∀ t, t < aCn s (mFa M 5) → G 40 t = pEz (pZt M s (pKv l (F 41)) (F 34) n) (aCn s (mFa M 5)) t) → (∀ j', j' < j → G 37 (n * mH M + j') = pAt M s (pKv l (F 41)) (pKv l (F 42)) (F 34) n j') → ∀ xj, xj = nI j → ∀ y13 y14, XC xE0 (d + 1) xM_67 (371, [some (.ref 0), some (.int ll), some (.int hx), some (.int wx), some (.int cx), some (.int fx), some (.int sx), some (.float bf), some (.int xn), some (.int sd), some (.float m), some (.float e), some (.int xj), y13, y14], [], (sh2, I, L, G)) Q := by
  have H0 := H
  obtain ⟨hm, hl, hs, h60, h17, hK, hV, hq, hll, hhx, hcx, hfx, hbf⟩ := H
  obtain ⟨s1, s2, s3, s4, s5⟩ := mSd hm hn
  have hc := hm.1.2.2.2.2.2.1
  have hn1 : xn + 1 = nI (n + 1) := by rw [hxn, nI_1]
  intro u
  induction u with
  | zero =>
    intro j hj G D gw hz hv xj hxj y13 y14
    have : j = mH M := by omega
    subst this
    refine XC.block [141, 371] 60 ?_
    exact And.intro (fun _ => next G D gw hv _ hn1 _ _ _ _ _ _) (fun z => absurd (show hx ≤ xj by rw [hhx, hxj]; exact nI_le (by omega) (by omega)) z)
  | succ u ih =>
    intro j hj G D gw hz hv xj hxj y13 y14
    have hlt : ¬ hx ≤ xj := by rw [hhx, hxj]; exact nI_ge (by omega) (by omega)
    have jl : j < mH M := by omega
    have j1 : j + 1 + u = mH M := by omega
    have hx1 : xj + 1 = nI (j + 1) := by rw [hxj, nI_1]
    have ew : xn * hx + xj = nI (n * mH M + j) := by rw [hxn, hhx, hxj, nI_mul, nI_add]
    have win : vp_in (xn * hx + xj) 16 := rf_in ew (by omega) (by decide)
    have tw : (xn * hx + xj).toNatClampNeg = n * mH M + j := by rw [ew, nI_clamp (by omega)]
    have c443 : ∀ a, a = pAt M s (pKv l (F 41)) (pKv l (F 42)) (F 34) n j → ∀ (xt : Int32), XC xE0 (d + 1) xM_67 (443, [some (.ref 0), some (.int ll), some (.int hx), some (.int wx), some (.int cx), some (.int fx), some (.int sx), some (.float bf), some (.int xn), some (.int sd), some (.float m), some (.float e), some (.int xj), some (.float a), some (.int xt)], [], (sh2, I, L, G)) Q := by
      intro a ha xt
      have gw2 : ∀ k, k < n * mH M → x2 G 37 (xn * hx + xj).toNatClampNeg a 37 k = W k := fun k hk => by rw [x2_o _ _ (by omega)]; exact gw k hk
      have hz2 : ∀ t, t < aCn s (mFa M 5) → x2 G 37 (xn * hx + xj).toNatClampNeg a 40 t = pEz (pZt M s (pKv l (F 41)) (F 34) n) (aCn s (mFa M 5)) t := fun t ht => by rw [x2_o _ _ (by omega)]; exact hz t ht
      have hv2 : ∀ j', j' < j + 1 → x2 G 37 (xn * hx + xj).toNatClampNeg a 37 (n * mH M + j') = pAt M s (pKv l (F 41)) (pKv l (F 42)) (F 34) n j' := by
        intro j' hj'
        rw [tw]
        rcases Nat.lt_or_ge j' j with y | y
        · rw [x2_o _ _ (by omega)]; exact hv j' y
        · have : j' = j := by omega
          subst this
          rw [x2_same]; exact ha
      refine XC.block [371] 60 ?_
      refine And.intro win ?_
      exact ih (j + 1) j1 _ D.w gw2 hz2 hv2 _ hx1 _ _
    refine XC.block [384] 60 ?_
    refine And.intro (fun z => absurd z hlt) (fun _ => ?_)
    exact rf_at384 H0 hn jl hsd hxj he D hz c443 (aCn s (mFa M 5)) 0 (Nat.zero_add _) _ rfl _ hfx
theorem rf_at141 {l s : Nat} {ll hx wx cx fx sx : Int32} {bf : UInt32} (H : rfHc M l s I F ll hx cx fx bf)
    (hQ : ∀ G, fHd F G → (∀ n j, n < mFa M 1 → j < mH M → G 37 (n * mH M + j) = pAt M s (pKv l (F 41)) (pKv l (F 42)) (F 34) n j) → Q none (sh2, I, L, G)) :
    ∀ (u n : Nat), n + u = mFa M 1 → ∀ G, fHd F G → (∀ n' j, n' < n → j < mH M → G 37 (n' * mH M + j) = pAt M s (pKv l (F 41)) (pKv l (F 42)) (F 34) n' j) → ∀ xn, xn = nI n → ∀ y9 y10 y11 y12 y13 y14, XC xE0 (d + 1) xM_67 (141, [some (.ref 0), some (.int ll), some (.int hx), some (.int wx), some (.int cx), some (.int fx), some (.int sx), some (.float bf), some (.int xn), y9, y10, y11, y12, y13, y14], [], (sh2, I, L, G)) Q := by
  have H0 := H
  obtain ⟨hm, hl, hs, h60, h17, hK, hV, hq, hll, hhx, hcx, hfx, hbf⟩ := H
  have h1 := hm.1.2.1
  have h2 := hm.1.2.2.1
  obtain ⟨-, -, h21, -⟩ := mHs hm
  have v1 : vp_in (1 : Int32) 12 := rf_in (j := 1) rfl (by decide) (by decide)
  have v2 : vp_in (2 : Int32) 12 := rf_in (j := 2) rfl (by decide) (by decide)
  have e1 : I 17 1 = nI (mFa M 1) := h17 1 (by decide)
  have e2 : I 17 2 = nI (mFa M 2) := h17 2 (by decide)
  have nz2 : ¬ I 17 2 = 0 := by rw [e2]; exact nI_ne0 (by omega) (by omega)
  have ed : I 17 1 / I 17 2 = nI (mFa M 1 / mFa M 2) := by rw [e1, e2]; exact pk_div (by omega) (by omega) (by omega)
  have gpos : 0 < mFa M 1 / mFa M 2 := Nat.div_pos h21 h2.1
  have gle : mFa M 1 / mFa M 2 ≤ 4 := Nat.le_trans (Nat.div_le_self _ _) (by omega)
  have nzd : ¬ I 17 1 / I 17 2 = 0 := by rw [ed]; exact nI_ne0 gpos (by omega)
  intro u
  induction u with
  | zero =>
    intro n hn G D hv xn hxn y9 y10 y11 y12 y13 y14
    have : n = mFa M 1 := by omega
    subst this
    refine XC.block [141] 60 ?_
    refine And.intro v1 ?_
    exact And.intro (fun _ => ⟨trivial, hQ G D hv⟩) (fun z => absurd (show I 17 1 ≤ xn by rw [e1, hxn]; exact nI_le (by omega) (by omega)) z)
  | succ u ih =>
    intro n hn G D hv xn hxn y9 y10 y11 y12 y13 y14
    have hlt : ¬ I 17 1 ≤ xn := by rw [e1, hxn]; exact nI_ge (by omega) (by omega)
    have n1 : n + 1 + u = mFa M 1 := by omega
    have nl : n < mFa M 1 := by omega
    have esd : xn / (I 17 1 / I 17 2) * hx = nI (n / (mFa M 1 / mFa M 2) * mH M) := by rw [ed, hxn, pk_div (by omega) gpos (by omega), hhx, nI_mul]
    have nx371 : ∀ G', fHd F G' → (∀ k, k < n * mH M → G' 37 k = G 37 k) → (∀ j, j < mH M → G' 37 (n * mH M + j) = pAt M s (pKv l (F 41)) (pKv l (F 42)) (F 34) n j) → ∀ xn', xn' = nI (n + 1) → ∀ y9 y10 y11 y12 y13 y14, XC xE0 (d + 1) xM_67 (141, [some (.ref 0), some (.int ll), some (.int hx), some (.int wx), some (.int cx), some (.int fx), some (.int sx), some (.float bf), some (.int xn'), y9, y10, y11, y12, y13, y14], [], (sh2, I, L, G')) Q := by
      intro G' D' gw' hv' xn' hxn' y9 y10 y11 y12 y13 y14
      refine ih (n + 1) n1 G' D' (fun n' j hn' hj => ?_) xn' hxn' _ _ _ _ _ _
      rcases Nat.lt_or_ge n' n with y | y
      · have : (n' + 1) * mH M ≤ n * mH M := Nat.mul_le_mul_right _ y
        rw [Nat.succ_mul] at this
        rw [gw' _ (by omega)]
        exact hv n' j y hj
      · have : n' = n := by omega
        subst this
        exact hv' j hj
    refine XC.block [182] 60 ?_
    refine And.intro v1 ?_
    refine And.intro (fun z => absurd z hlt) (fun _ => ?_)
    refine And.intro v1 ?_
    refine And.intro v2 ?_
    refine And.intro nz2 ?_
    refine And.intro nzd ?_
    refine rf_at182 H0 nl hxn esd (W := G 37) (fun G1 D1 gw1 hz1 m1 hm1 y13 y14 => ?_) (aCn s (mFa M 5)) 0 (Nat.zero_add _) G D rfl (fun t ht => absurd ht (Nat.not_lt_zero _)) _ rfl _ hfx _ _
    refine rf_at312 H0 nl (W := G 37) hm1 (fun G2 D2 gw2 hz2 e2 he2 y13 y14 => ?_) (aCn s (mFa M 5)) 0 (Nat.zero_add _) G1 D1 gw1 (fun t ht => absurd ht (Nat.not_lt_zero _)) (fun t _ ht => hz1 t ht) _ rfl _ hfx _ _
    exact rf_at371 H0 nl hxn esd he2 (W := G 37) nx371 (mH M) 0 (Nat.zero_add _) G2 D2 (fun k _ => congrFun gw2 k) hz2 (fun j hj => absurd hj (Nat.not_lt_zero _)) _ rfl _ _
end RUC
