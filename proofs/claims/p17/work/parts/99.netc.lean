/-! the class on paper: attention's heads -/
theorem aFr_max : ∀ s, s < 64 → ∀ c, c < 9 → (if (0 : Int32) < nI s - nI c + 1 then nI s - nI c + 1 else 0) = nI (aFr s c) := by decide +kernel
/-- what is remembered, as the class holds it -/
def pKc (R : Nat → UInt32) (a j : Nat) : UInt32 := R (16 * a + j)
section NEC_a
variable {X : List (Option Nat)} {T : List xS} {M : pMd} {I J : Nat → Nat → Int32} {L : Nat → Nat → Int64} {F G : Nat → Nat → UInt32} {d : Nat} {Q : xP}
theorem cl_placeOf_a (h5 : I 39 5 = nI (mFa M 5)) (hm : mGd M) {p : Nat} (hp : p < 2 ^ 20) {pp : Int32} (hpp : pp = nI p) (hQ : ∀ v, v = nI (16 * (p % mFa M 5)) → Q (some (.int v)) (shG X (md1 T), I, L, F)) : XM xE0 d 121 [.ref 38, .int pp] (shG X (md1 T), I, L, F) Q := by
  have hc := hm.1.2.2.2.2.2.1
  have nz : ¬ I 39 5 = 0 := by rw [h5]; exact nI_ne0 (by omega) (by omega)
  have v5 : vp_in (5 : Int32) 12 := rf_in (j := 5) rfl (by decide) (by decide)
  have e : (pp - pp / I 39 5 * I 39 5) * 16 = nI (16 * (p % mFa M 5)) := by
    rw [hpp, h5, pk_rem (by omega) (by omega) (by omega), show (16 : Int32) = nI 16 from rfl, nI_mul, Nat.mul_comm]
  have fin := hQ _ e
  refine XC.block [] 60 ?_
  exact And.intro v5 (And.intro nz ⟨trivial, fin⟩)
theorem cl_earliest_a (h5 : I 39 5 = nI (mFa M 5)) (hm : mGd M) {s : Nat} (hs : s < 60) (h60 : I 18 10 = nI s) (hQ : ∀ v, v = nI (aFr s (mFa M 5)) → Q (some (.int v)) (shG X (md1 T), I, L, F)) : XM xE0 d 124 [.ref 18, .ref 38] (shG X (md1 T), I, L, F) Q := by
  have hc := hm.1.2.2.2.2.2.1
  have v5 : vp_in (5 : Int32) 12 := rf_in (j := 5) rfl (by decide) (by decide)
  have e : (if (0 : Int32) < I 18 10 - I 39 5 + 1 then I 18 10 - I 39 5 + 1 else 0) = nI (aFr s (mFa M 5)) := by
    rw [h60, h5]; exact aFr_max s (by omega) _ (by omega)
  have fin := hQ _ e
  refine XC.block [] 60 ?_
  exact And.intro v5 ⟨trivial, fin⟩
/-- where a head's walk stands -/
def clHc_28_a (M : pMd) (s : Nat) (I : Nat → Nat → Int32) (F : Nat → Nat → UInt32) : Prop := mGd M ∧ s < 60 ∧ I 18 10 = nI s ∧ I 39 5 = nI (mFa M 5) ∧ I 38 5 = nI (mH M) ∧ (∀ k, k < 128 → fB 182 (F 28 k)) ∧ (∀ k, k < mFa M 0 → fB 182 (F 21 k))
theorem cl_hdB_28_a {s : Nat} (H : clHc_28_a M s I F) {n : Nat} (hn : n < mFa M 1) : (∀ t, fB 220 (pZt M s (pKc (F 28)) (F 21) n t)) ∧ (∀ t j, j < mH M → fB 182 (pKc (F 28) ((aFr s (mFa M 5) + t) % mFa M 5) (n / (mFa M 1 / mFa M 2) * mH M + j)) ∧ 16 * ((aFr s (mFa M 5) + t) % mFa M 5) + n / (mFa M 1 / mFa M 2) * mH M + j < 128) ∧ (∀ j, j < mH M → fB 182 (F 21 (n * mH M + j))) := by
  obtain ⟨hm, hs, h60, h5, h6, hK, hq⟩ := H
  obtain ⟨s1, s2, s3, s4, s5⟩ := mSd hm hn
  have hc := hm.1.2.2.2.2.2.1
  have ix : ∀ t j, j < mH M → 16 * ((aFr s (mFa M 5) + t) % mFa M 5) + n / (mFa M 1 / mFa M 2) * mH M + j < 128 := by
    intro t j hj
    have := Nat.mod_lt (aFr s (mFa M 5) + t) (show 0 < mFa M 5 by omega)
    omega
  have q1 : ∀ j, j < mH M → fB 182 (F 21 (n * mH M + j)) := fun j hj => hq _ (by omega)
  refine ⟨fun t => pZ_ok (mHs hm).1 (fun j hj => ?_) q1, fun t j hj => ⟨?_, ix t j hj⟩, q1⟩
  · have := ix t j hj
    exact hK _ (by rw [← Nat.add_assoc]; exact this)
  · have := ix t j hj
    exact hK _ (by rw [← Nat.add_assoc]; exact this)
theorem cl_wh61_28_a {s : Nat} (H : clHc_28_a M s I F) {n t : Nat} (hn : n < mFa M 1) (ht : t < aCn s (mFa M 5)) {G : Nat → Nat → UInt32} (D : fO 25 F G) {xn sd fx cn xt fr : Int32} {dv m : UInt32} (hxn : xn = nI (n * mH M)) (hfr : fr = nI (16 * ((aFr s (mFa M 5) + t) % mFa M 5) + n / (mFa M 1 / mFa M 2) * mH M))
    (next : ∀ a, a = pDt (fun j => pKc (F 28) ((aFr s (mFa M 5) + t) % mFa M 5) (n / (mFa M 1 / mFa M 2) * mH M + j)) (fun j => F 21 (n * mH M + j)) (mH M) → ∀ (xj : Int32), XC xE0 (d + 1) xM_125 (98, [some (.ref 18), some (.ref 38), some (.ref 28), some (.int xn), some (.int sd), some (.int fx), some (.int cn), some (.float dv), some (.float m), some (.int xt), some (.int fr), some (.float a), some (.int xj)], [], (shG X (md1 T), I, L, G)) Q) :
    ∀ (u j : Nat), j + u = mH M → ∀ a, a = pDt (fun j => pKc (F 28) ((aFr s (mFa M 5) + t) % mFa M 5) (n / (mFa M 1 / mFa M 2) * mH M + j)) (fun j => F 21 (n * mH M + j)) j → ∀ xj, xj = nI j → XC xE0 (d + 1) xM_125 (61, [some (.ref 18), some (.ref 38), some (.ref 28), some (.int xn), some (.int sd), some (.int fx), some (.int cn), some (.float dv), some (.float m), some (.int xt), some (.int fr), some (.float a), some (.int xj)], [], (shG X (md1 T), I, L, G)) Q := by
  obtain ⟨hb1, hb2, hb3⟩ := cl_hdB_28_a H hn
  obtain ⟨hm, hs, h60, h5, hhx, hK, hq⟩ := H
  obtain ⟨s1, s2, s3, s4, s5⟩ := mSd hm hn
  have hA : ∀ j, j < mH M → fB 182 (pKc (F 28) ((aFr s (mFa M 5) + t) % mFa M 5) (n / (mFa M 1 / mFa M 2) * mH M + j)) := fun j hj => (hb2 t j hj).1
  have gm := pDt_m (k := 215) hA hb3 (by decide) (by decide) (by decide) (by decide) (by decide)
  have gF := pDt_F (k := 215) hA hb3 (by decide) (by decide) (by decide) (by decide) (by decide) (by omega)
  intro u
  induction u with
  | zero =>
    intro j hj a ha xj hxj
    have : j = mH M := by omega
    subst this
    refine XC.block [61, 98] 60 ?_
    exact And.intro (fun _ => next _ ha _) (fun z => absurd (show I 38 5 ≤ xj by rw [hhx, hxj]; exact nI_le (by omega) (by omega)) z)
  | succ u ih =>
    intro j hj a ha xj hxj
    have hlt : ¬ I 38 5 ≤ xj := by rw [hhx, hxj]; exact nI_ge (by omega) (by omega)
    have jl : j < mH M := by omega
    have ix := (hb2 t j jl).2
    have ei : fr + xj = nI (16 * ((aFr s (mFa M 5) + t) % mFa M 5) + n / (mFa M 1 / mFa M 2) * mH M + j) := by rw [hfr, hxj, nI_add]
    have vin : vp_in (fr + xj) 128 := rf_in ei ix (by decide)
    have eq_ : xn + xj = nI (n * mH M + j) := by rw [hxn, hxj, nI_add]
    have qin : vp_in (xn + xj) 16 := rf_in eq_ (by omega) (by decide)
    have e1 : G 28 (fr + xj).toNatClampNeg = pKc (F 28) ((aFr s (mFa M 5) + t) % mFa M 5) (n / (mFa M 1 / mFa M 2) * mH M + j) := by
      rw [ei, nI_clamp (by omega), D 28 _ (by decide)]
      unfold pKc
      rw [← Nat.add_assoc]
    have e2 : G 21 (xn + xj).toNatClampNeg = F 21 (n * mH M + j) := by rw [eq_, nI_clamp (by omega), D 21 _ (by decide)]
    have g1 : vf_n32 (FP.fmul (G 28 (fr + xj).toNatClampNeg) (G 21 (xn + xj).toNatClampNeg)) := by rw [e1, e2]; exact (gm j jl).n32 (by decide)
    have es : FP.fadd a (FP.fmul (G 28 (fr + xj).toNatClampNeg) (G 21 (xn + xj).toNatClampNeg)) = pDt (fun j => pKc (F 28) ((aFr s (mFa M 5) + t) % mFa M 5) (n / (mFa M 1 / mFa M 2) * mH M + j)) (fun j => F 21 (n * mH M + j)) (j + 1) := by rw [e1, e2, ha]; rfl
    have g2 : vf_n32 (FP.fadd a (FP.fmul (G 28 (fr + xj).toNatClampNeg) (G 21 (xn + xj).toNatClampNeg))) := by rw [es]; exact (gF (j + 1) (by omega)).n32
    have hx1 : xj + 1 = nI (j + 1) := by rw [hxj, nI_1]
    have j1 : j + 1 + u = mH M := by omega
    refine XC.block [61, 98] 60 ?_
    refine And.intro (fun z => absurd z hlt) (fun _ => ?_)
    refine And.intro vin ?_
    refine And.intro qin ?_
    refine And.intro g1 ?_
    refine And.intro g2 ?_
    exact ih (j + 1) j1 _ es _ hx1
theorem cl_wh34_28_a {s : Nat} (H : clHc_28_a M s I F) {n : Nat} (hn : n < mFa M 1) {xn sd fx cn : Int32} {dv : UInt32} (hxn : xn = nI (n * mH M)) (hsd : sd = nI (n / (mFa M 1 / mFa M 2) * mH M)) (hfx : fx = nI (aFr s (mFa M 5))) (hcn : cn = nI (aCn s (mFa M 5))) (hdv : dv = pHr (mH M))
    (next : ∀ G, fO 25 F G → (∀ t, t < aCn s (mFa M 5) → G 25 t = pZt M s (pKc (F 28)) (F 21) n t) → ∀ m, m = pMx (pZt M s (pKc (F 28)) (F 21) n) (aCn s (mFa M 5)) → ∀ (x9 : Int32) y10 y11 y12, XC xE0 (d + 1) xM_125 (148, [some (.ref 18), some (.ref 38), some (.ref 28), some (.int xn), some (.int sd), some (.int fx), some (.int cn), some (.float dv), some (.float m), some (.int x9), y10, y11, y12], [], (shG X (md1 T), I, L, G)) Q) :
    ∀ (u t : Nat), t + u = aCn s (mFa M 5) → ∀ G, fO 25 F G → (∀ t', t' < t → G 25 t' = pZt M s (pKc (F 28)) (F 21) n t') → ∀ m, m = pMx (pZt M s (pKc (F 28)) (F 21) n) t → ∀ xt, xt = nI t → ∀ y10 y11 y12, XC xE0 (d + 1) xM_125 (34, [some (.ref 18), some (.ref 38), some (.ref 28), some (.int xn), some (.int sd), some (.int fx), some (.int cn), some (.float dv), some (.float m), some (.int xt), y10, y11, y12], [], (shG X (md1 T), I, L, G)) Q := by
  have H0 := H
  obtain ⟨hb1, hb2, hb3⟩ := cl_hdB_28_a H hn
  obtain ⟨hm, hs, h60, h5, hhx, hK, hq⟩ := H
  have hc := hm.1.2.2.2.2.2.1
  obtain ⟨f1, f2, f3, f4⟩ := aFr_ok (s := s) (c := mFa M 5) (by omega)
  intro u
  induction u with
  | zero =>
    intro t ht G D hv m hm' xt hxt y10 y11 y12
    have : t = aCn s (mFa M 5) := by omega
    subst this
    have k := next G D hv m hm'
    refine XC.block [34, 148] 60 ?_
    exact And.intro (fun _ => k _ _ _ _) (fun z => absurd (show cn ≤ xt by rw [hcn, hxt]; exact nI_le (by omega) (by omega)) z)
  | succ u ih =>
    intro t ht G D hv m hm' xt hxt y10 y11 y12
    have hlt : ¬ cn ≤ xt := by rw [hcn, hxt]; exact nI_ge (by omega) (by omega)
    have t8 : t < aCn s (mFa M 5) := by omega
    have t1 : t + 1 + u = aCn s (mFa M 5) := by omega
    have kin : vp_in xt 8 := rf_in hxt (by omega) (by decide)
    have tk : xt.toNatClampNeg = t := by rw [hxt, nI_clamp (by omega)]
    have hx1 : xt + 1 = nI (t + 1) := by rw [hxt, nI_1]
    have teq : xt = 0 ↔ t = 0 := by rw [hxt, show (0 : Int32) = nI 0 from rfl, nI_eq (by omega) (by decide)]
    have epo : fx + xt = nI (aFr s (mFa M 5) + t) := by rw [hfx, hxt, nI_add]
    have c98 : ∀ fr, ∀ a, a = pDt (fun j => pKc (F 28) ((aFr s (mFa M 5) + t) % mFa M 5) (n / (mFa M 1 / mFa M 2) * mH M + j)) (fun j => F 21 (n * mH M + j)) (mH M) → ∀ (xj : Int32), XC xE0 (d + 1) xM_125 (98, [some (.ref 18), some (.ref 38), some (.ref 28), some (.int xn), some (.int sd), some (.int fx), some (.int cn), some (.float dv), some (.float m), some (.int xt), some (.int fr), some (.float a), some (.int xj)], [], (shG X (md1 T), I, L, G)) Q := by
      intro fr a ha xj
      have ez : FP.fdiv a dv = pZt M s (pKc (F 28)) (F 21) n t := by rw [ha, hdv]; rfl
      have gz : vf_n32 (FP.fdiv a dv) := by rw [ez]; exact (hb1 t).n32 (by decide)
      have rb : x2 G 25 xt.toNatClampNeg (FP.fdiv a dv) 25 xt.toNatClampNeg = pZt M s (pKc (F 28)) (F 21) n t := by rw [x2_same]; exact ez
      have hv2 := x2_fill (k := xt.toNatClampNeg) hv tk ez
      have m1 : xt = 0 → x2 G 25 xt.toNatClampNeg (FP.fdiv a dv) 25 xt.toNatClampNeg = pMx (pZt M s (pKc (F 28)) (F 21) n) (t + 1) := fun z => rb.trans (if_pos (Or.inl (teq.mp z))).symm
      have m2 : 0 < Op.cmpValue (FP.fcmp (x2 G 25 xt.toNatClampNeg (FP.fdiv a dv) 25 xt.toNatClampNeg) m) .l → x2 G 25 xt.toNatClampNeg (FP.fdiv a dv) 25 xt.toNatClampNeg = pMx (pZt M s (pKc (F 28)) (F 21) n) (t + 1) := fun z => by
        rw [rb, hm'] at z
        exact rb.trans (if_pos (Or.inr z)).symm
      have m3 : ¬ xt = 0 → ¬ 0 < Op.cmpValue (FP.fcmp (x2 G 25 xt.toNatClampNeg (FP.fdiv a dv) 25 xt.toNatClampNeg) m) .l → m = pMx (pZt M s (pKc (F 28)) (F 21) n) (t + 1) := fun y z => by
        rw [rb, hm'] at z
        exact hm'.trans (if_neg (fun w => w.elim (fun w => y (teq.mpr w)) z)).symm
      refine XC.block [34] 60 ?_
      refine And.intro gz ?_
      refine And.intro kin ?_
      refine And.intro (fun z => ?_) (fun z => ?_)
      · refine And.intro kin ?_
        exact ih (t + 1) t1 _ D.st hv2 _ (m1 z) _ hx1 _ _ _
      · refine And.intro kin ?_
        refine And.intro (fun y => ?_) (fun y => ?_)
        · exact ih (t + 1) t1 _ D.st hv2 _ (m3 z (Int32.not_lt.mpr y)) _ hx1 _ _ _
        · refine And.intro kin ?_
          exact ih (t + 1) t1 _ D.st hv2 _ (m2 (Int32.not_le.mp y)) _ hx1 _ _ _
    have c53 : ∀ fr, fr = nI (16 * ((aFr s (mFa M 5) + t) % mFa M 5) + n / (mFa M 1 / mFa M 2) * mH M) → XC xE0 (d + 1) xM_125 (53, [some (.ref 18), some (.ref 38), some (.ref 28), some (.int xn), some (.int sd), some (.int fx), some (.int cn), some (.float dv), some (.float m), some (.int xt), y10, y11, y12], [.int fr], (shG X (md1 T), I, L, G)) Q := by
      intro fr hfr
      refine XC.block [61] 60 ?_
      exact cl_wh61_28_a H0 hn t8 D hxn hfr (c98 fr) (mH M) 0 (Nat.zero_add _) _ rfl _ rfl
    refine XC.block [53] 60 ?_
    refine And.intro (fun z => absurd z hlt) (fun _ => ?_)
    refine cl_placeOf_a h5 hm (p := aFr s (mFa M 5) + t) (by omega) epo (fun v hv' => ?_)
    exact c53 _ (show v + sd = _ by rw [hv', hsd, nI_add])
theorem cl_wh154_28_a {s : Nat} (H : clHc_28_a M s I F) {n : Nat} (hn : n < mFa M 1) {xn sd fx cn : Int32} {dv m : UInt32} (hcn : cn = nI (aCn s (mFa M 5))) (hm' : m = pMx (pZt M s (pKc (F 28)) (F 21) n) (aCn s (mFa M 5)))
    (hQ : ∀ G, fO 25 F G → (∀ t, t < aCn s (mFa M 5) → G 25 t = pEz (pZt M s (pKc (F 28)) (F 21) n) (aCn s (mFa M 5)) t) → ∀ e, e = pS (pEz (pZt M s (pKc (F 28)) (F 21) n) (aCn s (mFa M 5))) (aCn s (mFa M 5)) → Q (some (.float e)) (shG X (md1 T), I, L, G)) :
    ∀ (u t : Nat), t + u = aCn s (mFa M 5) → ∀ G, fO 25 F G → (∀ t', t' < t → G 25 t' = pEz (pZt M s (pKc (F 28)) (F 21) n) (aCn s (mFa M 5)) t') → (∀ t', t ≤ t' → t' < aCn s (mFa M 5) → G 25 t' = pZt M s (pKc (F 28)) (F 21) n t') → ∀ e, e = pS (pEz (pZt M s (pKc (F 28)) (F 21) n) (aCn s (mFa M 5))) t → ∀ xt, xt = nI t → ∀ y11 y12, XC xE0 (d + 1) xM_125 (154, [some (.ref 18), some (.ref 38), some (.ref 28), some (.int xn), some (.int sd), some (.int fx), some (.int cn), some (.float dv), some (.float m), some (.float e), some (.int xt), y11, y12], [], (shG X (md1 T), I, L, G)) Q := by
  obtain ⟨hb1, hb2, hb3⟩ := cl_hdB_28_a H hn
  obtain ⟨hm, hs, h60, h5, hhx, hK, hq⟩ := H
  have hc := hm.1.2.2.2.2.2.1
  obtain ⟨f1, f2, f3, f4⟩ := aFr_ok (s := s) (c := mFa M 5) (by omega)
  have ez := fun t ht => pEz_ok (z := pZt M s (pKc (F 28)) (F 21) n) (n := aCn s (mFa M 5)) (t := t) (fun t _ => hb1 t) ht
  have es := pSh_ok (z := pZt M s (pKc (F 28)) (F 21) n) (n := aCn s (mFa M 5)) (fun t _ => hb1 t) (by omega)
  intro u
  induction u with
  | zero =>
    intro t ht G D hv hw e he xt hxt y11 y12
    have : t = aCn s (mFa M 5) := by omega
    subst this
    have fin := hQ G D hv e he
    refine XC.block [154] 60 ?_
    exact And.intro (fun _ => ⟨trivial, fin⟩) (fun z => absurd (show cn ≤ xt by rw [hcn, hxt]; exact nI_le (by omega) (by omega)) z)
  | succ u ih =>
    intro t ht G D hv hw e he xt hxt y11 y12
    have hlt : ¬ cn ≤ xt := by rw [hcn, hxt]; exact nI_ge (by omega) (by omega)
    have t8 : t < aCn s (mFa M 5) := by omega
    have t1 : t + 1 + u = aCn s (mFa M 5) := by omega
    have kin : vp_in xt 8 := rf_in hxt (by omega) (by decide)
    have tk : xt.toNatClampNeg = t := by rw [hxt, nI_clamp (by omega)]
    have hx1 : xt + 1 = nI (t + 1) := by rw [hxt, nI_1]
    have rz : G 25 xt.toNatClampNeg = pZt M s (pKc (F 28)) (F 21) n t := by rw [tk]; exact hw t (Nat.le_refl _) t8
    have esub : FP.fsub (G 25 xt.toNatClampNeg) m = FP.fsub (pZt M s (pKc (F 28)) (F 21) n t) (pMx (pZt M s (pKc (F 28)) (F 21) n) (aCn s (mFa M 5))) := by rw [rz, hm']
    have fs : fF (FP.fsub (G 25 xt.toNatClampNeg) m) := by rw [esub]; exact (ez t t8).1
    have ev : pExp (FP.fsub (G 25 xt.toNatClampNeg) m) = pEz (pZt M s (pKc (F 28)) (F 21) n) (aCn s (mFa M 5)) t := by rw [esub]; rfl
    have rb : x2 G 25 xt.toNatClampNeg (pExp (FP.fsub (G 25 xt.toNatClampNeg) m)) 25 xt.toNatClampNeg = pEz (pZt M s (pKc (F 28)) (F 21) n) (aCn s (mFa M 5)) t := by rw [x2_same]; exact ev
    have ea : FP.fadd e (x2 G 25 xt.toNatClampNeg (pExp (FP.fsub (G 25 xt.toNatClampNeg) m)) 25 xt.toNatClampNeg) = pS (pEz (pZt M s (pKc (F 28)) (F 21) n) (aCn s (mFa M 5))) (t + 1) := by rw [rb, he]; rfl
    have ga : vf_n32 (FP.fadd e (x2 G 25 xt.toNatClampNeg (pExp (FP.fsub (G 25 xt.toNatClampNeg) m)) 25 xt.toNatClampNeg)) := by rw [ea]; exact (es.1 (t + 1) (by omega)).n32
    have hv2 := x2_fill (k := xt.toNatClampNeg) hv tk ev
    have hw2 : ∀ t', t + 1 ≤ t' → t' < aCn s (mFa M 5) → x2 G 25 xt.toNatClampNeg (pExp (FP.fsub (G 25 xt.toNatClampNeg) m)) 25 t' = pZt M s (pKc (F 28)) (F 21) n t' := by
      intro t' h1 h2
      rw [x2_o _ _ (by omega)]
      exact hw t' (by omega) h2
    refine XC.block [154] 60 ?_
    refine And.intro (fun z => absurd z hlt) (fun _ => ?_)
    refine And.intro kin ?_
    refine And.intro fs.n32 ?_
    refine fn_exp_c fs ?_
    refine And.intro kin ?_
    refine And.intro kin ?_
    refine And.intro ga ?_
    exact ih (t + 1) t1 _ D.st hv2 hw2 _ ea _ hx1 _ _
theorem cl_weigh_28_a {s : Nat} (H : clHc_28_a M s I F) {n : Nat} (hn : n < mFa M 1) {xn sd : Int32} (hxn : xn = nI (n * mH M)) (hsd : sd = nI (n / (mFa M 1 / mFa M 2) * mH M))
    (hQ : ∀ G, fO 25 F G → (∀ t, t < aCn s (mFa M 5) → G 25 t = pEz (pZt M s (pKc (F 28)) (F 21) n) (aCn s (mFa M 5)) t) → ∀ e, e = pS (pEz (pZt M s (pKc (F 28)) (F 21) n) (aCn s (mFa M 5))) (aCn s (mFa M 5)) → Q (some (.float e)) (shG X (md1 T), I, L, G)) : XM xE0 (d + 1) 125 [.ref 18, .ref 38, .ref 28, .int xn, .int sd] (shG X (md1 T), I, L, F) Q := by
  have H0 := H
  obtain ⟨hm, hs, h60, h5, hhx, hK, hq⟩ := H
  have hc := hm.1.2.2.2.2.2.1
  have hh := (mHs hm).1
  obtain ⟨f1, f2, f3, f4⟩ := aFr_ok (s := s) (c := mFa M 5) (by omega)
  have frv : fRv (FP.i2f (I 38 5)) := by rw [hhx]; exact fh_rv hh
  have ebf : pRoot (FP.i2f (I 38 5)) = pHr (mH M) := by rw [hhx]; rfl
  have c148 : ∀ fx cn, cn = nI (aCn s (mFa M 5)) → ∀ dv G, fO 25 F G → (∀ t, t < aCn s (mFa M 5) → G 25 t = pZt M s (pKc (F 28)) (F 21) n t) → ∀ m, m = pMx (pZt M s (pKc (F 28)) (F 21) n) (aCn s (mFa M 5)) → ∀ (x9 : Int32) y10 y11 y12, XC xE0 (d + 1) xM_125 (148, [some (.ref 18), some (.ref 38), some (.ref 28), some (.int xn), some (.int sd), some (.int fx), some (.int cn), some (.float dv), some (.float m), some (.int x9), y10, y11, y12], [], (shG X (md1 T), I, L, G)) Q := by
    intro fx cn hcn dv G D hv m hm' x9 y10 y11 y12
    have k := cl_wh154_28_a (X := X) (T := T) (L := L) (d := d) (xn := xn) (sd := sd) (fx := fx) (dv := dv) H0 hn hcn hm' hQ (aCn s (mFa M 5)) 0 (Nat.zero_add _) G D (fun t ht => absurd ht (Nat.not_lt_zero _)) (fun t _ ht => hv t ht) FP.fconst0 rfl (nI 0) rfl
    refine XC.block [154] 60 ?_
    exact k _ _
  have c7 : ∀ fx, fx = nI (aFr s (mFa M 5)) → XC xE0 (d + 1) xM_125 (5, [some (.ref 18), some (.ref 38), some (.ref 28), some (.int xn), some (.int sd), none, none, none, none, none, none, none, none], [.int fx], (shG X (md1 T), I, L, F)) Q := by
    intro fx efx
    have ecn : I 18 10 - fx + 1 = nI (aCn s (mFa M 5)) := by rw [h60, efx, pk_sub f4, nI_1]; congr 1; omega
    have k := cl_wh34_28_a (X := X) (T := T) (L := L) (d := d) (xn := xn) (sd := sd) (fx := fx) (cn := I 18 10 - fx + 1) (dv := pRoot (FP.i2f (I 38 5))) H0 hn hxn hsd efx ecn ebf (c148 fx _ ecn _) (aCn s (mFa M 5)) 0 (Nat.zero_add _) F fO.rf (fun t ht => absurd ht (Nat.not_lt_zero _)) FP.fconst0 rfl (nI 0) rfl
    refine XC.block [34] 60 ?_
    refine fn_root_c frv ?_
    exact k _ _ _
  refine XC.block [5] 60 ?_
  refine cl_earliest_a h5 hm hs h60 (fun v hv => ?_)
  exact c7 v hv
/-- where a head's walk stands -/
def clHc_29_a (M : pMd) (s : Nat) (I : Nat → Nat → Int32) (F : Nat → Nat → UInt32) : Prop := mGd M ∧ s < 60 ∧ I 18 10 = nI s ∧ I 39 5 = nI (mFa M 5) ∧ I 38 5 = nI (mH M) ∧ (∀ k, k < 128 → fB 182 (F 29 k)) ∧ (∀ k, k < mFa M 0 → fB 182 (F 21 k))
theorem cl_hdB_29_a {s : Nat} (H : clHc_29_a M s I F) {n : Nat} (hn : n < mFa M 1) : (∀ t, fB 220 (pZt M s (pKc (F 29)) (F 21) n t)) ∧ (∀ t j, j < mH M → fB 182 (pKc (F 29) ((aFr s (mFa M 5) + t) % mFa M 5) (n / (mFa M 1 / mFa M 2) * mH M + j)) ∧ 16 * ((aFr s (mFa M 5) + t) % mFa M 5) + n / (mFa M 1 / mFa M 2) * mH M + j < 128) ∧ (∀ j, j < mH M → fB 182 (F 21 (n * mH M + j))) := by
  obtain ⟨hm, hs, h60, h5, h6, hK, hq⟩ := H
  obtain ⟨s1, s2, s3, s4, s5⟩ := mSd hm hn
  have hc := hm.1.2.2.2.2.2.1
  have ix : ∀ t j, j < mH M → 16 * ((aFr s (mFa M 5) + t) % mFa M 5) + n / (mFa M 1 / mFa M 2) * mH M + j < 128 := by
    intro t j hj
    have := Nat.mod_lt (aFr s (mFa M 5) + t) (show 0 < mFa M 5 by omega)
    omega
  have q1 : ∀ j, j < mH M → fB 182 (F 21 (n * mH M + j)) := fun j hj => hq _ (by omega)
  refine ⟨fun t => pZ_ok (mHs hm).1 (fun j hj => ?_) q1, fun t j hj => ⟨?_, ix t j hj⟩, q1⟩
  · have := ix t j hj
    exact hK _ (by rw [← Nat.add_assoc]; exact this)
  · have := ix t j hj
    exact hK _ (by rw [← Nat.add_assoc]; exact this)
theorem cl_wh61_29_a {s : Nat} (H : clHc_29_a M s I F) {n t : Nat} (hn : n < mFa M 1) (ht : t < aCn s (mFa M 5)) {G : Nat → Nat → UInt32} (D : fO 25 F G) {xn sd fx cn xt fr : Int32} {dv m : UInt32} (hxn : xn = nI (n * mH M)) (hfr : fr = nI (16 * ((aFr s (mFa M 5) + t) % mFa M 5) + n / (mFa M 1 / mFa M 2) * mH M))
    (next : ∀ a, a = pDt (fun j => pKc (F 29) ((aFr s (mFa M 5) + t) % mFa M 5) (n / (mFa M 1 / mFa M 2) * mH M + j)) (fun j => F 21 (n * mH M + j)) (mH M) → ∀ (xj : Int32), XC xE0 (d + 1) xM_125 (98, [some (.ref 18), some (.ref 38), some (.ref 29), some (.int xn), some (.int sd), some (.int fx), some (.int cn), some (.float dv), some (.float m), some (.int xt), some (.int fr), some (.float a), some (.int xj)], [], (shG X (md1 T), I, L, G)) Q) :
    ∀ (u j : Nat), j + u = mH M → ∀ a, a = pDt (fun j => pKc (F 29) ((aFr s (mFa M 5) + t) % mFa M 5) (n / (mFa M 1 / mFa M 2) * mH M + j)) (fun j => F 21 (n * mH M + j)) j → ∀ xj, xj = nI j → XC xE0 (d + 1) xM_125 (61, [some (.ref 18), some (.ref 38), some (.ref 29), some (.int xn), some (.int sd), some (.int fx), some (.int cn), some (.float dv), some (.float m), some (.int xt), some (.int fr), some (.float a), some (.int xj)], [], (shG X (md1 T), I, L, G)) Q := by
  obtain ⟨hb1, hb2, hb3⟩ := cl_hdB_29_a H hn
  obtain ⟨hm, hs, h60, h5, hhx, hK, hq⟩ := H
  obtain ⟨s1, s2, s3, s4, s5⟩ := mSd hm hn
  have hA : ∀ j, j < mH M → fB 182 (pKc (F 29) ((aFr s (mFa M 5) + t) % mFa M 5) (n / (mFa M 1 / mFa M 2) * mH M + j)) := fun j hj => (hb2 t j hj).1
  have gm := pDt_m (k := 215) hA hb3 (by decide) (by decide) (by decide) (by decide) (by decide)
  have gF := pDt_F (k := 215) hA hb3 (by decide) (by decide) (by decide) (by decide) (by decide) (by omega)
  intro u
  induction u with
  | zero =>
    intro j hj a ha xj hxj
    have : j = mH M := by omega
    subst this
    refine XC.block [61, 98] 60 ?_
    exact And.intro (fun _ => next _ ha _) (fun z => absurd (show I 38 5 ≤ xj by rw [hhx, hxj]; exact nI_le (by omega) (by omega)) z)
  | succ u ih =>
    intro j hj a ha xj hxj
    have hlt : ¬ I 38 5 ≤ xj := by rw [hhx, hxj]; exact nI_ge (by omega) (by omega)
    have jl : j < mH M := by omega
    have ix := (hb2 t j jl).2
    have ei : fr + xj = nI (16 * ((aFr s (mFa M 5) + t) % mFa M 5) + n / (mFa M 1 / mFa M 2) * mH M + j) := by rw [hfr, hxj, nI_add]
    have vin : vp_in (fr + xj) 128 := rf_in ei ix (by decide)
    have eq_ : xn + xj = nI (n * mH M + j) := by rw [hxn, hxj, nI_add]
    have qin : vp_in (xn + xj) 16 := rf_in eq_ (by omega) (by decide)
    have e1 : G 29 (fr + xj).toNatClampNeg = pKc (F 29) ((aFr s (mFa M 5) + t) % mFa M 5) (n / (mFa M 1 / mFa M 2) * mH M + j) := by
      rw [ei, nI_clamp (by omega), D 29 _ (by decide)]
      unfold pKc
      rw [← Nat.add_assoc]
    have e2 : G 21 (xn + xj).toNatClampNeg = F 21 (n * mH M + j) := by rw [eq_, nI_clamp (by omega), D 21 _ (by decide)]
    have g1 : vf_n32 (FP.fmul (G 29 (fr + xj).toNatClampNeg) (G 21 (xn + xj).toNatClampNeg)) := by rw [e1, e2]; exact (gm j jl).n32 (by decide)
    have es : FP.fadd a (FP.fmul (G 29 (fr + xj).toNatClampNeg) (G 21 (xn + xj).toNatClampNeg)) = pDt (fun j => pKc (F 29) ((aFr s (mFa M 5) + t) % mFa M 5) (n / (mFa M 1 / mFa M 2) * mH M + j)) (fun j => F 21 (n * mH M + j)) (j + 1) := by rw [e1, e2, ha]; rfl
    have g2 : vf_n32 (FP.fadd a (FP.fmul (G 29 (fr + xj).toNatClampNeg) (G 21 (xn + xj).toNatClampNeg))) := by rw [es]; exact (gF (j + 1) (by omega)).n32
    have hx1 : xj + 1 = nI (j + 1) := by rw [hxj, nI_1]
    have j1 : j + 1 + u = mH M := by omega
    refine XC.block [61, 98] 60 ?_
    refine And.intro (fun z => absurd z hlt) (fun _ => ?_)
    refine And.intro vin ?_
    refine And.intro qin ?_
    refine And.intro g1 ?_
    refine And.intro g2 ?_
    exact ih (j + 1) j1 _ es _ hx1
theorem cl_wh34_29_a {s : Nat} (H : clHc_29_a M s I F) {n : Nat} (hn : n < mFa M 1) {xn sd fx cn : Int32} {dv : UInt32} (hxn : xn = nI (n * mH M)) (hsd : sd = nI (n / (mFa M 1 / mFa M 2) * mH M)) (hfx : fx = nI (aFr s (mFa M 5))) (hcn : cn = nI (aCn s (mFa M 5))) (hdv : dv = pHr (mH M))
    (next : ∀ G, fO 25 F G → (∀ t, t < aCn s (mFa M 5) → G 25 t = pZt M s (pKc (F 29)) (F 21) n t) → ∀ m, m = pMx (pZt M s (pKc (F 29)) (F 21) n) (aCn s (mFa M 5)) → ∀ (x9 : Int32) y10 y11 y12, XC xE0 (d + 1) xM_125 (148, [some (.ref 18), some (.ref 38), some (.ref 29), some (.int xn), some (.int sd), some (.int fx), some (.int cn), some (.float dv), some (.float m), some (.int x9), y10, y11, y12], [], (shG X (md1 T), I, L, G)) Q) :
    ∀ (u t : Nat), t + u = aCn s (mFa M 5) → ∀ G, fO 25 F G → (∀ t', t' < t → G 25 t' = pZt M s (pKc (F 29)) (F 21) n t') → ∀ m, m = pMx (pZt M s (pKc (F 29)) (F 21) n) t → ∀ xt, xt = nI t → ∀ y10 y11 y12, XC xE0 (d + 1) xM_125 (34, [some (.ref 18), some (.ref 38), some (.ref 29), some (.int xn), some (.int sd), some (.int fx), some (.int cn), some (.float dv), some (.float m), some (.int xt), y10, y11, y12], [], (shG X (md1 T), I, L, G)) Q := by
  have H0 := H
  obtain ⟨hb1, hb2, hb3⟩ := cl_hdB_29_a H hn
  obtain ⟨hm, hs, h60, h5, hhx, hK, hq⟩ := H
  have hc := hm.1.2.2.2.2.2.1
  obtain ⟨f1, f2, f3, f4⟩ := aFr_ok (s := s) (c := mFa M 5) (by omega)
  intro u
  induction u with
  | zero =>
    intro t ht G D hv m hm' xt hxt y10 y11 y12
    have : t = aCn s (mFa M 5) := by omega
    subst this
    have k := next G D hv m hm'
    refine XC.block [34, 148] 60 ?_
    exact And.intro (fun _ => k _ _ _ _) (fun z => absurd (show cn ≤ xt by rw [hcn, hxt]; exact nI_le (by omega) (by omega)) z)
  | succ u ih =>
    intro t ht G D hv m hm' xt hxt y10 y11 y12
    have hlt : ¬ cn ≤ xt := by rw [hcn, hxt]; exact nI_ge (by omega) (by omega)
    have t8 : t < aCn s (mFa M 5) := by omega
    have t1 : t + 1 + u = aCn s (mFa M 5) := by omega
    have kin : vp_in xt 8 := rf_in hxt (by omega) (by decide)
    have tk : xt.toNatClampNeg = t := by rw [hxt, nI_clamp (by omega)]
    have hx1 : xt + 1 = nI (t + 1) := by rw [hxt, nI_1]
    have teq : xt = 0 ↔ t = 0 := by rw [hxt, show (0 : Int32) = nI 0 from rfl, nI_eq (by omega) (by decide)]
    have epo : fx + xt = nI (aFr s (mFa M 5) + t) := by rw [hfx, hxt, nI_add]
    have c98 : ∀ fr, ∀ a, a = pDt (fun j => pKc (F 29) ((aFr s (mFa M 5) + t) % mFa M 5) (n / (mFa M 1 / mFa M 2) * mH M + j)) (fun j => F 21 (n * mH M + j)) (mH M) → ∀ (xj : Int32), XC xE0 (d + 1) xM_125 (98, [some (.ref 18), some (.ref 38), some (.ref 29), some (.int xn), some (.int sd), some (.int fx), some (.int cn), some (.float dv), some (.float m), some (.int xt), some (.int fr), some (.float a), some (.int xj)], [], (shG X (md1 T), I, L, G)) Q := by
      intro fr a ha xj
      have ez : FP.fdiv a dv = pZt M s (pKc (F 29)) (F 21) n t := by rw [ha, hdv]; rfl
      have gz : vf_n32 (FP.fdiv a dv) := by rw [ez]; exact (hb1 t).n32 (by decide)
      have rb : x2 G 25 xt.toNatClampNeg (FP.fdiv a dv) 25 xt.toNatClampNeg = pZt M s (pKc (F 29)) (F 21) n t := by rw [x2_same]; exact ez
      have hv2 := x2_fill (k := xt.toNatClampNeg) hv tk ez
      have m1 : xt = 0 → x2 G 25 xt.toNatClampNeg (FP.fdiv a dv) 25 xt.toNatClampNeg = pMx (pZt M s (pKc (F 29)) (F 21) n) (t + 1) := fun z => rb.trans (if_pos (Or.inl (teq.mp z))).symm
      have m2 : 0 < Op.cmpValue (FP.fcmp (x2 G 25 xt.toNatClampNeg (FP.fdiv a dv) 25 xt.toNatClampNeg) m) .l → x2 G 25 xt.toNatClampNeg (FP.fdiv a dv) 25 xt.toNatClampNeg = pMx (pZt M s (pKc (F 29)) (F 21) n) (t + 1) := fun z => by
        rw [rb, hm'] at z
        exact rb.trans (if_pos (Or.inr z)).symm
      have m3 : ¬ xt = 0 → ¬ 0 < Op.cmpValue (FP.fcmp (x2 G 25 xt.toNatClampNeg (FP.fdiv a dv) 25 xt.toNatClampNeg) m) .l → m = pMx (pZt M s (pKc (F 29)) (F 21) n) (t + 1) := fun y z => by
        rw [rb, hm'] at z
        exact hm'.trans (if_neg (fun w => w.elim (fun w => y (teq.mpr w)) z)).symm
      refine XC.block [34] 60 ?_
      refine And.intro gz ?_
      refine And.intro kin ?_
      refine And.intro (fun z => ?_) (fun z => ?_)
      · refine And.intro kin ?_
        exact ih (t + 1) t1 _ D.st hv2 _ (m1 z) _ hx1 _ _ _
      · refine And.intro kin ?_
        refine And.intro (fun y => ?_) (fun y => ?_)
        · exact ih (t + 1) t1 _ D.st hv2 _ (m3 z (Int32.not_lt.mpr y)) _ hx1 _ _ _
        · refine And.intro kin ?_
          exact ih (t + 1) t1 _ D.st hv2 _ (m2 (Int32.not_le.mp y)) _ hx1 _ _ _
    have c53 : ∀ fr, fr = nI (16 * ((aFr s (mFa M 5) + t) % mFa M 5) + n / (mFa M 1 / mFa M 2) * mH M) → XC xE0 (d + 1) xM_125 (53, [some (.ref 18), some (.ref 38), some (.ref 29), some (.int xn), some (.int sd), some (.int fx), some (.int cn), some (.float dv), some (.float m), some (.int xt), y10, y11, y12], [.int fr], (shG X (md1 T), I, L, G)) Q := by
      intro fr hfr
      refine XC.block [61] 60 ?_
      exact cl_wh61_29_a H0 hn t8 D hxn hfr (c98 fr) (mH M) 0 (Nat.zero_add _) _ rfl _ rfl
    refine XC.block [53] 60 ?_
    refine And.intro (fun z => absurd z hlt) (fun _ => ?_)
    refine cl_placeOf_a h5 hm (p := aFr s (mFa M 5) + t) (by omega) epo (fun v hv' => ?_)
    exact c53 _ (show v + sd = _ by rw [hv', hsd, nI_add])
theorem cl_wh154_29_a {s : Nat} (H : clHc_29_a M s I F) {n : Nat} (hn : n < mFa M 1) {xn sd fx cn : Int32} {dv m : UInt32} (hcn : cn = nI (aCn s (mFa M 5))) (hm' : m = pMx (pZt M s (pKc (F 29)) (F 21) n) (aCn s (mFa M 5)))
    (hQ : ∀ G, fO 25 F G → (∀ t, t < aCn s (mFa M 5) → G 25 t = pEz (pZt M s (pKc (F 29)) (F 21) n) (aCn s (mFa M 5)) t) → ∀ e, e = pS (pEz (pZt M s (pKc (F 29)) (F 21) n) (aCn s (mFa M 5))) (aCn s (mFa M 5)) → Q (some (.float e)) (shG X (md1 T), I, L, G)) :
    ∀ (u t : Nat), t + u = aCn s (mFa M 5) → ∀ G, fO 25 F G → (∀ t', t' < t → G 25 t' = pEz (pZt M s (pKc (F 29)) (F 21) n) (aCn s (mFa M 5)) t') → (∀ t', t ≤ t' → t' < aCn s (mFa M 5) → G 25 t' = pZt M s (pKc (F 29)) (F 21) n t') → ∀ e, e = pS (pEz (pZt M s (pKc (F 29)) (F 21) n) (aCn s (mFa M 5))) t → ∀ xt, xt = nI t → ∀ y11 y12, XC xE0 (d + 1) xM_125 (154, [some (.ref 18), some (.ref 38), some (.ref 29), some (.int xn), some (.int sd), some (.int fx), some (.int cn), some (.float dv), some (.float m), some (.float e), some (.int xt), y11, y12], [], (shG X (md1 T), I, L, G)) Q := by
  obtain ⟨hb1, hb2, hb3⟩ := cl_hdB_29_a H hn
  obtain ⟨hm, hs, h60, h5, hhx, hK, hq⟩ := H
  have hc := hm.1.2.2.2.2.2.1
  obtain ⟨f1, f2, f3, f4⟩ := aFr_ok (s := s) (c := mFa M 5) (by omega)
  have ez := fun t ht => pEz_ok (z := pZt M s (pKc (F 29)) (F 21) n) (n := aCn s (mFa M 5)) (t := t) (fun t _ => hb1 t) ht
  have es := pSh_ok (z := pZt M s (pKc (F 29)) (F 21) n) (n := aCn s (mFa M 5)) (fun t _ => hb1 t) (by omega)
  intro u
  induction u with
  | zero =>
    intro t ht G D hv hw e he xt hxt y11 y12
    have : t = aCn s (mFa M 5) := by omega
    subst this
    have fin := hQ G D hv e he
    refine XC.block [154] 60 ?_
    exact And.intro (fun _ => ⟨trivial, fin⟩) (fun z => absurd (show cn ≤ xt by rw [hcn, hxt]; exact nI_le (by omega) (by omega)) z)
  | succ u ih =>
    intro t ht G D hv hw e he xt hxt y11 y12
    have hlt : ¬ cn ≤ xt := by rw [hcn, hxt]; exact nI_ge (by omega) (by omega)
    have t8 : t < aCn s (mFa M 5) := by omega
    have t1 : t + 1 + u = aCn s (mFa M 5) := by omega
    have kin : vp_in xt 8 := rf_in hxt (by omega) (by decide)
    have tk : xt.toNatClampNeg = t := by rw [hxt, nI_clamp (by omega)]
    have hx1 : xt + 1 = nI (t + 1) := by rw [hxt, nI_1]
    have rz : G 25 xt.toNatClampNeg = pZt M s (pKc (F 29)) (F 21) n t := by rw [tk]; exact hw t (Nat.le_refl _) t8
    have esub : FP.fsub (G 25 xt.toNatClampNeg) m = FP.fsub (pZt M s (pKc (F 29)) (F 21) n t) (pMx (pZt M s (pKc (F 29)) (F 21) n) (aCn s (mFa M 5))) := by rw [rz, hm']
    have fs : fF (FP.fsub (G 25 xt.toNatClampNeg) m) := by rw [esub]; exact (ez t t8).1
    have ev : pExp (FP.fsub (G 25 xt.toNatClampNeg) m) = pEz (pZt M s (pKc (F 29)) (F 21) n) (aCn s (mFa M 5)) t := by rw [esub]; rfl
    have rb : x2 G 25 xt.toNatClampNeg (pExp (FP.fsub (G 25 xt.toNatClampNeg) m)) 25 xt.toNatClampNeg = pEz (pZt M s (pKc (F 29)) (F 21) n) (aCn s (mFa M 5)) t := by rw [x2_same]; exact ev
    have ea : FP.fadd e (x2 G 25 xt.toNatClampNeg (pExp (FP.fsub (G 25 xt.toNatClampNeg) m)) 25 xt.toNatClampNeg) = pS (pEz (pZt M s (pKc (F 29)) (F 21) n) (aCn s (mFa M 5))) (t + 1) := by rw [rb, he]; rfl
    have ga : vf_n32 (FP.fadd e (x2 G 25 xt.toNatClampNeg (pExp (FP.fsub (G 25 xt.toNatClampNeg) m)) 25 xt.toNatClampNeg)) := by rw [ea]; exact (es.1 (t + 1) (by omega)).n32
    have hv2 := x2_fill (k := xt.toNatClampNeg) hv tk ev
    have hw2 : ∀ t', t + 1 ≤ t' → t' < aCn s (mFa M 5) → x2 G 25 xt.toNatClampNeg (pExp (FP.fsub (G 25 xt.toNatClampNeg) m)) 25 t' = pZt M s (pKc (F 29)) (F 21) n t' := by
      intro t' h1 h2
      rw [x2_o _ _ (by omega)]
      exact hw t' (by omega) h2
    refine XC.block [154] 60 ?_
    refine And.intro (fun z => absurd z hlt) (fun _ => ?_)
    refine And.intro kin ?_
    refine And.intro fs.n32 ?_
    refine fn_exp_c fs ?_
    refine And.intro kin ?_
    refine And.intro kin ?_
    refine And.intro ga ?_
    exact ih (t + 1) t1 _ D.st hv2 hw2 _ ea _ hx1 _ _
theorem cl_weigh_29_a {s : Nat} (H : clHc_29_a M s I F) {n : Nat} (hn : n < mFa M 1) {xn sd : Int32} (hxn : xn = nI (n * mH M)) (hsd : sd = nI (n / (mFa M 1 / mFa M 2) * mH M))
    (hQ : ∀ G, fO 25 F G → (∀ t, t < aCn s (mFa M 5) → G 25 t = pEz (pZt M s (pKc (F 29)) (F 21) n) (aCn s (mFa M 5)) t) → ∀ e, e = pS (pEz (pZt M s (pKc (F 29)) (F 21) n) (aCn s (mFa M 5))) (aCn s (mFa M 5)) → Q (some (.float e)) (shG X (md1 T), I, L, G)) : XM xE0 (d + 1) 125 [.ref 18, .ref 38, .ref 29, .int xn, .int sd] (shG X (md1 T), I, L, F) Q := by
  have H0 := H
  obtain ⟨hm, hs, h60, h5, hhx, hK, hq⟩ := H
  have hc := hm.1.2.2.2.2.2.1
  have hh := (mHs hm).1
  obtain ⟨f1, f2, f3, f4⟩ := aFr_ok (s := s) (c := mFa M 5) (by omega)
  have frv : fRv (FP.i2f (I 38 5)) := by rw [hhx]; exact fh_rv hh
  have ebf : pRoot (FP.i2f (I 38 5)) = pHr (mH M) := by rw [hhx]; rfl
  have c148 : ∀ fx cn, cn = nI (aCn s (mFa M 5)) → ∀ dv G, fO 25 F G → (∀ t, t < aCn s (mFa M 5) → G 25 t = pZt M s (pKc (F 29)) (F 21) n t) → ∀ m, m = pMx (pZt M s (pKc (F 29)) (F 21) n) (aCn s (mFa M 5)) → ∀ (x9 : Int32) y10 y11 y12, XC xE0 (d + 1) xM_125 (148, [some (.ref 18), some (.ref 38), some (.ref 29), some (.int xn), some (.int sd), some (.int fx), some (.int cn), some (.float dv), some (.float m), some (.int x9), y10, y11, y12], [], (shG X (md1 T), I, L, G)) Q := by
    intro fx cn hcn dv G D hv m hm' x9 y10 y11 y12
    have k := cl_wh154_29_a (X := X) (T := T) (L := L) (d := d) (xn := xn) (sd := sd) (fx := fx) (dv := dv) H0 hn hcn hm' hQ (aCn s (mFa M 5)) 0 (Nat.zero_add _) G D (fun t ht => absurd ht (Nat.not_lt_zero _)) (fun t _ ht => hv t ht) FP.fconst0 rfl (nI 0) rfl
    refine XC.block [154] 60 ?_
    exact k _ _
  have c7 : ∀ fx, fx = nI (aFr s (mFa M 5)) → XC xE0 (d + 1) xM_125 (5, [some (.ref 18), some (.ref 38), some (.ref 29), some (.int xn), some (.int sd), none, none, none, none, none, none, none, none], [.int fx], (shG X (md1 T), I, L, F)) Q := by
    intro fx efx
    have ecn : I 18 10 - fx + 1 = nI (aCn s (mFa M 5)) := by rw [h60, efx, pk_sub f4, nI_1]; congr 1; omega
    have k := cl_wh34_29_a (X := X) (T := T) (L := L) (d := d) (xn := xn) (sd := sd) (fx := fx) (cn := I 18 10 - fx + 1) (dv := pRoot (FP.i2f (I 38 5))) H0 hn hxn hsd efx ecn ebf (c148 fx _ ecn _) (aCn s (mFa M 5)) 0 (Nat.zero_add _) F fO.rf (fun t ht => absurd ht (Nat.not_lt_zero _)) FP.fconst0 rfl (nI 0) rfl
    refine XC.block [34] 60 ?_
    refine fn_root_c frv ?_
    exact k _ _ _
  refine XC.block [5] 60 ?_
  refine cl_earliest_a h5 hm hs h60 (fun v hv => ?_)
  exact c7 v hv
theorem cl_mix_31_a {s : Nat} (hm : mGd M) (hs : s < 60) (h60 : I 18 10 = nI s) (h5 : I 39 5 = nI (mFa M 5)) (hhx : I 38 5 = nI (mH M)) {n : Nat} (hn : n < mFa M 1) {z : Nat → UInt32} (hz : ∀ t, fB 220 (z t)) (hV : ∀ k, k < 128 → fB 172 (F 31 k)) (hsh : ∀ t, t < aCn s (mFa M 5) → F 25 t = pEz z (aCn s (mFa M 5)) t) {e : UInt32} (he : e = pS (pEz z (aCn s (mFa M 5))) (aCn s (mFa M 5))) {xn sd : Int32} (hxn : xn = nI (n * mH M)) (hsd : sd = nI (n / (mFa M 1 / mFa M 2) * mH M))
    (hQ : ∀ G, fO 22 F G → G 22 = pWr (n * mH M) (mH M) (F 22) (fun j => pMi z (aCn s (mFa M 5)) (fun t => pKc (F 31) ((aFr s (mFa M 5) + t) % mFa M 5) (n / (mFa M 1 / mFa M 2) * mH M + j))) → Q none (shG X (md1 T), I, L, G)) : XM xE0 (d + 1) 126 [.ref 18, .ref 38, .ref 31, .int xn, .int sd, .float e] (shG X (md1 T), I, L, F) Q := by
  have hc := hm.1.2.2.2.2.2.1
  obtain ⟨s1, s2, s3, s4, s5⟩ := mSd hm hn
  obtain ⟨f1, f2, f3, f4⟩ := aFr_ok (s := s) (c := mFa M 5) (by omega)
  have es := pSh_ok (z := z) (n := aCn s (mFa M 5)) (fun t _ => hz t) (by omega)
  have ix : ∀ t j, j < mH M → 16 * ((aFr s (mFa M 5) + t) % mFa M 5) + n / (mFa M 1 / mFa M 2) * mH M + j < 128 := by
    intro t j hj
    have := Nat.mod_lt (aFr s (mFa M 5) + t) (show 0 < mFa M 5 by omega)
    omega
  have vb : ∀ j, j < mH M → ∀ t, fB 172 (pKc (F 31) ((aFr s (mFa M 5) + t) % mFa M 5) (n / (mFa M 1 / mFa M 2) * mH M + j)) := fun j hj t => by
    have := ix t j hj
    exact hV _ (by rw [← Nat.add_assoc]; exact this)
  have c26 : ∀ fx, fx = nI (aFr s (mFa M 5)) → ∀ j, j < mH M → ∀ xj, xj = nI j → ∀ G, fO 22 F G → (∀ a, a = pMi z (aCn s (mFa M 5)) (fun t => pKc (F 31) ((aFr s (mFa M 5) + t) % mFa M 5) (n / (mFa M 1 / mFa M 2) * mH M + j)) → ∀ (xt : Int32), XC xE0 (d + 1) xM_126 (74, [some (.ref 18), some (.ref 38), some (.ref 31), some (.int xn), some (.int sd), some (.float e), some (.int fx), some (.int xj), some (.float a), some (.int xt)], [], (shG X (md1 T), I, L, G)) Q) → ∀ (u t : Nat), t + u = aCn s (mFa M 5) → ∀ a, a = pS (fun t => FP.fmul (pSh z (aCn s (mFa M 5)) t) (pKc (F 31) ((aFr s (mFa M 5) + t) % mFa M 5) (n / (mFa M 1 / mFa M 2) * mH M + j))) t → ∀ xt, xt = nI (aFr s (mFa M 5) + t) → XC xE0 (d + 1) xM_126 (26, [some (.ref 18), some (.ref 38), some (.ref 31), some (.int xn), some (.int sd), some (.float e), some (.int fx), some (.int xj), some (.float a), some (.int xt)], [], (shG X (md1 T), I, L, G)) Q := by
    intro fx hfx j hj xj hxj G D next u
    have em := pMi_ok (z := z) (n := aCn s (mFa M 5)) (V := fun t => pKc (F 31) ((aFr s (mFa M 5) + t) % mFa M 5) (n / (mFa M 1 / mFa M 2) * mH M + j)) (fun t _ => hz t) (by omega) (fun t _ => vb j hj t)
    induction u with
    | zero =>
      intro t ht a ha xt hxt
      have : t = aCn s (mFa M 5) := by omega
      subst this
      refine XC.block [26, 74] 60 ?_
      exact And.intro (fun _ => next a ha _) (fun w => absurd (show I 18 10 < xt by rw [h60, hxt]; exact nI_lt (by omega) (by omega)) w)
    | succ u ih =>
      intro t ht a ha xt hxt
      have hlt : ¬ I 18 10 < xt := by rw [h60, hxt]; exact nI_nlt (by omega) (by omega)
      have t8 : t < aCn s (mFa M 5) := by omega
      have t1 : t + 1 + u = aCn s (mFa M 5) := by omega
      have ek : xt - fx = nI t := by rw [hxt, hfx, pk_sub (by omega), Nat.add_sub_cancel_left]
      have kin : vp_in (xt - fx) 8 := rf_in ek (by omega) (by decide)
      have tk : (xt - fx).toNatClampNeg = t := by rw [ek, nI_clamp (by omega)]
      have hx1 : xt + 1 = nI (aFr s (mFa M 5) + (t + 1)) := by rw [hxt, nI_1, Nat.add_assoc]
      have e2 : FP.fdiv (G 25 (xt - fx).toNatClampNeg) e = pSh z (aCn s (mFa M 5)) t := by rw [tk, D 25 t (by decide), hsh t t8, he]; rfl
      have g0 : vf_n32 (FP.fdiv (G 25 (xt - fx).toNatClampNeg) e) := by rw [e2]; exact (es.2 t t8).n32 (by decide)
      have pre : ∀ v, v = nI (16 * ((aFr s (mFa M 5) + t) % mFa M 5)) → vp_in (v + sd + xj) 128 ∧ vf_n32 (FP.fmul (FP.fdiv (G 25 (xt - fx).toNatClampNeg) e) (G 31 (v + sd + xj).toNatClampNeg)) ∧ FP.fadd a (FP.fmul (FP.fdiv (G 25 (xt - fx).toNatClampNeg) e) (G 31 (v + sd + xj).toNatClampNeg)) = pS (fun t => FP.fmul (pSh z (aCn s (mFa M 5)) t) (pKc (F 31) ((aFr s (mFa M 5) + t) % mFa M 5) (n / (mFa M 1 / mFa M 2) * mH M + j))) (t + 1) ∧ vf_n32 (FP.fadd a (FP.fmul (FP.fdiv (G 25 (xt - fx).toNatClampNeg) e) (G 31 (v + sd + xj).toNatClampNeg))) := by
        intro v hv
        have ix' := ix t j hj
        have ei : v + sd + xj = nI (16 * ((aFr s (mFa M 5) + t) % mFa M 5) + n / (mFa M 1 / mFa M 2) * mH M + j) := by rw [hv, hsd, hxj, nI_add, nI_add]
        have e1 : G 31 (v + sd + xj).toNatClampNeg = pKc (F 31) ((aFr s (mFa M 5) + t) % mFa M 5) (n / (mFa M 1 / mFa M 2) * mH M + j) := by
          rw [ei, nI_clamp (by omega), D 31 _ (by decide)]
          unfold pKc
          rw [← Nat.add_assoc]
        have ea : FP.fadd a (FP.fmul (FP.fdiv (G 25 (xt - fx).toNatClampNeg) e) (G 31 (v + sd + xj).toNatClampNeg)) = pS (fun t => FP.fmul (pSh z (aCn s (mFa M 5)) t) (pKc (F 31) ((aFr s (mFa M 5) + t) % mFa M 5) (n / (mFa M 1 / mFa M 2) * mH M + j))) (t + 1) := by rw [e1, e2, ha]; rfl
        refine ⟨rf_in ei ix' (by decide), ?_, ea, ?_⟩
        · rw [e1, e2]; exact (em.1 t t8).n32 (by decide)
        · rw [ea]; exact (em.2.1 (t + 1) (by omega)).n32
      refine XC.block [26, 74] 60 ?_
      refine And.intro (fun w => absurd w hlt) (fun _ => ?_)
      refine And.intro kin ?_
      refine And.intro g0 ?_
      refine cl_placeOf_a h5 hm (p := aFr s (mFa M 5) + t) (by omega) hxt (fun v hv => ?_)
      have p := pre v hv
      refine And.intro p.1 ?_
      refine And.intro p.2.1 ?_
      refine And.intro p.2.2.2 ?_
      exact ih (t + 1) t1 _ p.2.2.1 _ hx1
  have c10 : ∀ fx, fx = nI (aFr s (mFa M 5)) → ∀ (u j : Nat), j + u = mH M → ∀ G, fO 22 F G → G 22 = pWr (n * mH M) j (F 22) (fun j => pMi z (aCn s (mFa M 5)) (fun t => pKc (F 31) ((aFr s (mFa M 5) + t) % mFa M 5) (n / (mFa M 1 / mFa M 2) * mH M + j))) → ∀ xj, xj = nI j → ∀ y8 y9, XC xE0 (d + 1) xM_126 (10, [some (.ref 18), some (.ref 38), some (.ref 31), some (.int xn), some (.int sd), some (.float e), some (.int fx), some (.int xj), y8, y9], [], (shG X (md1 T), I, L, G)) Q := by
    intro fx hfx u
    induction u with
    | zero =>
      intro j hj G D hv xj hxj y8 y9
      have : j = mH M := by omega
      subst this
      have fin := hQ G D hv
      refine XC.block [10] 60 ?_
      exact And.intro (fun _ => ⟨trivial, fin⟩) (fun w => absurd (show I 38 5 ≤ xj by rw [hhx, hxj]; exact nI_le (by omega) (by omega)) w)
    | succ u ih =>
      intro j hj G D hv xj hxj y8 y9
      have hlt : ¬ I 38 5 ≤ xj := by rw [hhx, hxj]; exact nI_ge (by omega) (by omega)
      have jl : j < mH M := by omega
      have j1 : j + 1 + u = mH M := by omega
      have hx1 : xj + 1 = nI (j + 1) := by rw [hxj, nI_1]
      have ew : xn + xj = nI (n * mH M + j) := by rw [hxn, hxj, nI_add]
      have win : vp_in (xn + xj) 16 := rf_in ew (by omega) (by decide)
      have tw : (xn + xj).toNatClampNeg = n * mH M + j := by rw [ew, nI_clamp (by omega)]
      have c74 : ∀ a, a = pMi z (aCn s (mFa M 5)) (fun t => pKc (F 31) ((aFr s (mFa M 5) + t) % mFa M 5) (n / (mFa M 1 / mFa M 2) * mH M + j)) → ∀ (xt : Int32), XC xE0 (d + 1) xM_126 (74, [some (.ref 18), some (.ref 38), some (.ref 31), some (.int xn), some (.int sd), some (.float e), some (.int fx), some (.int xj), some (.float a), some (.int xt)], [], (shG X (md1 T), I, L, G)) Q := by
        intro a ha xt
        have V2 := pWr_st hv tw ha
        refine XC.block [10] 60 ?_
        refine And.intro win ?_
        exact ih (j + 1) j1 _ D.st V2 _ hx1 _ _
      have k := c26 fx hfx j jl xj hxj G D c74 (aCn s (mFa M 5)) 0 (Nat.zero_add _) FP.fconst0 rfl fx hfx
      refine XC.block [10, 26] 60 ?_
      exact And.intro (fun w => absurd w hlt) (fun _ => k)
  refine XC.block [10] 60 ?_
  refine cl_earliest_a h5 hm hs h60 (fun v hv => ?_)
  exact c10 v hv (mH M) 0 (Nat.zero_add _) F fO.rf pWr_0.symm _ rfl _ _
theorem cl_mix_32_a {s : Nat} (hm : mGd M) (hs : s < 60) (h60 : I 18 10 = nI s) (h5 : I 39 5 = nI (mFa M 5)) (hhx : I 38 5 = nI (mH M)) {n : Nat} (hn : n < mFa M 1) {z : Nat → UInt32} (hz : ∀ t, fB 220 (z t)) (hV : ∀ k, k < 128 → fB 172 (F 32 k)) (hsh : ∀ t, t < aCn s (mFa M 5) → F 25 t = pEz z (aCn s (mFa M 5)) t) {e : UInt32} (he : e = pS (pEz z (aCn s (mFa M 5))) (aCn s (mFa M 5))) {xn sd : Int32} (hxn : xn = nI (n * mH M)) (hsd : sd = nI (n / (mFa M 1 / mFa M 2) * mH M))
    (hQ : ∀ G, fO 22 F G → G 22 = pWr (n * mH M) (mH M) (F 22) (fun j => pMi z (aCn s (mFa M 5)) (fun t => pKc (F 32) ((aFr s (mFa M 5) + t) % mFa M 5) (n / (mFa M 1 / mFa M 2) * mH M + j))) → Q none (shG X (md1 T), I, L, G)) : XM xE0 (d + 1) 126 [.ref 18, .ref 38, .ref 32, .int xn, .int sd, .float e] (shG X (md1 T), I, L, F) Q := by
  have hc := hm.1.2.2.2.2.2.1
  obtain ⟨s1, s2, s3, s4, s5⟩ := mSd hm hn
  obtain ⟨f1, f2, f3, f4⟩ := aFr_ok (s := s) (c := mFa M 5) (by omega)
  have es := pSh_ok (z := z) (n := aCn s (mFa M 5)) (fun t _ => hz t) (by omega)
  have ix : ∀ t j, j < mH M → 16 * ((aFr s (mFa M 5) + t) % mFa M 5) + n / (mFa M 1 / mFa M 2) * mH M + j < 128 := by
    intro t j hj
    have := Nat.mod_lt (aFr s (mFa M 5) + t) (show 0 < mFa M 5 by omega)
    omega
  have vb : ∀ j, j < mH M → ∀ t, fB 172 (pKc (F 32) ((aFr s (mFa M 5) + t) % mFa M 5) (n / (mFa M 1 / mFa M 2) * mH M + j)) := fun j hj t => by
    have := ix t j hj
    exact hV _ (by rw [← Nat.add_assoc]; exact this)
  have c26 : ∀ fx, fx = nI (aFr s (mFa M 5)) → ∀ j, j < mH M → ∀ xj, xj = nI j → ∀ G, fO 22 F G → (∀ a, a = pMi z (aCn s (mFa M 5)) (fun t => pKc (F 32) ((aFr s (mFa M 5) + t) % mFa M 5) (n / (mFa M 1 / mFa M 2) * mH M + j)) → ∀ (xt : Int32), XC xE0 (d + 1) xM_126 (74, [some (.ref 18), some (.ref 38), some (.ref 32), some (.int xn), some (.int sd), some (.float e), some (.int fx), some (.int xj), some (.float a), some (.int xt)], [], (shG X (md1 T), I, L, G)) Q) → ∀ (u t : Nat), t + u = aCn s (mFa M 5) → ∀ a, a = pS (fun t => FP.fmul (pSh z (aCn s (mFa M 5)) t) (pKc (F 32) ((aFr s (mFa M 5) + t) % mFa M 5) (n / (mFa M 1 / mFa M 2) * mH M + j))) t → ∀ xt, xt = nI (aFr s (mFa M 5) + t) → XC xE0 (d + 1) xM_126 (26, [some (.ref 18), some (.ref 38), some (.ref 32), some (.int xn), some (.int sd), some (.float e), some (.int fx), some (.int xj), some (.float a), some (.int xt)], [], (shG X (md1 T), I, L, G)) Q := by
    intro fx hfx j hj xj hxj G D next u
    have em := pMi_ok (z := z) (n := aCn s (mFa M 5)) (V := fun t => pKc (F 32) ((aFr s (mFa M 5) + t) % mFa M 5) (n / (mFa M 1 / mFa M 2) * mH M + j)) (fun t _ => hz t) (by omega) (fun t _ => vb j hj t)
    induction u with
    | zero =>
      intro t ht a ha xt hxt
      have : t = aCn s (mFa M 5) := by omega
      subst this
      refine XC.block [26, 74] 60 ?_
      exact And.intro (fun _ => next a ha _) (fun w => absurd (show I 18 10 < xt by rw [h60, hxt]; exact nI_lt (by omega) (by omega)) w)
    | succ u ih =>
      intro t ht a ha xt hxt
      have hlt : ¬ I 18 10 < xt := by rw [h60, hxt]; exact nI_nlt (by omega) (by omega)
      have t8 : t < aCn s (mFa M 5) := by omega
      have t1 : t + 1 + u = aCn s (mFa M 5) := by omega
      have ek : xt - fx = nI t := by rw [hxt, hfx, pk_sub (by omega), Nat.add_sub_cancel_left]
      have kin : vp_in (xt - fx) 8 := rf_in ek (by omega) (by decide)
      have tk : (xt - fx).toNatClampNeg = t := by rw [ek, nI_clamp (by omega)]
      have hx1 : xt + 1 = nI (aFr s (mFa M 5) + (t + 1)) := by rw [hxt, nI_1, Nat.add_assoc]
      have e2 : FP.fdiv (G 25 (xt - fx).toNatClampNeg) e = pSh z (aCn s (mFa M 5)) t := by rw [tk, D 25 t (by decide), hsh t t8, he]; rfl
      have g0 : vf_n32 (FP.fdiv (G 25 (xt - fx).toNatClampNeg) e) := by rw [e2]; exact (es.2 t t8).n32 (by decide)
      have pre : ∀ v, v = nI (16 * ((aFr s (mFa M 5) + t) % mFa M 5)) → vp_in (v + sd + xj) 128 ∧ vf_n32 (FP.fmul (FP.fdiv (G 25 (xt - fx).toNatClampNeg) e) (G 32 (v + sd + xj).toNatClampNeg)) ∧ FP.fadd a (FP.fmul (FP.fdiv (G 25 (xt - fx).toNatClampNeg) e) (G 32 (v + sd + xj).toNatClampNeg)) = pS (fun t => FP.fmul (pSh z (aCn s (mFa M 5)) t) (pKc (F 32) ((aFr s (mFa M 5) + t) % mFa M 5) (n / (mFa M 1 / mFa M 2) * mH M + j))) (t + 1) ∧ vf_n32 (FP.fadd a (FP.fmul (FP.fdiv (G 25 (xt - fx).toNatClampNeg) e) (G 32 (v + sd + xj).toNatClampNeg))) := by
        intro v hv
        have ix' := ix t j hj
        have ei : v + sd + xj = nI (16 * ((aFr s (mFa M 5) + t) % mFa M 5) + n / (mFa M 1 / mFa M 2) * mH M + j) := by rw [hv, hsd, hxj, nI_add, nI_add]
        have e1 : G 32 (v + sd + xj).toNatClampNeg = pKc (F 32) ((aFr s (mFa M 5) + t) % mFa M 5) (n / (mFa M 1 / mFa M 2) * mH M + j) := by
          rw [ei, nI_clamp (by omega), D 32 _ (by decide)]
          unfold pKc
          rw [← Nat.add_assoc]
        have ea : FP.fadd a (FP.fmul (FP.fdiv (G 25 (xt - fx).toNatClampNeg) e) (G 32 (v + sd + xj).toNatClampNeg)) = pS (fun t => FP.fmul (pSh z (aCn s (mFa M 5)) t) (pKc (F 32) ((aFr s (mFa M 5) + t) % mFa M 5) (n / (mFa M 1 / mFa M 2) * mH M + j))) (t + 1) := by rw [e1, e2, ha]; rfl
        refine ⟨rf_in ei ix' (by decide), ?_, ea, ?_⟩
        · rw [e1, e2]; exact (em.1 t t8).n32 (by decide)
        · rw [ea]; exact (em.2.1 (t + 1) (by omega)).n32
      refine XC.block [26, 74] 60 ?_
      refine And.intro (fun w => absurd w hlt) (fun _ => ?_)
      refine And.intro kin ?_
      refine And.intro g0 ?_
      refine cl_placeOf_a h5 hm (p := aFr s (mFa M 5) + t) (by omega) hxt (fun v hv => ?_)
      have p := pre v hv
      refine And.intro p.1 ?_
      refine And.intro p.2.1 ?_
      refine And.intro p.2.2.2 ?_
      exact ih (t + 1) t1 _ p.2.2.1 _ hx1
  have c10 : ∀ fx, fx = nI (aFr s (mFa M 5)) → ∀ (u j : Nat), j + u = mH M → ∀ G, fO 22 F G → G 22 = pWr (n * mH M) j (F 22) (fun j => pMi z (aCn s (mFa M 5)) (fun t => pKc (F 32) ((aFr s (mFa M 5) + t) % mFa M 5) (n / (mFa M 1 / mFa M 2) * mH M + j))) → ∀ xj, xj = nI j → ∀ y8 y9, XC xE0 (d + 1) xM_126 (10, [some (.ref 18), some (.ref 38), some (.ref 32), some (.int xn), some (.int sd), some (.float e), some (.int fx), some (.int xj), y8, y9], [], (shG X (md1 T), I, L, G)) Q := by
    intro fx hfx u
    induction u with
    | zero =>
      intro j hj G D hv xj hxj y8 y9
      have : j = mH M := by omega
      subst this
      have fin := hQ G D hv
      refine XC.block [10] 60 ?_
      exact And.intro (fun _ => ⟨trivial, fin⟩) (fun w => absurd (show I 38 5 ≤ xj by rw [hhx, hxj]; exact nI_le (by omega) (by omega)) w)
    | succ u ih =>
      intro j hj G D hv xj hxj y8 y9
      have hlt : ¬ I 38 5 ≤ xj := by rw [hhx, hxj]; exact nI_ge (by omega) (by omega)
      have jl : j < mH M := by omega
      have j1 : j + 1 + u = mH M := by omega
      have hx1 : xj + 1 = nI (j + 1) := by rw [hxj, nI_1]
      have ew : xn + xj = nI (n * mH M + j) := by rw [hxn, hxj, nI_add]
      have win : vp_in (xn + xj) 16 := rf_in ew (by omega) (by decide)
      have tw : (xn + xj).toNatClampNeg = n * mH M + j := by rw [ew, nI_clamp (by omega)]
      have c74 : ∀ a, a = pMi z (aCn s (mFa M 5)) (fun t => pKc (F 32) ((aFr s (mFa M 5) + t) % mFa M 5) (n / (mFa M 1 / mFa M 2) * mH M + j)) → ∀ (xt : Int32), XC xE0 (d + 1) xM_126 (74, [some (.ref 18), some (.ref 38), some (.ref 32), some (.int xn), some (.int sd), some (.float e), some (.int fx), some (.int xj), some (.float a), some (.int xt)], [], (shG X (md1 T), I, L, G)) Q := by
        intro a ha xt
        have V2 := pWr_st hv tw ha
        refine XC.block [10] 60 ?_
        refine And.intro win ?_
        exact ih (j + 1) j1 _ D.st V2 _ hx1 _ _
      have k := c26 fx hfx j jl xj hxj G D c74 (aCn s (mFa M 5)) 0 (Nat.zero_add _) FP.fconst0 rfl fx hfx
      refine XC.block [10, 26] 60 ?_
      exact And.intro (fun w => absurd w hlt) (fun _ => k)
  refine XC.block [10] 60 ?_
  refine cl_earliest_a h5 hm hs h60 (fun v hv => ?_)
  exact c10 v hv (mH M) 0 (Nat.zero_add _) F fO.rf pWr_0.symm _ rfl _ _
end NEC_a
section NEC_b
variable {X : List (Option Nat)} {T : List xS} {M : pMd} {I J : Nat → Nat → Int32} {L : Nat → Nat → Int64} {F G : Nat → Nat → UInt32} {d : Nat} {Q : xP}
theorem cl_placeOf_b (h5 : I 52 5 = nI (mFa M 5)) (hm : mGd M) {p : Nat} (hp : p < 2 ^ 20) {pp : Int32} (hpp : pp = nI p) (hQ : ∀ v, v = nI (16 * (p % mFa M 5)) → Q (some (.int v)) (shG X (md2 T), I, L, F)) : XM xE0 d 121 [.ref 51, .int pp] (shG X (md2 T), I, L, F) Q := by
  have hc := hm.1.2.2.2.2.2.1
  have nz : ¬ I 52 5 = 0 := by rw [h5]; exact nI_ne0 (by omega) (by omega)
  have v5 : vp_in (5 : Int32) 12 := rf_in (j := 5) rfl (by decide) (by decide)
  have e : (pp - pp / I 52 5 * I 52 5) * 16 = nI (16 * (p % mFa M 5)) := by
    rw [hpp, h5, pk_rem (by omega) (by omega) (by omega), show (16 : Int32) = nI 16 from rfl, nI_mul, Nat.mul_comm]
  have fin := hQ _ e
  refine XC.block [] 60 ?_
  exact And.intro v5 (And.intro nz ⟨trivial, fin⟩)
theorem cl_earliest_b (h5 : I 52 5 = nI (mFa M 5)) (hm : mGd M) {s : Nat} (hs : s < 60) (h60 : I 18 10 = nI s) (hQ : ∀ v, v = nI (aFr s (mFa M 5)) → Q (some (.int v)) (shG X (md2 T), I, L, F)) : XM xE0 d 124 [.ref 18, .ref 51] (shG X (md2 T), I, L, F) Q := by
  have hc := hm.1.2.2.2.2.2.1
  have v5 : vp_in (5 : Int32) 12 := rf_in (j := 5) rfl (by decide) (by decide)
  have e : (if (0 : Int32) < I 18 10 - I 52 5 + 1 then I 18 10 - I 52 5 + 1 else 0) = nI (aFr s (mFa M 5)) := by
    rw [h60, h5]; exact aFr_max s (by omega) _ (by omega)
  have fin := hQ _ e
  refine XC.block [] 60 ?_
  exact And.intro v5 ⟨trivial, fin⟩
/-- where a head's walk stands -/
def clHc_28_b (M : pMd) (s : Nat) (I : Nat → Nat → Int32) (F : Nat → Nat → UInt32) : Prop := mGd M ∧ s < 60 ∧ I 18 10 = nI s ∧ I 52 5 = nI (mFa M 5) ∧ I 51 5 = nI (mH M) ∧ (∀ k, k < 128 → fB 182 (F 28 k)) ∧ (∀ k, k < mFa M 0 → fB 182 (F 21 k))
theorem cl_hdB_28_b {s : Nat} (H : clHc_28_b M s I F) {n : Nat} (hn : n < mFa M 1) : (∀ t, fB 220 (pZt M s (pKc (F 28)) (F 21) n t)) ∧ (∀ t j, j < mH M → fB 182 (pKc (F 28) ((aFr s (mFa M 5) + t) % mFa M 5) (n / (mFa M 1 / mFa M 2) * mH M + j)) ∧ 16 * ((aFr s (mFa M 5) + t) % mFa M 5) + n / (mFa M 1 / mFa M 2) * mH M + j < 128) ∧ (∀ j, j < mH M → fB 182 (F 21 (n * mH M + j))) := by
  obtain ⟨hm, hs, h60, h5, h6, hK, hq⟩ := H
  obtain ⟨s1, s2, s3, s4, s5⟩ := mSd hm hn
  have hc := hm.1.2.2.2.2.2.1
  have ix : ∀ t j, j < mH M → 16 * ((aFr s (mFa M 5) + t) % mFa M 5) + n / (mFa M 1 / mFa M 2) * mH M + j < 128 := by
    intro t j hj
    have := Nat.mod_lt (aFr s (mFa M 5) + t) (show 0 < mFa M 5 by omega)
    omega
  have q1 : ∀ j, j < mH M → fB 182 (F 21 (n * mH M + j)) := fun j hj => hq _ (by omega)
  refine ⟨fun t => pZ_ok (mHs hm).1 (fun j hj => ?_) q1, fun t j hj => ⟨?_, ix t j hj⟩, q1⟩
  · have := ix t j hj
    exact hK _ (by rw [← Nat.add_assoc]; exact this)
  · have := ix t j hj
    exact hK _ (by rw [← Nat.add_assoc]; exact this)
theorem cl_wh61_28_b {s : Nat} (H : clHc_28_b M s I F) {n t : Nat} (hn : n < mFa M 1) (ht : t < aCn s (mFa M 5)) {G : Nat → Nat → UInt32} (D : fO 25 F G) {xn sd fx cn xt fr : Int32} {dv m : UInt32} (hxn : xn = nI (n * mH M)) (hfr : fr = nI (16 * ((aFr s (mFa M 5) + t) % mFa M 5) + n / (mFa M 1 / mFa M 2) * mH M))
    (next : ∀ a, a = pDt (fun j => pKc (F 28) ((aFr s (mFa M 5) + t) % mFa M 5) (n / (mFa M 1 / mFa M 2) * mH M + j)) (fun j => F 21 (n * mH M + j)) (mH M) → ∀ (xj : Int32), XC xE0 (d + 1) xM_125 (98, [some (.ref 18), some (.ref 51), some (.ref 28), some (.int xn), some (.int sd), some (.int fx), some (.int cn), some (.float dv), some (.float m), some (.int xt), some (.int fr), some (.float a), some (.int xj)], [], (shG X (md2 T), I, L, G)) Q) :
    ∀ (u j : Nat), j + u = mH M → ∀ a, a = pDt (fun j => pKc (F 28) ((aFr s (mFa M 5) + t) % mFa M 5) (n / (mFa M 1 / mFa M 2) * mH M + j)) (fun j => F 21 (n * mH M + j)) j → ∀ xj, xj = nI j → XC xE0 (d + 1) xM_125 (61, [some (.ref 18), some (.ref 51), some (.ref 28), some (.int xn), some (.int sd), some (.int fx), some (.int cn), some (.float dv), some (.float m), some (.int xt), some (.int fr), some (.float a), some (.int xj)], [], (shG X (md2 T), I, L, G)) Q := by
  obtain ⟨hb1, hb2, hb3⟩ := cl_hdB_28_b H hn
  obtain ⟨hm, hs, h60, h5, hhx, hK, hq⟩ := H
  obtain ⟨s1, s2, s3, s4, s5⟩ := mSd hm hn
  have hA : ∀ j, j < mH M → fB 182 (pKc (F 28) ((aFr s (mFa M 5) + t) % mFa M 5) (n / (mFa M 1 / mFa M 2) * mH M + j)) := fun j hj => (hb2 t j hj).1
  have gm := pDt_m (k := 215) hA hb3 (by decide) (by decide) (by decide) (by decide) (by decide)
  have gF := pDt_F (k := 215) hA hb3 (by decide) (by decide) (by decide) (by decide) (by decide) (by omega)
  intro u
  induction u with
  | zero =>
    intro j hj a ha xj hxj
    have : j = mH M := by omega
    subst this
    refine XC.block [61, 98] 60 ?_
    exact And.intro (fun _ => next _ ha _) (fun z => absurd (show I 51 5 ≤ xj by rw [hhx, hxj]; exact nI_le (by omega) (by omega)) z)
  | succ u ih =>
    intro j hj a ha xj hxj
    have hlt : ¬ I 51 5 ≤ xj := by rw [hhx, hxj]; exact nI_ge (by omega) (by omega)
    have jl : j < mH M := by omega
    have ix := (hb2 t j jl).2
    have ei : fr + xj = nI (16 * ((aFr s (mFa M 5) + t) % mFa M 5) + n / (mFa M 1 / mFa M 2) * mH M + j) := by rw [hfr, hxj, nI_add]
    have vin : vp_in (fr + xj) 128 := rf_in ei ix (by decide)
    have eq_ : xn + xj = nI (n * mH M + j) := by rw [hxn, hxj, nI_add]
    have qin : vp_in (xn + xj) 16 := rf_in eq_ (by omega) (by decide)
    have e1 : G 28 (fr + xj).toNatClampNeg = pKc (F 28) ((aFr s (mFa M 5) + t) % mFa M 5) (n / (mFa M 1 / mFa M 2) * mH M + j) := by
      rw [ei, nI_clamp (by omega), D 28 _ (by decide)]
      unfold pKc
      rw [← Nat.add_assoc]
    have e2 : G 21 (xn + xj).toNatClampNeg = F 21 (n * mH M + j) := by rw [eq_, nI_clamp (by omega), D 21 _ (by decide)]
    have g1 : vf_n32 (FP.fmul (G 28 (fr + xj).toNatClampNeg) (G 21 (xn + xj).toNatClampNeg)) := by rw [e1, e2]; exact (gm j jl).n32 (by decide)
    have es : FP.fadd a (FP.fmul (G 28 (fr + xj).toNatClampNeg) (G 21 (xn + xj).toNatClampNeg)) = pDt (fun j => pKc (F 28) ((aFr s (mFa M 5) + t) % mFa M 5) (n / (mFa M 1 / mFa M 2) * mH M + j)) (fun j => F 21 (n * mH M + j)) (j + 1) := by rw [e1, e2, ha]; rfl
    have g2 : vf_n32 (FP.fadd a (FP.fmul (G 28 (fr + xj).toNatClampNeg) (G 21 (xn + xj).toNatClampNeg))) := by rw [es]; exact (gF (j + 1) (by omega)).n32
    have hx1 : xj + 1 = nI (j + 1) := by rw [hxj, nI_1]
    have j1 : j + 1 + u = mH M := by omega
    refine XC.block [61, 98] 60 ?_
    refine And.intro (fun z => absurd z hlt) (fun _ => ?_)
    refine And.intro vin ?_
    refine And.intro qin ?_
    refine And.intro g1 ?_
    refine And.intro g2 ?_
    exact ih (j + 1) j1 _ es _ hx1
theorem cl_wh34_28_b {s : Nat} (H : clHc_28_b M s I F) {n : Nat} (hn : n < mFa M 1) {xn sd fx cn : Int32} {dv : UInt32} (hxn : xn = nI (n * mH M)) (hsd : sd = nI (n / (mFa M 1 / mFa M 2) * mH M)) (hfx : fx = nI (aFr s (mFa M 5))) (hcn : cn = nI (aCn s (mFa M 5))) (hdv : dv = pHr (mH M))
    (next : ∀ G, fO 25 F G → (∀ t, t < aCn s (mFa M 5) → G 25 t = pZt M s (pKc (F 28)) (F 21) n t) → ∀ m, m = pMx (pZt M s (pKc (F 28)) (F 21) n) (aCn s (mFa M 5)) → ∀ (x9 : Int32) y10 y11 y12, XC xE0 (d + 1) xM_125 (148, [some (.ref 18), some (.ref 51), some (.ref 28), some (.int xn), some (.int sd), some (.int fx), some (.int cn), some (.float dv), some (.float m), some (.int x9), y10, y11, y12], [], (shG X (md2 T), I, L, G)) Q) :
    ∀ (u t : Nat), t + u = aCn s (mFa M 5) → ∀ G, fO 25 F G → (∀ t', t' < t → G 25 t' = pZt M s (pKc (F 28)) (F 21) n t') → ∀ m, m = pMx (pZt M s (pKc (F 28)) (F 21) n) t → ∀ xt, xt = nI t → ∀ y10 y11 y12, XC xE0 (d + 1) xM_125 (34, [some (.ref 18), some (.ref 51), some (.ref 28), some (.int xn), some (.int sd), some (.int fx), some (.int cn), some (.float dv), some (.float m), some (.int xt), y10, y11, y12], [], (shG X (md2 T), I, L, G)) Q := by
  have H0 := H
  obtain ⟨hb1, hb2, hb3⟩ := cl_hdB_28_b H hn
  obtain ⟨hm, hs, h60, h5, hhx, hK, hq⟩ := H
  have hc := hm.1.2.2.2.2.2.1
  obtain ⟨f1, f2, f3, f4⟩ := aFr_ok (s := s) (c := mFa M 5) (by omega)
  intro u
  induction u with
  | zero =>
    intro t ht G D hv m hm' xt hxt y10 y11 y12
    have : t = aCn s (mFa M 5) := by omega
    subst this
    have k := next G D hv m hm'
    refine XC.block [34, 148] 60 ?_
    exact And.intro (fun _ => k _ _ _ _) (fun z => absurd (show cn ≤ xt by rw [hcn, hxt]; exact nI_le (by omega) (by omega)) z)
  | succ u ih =>
    intro t ht G D hv m hm' xt hxt y10 y11 y12
    have hlt : ¬ cn ≤ xt := by rw [hcn, hxt]; exact nI_ge (by omega) (by omega)
    have t8 : t < aCn s (mFa M 5) := by omega
    have t1 : t + 1 + u = aCn s (mFa M 5) := by omega
    have kin : vp_in xt 8 := rf_in hxt (by omega) (by decide)
    have tk : xt.toNatClampNeg = t := by rw [hxt, nI_clamp (by omega)]
    have hx1 : xt + 1 = nI (t + 1) := by rw [hxt, nI_1]
    have teq : xt = 0 ↔ t = 0 := by rw [hxt, show (0 : Int32) = nI 0 from rfl, nI_eq (by omega) (by decide)]
    have epo : fx + xt = nI (aFr s (mFa M 5) + t) := by rw [hfx, hxt, nI_add]
    have c98 : ∀ fr, ∀ a, a = pDt (fun j => pKc (F 28) ((aFr s (mFa M 5) + t) % mFa M 5) (n / (mFa M 1 / mFa M 2) * mH M + j)) (fun j => F 21 (n * mH M + j)) (mH M) → ∀ (xj : Int32), XC xE0 (d + 1) xM_125 (98, [some (.ref 18), some (.ref 51), some (.ref 28), some (.int xn), some (.int sd), some (.int fx), some (.int cn), some (.float dv), some (.float m), some (.int xt), some (.int fr), some (.float a), some (.int xj)], [], (shG X (md2 T), I, L, G)) Q := by
      intro fr a ha xj
      have ez : FP.fdiv a dv = pZt M s (pKc (F 28)) (F 21) n t := by rw [ha, hdv]; rfl
      have gz : vf_n32 (FP.fdiv a dv) := by rw [ez]; exact (hb1 t).n32 (by decide)
      have rb : x2 G 25 xt.toNatClampNeg (FP.fdiv a dv) 25 xt.toNatClampNeg = pZt M s (pKc (F 28)) (F 21) n t := by rw [x2_same]; exact ez
      have hv2 := x2_fill (k := xt.toNatClampNeg) hv tk ez
      have m1 : xt = 0 → x2 G 25 xt.toNatClampNeg (FP.fdiv a dv) 25 xt.toNatClampNeg = pMx (pZt M s (pKc (F 28)) (F 21) n) (t + 1) := fun z => rb.trans (if_pos (Or.inl (teq.mp z))).symm
      have m2 : 0 < Op.cmpValue (FP.fcmp (x2 G 25 xt.toNatClampNeg (FP.fdiv a dv) 25 xt.toNatClampNeg) m) .l → x2 G 25 xt.toNatClampNeg (FP.fdiv a dv) 25 xt.toNatClampNeg = pMx (pZt M s (pKc (F 28)) (F 21) n) (t + 1) := fun z => by
        rw [rb, hm'] at z
        exact rb.trans (if_pos (Or.inr z)).symm
      have m3 : ¬ xt = 0 → ¬ 0 < Op.cmpValue (FP.fcmp (x2 G 25 xt.toNatClampNeg (FP.fdiv a dv) 25 xt.toNatClampNeg) m) .l → m = pMx (pZt M s (pKc (F 28)) (F 21) n) (t + 1) := fun y z => by
        rw [rb, hm'] at z
        exact hm'.trans (if_neg (fun w => w.elim (fun w => y (teq.mpr w)) z)).symm
      refine XC.block [34] 60 ?_
      refine And.intro gz ?_
      refine And.intro kin ?_
      refine And.intro (fun z => ?_) (fun z => ?_)
      · refine And.intro kin ?_
        exact ih (t + 1) t1 _ D.st hv2 _ (m1 z) _ hx1 _ _ _
      · refine And.intro kin ?_
        refine And.intro (fun y => ?_) (fun y => ?_)
        · exact ih (t + 1) t1 _ D.st hv2 _ (m3 z (Int32.not_lt.mpr y)) _ hx1 _ _ _
        · refine And.intro kin ?_
          exact ih (t + 1) t1 _ D.st hv2 _ (m2 (Int32.not_le.mp y)) _ hx1 _ _ _
    have c53 : ∀ fr, fr = nI (16 * ((aFr s (mFa M 5) + t) % mFa M 5) + n / (mFa M 1 / mFa M 2) * mH M) → XC xE0 (d + 1) xM_125 (53, [some (.ref 18), some (.ref 51), some (.ref 28), some (.int xn), some (.int sd), some (.int fx), some (.int cn), some (.float dv), some (.float m), some (.int xt), y10, y11, y12], [.int fr], (shG X (md2 T), I, L, G)) Q := by
      intro fr hfr
      refine XC.block [61] 60 ?_
      exact cl_wh61_28_b H0 hn t8 D hxn hfr (c98 fr) (mH M) 0 (Nat.zero_add _) _ rfl _ rfl
    refine XC.block [53] 60 ?_
    refine And.intro (fun z => absurd z hlt) (fun _ => ?_)
    refine cl_placeOf_b h5 hm (p := aFr s (mFa M 5) + t) (by omega) epo (fun v hv' => ?_)
    exact c53 _ (show v + sd = _ by rw [hv', hsd, nI_add])
theorem cl_wh154_28_b {s : Nat} (H : clHc_28_b M s I F) {n : Nat} (hn : n < mFa M 1) {xn sd fx cn : Int32} {dv m : UInt32} (hcn : cn = nI (aCn s (mFa M 5))) (hm' : m = pMx (pZt M s (pKc (F 28)) (F 21) n) (aCn s (mFa M 5)))
    (hQ : ∀ G, fO 25 F G → (∀ t, t < aCn s (mFa M 5) → G 25 t = pEz (pZt M s (pKc (F 28)) (F 21) n) (aCn s (mFa M 5)) t) → ∀ e, e = pS (pEz (pZt M s (pKc (F 28)) (F 21) n) (aCn s (mFa M 5))) (aCn s (mFa M 5)) → Q (some (.float e)) (shG X (md2 T), I, L, G)) :
    ∀ (u t : Nat), t + u = aCn s (mFa M 5) → ∀ G, fO 25 F G → (∀ t', t' < t → G 25 t' = pEz (pZt M s (pKc (F 28)) (F 21) n) (aCn s (mFa M 5)) t') → (∀ t', t ≤ t' → t' < aCn s (mFa M 5) → G 25 t' = pZt M s (pKc (F 28)) (F 21) n t') → ∀ e, e = pS (pEz (pZt M s (pKc (F 28)) (F 21) n) (aCn s (mFa M 5))) t → ∀ xt, xt = nI t → ∀ y11 y12, XC xE0 (d + 1) xM_125 (154, [some (.ref 18), some (.ref 51), some (.ref 28), some (.int xn), some (.int sd), some (.int fx), some (.int cn), some (.float dv), some (.float m), some (.float e), some (.int xt), y11, y12], [], (shG X (md2 T), I, L, G)) Q := by
  obtain ⟨hb1, hb2, hb3⟩ := cl_hdB_28_b H hn
  obtain ⟨hm, hs, h60, h5, hhx, hK, hq⟩ := H
  have hc := hm.1.2.2.2.2.2.1
  obtain ⟨f1, f2, f3, f4⟩ := aFr_ok (s := s) (c := mFa M 5) (by omega)
  have ez := fun t ht => pEz_ok (z := pZt M s (pKc (F 28)) (F 21) n) (n := aCn s (mFa M 5)) (t := t) (fun t _ => hb1 t) ht
  have es := pSh_ok (z := pZt M s (pKc (F 28)) (F 21) n) (n := aCn s (mFa M 5)) (fun t _ => hb1 t) (by omega)
  intro u
  induction u with
  | zero =>
    intro t ht G D hv hw e he xt hxt y11 y12
    have : t = aCn s (mFa M 5) := by omega
    subst this
    have fin := hQ G D hv e he
    refine XC.block [154] 60 ?_
    exact And.intro (fun _ => ⟨trivial, fin⟩) (fun z => absurd (show cn ≤ xt by rw [hcn, hxt]; exact nI_le (by omega) (by omega)) z)
  | succ u ih =>
    intro t ht G D hv hw e he xt hxt y11 y12
    have hlt : ¬ cn ≤ xt := by rw [hcn, hxt]; exact nI_ge (by omega) (by omega)
    have t8 : t < aCn s (mFa M 5) := by omega
    have t1 : t + 1 + u = aCn s (mFa M 5) := by omega
    have kin : vp_in xt 8 := rf_in hxt (by omega) (by decide)
    have tk : xt.toNatClampNeg = t := by rw [hxt, nI_clamp (by omega)]
    have hx1 : xt + 1 = nI (t + 1) := by rw [hxt, nI_1]
    have rz : G 25 xt.toNatClampNeg = pZt M s (pKc (F 28)) (F 21) n t := by rw [tk]; exact hw t (Nat.le_refl _) t8
    have esub : FP.fsub (G 25 xt.toNatClampNeg) m = FP.fsub (pZt M s (pKc (F 28)) (F 21) n t) (pMx (pZt M s (pKc (F 28)) (F 21) n) (aCn s (mFa M 5))) := by rw [rz, hm']
    have fs : fF (FP.fsub (G 25 xt.toNatClampNeg) m) := by rw [esub]; exact (ez t t8).1
    have ev : pExp (FP.fsub (G 25 xt.toNatClampNeg) m) = pEz (pZt M s (pKc (F 28)) (F 21) n) (aCn s (mFa M 5)) t := by rw [esub]; rfl
    have rb : x2 G 25 xt.toNatClampNeg (pExp (FP.fsub (G 25 xt.toNatClampNeg) m)) 25 xt.toNatClampNeg = pEz (pZt M s (pKc (F 28)) (F 21) n) (aCn s (mFa M 5)) t := by rw [x2_same]; exact ev
    have ea : FP.fadd e (x2 G 25 xt.toNatClampNeg (pExp (FP.fsub (G 25 xt.toNatClampNeg) m)) 25 xt.toNatClampNeg) = pS (pEz (pZt M s (pKc (F 28)) (F 21) n) (aCn s (mFa M 5))) (t + 1) := by rw [rb, he]; rfl
    have ga : vf_n32 (FP.fadd e (x2 G 25 xt.toNatClampNeg (pExp (FP.fsub (G 25 xt.toNatClampNeg) m)) 25 xt.toNatClampNeg)) := by rw [ea]; exact (es.1 (t + 1) (by omega)).n32
    have hv2 := x2_fill (k := xt.toNatClampNeg) hv tk ev
    have hw2 : ∀ t', t + 1 ≤ t' → t' < aCn s (mFa M 5) → x2 G 25 xt.toNatClampNeg (pExp (FP.fsub (G 25 xt.toNatClampNeg) m)) 25 t' = pZt M s (pKc (F 28)) (F 21) n t' := by
      intro t' h1 h2
      rw [x2_o _ _ (by omega)]
      exact hw t' (by omega) h2
    refine XC.block [154] 60 ?_
    refine And.intro (fun z => absurd z hlt) (fun _ => ?_)
    refine And.intro kin ?_
    refine And.intro fs.n32 ?_
    refine fn_exp_c fs ?_
    refine And.intro kin ?_
    refine And.intro kin ?_
    refine And.intro ga ?_
    exact ih (t + 1) t1 _ D.st hv2 hw2 _ ea _ hx1 _ _
theorem cl_weigh_28_b {s : Nat} (H : clHc_28_b M s I F) {n : Nat} (hn : n < mFa M 1) {xn sd : Int32} (hxn : xn = nI (n * mH M)) (hsd : sd = nI (n / (mFa M 1 / mFa M 2) * mH M))
    (hQ : ∀ G, fO 25 F G → (∀ t, t < aCn s (mFa M 5) → G 25 t = pEz (pZt M s (pKc (F 28)) (F 21) n) (aCn s (mFa M 5)) t) → ∀ e, e = pS (pEz (pZt M s (pKc (F 28)) (F 21) n) (aCn s (mFa M 5))) (aCn s (mFa M 5)) → Q (some (.float e)) (shG X (md2 T), I, L, G)) : XM xE0 (d + 1) 125 [.ref 18, .ref 51, .ref 28, .int xn, .int sd] (shG X (md2 T), I, L, F) Q := by
  have H0 := H
  obtain ⟨hm, hs, h60, h5, hhx, hK, hq⟩ := H
  have hc := hm.1.2.2.2.2.2.1
  have hh := (mHs hm).1
  obtain ⟨f1, f2, f3, f4⟩ := aFr_ok (s := s) (c := mFa M 5) (by omega)
  have frv : fRv (FP.i2f (I 51 5)) := by rw [hhx]; exact fh_rv hh
  have ebf : pRoot (FP.i2f (I 51 5)) = pHr (mH M) := by rw [hhx]; rfl
  have c148 : ∀ fx cn, cn = nI (aCn s (mFa M 5)) → ∀ dv G, fO 25 F G → (∀ t, t < aCn s (mFa M 5) → G 25 t = pZt M s (pKc (F 28)) (F 21) n t) → ∀ m, m = pMx (pZt M s (pKc (F 28)) (F 21) n) (aCn s (mFa M 5)) → ∀ (x9 : Int32) y10 y11 y12, XC xE0 (d + 1) xM_125 (148, [some (.ref 18), some (.ref 51), some (.ref 28), some (.int xn), some (.int sd), some (.int fx), some (.int cn), some (.float dv), some (.float m), some (.int x9), y10, y11, y12], [], (shG X (md2 T), I, L, G)) Q := by
    intro fx cn hcn dv G D hv m hm' x9 y10 y11 y12
    have k := cl_wh154_28_b (X := X) (T := T) (L := L) (d := d) (xn := xn) (sd := sd) (fx := fx) (dv := dv) H0 hn hcn hm' hQ (aCn s (mFa M 5)) 0 (Nat.zero_add _) G D (fun t ht => absurd ht (Nat.not_lt_zero _)) (fun t _ ht => hv t ht) FP.fconst0 rfl (nI 0) rfl
    refine XC.block [154] 60 ?_
    exact k _ _
  have c7 : ∀ fx, fx = nI (aFr s (mFa M 5)) → XC xE0 (d + 1) xM_125 (5, [some (.ref 18), some (.ref 51), some (.ref 28), some (.int xn), some (.int sd), none, none, none, none, none, none, none, none], [.int fx], (shG X (md2 T), I, L, F)) Q := by
    intro fx efx
    have ecn : I 18 10 - fx + 1 = nI (aCn s (mFa M 5)) := by rw [h60, efx, pk_sub f4, nI_1]; congr 1; omega
    have k := cl_wh34_28_b (X := X) (T := T) (L := L) (d := d) (xn := xn) (sd := sd) (fx := fx) (cn := I 18 10 - fx + 1) (dv := pRoot (FP.i2f (I 51 5))) H0 hn hxn hsd efx ecn ebf (c148 fx _ ecn _) (aCn s (mFa M 5)) 0 (Nat.zero_add _) F fO.rf (fun t ht => absurd ht (Nat.not_lt_zero _)) FP.fconst0 rfl (nI 0) rfl
    refine XC.block [34] 60 ?_
    refine fn_root_c frv ?_
    exact k _ _ _
  refine XC.block [5] 60 ?_
  refine cl_earliest_b h5 hm hs h60 (fun v hv => ?_)
  exact c7 v hv
/-- where a head's walk stands -/
def clHc_29_b (M : pMd) (s : Nat) (I : Nat → Nat → Int32) (F : Nat → Nat → UInt32) : Prop := mGd M ∧ s < 60 ∧ I 18 10 = nI s ∧ I 52 5 = nI (mFa M 5) ∧ I 51 5 = nI (mH M) ∧ (∀ k, k < 128 → fB 182 (F 29 k)) ∧ (∀ k, k < mFa M 0 → fB 182 (F 21 k))
theorem cl_hdB_29_b {s : Nat} (H : clHc_29_b M s I F) {n : Nat} (hn : n < mFa M 1) : (∀ t, fB 220 (pZt M s (pKc (F 29)) (F 21) n t)) ∧ (∀ t j, j < mH M → fB 182 (pKc (F 29) ((aFr s (mFa M 5) + t) % mFa M 5) (n / (mFa M 1 / mFa M 2) * mH M + j)) ∧ 16 * ((aFr s (mFa M 5) + t) % mFa M 5) + n / (mFa M 1 / mFa M 2) * mH M + j < 128) ∧ (∀ j, j < mH M → fB 182 (F 21 (n * mH M + j))) := by
  obtain ⟨hm, hs, h60, h5, h6, hK, hq⟩ := H
  obtain ⟨s1, s2, s3, s4, s5⟩ := mSd hm hn
  have hc := hm.1.2.2.2.2.2.1
  have ix : ∀ t j, j < mH M → 16 * ((aFr s (mFa M 5) + t) % mFa M 5) + n / (mFa M 1 / mFa M 2) * mH M + j < 128 := by
    intro t j hj
    have := Nat.mod_lt (aFr s (mFa M 5) + t) (show 0 < mFa M 5 by omega)
    omega
  have q1 : ∀ j, j < mH M → fB 182 (F 21 (n * mH M + j)) := fun j hj => hq _ (by omega)
  refine ⟨fun t => pZ_ok (mHs hm).1 (fun j hj => ?_) q1, fun t j hj => ⟨?_, ix t j hj⟩, q1⟩
  · have := ix t j hj
    exact hK _ (by rw [← Nat.add_assoc]; exact this)
  · have := ix t j hj
    exact hK _ (by rw [← Nat.add_assoc]; exact this)
theorem cl_wh61_29_b {s : Nat} (H : clHc_29_b M s I F) {n t : Nat} (hn : n < mFa M 1) (ht : t < aCn s (mFa M 5)) {G : Nat → Nat → UInt32} (D : fO 25 F G) {xn sd fx cn xt fr : Int32} {dv m : UInt32} (hxn : xn = nI (n * mH M)) (hfr : fr = nI (16 * ((aFr s (mFa M 5) + t) % mFa M 5) + n / (mFa M 1 / mFa M 2) * mH M))
    (next : ∀ a, a = pDt (fun j => pKc (F 29) ((aFr s (mFa M 5) + t) % mFa M 5) (n / (mFa M 1 / mFa M 2) * mH M + j)) (fun j => F 21 (n * mH M + j)) (mH M) → ∀ (xj : Int32), XC xE0 (d + 1) xM_125 (98, [some (.ref 18), some (.ref 51), some (.ref 29), some (.int xn), some (.int sd), some (.int fx), some (.int cn), some (.float dv), some (.float m), some (.int xt), some (.int fr), some (.float a), some (.int xj)], [], (shG X (md2 T), I, L, G)) Q) :
    ∀ (u j : Nat), j + u = mH M → ∀ a, a = pDt (fun j => pKc (F 29) ((aFr s (mFa M 5) + t) % mFa M 5) (n / (mFa M 1 / mFa M 2) * mH M + j)) (fun j => F 21 (n * mH M + j)) j → ∀ xj, xj = nI j → XC xE0 (d + 1) xM_125 (61, [some (.ref 18), some (.ref 51), some (.ref 29), some (.int xn), some (.int sd), some (.int fx), some (.int cn), some (.float dv), some (.float m), some (.int xt), some (.int fr), some (.float a), some (.int xj)], [], (shG X (md2 T), I, L, G)) Q := by
  obtain ⟨hb1, hb2, hb3⟩ := cl_hdB_29_b H hn
  obtain ⟨hm, hs, h60, h5, hhx, hK, hq⟩ := H
  obtain ⟨s1, s2, s3, s4, s5⟩ := mSd hm hn
  have hA : ∀ j, j < mH M → fB 182 (pKc (F 29) ((aFr s (mFa M 5) + t) % mFa M 5) (n / (mFa M 1 / mFa M 2) * mH M + j)) := fun j hj => (hb2 t j hj).1
  have gm := pDt_m (k := 215) hA hb3 (by decide) (by decide) (by decide) (by decide) (by decide)
  have gF := pDt_F (k := 215) hA hb3 (by decide) (by decide) (by decide) (by decide) (by decide) (by omega)
  intro u
  induction u with
  | zero =>
    intro j hj a ha xj hxj
    have : j = mH M := by omega
    subst this
    refine XC.block [61, 98] 60 ?_
    exact And.intro (fun _ => next _ ha _) (fun z => absurd (show I 51 5 ≤ xj by rw [hhx, hxj]; exact nI_le (by omega) (by omega)) z)
  | succ u ih =>
    intro j hj a ha xj hxj
    have hlt : ¬ I 51 5 ≤ xj := by rw [hhx, hxj]; exact nI_ge (by omega) (by omega)
    have jl : j < mH M := by omega
    have ix := (hb2 t j jl).2
    have ei : fr + xj = nI (16 * ((aFr s (mFa M 5) + t) % mFa M 5) + n / (mFa M 1 / mFa M 2) * mH M + j) := by rw [hfr, hxj, nI_add]
    have vin : vp_in (fr + xj) 128 := rf_in ei ix (by decide)
    have eq_ : xn + xj = nI (n * mH M + j) := by rw [hxn, hxj, nI_add]
    have qin : vp_in (xn + xj) 16 := rf_in eq_ (by omega) (by decide)
    have e1 : G 29 (fr + xj).toNatClampNeg = pKc (F 29) ((aFr s (mFa M 5) + t) % mFa M 5) (n / (mFa M 1 / mFa M 2) * mH M + j) := by
      rw [ei, nI_clamp (by omega), D 29 _ (by decide)]
      unfold pKc
      rw [← Nat.add_assoc]
    have e2 : G 21 (xn + xj).toNatClampNeg = F 21 (n * mH M + j) := by rw [eq_, nI_clamp (by omega), D 21 _ (by decide)]
    have g1 : vf_n32 (FP.fmul (G 29 (fr + xj).toNatClampNeg) (G 21 (xn + xj).toNatClampNeg)) := by rw [e1, e2]; exact (gm j jl).n32 (by decide)
    have es : FP.fadd a (FP.fmul (G 29 (fr + xj).toNatClampNeg) (G 21 (xn + xj).toNatClampNeg)) = pDt (fun j => pKc (F 29) ((aFr s (mFa M 5) + t) % mFa M 5) (n / (mFa M 1 / mFa M 2) * mH M + j)) (fun j => F 21 (n * mH M + j)) (j + 1) := by rw [e1, e2, ha]; rfl
    have g2 : vf_n32 (FP.fadd a (FP.fmul (G 29 (fr + xj).toNatClampNeg) (G 21 (xn + xj).toNatClampNeg))) := by rw [es]; exact (gF (j + 1) (by omega)).n32
    have hx1 : xj + 1 = nI (j + 1) := by rw [hxj, nI_1]
    have j1 : j + 1 + u = mH M := by omega
    refine XC.block [61, 98] 60 ?_
    refine And.intro (fun z => absurd z hlt) (fun _ => ?_)
    refine And.intro vin ?_
    refine And.intro qin ?_
    refine And.intro g1 ?_
    refine And.intro g2 ?_
    exact ih (j + 1) j1 _ es _ hx1
theorem cl_wh34_29_b {s : Nat} (H : clHc_29_b M s I F) {n : Nat} (hn : n < mFa M 1) {xn sd fx cn : Int32} {dv : UInt32} (hxn : xn = nI (n * mH M)) (hsd : sd = nI (n / (mFa M 1 / mFa M 2) * mH M)) (hfx : fx = nI (aFr s (mFa M 5))) (hcn : cn = nI (aCn s (mFa M 5))) (hdv : dv = pHr (mH M))
    (next : ∀ G, fO 25 F G → (∀ t, t < aCn s (mFa M 5) → G 25 t = pZt M s (pKc (F 29)) (F 21) n t) → ∀ m, m = pMx (pZt M s (pKc (F 29)) (F 21) n) (aCn s (mFa M 5)) → ∀ (x9 : Int32) y10 y11 y12, XC xE0 (d + 1) xM_125 (148, [some (.ref 18), some (.ref 51), some (.ref 29), some (.int xn), some (.int sd), some (.int fx), some (.int cn), some (.float dv), some (.float m), some (.int x9), y10, y11, y12], [], (shG X (md2 T), I, L, G)) Q) :
    ∀ (u t : Nat), t + u = aCn s (mFa M 5) → ∀ G, fO 25 F G → (∀ t', t' < t → G 25 t' = pZt M s (pKc (F 29)) (F 21) n t') → ∀ m, m = pMx (pZt M s (pKc (F 29)) (F 21) n) t → ∀ xt, xt = nI t → ∀ y10 y11 y12, XC xE0 (d + 1) xM_125 (34, [some (.ref 18), some (.ref 51), some (.ref 29), some (.int xn), some (.int sd), some (.int fx), some (.int cn), some (.float dv), some (.float m), some (.int xt), y10, y11, y12], [], (shG X (md2 T), I, L, G)) Q := by
  have H0 := H
  obtain ⟨hb1, hb2, hb3⟩ := cl_hdB_29_b H hn
  obtain ⟨hm, hs, h60, h5, hhx, hK, hq⟩ := H
  have hc := hm.1.2.2.2.2.2.1
  obtain ⟨f1, f2, f3, f4⟩ := aFr_ok (s := s) (c := mFa M 5) (by omega)
  intro u
  induction u with
  | zero =>
    intro t ht G D hv m hm' xt hxt y10 y11 y12
    have : t = aCn s (mFa M 5) := by omega
    subst this
    have k := next G D hv m hm'
    refine XC.block [34, 148] 60 ?_
    exact And.intro (fun _ => k _ _ _ _) (fun z => absurd (show cn ≤ xt by rw [hcn, hxt]; exact nI_le (by omega) (by omega)) z)
  | succ u ih =>
    intro t ht G D hv m hm' xt hxt y10 y11 y12
    have hlt : ¬ cn ≤ xt := by rw [hcn, hxt]; exact nI_ge (by omega) (by omega)
    have t8 : t < aCn s (mFa M 5) := by omega
    have t1 : t + 1 + u = aCn s (mFa M 5) := by omega
    have kin : vp_in xt 8 := rf_in hxt (by omega) (by decide)
    have tk : xt.toNatClampNeg = t := by rw [hxt, nI_clamp (by omega)]
    have hx1 : xt + 1 = nI (t + 1) := by rw [hxt, nI_1]
    have teq : xt = 0 ↔ t = 0 := by rw [hxt, show (0 : Int32) = nI 0 from rfl, nI_eq (by omega) (by decide)]
    have epo : fx + xt = nI (aFr s (mFa M 5) + t) := by rw [hfx, hxt, nI_add]
    have c98 : ∀ fr, ∀ a, a = pDt (fun j => pKc (F 29) ((aFr s (mFa M 5) + t) % mFa M 5) (n / (mFa M 1 / mFa M 2) * mH M + j)) (fun j => F 21 (n * mH M + j)) (mH M) → ∀ (xj : Int32), XC xE0 (d + 1) xM_125 (98, [some (.ref 18), some (.ref 51), some (.ref 29), some (.int xn), some (.int sd), some (.int fx), some (.int cn), some (.float dv), some (.float m), some (.int xt), some (.int fr), some (.float a), some (.int xj)], [], (shG X (md2 T), I, L, G)) Q := by
      intro fr a ha xj
      have ez : FP.fdiv a dv = pZt M s (pKc (F 29)) (F 21) n t := by rw [ha, hdv]; rfl
      have gz : vf_n32 (FP.fdiv a dv) := by rw [ez]; exact (hb1 t).n32 (by decide)
      have rb : x2 G 25 xt.toNatClampNeg (FP.fdiv a dv) 25 xt.toNatClampNeg = pZt M s (pKc (F 29)) (F 21) n t := by rw [x2_same]; exact ez
      have hv2 := x2_fill (k := xt.toNatClampNeg) hv tk ez
      have m1 : xt = 0 → x2 G 25 xt.toNatClampNeg (FP.fdiv a dv) 25 xt.toNatClampNeg = pMx (pZt M s (pKc (F 29)) (F 21) n) (t + 1) := fun z => rb.trans (if_pos (Or.inl (teq.mp z))).symm
      have m2 : 0 < Op.cmpValue (FP.fcmp (x2 G 25 xt.toNatClampNeg (FP.fdiv a dv) 25 xt.toNatClampNeg) m) .l → x2 G 25 xt.toNatClampNeg (FP.fdiv a dv) 25 xt.toNatClampNeg = pMx (pZt M s (pKc (F 29)) (F 21) n) (t + 1) := fun z => by
        rw [rb, hm'] at z
        exact rb.trans (if_pos (Or.inr z)).symm
      have m3 : ¬ xt = 0 → ¬ 0 < Op.cmpValue (FP.fcmp (x2 G 25 xt.toNatClampNeg (FP.fdiv a dv) 25 xt.toNatClampNeg) m) .l → m = pMx (pZt M s (pKc (F 29)) (F 21) n) (t + 1) := fun y z => by
        rw [rb, hm'] at z
        exact hm'.trans (if_neg (fun w => w.elim (fun w => y (teq.mpr w)) z)).symm
      refine XC.block [34] 60 ?_
      refine And.intro gz ?_
      refine And.intro kin ?_
      refine And.intro (fun z => ?_) (fun z => ?_)
      · refine And.intro kin ?_
        exact ih (t + 1) t1 _ D.st hv2 _ (m1 z) _ hx1 _ _ _
      · refine And.intro kin ?_
        refine And.intro (fun y => ?_) (fun y => ?_)
        · exact ih (t + 1) t1 _ D.st hv2 _ (m3 z (Int32.not_lt.mpr y)) _ hx1 _ _ _
        · refine And.intro kin ?_
          exact ih (t + 1) t1 _ D.st hv2 _ (m2 (Int32.not_le.mp y)) _ hx1 _ _ _
    have c53 : ∀ fr, fr = nI (16 * ((aFr s (mFa M 5) + t) % mFa M 5) + n / (mFa M 1 / mFa M 2) * mH M) → XC xE0 (d + 1) xM_125 (53, [some (.ref 18), some (.ref 51), some (.ref 29), some (.int xn), some (.int sd), some (.int fx), some (.int cn), some (.float dv), some (.float m), some (.int xt), y10, y11, y12], [.int fr], (shG X (md2 T), I, L, G)) Q := by
      intro fr hfr
      refine XC.block [61] 60 ?_
      exact cl_wh61_29_b H0 hn t8 D hxn hfr (c98 fr) (mH M) 0 (Nat.zero_add _) _ rfl _ rfl
    refine XC.block [53] 60 ?_
    refine And.intro (fun z => absurd z hlt) (fun _ => ?_)
    refine cl_placeOf_b h5 hm (p := aFr s (mFa M 5) + t) (by omega) epo (fun v hv' => ?_)
    exact c53 _ (show v + sd = _ by rw [hv', hsd, nI_add])
theorem cl_wh154_29_b {s : Nat} (H : clHc_29_b M s I F) {n : Nat} (hn : n < mFa M 1) {xn sd fx cn : Int32} {dv m : UInt32} (hcn : cn = nI (aCn s (mFa M 5))) (hm' : m = pMx (pZt M s (pKc (F 29)) (F 21) n) (aCn s (mFa M 5)))
    (hQ : ∀ G, fO 25 F G → (∀ t, t < aCn s (mFa M 5) → G 25 t = pEz (pZt M s (pKc (F 29)) (F 21) n) (aCn s (mFa M 5)) t) → ∀ e, e = pS (pEz (pZt M s (pKc (F 29)) (F 21) n) (aCn s (mFa M 5))) (aCn s (mFa M 5)) → Q (some (.float e)) (shG X (md2 T), I, L, G)) :
    ∀ (u t : Nat), t + u = aCn s (mFa M 5) → ∀ G, fO 25 F G → (∀ t', t' < t → G 25 t' = pEz (pZt M s (pKc (F 29)) (F 21) n) (aCn s (mFa M 5)) t') → (∀ t', t ≤ t' → t' < aCn s (mFa M 5) → G 25 t' = pZt M s (pKc (F 29)) (F 21) n t') → ∀ e, e = pS (pEz (pZt M s (pKc (F 29)) (F 21) n) (aCn s (mFa M 5))) t → ∀ xt, xt = nI t → ∀ y11 y12, XC xE0 (d + 1) xM_125 (154, [some (.ref 18), some (.ref 51), some (.ref 29), some (.int xn), some (.int sd), some (.int fx), some (.int cn), some (.float dv), some (.float m), some (.float e), some (.int xt), y11, y12], [], (shG X (md2 T), I, L, G)) Q := by
  obtain ⟨hb1, hb2, hb3⟩ := cl_hdB_29_b H hn
  obtain ⟨hm, hs, h60, h5, hhx, hK, hq⟩ := H
  have hc := hm.1.2.2.2.2.2.1
  obtain ⟨f1, f2, f3, f4⟩ := aFr_ok (s := s) (c := mFa M 5) (by omega)
  have ez := fun t ht => pEz_ok (z := pZt M s (pKc (F 29)) (F 21) n) (n := aCn s (mFa M 5)) (t := t) (fun t _ => hb1 t) ht
  have es := pSh_ok (z := pZt M s (pKc (F 29)) (F 21) n) (n := aCn s (mFa M 5)) (fun t _ => hb1 t) (by omega)
  intro u
  induction u with
  | zero =>
    intro t ht G D hv hw e he xt hxt y11 y12
    have : t = aCn s (mFa M 5) := by omega
    subst this
    have fin := hQ G D hv e he
    refine XC.block [154] 60 ?_
    exact And.intro (fun _ => ⟨trivial, fin⟩) (fun z => absurd (show cn ≤ xt by rw [hcn, hxt]; exact nI_le (by omega) (by omega)) z)
  | succ u ih =>
    intro t ht G D hv hw e he xt hxt y11 y12
    have hlt : ¬ cn ≤ xt := by rw [hcn, hxt]; exact nI_ge (by omega) (by omega)
    have t8 : t < aCn s (mFa M 5) := by omega
    have t1 : t + 1 + u = aCn s (mFa M 5) := by omega
    have kin : vp_in xt 8 := rf_in hxt (by omega) (by decide)
    have tk : xt.toNatClampNeg = t := by rw [hxt, nI_clamp (by omega)]
    have hx1 : xt + 1 = nI (t + 1) := by rw [hxt, nI_1]
    have rz : G 25 xt.toNatClampNeg = pZt M s (pKc (F 29)) (F 21) n t := by rw [tk]; exact hw t (Nat.le_refl _) t8
    have esub : FP.fsub (G 25 xt.toNatClampNeg) m = FP.fsub (pZt M s (pKc (F 29)) (F 21) n t) (pMx (pZt M s (pKc (F 29)) (F 21) n) (aCn s (mFa M 5))) := by rw [rz, hm']
    have fs : fF (FP.fsub (G 25 xt.toNatClampNeg) m) := by rw [esub]; exact (ez t t8).1
    have ev : pExp (FP.fsub (G 25 xt.toNatClampNeg) m) = pEz (pZt M s (pKc (F 29)) (F 21) n) (aCn s (mFa M 5)) t := by rw [esub]; rfl
    have rb : x2 G 25 xt.toNatClampNeg (pExp (FP.fsub (G 25 xt.toNatClampNeg) m)) 25 xt.toNatClampNeg = pEz (pZt M s (pKc (F 29)) (F 21) n) (aCn s (mFa M 5)) t := by rw [x2_same]; exact ev
    have ea : FP.fadd e (x2 G 25 xt.toNatClampNeg (pExp (FP.fsub (G 25 xt.toNatClampNeg) m)) 25 xt.toNatClampNeg) = pS (pEz (pZt M s (pKc (F 29)) (F 21) n) (aCn s (mFa M 5))) (t + 1) := by rw [rb, he]; rfl
    have ga : vf_n32 (FP.fadd e (x2 G 25 xt.toNatClampNeg (pExp (FP.fsub (G 25 xt.toNatClampNeg) m)) 25 xt.toNatClampNeg)) := by rw [ea]; exact (es.1 (t + 1) (by omega)).n32
    have hv2 := x2_fill (k := xt.toNatClampNeg) hv tk ev
    have hw2 : ∀ t', t + 1 ≤ t' → t' < aCn s (mFa M 5) → x2 G 25 xt.toNatClampNeg (pExp (FP.fsub (G 25 xt.toNatClampNeg) m)) 25 t' = pZt M s (pKc (F 29)) (F 21) n t' := by
      intro t' h1 h2
      rw [x2_o _ _ (by omega)]
      exact hw t' (by omega) h2
    refine XC.block [154] 60 ?_
    refine And.intro (fun z => absurd z hlt) (fun _ => ?_)
    refine And.intro kin ?_
    refine And.intro fs.n32 ?_
    refine fn_exp_c fs ?_
    refine And.intro kin ?_
    refine And.intro kin ?_
    refine And.intro ga ?_
    exact ih (t + 1) t1 _ D.st hv2 hw2 _ ea _ hx1 _ _
theorem cl_weigh_29_b {s : Nat} (H : clHc_29_b M s I F) {n : Nat} (hn : n < mFa M 1) {xn sd : Int32} (hxn : xn = nI (n * mH M)) (hsd : sd = nI (n / (mFa M 1 / mFa M 2) * mH M))
    (hQ : ∀ G, fO 25 F G → (∀ t, t < aCn s (mFa M 5) → G 25 t = pEz (pZt M s (pKc (F 29)) (F 21) n) (aCn s (mFa M 5)) t) → ∀ e, e = pS (pEz (pZt M s (pKc (F 29)) (F 21) n) (aCn s (mFa M 5))) (aCn s (mFa M 5)) → Q (some (.float e)) (shG X (md2 T), I, L, G)) : XM xE0 (d + 1) 125 [.ref 18, .ref 51, .ref 29, .int xn, .int sd] (shG X (md2 T), I, L, F) Q := by
  have H0 := H
  obtain ⟨hm, hs, h60, h5, hhx, hK, hq⟩ := H
  have hc := hm.1.2.2.2.2.2.1
  have hh := (mHs hm).1
  obtain ⟨f1, f2, f3, f4⟩ := aFr_ok (s := s) (c := mFa M 5) (by omega)
  have frv : fRv (FP.i2f (I 51 5)) := by rw [hhx]; exact fh_rv hh
  have ebf : pRoot (FP.i2f (I 51 5)) = pHr (mH M) := by rw [hhx]; rfl
  have c148 : ∀ fx cn, cn = nI (aCn s (mFa M 5)) → ∀ dv G, fO 25 F G → (∀ t, t < aCn s (mFa M 5) → G 25 t = pZt M s (pKc (F 29)) (F 21) n t) → ∀ m, m = pMx (pZt M s (pKc (F 29)) (F 21) n) (aCn s (mFa M 5)) → ∀ (x9 : Int32) y10 y11 y12, XC xE0 (d + 1) xM_125 (148, [some (.ref 18), some (.ref 51), some (.ref 29), some (.int xn), some (.int sd), some (.int fx), some (.int cn), some (.float dv), some (.float m), some (.int x9), y10, y11, y12], [], (shG X (md2 T), I, L, G)) Q := by
    intro fx cn hcn dv G D hv m hm' x9 y10 y11 y12
    have k := cl_wh154_29_b (X := X) (T := T) (L := L) (d := d) (xn := xn) (sd := sd) (fx := fx) (dv := dv) H0 hn hcn hm' hQ (aCn s (mFa M 5)) 0 (Nat.zero_add _) G D (fun t ht => absurd ht (Nat.not_lt_zero _)) (fun t _ ht => hv t ht) FP.fconst0 rfl (nI 0) rfl
    refine XC.block [154] 60 ?_
    exact k _ _
  have c7 : ∀ fx, fx = nI (aFr s (mFa M 5)) → XC xE0 (d + 1) xM_125 (5, [some (.ref 18), some (.ref 51), some (.ref 29), some (.int xn), some (.int sd), none, none, none, none, none, none, none, none], [.int fx], (shG X (md2 T), I, L, F)) Q := by
    intro fx efx
    have ecn : I 18 10 - fx + 1 = nI (aCn s (mFa M 5)) := by rw [h60, efx, pk_sub f4, nI_1]; congr 1; omega
    have k := cl_wh34_29_b (X := X) (T := T) (L := L) (d := d) (xn := xn) (sd := sd) (fx := fx) (cn := I 18 10 - fx + 1) (dv := pRoot (FP.i2f (I 51 5))) H0 hn hxn hsd efx ecn ebf (c148 fx _ ecn _) (aCn s (mFa M 5)) 0 (Nat.zero_add _) F fO.rf (fun t ht => absurd ht (Nat.not_lt_zero _)) FP.fconst0 rfl (nI 0) rfl
    refine XC.block [34] 60 ?_
    refine fn_root_c frv ?_
    exact k _ _ _
  refine XC.block [5] 60 ?_
  refine cl_earliest_b h5 hm hs h60 (fun v hv => ?_)
  exact c7 v hv
theorem cl_mix_31_b {s : Nat} (hm : mGd M) (hs : s < 60) (h60 : I 18 10 = nI s) (h5 : I 52 5 = nI (mFa M 5)) (hhx : I 51 5 = nI (mH M)) {n : Nat} (hn : n < mFa M 1) {z : Nat → UInt32} (hz : ∀ t, fB 220 (z t)) (hV : ∀ k, k < 128 → fB 172 (F 31 k)) (hsh : ∀ t, t < aCn s (mFa M 5) → F 25 t = pEz z (aCn s (mFa M 5)) t) {e : UInt32} (he : e = pS (pEz z (aCn s (mFa M 5))) (aCn s (mFa M 5))) {xn sd : Int32} (hxn : xn = nI (n * mH M)) (hsd : sd = nI (n / (mFa M 1 / mFa M 2) * mH M))
    (hQ : ∀ G, fO 22 F G → G 22 = pWr (n * mH M) (mH M) (F 22) (fun j => pMi z (aCn s (mFa M 5)) (fun t => pKc (F 31) ((aFr s (mFa M 5) + t) % mFa M 5) (n / (mFa M 1 / mFa M 2) * mH M + j))) → Q none (shG X (md2 T), I, L, G)) : XM xE0 (d + 1) 126 [.ref 18, .ref 51, .ref 31, .int xn, .int sd, .float e] (shG X (md2 T), I, L, F) Q := by
  have hc := hm.1.2.2.2.2.2.1
  obtain ⟨s1, s2, s3, s4, s5⟩ := mSd hm hn
  obtain ⟨f1, f2, f3, f4⟩ := aFr_ok (s := s) (c := mFa M 5) (by omega)
  have es := pSh_ok (z := z) (n := aCn s (mFa M 5)) (fun t _ => hz t) (by omega)
  have ix : ∀ t j, j < mH M → 16 * ((aFr s (mFa M 5) + t) % mFa M 5) + n / (mFa M 1 / mFa M 2) * mH M + j < 128 := by
    intro t j hj
    have := Nat.mod_lt (aFr s (mFa M 5) + t) (show 0 < mFa M 5 by omega)
    omega
  have vb : ∀ j, j < mH M → ∀ t, fB 172 (pKc (F 31) ((aFr s (mFa M 5) + t) % mFa M 5) (n / (mFa M 1 / mFa M 2) * mH M + j)) := fun j hj t => by
    have := ix t j hj
    exact hV _ (by rw [← Nat.add_assoc]; exact this)
  have c26 : ∀ fx, fx = nI (aFr s (mFa M 5)) → ∀ j, j < mH M → ∀ xj, xj = nI j → ∀ G, fO 22 F G → (∀ a, a = pMi z (aCn s (mFa M 5)) (fun t => pKc (F 31) ((aFr s (mFa M 5) + t) % mFa M 5) (n / (mFa M 1 / mFa M 2) * mH M + j)) → ∀ (xt : Int32), XC xE0 (d + 1) xM_126 (74, [some (.ref 18), some (.ref 51), some (.ref 31), some (.int xn), some (.int sd), some (.float e), some (.int fx), some (.int xj), some (.float a), some (.int xt)], [], (shG X (md2 T), I, L, G)) Q) → ∀ (u t : Nat), t + u = aCn s (mFa M 5) → ∀ a, a = pS (fun t => FP.fmul (pSh z (aCn s (mFa M 5)) t) (pKc (F 31) ((aFr s (mFa M 5) + t) % mFa M 5) (n / (mFa M 1 / mFa M 2) * mH M + j))) t → ∀ xt, xt = nI (aFr s (mFa M 5) + t) → XC xE0 (d + 1) xM_126 (26, [some (.ref 18), some (.ref 51), some (.ref 31), some (.int xn), some (.int sd), some (.float e), some (.int fx), some (.int xj), some (.float a), some (.int xt)], [], (shG X (md2 T), I, L, G)) Q := by
    intro fx hfx j hj xj hxj G D next u
    have em := pMi_ok (z := z) (n := aCn s (mFa M 5)) (V := fun t => pKc (F 31) ((aFr s (mFa M 5) + t) % mFa M 5) (n / (mFa M 1 / mFa M 2) * mH M + j)) (fun t _ => hz t) (by omega) (fun t _ => vb j hj t)
    induction u with
    | zero =>
      intro t ht a ha xt hxt
      have : t = aCn s (mFa M 5) := by omega
      subst this
      refine XC.block [26, 74] 60 ?_
      exact And.intro (fun _ => next a ha _) (fun w => absurd (show I 18 10 < xt by rw [h60, hxt]; exact nI_lt (by omega) (by omega)) w)
    | succ u ih =>
      intro t ht a ha xt hxt
      have hlt : ¬ I 18 10 < xt := by rw [h60, hxt]; exact nI_nlt (by omega) (by omega)
      have t8 : t < aCn s (mFa M 5) := by omega
      have t1 : t + 1 + u = aCn s (mFa M 5) := by omega
      have ek : xt - fx = nI t := by rw [hxt, hfx, pk_sub (by omega), Nat.add_sub_cancel_left]
      have kin : vp_in (xt - fx) 8 := rf_in ek (by omega) (by decide)
      have tk : (xt - fx).toNatClampNeg = t := by rw [ek, nI_clamp (by omega)]
      have hx1 : xt + 1 = nI (aFr s (mFa M 5) + (t + 1)) := by rw [hxt, nI_1, Nat.add_assoc]
      have e2 : FP.fdiv (G 25 (xt - fx).toNatClampNeg) e = pSh z (aCn s (mFa M 5)) t := by rw [tk, D 25 t (by decide), hsh t t8, he]; rfl
      have g0 : vf_n32 (FP.fdiv (G 25 (xt - fx).toNatClampNeg) e) := by rw [e2]; exact (es.2 t t8).n32 (by decide)
      have pre : ∀ v, v = nI (16 * ((aFr s (mFa M 5) + t) % mFa M 5)) → vp_in (v + sd + xj) 128 ∧ vf_n32 (FP.fmul (FP.fdiv (G 25 (xt - fx).toNatClampNeg) e) (G 31 (v + sd + xj).toNatClampNeg)) ∧ FP.fadd a (FP.fmul (FP.fdiv (G 25 (xt - fx).toNatClampNeg) e) (G 31 (v + sd + xj).toNatClampNeg)) = pS (fun t => FP.fmul (pSh z (aCn s (mFa M 5)) t) (pKc (F 31) ((aFr s (mFa M 5) + t) % mFa M 5) (n / (mFa M 1 / mFa M 2) * mH M + j))) (t + 1) ∧ vf_n32 (FP.fadd a (FP.fmul (FP.fdiv (G 25 (xt - fx).toNatClampNeg) e) (G 31 (v + sd + xj).toNatClampNeg))) := by
        intro v hv
        have ix' := ix t j hj
        have ei : v + sd + xj = nI (16 * ((aFr s (mFa M 5) + t) % mFa M 5) + n / (mFa M 1 / mFa M 2) * mH M + j) := by rw [hv, hsd, hxj, nI_add, nI_add]
        have e1 : G 31 (v + sd + xj).toNatClampNeg = pKc (F 31) ((aFr s (mFa M 5) + t) % mFa M 5) (n / (mFa M 1 / mFa M 2) * mH M + j) := by
          rw [ei, nI_clamp (by omega), D 31 _ (by decide)]
          unfold pKc
          rw [← Nat.add_assoc]
        have ea : FP.fadd a (FP.fmul (FP.fdiv (G 25 (xt - fx).toNatClampNeg) e) (G 31 (v + sd + xj).toNatClampNeg)) = pS (fun t => FP.fmul (pSh z (aCn s (mFa M 5)) t) (pKc (F 31) ((aFr s (mFa M 5) + t) % mFa M 5) (n / (mFa M 1 / mFa M 2) * mH M + j))) (t + 1) := by rw [e1, e2, ha]; rfl
        refine ⟨rf_in ei ix' (by decide), ?_, ea, ?_⟩
        · rw [e1, e2]; exact (em.1 t t8).n32 (by decide)
        · rw [ea]; exact (em.2.1 (t + 1) (by omega)).n32
      refine XC.block [26, 74] 60 ?_
      refine And.intro (fun w => absurd w hlt) (fun _ => ?_)
      refine And.intro kin ?_
      refine And.intro g0 ?_
      refine cl_placeOf_b h5 hm (p := aFr s (mFa M 5) + t) (by omega) hxt (fun v hv => ?_)
      have p := pre v hv
      refine And.intro p.1 ?_
      refine And.intro p.2.1 ?_
      refine And.intro p.2.2.2 ?_
      exact ih (t + 1) t1 _ p.2.2.1 _ hx1
  have c10 : ∀ fx, fx = nI (aFr s (mFa M 5)) → ∀ (u j : Nat), j + u = mH M → ∀ G, fO 22 F G → G 22 = pWr (n * mH M) j (F 22) (fun j => pMi z (aCn s (mFa M 5)) (fun t => pKc (F 31) ((aFr s (mFa M 5) + t) % mFa M 5) (n / (mFa M 1 / mFa M 2) * mH M + j))) → ∀ xj, xj = nI j → ∀ y8 y9, XC xE0 (d + 1) xM_126 (10, [some (.ref 18), some (.ref 51), some (.ref 31), some (.int xn), some (.int sd), some (.float e), some (.int fx), some (.int xj), y8, y9], [], (shG X (md2 T), I, L, G)) Q := by
    intro fx hfx u
    induction u with
    | zero =>
      intro j hj G D hv xj hxj y8 y9
      have : j = mH M := by omega
      subst this
      have fin := hQ G D hv
      refine XC.block [10] 60 ?_
      exact And.intro (fun _ => ⟨trivial, fin⟩) (fun w => absurd (show I 51 5 ≤ xj by rw [hhx, hxj]; exact nI_le (by omega) (by omega)) w)
    | succ u ih =>
      intro j hj G D hv xj hxj y8 y9
      have hlt : ¬ I 51 5 ≤ xj := by rw [hhx, hxj]; exact nI_ge (by omega) (by omega)
      have jl : j < mH M := by omega
      have j1 : j + 1 + u = mH M := by omega
      have hx1 : xj + 1 = nI (j + 1) := by rw [hxj, nI_1]
      have ew : xn + xj = nI (n * mH M + j) := by rw [hxn, hxj, nI_add]
      have win : vp_in (xn + xj) 16 := rf_in ew (by omega) (by decide)
      have tw : (xn + xj).toNatClampNeg = n * mH M + j := by rw [ew, nI_clamp (by omega)]
      have c74 : ∀ a, a = pMi z (aCn s (mFa M 5)) (fun t => pKc (F 31) ((aFr s (mFa M 5) + t) % mFa M 5) (n / (mFa M 1 / mFa M 2) * mH M + j)) → ∀ (xt : Int32), XC xE0 (d + 1) xM_126 (74, [some (.ref 18), some (.ref 51), some (.ref 31), some (.int xn), some (.int sd), some (.float e), some (.int fx), some (.int xj), some (.float a), some (.int xt)], [], (shG X (md2 T), I, L, G)) Q := by
        intro a ha xt
        have V2 := pWr_st hv tw ha
        refine XC.block [10] 60 ?_
        refine And.intro win ?_
        exact ih (j + 1) j1 _ D.st V2 _ hx1 _ _
      have k := c26 fx hfx j jl xj hxj G D c74 (aCn s (mFa M 5)) 0 (Nat.zero_add _) FP.fconst0 rfl fx hfx
      refine XC.block [10, 26] 60 ?_
      exact And.intro (fun w => absurd w hlt) (fun _ => k)
  refine XC.block [10] 60 ?_
  refine cl_earliest_b h5 hm hs h60 (fun v hv => ?_)
  exact c10 v hv (mH M) 0 (Nat.zero_add _) F fO.rf pWr_0.symm _ rfl _ _
theorem cl_mix_32_b {s : Nat} (hm : mGd M) (hs : s < 60) (h60 : I 18 10 = nI s) (h5 : I 52 5 = nI (mFa M 5)) (hhx : I 51 5 = nI (mH M)) {n : Nat} (hn : n < mFa M 1) {z : Nat → UInt32} (hz : ∀ t, fB 220 (z t)) (hV : ∀ k, k < 128 → fB 172 (F 32 k)) (hsh : ∀ t, t < aCn s (mFa M 5) → F 25 t = pEz z (aCn s (mFa M 5)) t) {e : UInt32} (he : e = pS (pEz z (aCn s (mFa M 5))) (aCn s (mFa M 5))) {xn sd : Int32} (hxn : xn = nI (n * mH M)) (hsd : sd = nI (n / (mFa M 1 / mFa M 2) * mH M))
    (hQ : ∀ G, fO 22 F G → G 22 = pWr (n * mH M) (mH M) (F 22) (fun j => pMi z (aCn s (mFa M 5)) (fun t => pKc (F 32) ((aFr s (mFa M 5) + t) % mFa M 5) (n / (mFa M 1 / mFa M 2) * mH M + j))) → Q none (shG X (md2 T), I, L, G)) : XM xE0 (d + 1) 126 [.ref 18, .ref 51, .ref 32, .int xn, .int sd, .float e] (shG X (md2 T), I, L, F) Q := by
  have hc := hm.1.2.2.2.2.2.1
  obtain ⟨s1, s2, s3, s4, s5⟩ := mSd hm hn
  obtain ⟨f1, f2, f3, f4⟩ := aFr_ok (s := s) (c := mFa M 5) (by omega)
  have es := pSh_ok (z := z) (n := aCn s (mFa M 5)) (fun t _ => hz t) (by omega)
  have ix : ∀ t j, j < mH M → 16 * ((aFr s (mFa M 5) + t) % mFa M 5) + n / (mFa M 1 / mFa M 2) * mH M + j < 128 := by
    intro t j hj
    have := Nat.mod_lt (aFr s (mFa M 5) + t) (show 0 < mFa M 5 by omega)
    omega
  have vb : ∀ j, j < mH M → ∀ t, fB 172 (pKc (F 32) ((aFr s (mFa M 5) + t) % mFa M 5) (n / (mFa M 1 / mFa M 2) * mH M + j)) := fun j hj t => by
    have := ix t j hj
    exact hV _ (by rw [← Nat.add_assoc]; exact this)
  have c26 : ∀ fx, fx = nI (aFr s (mFa M 5)) → ∀ j, j < mH M → ∀ xj, xj = nI j → ∀ G, fO 22 F G → (∀ a, a = pMi z (aCn s (mFa M 5)) (fun t => pKc (F 32) ((aFr s (mFa M 5) + t) % mFa M 5) (n / (mFa M 1 / mFa M 2) * mH M + j)) → ∀ (xt : Int32), XC xE0 (d + 1) xM_126 (74, [some (.ref 18), some (.ref 51), some (.ref 32), some (.int xn), some (.int sd), some (.float e), some (.int fx), some (.int xj), some (.float a), some (.int xt)], [], (shG X (md2 T), I, L, G)) Q) → ∀ (u t : Nat), t + u = aCn s (mFa M 5) → ∀ a, a = pS (fun t => FP.fmul (pSh z (aCn s (mFa M 5)) t) (pKc (F 32) ((aFr s (mFa M 5) + t) % mFa M 5) (n / (mFa M 1 / mFa M 2) * mH M + j))) t → ∀ xt, xt = nI (aFr s (mFa M 5) + t) → XC xE0 (d + 1) xM_126 (26, [some (.ref 18), some (.ref 51), some (.ref 32), some (.int xn), some (.int sd), some (.float e), some (.int fx), some (.int xj), some (.float a), some (.int xt)], [], (shG X (md2 T), I, L, G)) Q := by
    intro fx hfx j hj xj hxj G D next u
    have em := pMi_ok (z := z) (n := aCn s (mFa M 5)) (V := fun t => pKc (F 32) ((aFr s (mFa M 5) + t) % mFa M 5) (n / (mFa M 1 / mFa M 2) * mH M + j)) (fun t _ => hz t) (by omega) (fun t _ => vb j hj t)
    induction u with
    | zero =>
      intro t ht a ha xt hxt
      have : t = aCn s (mFa M 5) := by omega
      subst this
      refine XC.block [26, 74] 60 ?_
      exact And.intro (fun _ => next a ha _) (fun w => absurd (show I 18 10 < xt by rw [h60, hxt]; exact nI_lt (by omega) (by omega)) w)
    | succ u ih =>
      intro t ht a ha xt hxt
      have hlt : ¬ I 18 10 < xt := by rw [h60, hxt]; exact nI_nlt (by omega) (by omega)
      have t8 : t < aCn s (mFa M 5) := by omega
      have t1 : t + 1 + u = aCn s (mFa M 5) := by omega
      have ek : xt - fx = nI t := by rw [hxt, hfx, pk_sub (by omega), Nat.add_sub_cancel_left]
      have kin : vp_in (xt - fx) 8 := rf_in ek (by omega) (by decide)
      have tk : (xt - fx).toNatClampNeg = t := by rw [ek, nI_clamp (by omega)]
      have hx1 : xt + 1 = nI (aFr s (mFa M 5) + (t + 1)) := by rw [hxt, nI_1, Nat.add_assoc]
      have e2 : FP.fdiv (G 25 (xt - fx).toNatClampNeg) e = pSh z (aCn s (mFa M 5)) t := by rw [tk, D 25 t (by decide), hsh t t8, he]; rfl
      have g0 : vf_n32 (FP.fdiv (G 25 (xt - fx).toNatClampNeg) e) := by rw [e2]; exact (es.2 t t8).n32 (by decide)
      have pre : ∀ v, v = nI (16 * ((aFr s (mFa M 5) + t) % mFa M 5)) → vp_in (v + sd + xj) 128 ∧ vf_n32 (FP.fmul (FP.fdiv (G 25 (xt - fx).toNatClampNeg) e) (G 32 (v + sd + xj).toNatClampNeg)) ∧ FP.fadd a (FP.fmul (FP.fdiv (G 25 (xt - fx).toNatClampNeg) e) (G 32 (v + sd + xj).toNatClampNeg)) = pS (fun t => FP.fmul (pSh z (aCn s (mFa M 5)) t) (pKc (F 32) ((aFr s (mFa M 5) + t) % mFa M 5) (n / (mFa M 1 / mFa M 2) * mH M + j))) (t + 1) ∧ vf_n32 (FP.fadd a (FP.fmul (FP.fdiv (G 25 (xt - fx).toNatClampNeg) e) (G 32 (v + sd + xj).toNatClampNeg))) := by
        intro v hv
        have ix' := ix t j hj
        have ei : v + sd + xj = nI (16 * ((aFr s (mFa M 5) + t) % mFa M 5) + n / (mFa M 1 / mFa M 2) * mH M + j) := by rw [hv, hsd, hxj, nI_add, nI_add]
        have e1 : G 32 (v + sd + xj).toNatClampNeg = pKc (F 32) ((aFr s (mFa M 5) + t) % mFa M 5) (n / (mFa M 1 / mFa M 2) * mH M + j) := by
          rw [ei, nI_clamp (by omega), D 32 _ (by decide)]
          unfold pKc
          rw [← Nat.add_assoc]
        have ea : FP.fadd a (FP.fmul (FP.fdiv (G 25 (xt - fx).toNatClampNeg) e) (G 32 (v + sd + xj).toNatClampNeg)) = pS (fun t => FP.fmul (pSh z (aCn s (mFa M 5)) t) (pKc (F 32) ((aFr s (mFa M 5) + t) % mFa M 5) (n / (mFa M 1 / mFa M 2) * mH M + j))) (t + 1) := by rw [e1, e2, ha]; rfl
        refine ⟨rf_in ei ix' (by decide), ?_, ea, ?_⟩
        · rw [e1, e2]; exact (em.1 t t8).n32 (by decide)
        · rw [ea]; exact (em.2.1 (t + 1) (by omega)).n32
      refine XC.block [26, 74] 60 ?_
      refine And.intro (fun w => absurd w hlt) (fun _ => ?_)
      refine And.intro kin ?_
      refine And.intro g0 ?_
      refine cl_placeOf_b h5 hm (p := aFr s (mFa M 5) + t) (by omega) hxt (fun v hv => ?_)
      have p := pre v hv
      refine And.intro p.1 ?_
      refine And.intro p.2.1 ?_
      refine And.intro p.2.2.2 ?_
      exact ih (t + 1) t1 _ p.2.2.1 _ hx1
  have c10 : ∀ fx, fx = nI (aFr s (mFa M 5)) → ∀ (u j : Nat), j + u = mH M → ∀ G, fO 22 F G → G 22 = pWr (n * mH M) j (F 22) (fun j => pMi z (aCn s (mFa M 5)) (fun t => pKc (F 32) ((aFr s (mFa M 5) + t) % mFa M 5) (n / (mFa M 1 / mFa M 2) * mH M + j))) → ∀ xj, xj = nI j → ∀ y8 y9, XC xE0 (d + 1) xM_126 (10, [some (.ref 18), some (.ref 51), some (.ref 32), some (.int xn), some (.int sd), some (.float e), some (.int fx), some (.int xj), y8, y9], [], (shG X (md2 T), I, L, G)) Q := by
    intro fx hfx u
    induction u with
    | zero =>
      intro j hj G D hv xj hxj y8 y9
      have : j = mH M := by omega
      subst this
      have fin := hQ G D hv
      refine XC.block [10] 60 ?_
      exact And.intro (fun _ => ⟨trivial, fin⟩) (fun w => absurd (show I 51 5 ≤ xj by rw [hhx, hxj]; exact nI_le (by omega) (by omega)) w)
    | succ u ih =>
      intro j hj G D hv xj hxj y8 y9
      have hlt : ¬ I 51 5 ≤ xj := by rw [hhx, hxj]; exact nI_ge (by omega) (by omega)
      have jl : j < mH M := by omega
      have j1 : j + 1 + u = mH M := by omega
      have hx1 : xj + 1 = nI (j + 1) := by rw [hxj, nI_1]
      have ew : xn + xj = nI (n * mH M + j) := by rw [hxn, hxj, nI_add]
      have win : vp_in (xn + xj) 16 := rf_in ew (by omega) (by decide)
      have tw : (xn + xj).toNatClampNeg = n * mH M + j := by rw [ew, nI_clamp (by omega)]
      have c74 : ∀ a, a = pMi z (aCn s (mFa M 5)) (fun t => pKc (F 32) ((aFr s (mFa M 5) + t) % mFa M 5) (n / (mFa M 1 / mFa M 2) * mH M + j)) → ∀ (xt : Int32), XC xE0 (d + 1) xM_126 (74, [some (.ref 18), some (.ref 51), some (.ref 32), some (.int xn), some (.int sd), some (.float e), some (.int fx), some (.int xj), some (.float a), some (.int xt)], [], (shG X (md2 T), I, L, G)) Q := by
        intro a ha xt
        have V2 := pWr_st hv tw ha
        refine XC.block [10] 60 ?_
        refine And.intro win ?_
        exact ih (j + 1) j1 _ D.st V2 _ hx1 _ _
      have k := c26 fx hfx j jl xj hxj G D c74 (aCn s (mFa M 5)) 0 (Nat.zero_add _) FP.fconst0 rfl fx hfx
      refine XC.block [10, 26] 60 ?_
      exact And.intro (fun w => absurd w hlt) (fun _ => k)
  refine XC.block [10] 60 ?_
  refine cl_earliest_b h5 hm hs h60 (fun v hv => ?_)
  exact c10 v hv (mH M) 0 (Nat.zero_add _) F fO.rf pWr_0.symm _ rfl _ _
end NEC_b
