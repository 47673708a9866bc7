/-! TURN of the reference on paper -/
/-- a row that is turned -/
def pTn (st : Nat) (b : UInt32) (h : Nat) (R : Nat → UInt32) (k : Nat) : UInt32 := if k % 2 = 0 then pTa (pCc (pAn st b (k % h / 2))) (pSs (pAn st b (k % h / 2))) (R k) (R (k + 1)) else pTb (pCc (pAn st b (k % h / 2))) (pSs (pAn st b (k % h / 2))) (R (k - 1)) (R k)
def fHs (h : Nat) : Prop := h = 2 ∨ h = 4 ∨ h = 8 ∨ h = 16
theorem pTn_e {st h n i : Nat} {b : UInt32} {R : Nat → UInt32} (hh : fHs h) (hi : 2 * i < h) : pTn st b h R (n * h + 2 * i) = pTa (pCc (pAn st b i)) (pSs (pAn st b i)) (R (n * h + 2 * i)) (R (n * h + 2 * i + 1)) := by
  have e1 : (n * h + 2 * i) % 2 = 0 := by rcases hh with rfl | rfl | rfl | rfl <;> omega
  have e2 : (n * h + 2 * i) % h / 2 = i := by rw [Nat.mul_add_mod', Nat.mod_eq_of_lt hi]; omega
  unfold pTn
  rw [if_pos e1, e2]
theorem pTn_o {st h n i : Nat} {b : UInt32} {R : Nat → UInt32} (hh : fHs h) (hi : 2 * i < h) : pTn st b h R (n * h + 2 * i + 1) = pTb (pCc (pAn st b i)) (pSs (pAn st b i)) (R (n * h + 2 * i)) (R (n * h + 2 * i + 1)) := by
  have e1 : ¬ (n * h + 2 * i + 1) % 2 = 0 := by rcases hh with rfl | rfl | rfl | rfl <;> omega
  have e2 : (n * h + 2 * i + 1) % h / 2 = i := by
    rw [Nat.add_assoc, Nat.mul_add_mod', Nat.mod_eq_of_lt (by rcases hh with rfl | rfl | rfl | rfl <;> omega)]; omega
  unfold pTn
  rw [if_neg e1, e2, Nat.add_sub_cancel]
theorem pTn_B {st h N : Nat} {b : UInt32} {R : Nat → UInt32} (hb : fBa b) (hs : st < 64) (hh : fHs h) (hN : N % 2 = 0) (hR : ∀ k, k < N → fB 172 (R k)) : ∀ k, k < N → fB 182 (pTn st b h R k) := by
  intro k hk
  have lh : k % h / 2 ≤ 8 := by
    have : k % h < h := Nat.mod_lt _ (by rcases hh with rfl | rfl | rfl | rfl <;> decide)
    rcases hh with rfl | rfl | rfl | rfl <;> omega
  have a := pCc_ok (pAn_ok hb hs lh)
  unfold pTn
  split
  · exact (pTa_ok a.2.2.2.1 a.2.2.2.2.2 (hR k hk) (hR (k + 1) (by omega))).2.2.1
  · exact (pTa_ok a.2.2.2.1 a.2.2.2.2.2 (hR (k - 1) (by omega)) (hR k hk)).2.2.2.2.2
theorem mHs {M : pMd} (h : mGd M) : fHs (mFa M 0 / mFa M 1) ∧ mFa M 1 * (mFa M 0 / mFa M 1) = mFa M 0 ∧ mFa M 2 ≤ mFa M 1 ∧ mFa M 2 * (mFa M 0 / mFa M 1) ≤ mFa M 0 ∧ mFa M 2 * (mFa M 0 / mFa M 1) = mKw M := by
  obtain ⟨h0, h1, ⟨h2, h3⟩, -⟩ := h.1
  have e : mFa M 1 * (mFa M 0 / mFa M 1) = mFa M 0 := by rcases h0 with e0 | e0 <;> rcases h1 with e1 | e1 | e1 <;> rw [e0, e1]
  have l : mFa M 2 ≤ mFa M 1 := Nat.le_of_dvd (by omega) (Nat.dvd_of_mod_eq_zero h3)
  refine ⟨?_, e, l, ?_, Nat.mul_comm _ _⟩
  · unfold fHs
    rcases h0 with e0 | e0 <;> rcases h1 with e1 | e1 | e1 <;> rw [e0, e1] <;> decide
  · exact Nat.le_trans (Nat.mul_le_mul_right _ l) (Nat.le_of_eq e)
section RUB
variable {M : pMd} {I J : Nat → Nat → Int32} {L : Nat → Nat → Int64} {F G : Nat → Nat → UInt32} {d : Nat} {Q : xP}
theorem rf_turn_34 (hM : rfMd M I F) (hm : mGd M) {s N : Nat} (hs : s < 64) (h60 : I 0 60 = nI s) (hN : N * (mFa M 0 / mFa M 1) ≤ 16) (hN2 : N ≤ 8) (hR : ∀ k, k < N * (mFa M 0 / mFa M 1) → fB 172 (F 34 k)) {nn : Int32} (hnn : nn = nI N)
    (hQ : ∀ G, fO 34 F G → (∀ k, k < N * (mFa M 0 / mFa M 1) → G 34 k = pTn s (mBa M) (mFa M 0 / mFa M 1) (F 34) k) → (∀ k, N * (mFa M 0 / mFa M 1) ≤ k → G 34 k = F 34 k) → Q none (sh2, I, L, G)) : XM xE0 d 66 [.ref 0, .ref 34, .int nn] (sh2, I, L, F) Q := by
  obtain ⟨hh, -⟩ := mHs hm
  have h0 := hm.1.1
  have h1 := hm.1.2.1
  have eb : ∀ G, fO 34 F G → G 0 40 = mBa M := fun G D => (D 0 40 (by decide)).trans hM.2.2.2.2.2.2.2
  have hb := hm.2.2.2.1.2
  have e0 : I 17 0 = nI (mFa M 0) := hM.2.1 0 (by decide)
  have e1 : I 17 1 = nI (mFa M 1) := hM.2.1 1 (by decide)
  have ed : I 17 0 / I 17 1 = nI (mFa M 0 / mFa M 1) := by rw [e0, e1]; exact pk_div (by omega) (by omega) (by omega)
  generalize mFa M 0 / mFa M 1 = h at hh hN hR hQ ed
  have h16 : h ≤ 16 := by rcases hh with rfl | rfl | rfl | rfl <;> omega
  have h2 : 2 ≤ h := by rcases hh with rfl | rfl | rfl | rfl <;> omega
  have hev : 2 * (h / 2) = h := by rcases hh with rfl | rfl | rfl | rfl <;> rfl
  have st2 : ∀ n i, 2 * i < h → n < N → n * h + 2 * i + 1 < N * h := by
    intro n i hi hn
    have e : (n + 1) * h ≤ N * h := Nat.mul_le_mul_right _ hn
    rw [Nat.succ_mul] at e
    omega
  -- one pair
  have c106 : ∀ (hx : Int32), hx = nI h → ∀ n i, n < N → 2 * i < h → (∀ G, fO 34 F G → (∀ k, k < n * h + 2 * (i + 1) → G 34 k = pTn s (mBa M) h (F 34) k) → (∀ k, n * h + 2 * (i + 1) ≤ k → G 34 k = F 34 k) → ∀ (xn xi : Int32), xn = nI n → xi = nI (i + 1) → ∀ y6 y7 y8 y9 y10 y11, XC xE0 d xM_66 (26, [some (.ref 0), some (.ref 34), some (.int nn), some (.int hx), some (.int xn), some (.int xi), y6, y7, y8, y9, y10, y11], [], (sh2, I, L, G)) Q) → ∀ G, fO 34 F G → (∀ k, k < n * h + 2 * i → G 34 k = pTn s (mBa M) h (F 34) k) → (∀ k, n * h + 2 * i ≤ k → G 34 k = F 34 k) → ∀ (xn xi : Int32), xn = nI n → xi = nI i → ∀ by_ a c s', c = pCc (pAn s (mBa M) i) → s' = pSs (pAn s (mBa M) i) → ∀ y10 y11, XC xE0 d xM_66 (106, [some (.ref 0), some (.ref 34), some (.int nn), some (.int hx), some (.int xn), some (.int xi), some (.float by_), some (.float a), some (.float c), some (.float s'), y10, y11], [], (sh2, I, L, G)) Q := by
    intro hx ehx n i hn hi next G D hv hw xn xi exn exi by_ a c s' hc hs' y10 y11
    have lt := st2 n i hi hn
    have k1 : xn * hx + 2 * xi = nI (n * h + 2 * i) := by rw [exn, ehx, exi, show (2 : Int32) = nI 2 from rfl, nI_mul, nI_mul, nI_add]
    have k2 : xn * hx + 2 * xi + 1 = nI (n * h + 2 * i + 1) := by rw [k1, nI_1]
    have v1 : vp_in (xn * hx + 2 * xi) 16 := rf_in k1 (by omega) (by decide)
    have v2 : vp_in (xn * hx + 2 * xi + 1) 16 := rf_in k2 (by omega) (by decide)
    have t1 : (xn * hx + 2 * xi).toNatClampNeg = n * h + 2 * i := by rw [k1, nI_clamp (by omega)]
    have t2 : (xn * hx + 2 * xi + 1).toNatClampNeg = n * h + 2 * i + 1 := by rw [k2, nI_clamp (by omega)]
    have p1 : G 34 (xn * hx + 2 * xi).toNatClampNeg = F 34 (n * h + 2 * i) := by rw [t1]; exact hw _ (Nat.le_refl _)
    have p2 : G 34 (xn * hx + 2 * xi + 1).toNatClampNeg = F 34 (n * h + 2 * i + 1) := by rw [t2]; exact hw _ (by omega)
    have a := pCc_ok (pAn_ok hb hs (i := i) (by omega))
    have tb := pTa_ok a.2.2.2.1 a.2.2.2.2.2 (hR (n * h + 2 * i) (by omega)) (hR (n * h + 2 * i + 1) lt)
    subst hc
    subst hs'
    have c134 : ∀ p r, p = F 34 (n * h + 2 * i) → r = F 34 (n * h + 2 * i + 1) → ∀ a, XC xE0 d xM_66 (134, [some (.ref 0), some (.ref 34), some (.int nn), some (.int hx), some (.int xn), some (.int xi), some (.float by_), some (.float a), some (.float (pCc (pAn s (mBa M) i))), some (.float (pSs (pAn s (mBa M) i))), some (.float p), some (.float r)], [], (sh2, I, L, G)) Q := by
      intro p r hp hr a
      subst hp
      subst hr
      have f1 : ∀ k, k < n * h + 2 * (i + 1) → x2 (x2 G 34 (xn * hx + 2 * xi).toNatClampNeg (pTa (pCc (pAn s (mBa M) i)) (pSs (pAn s (mBa M) i)) (F 34 (n * h + 2 * i)) (F 34 (n * h + 2 * i + 1)))) 34 (xn * hx + 2 * xi + 1).toNatClampNeg (pTb (pCc (pAn s (mBa M) i)) (pSs (pAn s (mBa M) i)) (F 34 (n * h + 2 * i)) (F 34 (n * h + 2 * i + 1))) 34 k = pTn s (mBa M) h (F 34) k := by
        intro k hk
        rw [t1, t2]
        rcases Nat.lt_or_ge k (n * h + 2 * i) with y | y
        · rw [x2_o _ _ (by omega), x2_o _ _ (by omega)]; exact hv k y
        · rcases Nat.lt_or_ge k (n * h + 2 * i + 1) with y' | y'
          · have : k = n * h + 2 * i := by omega
            subst this
            rw [x2_o _ _ (by omega), x2_same, pTn_e hh hi]
          · have : k = n * h + 2 * i + 1 := by omega
            subst this
            rw [x2_same, pTn_o hh hi]
      have f2 : ∀ k, n * h + 2 * (i + 1) ≤ k → x2 (x2 G 34 (xn * hx + 2 * xi).toNatClampNeg (pTa (pCc (pAn s (mBa M) i)) (pSs (pAn s (mBa M) i)) (F 34 (n * h + 2 * i)) (F 34 (n * h + 2 * i + 1)))) 34 (xn * hx + 2 * xi + 1).toNatClampNeg (pTb (pCc (pAn s (mBa M) i)) (pSs (pAn s (mBa M) i)) (F 34 (n * h + 2 * i)) (F 34 (n * h + 2 * i + 1))) 34 k = F 34 k := by
        intro k hk
        rw [t1, t2, x2_o _ _ (by omega), x2_o _ _ (by omega)]
        exact hw k (by omega)
      have ex1 : xi + 1 = nI (i + 1) := by rw [exi, nI_1]
      refine XC.block [26] 60 ?_
      refine And.intro tb.1.n32 ?_
      refine And.intro tb.2.1.n32 ?_
      refine And.intro (tb.2.2.1.n32 (by decide)) ?_
      refine And.intro v1 ?_
      refine And.intro tb.2.2.2.1.n32 ?_
      refine And.intro tb.2.2.2.2.1.n32 ?_
      refine And.intro (tb.2.2.2.2.2.n32 (by decide)) ?_
      refine And.intro v2 ?_
      exact next _ D.st.st f1 f2 _ _ exn ex1 _ _ _ _ _ _
    refine XC.block [134] 60 ?_
    refine And.intro v1 ?_
    refine And.intro v2 ?_
    exact c134 _ _ p1 p2 _
  -- the angle
  have c64 : ∀ (hx : Int32), hx = nI h → ∀ n i, n < N → 2 * i < h → (∀ G, fO 34 F G → (∀ k, k < n * h + 2 * (i + 1) → G 34 k = pTn s (mBa M) h (F 34) k) → (∀ k, n * h + 2 * (i + 1) ≤ k → G 34 k = F 34 k) → ∀ (xn xi : Int32), xn = nI n → xi = nI (i + 1) → ∀ y6 y7 y8 y9 y10 y11, XC xE0 d xM_66 (26, [some (.ref 0), some (.ref 34), some (.int nn), some (.int hx), some (.int xn), some (.int xi), y6, y7, y8, y9, y10, y11], [], (sh2, I, L, G)) Q) → ∀ G, fO 34 F G → (∀ k, k < n * h + 2 * i → G 34 k = pTn s (mBa M) h (F 34) k) → (∀ k, n * h + 2 * i ≤ k → G 34 k = F 34 k) → ∀ (xn xi : Int32), xn = nI n → xi = nI i → ∀ by_, by_ = pBy (mBa M) i → ∀ (x7 : Int32) y8 y9 y10 y11, XC xE0 d xM_66 (64, [some (.ref 0), some (.ref 34), some (.int nn), some (.int hx), some (.int xn), some (.int xi), some (.float by_), some (.int x7), y8, y9, y10, y11], [], (sh2, I, L, G)) Q := by
    intro hx ehx n i hn hi next G D hv hw xn xi exn exi by_ hby x7 y8 y9 y10 y11
    have an := pAn_ok hb hs (i := i) (by omega)
    have a := pCc_ok an
    have ea : FP.fdiv (FP.i2f (I 0 60)) by_ = pAn s (mBa M) i := by rw [h60, hby]; rfl
    have ga : vf_n32 (FP.fdiv (FP.i2f (I 0 60)) by_) := by rw [ea]; exact an.n32 (by decide)
    have c74 : ∀ w, w = pAn s (mBa M) i → XC xE0 d xM_66 (74, [some (.ref 0), some (.ref 34), some (.int nn), some (.int hx), some (.int xn), some (.int xi), some (.float by_), some (.float w), y8, y9, y10, y11], [], (sh2, I, L, G)) Q := by
      intro w hw'
      subst hw'
      refine XC.block [106] 60 ?_
      refine And.intro a.1.n32 ?_
      refine And.intro a.2.1.n32 ?_
      refine And.intro a.1.n32 ?_
      refine And.intro a.2.2.1.n32 ?_
      refine And.intro (a.2.2.2.1.n32 (by decide)) ?_
      refine And.intro a.2.2.2.2.1.n32 ?_
      refine And.intro a.1.n32 ?_
      refine And.intro a.2.2.1.n32 ?_
      refine And.intro (a.2.2.2.2.2.n32 (by decide)) ?_
      exact c106 hx ehx n i hn hi next G D hv hw _ _ exn exi _ _ _ _ rfl rfl _ _
    refine XC.block [74] 60 ?_
    refine And.intro ga ?_
    exact c74 _ ea
  -- the base's power
  have c42 : ∀ (hx : Int32), hx = nI h → ∀ n i, n < N → 2 * i < h → (∀ G, fO 34 F G → (∀ k, k < n * h + 2 * (i + 1) → G 34 k = pTn s (mBa M) h (F 34) k) → (∀ k, n * h + 2 * (i + 1) ≤ k → G 34 k = F 34 k) → ∀ (xn xi : Int32), xn = nI n → xi = nI (i + 1) → ∀ y6 y7 y8 y9 y10 y11, XC xE0 d xM_66 (26, [some (.ref 0), some (.ref 34), some (.int nn), some (.int hx), some (.int xn), some (.int xi), y6, y7, y8, y9, y10, y11], [], (sh2, I, L, G)) Q) → ∀ G, fO 34 F G → (∀ k, k < n * h + 2 * i → G 34 k = pTn s (mBa M) h (F 34) k) → (∀ k, n * h + 2 * i ≤ k → G 34 k = F 34 k) → ∀ (xn xi : Int32), xn = nI n → xi = nI i → ∀ (u j : Nat), j + u = i → ∀ by_, by_ = pBy (mBa M) j → ∀ x7, x7 = nI j → ∀ y8 y9 y10 y11, XC xE0 d xM_66 (42, [some (.ref 0), some (.ref 34), some (.int nn), some (.int hx), some (.int xn), some (.int xi), some (.float by_), some (.int x7), y8, y9, y10, y11], [], (sh2, I, L, G)) Q := by
    intro hx ehx n i hn hi next G D hv hw xn xi exn exi u
    induction u with
    | zero =>
      intro j hj by_ hby x7 hx7 y8 y9 y10 y11
      have : j = i := by omega
      subst this
      refine XC.block [42, 64] 60 ?_
      exact And.intro (fun _ => c64 hx ehx n j hn hi next G D hv hw _ _ exn exi _ hby _ _ _ _ _) (fun z => absurd (show xi ≤ x7 by rw [exi, hx7]; exact nI_le (by omega) (by omega)) z)
    | succ u ih =>
      intro j hj by_ hby x7 hx7 y8 y9 y10 y11
      have hlt : ¬ xi ≤ x7 := by rw [exi, hx7]; exact nI_ge (by omega) (by omega)
      have em : FP.fmul by_ (G 0 40) = pBy (mBa M) (j + 1) := by rw [eb G D, hby]; rfl
      have gm : vf_n32 (FP.fmul by_ (G 0 40)) := by rw [em]; exact (pBy_ok hb (j + 1) (by omega)).1.n32 (by omega)
      have hx1 : x7 + 1 = nI (j + 1) := by rw [hx7, nI_1]
      have j1 : j + 1 + u = i := by omega
      refine XC.block [42, 64] 60 ?_
      refine And.intro (fun z => absurd z hlt) (fun _ => ?_)
      exact And.intro gm (ih (j + 1) j1 _ em _ hx1 _ _ _ _)
  have c26 : ∀ (hx : Int32), hx = nI h → ∀ n, n < N → (∀ G, fO 34 F G → (∀ k, k < (n + 1) * h → G 34 k = pTn s (mBa M) h (F 34) k) → (∀ k, (n + 1) * h ≤ k → G 34 k = F 34 k) → ∀ (xn : Int32), xn = nI (n + 1) → ∀ y5 y6 y7 y8 y9 y10 y11, XC xE0 d xM_66 (17, [some (.ref 0), some (.ref 34), some (.int nn), some (.int hx), some (.int xn), y5, y6, y7, y8, y9, y10, y11], [], (sh2, I, L, G)) Q) → ∀ (u i : Nat), i + u = h / 2 → ∀ G, fO 34 F G → (∀ k, k < n * h + 2 * i → G 34 k = pTn s (mBa M) h (F 34) k) → (∀ k, n * h + 2 * i ≤ k → G 34 k = F 34 k) → ∀ (xn xi : Int32), xn = nI n → xi = nI i → ∀ y6 y7 y8 y9 y10 y11, XC xE0 d xM_66 (26, [some (.ref 0), some (.ref 34), some (.int nn), some (.int hx), some (.int xn), some (.int xi), y6, y7, y8, y9, y10, y11], [], (sh2, I, L, G)) Q := by
    intro hx ehx n hn next u
    have eh2 : hx / 2 = nI (h / 2) := by rw [ehx]; exact pk_div (d := 2) (by omega) (by omega) (by omega)
    induction u with
    | zero =>
      intro i hi G D hv hw xn xi exn exi y6 y7 y8 y9 y10 y11
      have e : n * h + 2 * i = (n + 1) * h := by rw [Nat.succ_mul n h]; omega
      rw [e] at hv hw
      have ex1 : xn + 1 = nI (n + 1) := by rw [exn, nI_1]
      refine XC.block [17, 26] 60 ?_
      refine And.intro (show ¬ (2 : Int32) = 0 by decide) ?_
      exact And.intro (fun _ => next G D hv hw _ ex1 _ _ _ _ _ _ _) (fun z => absurd (show hx / 2 ≤ xi by rw [eh2, exi]; exact nI_le (by omega) (by omega)) z)
    | succ u ih =>
      intro i hi G D hv hw xn xi exn exi y6 y7 y8 y9 y10 y11
      have hlt : ¬ hx / 2 ≤ xi := by rw [eh2, exi]; exact nI_ge (by omega) (by omega)
      have i1 : i + 1 + u = h / 2 := by omega
      have i2 : 2 * i < h := by omega
      refine XC.block [26, 42] 60 ?_
      refine And.intro (show ¬ (2 : Int32) = 0 by decide) ?_
      refine And.intro (fun z => absurd z hlt) (fun _ => ?_)
      exact c42 hx ehx n i hn i2 (fun G' D' hv' hw' xn' xi' e1' e2' y6 y7 y8 y9 y10 y11 => ih (i + 1) i1 G' D' hv' hw' xn' xi' e1' e2' y6 y7 y8 y9 y10 y11) G D hv hw _ _ exn exi i 0 (Nat.zero_add _) _ rfl _ rfl _ _ _ _
  have c17 : ∀ (hx : Int32), hx = nI h → ∀ (u n : Nat), n + u = N → ∀ G, fO 34 F G → (∀ k, k < n * h → G 34 k = pTn s (mBa M) h (F 34) k) → (∀ k, n * h ≤ k → G 34 k = F 34 k) → ∀ (xn : Int32), xn = nI n → ∀ y5 y6 y7 y8 y9 y10 y11, XC xE0 d xM_66 (17, [some (.ref 0), some (.ref 34), some (.int nn), some (.int hx), some (.int xn), y5, y6, y7, y8, y9, y10, y11], [], (sh2, I, L, G)) Q := by
    intro hx ehx u
    induction u with
    | zero =>
      intro n hn G D hv hw xn exn y5 y6 y7 y8 y9 y10 y11
      have : n = N := by omega
      subst this
      refine XC.block [17, 26] 60 ?_
      exact And.intro (fun _ => ⟨trivial, hQ G D hv hw⟩) (fun z => absurd (show nn ≤ xn by rw [hnn, exn]; exact nI_le (by omega) (by omega)) z)
    | succ u ih =>
      intro n hn G D hv hw xn exn y5 y6 y7 y8 y9 y10 y11
      have hlt : ¬ nn ≤ xn := by rw [hnn, exn]; exact nI_ge (by omega) (by omega)
      have n1 : n + 1 + u = N := by omega
      have n2 : n < N := by omega
      refine XC.block [17, 26] 60 ?_
      refine And.intro (fun z => absurd z hlt) (fun _ => ?_)
      exact c26 hx ehx n n2 (fun G' D' hv' hw' xn' e1' y5 y6 y7 y8 y9 y10 y11 => ih (n + 1) n1 G' D' hv' hw' xn' e1' y5 y6 y7 y8 y9 y10 y11) (h / 2) 0 (Nat.zero_add _) G D hv hw _ _ exn rfl _ _ _ _ _ _
  have v0 : vp_in (0 : Int32) 12 := rf_in (j := 0) rfl (by decide) (by decide)
  have v1 : vp_in (1 : Int32) 12 := rf_in (j := 1) rfl (by decide) (by decide)
  have nz : ¬ I 17 1 = 0 := by rw [e1, show (0 : Int32) = nI 0 from rfl, nI_eq (by omega) (by omega)]; omega
  refine XC.block [17] 60 ?_
  refine And.intro v0 ?_
  refine And.intro v1 ?_
  refine And.intro nz ?_
  exact c17 _ ed N 0 (Nat.zero_add _) F fO.rf (fun k hk => absurd hk (by rw [Nat.zero_mul]; exact Nat.not_lt_zero _)) (fun k _ => rfl) _ rfl _ _ _ _ _ _ _
theorem rf_turn_35 (hM : rfMd M I F) (hm : mGd M) {s N : Nat} (hs : s < 64) (h60 : I 0 60 = nI s) (hN : N * (mFa M 0 / mFa M 1) ≤ 16) (hN2 : N ≤ 8) (hR : ∀ k, k < N * (mFa M 0 / mFa M 1) → fB 172 (F 35 k)) {nn : Int32} (hnn : nn = nI N)
    (hQ : ∀ G, fO 35 F G → (∀ k, k < N * (mFa M 0 / mFa M 1) → G 35 k = pTn s (mBa M) (mFa M 0 / mFa M 1) (F 35) k) → (∀ k, N * (mFa M 0 / mFa M 1) ≤ k → G 35 k = F 35 k) → Q none (sh2, I, L, G)) : XM xE0 d 66 [.ref 0, .ref 35, .int nn] (sh2, I, L, F) Q := by
  obtain ⟨hh, -⟩ := mHs hm
  have h0 := hm.1.1
  have h1 := hm.1.2.1
  have eb : ∀ G, fO 35 F G → G 0 40 = mBa M := fun G D => (D 0 40 (by decide)).trans hM.2.2.2.2.2.2.2
  have hb := hm.2.2.2.1.2
  have e0 : I 17 0 = nI (mFa M 0) := hM.2.1 0 (by decide)
  have e1 : I 17 1 = nI (mFa M 1) := hM.2.1 1 (by decide)
  have ed : I 17 0 / I 17 1 = nI (mFa M 0 / mFa M 1) := by rw [e0, e1]; exact pk_div (by omega) (by omega) (by omega)
  generalize mFa M 0 / mFa M 1 = h at hh hN hR hQ ed
  have h16 : h ≤ 16 := by rcases hh with rfl | rfl | rfl | rfl <;> omega
  have h2 : 2 ≤ h := by rcases hh with rfl | rfl | rfl | rfl <;> omega
  have hev : 2 * (h / 2) = h := by rcases hh with rfl | rfl | rfl | rfl <;> rfl
  have st2 : ∀ n i, 2 * i < h → n < N → n * h + 2 * i + 1 < N * h := by
    intro n i hi hn
    have e : (n + 1) * h ≤ N * h := Nat.mul_le_mul_right _ hn
    rw [Nat.succ_mul] at e
    omega
  -- one pair
  have c106 : ∀ (hx : Int32), hx = nI h → ∀ n i, n < N → 2 * i < h → (∀ G, fO 35 F G → (∀ k, k < n * h + 2 * (i + 1) → G 35 k = pTn s (mBa M) h (F 35) k) → (∀ k, n * h + 2 * (i + 1) ≤ k → G 35 k = F 35 k) → ∀ (xn xi : Int32), xn = nI n → xi = nI (i + 1) → ∀ y6 y7 y8 y9 y10 y11, XC xE0 d xM_66 (26, [some (.ref 0), some (.ref 35), some (.int nn), some (.int hx), some (.int xn), some (.int xi), y6, y7, y8, y9, y10, y11], [], (sh2, I, L, G)) Q) → ∀ G, fO 35 F G → (∀ k, k < n * h + 2 * i → G 35 k = pTn s (mBa M) h (F 35) k) → (∀ k, n * h + 2 * i ≤ k → G 35 k = F 35 k) → ∀ (xn xi : Int32), xn = nI n → xi = nI i → ∀ by_ a c s', c = pCc (pAn s (mBa M) i) → s' = pSs (pAn s (mBa M) i) → ∀ y10 y11, XC xE0 d xM_66 (106, [some (.ref 0), some (.ref 35), some (.int nn), some (.int hx), some (.int xn), some (.int xi), some (.float by_), some (.float a), some (.float c), some (.float s'), y10, y11], [], (sh2, I, L, G)) Q := by
    intro hx ehx n i hn hi next G D hv hw xn xi exn exi by_ a c s' hc hs' y10 y11
    have lt := st2 n i hi hn
    have k1 : xn * hx + 2 * xi = nI (n * h + 2 * i) := by rw [exn, ehx, exi, show (2 : Int32) = nI 2 from rfl, nI_mul, nI_mul, nI_add]
    have k2 : xn * hx + 2 * xi + 1 = nI (n * h + 2 * i + 1) := by rw [k1, nI_1]
    have v1 : vp_in (xn * hx + 2 * xi) 16 := rf_in k1 (by omega) (by decide)
    have v2 : vp_in (xn * hx + 2 * xi + 1) 16 := rf_in k2 (by omega) (by decide)
    have t1 : (xn * hx + 2 * xi).toNatClampNeg = n * h + 2 * i := by rw [k1, nI_clamp (by omega)]
    have t2 : (xn * hx + 2 * xi + 1).toNatClampNeg = n * h + 2 * i + 1 := by rw [k2, nI_clamp (by omega)]
    have p1 : G 35 (xn * hx + 2 * xi).toNatClampNeg = F 35 (n * h + 2 * i) := by rw [t1]; exact hw _ (Nat.le_refl _)
    have p2 : G 35 (xn * hx + 2 * xi + 1).toNatClampNeg = F 35 (n * h + 2 * i + 1) := by rw [t2]; exact hw _ (by omega)
    have a := pCc_ok (pAn_ok hb hs (i := i) (by omega))
    have tb := pTa_ok a.2.2.2.1 a.2.2.2.2.2 (hR (n * h + 2 * i) (by omega)) (hR (n * h + 2 * i + 1) lt)
    subst hc
    subst hs'
    have c134 : ∀ p r, p = F 35 (n * h + 2 * i) → r = F 35 (n * h + 2 * i + 1) → ∀ a, XC xE0 d xM_66 (134, [some (.ref 0), some (.ref 35), some (.int nn), some (.int hx), some (.int xn), some (.int xi), some (.float by_), some (.float a), some (.float (pCc (pAn s (mBa M) i))), some (.float (pSs (pAn s (mBa M) i))), some (.float p), some (.float r)], [], (sh2, I, L, G)) Q := by
      intro p r hp hr a
      subst hp
      subst hr
      have f1 : ∀ k, k < n * h + 2 * (i + 1) → x2 (x2 G 35 (xn * hx + 2 * xi).toNatClampNeg (pTa (pCc (pAn s (mBa M) i)) (pSs (pAn s (mBa M) i)) (F 35 (n * h + 2 * i)) (F 35 (n * h + 2 * i + 1)))) 35 (xn * hx + 2 * xi + 1).toNatClampNeg (pTb (pCc (pAn s (mBa M) i)) (pSs (pAn s (mBa M) i)) (F 35 (n * h + 2 * i)) (F 35 (n * h + 2 * i + 1))) 35 k = pTn s (mBa M) h (F 35) k := by
        intro k hk
        rw [t1, t2]
        rcases Nat.lt_or_ge k (n * h + 2 * i) with y | y
        · rw [x2_o _ _ (by omega), x2_o _ _ (by omega)]; exact hv k y
        · rcases Nat.lt_or_ge k (n * h + 2 * i + 1) with y' | y'
          · have : k = n * h + 2 * i := by omega
            subst this
            rw [x2_o _ _ (by omega), x2_same, pTn_e hh hi]
          · have : k = n * h + 2 * i + 1 := by omega
            subst this
            rw [x2_same, pTn_o hh hi]
      have f2 : ∀ k, n * h + 2 * (i + 1) ≤ k → x2 (x2 G 35 (xn * hx + 2 * xi).toNatClampNeg (pTa (pCc (pAn s (mBa M) i)) (pSs (pAn s (mBa M) i)) (F 35 (n * h + 2 * i)) (F 35 (n * h + 2 * i + 1)))) 35 (xn * hx + 2 * xi + 1).toNatClampNeg (pTb (pCc (pAn s (mBa M) i)) (pSs (pAn s (mBa M) i)) (F 35 (n * h + 2 * i)) (F 35 (n * h + 2 * i + 1))) 35 k = F 35 k := by
        intro k hk
        rw [t1, t2, x2_o _ _ (by omega), x2_o _ _ (by omega)]
        exact hw k (by omega)
      have ex1 : xi + 1 = nI (i + 1) := by rw [exi, nI_1]
      refine XC.block [26] 60 ?_
      refine And.intro tb.1.n32 ?_
      refine And.intro tb.2.1.n32 ?_
      refine And.intro (tb.2.2.1.n32 (by decide)) ?_
      refine And.intro v1 ?_
      refine And.intro tb.2.2.2.1.n32 ?_
      refine And.intro tb.2.2.2.2.1.n32 ?_
      refine And.intro (tb.2.2.2.2.2.n32 (by decide)) ?_
      refine And.intro v2 ?_
      exact next _ D.st.st f1 f2 _ _ exn ex1 _ _ _ _ _ _
    refine XC.block [134] 60 ?_
    refine And.intro v1 ?_
    refine And.intro v2 ?_
    exact c134 _ _ p1 p2 _
  -- the angle
  have c64 : ∀ (hx : Int32), hx = nI h → ∀ n i, n < N → 2 * i < h → (∀ G, fO 35 F G → (∀ k, k < n * h + 2 * (i + 1) → G 35 k = pTn s (mBa M) h (F 35) k) → (∀ k, n * h + 2 * (i + 1) ≤ k → G 35 k = F 35 k) → ∀ (xn xi : Int32), xn = nI n → xi = nI (i + 1) → ∀ y6 y7 y8 y9 y10 y11, XC xE0 d xM_66 (26, [some (.ref 0), some (.ref 35), some (.int nn), some (.int hx), some (.int xn), some (.int xi), y6, y7, y8, y9, y10, y11], [], (sh2, I, L, G)) Q) → ∀ G, fO 35 F G → (∀ k, k < n * h + 2 * i → G 35 k = pTn s (mBa M) h (F 35) k) → (∀ k, n * h + 2 * i ≤ k → G 35 k = F 35 k) → ∀ (xn xi : Int32), xn = nI n → xi = nI i → ∀ by_, by_ = pBy (mBa M) i → ∀ (x7 : Int32) y8 y9 y10 y11, XC xE0 d xM_66 (64, [some (.ref 0), some (.ref 35), some (.int nn), some (.int hx), some (.int xn), some (.int xi), some (.float by_), some (.int x7), y8, y9, y10, y11], [], (sh2, I, L, G)) Q := by
    intro hx ehx n i hn hi next G D hv hw xn xi exn exi by_ hby x7 y8 y9 y10 y11
    have an := pAn_ok hb hs (i := i) (by omega)
    have a := pCc_ok an
    have ea : FP.fdiv (FP.i2f (I 0 60)) by_ = pAn s (mBa M) i := by rw [h60, hby]; rfl
    have ga : vf_n32 (FP.fdiv (FP.i2f (I 0 60)) by_) := by rw [ea]; exact an.n32 (by decide)
    have c74 : ∀ w, w = pAn s (mBa M) i → XC xE0 d xM_66 (74, [some (.ref 0), some (.ref 35), some (.int nn), some (.int hx), some (.int xn), some (.int xi), some (.float by_), some (.float w), y8, y9, y10, y11], [], (sh2, I, L, G)) Q := by
      intro w hw'
      subst hw'
      refine XC.block [106] 60 ?_
      refine And.intro a.1.n32 ?_
      refine And.intro a.2.1.n32 ?_
      refine And.intro a.1.n32 ?_
      refine And.intro a.2.2.1.n32 ?_
      refine And.intro (a.2.2.2.1.n32 (by decide)) ?_
      refine And.intro a.2.2.2.2.1.n32 ?_
      refine And.intro a.1.n32 ?_
      refine And.intro a.2.2.1.n32 ?_
      refine And.intro (a.2.2.2.2.2.n32 (by decide)) ?_
      exact c106 hx ehx n i hn hi next G D hv hw _ _ exn exi _ _ _ _ rfl rfl _ _
    refine XC.block [74] 60 ?_
    refine And.intro ga ?_
    exact c74 _ ea
  -- the base's power
  have c42 : ∀ (hx : Int32), hx = nI h → ∀ n i, n < N → 2 * i < h → (∀ G, fO 35 F G → (∀ k, k < n * h + 2 * (i + 1) → G 35 k = pTn s (mBa M) h (F 35) k) → (∀ k, n * h + 2 * (i + 1) ≤ k → G 35 k = F 35 k) → ∀ (xn xi : Int32), xn = nI n → xi = nI (i + 1) → ∀ y6 y7 y8 y9 y10 y11, XC xE0 d xM_66 (26, [some (.ref 0), some (.ref 35), some (.int nn), some (.int hx), some (.int xn), some (.int xi), y6, y7, y8, y9, y10, y11], [], (sh2, I, L, G)) Q) → ∀ G, fO 35 F G → (∀ k, k < n * h + 2 * i → G 35 k = pTn s (mBa M) h (F 35) k) → (∀ k, n * h + 2 * i ≤ k → G 35 k = F 35 k) → ∀ (xn xi : Int32), xn = nI n → xi = nI i → ∀ (u j : Nat), j + u = i → ∀ by_, by_ = pBy (mBa M) j → ∀ x7, x7 = nI j → ∀ y8 y9 y10 y11, XC xE0 d xM_66 (42, [some (.ref 0), some (.ref 35), some (.int nn), some (.int hx), some (.int xn), some (.int xi), some (.float by_), some (.int x7), y8, y9, y10, y11], [], (sh2, I, L, G)) Q := by
    intro hx ehx n i hn hi next G D hv hw xn xi exn exi u
    induction u with
    | zero =>
      intro j hj by_ hby x7 hx7 y8 y9 y10 y11
      have : j = i := by omega
      subst this
      refine XC.block [42, 64] 60 ?_
      exact And.intro (fun _ => c64 hx ehx n j hn hi next G D hv hw _ _ exn exi _ hby _ _ _ _ _) (fun z => absurd (show xi ≤ x7 by rw [exi, hx7]; exact nI_le (by omega) (by omega)) z)
    | succ u ih =>
      intro j hj by_ hby x7 hx7 y8 y9 y10 y11
      have hlt : ¬ xi ≤ x7 := by rw [exi, hx7]; exact nI_ge (by omega) (by omega)
      have em : FP.fmul by_ (G 0 40) = pBy (mBa M) (j + 1) := by rw [eb G D, hby]; rfl
      have gm : vf_n32 (FP.fmul by_ (G 0 40)) := by rw [em]; exact (pBy_ok hb (j + 1) (by omega)).1.n32 (by omega)
      have hx1 : x7 + 1 = nI (j + 1) := by rw [hx7, nI_1]
      have j1 : j + 1 + u = i := by omega
      refine XC.block [42, 64] 60 ?_
      refine And.intro (fun z => absurd z hlt) (fun _ => ?_)
      exact And.intro gm (ih (j + 1) j1 _ em _ hx1 _ _ _ _)
  have c26 : ∀ (hx : Int32), hx = nI h → ∀ n, n < N → (∀ G, fO 35 F G → (∀ k, k < (n + 1) * h → G 35 k = pTn s (mBa M) h (F 35) k) → (∀ k, (n + 1) * h ≤ k → G 35 k = F 35 k) → ∀ (xn : Int32), xn = nI (n + 1) → ∀ y5 y6 y7 y8 y9 y10 y11, XC xE0 d xM_66 (17, [some (.ref 0), some (.ref 35), some (.int nn), some (.int hx), some (.int xn), y5, y6, y7, y8, y9, y10, y11], [], (sh2, I, L, G)) Q) → ∀ (u i : Nat), i + u = h / 2 → ∀ G, fO 35 F G → (∀ k, k < n * h + 2 * i → G 35 k = pTn s (mBa M) h (F 35) k) → (∀ k, n * h + 2 * i ≤ k → G 35 k = F 35 k) → ∀ (xn xi : Int32), xn = nI n → xi = nI i → ∀ y6 y7 y8 y9 y10 y11, XC xE0 d xM_66 (26, [some (.ref 0), some (.ref 35), some (.int nn), some (.int hx), some (.int xn), some (.int xi), y6, y7, y8, y9, y10, y11], [], (sh2, I, L, G)) Q := by
    intro hx ehx n hn next u
    have eh2 : hx / 2 = nI (h / 2) := by rw [ehx]; exact pk_div (d := 2) (by omega) (by omega) (by omega)
    induction u with
    | zero =>
      intro i hi G D hv hw xn xi exn exi y6 y7 y8 y9 y10 y11
      have e : n * h + 2 * i = (n + 1) * h := by rw [Nat.succ_mul n h]; omega
      rw [e] at hv hw
      have ex1 : xn + 1 = nI (n + 1) := by rw [exn, nI_1]
      refine XC.block [17, 26] 60 ?_
      refine And.intro (show ¬ (2 : Int32) = 0 by decide) ?_
      exact And.intro (fun _ => next G D hv hw _ ex1 _ _ _ _ _ _ _) (fun z => absurd (show hx / 2 ≤ xi by rw [eh2, exi]; exact nI_le (by omega) (by omega)) z)
    | succ u ih =>
      intro i hi G D hv hw xn xi exn exi y6 y7 y8 y9 y10 y11
      have hlt : ¬ hx / 2 ≤ xi := by rw [eh2, exi]; exact nI_ge (by omega) (by omega)
      have i1 : i + 1 + u = h / 2 := by omega
      have i2 : 2 * i < h := by omega
      refine XC.block [26, 42] 60 ?_
      refine And.intro (show ¬ (2 : Int32) = 0 by decide) ?_
      refine And.intro (fun z => absurd z hlt) (fun _ => ?_)
      exact c42 hx ehx n i hn i2 (fun G' D' hv' hw' xn' xi' e1' e2' y6 y7 y8 y9 y10 y11 => ih (i + 1) i1 G' D' hv' hw' xn' xi' e1' e2' y6 y7 y8 y9 y10 y11) G D hv hw _ _ exn exi i 0 (Nat.zero_add _) _ rfl _ rfl _ _ _ _
  have c17 : ∀ (hx : Int32), hx = nI h → ∀ (u n : Nat), n + u = N → ∀ G, fO 35 F G → (∀ k, k < n * h → G 35 k = pTn s (mBa M) h (F 35) k) → (∀ k, n * h ≤ k → G 35 k = F 35 k) → ∀ (xn : Int32), xn = nI n → ∀ y5 y6 y7 y8 y9 y10 y11, XC xE0 d xM_66 (17, [some (.ref 0), some (.ref 35), some (.int nn), some (.int hx), some (.int xn), y5, y6, y7, y8, y9, y10, y11], [], (sh2, I, L, G)) Q := by
    intro hx ehx u
    induction u with
    | zero =>
      intro n hn G D hv hw xn exn y5 y6 y7 y8 y9 y10 y11
      have : n = N := by omega
      subst this
      refine XC.block [17, 26] 60 ?_
      exact And.intro (fun _ => ⟨trivial, hQ G D hv hw⟩) (fun z => absurd (show nn ≤ xn by rw [hnn, exn]; exact nI_le (by omega) (by omega)) z)
    | succ u ih =>
      intro n hn G D hv hw xn exn y5 y6 y7 y8 y9 y10 y11
      have hlt : ¬ nn ≤ xn := by rw [hnn, exn]; exact nI_ge (by omega) (by omega)
      have n1 : n + 1 + u = N := by omega
      have n2 : n < N := by omega
      refine XC.block [17, 26] 60 ?_
      refine And.intro (fun z => absurd z hlt) (fun _ => ?_)
      exact c26 hx ehx n n2 (fun G' D' hv' hw' xn' e1' y5 y6 y7 y8 y9 y10 y11 => ih (n + 1) n1 G' D' hv' hw' xn' e1' y5 y6 y7 y8 y9 y10 y11) (h / 2) 0 (Nat.zero_add _) G D hv hw _ _ exn rfl _ _ _ _ _ _
  have v0 : vp_in (0 : Int32) 12 := rf_in (j := 0) rfl (by decide) (by decide)
  have v1 : vp_in (1 : Int32) 12 := rf_in (j := 1) rfl (by decide) (by decide)
  have nz : ¬ I 17 1 = 0 := by rw [e1, show (0 : Int32) = nI 0 from rfl, nI_eq (by omega) (by omega)]; omega
  refine XC.block [17] 60 ?_
  refine And.intro v0 ?_
  refine And.intro v1 ?_
  refine And.intro nz ?_
  exact c17 _ ed N 0 (Nat.zero_add _) F fO.rf (fun k hk => absurd hk (by rw [Nat.zero_mul]; exact Nat.not_lt_zero _)) (fun k _ => rfl) _ rfl _ _ _ _ _ _ _
end RUB
