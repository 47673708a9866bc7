/-! the MODEL of class and reference: the same up to the sign of zero -/
def mZ (M1 M2 : pMd) : Prop := mFa M1 = mFa M2 ∧ mTl M1 = mTl M2 ∧ mTc M1 = mTc M2 ∧ mMa M1 = mMa M2 ∧ mMb M1 = mMb M2 ∧ mMt M1 = mMt M2 ∧ mNd M1 = mNd M2 ∧ mCo M1 = mCo M2 ∧ mRo M1 = mRo M2 ∧ mEp M1 = mEp M2 ∧ mBa M1 = mBa M2 ∧ ∀ i s, i < mFa M2 10 → s < mCo M2 i * mRo M2 i → fz (mWt M1 i s) (mWt M2 i s)
theorem mBg_e {M1 M2 : pMd} (h1 : mCo M1 = mCo M2) (h2 : mRo M1 = mRo M2) : ∀ i, mBg M1 i = mBg M2 i
  | 0 => rfl
  | i + 1 => by
    show mBg M1 i + mCo M1 i * mRo M1 i = mBg M2 i + mCo M2 i * mRo M2 i
    rw [mBg_e h1 h2 i, h1, h2]
theorem mZ.cq {M1 M2 : pMd} (h : mZ M1 M2) (q : Nat) : mCq M1 q = mCq M2 q := by unfold mCq; rw [h.1]
theorem mZ.kw {M1 M2 : pMd} (h : mZ M1 M2) : mKw M1 = mKw M2 := by unfold mKw; rw [h.1]
theorem mZ.rq {M1 M2 : pMd} (h : mZ M1 M2) (q : Nat) : mRq M1 q = mRq M2 q := by unfold mRq; rw [h.1, h.kw]
theorem mZ.gd {M1 M2 : pMd} (h : mZ M1 M2) (hm : mGd M2) : mGd M1 := by
  have hcq := h.cq
  have hrq := h.rq
  obtain ⟨e1, e2, e3, e4, e5, e6, e7, e8, e9, e10, e11, e12⟩ := h
  have eb := mBg_e e8 e9
  obtain ⟨g1, g2, g3, g4, g5⟩ := hm
  refine ⟨?_, ?_, ?_, ?_, ?_⟩
  · unfold mGs
    rw [e1]
    exact g1
  · intro i hi
    rw [e1] at hi
    obtain ⟨k1, k2, k3, k4⟩ := g2 i hi
    rw [e8, e9, eb]
    exact ⟨k1, k2, k3, fun s hs => (e12 i s hi hs).bd (k4 s hs)⟩
  · intro q hq
    rw [e1] at hq
    rw [e7, e1, e8, e9, hcq, hrq]
    exact g3 q hq
  · rw [e10, e11]; exact g4
  · unfold mGw
    rw [e1, e2, e3, e4, e5, e6]
    exact g5
theorem md_q {M : pMd} : ∀ q, q < 21 → mCq M q = ((sRq (mFa M 0) (mKw M) (mFa M 4) (mFa M 6)).getD q (0, 0)).1 ∧ mRq M q = ((sRq (mFa M 0) (mKw M) (mFa M 4) (mFa M 6)).getD q (0, 0)).2 := by
  intro q hq
  match q, hq with
  | 0, _ => exact ⟨rfl, rfl⟩
  | 1, _ => exact ⟨rfl, rfl⟩
  | 2, _ => exact ⟨rfl, rfl⟩
  | 3, _ => exact ⟨rfl, rfl⟩
  | 4, _ => exact ⟨rfl, rfl⟩
  | 5, _ => exact ⟨rfl, rfl⟩
  | 6, _ => exact ⟨rfl, rfl⟩
  | 7, _ => exact ⟨rfl, rfl⟩
  | 8, _ => exact ⟨rfl, rfl⟩
  | 9, _ => exact ⟨rfl, rfl⟩
  | 10, _ => exact ⟨rfl, rfl⟩
  | 11, _ => exact ⟨rfl, rfl⟩
  | 12, _ => exact ⟨rfl, rfl⟩
  | 13, _ => exact ⟨rfl, rfl⟩
  | 14, _ => exact ⟨rfl, rfl⟩
  | 15, _ => exact ⟨rfl, rfl⟩
  | 16, _ => exact ⟨rfl, rfl⟩
  | 17, _ => exact ⟨rfl, rfl⟩
  | 18, _ => exact ⟨rfl, rfl⟩
  | 19, _ => exact ⟨rfl, rfl⟩
  | 20, _ => exact ⟨rfl, rfl⟩
  | q + 21, hq => exact absurd hq (by omega)
theorem wn_a : ∀ o, o < 256 → fu (FP.i2f ((nI o &&& 15) - 8)) ≤ 2 ^ 156 ∧ fu (FP.i2f ((nI o >>> ((4 : Int32) &&& 31)) - 8)) ≤ 2 ^ 156 ∧ fu (FP.i2f (if nI o ≤ 127 then nI o else nI o - 256)) ≤ 2 ^ 156 ∧ (nI o).toInt8.toInt32 = (if nI o ≤ 127 then nI o else nI o - 256) := by decide +kernel
section BMO
variable {f : Nat → Nat} {n k b t A a : Nat}
theorem rfWn_B (hf : ∀ k, f k < 256) {B i j : Nat} : fB 156 (FP.i2f (rfWn f n b B i j)) := by
  unfold rfWn
  split
  · split
    · exact (wn_a _ (hf _)).1
    · exact (wn_a _ (hf _)).2.1
  · exact (wn_a _ (hf _)).2.2.1
theorem sHf (hf : ∀ k, f k < 256) (p : Nat) : sNum f p 2 < 65536 := by
  have := sNum_lt4 hf 2 p
  omega
theorem sMo_e {i : Nat} : (sPk f n b i = 0 → sMo f n b i = hM16) ∧ (sPk f n b i ≠ 0 → sMo f n b i = hM1) := by
  unfold sMo hM16 hM1
  exact ⟨fun h => by rw [if_pos h], fun h => by rw [if_neg h]⟩
theorem sWt_clWt (hf : ∀ k, f k < 256) {B i : Nat} : sWt f n b B i ↔ clWt f n b B i := by
  have key : ∀ s, rfHw (sMo f n b i) (rfHf (nI (sNum f (B + sOf f n b i + sSt f n b i * s) 2))) ↔ clWi (nI (sNum f (B + sOf f n b i + sSt f n b i * s) 2)) (clMo f n b i) := by
    intro s
    have k := hk_w (sHf hf (B + sOf f n b i + sSt f n b i * s))
    unfold clMo
    rcases Nat.eq_zero_or_pos (sPk f n b i) with y | y
    · rw [sMo_e.1 y, if_pos y]; exact k.1
    · rw [sMo_e.2 (by omega), if_neg (by omega)]; exact k.2.1
  exact ⟨fun h s hs => (key s).mp (h s hs), fun h s hs => (key s).mpr (h s hs)⟩
/-- a weight: what it comes from -/
theorem sWt_at {B i j : Nat} (hw : sWt f n b B i) (hj : j < sCo f n b i * sRo f n b i) (h8 : 0 < sPk f n b i → sCo f n b i % 8 = 0) : (sPk f n b i = 0 → rfHw hM16 (rfHf (nI (sNum f (B + sOf f n b i + 2 * j) 2)))) ∧ (sPk f n b i ≠ 0 → rfHw hM1 (rfHf (nI (sNum f (B + sOf f n b i + j / 8 * sSt f n b i) 2)))) := by
  refine ⟨fun h0 => ?_, fun h0 => ?_⟩
  · have k := hw j (by unfold sBk; rw [if_pos h0, Nat.mul_comm]; exact hj)
    rw [sMo_e.1 h0, show sSt f n b i = 2 from if_pos h0] at k
    exact k
  · have hc := h8 (by omega)
    have lt : j / 8 < sRo f n b i * (sCo f n b i / 8) := by
      have e : sCo f n b i = 8 * (sCo f n b i / 8) := by omega
      rw [e, Nat.mul_assoc, Nat.mul_comm (sCo f n b i / 8)] at hj
      omega
    have k := hw (j / 8) (by unfold sBk; rw [if_neg h0]; exact lt)
    rw [sMo_e.2 h0, Nat.mul_comm (sSt f n b i)] at k
    exact k
theorem rfWg_B (hf : ∀ k, f k < 256) {B i j : Nat} (hw : sWt f n b B i) (hj : j < sCo f n b i * sRo f n b i) (h8 : 0 < sPk f n b i → sCo f n b i % 8 = 0) : fB 156 (rfWg f n b B i j) := by
  obtain ⟨w0, w1⟩ := sWt_at hw hj h8
  unfold rfWg
  split
  · rename_i h0
    exact ((hk_w (sHf hf _)).2.2.2.1 (w0 h0)).mono (by decide)
  · rename_i h0
    exact (rfWn_B hf).mul ((hk_w (sHf hf _)).2.2.2.2 (w1 h0)) (by decide) (by decide) (by decide) (by decide) (by decide)
theorem clWg_z (hf : ∀ k, f k < 256) {B i j : Nat} (hw : sWt f n b B i) (hj : j < sCo f n b i * sRo f n b i) (h8 : 0 < sPk f n b i → sCo f n b i % 8 = 0) (hp : sPk f n b i ≤ 2) : fz (clWg f n b B i j) (rfWg f n b B i j) := by
  obtain ⟨w0, w1⟩ := sWt_at hw hj h8
  unfold clWg rfWg
  rcases Nat.eq_zero_or_pos (sPk f n b i) with y | y
  · rw [if_pos y, if_pos y]
    have k := hk_w (sHf hf (B + sOf f n b i + 2 * j))
    exact k.2.2.1 (k.1.mp (w0 y)).1
  · have h0 : sPk f n b i ≠ 0 := by omega
    rw [if_neg h0, if_neg h0]
    have k := hk_w (sHf hf (B + sOf f n b i + j / 8 * sSt f n b i))
    have q := w1 h0
    have z := k.2.2.1 (k.2.1.mp q).1
    have bx := k.2.2.2.2 q
    have by' : fB 149 (clRe (nI (sNum f (B + sOf f n b i + j / 8 * sSt f n b i) 2))) := z.bd bx
    have nb : fB 156 (FP.i2f (rfWn f n b B i j)) := rfWn_B hf
    have nf := nb.fin (by decide)
    have m := (fz.rf (a := FP.i2f (rfWn f n b B i j))).mul z nf (by'.fin (by decide)) nf (bx.fin (by decide))
    rcases Nat.lt_or_ge (sPk f n b i) 2 with y2 | y2
    · have h1 : sPk f n b i = 1 := by omega
      rw [if_pos h1]
      have st : sSt f n b i = 6 := by unfold sSt; rw [if_neg h0, if_pos h1]
      rw [st] at m ⊢
      unfold rfWn at m ⊢
      rw [if_pos h1] at m ⊢
      exact m
    · have h2 : sPk f n b i = 2 := by omega
      have h1 : sPk f n b i ≠ 1 := by omega
      rw [if_neg h1]
      have st : sSt f n b i = 10 := by unfold sSt; rw [if_neg h0, if_neg h1]
      rw [st] at m ⊢
      unfold rfWn at m ⊢
      rw [if_neg h1] at m ⊢
      unfold clWv
      rw [(wn_a _ (hf _)).2.2.2]
      exact m
/-- what both need of a sound FILE -/
def mdP (f : Nat → Nat) (n k b t A a : Nat) : Prop := rfG f n ∧ sPts f n = .inr (t, k, b, a) ∧ t ≤ 24 ∧ k ≤ 24 ∧ (∃ I, rfU f n b t I) ∧ sVok f n k ∧ sAlF f n k 0 8 = some A ∧ sShp f n k b t ∧ (∀ i, i < t → sPl f n b (sDa a A) A i) ∧ ∀ i, i < t → sWt f n b (sDa a A) i
theorem md_gd (h : mdP f n k b t A a) : mGd (mdF f n k b t A a) := by
  obtain ⟨hG, e, ht, hk, ⟨I, hU⟩, hv, hA, hs, hpl, hwt⟩ := h
  obtain ⟨g1, g2, geb, gtx, gmg, gst, -⟩ := hv
  have u := hU.2.2
  have e0 : ∀ p, sNum f p 2 < 65536 := sHf hG.1
  refine ⟨⟨g1.1, g1.2.1, ⟨g1.2.2.1, g2.1⟩, g2.2.1, g2.2.2.1, g2.2.2.2, ⟨gtx.2.1, gtx.2.2.1⟩, ?_, gst, ht⟩, ?_, ?_, ⟨?_, ?_⟩, ?_, ?_⟩
  · show f (sVk f n k 9 + 1) ≤ 12
    rcases gmg with y | y
    · omega
    · exact y.2.1
  · intro i hi
    have hi : i < t := hi
    obtain ⟨u1, u2, u3, u4, u5⟩ := u i hi
    refine ⟨u2.2, u3.2, ?_, fun s hs' => rfWg_B hG.1 (hwt i hi) hs' u4.2.2⟩
    rw [mBg_mdF]
    exact sBg_le hG.2 hpl (fun i hi => (u i hi).2.2.2.1.2.2) (i + 1) hi
  · intro q hq
    have hq : q < 3 + 9 * sN f n k 3 := hq
    have q21 : q < 21 := by have := g2.2.1.2; omega
    obtain ⟨i, h1, h2, h3⟩ := hs q hq
    obtain ⟨w1, w2⟩ := md_q (M := mdF f n k b t A a) q q21
    have en : mNd (mdF f n k b t A a) q = i := by
      show (sOq f n b t q).getD 0 = i
      unfold sOq
      rw [h1]; rfl
    have lt := sNf_lt t 0 none (fun j z => by cases z) i h1
    rw [en, w1, w2]
    exact ⟨show i < t by omega, h2, h3⟩
  · show fEp (rfRe (rfEp f n k))
    exact ((hk_e (e0 (sVk f n k 6))).2 ⟨geb.1, geb.2.1⟩).2
  · show fBa (rfRe (rfBa f n k))
    exact ((hk_b (e0 (sVk f n k 7))).2 ⟨geb.2.2.1, geb.2.2.2⟩).2
  · intro i hi
    have hi : i < f (sVk f n k 8 + 1) := hi
    obtain ⟨w1, w2, -⟩ := gtx.2.2.2 i hi
    exact ⟨⟨w1, w2⟩, fun j _ => hG.1 _⟩
  · intro i hi
    have hi : i < f (sVk f n k 9 + 1) := hi
    rcases gmg with y | y
    · omega
    · obtain ⟨m1, m2, m3, m4⟩ := y.2.2 i hi
      refine ⟨m2, m3, ?_⟩
      show (sTgt f (sTp f (sVk f n k 8)) (sTp f (sVk f n k 8) (sNum f (sVk f n k 9 + 2 + 10 * i + 2) 4)) (sTp f (sVk f n k 8) (sNum f (sVk f n k 9 + 2 + 10 * i + 6) 4)) (f (sVk f n k 8 + 1)) 0).getD 0 < f (sVk f n k 8 + 1)
      cases eo : sTgt f (sTp f (sVk f n k 8)) (sTp f (sVk f n k 8) (sNum f (sVk f n k 9 + 2 + 10 * i + 2) 4)) (sTp f (sVk f n k 8) (sNum f (sVk f n k 9 + 2 + 10 * i + 6) 4)) (f (sVk f n k 8 + 1)) 0 with
      | none => exact absurd eo m4
      | some j =>
        have := sTgt_lt _ _ _ eo
        show j < _
        omega
theorem md_dupN (e : sPts f n = .inr (t, k, b, a)) : ∀ j, j < t → sDup f (sNam f n b) j = false := fun j hj => sIfs_ok t 0 a (sPts_b e) j (Nat.zero_le _) (by omega)
theorem md_dupK (e : sPts f n = .inr (t, k, b, a)) : ∀ j, j < k → sDup f (sKey f n) j = false := fun j hj => ((sPrs_ok k 0 b (sPts_a e)).2 j (Nat.zero_le _) (by omega)).2.1
theorem md_z (h : mdP f n k b t A a) : mZ (mdC f n k b t A a) (mdF f n k b t A a) := by
  obtain ⟨hG, e, ht, hk, ⟨I, hU⟩, hv, hA, hs, hpl, hwt⟩ := h
  obtain ⟨g1, g2, geb, gtx, gmg, gst, -⟩ := hv
  have e0 : ∀ p, sNum f p 2 < 65536 := sHf hG.1
  refine ⟨rfl, rfl, rfl, rfl, rfl, rfl, ?_, rfl, rfl, ?_, ?_, ?_⟩
  · show (fun q => (sOg f n b t q).getD 0) = (fun q => (sOq f n b t q).getD 0)
    funext q
    rw [sOg_Oq (md_dupN e)]
  · exact ((hk_e (e0 (sVk f n k 6))).2 ⟨geb.1, geb.2.1⟩).1
  · exact ((hk_b (e0 (sVk f n k 7))).2 ⟨geb.2.2.1, geb.2.2.2⟩).1
  · intro i s hi hs'
    have hi : i < t := hi
    obtain ⟨u1, u2, u3, u4, u5⟩ := hU.2.2 i hi
    exact clWg_z hG.1 (hwt i hi) hs' u4.2.2 u4.2.1
theorem sGg_Gq (hd : ∀ j, j < t → sDup f (sNam f n b) j = false) {dd kv ff tk q : Nat} : sGg f n b t dd kv ff tk q ↔ sGq f n b t dd kv ff tk q := by
  unfold sGg sGq sNd
  rw [sOg_Oq hd]
  exact Iff.rfl
theorem clShp_iff (hd : ∀ j, j < t → sDup f (sNam f n b) j = false) : clShp f n k b t ↔ sShp f n k b t := ⟨fun h q hq => (sGg_Gq hd).mp (h q hq), fun h q hq => (sGg_Gq hd).mpr (h q hq)⟩
/-- VALUES as both see them -/
theorem clVok_iff (hf : ∀ k, f k < 256) (hd : ∀ j, j < k → sDup f (sKey f n) j = false) : (sVok f n k ↔ clVok f n k ∧ sAok f n k) ∧ (sAok f n k → ∀ A, sAlF f n k 0 8 = some A ↔ sAl1 f n k = some A) := by
  have rl := hk_rl (sHf hf (sVk f n k 6)) (sHf hf (sVk f n k 7))
  refine ⟨⟨?_, ?_⟩, fun h A => by rw [sAlF_ok hd h]⟩
  · rintro ⟨h1, h2, h3, h4, h5, h6, A, hA⟩
    have ok := sAlF_no hd hA
    rw [sAlF_ok hd ok] at hA
    exact ⟨⟨h1, h2, ⟨A, hA⟩, rl.mp h3, h4, h5, h6⟩, ok⟩
  · rintro ⟨⟨h1, h2, ⟨A, hA⟩, h3, h4, h5, h6⟩, ok⟩
    rw [← sAlF_ok hd ok] at hA
    exact ⟨h1, h2, rl.mpr h3, h4, h5, h6, A, hA⟩
theorem snd_nf {M : pMd} (hG : rfG f n) (h : sSnd f n M) {c : Nat} {w : Int32} (h' : clFlt f n c w) : False := by
  obtain ⟨t, k, b, a, A, e, ht, hk, hf, hv, hA, hs, hpl, hwt, hU, -⟩ := h
  rcases h' with ⟨w', e', -⟩ | ⟨t', k', b', a', e', hfl, -⟩
  · rw [e] at e'; cases e'
  · rw [e] at e'
    injection e' with e'
    injection e' with q1 e'
    injection e' with q2 e'
    injection e' with q3 q4
    subst q1; subst q2; subst q3; subst q4
    have vi := clVok_iff (n := n) hG.1 (md_dupK e)
    obtain ⟨cv, ok⟩ := vi.1.mp hv
    rcases hfl with ⟨-, z⟩ | ⟨-, -, ⟨-, z⟩ | ⟨-, A', hA', ⟨-, z⟩ | ⟨-, ⟨-, z⟩ | ⟨-, -, z⟩⟩⟩⟩
    · exact z ⟨hf, ok⟩
    · exact z cv
    · exact z ((clShp_iff (md_dupN e)).mpr hs)
    · have eA : A' = A := by
        have := (vi.2 ok A).mp hA
        rw [this] at hA'
        injection hA' with hA'
        exact hA'.symm
      rw [eA] at z
      exact z hpl
    · have eA : A' = A := by
        have := (vi.2 ok A).mp hA
        rw [this] at hA'
        injection hA' with hA'
        exact hA'.symm
      rw [eA] at z
      exact z (fun i hi => (sWt_clWt hG.1).mp (hwt i hi))
theorem cl_nf {M : pMd} (hG : rfG f n) (h : clSnd f n M) {c w : Nat} (h' : sFlt f n c w) : False := by
  obtain ⟨t, k, b, a, A, e, ht, hk, ⟨hf, ok, cv, hA, hs, hpl, hwt⟩, hU, -⟩ := h
  rcases h' with ⟨e', -⟩ | ⟨t', k', b', a', e', hfl⟩
  · rw [e] at e'; cases e'
  · rw [e] at e'
    injection e' with e'
    injection e' with q1 e'
    injection e' with q2 e'
    injection e' with q3 q4
    subst q1; subst q2; subst q3; subst q4
    have vi := clVok_iff (n := n) hG.1 (md_dupK e)
    have hv := vi.1.mpr ⟨cv, ok⟩
    have eA : ∀ A', sAlF f n k 0 8 = some A' → A' = A := fun A' q => by
      have := (vi.2 ok A').mp q
      rw [hA] at this
      injection this with this
      exact this.symm
    rcases hfl with ⟨-, z⟩ | ⟨-, -, z⟩ | ⟨-, -, A', hA', ⟨-, z⟩ | ⟨-, -, z⟩ | ⟨-, -, -, z⟩⟩
    · exact z hf
    · exact z hv
    · exact z ((clShp_iff (md_dupN e)).mp hs)
    · rw [eA A' hA'] at z
      exact z hpl
    · rw [eA A' hA'] at z
      exact z (fun i hi => (sWt_clWt hG.1).mpr (hwt i hi))
theorem snd_cl {M M' : pMd} (hG : rfG f n) (h : sSnd f n M) (h' : clSnd f n M') : mZ M' M ∧ mGd M := by
  obtain ⟨t, k, b, a, A, e, ht, hk, hf, hv, hA, hs, hpl, hwt, hU, eM⟩ := h
  obtain ⟨t', k', b', a', A', e', -, -, ⟨-, ok, cv, hA', -⟩, -, eM'⟩ := h'
  rw [e] at e'
  injection e' with e'
  injection e' with q1 e'
  injection e' with q2 e'
  injection e' with q3 q4
  subst q1; subst q2; subst q3; subst q4
  have vi := clVok_iff (n := n) hG.1 (md_dupK e)
  have eA : A' = A := by
    have := (vi.2 ok A).mp hA
    rw [this] at hA'
    injection hA' with hA'
    exact hA'.symm
  subst eA
  have P : mdP f n k b t A' a := ⟨hG, e, ht, hk, hU, hv, hA, hs, hpl, hwt⟩
  rw [eM, eM']
  exact ⟨md_z P, md_gd P⟩
/-- where a FAULT is, for both -/
theorem flt_place {c c' w : Nat} {w' : Int32} (h : sFlt f n c w) (h' : clFlt f n c' w') : (c ≤ 7 → w' = nI w) ∧ (¬ c ≤ 7 → w' = -1) := by
  rcases h with ⟨e, h1, h2⟩ | ⟨t, k, b, a, e, h⟩
  · rcases h' with ⟨w2, e', ew, -⟩ | ⟨t, k, b, a, e', -⟩
    · rw [e] at e'
      injection e' with e'
      injection e' with e1 e2
      exact ⟨fun _ => by rw [ew, e2], fun z => absurd h2 z⟩
    · rw [e] at e'; cases e'
  · have c8 : ¬ c ≤ 7 := by
      rcases h with ⟨z, -⟩ | ⟨z, -⟩ | ⟨-, -, A, -, ⟨z, -⟩ | ⟨z, -⟩ | ⟨z, -⟩⟩ <;> omega
    rcases h' with ⟨w2, e', ew, -⟩ | ⟨t', k', b', a', e', -, ew⟩
    · rw [e] at e'; cases e'
    · exact ⟨fun z => absurd z c8, fun _ => ew⟩
end BMO
