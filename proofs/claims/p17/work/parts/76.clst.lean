/-! the class on paper: make -/
theorem sVal0 {f : Nat → Nat} {n p e : Nat} (h : sVal f n 0 p = .inr e) : p + 4 ≤ n := by
  have h : sSkip n 4 p = .inr e := h
  have := sSkip_le h
  omega
theorem sVal1 {f : Nat → Nat} {n p e : Nat} (h : sVal f n 1 p = .inr e) : p + 2 ≤ n := by
  have h : sSkip n 2 p = .inr e := h
  have := sSkip_le h
  omega
theorem sVal3 {f : Nat → Nat} {n p e : Nat} (h : sVal f n 3 p = .inr e) : sA1 f n p = .inr e := h
theorem sVk_val {f : Nat → Nat} {n k : Nat} (hv : ∀ j, j < k → sTy f n j ≤ 3 ∧ sVal f n (sTy f n j) (sVa f n j) = .inr (sKey f n (j + 1))) {j : Nat} (h : sO f n k j ≠ none) : ∃ e, sVal f n (sTs.getD j 0) (sVk f n k j) = .inr e := by
  cases ho : sO f n k j with
  | none => exact absurd ho h
  | some i =>
    have hl := sKt_lt ho
    have hv := (hv i hl.1).2
    have e : sVk f n k j = sVa f n i := by unfold sVk; rw [ho]
    refine ⟨sKey f n (i + 1), ?_⟩
    rw [e, ← hl.2]; exact hv
theorem sTF_or {f : Nat → Nat} {p q : Nat} (h : sTF f p q = true) : (f (p + 1) = 0 ∨ f p = 2) ∧ (f (q + 1) = 0 ∨ (f q = 3 ∧ sTf f (f (q + 1)) (q + 2) = true)) := by
  unfold sTF at h
  split at h
  · cases h
  · rename_i z
    refine ⟨?_, ?_⟩
    · rcases Nat.eq_zero_or_pos (f (p + 1)) with y | y
      · exact Or.inl y
      · exact Or.inr (Classical.not_not.mp (fun w => z (Or.inl ⟨y, w⟩)))
    · rcases Nat.eq_zero_or_pos (f (q + 1)) with y | y
      · exact Or.inl y
      · exact Or.inr ⟨Classical.not_not.mp (fun w => z (Or.inr ⟨y, w⟩)), h⟩
theorem sNum_sh {f : Nat → Nat} {a : Nat} : ∀ (m p : Nat), sNum (fun j => f (a + j)) p m = sNum f (a + p) m
  | 0, _ => rfl
  | m + 1, p => by
    show f (a + p) + 256 * sNum (fun j => f (a + j)) (p + 1) m = f (a + p) + 256 * sNum f (a + p + 1) m
    rw [sNum_sh m (p + 1)]; rfl
/-- a TOKEN's OCTETS and their number in one -/
def mTw (M : pMd) (i : Nat) : Nat := mTl M i * 2 ^ 32 + sNum (mTc M i) 0 (mTl M i)
/-- the MODEL that a FILE says, as the class makes it -/
def mdC (f : Nat → Nat) (n k b t A a : Nat) : pMd := ((mdF f n k b t A a).1, (mdF f n k b t A a).2.1, (mdF f n k b t A a).2.2.1, (mdF f n k b t A a).2.2.2.1, (mdF f n k b t A a).2.2.2.2.1, (mdF f n k b t A a).2.2.2.2.2.1, fun q => (sOg f n b t q).getD 0, sCo f n b, sRo f n b, clWg f n b (sDa a A), clRe (nI (sNum f (sVk f n k 6) 2)), clRe (nI (sNum f (sVk f n k 7) 2)))
theorem mBg_mdC {f : Nat → Nat} {n k b t A a : Nat} : ∀ i, mBg (mdC f n k b t A a) i = sBg f n b i
  | 0 => rfl
  | i + 1 => by
    show mBg (mdC f n k b t A a) i + sCo f n b i * sRo f n b i = sBg f n b i + sCo f n b i * sRo f n b i
    rw [mBg_mdC i]
theorem mTw_mdC {f : Nat → Nat} {n k b t A a i : Nat} : mTw (mdC f n k b t A a) i = sTw f (sTp f (sVk f n k 8) i) := by
  show f (sTp f (sVk f n k 8) i) * 2 ^ 32 + sNum (fun j => f (sTp f (sVk f n k 8) i + 1 + j)) 0 (f (sTp f (sVk f n k 8) i)) = _
  rw [sNum_sh]; rfl
def clVok (f : Nat → Nat) (n k : Nat) : Prop := sG1 f n k ∧ sG2 f n k ∧ (∃ A, sAl1 f n k = some A) ∧ clRl (nI (sNum f (sVk f n k 6) 2)) (nI (sNum f (sVk f n k 7) 2)) ∧ sTx f (sVk f n k 8) ∧ sMg f (sTp f (sVk f n k 8)) (f (sVk f n k 8 + 1)) (sVk f n k 9) ∧ sN f n k 10 < f (sVk f n k 8 + 1)
def clShp (f : Nat → Nat) (n k b t : Nat) : Prop := ∀ q, q < 3 + 9 * sN f n k 3 → sGg f n b t (sN f n k 0) (sN f n k 0 / sN f n k 1 * sN f n k 2) (sN f n k 4) (f (sVk f n k 8 + 1)) q
/-- what make answers -/
def clFl (f : Nat → Nat) (n t k b a c : Nat) : Prop := (c = 8 ∧ ¬ (sFnd f n k ∧ sAok f n k)) ∨ (sFnd f n k ∧ sAok f n k ∧ ((c = 9 ∧ ¬ clVok f n k) ∨ (clVok f n k ∧ ∃ A, sAl1 f n k = some A ∧ ((c = 10 ∧ ¬ clShp f n k b t) ∨ (clShp f n k b t ∧ ((c = 11 ∧ ¬ (∀ i, i < t → sPl f n b (sDa a A) A i)) ∨ (c = 12 ∧ (∀ i, i < t → sPl f n b (sDa a A) A i) ∧ ¬ (∀ i, i < t → clWt f n b (sDa a A) i))))))))
def clOk (f : Nat → Nat) (n t k b a A : Nat) : Prop := sFnd f n k ∧ sAok f n k ∧ clVok f n k ∧ sAl1 f n k = some A ∧ clShp f n k b t ∧ (∀ i, i < t → sPl f n b (sDa a A) A i) ∧ ∀ i, i < t → clWt f n b (sDa a A) i
theorem sAl1_in {f : Nat → Nat} {n k A : Nat} (h : sAl1 f n k = some A) : 1 ≤ A ∧ A ≤ 64 := by
  unfold sAl1 at h
  split at h
  · injection h with h; omega
  · split at h
    · injection h with h; omega
    · cases h
section CLM_a
variable {X : List (Option Nat)} {T : List xS} {f : Nat → Nat} {n b t k a : Nat} {I J : Nat → Nat → Int32} {L : Nat → Nat → Int64} {F G : Nat → Nat → UInt32} {d : Nat} {Q : xP}
/-- the class holds the MODEL M -/
def clMd_a (M : pMd) (J : Nat → Nat → Int32) (L : Nat → Nat → Int64) (G : Nat → Nat → UInt32) : Prop := (∀ j, j < 12 → J 39 j = nI (mFa M j)) ∧ (J 40 4 = nI (mFa M 6) ∧ J 40 5 = nI (mFa M 7)) ∧ J 45 5 = nI (mFa M 10) ∧ (J 38 5 = nI (mFa M 0 / mFa M 1) ∧ J 38 6 = nI (mFa M 1 / mFa M 2)) ∧ (∀ i, i < mFa M 6 → L 41 i = lN (mTw M i)) ∧ (∀ i, i < mFa M 7 → J 42 i = nI (mMa M i) ∧ J 43 i = nI (mMb M i) ∧ J 44 i = nI (mMt M i)) ∧ (∀ q, q < 3 + 9 * mFa M 3 → J 49 q = nI (mNd M q)) ∧ (∀ i, i < mFa M 10 → J 47 i = nI (mCo M i) ∧ J 48 i = nI (mRo M i) ∧ J 46 i = nI (mBg M i) ∧ ∀ s, s < mCo M i * mRo M i → G 50 (mBg M i + s) = mWt M i s) ∧ G 38 3 = mEp M ∧ G 38 4 = mBa M
def clKI_a (I I' : Nat → Nat → Int32) : Prop := ∀ b k, b ≠ 15 → (38 ≤ b → 50 < b) → I' b k = I b k
def clKL_a (I I' : Nat → Nat → Int64) : Prop := ∀ b k, (38 ≤ b → 50 < b) → I' b k = I b k
def clKG_a (I I' : Nat → Nat → UInt32) : Prop := ∀ b k, (38 ≤ b → 50 < b) → I' b k = I b k
def clN1_a (f : Nat → Nat) (n k t A : Nat) (J : Nat → Nat → Int32) : Prop := (∀ j, j < 6 → J 39 j = nI (sN f n k j)) ∧ J 39 9 = nI k ∧ J 39 10 = nI t ∧ J 39 11 = nI A ∧ J 38 5 = nI (sN f n k 0 / sN f n k 1) ∧ J 38 6 = nI (sN f n k 1 / sN f n k 2)
theorem clN1_a.ag {A : Nat} (h : clN1_a f n k t A I) (a1 : ∀ j, j < 12 → j ≠ 6 → j ≠ 7 → j ≠ 8 → J 39 j = I 39 j) (a2 : ∀ j, J 38 j = I 38 j) : clN1_a f n k t A J := ⟨fun j hj => (a1 j (by omega) (by omega) (by omega) (by omega)).trans (h.1 j hj), (a1 9 (by decide) (by decide) (by decide) (by decide)).trans h.2.1, (a1 10 (by decide) (by decide) (by decide) (by decide)).trans h.2.2.1, (a1 11 (by decide) (by decide) (by decide) (by decide)).trans h.2.2.2.1, (a2 5).trans h.2.2.2.2.1, (a2 6).trans h.2.2.2.2.2⟩
theorem clF.agK_a (h : clF f n I) (a : clKI_a I J) : clF f n J := ⟨fun k hk => by rw [a 2 k (by decide) (by decide)]; exact h.1 k hk, (a 1 1 (by decide) (by decide)).trans h.2⟩
theorem clU.agK_a (h : clU f n b t I) (a : clKI_a I J) : clU f n b t J := by
  refine ⟨(a 5 10 (by decide) (by decide)).trans h.1, h.2.1, fun j hj => ?_⟩
  obtain ⟨h1, h2, h3, h4, h5⟩ := h.2.2 j hj
  exact ⟨⟨(a 9 j (by decide) (by decide)).trans h1.1, h1.2⟩, ⟨(a 10 j (by decide) (by decide)).trans h2.1, h2.2⟩, ⟨(a 11 j (by decide) (by decide)).trans h3.1, h3.2⟩, ⟨(a 12 j (by decide) (by decide)).trans h4.1, h4.2⟩, (a 13 j (by decide) (by decide)).trans h5.1, h5.2⟩
theorem clMd_a.of {A : Nat} (hv : clVok f n k) (hs : clShp f n k b t) (N : clN1_a f n k t A J) (W : clWd_a f (sVk f n k 8) (sVk f n k 9) (sVk f n k 10) J L) (C : clCR_a f n b t J) (hN : ∀ q, q < 3 + 9 * sN f n k 3 → J 49 q = rfO (sOg f n b t q)) (hW : ∀ i, i < t → clWs_a f n b (sDa a A) J G i) (g3 : G 38 3 = clRe (nI (sNum f (sVk f n k 6) 2))) (g4 : G 38 4 = clRe (nI (sNum f (sVk f n k 7) 2))) : clMd_a (mdC f n k b t A a) J L G := by
  refine ⟨?_, ⟨W.2.2.2.1, W.2.2.2.2.1⟩, C.1, ⟨N.2.2.2.2.1, N.2.2.2.2.2⟩, ?_, ?_, ?_, ?_, g3, g4⟩
  · intro j hj
    match j, hj with
    | 0, _ => exact N.1 0 (by decide)
    | 1, _ => exact N.1 1 (by decide)
    | 2, _ => exact N.1 2 (by decide)
    | 3, _ => exact N.1 3 (by decide)
    | 4, _ => exact N.1 4 (by decide)
    | 5, _ => exact N.1 5 (by decide)
    | 6, _ => exact W.1
    | 7, _ => exact W.2.1
    | 8, _ => exact W.2.2.1
    | 9, _ => exact N.2.1
    | 10, _ => exact N.2.2.1
    | 11, _ => exact N.2.2.2.1
    | j + 12, h => exact absurd h (by omega)
  · intro i hi
    rw [mTw_mdC]
    exact W.2.2.2.2.2.1 i hi
  · intro i hi
    obtain ⟨m1, m2, m3⟩ := W.2.2.2.2.2.2 i hi
    refine ⟨m1, m2, m3.trans ?_⟩
    have hm := hv.2.2.2.2.2.1
    have hi' : i < f (sVk f n k 9 + 1) := hi
    have h4 : sMg1 f (sTp f (sVk f n k 8)) (f (sVk f n k 8 + 1)) (sVk f n k 9 + 2 + 10 * i) := by
      rcases hm with h | h
      · omega
      · exact h.2.2 i hi'
    have h4 := h4.2.2.2
    show rfO (sTgt f (sTp f (sVk f n k 8)) (sTp f (sVk f n k 8) (sNum f (sVk f n k 9 + 2 + 10 * i + 2) 4)) (sTp f (sVk f n k 8) (sNum f (sVk f n k 9 + 2 + 10 * i + 6) 4)) (f (sVk f n k 8 + 1)) 0) = nI ((sTgt f (sTp f (sVk f n k 8)) (sTp f (sVk f n k 8) (sNum f (sVk f n k 9 + 2 + 10 * i + 2) 4)) (sTp f (sVk f n k 8) (sNum f (sVk f n k 9 + 2 + 10 * i + 6) 4)) (f (sVk f n k 8 + 1)) 0).getD 0)
    cases hq : sTgt f (sTp f (sVk f n k 8)) (sTp f (sVk f n k 8) (sNum f (sVk f n k 9 + 2 + 10 * i + 2) 4)) (sTp f (sVk f n k 8) (sNum f (sVk f n k 9 + 2 + 10 * i + 6) 4)) (f (sVk f n k 8 + 1)) 0 with
    | none => exact absurd hq h4
    | some j => rfl
  · intro q hq
    obtain ⟨i, e, -⟩ := hs q hq
    rw [hN q hq]
    show rfO (sOg f n b t q) = nI ((sOg f n b t q).getD 0)
    rw [e]; rfl
  · intro i hi
    have hi' : i < t := hi
    obtain ⟨c1, c2, -⟩ := C.2 i hi'
    obtain ⟨w1, w2⟩ := hW i hi'
    rw [mBg_mdC]
    exact ⟨c1, c2, w1, w2⟩
theorem cl_make_a (hG : rfG f n) (hF : clF f n I) (hU : clU f n b t I) (hV : clV2 f n k I) (h11 : I 5 11 = nI a) (ha : a ≤ 1400)
    (hok : ∀ A, clOk f n t k b a A → ∀ J' L' G', clKI_a I J' → clKL_a L L' → clKG_a F G' → clMd_a (mdC f n k b t A a) J' L' G' → Q (some (.int 0)) (shG X (md1 T), J', L', G'))
    (hbad : ∀ c, clFl f n t k b a c → ∀ J' L' G', clKI_a I J' → clKL_a L L' → clKG_a F G' → Q (some (.int (nI c))) (shG X (md1 T), J', L', G')) : XM xE0 (d + 6) 88 [.ref 14, .ref 38] (shG X (md1 T), I, L, F) Q := by
  have hn := hG.2
  have c10 : sFnd f n k → sAok f n k → ∀ J1, clW I J1 → (∀ j, j < 11 → J1 15 ([0, 1, 2, 3, 4, 5, 12, 13, 6, 7, 8].getD j 0) = nI (sVk f n k j)) → J1 15 11 = sAva f n k → XC xE0 (d + 6) xM_88 (10, [some (.ref 14), some (.ref 38), none], [], (shG X (md1 T), J1, L, F)) Q := by
    intro hf hal J1 W1 K1 K11
    have val : ∀ j, j < 11 → ∃ e, sVal f n (sTs.getD j 0) (sVk f n k j) = .inr e := fun j hj => sVk_val hV.2.2.2 (hf.1 j hj)
    have v4 : ∀ j, j < 6 → sVk f n k j + 4 ≤ n := by
      intro j hj
      obtain ⟨e, he⟩ := val j (by omega)
      match j, hj with
      | 0, _ => exact sVal0 he
      | 1, _ => exact sVal0 he
      | 2, _ => exact sVal0 he
      | 3, _ => exact sVal0 he
      | 4, _ => exact sVal0 he
      | 5, _ => exact sVal0 he
      | j + 6, h => exact absurd h (by omega)
    have v10 : sVk f n k 10 + 4 ≤ n := (val 10 (by decide)).elim (fun e he => sVal0 he)
    have v6 : sVk f n k 6 + 2 ≤ n := (val 6 (by decide)).elim (fun e he => sVal1 he)
    have v7 : sVk f n k 7 + 2 ≤ n := (val 7 (by decide)).elim (fun e he => sVal1 he)
    obtain ⟨e8, he8⟩ := val 8 (by decide)
    obtain ⟨e9, he9⟩ := val 9 (by decide)
    have he8 := sVal3 he8
    have he9 := sVal3 he9
    have hTT := sTF_or hf.2
    have k6 : ∀ j, j < 6 → J1 15 j = nI (sVk f n k j) ∧ sVk f n k j + 4 ≤ n := by
      intro j hj
      refine ⟨?_, v4 j hj⟩
      match j, hj with
      | 0, _ => exact K1 0 (by decide)
      | 1, _ => exact K1 1 (by decide)
      | 2, _ => exact K1 2 (by decide)
      | 3, _ => exact K1 3 (by decide)
      | 4, _ => exact K1 4 (by decide)
      | 5, _ => exact K1 5 (by decide)
      | j + 6, h => exact absurd h (by omega)
    have hav : ∀ i, sKf f n (sWd sWa) 5 k 0 = some i → sVa f n i + 4 ≤ n := by
      intro i hi
      have hl := sKf_lt _ _ _ hi
      have hv := (hV.2.2.2 i (by omega)).2
      rw [hal i hi] at hv
      exact sVal0 hv
    have kI1 : clKI_a I J1 := fun b k h1 _ => W1 b k h1
    have F1 := hF.agK_a kI1
    have U1 := hU.agK_a kI1
    have b9 : J1 5 9 = nI k := (W1 5 9 (by decide)).trans hV.1
    have c34 : ∀ J' L' G', clKI_a I J' → clKL_a L L' → clKG_a F G' → ¬ clVok f n k → XC xE0 (d + 6) xM_88 (34, [some (.ref 14), some (.ref 38), none], [], (shG X (md1 T), J', L', G')) Q := by
      intro J' L' G' kI kL kG z
      refine XC.block [] 60 ?_
      exact ⟨trivial, hbad 9 (Or.inr ⟨hf, hal, Or.inl ⟨rfl, z⟩⟩) J' L' G' kI kL kG⟩
    have c37 : ∀ A, sAl1 f n k = some A → clVok f n k → ∀ J2 L2 G2, clKI_a I J2 → clKL_a L L2 → clKG_a F G2 → clN1_a f n k t A J2 → clWd_a f (sVk f n k 8) (sVk f n k 9) (sVk f n k 10) J2 L2 → G2 38 3 = clRe (nI (sNum f (sVk f n k 6) 2)) → G2 38 4 = clRe (nI (sNum f (sVk f n k 7) 2)) → XC xE0 (d + 6) xM_88 (37, [some (.ref 14), some (.ref 38), none], [], (shG X (md1 T), J2, L2, G2)) Q := by
      intro A hA hvok J2 L2 G2 kI kL kG N2 W2 g3 g4
      have hAin := sAl1_in hA
      obtain ⟨g1, g2, -, -, gtx, -, -⟩ := id hvok
      have b0 : sN f n k 0 ≤ 16 := by have := g1.1; omega
      have b1 : 1 ≤ sN f n k 1 ∧ sN f n k 1 ≤ 4 := by have := g1.2.1; omega
      have b2 : sN f n k 2 ≤ 4 := by
        have h0 := g2.1
        have := Nat.le_of_dvd (by omega) (Nat.dvd_of_mod_eq_zero h0)
        omega
      have b4 : sN f n k 4 ≤ 16 := by have := g2.2.2.1; omega
      have bkv : sN f n k 0 / sN f n k 1 * sN f n k 2 < 2 ^ 31 := by
        have h1 : sN f n k 0 / sN f n k 1 ≤ 16 := Nat.le_trans (Nat.div_le_self _ _) b0
        have := Nat.mul_le_mul h1 b2
        omega
      have ekv : J2 38 5 * J2 39 2 = nI (sN f n k 0 / sN f n k 1 * sN f n k 2) := by rw [N2.2.2.2.2.1, N2.1 2 (by decide), nI_mul]
      have c48 : clShp f n k b t → ∀ J3, clT_a J2 J3 → clCR_a f n b t J3 → (∀ q, q < 3 + 9 * sN f n k 3 → J3 49 q = rfO (sOg f n b t q)) → XC xE0 (d + 6) xM_88 (48, [some (.ref 14), some (.ref 38), none], [], (shG X (md1 T), J3, L2, G2)) Q := by
        intro hsh J3 T3 C3 N3
        have kI3 : clKI_a I J3 := fun b k h1 h2 => (T3 b k (by omega) (by omega) (by omega) (by omega)).trans (kI b k h1 h2)
        have F3 := hF.agK_a kI3
        have U3 := hU.agK_a kI3
        have nA : clN1_a f n k t A J3 := N2.ag (fun j _ _ _ _ => T3 39 j (by omega) (by decide) (by decide) (by decide)) (fun j => T3 38 j (by omega) (by decide) (by decide) (by decide))
        have e11 : J3 5 11 = nI a := (kI3 5 11 (by decide) (by decide)).trans h11
        have hB : sDa a A ≤ 1500 := Nat.le_trans (sDa_le ha hAin.1 hAin.2) (by decide)
        have W3 : clWd_a f (sVk f n k 8) (sVk f n k 9) (sVk f n k 10) J3 L2 := by
          obtain ⟨q1, q2, q3, q4, q5, q6, q7⟩ := W2
          refine ⟨(T3 39 6 (by omega) (by decide) (by decide) (by decide)).trans q1, (T3 39 7 (by omega) (by decide) (by decide) (by decide)).trans q2, (T3 39 8 (by omega) (by decide) (by decide) (by decide)).trans q3, (T3 40 4 (by omega) (by decide) (by decide) (by decide)).trans q4, (T3 40 5 (by omega) (by decide) (by decide) (by decide)).trans q5, q6, fun i hi => ?_⟩
          obtain ⟨m1, m2, m3⟩ := q7 i hi
          exact ⟨(T3 42 i (by omega) (by decide) (by decide) (by decide)).trans m1, (T3 43 i (by omega) (by decide) (by decide) (by decide)).trans m2, (T3 44 i (by omega) (by decide) (by decide) (by decide)).trans m3⟩
        have fl : ∀ c, ((c = 11 ∧ ¬ (∀ i, i < t → sPl f n b (sDa a A) A i)) ∨ (c = 12 ∧ (∀ i, i < t → sPl f n b (sDa a A) A i) ∧ ¬ (∀ i, i < t → clWt f n b (sDa a A) i))) → clFl f n t k b a c := fun c h => Or.inr ⟨hf, hal, Or.inr ⟨hvok, A, hA, Or.inr ⟨hsh, h⟩⟩⟩
        have c78 : (∀ i, i < t → sPl f n b (sDa a A) A i) → ∀ x, x = nI (sDa a A) → XC xE0 (d + 6) xM_88 (78, [some (.ref 14), some (.ref 38), some (.int x)], [], (shG X (md1 T), J3, L2, G2)) Q := by
          intro hpl x hx
          refine XC.block [] 60 ?_
          refine cl_takeWeights_a (t := t) hG F3 U3 C3 hB hpl hx (fun hw J4 G4 S4 D4 hv => ?_) (fun hw J4 G4 S4 D4 => ?_)
          · refine And.intro (fun z => absurd (show (1 : Int32) = 0 from z) (by decide)) (fun _ => ⟨trivial, ?_⟩)
            have kI4 : clKI_a I J4 := fun b k h1 h2 => (S4 b k (by omega)).trans (kI3 b k h1 h2)
            have kG4 : clKG_a F G4 := fun b k h2 => (D4 b k (by omega)).trans (kG b k h2)
            have n4 : clN1_a f n k t A J4 := nA.ag (fun j _ _ _ _ => S4 39 j (by decide)) (fun j => S4 38 j (by decide))
            have W4 : clWd_a f (sVk f n k 8) (sVk f n k 9) (sVk f n k 10) J4 L2 := by
              obtain ⟨q1, q2, q3, q4, q5, q6, q7⟩ := W3
              refine ⟨(S4 39 6 (by decide)).trans q1, (S4 39 7 (by decide)).trans q2, (S4 39 8 (by decide)).trans q3, (S4 40 4 (by decide)).trans q4, (S4 40 5 (by decide)).trans q5, q6, fun i hi => ?_⟩
              obtain ⟨m1, m2, m3⟩ := q7 i hi
              exact ⟨(S4 42 i (by decide)).trans m1, (S4 43 i (by decide)).trans m2, (S4 44 i (by decide)).trans m3⟩
            exact hok A ⟨hf, hal, hvok, hA, hsh, hpl, hw⟩ J4 L2 G4 kI4 kL kG4 (clMd_a.of hvok hsh n4 W4 (C3.agS S4) (fun q hq => (S4 49 q (by decide)).trans (N3 q hq)) hv ((D4 38 3 (by decide)).trans g3) ((D4 38 4 (by decide)).trans g4))
          · refine And.intro (fun _ => ⟨trivial, ?_⟩) (fun z => absurd (show (0 : Int32) = 0 from rfl) z)
            exact hbad 12 (fl 12 (Or.inr ⟨rfl, hpl, hw⟩)) J4 L2 G4 (fun b k h1 h2 => (S4 b k (by omega)).trans (kI3 b k h1 h2)) kL (fun b k h2 => (D4 b k (by omega)).trans (kG b k h2))
        have c60 : ∀ x, x = nI (sDa a A) → XC xE0 (d + 6) xM_88 (60, [some (.ref 14), some (.ref 38), some (.int x)], [], (shG X (md1 T), J3, L2, G2)) Q := by
          intro x hx
          refine XC.block [78] 60 ?_
          refine And.intro (rf_in (j := 11) rfl (by decide) (by decide)) ?_
          refine cl_placed (t := t) F3 hG U3 hAin.1 hAin.2 hB nA.2.2.2.1 hx (fun hpl => ?_) (fun hpl => ?_)
          · exact And.intro (fun _ => c78 hpl x hx) (fun z => absurd (show ¬ (1 : Int32) = 0 by decide) z)
          · exact And.intro (fun z => absurd (show (0 : Int32) = 0 from rfl) z) (fun _ => ⟨trivial, hbad 11 (fl 11 (Or.inl ⟨rfl, hpl⟩)) J3 L2 G2 kI3 kL kG⟩)
        refine XC.block [60] 60 ?_
        refine And.intro (rf_in (j := 11) rfl (by decide) (by decide)) ?_
        exact cl_dataBegin e11 ha hAin.1 hAin.2 nA.2.2.2.1 (fun v hv => c60 v hv)
      refine XC.block [48] 60 ?_
      refine cl_takeShapes_a (t := t) (tk := f (sVk f n k 8 + 1)) (ly := sN f n k 3) hG (hF.agK_a kI) (hU.agK_a kI) g2.2.1.2 (N2.1 0 (by decide)) (N2.1 3 (by decide)) (N2.1 4 (by decide)) W2.1 ekv (by omega) bkv (by omega) (by have := gtx.2.2.1; omega) (fun hs J3 T3 C3 N3 => ?_) (fun hs J3 T3 => ?_)
      · exact And.intro (fun _ => c48 hs J3 T3 C3 N3) (fun z => absurd (show ¬ (1 : Int32) = 0 by decide) z)
      · refine And.intro (fun z => absurd (show (0 : Int32) = 0 from rfl) z) (fun _ => ⟨trivial, ?_⟩)
        exact hbad 10 (Or.inr ⟨hf, hal, Or.inr ⟨hvok, A, hA, Or.inl ⟨rfl, fun q => hs.elim (fun i hi => hi.2 (q i hi.1))⟩⟩⟩) J3 L2 G2 (fun b k h1 h2 => (T3 b k (by omega) (by omega) (by omega) (by omega)).trans (kI b k h1 h2)) kL kG
    have c18 : sG1 f n k → sG2 f n k → ∀ A, sAl1 f n k = some A → ∀ J2, clM_a J1 J2 → clN1_a f n k t A J2 → XC xE0 (d + 6) xM_88 (18, [some (.ref 14), some (.ref 38), none], [], (shG X (md1 T), J2, L, F)) Q := by
      intro g1 g2 A hA J2 M2 N2
      have kI2 : clKI_a I J2 := fun b k h1 h2 => (M2 b k (by omega) (by omega)).trans (kI1 b k h1 h2)
      have F2 := hF.agK_a kI2
      have s15 : ∀ j, J2 15 j = J1 15 j := fun j => M2 15 j (by omega) (by decide)
      have c26 : clRl (nI (sNum f (sVk f n k 6) 2)) (nI (sNum f (sVk f n k 7) 2)) → ∀ F', (∀ b k, ¬ (b = 38 ∧ (k = 3 ∨ k = 4)) → F' b k = F b k) → F' 38 3 = clRe (nI (sNum f (sVk f n k 6) 2)) → F' 38 4 = clRe (nI (sNum f (sVk f n k 7) 2)) → XC xE0 (d + 6) xM_88 (26, [some (.ref 14), some (.ref 38), none], [], (shG X (md1 T), J2, L, F')) Q := by
        intro hrl F' aF g3 g4
        have kG : clKG_a F F' := fun b k h2 => aF b k (by omega)
        have kW : ∀ J', clWW_a J2 J' → clKI_a I J' := fun J' a b k h1 h2 => (a b k (by omega) (by omega) (by omega) (by omega) (by omega)).trans (kI2 b k h1 h2)
        have kW2 : ∀ L', (∀ b k, b ≠ 41 → L' b k = L b k) → clKL_a L L' := fun L' a b k h2 => a b k (by omega)
        have e10 : sN f n k 10 = sNum f (sVk f n k 10) 4 := if_pos (Or.inr rfl)
        refine XC.block [34, 37] 60 ?_
        refine cl_takeWords_a hG F2 ((s15 6).trans (K1 8 (by decide))) he8 hTT.1 ((s15 7).trans (K1 9 (by decide))) he9 hTT.2 ((s15 8).trans (K1 10 (by decide))) v10 (fun t1 t2 t3 J' L' aI aL W => ?_) (fun t1 J' L' aI aL => ?_)
        · refine And.intro (fun _ => ?_) (fun z => absurd (show ¬ (1 : Int32) = 0 by decide) z)
          exact c37 A hA ⟨g1, g2, ⟨A, hA⟩, hrl, t1, t2, by rw [e10]; exact t3⟩ J' L' F' (kW J' aI) (kW2 L' aL) kG (N2.ag (fun j h1 h2 h3 h4 => aI 39 j (by omega) (by omega) (by decide) (by decide) (by decide)) (fun j => aI 38 j (by omega) (by omega) (by decide) (by decide) (by decide))) W g3 g4
        · refine And.intro (fun z => absurd (show (0 : Int32) = 0 from rfl) z) (fun _ => ?_)
          exact c34 J' L' F' (kW J' aI) (kW2 L' aL) kG (fun q => t1 ⟨q.2.2.2.2.1, q.2.2.2.2.2.1, by rw [← e10]; exact q.2.2.2.2.2.2⟩)
      refine XC.block [26, 34] 60 ?_
      refine cl_takeReals_a F2 hG ((s15 12).trans (K1 6 (by decide))) v6 ((s15 13).trans (K1 7 (by decide))) v7 (fun hrl F' aF g3 g4 => ?_) (fun hrl F' aF => ?_)
      · exact And.intro (fun z => absurd (show (1 : Int32) = 0 from z) (by decide)) (fun _ => c26 hrl F' aF g3 g4)
      · exact And.intro (fun _ => c34 J2 L F' kI2 (fun _ _ _ => rfl) (fun b k h2 => aF b k (by omega)) (fun q => hrl q.2.2.2.1)) (fun z => absurd (show (0 : Int32) = 0 from rfl) z)
    refine XC.block [18, 34] 60 ?_
    refine cl_takeNumbers_a (k := k) F1 hG k6 K11 hav (fun g1 g2 A hA J2 M2 n6 n9 n10 n11 m5 m6 => ?_) (fun z J2 M2 => ?_)
    · refine And.intro (fun z => absurd (show (1 : Int32) = 0 from z) (by decide)) (fun _ => ?_)
      exact c18 g1 g2 A hA J2 M2 ⟨n6, n9.trans b9, n10.trans U1.1, n11, m5, m6⟩
    · exact And.intro (fun _ => c34 J2 L F (fun b k h1 h2 => (M2 b k (by omega) (by omega)).trans (kI1 b k h1 h2)) (fun _ _ _ => rfl) (fun _ _ _ => rfl) (fun q => z ⟨q.1, q.2.1, q.2.2.1⟩)) (fun z => absurd (show (0 : Int32) = 0 from rfl) z)
  refine XC.block [10] 60 ?_
  refine cl_findKeys (k := k) hG hF hV (fun hf hal J1 W1 K1 K11 => ?_) (fun z J1 W1 => ?_)
  · exact And.intro (fun _ => c10 hf hal J1 W1 K1 K11) (fun z => absurd (show ¬ (1 : Int32) = 0 by decide) z)
  · exact And.intro (fun z => absurd (show (0 : Int32) = 0 from rfl) z) (fun _ => ⟨trivial, hbad 8 (Or.inl ⟨rfl, z⟩) J1 L F (fun b k h1 _ => W1 b k h1) (fun _ _ _ => rfl) (fun _ _ _ => rfl)⟩)
end CLM_a
section CLM_b
variable {X : List (Option Nat)} {T : List xS} {f : Nat → Nat} {n b t k a : Nat} {I J : Nat → Nat → Int32} {L : Nat → Nat → Int64} {F G : Nat → Nat → UInt32} {d : Nat} {Q : xP}
/-- the class holds the MODEL M -/
def clMd_b (M : pMd) (J : Nat → Nat → Int32) (L : Nat → Nat → Int64) (G : Nat → Nat → UInt32) : Prop := (∀ j, j < 12 → J 52 j = nI (mFa M j)) ∧ (J 53 4 = nI (mFa M 6) ∧ J 53 5 = nI (mFa M 7)) ∧ J 58 5 = nI (mFa M 10) ∧ (J 51 5 = nI (mFa M 0 / mFa M 1) ∧ J 51 6 = nI (mFa M 1 / mFa M 2)) ∧ (∀ i, i < mFa M 6 → L 54 i = lN (mTw M i)) ∧ (∀ i, i < mFa M 7 → J 55 i = nI (mMa M i) ∧ J 56 i = nI (mMb M i) ∧ J 57 i = nI (mMt M i)) ∧ (∀ q, q < 3 + 9 * mFa M 3 → J 62 q = nI (mNd M q)) ∧ (∀ i, i < mFa M 10 → J 60 i = nI (mCo M i) ∧ J 61 i = nI (mRo M i) ∧ J 59 i = nI (mBg M i) ∧ ∀ s, s < mCo M i * mRo M i → G 63 (mBg M i + s) = mWt M i s) ∧ G 51 3 = mEp M ∧ G 51 4 = mBa M
def clKI_b (I I' : Nat → Nat → Int32) : Prop := ∀ b k, b ≠ 15 → (51 ≤ b → 63 < b) → I' b k = I b k
def clKL_b (I I' : Nat → Nat → Int64) : Prop := ∀ b k, (51 ≤ b → 63 < b) → I' b k = I b k
def clKG_b (I I' : Nat → Nat → UInt32) : Prop := ∀ b k, (51 ≤ b → 63 < b) → I' b k = I b k
def clN1_b (f : Nat → Nat) (n k t A : Nat) (J : Nat → Nat → Int32) : Prop := (∀ j, j < 6 → J 52 j = nI (sN f n k j)) ∧ J 52 9 = nI k ∧ J 52 10 = nI t ∧ J 52 11 = nI A ∧ J 51 5 = nI (sN f n k 0 / sN f n k 1) ∧ J 51 6 = nI (sN f n k 1 / sN f n k 2)
theorem clN1_b.ag {A : Nat} (h : clN1_b f n k t A I) (a1 : ∀ j, j < 12 → j ≠ 6 → j ≠ 7 → j ≠ 8 → J 52 j = I 52 j) (a2 : ∀ j, J 51 j = I 51 j) : clN1_b f n k t A J := ⟨fun j hj => (a1 j (by omega) (by omega) (by omega) (by omega)).trans (h.1 j hj), (a1 9 (by decide) (by decide) (by decide) (by decide)).trans h.2.1, (a1 10 (by decide) (by decide) (by decide) (by decide)).trans h.2.2.1, (a1 11 (by decide) (by decide) (by decide) (by decide)).trans h.2.2.2.1, (a2 5).trans h.2.2.2.2.1, (a2 6).trans h.2.2.2.2.2⟩
theorem clF.agK_b (h : clF f n I) (a : clKI_b I J) : clF f n J := ⟨fun k hk => by rw [a 2 k (by decide) (by decide)]; exact h.1 k hk, (a 1 1 (by decide) (by decide)).trans h.2⟩
theorem clU.agK_b (h : clU f n b t I) (a : clKI_b I J) : clU f n b t J := by
  refine ⟨(a 5 10 (by decide) (by decide)).trans h.1, h.2.1, fun j hj => ?_⟩
  obtain ⟨h1, h2, h3, h4, h5⟩ := h.2.2 j hj
  exact ⟨⟨(a 9 j (by decide) (by decide)).trans h1.1, h1.2⟩, ⟨(a 10 j (by decide) (by decide)).trans h2.1, h2.2⟩, ⟨(a 11 j (by decide) (by decide)).trans h3.1, h3.2⟩, ⟨(a 12 j (by decide) (by decide)).trans h4.1, h4.2⟩, (a 13 j (by decide) (by decide)).trans h5.1, h5.2⟩
theorem clMd_b.of {A : Nat} (hv : clVok f n k) (hs : clShp f n k b t) (N : clN1_b f n k t A J) (W : clWd_b f (sVk f n k 8) (sVk f n k 9) (sVk f n k 10) J L) (C : clCR_b f n b t J) (hN : ∀ q, q < 3 + 9 * sN f n k 3 → J 62 q = rfO (sOg f n b t q)) (hW : ∀ i, i < t → clWs_b f n b (sDa a A) J G i) (g3 : G 51 3 = clRe (nI (sNum f (sVk f n k 6) 2))) (g4 : G 51 4 = clRe (nI (sNum f (sVk f n k 7) 2))) : clMd_b (mdC f n k b t A a) J L G := by
  refine ⟨?_, ⟨W.2.2.2.1, W.2.2.2.2.1⟩, C.1, ⟨N.2.2.2.2.1, N.2.2.2.2.2⟩, ?_, ?_, ?_, ?_, g3, g4⟩
  · intro j hj
    match j, hj with
    | 0, _ => exact N.1 0 (by decide)
    | 1, _ => exact N.1 1 (by decide)
    | 2, _ => exact N.1 2 (by decide)
    | 3, _ => exact N.1 3 (by decide)
    | 4, _ => exact N.1 4 (by decide)
    | 5, _ => exact N.1 5 (by decide)
    | 6, _ => exact W.1
    | 7, _ => exact W.2.1
    | 8, _ => exact W.2.2.1
    | 9, _ => exact N.2.1
    | 10, _ => exact N.2.2.1
    | 11, _ => exact N.2.2.2.1
    | j + 12, h => exact absurd h (by omega)
  · intro i hi
    rw [mTw_mdC]
    exact W.2.2.2.2.2.1 i hi
  · intro i hi
    obtain ⟨m1, m2, m3⟩ := W.2.2.2.2.2.2 i hi
    refine ⟨m1, m2, m3.trans ?_⟩
    have hm := hv.2.2.2.2.2.1
    have hi' : i < f (sVk f n k 9 + 1) := hi
    have h4 : sMg1 f (sTp f (sVk f n k 8)) (f (sVk f n k 8 + 1)) (sVk f n k 9 + 2 + 10 * i) := by
      rcases hm with h | h
      · omega
      · exact h.2.2 i hi'
    have h4 := h4.2.2.2
    show rfO (sTgt f (sTp f (sVk f n k 8)) (sTp f (sVk f n k 8) (sNum f (sVk f n k 9 + 2 + 10 * i + 2) 4)) (sTp f (sVk f n k 8) (sNum f (sVk f n k 9 + 2 + 10 * i + 6) 4)) (f (sVk f n k 8 + 1)) 0) = nI ((sTgt f (sTp f (sVk f n k 8)) (sTp f (sVk f n k 8) (sNum f (sVk f n k 9 + 2 + 10 * i + 2) 4)) (sTp f (sVk f n k 8) (sNum f (sVk f n k 9 + 2 + 10 * i + 6) 4)) (f (sVk f n k 8 + 1)) 0).getD 0)
    cases hq : sTgt f (sTp f (sVk f n k 8)) (sTp f (sVk f n k 8) (sNum f (sVk f n k 9 + 2 + 10 * i + 2) 4)) (sTp f (sVk f n k 8) (sNum f (sVk f n k 9 + 2 + 10 * i + 6) 4)) (f (sVk f n k 8 + 1)) 0 with
    | none => exact absurd hq h4
    | some j => rfl
  · intro q hq
    obtain ⟨i, e, -⟩ := hs q hq
    rw [hN q hq]
    show rfO (sOg f n b t q) = nI ((sOg f n b t q).getD 0)
    rw [e]; rfl
  · intro i hi
    have hi' : i < t := hi
    obtain ⟨c1, c2, -⟩ := C.2 i hi'
    obtain ⟨w1, w2⟩ := hW i hi'
    rw [mBg_mdC]
    exact ⟨c1, c2, w1, w2⟩
theorem cl_make_b (hG : rfG f n) (hF : clF f n I) (hU : clU f n b t I) (hV : clV2 f n k I) (h11 : I 5 11 = nI a) (ha : a ≤ 1400)
    (hok : ∀ A, clOk f n t k b a A → ∀ J' L' G', clKI_b I J' → clKL_b L L' → clKG_b F G' → clMd_b (mdC f n k b t A a) J' L' G' → Q (some (.int 0)) (shG X (md2 T), J', L', G'))
    (hbad : ∀ c, clFl f n t k b a c → ∀ J' L' G', clKI_b I J' → clKL_b L L' → clKG_b F G' → Q (some (.int (nI c))) (shG X (md2 T), J', L', G')) : XM xE0 (d + 6) 88 [.ref 14, .ref 51] (shG X (md2 T), I, L, F) Q := by
  have hn := hG.2
  have c10 : sFnd f n k → sAok f n k → ∀ J1, clW I J1 → (∀ j, j < 11 → J1 15 ([0, 1, 2, 3, 4, 5, 12, 13, 6, 7, 8].getD j 0) = nI (sVk f n k j)) → J1 15 11 = sAva f n k → XC xE0 (d + 6) xM_88 (10, [some (.ref 14), some (.ref 51), none], [], (shG X (md2 T), J1, L, F)) Q := by
    intro hf hal J1 W1 K1 K11
    have val : ∀ j, j < 11 → ∃ e, sVal f n (sTs.getD j 0) (sVk f n k j) = .inr e := fun j hj => sVk_val hV.2.2.2 (hf.1 j hj)
    have v4 : ∀ j, j < 6 → sVk f n k j + 4 ≤ n := by
      intro j hj
      obtain ⟨e, he⟩ := val j (by omega)
      match j, hj with
      | 0, _ => exact sVal0 he
      | 1, _ => exact sVal0 he
      | 2, _ => exact sVal0 he
      | 3, _ => exact sVal0 he
      | 4, _ => exact sVal0 he
      | 5, _ => exact sVal0 he
      | j + 6, h => exact absurd h (by omega)
    have v10 : sVk f n k 10 + 4 ≤ n := (val 10 (by decide)).elim (fun e he => sVal0 he)
    have v6 : sVk f n k 6 + 2 ≤ n := (val 6 (by decide)).elim (fun e he => sVal1 he)
    have v7 : sVk f n k 7 + 2 ≤ n := (val 7 (by decide)).elim (fun e he => sVal1 he)
    obtain ⟨e8, he8⟩ := val 8 (by decide)
    obtain ⟨e9, he9⟩ := val 9 (by decide)
    have he8 := sVal3 he8
    have he9 := sVal3 he9
    have hTT := sTF_or hf.2
    have k6 : ∀ j, j < 6 → J1 15 j = nI (sVk f n k j) ∧ sVk f n k j + 4 ≤ n := by
      intro j hj
      refine ⟨?_, v4 j hj⟩
      match j, hj with
      | 0, _ => exact K1 0 (by decide)
      | 1, _ => exact K1 1 (by decide)
      | 2, _ => exact K1 2 (by decide)
      | 3, _ => exact K1 3 (by decide)
      | 4, _ => exact K1 4 (by decide)
      | 5, _ => exact K1 5 (by decide)
      | j + 6, h => exact absurd h (by omega)
    have hav : ∀ i, sKf f n (sWd sWa) 5 k 0 = some i → sVa f n i + 4 ≤ n := by
      intro i hi
      have hl := sKf_lt _ _ _ hi
      have hv := (hV.2.2.2 i (by omega)).2
      rw [hal i hi] at hv
      exact sVal0 hv
    have kI1 : clKI_b I J1 := fun b k h1 _ => W1 b k h1
    have F1 := hF.agK_b kI1
    have U1 := hU.agK_b kI1
    have b9 : J1 5 9 = nI k := (W1 5 9 (by decide)).trans hV.1
    have c34 : ∀ J' L' G', clKI_b I J' → clKL_b L L' → clKG_b F G' → ¬ clVok f n k → XC xE0 (d + 6) xM_88 (34, [some (.ref 14), some (.ref 51), none], [], (shG X (md2 T), J', L', G')) Q := by
      intro J' L' G' kI kL kG z
      refine XC.block [] 60 ?_
      exact ⟨trivial, hbad 9 (Or.inr ⟨hf, hal, Or.inl ⟨rfl, z⟩⟩) J' L' G' kI kL kG⟩
    have c37 : ∀ A, sAl1 f n k = some A → clVok f n k → ∀ J2 L2 G2, clKI_b I J2 → clKL_b L L2 → clKG_b F G2 → clN1_b f n k t A J2 → clWd_b f (sVk f n k 8) (sVk f n k 9) (sVk f n k 10) J2 L2 → G2 51 3 = clRe (nI (sNum f (sVk f n k 6) 2)) → G2 51 4 = clRe (nI (sNum f (sVk f n k 7) 2)) → XC xE0 (d + 6) xM_88 (37, [some (.ref 14), some (.ref 51), none], [], (shG X (md2 T), J2, L2, G2)) Q := by
      intro A hA hvok J2 L2 G2 kI kL kG N2 W2 g3 g4
      have hAin := sAl1_in hA
      obtain ⟨g1, g2, -, -, gtx, -, -⟩ := id hvok
      have b0 : sN f n k 0 ≤ 16 := by have := g1.1; omega
      have b1 : 1 ≤ sN f n k 1 ∧ sN f n k 1 ≤ 4 := by have := g1.2.1; omega
      have b2 : sN f n k 2 ≤ 4 := by
        have h0 := g2.1
        have := Nat.le_of_dvd (by omega) (Nat.dvd_of_mod_eq_zero h0)
        omega
      have b4 : sN f n k 4 ≤ 16 := by have := g2.2.2.1; omega
      have bkv : sN f n k 0 / sN f n k 1 * sN f n k 2 < 2 ^ 31 := by
        have h1 : sN f n k 0 / sN f n k 1 ≤ 16 := Nat.le_trans (Nat.div_le_self _ _) b0
        have := Nat.mul_le_mul h1 b2
        omega
      have ekv : J2 51 5 * J2 52 2 = nI (sN f n k 0 / sN f n k 1 * sN f n k 2) := by rw [N2.2.2.2.2.1, N2.1 2 (by decide), nI_mul]
      have c48 : clShp f n k b t → ∀ J3, clT_b J2 J3 → clCR_b f n b t J3 → (∀ q, q < 3 + 9 * sN f n k 3 → J3 62 q = rfO (sOg f n b t q)) → XC xE0 (d + 6) xM_88 (48, [some (.ref 14), some (.ref 51), none], [], (shG X (md2 T), J3, L2, G2)) Q := by
        intro hsh J3 T3 C3 N3
        have kI3 : clKI_b I J3 := fun b k h1 h2 => (T3 b k (by omega) (by omega) (by omega) (by omega)).trans (kI b k h1 h2)
        have F3 := hF.agK_b kI3
        have U3 := hU.agK_b kI3
        have nA : clN1_b f n k t A J3 := N2.ag (fun j _ _ _ _ => T3 52 j (by omega) (by decide) (by decide) (by decide)) (fun j => T3 51 j (by omega) (by decide) (by decide) (by decide))
        have e11 : J3 5 11 = nI a := (kI3 5 11 (by decide) (by decide)).trans h11
        have hB : sDa a A ≤ 1500 := Nat.le_trans (sDa_le ha hAin.1 hAin.2) (by decide)
        have W3 : clWd_b f (sVk f n k 8) (sVk f n k 9) (sVk f n k 10) J3 L2 := by
          obtain ⟨q1, q2, q3, q4, q5, q6, q7⟩ := W2
          refine ⟨(T3 52 6 (by omega) (by decide) (by decide) (by decide)).trans q1, (T3 52 7 (by omega) (by decide) (by decide) (by decide)).trans q2, (T3 52 8 (by omega) (by decide) (by decide) (by decide)).trans q3, (T3 53 4 (by omega) (by decide) (by decide) (by decide)).trans q4, (T3 53 5 (by omega) (by decide) (by decide) (by decide)).trans q5, q6, fun i hi => ?_⟩
          obtain ⟨m1, m2, m3⟩ := q7 i hi
          exact ⟨(T3 55 i (by omega) (by decide) (by decide) (by decide)).trans m1, (T3 56 i (by omega) (by decide) (by decide) (by decide)).trans m2, (T3 57 i (by omega) (by decide) (by decide) (by decide)).trans m3⟩
        have fl : ∀ c, ((c = 11 ∧ ¬ (∀ i, i < t → sPl f n b (sDa a A) A i)) ∨ (c = 12 ∧ (∀ i, i < t → sPl f n b (sDa a A) A i) ∧ ¬ (∀ i, i < t → clWt f n b (sDa a A) i))) → clFl f n t k b a c := fun c h => Or.inr ⟨hf, hal, Or.inr ⟨hvok, A, hA, Or.inr ⟨hsh, h⟩⟩⟩
        have c78 : (∀ i, i < t → sPl f n b (sDa a A) A i) → ∀ x, x = nI (sDa a A) → XC xE0 (d + 6) xM_88 (78, [some (.ref 14), some (.ref 51), some (.int x)], [], (shG X (md2 T), J3, L2, G2)) Q := by
          intro hpl x hx
          refine XC.block [] 60 ?_
          refine cl_takeWeights_b (t := t) hG F3 U3 C3 hB hpl hx (fun hw J4 G4 S4 D4 hv => ?_) (fun hw J4 G4 S4 D4 => ?_)
          · refine And.intro (fun z => absurd (show (1 : Int32) = 0 from z) (by decide)) (fun _ => ⟨trivial, ?_⟩)
            have kI4 : clKI_b I J4 := fun b k h1 h2 => (S4 b k (by omega)).trans (kI3 b k h1 h2)
            have kG4 : clKG_b F G4 := fun b k h2 => (D4 b k (by omega)).trans (kG b k h2)
            have n4 : clN1_b f n k t A J4 := nA.ag (fun j _ _ _ _ => S4 52 j (by decide)) (fun j => S4 51 j (by decide))
            have W4 : clWd_b f (sVk f n k 8) (sVk f n k 9) (sVk f n k 10) J4 L2 := by
              obtain ⟨q1, q2, q3, q4, q5, q6, q7⟩ := W3
              refine ⟨(S4 52 6 (by decide)).trans q1, (S4 52 7 (by decide)).trans q2, (S4 52 8 (by decide)).trans q3, (S4 53 4 (by decide)).trans q4, (S4 53 5 (by decide)).trans q5, q6, fun i hi => ?_⟩
              obtain ⟨m1, m2, m3⟩ := q7 i hi
              exact ⟨(S4 55 i (by decide)).trans m1, (S4 56 i (by decide)).trans m2, (S4 57 i (by decide)).trans m3⟩
            exact hok A ⟨hf, hal, hvok, hA, hsh, hpl, hw⟩ J4 L2 G4 kI4 kL kG4 (clMd_b.of hvok hsh n4 W4 (C3.agS S4) (fun q hq => (S4 62 q (by decide)).trans (N3 q hq)) hv ((D4 51 3 (by decide)).trans g3) ((D4 51 4 (by decide)).trans g4))
          · refine And.intro (fun _ => ⟨trivial, ?_⟩) (fun z => absurd (show (0 : Int32) = 0 from rfl) z)
            exact hbad 12 (fl 12 (Or.inr ⟨rfl, hpl, hw⟩)) J4 L2 G4 (fun b k h1 h2 => (S4 b k (by omega)).trans (kI3 b k h1 h2)) kL (fun b k h2 => (D4 b k (by omega)).trans (kG b k h2))
        have c60 : ∀ x, x = nI (sDa a A) → XC xE0 (d + 6) xM_88 (60, [some (.ref 14), some (.ref 51), some (.int x)], [], (shG X (md2 T), J3, L2, G2)) Q := by
          intro x hx
          refine XC.block [78] 60 ?_
          refine And.intro (rf_in (j := 11) rfl (by decide) (by decide)) ?_
          refine cl_placed (t := t) F3 hG U3 hAin.1 hAin.2 hB nA.2.2.2.1 hx (fun hpl => ?_) (fun hpl => ?_)
          · exact And.intro (fun _ => c78 hpl x hx) (fun z => absurd (show ¬ (1 : Int32) = 0 by decide) z)
          · exact And.intro (fun z => absurd (show (0 : Int32) = 0 from rfl) z) (fun _ => ⟨trivial, hbad 11 (fl 11 (Or.inl ⟨rfl, hpl⟩)) J3 L2 G2 kI3 kL kG⟩)
        refine XC.block [60] 60 ?_
        refine And.intro (rf_in (j := 11) rfl (by decide) (by decide)) ?_
        exact cl_dataBegin e11 ha hAin.1 hAin.2 nA.2.2.2.1 (fun v hv => c60 v hv)
      refine XC.block [48] 60 ?_
      refine cl_takeShapes_b (t := t) (tk := f (sVk f n k 8 + 1)) (ly := sN f n k 3) hG (hF.agK_b kI) (hU.agK_b kI) g2.2.1.2 (N2.1 0 (by decide)) (N2.1 3 (by decide)) (N2.1 4 (by decide)) W2.1 ekv (by omega) bkv (by omega) (by have := gtx.2.2.1; omega) (fun hs J3 T3 C3 N3 => ?_) (fun hs J3 T3 => ?_)
      · exact And.intro (fun _ => c48 hs J3 T3 C3 N3) (fun z => absurd (show ¬ (1 : Int32) = 0 by decide) z)
      · refine And.intro (fun z => absurd (show (0 : Int32) = 0 from rfl) z) (fun _ => ⟨trivial, ?_⟩)
        exact hbad 10 (Or.inr ⟨hf, hal, Or.inr ⟨hvok, A, hA, Or.inl ⟨rfl, fun q => hs.elim (fun i hi => hi.2 (q i hi.1))⟩⟩⟩) J3 L2 G2 (fun b k h1 h2 => (T3 b k (by omega) (by omega) (by omega) (by omega)).trans (kI b k h1 h2)) kL kG
    have c18 : sG1 f n k → sG2 f n k → ∀ A, sAl1 f n k = some A → ∀ J2, clM_b J1 J2 → clN1_b f n k t A J2 → XC xE0 (d + 6) xM_88 (18, [some (.ref 14), some (.ref 51), none], [], (shG X (md2 T), J2, L, F)) Q := by
      intro g1 g2 A hA J2 M2 N2
      have kI2 : clKI_b I J2 := fun b k h1 h2 => (M2 b k (by omega) (by omega)).trans (kI1 b k h1 h2)
      have F2 := hF.agK_b kI2
      have s15 : ∀ j, J2 15 j = J1 15 j := fun j => M2 15 j (by omega) (by decide)
      have c26 : clRl (nI (sNum f (sVk f n k 6) 2)) (nI (sNum f (sVk f n k 7) 2)) → ∀ F', (∀ b k, ¬ (b = 51 ∧ (k = 3 ∨ k = 4)) → F' b k = F b k) → F' 51 3 = clRe (nI (sNum f (sVk f n k 6) 2)) → F' 51 4 = clRe (nI (sNum f (sVk f n k 7) 2)) → XC xE0 (d + 6) xM_88 (26, [some (.ref 14), some (.ref 51), none], [], (shG X (md2 T), J2, L, F')) Q := by
        intro hrl F' aF g3 g4
        have kG : clKG_b F F' := fun b k h2 => aF b k (by omega)
        have kW : ∀ J', clWW_b J2 J' → clKI_b I J' := fun J' a b k h1 h2 => (a b k (by omega) (by omega) (by omega) (by omega) (by omega)).trans (kI2 b k h1 h2)
        have kW2 : ∀ L', (∀ b k, b ≠ 54 → L' b k = L b k) → clKL_b L L' := fun L' a b k h2 => a b k (by omega)
        have e10 : sN f n k 10 = sNum f (sVk f n k 10) 4 := if_pos (Or.inr rfl)
        refine XC.block [34, 37] 60 ?_
        refine cl_takeWords_b hG F2 ((s15 6).trans (K1 8 (by decide))) he8 hTT.1 ((s15 7).trans (K1 9 (by decide))) he9 hTT.2 ((s15 8).trans (K1 10 (by decide))) v10 (fun t1 t2 t3 J' L' aI aL W => ?_) (fun t1 J' L' aI aL => ?_)
        · refine And.intro (fun _ => ?_) (fun z => absurd (show ¬ (1 : Int32) = 0 by decide) z)
          exact c37 A hA ⟨g1, g2, ⟨A, hA⟩, hrl, t1, t2, by rw [e10]; exact t3⟩ J' L' F' (kW J' aI) (kW2 L' aL) kG (N2.ag (fun j h1 h2 h3 h4 => aI 52 j (by omega) (by omega) (by decide) (by decide) (by decide)) (fun j => aI 51 j (by omega) (by omega) (by decide) (by decide) (by decide))) W g3 g4
        · refine And.intro (fun z => absurd (show (0 : Int32) = 0 from rfl) z) (fun _ => ?_)
          exact c34 J' L' F' (kW J' aI) (kW2 L' aL) kG (fun q => t1 ⟨q.2.2.2.2.1, q.2.2.2.2.2.1, by rw [← e10]; exact q.2.2.2.2.2.2⟩)
      refine XC.block [26, 34] 60 ?_
      refine cl_takeReals_b F2 hG ((s15 12).trans (K1 6 (by decide))) v6 ((s15 13).trans (K1 7 (by decide))) v7 (fun hrl F' aF g3 g4 => ?_) (fun hrl F' aF => ?_)
      · exact And.intro (fun z => absurd (show (1 : Int32) = 0 from z) (by decide)) (fun _ => c26 hrl F' aF g3 g4)
      · exact And.intro (fun _ => c34 J2 L F' kI2 (fun _ _ _ => rfl) (fun b k h2 => aF b k (by omega)) (fun q => hrl q.2.2.2.1)) (fun z => absurd (show (0 : Int32) = 0 from rfl) z)
    refine XC.block [18, 34] 60 ?_
    refine cl_takeNumbers_b (k := k) F1 hG k6 K11 hav (fun g1 g2 A hA J2 M2 n6 n9 n10 n11 m5 m6 => ?_) (fun z J2 M2 => ?_)
    · refine And.intro (fun z => absurd (show (1 : Int32) = 0 from z) (by decide)) (fun _ => ?_)
      exact c18 g1 g2 A hA J2 M2 ⟨n6, n9.trans b9, n10.trans U1.1, n11, m5, m6⟩
    · exact And.intro (fun _ => c34 J2 L F (fun b k h1 h2 => (M2 b k (by omega) (by omega)).trans (kI1 b k h1 h2)) (fun _ _ _ => rfl) (fun _ _ _ => rfl) (fun q => z ⟨q.1, q.2.1, q.2.2.1⟩)) (fun z => absurd (show (0 : Int32) = 0 from rfl) z)
  refine XC.block [10] 60 ?_
  refine cl_findKeys (k := k) hG hF hV (fun hf hal J1 W1 K1 K11 => ?_) (fun z J1 W1 => ?_)
  · exact And.intro (fun _ => c10 hf hal J1 W1 K1 K11) (fun z => absurd (show ¬ (1 : Int32) = 0 by decide) z)
  · exact And.intro (fun z => absurd (show (0 : Int32) = 0 from rfl) z) (fun _ => ⟨trivial, hbad 8 (Or.inl ⟨rfl, z⟩) J1 L F (fun b k h1 _ => W1 b k h1) (fun _ _ _ => rfl) (fun _ _ _ => rfl)⟩)
end CLM_b
