/-! load of the reference -/
/-- a MODEL: facts, length and letters of TOKENS, merges (a, b, both), needed TENSORS, COLUMNS, ROWS, weights, eps, base -/
abbrev pMd : Type := (Nat → Nat) × (Nat → Nat) × (Nat → Nat → Nat) × (Nat → Nat) × (Nat → Nat) × (Nat → Nat) × (Nat → Nat) × (Nat → Nat) × (Nat → Nat) × (Nat → Nat → UInt32) × UInt32 × UInt32
def mFa (M : pMd) : Nat → Nat := M.1
def mTl (M : pMd) : Nat → Nat := M.2.1
def mTc (M : pMd) : Nat → Nat → Nat := M.2.2.1
def mMa (M : pMd) : Nat → Nat := M.2.2.2.1
def mMb (M : pMd) : Nat → Nat := M.2.2.2.2.1
def mMt (M : pMd) : Nat → Nat := M.2.2.2.2.2.1
def mNd (M : pMd) : Nat → Nat := M.2.2.2.2.2.2.1
def mCo (M : pMd) : Nat → Nat := M.2.2.2.2.2.2.2.1
def mRo (M : pMd) : Nat → Nat := M.2.2.2.2.2.2.2.2.1
def mWt (M : pMd) : Nat → Nat → UInt32 := M.2.2.2.2.2.2.2.2.2.1
def mEp (M : pMd) : UInt32 := M.2.2.2.2.2.2.2.2.2.2.1
def mBa (M : pMd) : UInt32 := M.2.2.2.2.2.2.2.2.2.2.2
def mBg (M : pMd) : Nat → Nat
  | 0 => 0
  | i + 1 => mBg M i + mCo M i * mRo M i
/-- the reference holds the MODEL M -/
def rfMd (M : pMd) (I : Nat → Nat → Int32) (F : Nat → Nat → UInt32) : Prop := I 0 38 = 1 ∧ (∀ j, j < 12 → I 17 j = nI (mFa M j)) ∧ (∀ i, i < mFa M 6 → I 19 i = nI (mTl M i) ∧ ∀ j, j < mTl M i → I 18 (4 * i + j) = nI (mTc M i j)) ∧ (∀ i, i < mFa M 7 → I 20 i = nI (mMa M i) ∧ I 21 i = nI (mMb M i) ∧ I 22 i = nI (mMt M i)) ∧ (∀ q, q < 3 + 9 * mFa M 3 → I 23 q = nI (mNd M q)) ∧ (∀ i, i < mFa M 10 → I 24 i = nI (mCo M i) ∧ I 25 i = nI (mRo M i) ∧ I 26 i = nI (mBg M i) ∧ ∀ s, s < mCo M i * mRo M i → F 27 (mBg M i + s) = mWt M i s) ∧ F 0 39 = mEp M ∧ F 0 40 = mBa M
/-- the MODEL that a FILE says -/
def mdF (f : Nat → Nat) (n k b t A a : Nat) : pMd := (fun j => [sN f n k 0, sN f n k 1, sN f n k 2, sN f n k 3, sN f n k 4, sN f n k 5, f (sVk f n k 8 + 1), f (sVk f n k 9 + 1), sN f n k 10, k, t, A].getD j 0, fun i => f (sTp f (sVk f n k 8) i), fun i j => f (sTp f (sVk f n k 8) i + 1 + j), fun i => sNum f (sVk f n k 9 + 2 + 10 * i + 2) 4, fun i => sNum f (sVk f n k 9 + 2 + 10 * i + 6) 4, fun i => (sTgt f (sTp f (sVk f n k 8)) (sTp f (sVk f n k 8) (sNum f (sVk f n k 9 + 2 + 10 * i + 2) 4)) (sTp f (sVk f n k 8) (sNum f (sVk f n k 9 + 2 + 10 * i + 6) 4)) (f (sVk f n k 8 + 1)) 0).getD 0, fun q => (sOq f n b t q).getD 0, sCo f n b, sRo f n b, rfWg f n b (sDa a A), rfRe (rfEp f n k), rfRe (rfBa f n k))
theorem mBg_mdF {f : Nat → Nat} {n k b t A a : Nat} : ∀ i, mBg (mdF f n k b t A a) i = sBg f n b i
  | 0 => rfl
  | i + 1 => by
    show mBg (mdF f n k b t A a) i + sCo f n b i * sRo f n b i = sBg f n b i + sCo f n b i * sRo f n b i
    rw [mBg_mdF i]
/-- nothing else changes when a MODEL is taken -/
def rfKf (I I' : Nat → Nat → Int32) : Prop := ∀ b k, (b = 0 → k < 38 ∨ (38 < k ∧ k < 58) ∨ 61 < k) → (17 ≤ b → 26 < b) → I' b k = I b k
def rfKg (F F' : Nat → Nat → UInt32) : Prop := ∀ b k, b ≠ 27 → ¬ (b = 0 ∧ (k = 39 ∨ k = 40)) → F' b k = F b k
section RFY
variable {f : Nat → Nat} {n b t k a A : Nat} {I J : Nat → Nat → Int32} {L : Nat → Nat → Int64} {F G : Nat → Nat → UInt32} {d : Nat} {Q : xP}
theorem rf_reset (hQ : Q (some (.int (I 0 60))) (sh2, x2 (x2 (x2 (x2 I 0 60 0) 0 61 0) 0 59 0) 0 58 0, L, F)) : XM xE0 d 76 [.ref 0] (sh2, I, L, F) Q := by
  refine XC.block [] 60 ?_
  exact ⟨trivial, hQ⟩
theorem rf_take (hG : rfG f n) (hF : rfF f n I) (hU : rfU f n b t I) (hT : rfT f n k I) (h13 : I 0 13 = nI k) (hv : sVok f n k) (hA : sAlF f n k 0 8 = some A) (h24 : I 0 24 = nI (sDa a A)) (hpl : ∀ i, i < t → sPl f n b (sDa a A) A i) (hO : ∀ q, q < 3 + 9 * sN f n k 3 → I 15 q = rfO (sOq f n b t q) ∧ sOq f n b t q ≠ none) (f25 : F 0 25 = rfRe (rfEp f n k)) (f26 : F 0 26 = rfRe (rfBa f n k))
    (hgo : ∀ J' G', rfKf I J' → rfKg F G' → rfMd (mdF f n k b t A a) J' G' → J' 0 58 = 0 → J' 0 59 = 0 → J' 0 60 = 0 → J' 0 61 = 0 → Q none (sh2, J', L, G')) : XM xE0 (d + 3) 53 [.ref 0] (sh2, I, L, F) Q := by
  obtain ⟨t10, ⟨A', tA, t11⟩, t22, t11a, t23, tM⟩ := hT
  have eA : A' = A := by rw [hA] at tA; injection tA with tA; exact tA.symm
  subst eA
  obtain ⟨g1, g2, geb, gtx, gmg, gst, -⟩ := hv
  have hn := hG.2
  have hmg : f (sVk f n k 9 + 1) ≤ 12 := by
    rcases gmg with y | y
    · omega
    · exact y.2.1
  have hbg := sBg_le (t := t) hn hpl (fun i hi => (hU.2.2 i hi).2.2.2.1.2.2)
  refine XC.block [7] 60 ?_
  refine And.intro (show (1 : Int32) = 0 ∨ (1 : Int32) = 1 from Or.inr rfl) ?_
  refine rf_tk7 (I := x2 I 0 38 1) (fun J1 x1 D1 h1 => ?_) 6 0 (by omega) _ (fun _ _ _ => rfl) (fun j hj => absurd hj (by omega)) _ rfl
  refine rf_tk31 (fun J2 D2 h2 q6 q7 q8 q9 q10 q11 => ?_)
  have E2 : ∀ b k, b ≠ 17 → ¬ (b = 0 ∧ k = 38) → J2 b k = I b k := fun b k h h' => by rw [D2 b k h, D1 b k h, x2_o _ _ (by omega)]
  have F2 : rfF f n J2 := ⟨fun k hk => (E2 1 k (by decide) (by omega)).trans (hF.1 k hk), (E2 0 1 (by decide) (by omega)).trans hF.2⟩
  have p17 : ∀ j, j < 12 → J2 17 j = nI (mFa (mdF f n k b t A' a) j) := by
    intro j hj
    match j, hj with
    | 0, _ => rw [h2 0 (by decide), h1 0 (by decide)]; exact t10 0 (by decide)
    | 1, _ => rw [h2 1 (by decide), h1 1 (by decide)]; exact t10 1 (by decide)
    | 2, _ => rw [h2 2 (by decide), h1 2 (by decide)]; exact t10 2 (by decide)
    | 3, _ => rw [h2 3 (by decide), h1 3 (by decide)]; exact t10 3 (by decide)
    | 4, _ => rw [h2 4 (by decide), h1 4 (by decide)]; exact t10 4 (by decide)
    | 5, _ => rw [h2 5 (by decide), h1 5 (by decide)]; exact t10 5 (by decide)
    | 6, _ => rw [q6, D1 0 22 (by decide)]; exact t22
    | 7, _ => rw [q7, D1 0 23 (by decide)]; exact t23
    | 8, _ => rw [q8, D1 10 10 (by decide)]; exact t10 10 (by decide)
    | 9, _ => rw [q9, D1 0 13 (by decide)]; exact h13
    | 10, _ => rw [q10, D1 0 14 (by decide)]; exact hU.1
    | 11, _ => rw [q11, D1 10 11 (by decide)]; exact t11
    | j + 12, h => exact absurd h (by omega)
  refine rf_tk121 (I := J2) hG F2 (K := sTp f (sVk f n k 8)) (m := f (sVk f n k 8 + 1)) gtx.2.2.1 ((E2 0 22 (by decide) (by omega)).trans t22) (fun i hi => ⟨(E2 11 i (by decide) (by omega)).trans (t11a i hi).1, (t11a i hi).2, (gtx.2.2.2 i hi).2.1⟩) (fun J3 x3 y2 D3 h3 => ?_) (f (sVk f n k 8 + 1)) 0 (by omega) J2 (fun _ _ _ _ => rfl) (fun l hl => absurd hl (by omega)) _ _ rfl
  refine XC.block [197] 60 ?_
  have E3 : ∀ b k, b ≠ 17 → b ≠ 18 → b ≠ 19 → ¬ (b = 0 ∧ k = 38) → J3 b k = I b k := fun b k a1 a2 a3 a4 => (D3 b k a2 a3).trans (E2 b k a1 a4)
  refine rf_tk197 (I := J3) (g := f (sVk f n k 9 + 1)) hmg ((E3 0 23 (by decide) (by decide) (by decide) (by omega)).trans t23) (fun J4 x4 D4 h4 y2 => ?_) (f (sVk f n k 9 + 1)) 0 (by omega) J3 (fun _ _ _ _ _ => rfl) (fun l hl => absurd hl (by omega)) _ _ rfl
  refine XC.block [249] 60 ?_
  have E4 : ∀ b k, b ≠ 17 → b ≠ 18 → b ≠ 19 → b ≠ 20 → b ≠ 21 → b ≠ 22 → ¬ (b = 0 ∧ k = 38) → J4 b k = I b k := fun b k a1 a2 a3 a4 a5 a6 a7 => (D4 b k a4 a5 a6).trans (E3 b k a1 a2 a3 a7)
  refine rf_tk249 (I := J4) (ly := sN f n k 3) g2.2.1.2 ((E4 10 3 (by decide) (by decide) (by decide) (by decide) (by decide) (by decide) (by omega)).trans (t10 3 (by decide))) (fun J5 x5 y2 D5 h5 => ?_) (3 + 9 * sN f n k 3) 0 (by omega) J4 (fun _ _ _ => rfl) (fun l hl => absurd hl (by omega)) _ _ rfl
  refine XC.block [286] 60 ?_
  have E5 : ∀ b k, (17 ≤ b → 23 < b) → ¬ (b = 0 ∧ k = 38) → J5 b k = I b k := fun b k a1 a7 => (D5 b k (by omega)).trans (E4 b k (by omega) (by omega) (by omega) (by omega) (by omega) (by omega) a7)
  have F5 : rfF f n J5 := ⟨fun k hk => (E5 1 k (by omega) (by omega)).trans (hF.1 k hk), (E5 0 1 (by omega) (by omega)).trans hF.2⟩
  have U5 : rfU f n b t J5 := by
    refine ⟨(E5 0 14 (by omega) (by omega)).trans hU.1, hU.2.1, fun j hj => ?_⟩
    obtain ⟨a1, a2, a3, a4, a5⟩ := hU.2.2 j hj
    exact ⟨⟨(E5 5 j (by omega) (by omega)).trans a1.1, a1.2⟩, ⟨(E5 6 j (by omega) (by omega)).trans a2.1, a2.2⟩, ⟨(E5 7 j (by omega) (by omega)).trans a3.1, a3.2⟩, ⟨(E5 8 j (by omega) (by omega)).trans a4.1, a4.2⟩, (E5 9 j (by omega) (by omega)).trans a5.1, a5.2⟩
  refine rf_tk286 (I := J5) (F := x2 (x2 F 0 39 (F 0 25)) 0 40 (F 0 26)) hG F5 U5 ((E5 0 24 (by omega) (by omega)).trans h24) (fun i hi => (hpl i hi).1.2) hbg (fun J6 G6 x1 x2' y3 D6 DG6 h6 => ?_) t 0 (by omega) J5 _ (fun _ _ _ _ _ => rfl) (fun _ _ _ => rfl) (fun l hl => absurd hl (by omega)) _ _ _ rfl rfl
  refine XC.block [] 60 ?_
  refine rf_reset ⟨trivial, ?_⟩
  have E6 : ∀ b k, (17 ≤ b → 26 < b) → ¬ (b = 0 ∧ k = 38) → J6 b k = I b k := fun b k a1 a7 => (D6 b k (by omega) (by omega) (by omega)).trans (E5 b k (by omega) a7)
  have R : ∀ b k, b ≠ 0 → x2 (x2 (x2 (x2 J6 0 60 0) 0 61 0) 0 59 0) 0 58 0 b k = J6 b k := fun b k hb => by rw [x2_o _ _ (by omega), x2_o _ _ (by omega), x2_o _ _ (by omega), x2_o _ _ (by omega)]
  refine hgo _ G6 (fun b k h1' h2' => ?_) (fun b k h1' h2' => ?_) ⟨?_, fun j hj => ?_, fun i hi => ?_, fun i hi => ?_, fun q hq => ?_, fun i hi => ?_, ?_, ?_⟩ ?_ ?_ ?_ ?_
  · rw [x2_o _ _ (by omega), x2_o _ _ (by omega), x2_o _ _ (by omega), x2_o _ _ (by omega)]
    exact E6 b k h2' (by omega)
  · rw [DG6 b k h1', x2_o _ _ (by omega), x2_o _ _ (by omega)]
  · rw [x2_o _ _ (by omega), x2_o _ _ (by omega), x2_o _ _ (by omega), x2_o _ _ (by omega), D6 0 38 (by decide) (by decide) (by decide), D5 0 38 (by decide), D4 0 38 (by decide) (by decide) (by decide), D3 0 38 (by decide) (by decide), D2 0 38 (by decide), D1 0 38 (by decide), x2_same]
  · rw [R 17 j (by decide), D6 17 j (by decide) (by decide) (by decide), D5 17 j (by decide), D4 17 j (by decide) (by decide) (by decide), D3 17 j (by decide) (by decide)]
    exact p17 j hj
  · obtain ⟨a1, a2⟩ := h3 i hi
    refine ⟨?_, fun j hj => ?_⟩
    · rw [R 19 i (by decide), D6 19 i (by decide) (by decide) (by decide), D5 19 i (by decide), D4 19 i (by decide) (by decide) (by decide)]; exact a1
    · rw [R 18 _ (by decide), D6 18 _ (by decide) (by decide) (by decide), D5 18 _ (by decide), D4 18 _ (by decide) (by decide) (by decide)]; exact a2 j hj
  · obtain ⟨a1, a2, a3⟩ := h4 i hi
    obtain ⟨m1, m2, m3⟩ := tM i hi
    refine ⟨?_, ?_, ?_⟩
    · rw [R 20 i (by decide), D6 20 i (by decide) (by decide) (by decide), D5 20 i (by decide), a1, E3 12 i (by decide) (by decide) (by decide) (by omega)]; exact m1
    · rw [R 21 i (by decide), D6 21 i (by decide) (by decide) (by decide), D5 21 i (by decide), a2, E3 13 i (by decide) (by decide) (by decide) (by omega)]; exact m2
    · rw [R 22 i (by decide), D6 22 i (by decide) (by decide) (by decide), D5 22 i (by decide), a3, E3 14 i (by decide) (by decide) (by decide) (by omega), m3]
      have hi : i < f (sVk f n k 9 + 1) := hi
      have hne : sTgt f (sTp f (sVk f n k 8)) (sTp f (sVk f n k 8) (sNum f (sVk f n k 9 + 2 + 10 * i + 2) 4)) (sTp f (sVk f n k 8) (sNum f (sVk f n k 9 + 2 + 10 * i + 6) 4)) (f (sVk f n k 8 + 1)) 0 ≠ none := by
        rcases gmg with y | y
        · omega
        · exact (y.2.2 i hi).2.2.2
      show rfO _ = nI (Option.getD _ 0)
      revert hne
      generalize sTgt f (sTp f (sVk f n k 8)) (sTp f (sVk f n k 8) (sNum f (sVk f n k 9 + 2 + 10 * i + 2) 4)) (sTp f (sVk f n k 8) (sNum f (sVk f n k 9 + 2 + 10 * i + 6) 4)) (f (sVk f n k 8 + 1)) 0 = T
      intro hne
      cases T with
      | none => exact absurd rfl hne
      | some v => rfl
  · rw [R 23 q (by decide), D6 23 q (by decide) (by decide) (by decide), h5 q hq, E4 15 q (by decide) (by decide) (by decide) (by decide) (by decide) (by decide) (by omega), (hO q hq).1]
    have hne := (hO q hq).2
    show rfO _ = nI (Option.getD _ 0)
    revert hne
    generalize sOq f n b t q = T
    intro hne
    cases T with
    | none => exact absurd rfl hne
    | some v => rfl
  · obtain ⟨a1, a2, a3, a4⟩ := h6 i hi
    refine ⟨?_, ?_, ?_, ?_⟩
    · rw [R 24 i (by decide)]; exact a1
    · rw [R 25 i (by decide)]; exact a2
    · rw [R 26 i (by decide), mBg_mdF]; exact a3
    · intro s hs
      rw [mBg_mdF]
      exact a4 s hs
  · rw [DG6 0 39 (by decide), x2_o _ _ (by omega), x2_same]; exact f25
  · rw [DG6 0 40 (by decide), x2_same]; exact f26
  · rw [x2_same]
  · rw [x2_o _ _ (by omega), x2_same]
  · rw [x2_o _ _ (by omega), x2_o _ _ (by omega), x2_o _ _ (by omega), x2_same]
  · rw [x2_o _ _ (by omega), x2_o _ _ (by omega), x2_same]
end RFY
