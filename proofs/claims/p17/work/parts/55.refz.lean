/-! load of the reference: the whole -/
/-- the TENSORS needed are there -/
def sShp (f : Nat → Nat) (n k b t : Nat) : Prop := ∀ q, q < 3 + 9 * sN f n k 3 → sGq f n b t (sN f n k 0) (sN f n k 0 / sN f n k 1 * sN f n k 2) (sN f n k 4) (f (sVk f n k 8 + 1)) q
/-- LOADING finds FAULT c (at w, if it is one of 1 to 7) -/
def sFlt (f : Nat → Nat) (n c w : Nat) : Prop := (sPts f n = .inl (c, w) ∧ 1 ≤ c ∧ c ≤ 7) ∨ ∃ t k b a, sPts f n = .inr (t, k, b, a) ∧ ((c = 8 ∧ ¬ sFnd f n k) ∨ (c = 9 ∧ sFnd f n k ∧ ¬ sVok f n k) ∨ (sFnd f n k ∧ sVok f n k ∧ ∃ A, sAlF f n k 0 8 = some A ∧ ((c = 10 ∧ ¬ sShp f n k b t) ∨ (c = 11 ∧ sShp f n k b t ∧ ¬ (∀ i, i < t → sPl f n b (sDa a A) A i)) ∨ (c = 12 ∧ sShp f n k b t ∧ (∀ i, i < t → sPl f n b (sDa a A) A i) ∧ ¬ (∀ i, i < t → sWt f n b (sDa a A) i)))))
/-- LOADING finds none: the MODEL -/
def sSnd (f : Nat → Nat) (n : Nat) (M : pMd) : Prop := ∃ t k b a A, sPts f n = .inr (t, k, b, a) ∧ t ≤ 24 ∧ k ≤ 24 ∧ sFnd f n k ∧ sVok f n k ∧ sAlF f n k 0 8 = some A ∧ sShp f n k b t ∧ (∀ i, i < t → sPl f n b (sDa a A) A i) ∧ (∀ i, i < t → sWt f n b (sDa a A) i) ∧ (∃ I, rfU f n b t I) ∧ M = mdF f n k b t A a
/-- what a LOADING with a FAULT changes -/
def rfLo (I I' : Nat → Nat → Int32) : Prop := ∀ b k, (b = 0 → k < 2 ∨ (4 < k ∧ k ≠ 13 ∧ k ≠ 14 ∧ k ≠ 22 ∧ k ≠ 23 ∧ k ≠ 24)) → (2 ≤ b → 16 < b) → I' b k = I b k
def rfLg2 (F F' : Nat → Nat → UInt32) : Prop := ∀ b k, ¬ (b = 0 ∧ (k = 25 ∨ k = 26)) → F' b k = F b k
theorem rfLo.b {I J : Nat → Nat → Int32} (h : rfB I J) : rfLo I J := fun b k h1 h2 => h b k (fun e => by have := h1 e; omega) (fun e => by have := h2 e; omega)
theorem rfLo.d {I J K : Nat → Nat → Int32} (h : rfLo I J) (a : rfD J K) : rfLo I K := fun b k h1 h2 => (a b k (fun e => by have := h1 e; omega) (fun e => by have := h2 (by omega); omega)).trans (h b k h1 h2)
theorem sPts_a {f : Nat → Nat} {n t k b a : Nat} (h : sPts f n = .inr (t, k, b, a)) : sPrs f n k 0 = .inr b := by
  unfold sPts at h
  split at h
  · cases h
  · split at h
    · cases h
    · split at h
      · cases h
      · split at h
        · cases h
        · split at h
          · cases h
          · split at h
            · cases h
            · split at h
              · cases h
              · split at h
                · cases h
                · rename_i e _ _ _
                  injection h with h
                  injection h with h1 h2
                  injection h2 with h2 h3
                  injection h3 with h3 h4
                  subst h2
                  subst h3
                  assumption
theorem rfFl_lg {F : Nat → Nat → UInt32} {e b : Int64} : rfLg2 F (rfFl F e b) := by
  intro b' k' h
  show x2 (x2 F 0 25 _) 0 26 _ b' k' = F b' k'
  rw [x2_o _ _ (fun z => h ⟨z.1, Or.inr z.2⟩), x2_o _ _ (fun z => h ⟨z.1, Or.inl z.2⟩)]
theorem sInf_q {f : Nat → Nat} {n p : Nat} {v : Nat × Nat × Nat × Nat} {q : Nat} (h : sInf f n p = .inr (v, q)) : q ≤ n := by
  unfold sInf at h
  split at h
  · cases h
  · split at h
    · cases h
    · split at h
      · cases h
      · split at h
        · cases h
        · split at h
          · cases h
          · split at h
            · injection h with h
              injection h with _ h
              omega
            · cases h
theorem sPrs_le {f : Nat → Nat} {n : Nat} : ∀ (k i b : Nat), sKey f n i ≤ n → sPrs f n k i = .inr b → b ≤ n
  | 0, i, b, hi, h => by injection h with h; omega
  | k + 1, i, b, hi, h => by
    unfold sPrs at h
    split at h
    · cases h
    · rename_i q e1
      split at h
      · cases h
      · split at h
        · cases h
        · rename_i t r e2
          split at h
          · cases h
          · rename_i q2 e3
            have hK : sKey f n (i + 1) = q2 := by
              show (match sPr f n (sKey f n i) with | .inl _ => 0 | .inr q => q) = q2
              simp only [sPr, e1, e2, e3]
            exact sPrs_le k (i + 1) b (by rw [hK]; exact (sVal_le e3).2) h
theorem sIfs_le {f : Nat → Nat} {n b : Nat} : ∀ (k i a : Nat), sNam f n b i ≤ n → sIfs f n b k i = .inr a → a ≤ n
  | 0, i, a, hi, h => by injection h with h; omega
  | k + 1, i, a, hi, h => by
    unfold sIfs at h
    split at h
    · cases h
    · rename_i q e1
      split at h
      · cases h
      · split at h
        · cases h
        · rename_i v e2
          have hK : sNam f n b (i + 1) = v.2 := by
            show (match sNm f n (sNam f n b i) with | .inl _ => 0 | .inr q => q) = v.2
            simp only [sNm, e1, e2]
          exact sIfs_le k (i + 1) a (by rw [hK]; exact sInf_q e2) h
theorem sStr_c {f : Nat → Nat} {n p c w : Nat} {z : Bool} (h : sStr f n z p = .inl (c, w)) : c ≤ 7 := by
  unfold sStr at h
  split at h
  · split at h
    · cases h
    · injection h with h; injection h with h _; omega
  · injection h with h; injection h with h _; omega
theorem sSml_c {f : Nat → Nat} {n lo hi e p c w : Nat} (he : e ≤ 7) (h : sSml f n lo hi e p = .inl (c, w)) : c ≤ 7 := by
  unfold sSml at h
  split at h
  · split at h
    · cases h
    · injection h with h; injection h with h _; omega
  · injection h with h; injection h with h _; omega
theorem sSkip_c {n k p c w : Nat} (h : sSkip n k p = .inl (c, w)) : c ≤ 7 := by
  unfold sSkip at h
  split at h
  · cases h
  · injection h with h; injection h with h _; omega
theorem sPln_c {f : Nat → Nat} {n t p c w : Nat} (h : sPln f n t p = .inl (c, w)) : c ≤ 7 := by
  unfold sPln at h
  split at h
  · exact sSkip_c h
  · exact sSkip_c h
  · exact sStr_c h
theorem sRep_c {g : Nat → pE Nat} (hg : ∀ p c w, g p = .inl (c, w) → c ≤ 7) : ∀ (k p c w : Nat), sRep g k p = .inl (c, w) → c ≤ 7
  | 0, p, c, w, h => by cases h
  | k + 1, p, c, w, h => by
    unfold sRep at h
    split at h
    · rename_i e he
      injection h with h
      subst h
      exact hg _ _ _ he
    · exact sRep_c hg k _ c w h
theorem sArr_c {f : Nat → Nat} {n : Nat} {dp : Bool} {g : Nat → Nat → pE Nat} (hg : ∀ t p c w, g t p = .inl (c, w) → c ≤ 7) {p c w : Nat} (h : sArr f n dp g p = .inl (c, w)) : c ≤ 7 := by
  unfold sArr at h
  split at h
  · rename_i e he
    injection h with h
    subst h
    exact sSml_c (by decide) he
  · split at h
    · injection h with h; injection h with h _; omega
    · split at h
      · rename_i e he
        injection h with h
        subst h
        exact sSml_c (by decide) he
      · exact sRep_c (hg _) _ _ _ _ h
theorem sA3_c {f : Nat → Nat} {n p c w : Nat} (h : sA3 f n p = .inl (c, w)) : c ≤ 7 := sArr_c (fun t p c w h => sPln_c h) h
theorem sA2_c {f : Nat → Nat} {n p c w : Nat} (h : sA2 f n p = .inl (c, w)) : c ≤ 7 := by
  refine sArr_c (fun t p c w h => ?_) h
  split at h
  · exact sPln_c h
  · exact sA3_c h
theorem sA1_c {f : Nat → Nat} {n p c w : Nat} (h : sA1 f n p = .inl (c, w)) : c ≤ 7 := by
  refine sArr_c (fun t p c w h => ?_) h
  split at h
  · exact sPln_c h
  · exact sA2_c h
theorem sVal_c {f : Nat → Nat} {n t p c w : Nat} (h : sVal f n t p = .inl (c, w)) : c ≤ 7 := by
  unfold sVal at h
  split at h
  · exact sPln_c h
  · exact sA1_c h
theorem sPrs_c {f : Nat → Nat} {n : Nat} : ∀ (k i c w : Nat), sPrs f n k i = .inl (c, w) → c ≤ 7
  | 0, i, c, w, h => by cases h
  | k + 1, i, c, w, h => by
    unfold sPrs at h
    split at h
    · rename_i e he
      injection h with h
      subst h
      exact sStr_c he
    · split at h
      · injection h with h; injection h with h _; omega
      · split at h
        · rename_i e he
          injection h with h
          subst h
          exact sSml_c (by decide) he
        · split at h
          · rename_i e he
            injection h with h
            subst h
            exact sVal_c he
          · exact sPrs_c k (i + 1) c w h
theorem sInf_c {f : Nat → Nat} {n p c w : Nat} (h : sInf f n p = .inl (c, w)) : c ≤ 7 := by
  unfold sInf at h
  split at h
  · rename_i e he
    injection h with h
    subst h
    exact sSml_c (by decide) he
  · split at h
    · rename_i e he
      injection h with h
      subst h
      exact sSml_c (by decide) he
    · split at h
      · rename_i e he
        injection h with h
        subst h
        split at he
        · exact sSml_c (by decide) he
        · cases he
      · split at h
        · rename_i e he
          injection h with h
          subst h
          exact sSml_c (by decide) he
        · split at h
          · injection h with h; injection h with h _; omega
          · split at h
            · cases h
            · injection h with h; injection h with h _; omega
theorem sIfs_c {f : Nat → Nat} {n b : Nat} : ∀ (k i c w : Nat), sIfs f n b k i = .inl (c, w) → c ≤ 7
  | 0, i, c, w, h => by cases h
  | k + 1, i, c, w, h => by
    unfold sIfs at h
    split at h
    · rename_i e he
      injection h with h
      subst h
      exact sStr_c he
    · split at h
      · injection h with h; injection h with h _; omega
      · split at h
        · rename_i e he
          injection h with h
          subst h
          exact sInf_c he
        · exact sIfs_c k (i + 1) c w h
theorem sPts_c {f : Nat → Nat} {n c w : Nat} (h : sPts f n = .inl (c, w)) : c ≤ 7 := by
  unfold sPts at h
  split at h
  · injection h with h; injection h with h _; omega
  · split at h
    · injection h with h; injection h with h _; omega
    · split at h
      · injection h with h; injection h with h _; omega
      · split at h
        · injection h with h; injection h with h _; omega
        · split at h
          · rename_i e he
            injection h with h
            subst h
            exact sSml_c (by decide) he
          · split at h
            · rename_i e he
              injection h with h
              subst h
              exact sSml_c (by decide) he
            · split at h
              · rename_i e he
                injection h with h
                subst h
                exact sPrs_c _ _ _ _ he
              · split at h
                · rename_i e he
                  injection h with h
                  subst h
                  exact sIfs_c _ _ _ _ he
                · cases h
theorem sPts_le {f : Nat → Nat} {n t k b a : Nat} (h : sPts f n = .inr (t, k, b, a)) : a ≤ n := by
  unfold sPts at h
  split at h
  · cases h
  · split at h
    · cases h
    · split at h
      · cases h
      · split at h
        · cases h
        · split at h
          · cases h
          · split at h
            · cases h
            · rename_i e9
              split at h
              · cases h
              · rename_i b' eb
                split at h
                · cases h
                · rename_i a' ea
                  injection h with h
                  injection h with e1 e2
                  injection e2 with e2 e3
                  injection e3 with e3 e4
                  subst e4
                  have l9 := sSml_le e9
                  exact sIfs_le _ 0 _ (sPrs_le _ 0 _ (show 10 ≤ n by omega) eb) ea
section RFZ
variable {f : Nat → Nat} {n : Nat} {I J : Nat → Nat → Int32} {L : Nat → Nat → Int64} {F G : Nat → Nat → UInt32} {d : Nat} {Q : xP}
theorem rf_ld58 {c : Int32} (h3 : J 0 3 = c) (hQ : Q (some (.int c)) (sh2, J, L, F)) : XC xE0 (d + 6) xM_52 (58, [some (.ref 0)], [], (sh2, J, L, F)) Q := by
  subst h3
  refine XC.block [] 60 ?_
  exact ⟨trivial, hQ⟩
theorem rf_ldF {c : Int32} (h3 : J 0 3 = c) (hc : ¬ c = 0) (hQ : Q (some (.int c)) (sh2, J, L, F)) : XC xE0 (d + 6) xM_52 (14, [some (.ref 0)], [], (sh2, J, L, F)) Q ∧ XC xE0 (d + 6) xM_52 (25, [some (.ref 0)], [], (sh2, J, L, F)) Q ∧ XC xE0 (d + 6) xM_52 (36, [some (.ref 0)], [], (sh2, J, L, F)) Q ∧ XC xE0 (d + 6) xM_52 (47, [some (.ref 0)], [], (sh2, J, L, F)) Q := by
  have nz : ¬ J 0 3 = 0 := by rw [h3]; exact hc
  have c47 : XC xE0 (d + 6) xM_52 (47, [some (.ref 0)], [], (sh2, J, L, F)) Q := by
    refine XC.block [58] 60 ?_
    exact And.intro (fun _ => rf_ld58 h3 hQ) (fun z => absurd nz z)
  have c36 : XC xE0 (d + 6) xM_52 (36, [some (.ref 0)], [], (sh2, J, L, F)) Q := by
    refine XC.block [47] 60 ?_
    exact And.intro (fun _ => c47) (fun z => absurd nz z)
  have c25 : XC xE0 (d + 6) xM_52 (25, [some (.ref 0)], [], (sh2, J, L, F)) Q := by
    refine XC.block [36] 60 ?_
    exact And.intro (fun _ => c36) (fun z => absurd nz z)
  refine ⟨?_, c25, c36, c47⟩
  refine XC.block [25] 60 ?_
  exact And.intro (fun _ => c25) (fun z => absurd nz z)
theorem rf_load (hG : rfG f n) (hF : rfF f n I)
    (hok : ∀ M, sSnd f n M → ∀ J' F', (∀ b k, (b = 0 → k = 0 ∨ k = 1 ∨ (24 < k ∧ k < 38) ∨ (38 < k ∧ k < 58) ∨ 61 < k) → (2 ≤ b → 26 < b) → J' b k = I b k) → (∀ b k, b ≠ 27 → ¬ (b = 0 ∧ (k = 25 ∨ k = 26 ∨ k = 39 ∨ k = 40)) → F' b k = F b k) → rfMd M J' F' → J' 0 3 = 0 → J' 0 58 = 0 → J' 0 59 = 0 → J' 0 60 = 0 → J' 0 61 = 0 → Q (some (.int 0)) (sh2, J', L, F'))
    (hbad : ∀ c w, 1 ≤ c → c ≤ 12 → sFlt f n c w → ∀ J' F', rfLo I J' → rfLg2 F F' → J' 0 3 = nI c → (c ≤ 7 → J' 0 4 = nI w) → Q (some (.int (nI c))) (sh2, J', L, F')) : XM xE0 (d + 6) 52 [.ref 0] (sh2, I, L, F) Q := by
  refine XC.block [14] 60 ?_
  have A0 : rfA I (x2 (x2 I 0 3 0) 0 4 (-1)) := (rfA.rf.put (by decide) (by decide)).put (by decide) (by decide)
  have F0 : rfF f n (x2 (x2 I 0 3 0) 0 4 (-1)) := hF.ag A0
  have B0 : ∀ J, rfB (x2 (x2 I 0 3 0) 0 4 (-1)) J → rfB I J := fun J h b k h1 h2 => (h b k h1 h2).trans (A0 b k (fun e => by have := h1 e; omega))
  refine rf_parse hG F0 rfl (fun t k b a e ht hk J1 B1 S1 P1 => ?_) (fun c w e J1 B1 X1 => ?_)
  · have L1 : rfLo I J1 := rfLo.b (B0 J1 B1)
    have U1 := rfU.of hG.1 ht P1
    have hok' := sPrs_ok k 0 b (sPts_a e)
    have V1 : rfV f n k J1 := ⟨P1.2.1, hk, P1.2.2.1, fun j hj => ⟨(hok'.2 j (by omega) (by omega)).2.2.1, (hok'.2 j (by omega) (by omega)).2.2.2⟩⟩
    have ha : a ≤ 1400 := by
      have := sPts_le e
      have := hG.2
      omega
    refine XC.block [25] 60 ?_
    refine And.intro (fun z => absurd S1.2.2 z) (fun _ => ?_)
    refine rf_look hG S1.1 V1 S1.2.2 (fun hf hv J2 D2 q3 T2 => ?_) (fun hf J2 D2 q3 => ?_) (fun hf hv J2 D2 q3 => ?_)
    · obtain ⟨g1, g2, geb, gtx, gmg, gst, A, hA⟩ := id hv
      have hAr := sAlF_in k 0 8 A ⟨by decide, by decide⟩ hA
      have U2 := U1.ag D2
      have F2 := S1.1.agD D2
      have e11 : J2 10 11 = nI A := by
        obtain ⟨A', h1, h2⟩ := T2.2.1
        rw [hA] at h1
        injection h1 with h1
        rw [h1]; exact h2
      have b1 : 1 ≤ sN f n k 1 ∧ sN f n k 1 ≤ 4 := by have := g1.2.1; omega
      have b2 : sN f n k 2 ≤ 4 := by
        have h0 := g2.1
        have := Nat.le_of_dvd (by omega) (Nat.dvd_of_mod_eq_zero h0)
        omega
      have b0 : sN f n k 0 ≤ 16 := by have := g1.1; omega
      have b4 : sN f n k 4 ≤ 16 := by have := g2.2.2.1; omega
      refine XC.block [36] 60 ?_
      refine And.intro (fun z => absurd q3 z) (fun _ => ?_)
      refine rf_shapes (b := b) (t := t) (tk := f (sVk f n k 8 + 1)) hG F2 U2 q3 (T2.1 0 (by decide)) (T2.1 1 (by decide)) (T2.1 2 (by decide)) (T2.1 3 (by decide)) (T2.1 4 (by decide)) T2.2.2.1 b0 b1.1 b1.2 b2 g2.2.1.2 b4 gtx.2.2.1 (fun hs J3 N3 q3' q15 => ?_) (fun hs J3 N3 q3' => ?_)
      · have U3 := U2.ag N3.toD
        have F3 := F2.agD N3.toD
        have i2 : J3 0 2 = nI a := (N3 0 2 (by omega) (by decide)).trans ((D2 0 2 (by omega) (by omega)).trans S1.2.1)
        refine XC.block [47] 60 ?_
        refine And.intro (fun z => absurd q3' z) (fun _ => ?_)
        refine rf_places (a := a) (A := A) hG F3 U3 i2 ha hAr.1 hAr.2 ((N3 10 11 (by omega) (by decide)).trans e11) q3' (fun hpl hwt J4 N4 q4 => ?_) (fun hpl J4 N4 q4 => ?_) (fun hpl hwt J4 N4 q4 => ?_)
        · have D4 : rfD J3 J4 := (rfD.rf.st0 (by decide)).tr N4.toD
          have fr : ∀ b k, (b = 0 → k ≠ 3 ∧ k ≠ 4 ∧ k ≠ 24) → b ≠ 15 → J4 b k = J2 b k := fun b k h1 h2 => by
            rw [N4 b k (fun e => by have := h1 e; omega) trivial, x2_o _ _ (fun e => by have := h1 e.1; omega)]
            exact N3 b k (fun e => by have := h1 e; omega) h2
          have T4 : rfT f n k J4 := by
            obtain ⟨a1, ⟨A', a2, a3⟩, a4, a5, a6, a7⟩ := T2
            refine ⟨fun j hj => (fr 10 j (by omega) (by decide)).trans (a1 j hj), ⟨A', a2, (fr 10 11 (by omega) (by decide)).trans a3⟩, (fr 0 22 (by omega) (by decide)).trans a4, fun j hj => ⟨(fr 11 j (by omega) (by decide)).trans (a5 j hj).1, (a5 j hj).2⟩, (fr 0 23 (by omega) (by decide)).trans a6, fun i hi => ?_⟩
            obtain ⟨m1, m2, m3⟩ := a7 i hi
            exact ⟨(fr 12 i (by omega) (by decide)).trans m1, (fr 13 i (by omega) (by decide)).trans m2, (fr 14 i (by omega) (by decide)).trans m3⟩
          have i24 : J4 0 24 = nI (sDa a A) := (N4 0 24 (by omega) trivial).trans (x2_same _ _ _ _)
          have i13 : J4 0 13 = nI k := (fr 0 13 (by omega) (by decide)).trans (((V1.ag D2)).1)
          have hO : ∀ q, q < 3 + 9 * sN f n k 3 → J4 15 q = rfO (sOq f n b t q) ∧ sOq f n b t q ≠ none := by
            intro q hq
            refine ⟨?_, ?_⟩
            · rw [N4 15 q (by omega) trivial, x2_o _ _ (by omega)]; exact q15 q hq
            · obtain ⟨i, hi, _⟩ := hs q hq
              show sNf _ _ _ _ _ _ _ _ ≠ none
              rw [hi]
              exact fun z => by cases z
          refine XC.block [58] 60 ?_
          refine And.intro (fun z => absurd q4 z) (fun _ => ?_)
          refine rf_take (k := k) (b := b) (t := t) (A := A) (a := a) hG (F3.agD D4) (U3.ag D4) T4 i13 hv hA i24 hpl hO (x2_o _ _ (by omega) |>.trans (x2_same _ _ _ _)) (x2_same _ _ _ _) (fun J5 G5 K5 Kg5 M5 z58 z59 z60 z61 => ?_)
          have q5 : J5 0 3 = 0 := (K5 0 3 (by omega) (by omega)).trans q4
          refine rf_ld58 q5 (hok (mdF f n k b t A a) ⟨t, k, b, a, A, e, ht, hk, hf, hv, hA, hs, hpl, hwt, ⟨J1, U1⟩, rfl⟩ J5 G5 (fun b' k' h1 h2 => ?_) (fun b' k' h1 h2 => ?_) M5 q5 z58 z59 z60 z61)
          · rw [K5 b' k' (fun e => by have := h1 e; omega) (fun e => by have := h2 (by omega); omega), fr b' k' (fun e => by have := h1 e; omega) (fun e => by have := h2 (by omega); omega)]
            exact (L1.d D2) b' k' (fun e => by have := h1 e; omega) (fun e => by have := h2 (by omega); omega)
          · rw [Kg5 b' k' h1 (fun z => h2 ⟨z.1, by omega⟩)]; exact rfFl_lg b' k' (fun z => h2 ⟨z.1, by omega⟩)
        · have D4 : rfD J3 J4 := (rfD.rf.st0 (by decide)).tr N4.toD
          exact (rf_ldF (c := 11) q4 (by decide) (hbad 11 0 (by decide) (by decide) (Or.inr ⟨t, k, b, a, e, Or.inr (Or.inr ⟨hf, hv, A, hA, Or.inr (Or.inl ⟨rfl, hs, hpl⟩)⟩)⟩) J4 _ (((L1.d D2).d N3.toD).d D4) rfFl_lg q4 (fun z => absurd z (by decide)))).2.2.2
        · have D4 : rfD J3 J4 := (rfD.rf.st0 (by decide)).tr N4.toD
          exact (rf_ldF (c := 12) q4 (by decide) (hbad 12 0 (by decide) (by decide) (Or.inr ⟨t, k, b, a, e, Or.inr (Or.inr ⟨hf, hv, A, hA, Or.inr (Or.inr ⟨rfl, hs, hpl, hwt⟩)⟩)⟩) J4 _ (((L1.d D2).d N3.toD).d D4) rfFl_lg q4 (fun z => absurd z (by decide)))).2.2.2
      · exact (rf_ldF (c := 10) q3' (by decide) (hbad 10 0 (by decide) (by decide) (Or.inr ⟨t, k, b, a, e, Or.inr (Or.inr ⟨hf, hv, A, hA, Or.inl ⟨rfl, fun z => by obtain ⟨q, h1, h2⟩ := hs; exact h2 (z q h1)⟩⟩)⟩) J3 _ ((L1.d D2).d N3.toD) rfFl_lg q3' (fun z => absurd z (by decide)))).2.2.1
    · exact (rf_ldF (c := 8) q3 (by decide) (hbad 8 0 (by decide) (by decide) (Or.inr ⟨t, k, b, a, e, Or.inl ⟨rfl, hf⟩⟩) J2 F (L1.d D2) (fun _ _ _ => rfl) q3 (fun z => absurd z (by decide)))).2.1
    · exact (rf_ldF (c := 9) q3 (by decide) (hbad 9 0 (by decide) (by decide) (Or.inr ⟨t, k, b, a, e, Or.inr (Or.inl ⟨rfl, hf, hv⟩)⟩) J2 _ (L1.d D2) rfFl_lg q3 (fun z => absurd z (by decide)))).2.1
  · have hc := X1.2.1
    have h7 : c ≤ 7 := sPts_c e
    exact (rf_ldF (c := nI c) hc.1 (nI_ne0 hc.2.1 (by omega)) (hbad c w hc.2.1 (by omega) (Or.inl ⟨e, hc.2.1, h7⟩) J1 F (rfLo.b (B0 J1 B1)) (fun _ _ _ => rfl) hc.1 (fun _ => X1.2.2))).1
end RFZ
