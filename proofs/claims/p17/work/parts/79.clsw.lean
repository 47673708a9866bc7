/-! the class on paper: load -/
theorem sStr_d {f : Nat → Nat} {n p c w : Nat} {z : Bool} (h : sStr f n z p = .inl (c, w)) : 1 ≤ c := by
  unfold sStr at h
  split at h
  · split at h
    · cases h
    · injection h with h; injection h with h _; omega
  · injection h with h; injection h with h _; omega
theorem sSml_d {f : Nat → Nat} {n lo hi e p c w : Nat} (he : 1 ≤ e) (h : sSml f n lo hi e p = .inl (c, w)) : 1 ≤ c := by
  unfold sSml at h
  split at h
  · split at h
    · cases h
    · injection h with h; injection h with h _; omega
  · injection h with h; injection h with h _; omega
theorem sSkip_d {n k p c w : Nat} (h : sSkip n k p = .inl (c, w)) : 1 ≤ c := by
  unfold sSkip at h
  split at h
  · cases h
  · injection h with h; injection h with h _; omega
theorem sPln_d {f : Nat → Nat} {n t p c w : Nat} (h : sPln f n t p = .inl (c, w)) : 1 ≤ c := by
  unfold sPln at h
  split at h
  · exact sSkip_d h
  · exact sSkip_d h
  · exact sStr_d h
theorem sRep_d {g : Nat → pE Nat} (hg : ∀ p c w, g p = .inl (c, w) → 1 ≤ c) : ∀ (k p c w : Nat), sRep g k p = .inl (c, w) → 1 ≤ c
  | 0, p, c, w, h => by cases h
  | k + 1, p, c, w, h => by
    unfold sRep at h
    split at h
    · rename_i e he
      injection h with h
      subst h
      exact hg _ _ _ he
    · exact sRep_d hg k _ c w h
theorem sArr_d {f : Nat → Nat} {n : Nat} {dp : Bool} {g : Nat → Nat → pE Nat} (hg : ∀ t p c w, g t p = .inl (c, w) → 1 ≤ c) {p c w : Nat} (h : sArr f n dp g p = .inl (c, w)) : 1 ≤ c := by
  unfold sArr at h
  split at h
  · rename_i e he
    injection h with h
    subst h
    exact sSml_d (by decide) he
  · split at h
    · injection h with h; injection h with h _; omega
    · split at h
      · rename_i e he
        injection h with h
        subst h
        exact sSml_d (by decide) he
      · exact sRep_d (hg _) _ _ _ _ h
theorem sA3_d {f : Nat → Nat} {n p c w : Nat} (h : sA3 f n p = .inl (c, w)) : 1 ≤ c := sArr_d (fun t p c w h => sPln_d h) h
theorem sA2_d {f : Nat → Nat} {n p c w : Nat} (h : sA2 f n p = .inl (c, w)) : 1 ≤ c := by
  refine sArr_d (fun t p c w h => ?_) h
  split at h
  · exact sPln_d h
  · exact sA3_d h
theorem sA1_d {f : Nat → Nat} {n p c w : Nat} (h : sA1 f n p = .inl (c, w)) : 1 ≤ c := by
  refine sArr_d (fun t p c w h => ?_) h
  split at h
  · exact sPln_d h
  · exact sA2_d h
theorem sVal_d {f : Nat → Nat} {n t p c w : Nat} (h : sVal f n t p = .inl (c, w)) : 1 ≤ c := by
  unfold sVal at h
  split at h
  · exact sPln_d h
  · exact sA1_d h
theorem sPrs_d {f : Nat → Nat} {n : Nat} : ∀ (k i c w : Nat), sPrs f n k i = .inl (c, w) → 1 ≤ c
  | 0, i, c, w, h => by cases h
  | k + 1, i, c, w, h => by
    unfold sPrs at h
    split at h
    · rename_i e he
      injection h with h
      subst h
      exact sStr_d he
    · split at h
      · injection h with h; injection h with h _; omega
      · split at h
        · rename_i e he
          injection h with h
          subst h
          exact sSml_d (by decide) he
        · split at h
          · rename_i e he
            injection h with h
            subst h
            exact sVal_d he
          · exact sPrs_d k (i + 1) c w h
theorem sInf_d {f : Nat → Nat} {n p c w : Nat} (h : sInf f n p = .inl (c, w)) : 1 ≤ c := by
  unfold sInf at h
  split at h
  · rename_i e he
    injection h with h
    subst h
    exact sSml_d (by decide) he
  · split at h
    · rename_i e he
      injection h with h
      subst h
      exact sSml_d (by decide) he
    · split at h
      · rename_i e he
        injection h with h
        subst h
        split at he
        · exact sSml_d (by decide) he
        · cases he
      · split at h
        · rename_i e he
          injection h with h
          subst h
          exact sSml_d (by decide) he
        · split at h
          · injection h with h; injection h with h _; omega
          · split at h
            · cases h
            · injection h with h; injection h with h _; omega
theorem sIfs_d {f : Nat → Nat} {n b : Nat} : ∀ (k i c w : Nat), sIfs f n b k i = .inl (c, w) → 1 ≤ c
  | 0, i, c, w, h => by cases h
  | k + 1, i, c, w, h => by
    unfold sIfs at h
    split at h
    · rename_i e he
      injection h with h
      subst h
      exact sStr_d he
    · split at h
      · injection h with h; injection h with h _; omega
      · split at h
        · rename_i e he
          injection h with h
          subst h
          exact sInf_d he
        · exact sIfs_d k (i + 1) c w h
theorem sPts_d {f : Nat → Nat} {n c w : Nat} (h : sPts f n = .inl (c, w)) : 1 ≤ c := by
  unfold sPts at h
  split at h
  · injection h with h; injection h with h _; omega
  · split at h
    · injection h with h; injection h with h _; omega
    · split at h
      · injection h with h; injection h with h _; omega
      · split at h
        · injection h with h; injection h with h _; omega
        · split at h
          · rename_i e he
            injection h with h
            subst h
            exact sSml_d (by decide) he
          · split at h
            · rename_i e he
              injection h with h
              subst h
              exact sSml_d (by decide) he
            · split at h
              · rename_i e he
                injection h with h
                subst h
                exact sPrs_d _ _ _ _ he
              · split at h
                · rename_i e he
                  injection h with h
                  subst h
                  exact sIfs_d _ _ _ _ he
                · cases h
/-- what load answers when it refuses: the FAULT c, its place w -/
def clFlt (f : Nat → Nat) (n c : Nat) (w : Int32) : Prop := (∃ w', sPts f n = .inl (c, w') ∧ w = nI w' ∧ 1 ≤ c ∧ c ≤ 7) ∨ ∃ t k b a, sPts f n = .inr (t, k, b, a) ∧ clFl f n t k b a c ∧ w = -1
def clSnd (f : Nat → Nat) (n : Nat) (M : pMd) : Prop := ∃ t k b a A, sPts f n = .inr (t, k, b, a) ∧ t ≤ 24 ∧ k ≤ 24 ∧ clOk f n t k b a A ∧ (∃ I, clU f n b t I) ∧ M = mdC f n k b t A a
section CLW_0
variable {f : Nat → Nat} {n b t k a : Nat} {I J : Nat → Nat → Int32} {L : Nat → Nat → Int64} {F G : Nat → Nat → UInt32} {d : Nat} {Q : xP}
def clLI_0 (I I' : Nat → Nat → Int32) : Prop := ∀ b k, ¬ (b = 5 ∧ 9 ≤ k) → (6 ≤ b → 13 < b) → b ≠ 15 → (38 ≤ b → 50 < b) → I' b k = I b k
theorem cl_load_0 (hG : rfG f n) (hF : clF f n I)
    (hok : ∀ M, clSnd f n M → ∀ J' J2 L' G' L2 G2, clLI_0 I J' → clKL_a L L' → clKG_a F G' → clMd_a M J' L' G' → J' 5 13 = -1 → (∀ b k, b < 51 → J2 b k = clFg J' b k) → (∀ b k, b < 51 → L2 b k = L' b k) → (∀ b k, b < 51 → G2 b k = G' b k) → Q (some (.int 0)) (shG (clXX (some 38) (some 51)) (md2 []), J2, L2, G2))
    (hbad : ∀ c w, 1 ≤ c → c ≤ 12 → clFlt f n c w → ∀ J' L' G', clLI_0 I J' → clKL_a L L' → clKG_a F G' → J' 5 13 = w → Q (some (.int (nI c))) (shG (clXX none (some 38)) (md1 []), J', L', G')) : XM xE0 (d + 9) 4 [.ref 0] (shG (clXX none (some 38)) (md1 []), I, L, F) Q := by
  have c24 : ∀ c w, 1 ≤ c → c ≤ 12 → clFlt f n c w → ∀ J' L' G', clLI_0 I J' → clKL_a L L' → clKG_a F G' → J' 5 13 = w → ∀ x, x = nI c → XC xE0 (d + 9) xM_4 (24, [some (.ref 0), some (.int x)], [], (shG (clXX none (some 38)) (md1 []), J', L', G')) Q := by
    intro c w h1 h2 hc J' L' G' a1 a2 a3 a4 x hx
    subst hx
    have hne : ¬ nI c = 0 := by rw [show (0 : Int32) = nI 0 from rfl, nI_eq (by omega) (by omega)]; omega
    refine XC.block [] 60 ?_
    exact And.intro (fun _ => ⟨trivial, hbad c w h1 h2 hc J' L' G' a1 a2 a3 a4⟩) (fun z => absurd hne z)
  have c12 : ∀ t k b a, sPts f n = .inr (t, k, b, a) → t ≤ 24 → k ≤ 24 → ∀ J1, clB I J1 → clS f n a J1 → clP f n t k b J1 → XC xE0 (d + 9) xM_4 (12, [some (.ref 0), some (.int 0)], [], (shG (clXX none (some 38)) (md1 []), J1, L, F)) Q := by
    intro t k b a e ht hk J1 B1 S1 P1
    have U1 : clU f n b t J1 := clU.of hG.1 ht P1
    have hok' := sPrs_ok k 0 b (sPts_a e)
    have V1 : clV2 f n k J1 := ⟨P1.2.1, hk, P1.2.2.1, fun j hj => ⟨(hok'.2 j (by omega) (by omega)).2.2.1, (hok'.2 j (by omega) (by omega)).2.2.2⟩⟩
    have ha : a ≤ 1400 := by
      have := sPts_le e
      have := hG.2
      omega
    have fr : ∀ J', clKI_a J1 J' → clLI_0 I J' := fun J' aK b k h1 h2 h3 h4 => (aK b k h3 h4).trans (B1 b k (by omega) (by omega))
    have e13 : ∀ J', clKI_a J1 J' → J' 5 13 = -1 := fun J' aK => (aK 5 13 (by decide) (by decide)).trans S1.2.2.2
    have flc : ∀ c, clFl f n t k b a c → 1 ≤ c ∧ c ≤ 12 := by
      intro c h
      rcases h with h | ⟨-, -, h | ⟨-, A, -, h | ⟨-, h | h⟩⟩⟩
      · omega
      · omega
      · omega
      · omega
      · omega
    have c24k : ∀ A, clOk f n t k b a A → ∀ J' L' G', clKI_a J1 J' → clKL_a L L' → clKG_a F G' → clMd_a (mdC f n k b t A a) J' L' G' → XC xE0 (d + 9) xM_4 (24, [some (.ref 0), some (.int 0)], [], (shG (clXX none (some 38)) (md1 []), J', L', G')) Q := by
      intro A hA J' L' G' aI aL aG hM
      refine XC.block [] 60 ?_
      refine And.intro (fun z => absurd (show (0 : Int32) = 0 from rfl) z) (fun _ => ?_)
      refine cl_takeSpare0 (fun J2 L2 G2 b1 b2 b3 => ⟨trivial, ?_⟩)
      exact hok _ ⟨t, k, b, a, A, e, ht, hk, hA, ⟨J1, U1⟩, rfl⟩ J' J2 L' G' L2 G2 (fr J' aI) aL aG hM (e13 J' aI) b1 b2 b3
    refine XC.block [24] 60 ?_
    refine cl_make_a (t := t) (k := k) (b := b) hG S1.1 U1 V1 S1.2.1 ha (fun A hA J' L' G' aI aL aG hM => ?_) (fun c hc J' L' G' aI aL aG => ?_)
    · exact c24k A hA J' L' G' aI aL aG hM
    · exact c24 c (-1) (flc c hc).1 (flc c hc).2 (Or.inr ⟨t, k, b, a, e, hc, rfl⟩) J' L' G' (fr J' aI) aL aG (e13 J' aI) _ rfl
  have ne : ∀ c w', sPts f n = .inl (c, w') → 1 ≤ c ∧ c ≤ 7 := fun c w' e => ⟨sPts_d e, sPts_c e⟩
  refine XC.block [12, 24] 60 ?_
  refine cl_readParts hG hF (fun t k b a e ht hk J1 B1 S1 P1 => ?_) (fun c w' e J1 B1 X1 => ?_)
  · exact And.intro (fun z => absurd (show (0 : Int32) = 0 from rfl) z) (fun _ => c12 t k b a e ht hk J1 B1 S1 P1)
  · have hc := ne c w' e
    have hne : ¬ nI c = 0 := by rw [show (0 : Int32) = nI 0 from rfl, nI_eq (by omega) (by omega)]; omega
    exact And.intro (fun _ => c24 c (nI w') hc.1 (by omega) (Or.inl ⟨w', e, rfl, hc.1, hc.2⟩) J1 L F (fun b k h1 h2 h3 h4 => B1 b k (by omega) (by omega)) (fun _ _ _ => rfl) (fun _ _ _ => rfl) X1.2.2 _ rfl) (fun z => absurd hne z)
end CLW_0
section CLW_1
variable {f : Nat → Nat} {n b t k a : Nat} {I J : Nat → Nat → Int32} {L : Nat → Nat → Int64} {F G : Nat → Nat → UInt32} {d : Nat} {Q : xP}
def clLI_1 (I I' : Nat → Nat → Int32) : Prop := ∀ b k, ¬ (b = 5 ∧ 9 ≤ k) → (6 ≤ b → 13 < b) → b ≠ 15 → (51 ≤ b → 63 < b) → I' b k = I b k
theorem cl_load_1 (hG : rfG f n) (hF : clF f n I)
    (hok : ∀ M, clSnd f n M → ∀ J' J2 L' G' , clLI_1 I J' → clKL_b L L' → clKG_b F G' → clMd_b M J' L' G' → J' 5 13 = -1 → J2 = clFg J' → Q (some (.int 0)) (shG (clXX (some 51) (some 38)) (md2 []), J2, L', G'))
    (hbad : ∀ c w, 1 ≤ c → c ≤ 12 → clFlt f n c w → ∀ J' L' G', clLI_1 I J' → clKL_b L L' → clKG_b F G' → J' 5 13 = w → Q (some (.int (nI c))) (shG (clXX (some 38) (some 51)) (md2 []), J', L', G')) : XM xE0 (d + 9) 4 [.ref 0] (shG (clXX (some 38) (some 51)) (md2 []), I, L, F) Q := by
  have c24 : ∀ c w, 1 ≤ c → c ≤ 12 → clFlt f n c w → ∀ J' L' G', clLI_1 I J' → clKL_b L L' → clKG_b F G' → J' 5 13 = w → ∀ x, x = nI c → XC xE0 (d + 9) xM_4 (24, [some (.ref 0), some (.int x)], [], (shG (clXX (some 38) (some 51)) (md2 []), J', L', G')) Q := by
    intro c w h1 h2 hc J' L' G' a1 a2 a3 a4 x hx
    subst hx
    have hne : ¬ nI c = 0 := by rw [show (0 : Int32) = nI 0 from rfl, nI_eq (by omega) (by omega)]; omega
    refine XC.block [] 60 ?_
    exact And.intro (fun _ => ⟨trivial, hbad c w h1 h2 hc J' L' G' a1 a2 a3 a4⟩) (fun z => absurd hne z)
  have c12 : ∀ t k b a, sPts f n = .inr (t, k, b, a) → t ≤ 24 → k ≤ 24 → ∀ J1, clB I J1 → clS f n a J1 → clP f n t k b J1 → XC xE0 (d + 9) xM_4 (12, [some (.ref 0), some (.int 0)], [], (shG (clXX (some 38) (some 51)) (md2 []), J1, L, F)) Q := by
    intro t k b a e ht hk J1 B1 S1 P1
    have U1 : clU f n b t J1 := clU.of hG.1 ht P1
    have hok' := sPrs_ok k 0 b (sPts_a e)
    have V1 : clV2 f n k J1 := ⟨P1.2.1, hk, P1.2.2.1, fun j hj => ⟨(hok'.2 j (by omega) (by omega)).2.2.1, (hok'.2 j (by omega) (by omega)).2.2.2⟩⟩
    have ha : a ≤ 1400 := by
      have := sPts_le e
      have := hG.2
      omega
    have fr : ∀ J', clKI_b J1 J' → clLI_1 I J' := fun J' aK b k h1 h2 h3 h4 => (aK b k h3 h4).trans (B1 b k (by omega) (by omega))
    have e13 : ∀ J', clKI_b J1 J' → J' 5 13 = -1 := fun J' aK => (aK 5 13 (by decide) (by decide)).trans S1.2.2.2
    have flc : ∀ c, clFl f n t k b a c → 1 ≤ c ∧ c ≤ 12 := by
      intro c h
      rcases h with h | ⟨-, -, h | ⟨-, A, -, h | ⟨-, h | h⟩⟩⟩
      · omega
      · omega
      · omega
      · omega
      · omega
    have c24k : ∀ A, clOk f n t k b a A → ∀ J' L' G', clKI_b J1 J' → clKL_b L L' → clKG_b F G' → clMd_b (mdC f n k b t A a) J' L' G' → XC xE0 (d + 9) xM_4 (24, [some (.ref 0), some (.int 0)], [], (shG (clXX (some 38) (some 51)) (md2 []), J', L', G')) Q := by
      intro A hA J' L' G' aI aL aG hM
      refine XC.block [] 60 ?_
      refine And.intro (fun z => absurd (show (0 : Int32) = 0 from rfl) z) (fun _ => ?_)
      refine cl_takeSpare1 ⟨trivial, ?_⟩
      exact hok _ ⟨t, k, b, a, A, e, ht, hk, hA, ⟨J1, U1⟩, rfl⟩ J' _ L' G' (fr J' aI) aL aG hM (e13 J' aI) rfl
    refine XC.block [24] 60 ?_
    refine cl_make_b (t := t) (k := k) (b := b) hG S1.1 U1 V1 S1.2.1 ha (fun A hA J' L' G' aI aL aG hM => ?_) (fun c hc J' L' G' aI aL aG => ?_)
    · exact c24k A hA J' L' G' aI aL aG hM
    · exact c24 c (-1) (flc c hc).1 (flc c hc).2 (Or.inr ⟨t, k, b, a, e, hc, rfl⟩) J' L' G' (fr J' aI) aL aG (e13 J' aI) _ rfl
  have ne : ∀ c w', sPts f n = .inl (c, w') → 1 ≤ c ∧ c ≤ 7 := fun c w' e => ⟨sPts_d e, sPts_c e⟩
  refine XC.block [12, 24] 60 ?_
  refine cl_readParts hG hF (fun t k b a e ht hk J1 B1 S1 P1 => ?_) (fun c w' e J1 B1 X1 => ?_)
  · exact And.intro (fun z => absurd (show (0 : Int32) = 0 from rfl) z) (fun _ => c12 t k b a e ht hk J1 B1 S1 P1)
  · have hc := ne c w' e
    have hne : ¬ nI c = 0 := by rw [show (0 : Int32) = nI 0 from rfl, nI_eq (by omega) (by omega)]; omega
    exact And.intro (fun _ => c24 c (nI w') hc.1 (by omega) (Or.inl ⟨w', e, rfl, hc.1, hc.2⟩) J1 L F (fun b k h1 h2 h3 h4 => B1 b k (by omega) (by omega)) (fun _ _ _ => rfl) (fun _ _ _ => rfl) X1.2.2 _ rfl) (fun z => absurd hne z)
end CLW_1
section CLW_2
variable {f : Nat → Nat} {n b t k a : Nat} {I J : Nat → Nat → Int32} {L : Nat → Nat → Int64} {F G : Nat → Nat → UInt32} {d : Nat} {Q : xP}
def clLI_2 (I I' : Nat → Nat → Int32) : Prop := ∀ b k, ¬ (b = 5 ∧ 9 ≤ k) → (6 ≤ b → 13 < b) → b ≠ 15 → (38 ≤ b → 50 < b) → I' b k = I b k
theorem cl_load_2 (hG : rfG f n) (hF : clF f n I)
    (hok : ∀ M, clSnd f n M → ∀ J' J2 L' G' , clLI_2 I J' → clKL_a L L' → clKG_a F G' → clMd_a M J' L' G' → J' 5 13 = -1 → J2 = clFg J' → Q (some (.int 0)) (shG (clXX (some 38) (some 51)) (md2 []), J2, L', G'))
    (hbad : ∀ c w, 1 ≤ c → c ≤ 12 → clFlt f n c w → ∀ J' L' G', clLI_2 I J' → clKL_a L L' → clKG_a F G' → J' 5 13 = w → Q (some (.int (nI c))) (shG (clXX (some 51) (some 38)) (md2 []), J', L', G')) : XM xE0 (d + 9) 4 [.ref 0] (shG (clXX (some 51) (some 38)) (md2 []), I, L, F) Q := by
  have c24 : ∀ c w, 1 ≤ c → c ≤ 12 → clFlt f n c w → ∀ J' L' G', clLI_2 I J' → clKL_a L L' → clKG_a F G' → J' 5 13 = w → ∀ x, x = nI c → XC xE0 (d + 9) xM_4 (24, [some (.ref 0), some (.int x)], [], (shG (clXX (some 51) (some 38)) (md2 []), J', L', G')) Q := by
    intro c w h1 h2 hc J' L' G' a1 a2 a3 a4 x hx
    subst hx
    have hne : ¬ nI c = 0 := by rw [show (0 : Int32) = nI 0 from rfl, nI_eq (by omega) (by omega)]; omega
    refine XC.block [] 60 ?_
    exact And.intro (fun _ => ⟨trivial, hbad c w h1 h2 hc J' L' G' a1 a2 a3 a4⟩) (fun z => absurd hne z)
  have c12 : ∀ t k b a, sPts f n = .inr (t, k, b, a) → t ≤ 24 → k ≤ 24 → ∀ J1, clB I J1 → clS f n a J1 → clP f n t k b J1 → XC xE0 (d + 9) xM_4 (12, [some (.ref 0), some (.int 0)], [], (shG (clXX (some 51) (some 38)) (md2 []), J1, L, F)) Q := by
    intro t k b a e ht hk J1 B1 S1 P1
    have U1 : clU f n b t J1 := clU.of hG.1 ht P1
    have hok' := sPrs_ok k 0 b (sPts_a e)
    have V1 : clV2 f n k J1 := ⟨P1.2.1, hk, P1.2.2.1, fun j hj => ⟨(hok'.2 j (by omega) (by omega)).2.2.1, (hok'.2 j (by omega) (by omega)).2.2.2⟩⟩
    have ha : a ≤ 1400 := by
      have := sPts_le e
      have := hG.2
      omega
    have fr : ∀ J', clKI_a J1 J' → clLI_2 I J' := fun J' aK b k h1 h2 h3 h4 => (aK b k h3 h4).trans (B1 b k (by omega) (by omega))
    have e13 : ∀ J', clKI_a J1 J' → J' 5 13 = -1 := fun J' aK => (aK 5 13 (by decide) (by decide)).trans S1.2.2.2
    have flc : ∀ c, clFl f n t k b a c → 1 ≤ c ∧ c ≤ 12 := by
      intro c h
      rcases h with h | ⟨-, -, h | ⟨-, A, -, h | ⟨-, h | h⟩⟩⟩
      · omega
      · omega
      · omega
      · omega
      · omega
    have c24k : ∀ A, clOk f n t k b a A → ∀ J' L' G', clKI_a J1 J' → clKL_a L L' → clKG_a F G' → clMd_a (mdC f n k b t A a) J' L' G' → XC xE0 (d + 9) xM_4 (24, [some (.ref 0), some (.int 0)], [], (shG (clXX (some 51) (some 38)) (md2 []), J', L', G')) Q := by
      intro A hA J' L' G' aI aL aG hM
      refine XC.block [] 60 ?_
      refine And.intro (fun z => absurd (show (0 : Int32) = 0 from rfl) z) (fun _ => ?_)
      refine cl_takeSpare2 ⟨trivial, ?_⟩
      exact hok _ ⟨t, k, b, a, A, e, ht, hk, hA, ⟨J1, U1⟩, rfl⟩ J' _ L' G' (fr J' aI) aL aG hM (e13 J' aI) rfl
    refine XC.block [24] 60 ?_
    refine cl_make_a (T := mdTT) (t := t) (k := k) (b := b) hG S1.1 U1 V1 S1.2.1 ha (fun A hA J' L' G' aI aL aG hM => ?_) (fun c hc J' L' G' aI aL aG => ?_)
    · exact c24k A hA J' L' G' aI aL aG hM
    · exact c24 c (-1) (flc c hc).1 (flc c hc).2 (Or.inr ⟨t, k, b, a, e, hc, rfl⟩) J' L' G' (fr J' aI) aL aG (e13 J' aI) _ rfl
  have ne : ∀ c w', sPts f n = .inl (c, w') → 1 ≤ c ∧ c ≤ 7 := fun c w' e => ⟨sPts_d e, sPts_c e⟩
  refine XC.block [12, 24] 60 ?_
  refine cl_readParts hG hF (fun t k b a e ht hk J1 B1 S1 P1 => ?_) (fun c w' e J1 B1 X1 => ?_)
  · exact And.intro (fun z => absurd (show (0 : Int32) = 0 from rfl) z) (fun _ => c12 t k b a e ht hk J1 B1 S1 P1)
  · have hc := ne c w' e
    have hne : ¬ nI c = 0 := by rw [show (0 : Int32) = nI 0 from rfl, nI_eq (by omega) (by omega)]; omega
    exact And.intro (fun _ => c24 c (nI w') hc.1 (by omega) (Or.inl ⟨w', e, rfl, hc.1, hc.2⟩) J1 L F (fun b k h1 h2 h3 h4 => B1 b k (by omega) (by omega)) (fun _ _ _ => rfl) (fun _ _ _ => rfl) X1.2.2 _ rfl) (fun z => absurd hne z)
end CLW_2
