/-! the reference on paper: VALUES -/
section RFC
variable {f : Nat → Nat} {n : Nat} {I : Nat → Nat → Int32} {L : Nat → Nat → Int64} {F : Nat → Nat → UInt32} {d : Nat} {Q : xP}
/-- what follows a reading without an answer -/
def rfK (f : Nat → Nat) (n : Nat) (I : Nat → Nat → Int32) (s : pE Nat) (G : (Nat → Nat → Int32) → Prop) : Prop := (∀ q, s = .inr q → ∀ I', rfA I I' → rfS f n q I' → G I') ∧ ∀ c w, s = .inl (c, w) → ∀ I', rfA I I' → rfX f n c w I' → G I'
theorem rf_v26F {T one m x4 : Int32} {x5 x6 x7 x8 x9 x10 x11 : Option Value} (h : ¬ I 0 3 ≤ 0) (hQ : Q none (sh2, I, L, F)) : XC xE0 d xM_36 (26, [some (.ref 0), some (.int T), some (.int one), some (.int m), some (.int x4), x5, x6, x7, x8, x9, x10, x11], [], (sh2, I, L, F)) Q := by
  refine XC.block [26] 60 ?_
  refine And.intro (fun c => ⟨trivial, hQ⟩) (fun c => ?_)
  exact And.intro (fun c => ⟨trivial, hQ⟩) (fun c => absurd (rf_ne0 h) c)
theorem rf_v69F {T one m x4 two mm x7 : Int32} {x8 x9 x10 x11 : Option Value} (h : ¬ I 0 3 ≤ 0) (hQ : Q none (sh2, I, L, F)) : XC xE0 d xM_36 (69, [some (.ref 0), some (.int T), some (.int one), some (.int m), some (.int x4), some (.int two), some (.int mm), some (.int x7), x8, x9, x10, x11], [], (sh2, I, L, F)) Q := by
  refine XC.block [26] 60 ?_
  refine And.intro (fun c => rf_v26F h hQ) (fun c => ?_)
  exact And.intro (fun c => rf_v26F h hQ) (fun c => absurd (rf_ne0 h) c)
theorem rf_v140F {T one m x4 two mm x7 x8 x9 x10 x11 : Int32} (h : ¬ I 0 3 ≤ 0) (hQ : Q none (sh2, I, L, F)) : XC xE0 d xM_36 (140, [some (.ref 0), some (.int T), some (.int one), some (.int m), some (.int x4), some (.int two), some (.int mm), some (.int x7), some (.int x8), some (.int x9), some (.int x10), some (.int x11)], [], (sh2, I, L, F)) Q := by
  refine XC.block [69] 60 ?_
  refine And.intro (fun c => rf_v69F h hQ) (fun c => ?_)
  exact And.intro (fun c => rf_v69F h hQ) (fun c => absurd (rf_ne0 h) c)
theorem rf_v140 (hG : rfG f n) {T one m x4 two mm x7 x8 x9 x10 : Int32} {t m3 : Nat} (h9 : x9 = nI t) (ht : t < 3) (h10 : x10 = nI m3) (hm3 : m3 ≤ 24) :
    ∀ (k j : Nat), j + k = m3 → ∀ (p : Nat) (I' : Nat → Nat → Int32), p ≤ n → rfA I I' → rfS f n p I' →
    (∀ q, sRep (sPln f n t) k p = .inr q → ∀ I'' x11, rfA I I'' → rfS f n q I'' → XC xE0 (d + 4) xM_36 (69, [some (.ref 0), some (.int T), some (.int one), some (.int m), some (.int x4), some (.int two), some (.int mm), some (.int (x7 + 1)), some (.int x8), some (.int x9), some (.int x10), some (.int x11)], [], (sh2, I'', L, F)) Q) →
    (∀ c w, sRep (sPln f n t) k p = .inl (c, w) → ∀ I'', rfA I I'' → rfX f n c w I'' → Q none (sh2, I'', L, F)) →
    ∀ x11, x11 = nI j → XC xE0 (d + 4) xM_36 (140, [some (.ref 0), some (.int T), some (.int one), some (.int m), some (.int x4), some (.int two), some (.int mm), some (.int x7), some (.int x8), some (.int x9), some (.int x10), some (.int x11)], [], (sh2, I', L, F)) Q := by
  intro k
  induction k with
  | zero =>
    intro j hj p I' hp a S ok bd x11 h11
    refine XC.block [69] 60 ?_
    exact And.intro (fun c => ok p rfl I' _ a S) (fun c => absurd (show x10 ≤ x11 by rw [h10, h11]; exact nI_le (by omega) (by omega)) c)
  | succ k ih =>
    intro j hj p I' hp a S ok bd x11 h11
    refine XC.block [69, 140] 60 ?_
    refine And.intro (fun c => absurd (show x10 ≤ x11 from c) (by rw [h10, h11]; exact nI_ge (by omega) (by omega))) (fun c => ?_)
    refine And.intro (fun c => absurd S.2.2 c) (fun c => ?_)
    refine rf_plain h9 ht hG hp S (fun q e I1 a1 S1 => ?_) (fun c w e I1 a1 X1 => ?_)
    · have hle := sPln_le e
      refine ih (j + 1) (by omega) q I1 hle.2 (a.tr a1) S1 (fun q2 e2 => ok q2 ?_) (fun c w e2 => bd c w ?_) _ (show x11 + 1 = nI (j + 1) by rw [h11, nI_1])
      · unfold sRep; rw [e]; exact e2
      · unfold sRep; rw [e]; exact e2
    · refine rf_v140F X1.ft (bd c w ?_ I1 (a.tr a1) X1)
      unfold sRep; rw [e]
theorem rf_v69 (hG : rfG f n) {T one m x4 two mm : Int32} {t m2 : Nat} (h5 : two = nI t) (ht : t < 4) (h6 : mm = nI m2) (hm2 : m2 ≤ 24) :
    ∀ (k j : Nat), j + k = m2 → ∀ (p : Nat) (I' : Nat → Nat → Int32), p ≤ n → rfA I I' → rfS f n p I' →
    (∀ q, sRep (fun q => if t < 3 then sPln f n t q else sA3 f n q) k p = .inr q → ∀ I'' x7 x8 x9 x10 x11, rfA I I'' → rfS f n q I'' → XC xE0 (d + 4) xM_36 (26, [some (.ref 0), some (.int T), some (.int one), some (.int m), some (.int (x4 + 1)), some (.int two), some (.int mm), x7, x8, x9, x10, x11], [], (sh2, I'', L, F)) Q) →
    (∀ c w, sRep (fun q => if t < 3 then sPln f n t q else sA3 f n q) k p = .inl (c, w) → ∀ I'', rfA I I'' → rfX f n c w I'' → Q none (sh2, I'', L, F)) →
    ∀ x7 x8 x9 x10 x11, x7 = nI j → XC xE0 (d + 4) xM_36 (69, [some (.ref 0), some (.int T), some (.int one), some (.int m), some (.int x4), some (.int two), some (.int mm), some (.int x7), x8, x9, x10, x11], [], (sh2, I', L, F)) Q := by
  intro k
  induction k with
  | zero =>
    intro j hj p I' hp a S ok bd x7 x8 x9 x10 x11 h7
    refine XC.block [26] 60 ?_
    exact And.intro (fun c => ok p rfl I' _ _ _ _ _ a S) (fun c => absurd (show mm ≤ x7 by rw [h6, h7]; exact nI_le (by omega) (by omega)) c)
  | succ k ih =>
    intro j hj p I' hp a S ok bd x7 x8 x9 x10 x11 h7
    have e7 : x7 + 1 = nI (j + 1) := by rw [h7, nI_1]
    refine XC.block [26, 69, 140] 60 ?_
    refine And.intro (fun c => absurd (show mm ≤ x7 from c) (by rw [h6, h7]; exact nI_ge (by omega) (by omega))) (fun c => ?_)
    refine And.intro (fun c => absurd S.2.2 c) (fun c => ?_)
    refine And.intro (fun c => ?_) (fun c => ?_)
    · have c : (3 : Int32) ≤ two := c
      rw [h5, show (3 : Int32) = nI 3 from rfl, nI_leI (by omega) (by omega)] at c
      have hg : ∀ {β : Type} (u v : β), (if t < 3 then u else v) = v := fun u v => if_neg (by omega)
      refine rf_kind hG hp S (fun t3 q e I1 s a1 S1 hs => ?_) (fun c w e I1 s a1 X1 => ?_)
      · have hle := sSml_le e
        have hq : q = p + 1 := congrArg Prod.snd hle.1
        have ht3 : t3 = f p := congrArg Prod.fst hle.1
        refine And.intro (fun c3 => ?_) (fun c3 => ?_)
        · have c3 : ¬ s = 3 := c3
          rw [hs, show (3 : Int32) = nI 3 from rfl, nI_eq (by omega) (by omega)] at c3
          refine rf_bad0 ?_
          refine rf_many rfl hG (by omega) S1 (fun m3 r e2 I2 s2 a2 S2 hs2 => ?_) (fun c w e2 I2 a2 X2 => ?_)
          · have hle2 := sSml_le e2
            have hr : r = q + 1 := congrArg Prod.snd hle2.1
            have hm3 : m3 = f q := congrArg Prod.fst hle2.1
            have key : sA3 f n p = sRep (sPln f n t3) m3 r := by
              unfold sA3 sArr
              rw [e]
              show (if _ then _ else _) = _
              rw [if_neg (by omega)]
              rw [e2]
            refine rf_v140 (I := I) hG hs (by omega) hs2 (by omega) m3 0 (by omega) r I2 (by omega) ((a.tr a1).tr a2) S2 (fun q2 e3 I3 x11 a3 S3 => ?_) (fun c w e3 I3 a3 X3 => ?_) _ rfl
            · have hle3 := sRep_le (n := n) (fun p q h => by have := sPln_le h; omega) m3 r q2 (by omega) e3
              refine ih (j + 1) (by omega) q2 I3 hle3.2 a3 S3 (fun q4 e4 => ok q4 ?_) (fun c w e4 => bd c w ?_) _ _ _ _ _ e7
              · unfold sRep; rw [hg, key, e3]; exact e4
              · unfold sRep; rw [hg, key, e3]; exact e4
            · refine bd c w ?_ I3 a3 X3
              unfold sRep; rw [hg, key, e3]
          · refine rf_v140F X2.ft (bd c w ?_ I2 ((a.tr a1).tr a2) X2)
            have key : sA3 f n p = .inl (c, w) := by
              unfold sA3 sArr
              rw [e]
              show (if _ then _ else _) = _
              rw [if_neg (by omega), e2]
            unfold sRep
            rw [hg, key]
        · have c3 : ¬ ¬ s = 3 := c3
          have c3 := Classical.not_not.mp c3
          rw [hs, show (3 : Int32) = nI 3 from rfl, nI_eq (by omega) (by omega)] at c3
          refine rf_bad1 S1.2.2 ?_
          refine rf_manyF (show ¬ (6 : Int32) ≤ 0 by decide) ?_
          refine rf_v140F (show ¬ (6 : Int32) ≤ 0 by decide) (bd 6 p ?_ _ ((((a.tr a1).put (by decide) (by decide))).put (by decide) (by decide)) (rfX.put S1.1 rfA.rf rfl (by decide) (by decide) S.2.1))
          have key : sA3 f n p = .inl (6, p) := by
            unfold sA3 sArr
            rw [e]
            show (if _ then _ else _) = _
            rw [if_pos ⟨rfl, c3⟩]
          unfold sRep
          rw [hg, key]
      · have hF : sRep (fun q => if t < 3 then sPln f n t q else sA3 f n q) (k + 1) p = .inl (c, w) := by
          unfold sRep
          rw [hg]
          unfold sA3 sArr
          rw [e]
        refine And.intro (fun c3 => ?_) (fun c3 => ?_)
        · exact rf_badF X1.ft (rf_manyF X1.ft (rf_v140F X1.ft (bd c w hF I1 (a.tr a1) X1)))
        · exact rf_badF X1.ft (rf_manyF X1.ft (rf_v140F X1.ft (bd c w hF I1 (a.tr a1) X1)))
    · have c : ¬ (3 : Int32) ≤ two := c
      rw [h5, show (3 : Int32) = nI 3 from rfl, nI_leI (by omega) (by omega)] at c
      have hg : ∀ {β : Type} (u v : β), (if t < 3 then u else v) = u := fun u v => if_pos (by omega)
      refine rf_plain h5 (by omega) hG hp S (fun q e I1 a1 S1 => ?_) (fun c w e I1 a1 X1 => ?_)
      · have hle := sPln_le e
        refine ih (j + 1) (by omega) q I1 hle.2 (a.tr a1) S1 (fun q2 e2 => ok q2 ?_) (fun c w e2 => bd c w ?_) _ _ _ _ _ e7
        · unfold sRep; rw [hg, e]; exact e2
        · unfold sRep; rw [hg, e]; exact e2
      · refine rf_v69F X1.ft (bd c w ?_ I1 (a.tr a1) X1)
        unfold sRep; rw [hg, e]
theorem rf_v26 (hG : rfG f n) {T one m : Int32} {t m1 : Nat} (h2 : one = nI t) (ht : t < 4) (h3 : m = nI m1) (hm1 : m1 ≤ 24) :
    ∀ (k j : Nat), j + k = m1 → ∀ (p : Nat) (I' : Nat → Nat → Int32), p ≤ n → rfA I I' → rfS f n p I' →
    (∀ q, sRep (fun q => if t < 3 then sPln f n t q else sA2 f n q) k p = .inr q → ∀ I'', rfA I I'' → rfS f n q I'' → Q none (sh2, I'', L, F)) →
    (∀ c w, sRep (fun q => if t < 3 then sPln f n t q else sA2 f n q) k p = .inl (c, w) → ∀ I'', rfA I I'' → rfX f n c w I'' → Q none (sh2, I'', L, F)) →
    ∀ x4 x5 x6 x7 x8 x9 x10 x11, x4 = nI j → XC xE0 (d + 4) xM_36 (26, [some (.ref 0), some (.int T), some (.int one), some (.int m), some (.int x4), x5, x6, x7, x8, x9, x10, x11], [], (sh2, I', L, F)) Q := by
  intro k
  induction k with
  | zero =>
    intro j hj p I' hp a S ok bd x4 x5 x6 x7 x8 x9 x10 x11 h4
    refine XC.block [26] 60 ?_
    exact And.intro (fun c => ⟨trivial, ok p rfl I' a S⟩) (fun c => absurd (show m ≤ x4 by rw [h3, h4]; exact nI_le (by omega) (by omega)) c)
  | succ k ih =>
    intro j hj p I' hp a S ok bd x4 x5 x6 x7 x8 x9 x10 x11 h4
    have e4 : x4 + 1 = nI (j + 1) := by rw [h4, nI_1]
    refine XC.block [26, 69] 60 ?_
    refine And.intro (fun c => absurd (show m ≤ x4 from c) (by rw [h3, h4]; exact nI_ge (by omega) (by omega))) (fun c => ?_)
    refine And.intro (fun c => absurd S.2.2 c) (fun c => ?_)
    refine And.intro (fun c => ?_) (fun c => ?_)
    · have c : (3 : Int32) ≤ one := c
      rw [h2, show (3 : Int32) = nI 3 from rfl, nI_leI (by omega) (by omega)] at c
      have hg : ∀ {β : Type} (u v : β), (if t < 3 then u else v) = v := fun u v => if_neg (by omega)
      refine rf_kind hG hp S (fun t2 q e I1 s a1 S1 hs => ?_) (fun c w e I1 s a1 X1 => ?_)
      · have hle := sSml_le e
        have hq : q = p + 1 := congrArg Prod.snd hle.1
        have ht2 : t2 = f p := congrArg Prod.fst hle.1
        refine rf_many rfl hG (by omega) S1 (fun m2 r e2 I2 s2 a2 S2 hs2 => ?_) (fun c w e2 I2 a2 X2 => ?_)
        · have hle2 := sSml_le e2
          have hr : r = q + 1 := congrArg Prod.snd hle2.1
          have hm2 : m2 = f q := congrArg Prod.fst hle2.1
          have key : sA2 f n p = sRep (fun q => if t2 < 3 then sPln f n t2 q else sA3 f n q) m2 r := by
            unfold sA2 sArr
            rw [e]
            show (if _ then _ else _) = _
            rw [if_neg (fun z => absurd z.1 (by decide))]
            rw [e2]
          refine rf_v69 (I := I) hG hs (by omega) hs2 (by omega) m2 0 (by omega) r I2 (by omega) ((a.tr a1).tr a2) S2 (fun q2 e3 I3 x7 x8 x9 x10 x11 a3 S3 => ?_) (fun c w e3 I3 a3 X3 => ?_) _ _ _ _ _ rfl
          · have hle3 := sRep_le (n := n) (fun p q h => by
              split at h
              · have := sPln_le h; omega
              · have := sA3_le h; omega) m2 r q2 (by omega) e3
            refine ih (j + 1) (by omega) q2 I3 hle3.2 a3 S3 (fun q4 e4 => ok q4 ?_) (fun c w e4 => bd c w ?_) _ _ _ _ _ _ _ _ e4
            · unfold sRep; rw [hg, key, e3]; exact e4
            · unfold sRep; rw [hg, key, e3]; exact e4
          · refine bd c w ?_ I3 a3 X3
            unfold sRep; rw [hg, key, e3]
        · refine rf_v69F X2.ft (bd c w ?_ I2 ((a.tr a1).tr a2) X2)
          have key : sA2 f n p = .inl (c, w) := by
            unfold sA2 sArr
            rw [e]
            show (if _ then _ else _) = _
            rw [if_neg (fun z => absurd z.1 (by decide)), e2]
          unfold sRep
          rw [hg, key]
      · have hF : sRep (fun q => if t < 3 then sPln f n t q else sA2 f n q) (k + 1) p = .inl (c, w) := by
          unfold sRep
          rw [hg]
          unfold sA2 sArr
          rw [e]
        exact rf_manyF X1.ft (rf_v69F X1.ft (bd c w hF I1 (a.tr a1) X1))
    · have c : ¬ (3 : Int32) ≤ one := c
      rw [h2, show (3 : Int32) = nI 3 from rfl, nI_leI (by omega) (by omega)] at c
      have hg : ∀ {β : Type} (u v : β), (if t < 3 then u else v) = u := fun u v => if_pos (by omega)
      refine rf_plain h2 (by omega) hG hp S (fun q e I1 a1 S1 => ?_) (fun c w e I1 a1 X1 => ?_)
      · have hle := sPln_le e
        refine ih (j + 1) (by omega) q I1 hle.2 (a.tr a1) S1 (fun q2 e2 => ok q2 ?_) (fun c w e2 => bd c w ?_) _ _ _ _ _ _ _ _ e4
        · unfold sRep; rw [hg, e]; exact e2
        · unfold sRep; rw [hg, e]; exact e2
      · refine rf_v26F X1.ft (bd c w ?_ I1 (a.tr a1) X1)
        unfold sRep; rw [hg, e]
theorem rf_value {p t : Nat} {x : Int32} (hx : x = nI t) (ht : t < 4) (hG : rfG f n) (hp : p ≤ n) (hS : rfS f n p I)
    (hok : ∀ q, sVal f n t p = .inr q → ∀ I', rfA I I' → rfS f n q I' → Q none (sh2, I', L, F))
    (hbad : ∀ c w, sVal f n t p = .inl (c, w) → ∀ I', rfA I I' → rfX f n c w I' → Q none (sh2, I', L, F)) : XM xE0 (d + 4) 36 [.ref 0, .int x] (sh2, I, L, F) Q := by
  refine XC.block [26] 60 ?_
  refine And.intro (fun c => ?_) (fun c => ?_)
  · have c : (3 : Int32) ≤ x := c
    rw [hx, show (3 : Int32) = nI 3 from rfl, nI_leI (by omega) (by omega)] at c
    have hg : sVal f n t p = sA1 f n p := if_neg (by omega)
    rw [hg] at hok hbad
    refine rf_kind hG hp hS (fun t1 q e I1 s a1 S1 hs => ?_) (fun c w e I1 s a1 X1 => ?_)
    · have hle := sSml_le e
      have hq : q = p + 1 := congrArg Prod.snd hle.1
      have ht1 : t1 = f p := congrArg Prod.fst hle.1
      refine rf_many rfl hG (by omega) S1 (fun m1 r e2 I2 s2 a2 S2 hs2 => ?_) (fun c w e2 I2 a2 X2 => ?_)
      · have hle2 := sSml_le e2
        have hr : r = q + 1 := congrArg Prod.snd hle2.1
        have hm1 : m1 = f q := congrArg Prod.fst hle2.1
        have key : sA1 f n p = sRep (fun q => if t1 < 3 then sPln f n t1 q else sA2 f n q) m1 r := by
          unfold sA1 sArr
          rw [e]
          show (if _ then _ else _) = _
          rw [if_neg (fun z => absurd z.1 (by decide))]
          rw [e2]
        rw [key] at hok hbad
        exact rf_v26 (I := I) hG hs (by omega) hs2 (by omega) m1 0 (by omega) r I2 (by omega) (a1.tr a2) S2 hok hbad _ _ _ _ _ _ _ _ rfl
      · refine rf_v26F X2.ft (hbad c w ?_ I2 (a1.tr a2) X2)
        unfold sA1 sArr
        rw [e]
        show (if _ then _ else _) = _
        rw [if_neg (fun z => absurd z.1 (by decide)), e2]
    · have hF : sA1 f n p = .inl (c, w) := by
        unfold sA1 sArr
        rw [e]
      exact rf_manyF X1.ft (rf_v26F X1.ft (hbad c w hF I1 a1 X1))
  · have c : ¬ (3 : Int32) ≤ x := c
    rw [hx, show (3 : Int32) = nI 3 from rfl, nI_leI (by omega) (by omega)] at c
    have hg : sVal f n t p = sPln f n t p := if_pos (by omega)
    rw [hg] at hok hbad
    exact rf_plain hx (by omega) hG hp hS (fun q e I1 a1 S1 => ⟨trivial, hok q e I1 a1 S1⟩) (fun c w e I1 a1 X1 => ⟨trivial, hbad c w e I1 a1 X1⟩)
end RFC
