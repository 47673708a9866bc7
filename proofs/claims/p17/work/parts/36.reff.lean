/-! the reference on paper: all PARTS -/
theorem nI_inj {a b : Nat} (ha : a < 2 ^ 32) (hb : b < 2 ^ 32) : nI a = nI b ↔ a = b := by
  constructor
  · intro h
    have h1 : (nI a).toBitVec.toNat = (nI b).toBitVec.toNat := by rw [h]
    have h2 : a % 2 ^ 32 = b % 2 ^ 32 := h1
    omega
  · intro h; rw [h]
theorem sNum_lt {f : Nat → Nat} (hf : ∀ k, f k < 256) : ∀ (k p : Nat), sNum f p k < 256 ^ k
  | 0, p => by show 0 < 1; omega
  | k + 1, p => by
    have := sNum_lt hf k (p + 1)
    have := hf p
    show f p + 256 * sNum f (p + 1) k < 256 ^ (k + 1)
    rw [Nat.pow_succ]
    omega
/-- nothing changes but what LOADING notes of the PARTS -/
def rfB (I I' : Nat → Nat → Int32) : Prop := ∀ b k, (b = 0 → k < 2 ∨ (4 < k ∧ k ≠ 13 ∧ k ≠ 14)) → (2 ≤ b → 9 < b) → I' b k = I b k
theorem rfB.rf {I : Nat → Nat → Int32} : rfB I I := fun _ _ _ _ => rfl
theorem rfB.ag {I J K : Nat → Nat → Int32} (h : rfB I J) (a : rfA J K) : rfB I K := fun b k h1 h2 => (a b k (fun e => by have := h1 e; omega)).trans (h b k h1 h2)
theorem rfB.agC {i : Nat} {I J K : Nat → Nat → Int32} (h : rfB I J) (a : rfC i J K) : rfB I K := fun b k h1 h2 => (a b k (fun e => by have := h1 e; omega) (fun e e2 => by have := h2 (by omega); omega)).trans (h b k h1 h2)
theorem rfB.st {I J : Nat → Nat → Int32} (h : rfB I J) {b k : Nat} {x : Int32} (hb : 2 ≤ b) (hb2 : b ≤ 9) : rfB I (x2 J b k x) := by
  intro b2 k2 h1 h2
  rw [x2_o _ _ (fun e => by have := h2 (by omega); omega)]
  exact h b2 k2 h1 h2
theorem rfB.st0 {I J : Nat → Nat → Int32} (h : rfB I J) {k : Nat} {x : Int32} (hk : k = 13 ∨ k = 14) : rfB I (x2 J 0 k x) := by
  intro b2 k2 h1 h2
  rw [x2_o _ _ (fun e => by have := h1 e.1; omega)]
  exact h b2 k2 h1 h2
/-- what is noted of PAIR j -/
def rfP1 (f : Nat → Nat) (n : Nat) (J : Nat → Nat → Int32) (j : Nat) : Prop := J 2 j = nI (sKey f n j) ∧ J 3 j = nI (f (sKey f n j + 1 + f (sKey f n j))) ∧ J 4 j = nI (sKey f n j + 2 + f (sKey f n j)) ∧ sKey f n j + f (sKey f n j) < 1400
/-- what is noted of INFO j -/
def rfP2 (f : Nat → Nat) (n b : Nat) (J : Nat → Nat → Int32) (j : Nat) : Prop := J 5 j = nI (sNam f n b j) ∧ sNam f n b j + f (sNam f n b j) < 1400 ∧ ∃ v, sInf f n (sNam f n b j + 1 + f (sNam f n b j)) = .inr (v, sNam f n b (j + 1)) ∧ J 6 j = nI v.1 ∧ J 7 j = nI v.2.1 ∧ J 8 j = nI v.2.2.1 ∧ J 9 j = nI v.2.2.2
def rfP (f : Nat → Nat) (n t k b : Nat) (J : Nat → Nat → Int32) : Prop := J 0 14 = nI t ∧ J 0 13 = nI k ∧ (∀ j, j < k → rfP1 f n J j) ∧ ∀ j, j < t → rfP2 f n b J j
section RFF
variable {f : Nat → Nat} {n : Nat} {I J : Nat → Nat → Int32} {L : Nat → Nat → Int64} {F : Nat → Nat → UInt32} {d : Nat} {Q : xP}
theorem rfF.st0 (h : rfF f n I) {k : Nat} {x : Int32} (hk : 4 < k) : rfF f n (x2 I 0 k x) := ⟨fun j hj => (x2_o _ _ (fun e => by omega)).trans (h.1 j hj), (x2_o _ _ (fun e => by omega)).trans h.2⟩
theorem rfX.st0 {c w : Nat} (h : rfX f n c w I) {k : Nat} {x : Int32} (hk : 4 < k) : rfX f n c w (x2 I 0 k x) := ⟨h.1.st0 hk, ⟨(x2_o _ _ (fun e => by omega)).trans h.2.1.1, h.2.1.2⟩, (x2_o _ _ (fun e => by omega)).trans h.2.2⟩
theorem rfS.st0 {p : Nat} (h : rfS f n p I) {k : Nat} {x : Int32} (hk : 4 < k) : rfS f n p (x2 I 0 k x) := ⟨h.1.st0 hk, (x2_o _ _ (fun e => by omega)).trans h.2.1, (x2_o _ _ (fun e => by omega)).trans h.2.2⟩
/-- FAULT c at w while the PARTS are read -/
abbrev rfBe (f : Nat → Nat) (n : Nat) (I : Nat → Nat → Int32) (L : Nat → Nat → Int64) (F : Nat → Nat → UInt32) (Q : xP) (c w : Nat) : Prop := ∀ I', rfB I I' → rfX f n c w I' → Q none (sh2, I', L, F)
theorem rf_p198F {c w : Nat} {m v i : Int32} {y4 : Option Value} (C : rfB I J) (X : rfX f n c w J) (hQ : rfBe f n I L F Q c w) : XC xE0 (d + 5) xM_37 (198, [some (.ref 0), some (.int m), some (.int v), some (.int i), y4], [], (sh2, J, L, F)) Q := by
  refine XC.block [] 60 ?_
  refine And.intro (fun z => ⟨trivial, hQ J C X⟩) (fun z => ?_)
  exact And.intro (fun z => ⟨trivial, hQ J C X⟩) (fun z => absurd (rf_ne0 X.ft) z)
theorem rf_p72F {c w : Nat} {m v i : Int32} {y4 : Option Value} (C : rfB I J) (X : rfX f n c w J) (hQ : rfBe f n I L F Q c w) : XC xE0 (d + 5) xM_37 (72, [some (.ref 0), some (.int m), some (.int v), some (.int i), y4], [], (sh2, J, L, F)) Q := by
  refine XC.block [198] 60 ?_
  refine And.intro (fun z => rf_p198F C X hQ) (fun z => ?_)
  exact And.intro (fun z => rf_p198F C X hQ) (fun z => absurd (rf_ne0 X.ft) z)
theorem rf_p50F {c w : Nat} {m v : Int32} {y3 y4 : Option Value} (C : rfB I J) (X : rfX f n c w J) (hQ : rfBe f n I L F Q c w) : XC xE0 (d + 5) xM_37 (50, [some (.ref 0), some (.int m), some (.int v), y3, y4], [], (sh2, J, L, F)) Q := by
  refine XC.block [72] 60 ?_
  refine rf_manyF X.ft ?_
  refine rf_manyF (X.st0 (by decide)).ft ?_
  exact rf_p72F ((C.st0 (by decide)).st0 (by decide)) ((X.st0 (by decide)).st0 (by decide)) hQ
theorem rf_p28F {c w : Nat} {m : Int32} {y2 y3 y4 : Option Value} (C : rfB I J) (X : rfX f n c w J) (hQ : rfBe f n I L F Q c w) : XC xE0 (d + 5) xM_37 (28, [some (.ref 0), some (.int m), y2, y3, y4], [], (sh2, J, L, F)) Q := by
  refine XC.block [50] 60 ?_
  refine rf_readF X.ft ?_
  exact And.intro (fun z => rf_badF X.ft (rf_p50F C X hQ)) (fun z => rf_badF X.ft (rf_p50F C X hQ))
theorem rf_p153F {c w i : Nat} {m v ii j : Int32} (hi : ii = nI i) (hi2 : i < 24) (C : rfB I J) (X : rfX f n c w J) (hQ : rfBe f n I L F Q c w) : XC xE0 (d + 5) xM_37 (153, [some (.ref 0), some (.int m), some (.int v), some (.int ii), some (.int j)], [], (sh2, J, L, F)) Q := by
  refine XC.block [72] 60 ?_
  refine rf_kindF X.ft ?_
  refine And.intro (rf_in hi (by omega) (by decide)) ?_
  refine And.intro (rf_in hi (by omega) (by decide)) ?_
  have X2 : rfX f n c w (x2 (x2 J 3 ii.toNatClampNeg 0) 4 ii.toNatClampNeg (J 0 2)) := (X.st (by decide)).st (by decide)
  have C2 : rfB I (x2 (x2 J 3 ii.toNatClampNeg 0) 4 ii.toNatClampNeg (J 0 2)) := (C.st (by decide) (by decide)).st (by decide) (by decide)
  exact And.intro (fun z => rf_p72F C2 X2 hQ) (fun z => absurd (rf_ne0 X2.ft) z)
theorem rf_p105F {c w i : Nat} {m v ii j : Int32} (hi : ii = nI i) (hi2 : i < 24) (C : rfB I J) (X : rfX f n c w J) (hQ : rfBe f n I L F Q c w) : XC xE0 (d + 5) xM_37 (105, [some (.ref 0), some (.int m), some (.int v), some (.int ii), some (.int j)], [], (sh2, J, L, F)) Q := by
  refine XC.block [153] 60 ?_
  refine And.intro (fun z => rf_p153F hi hi2 C X hQ) (fun z => ?_)
  exact And.intro (fun z => rf_p153F hi hi2 C X hQ) (fun z => absurd (rf_ne0 X.ft) z)
theorem rf_p105 (hG : rfG f n) {i p : Nat} {m v ii : Int32} {M : Nat → Nat} (hi : ii = nI i) (hi2 : i < 24) (C : rfB I J) {r : Nat} (S : rfS f n r J) (hM : ∀ j, j < i → J 2 j = nI (M j) ∧ M j + f (M j) < 1400) (hp : J 2 i = nI p) (hp2 : p + f p < 1400)
    (hok : (∀ l, l < i → ¬ sAlk f (M l) p) → ∀ x, XC xE0 (d + 5) xM_37 (153, [some (.ref 0), some (.int m), some (.int v), some (.int ii), some (.int x)], [], (sh2, J, L, F)) Q)
    (hbad : (∃ l, l < i ∧ sAlk f (M l) p) → rfBe f n I L F Q 7 p) :
    ∀ (k j : Nat), j + k = i → (∀ l, l < j → ¬ sAlk f (M l) p) → ∀ x, x = nI j → XC xE0 (d + 5) xM_37 (105, [some (.ref 0), some (.int m), some (.int v), some (.int ii), some (.int x)], [], (sh2, J, L, F)) Q := by
  have ei : J 2 ii.toNatClampNeg = nI p := by rw [hi, nI_clamp (by omega)]; exact hp
  intro k
  induction k with
  | zero =>
    intro j hj hall x hx
    refine XC.block [153] 60 ?_
    exact And.intro (fun z => hok (fun l hl => hall l (by omega)) _) (fun z => absurd (show ii ≤ x by rw [hi, hx]; exact nI_le (by omega) (by omega)) z)
  | succ k ih =>
    intro j hj hall x hx
    have ej : J 2 x.toNatClampNeg = nI (M j) := by rw [hx, nI_clamp (by omega)]; exact (hM j (by omega)).1
    have e2 : x + 1 = nI (j + 1) := by rw [hx, nI_1]
    refine XC.block [153, 105] 60 ?_
    refine And.intro (fun c => absurd (show ii ≤ x from c) (by rw [hi, hx]; exact nI_ge (by omega) (by omega))) (fun c => ?_)
    refine And.intro (fun c => absurd S.2.2 c) (fun c => ?_)
    refine And.intro (rf_in hx (by omega) (by decide)) ?_
    refine And.intro (rf_in hi (by omega) (by decide)) ?_
    refine rf_alike S.1 hG.1 (hM j (by omega)).2 hp2 ej ei (fun h => ?_) (fun h => ?_)
    · refine And.intro (rf_in hi (by omega) (by decide)) ?_
      refine rf_bad1 S.2.2 ?_
      exact rf_p105F hi hi2 (C.ag ((rfA.rf.put (by decide) (by decide)).put (by decide) (by decide))) (rfX.put S.1 rfA.rf rfl (by decide) (by decide) ei) (hbad ⟨j, by omega, h⟩)
    · refine And.intro (rf_in hi (by omega) (by decide)) ?_
      refine rf_bad0 ?_
      refine ih (j + 1) (by omega) (fun l hl => ?_) _ e2
      rcases Nat.lt_or_ge l j with q | q
      · exact hall l q
      · have : l = j := by omega
        subst this
        exact h
theorem rf_p198 (hG : rfG f n) {t k b : Nat} (ht : t ≤ 24) {m v : Int32} :
    ∀ (u i : Nat), i + u = t → ∀ (J : Nat → Nat → Int32), rfB I J → rfS f n (sNam f n b i) J → sNam f n b i ≤ n → J 0 14 = nI t → J 0 13 = nI k → (∀ j, j < k → rfP1 f n J j) → (∀ j, j < i → rfP2 f n b J j) →
    (∀ a, sIfs f n b u i = .inr a → ∀ J', rfB I J' → rfS f n a J' → rfP f n t k b J' → Q none (sh2, J', L, F)) →
    (∀ c w, sIfs f n b u i = .inl (c, w) → rfBe f n I L F Q c w) →
    ∀ ii y4, ii = nI i → XC xE0 (d + 5) xM_37 (198, [some (.ref 0), some (.int m), some (.int v), some (.int ii), y4], [], (sh2, J, L, F)) Q := by
  intro u
  induction u with
  | zero =>
    intro i hi J C S hp h14 h13 hP1 hP2 ok bd ii y4 hii
    refine XC.block [198] 60 ?_
    refine And.intro (fun z => ⟨trivial, ok _ rfl J C S ⟨h14, h13, hP1, fun j hj => hP2 j (by omega)⟩⟩) (fun z => absurd (show J 0 14 ≤ ii by rw [h14, hii]; exact nI_le (by omega) (by omega)) z)
  | succ u ih =>
    intro i hi J C S hp h14 h13 hP1 hP2 ok bd ii y4 hii
    have e2 : ii + 1 = nI (i + 1) := by rw [hii, nI_1]
    refine XC.block [198] 60 ?_
    refine And.intro (fun z => absurd (show J 0 14 ≤ ii from z) (by rw [h14, hii]; exact nI_ge (by omega) (by omega))) (fun z => ?_)
    refine And.intro (fun z => absurd S.2.2 z) (fun z => ?_)
    refine rf_info (M := sNam f n b) hG hii (by omega) rfl S hp (fun j hj => ⟨(hP2 j hj).1, (hP2 j hj).2.1⟩) (fun q w q' e1 eD e3 J' C' S' t5 t6 t7 t8 t9 => ?_) (fun c w e1 J' C' X' => ?_) (fun q e1 eD J' C' X' => ?_) (fun q c w e1 eD e3 J' C' X' => ?_)
    · have l1 := sStr_le e1
      have eN : sNam f n b (i + 1) = q' := by
        show (match sNm f n (sNam f n b i) with | .inl _ => 0 | .inr q => q) = q'
        simp only [sNm, e1, e3]
      have hq' : q' ≤ n := by
        have := e3
        unfold sInf at this
        split at this
        · cases this
        · split at this
          · cases this
          · split at this
            · cases this
            · split at this
              · cases this
              · split at this
                · cases this
                · split at this
                  · injection this with this
                    injection this with _ this
                    omega
                  · cases this
      have hfr : ∀ b2 k2, (b2 = 0 → k2 < 2 ∨ 4 < k2) → (5 ≤ b2 → b2 ≤ 9 → k2 ≠ i) → J' b2 k2 = J b2 k2 := C'
      refine ih (i + 1) (by omega) J' (C.agC C') (by rw [eN]; exact S') (by rw [eN]; exact hq') ((hfr 0 14 (by omega) (by omega)).trans h14) ((hfr 0 13 (by omega) (by omega)).trans h13) (fun j hj => ?_) (fun j hj => ?_) (fun a ea => ok a ?_) (fun c w ea => bd c w ?_) _ _ e2
      · obtain ⟨g1, g2, g3, g4⟩ := hP1 j hj
        exact ⟨(hfr 2 j (by omega) (by omega)).trans g1, (hfr 3 j (by omega) (by omega)).trans g2, (hfr 4 j (by omega) (by omega)).trans g3, g4⟩
      · rcases Nat.lt_or_ge j i with hj2 | hj2
        · obtain ⟨g1, g2, vv, g3, g4, g5, g6, g7⟩ := hP2 j hj2
          exact ⟨(hfr 5 j (by omega) (by omega)).trans g1, g2, vv, g3, (hfr 6 j (by omega) (by omega)).trans g4, (hfr 7 j (by omega) (by omega)).trans g5, (hfr 8 j (by omega) (by omega)).trans g6, (hfr 9 j (by omega) (by omega)).trans g7⟩
        · have : j = i := by omega
          subst this
          have hn := hG.2
          exact ⟨t5, by omega, w, by rw [eN, l1.1]; exact e3, t6, t7, t8, t9⟩
      · simp only [sIfs, e1, eD, e3]; exact ea
      · simp only [sIfs, e1, eD, e3]; exact ea
    · exact rf_p198F (C.agC C') X' (bd c w (by simp only [sIfs, e1]))
    · exact rf_p198F (C.agC C') X' (bd 7 _ (by simp only [sIfs, e1, eD]; rfl))
    · exact rf_p198F (C.agC C') X' (bd c w (by simp only [sIfs, e1, eD, e3]; rfl))
theorem rf_p72 (hG : rfG f n) {t k : Nat} (hk : k ≤ 24) {m v : Int32} :
    ∀ (u i : Nat), i + u = k → ∀ (J : Nat → Nat → Int32), rfB I J → rfS f n (sKey f n i) J → sKey f n i ≤ n → J 0 14 = nI t → J 0 13 = nI k → (∀ j, j < i → rfP1 f n J j) →
    (∀ b, sPrs f n u i = .inr b → ∀ J' y4, rfB I J' → rfS f n b J' → b ≤ n → J' 0 14 = nI t → J' 0 13 = nI k → (∀ j, j < k → rfP1 f n J' j) → XC xE0 (d + 5) xM_37 (198, [some (.ref 0), some (.int m), some (.int v), some (.int 0), y4], [], (sh2, J', L, F)) Q) →
    (∀ c w, sPrs f n u i = .inl (c, w) → rfBe f n I L F Q c w) →
    ∀ ii y4, ii = nI i → XC xE0 (d + 5) xM_37 (72, [some (.ref 0), some (.int m), some (.int v), some (.int ii), y4], [], (sh2, J, L, F)) Q := by
  intro u
  induction u with
  | zero =>
    intro i hi J C S hp h14 h13 hP1 ok bd ii y4 hii
    refine XC.block [198] 60 ?_
    refine And.intro (fun z => ok _ rfl J _ C S hp h14 h13 (fun j hj => hP1 j (by omega))) (fun z => absurd (show J 0 13 ≤ ii by rw [h13, hii]; exact nI_le (by omega) (by omega)) z)
  | succ u ih =>
    intro i hi J C S hp h14 h13 hP1 ok bd ii y4 hii
    have hn := hG.2
    have e2 : ii + 1 = nI (i + 1) := by rw [hii, nI_1]
    have ek : ii.toNatClampNeg = i := by rw [hii, nI_clamp (by omega)]
    refine XC.block [198, 105] 60 ?_
    refine And.intro (fun z => absurd (show J 0 13 ≤ ii from z) (by rw [h13, hii]; exact nI_ge (by omega) (by omega))) (fun z => ?_)
    refine And.intro (fun z => absurd S.2.2 z) (fun z => ?_)
    refine And.intro (rf_in hii (by omega) (by decide)) ?_
    refine rf_string (z := true) (Or.inl ⟨rfl, rfl⟩) hG hp (S.st (by decide)) (fun q e1 J1 a1 S1 => ?_) (fun c w e1 J1 a1 X1 => ?_)
    · have l1 := sStr_le e1
      have a1 : rfA (x2 J 2 ii.toNatClampNeg (J 0 2)) J1 := a1
      have C1 : rfB I J1 := (C.st (by decide) (by decide)).ag a1
      have g2 : J1 2 i = nI (sKey f n i) := by rw [a1 2 i (by omega), ek, x2_same]; exact S.2.1
      refine rf_p105 (M := sKey f n) (p := sKey f n i) hG hii (by omega) C1 S1 (fun j hj => ⟨?_, (hP1 j hj).2.2.2⟩) g2 (by omega) (fun hall x => ?_) (fun hex => bd 7 _ ?_) i 0 (by omega) (fun l hl => absurd hl (by omega)) _ rfl
      · rw [a1 2 j (by omega), x2_o _ _ (by omega)]; exact (hP1 j hj).1
      · have hD : sDup f (sKey f n) i = false := by
          cases hd : sDup f (sKey f n) i with
          | false => rfl
          | true =>
            obtain ⟨j, hj, z⟩ := sDup_iff.mp hd
            exact absurd z (hall j hj)
        refine XC.block [72] 60 ?_
        refine rf_kind hG l1.2.1 S1 (fun ty r e3 J3 s a3 S3 hs => ?_) (fun c w e3 J3 s a3 X3 => ?_)
        · have l3 := sSml_le e3
          have hr : r = q + 1 := congrArg Prod.snd l3.1
          have hty : ty = f q := congrArg Prod.fst l3.1
          refine And.intro (rf_in hii (by omega) (by decide)) ?_
          refine And.intro (rf_in hii (by omega) (by decide)) ?_
          have C4 : rfB I (x2 (x2 J3 3 ii.toNatClampNeg s) 4 ii.toNatClampNeg (J3 0 2)) := ((C1.ag a3).st (by decide) (by decide)).st (by decide) (by decide)
          have S4 : rfS f n r (x2 (x2 J3 3 ii.toNatClampNeg s) 4 ii.toNatClampNeg (J3 0 2)) := (S3.st (by decide)).st (by decide)
          refine And.intro (fun z => absurd S4.2.2 z) (fun z => ?_)
          refine And.intro (rf_in hii (by omega) (by decide)) ?_
          have e4 : x2 (x2 J3 3 ii.toNatClampNeg s) 4 ii.toNatClampNeg (J3 0 2) 3 ii.toNatClampNeg = nI ty := by
            rw [x2_o _ _ (by omega), x2_same]; exact hs
          refine rf_value e4 (by omega) hG (by omega) S4 (fun q2 e5 J5 a5 S5 => ?_) (fun c w e5 J5 a5 X5 => ?_)
          · have l5 := sVal_le e5
            have a5 : rfA (x2 (x2 J3 3 ii.toNatClampNeg s) 4 ii.toNatClampNeg (J3 0 2)) J5 := a5
            have eK : sKey f n (i + 1) = q2 := by
              show (match sPr f n (sKey f n i) with | .inl _ => 0 | .inr q => q) = q2
              simp only [sPr, e1, e3, e5]
            have hb : ∀ b2 k2, (b2 = 0 → k2 < 2 ∨ 4 < k2) → ¬ ((b2 = 2 ∨ b2 = 3 ∨ b2 = 4) ∧ k2 = i) → J5 b2 k2 = J b2 k2 := by
              intro b2 k2 h1 h2
              rw [a5 b2 k2 h1, x2_o _ _ (by omega), x2_o _ _ (by omega), a3 b2 k2 h1, a1 b2 k2 h1, x2_o _ _ (by omega)]
            refine ih (i + 1) (by omega) J5 (C4.ag a5) (by rw [eK]; exact S5) (by rw [eK]; exact l5.2) ((hb 0 14 (by omega) (by omega)).trans h14) ((hb 0 13 (by omega) (by omega)).trans h13) (fun j hj => ?_) (fun b eb => ok b ?_) (fun c w eb => bd c w ?_) _ _ e2
            · rcases Nat.lt_or_ge j i with hj2 | hj2
              · obtain ⟨t1, t2, t3, t4⟩ := hP1 j hj2
                exact ⟨(hb 2 j (by omega) (by omega)).trans t1, (hb 3 j (by omega) (by omega)).trans t2, (hb 4 j (by omega) (by omega)).trans t3, t4⟩
              · have : j = i := by omega
                subst this
                refine ⟨?_, ?_, ?_, by omega⟩
                · rw [a5 2 j (by omega), x2_o _ _ (by omega), x2_o _ _ (by omega), a3 2 j (by omega)]; exact g2
                · rw [a5 3 j (by omega), x2_o _ _ (by omega), ek, x2_same, hs, hty, l1.1]
                · rw [a5 4 j (by omega), ek, x2_same, S3.2.1, hr, ← l1.1]
                  congr 1
                  omega
            · simp only [sPrs, e1, hD, e3, e5]; exact eb
            · simp only [sPrs, e1, hD, e3, e5]; exact eb
          · exact rf_p72F (C4.ag a5) X5 (bd c w (by simp only [sPrs, e1, hD, e3, e5]; rfl))
        · refine And.intro (rf_in hii (by omega) (by decide)) ?_
          refine And.intro (rf_in hii (by omega) (by decide)) ?_
          have X4 : rfX f n c w (x2 (x2 J3 3 ii.toNatClampNeg s) 4 ii.toNatClampNeg (J3 0 2)) := (X3.st (by decide)).st (by decide)
          have C4 : rfB I (x2 (x2 J3 3 ii.toNatClampNeg s) 4 ii.toNatClampNeg (J3 0 2)) := ((C1.ag a3).st (by decide) (by decide)).st (by decide) (by decide)
          exact And.intro (fun z => rf_p72F C4 X4 (bd c w (by simp only [sPrs, e1, hD, e3]; rfl))) (fun z => absurd (rf_ne0 X4.ft) z)
      · obtain ⟨j, hj, z⟩ := hex
        have hD : sDup f (sKey f n) i = true := sDup_iff.mpr ⟨j, hj, z⟩
        simp only [sPrs, e1, hD]
        rfl
    · exact rf_p105F hii (by omega) ((C.st (by decide) (by decide)).ag a1) X1 (bd c w (by simp only [sPrs, e1]))
end RFF
