/-! TOKENS -/
/-- the place of TOKEN i of an ARRAY of TEXTS at p -/
def sTp (f : Nat → Nat) (p : Nat) : Nat → Nat
  | 0 => p + 2
  | i + 1 => sTp f p i + 1 + f (sTp f p i)
def sTg1 (f : Nat → Nat) (p i : Nat) : Prop := 1 ≤ f (sTp f p i) ∧ f (sTp f p i) ≤ 4 ∧ sDup f (sTp f p) i = false
def sTx (f : Nat → Nat) (p : Nat) : Prop := f p = 2 ∧ 2 ≤ f (p + 1) ∧ f (p + 1) ≤ 16 ∧ ∀ i, i < f (p + 1) → sTg1 f p i
/-- nothing changes but what LOADING notes of KEYS and TENSORS -/
def rfD (I I' : Nat → Nat → Int32) : Prop := ∀ b k, (b = 0 → k < 3 ∨ (4 < k ∧ k ≠ 22 ∧ k ≠ 23 ∧ k ≠ 24)) → (10 ≤ b → 16 < b) → I' b k = I b k
theorem rfD.rf {I : Nat → Nat → Int32} : rfD I I := fun _ _ _ _ => rfl
theorem rfD.tr {I J K : Nat → Nat → Int32} (h : rfD I J) (a : rfD J K) : rfD I K := fun b k h1 h2 => (a b k h1 h2).trans (h b k h1 h2)
theorem rfD.bad {I J : Nat → Nat → Int32} (h : rfD I J) {c w : Int32} : rfD I (x2 (x2 J 0 3 c) 0 4 w) := by
  intro b k h1 h2
  rw [x2_o _ _ (fun e => by have := h1 e.1; omega), x2_o _ _ (fun e => by have := h1 e.1; omega)]
  exact h b k h1 h2
theorem rfD.st {I J : Nat → Nat → Int32} (h : rfD I J) {b k : Nat} {x : Int32} (hb : 10 ≤ b) (hb2 : b ≤ 16) : rfD I (x2 J b k x) := by
  intro b2 k2 h1 h2
  rw [x2_o _ _ (fun e => by have := h2 (by omega); omega)]
  exact h b2 k2 h1 h2
theorem rfD.st0 {I J : Nat → Nat → Int32} (h : rfD I J) {k : Nat} {x : Int32} (hk : k = 22 ∨ k = 23 ∨ k = 24) : rfD I (x2 J 0 k x) := by
  intro b2 k2 h1 h2
  rw [x2_o _ _ (fun e => by have := h1 e.1; omega)]
  exact h b2 k2 h1 h2
theorem rfF.agD {f : Nat → Nat} {n : Nat} {I J : Nat → Nat → Int32} (h : rfF f n I) (a : rfD I J) : rfF f n J := ⟨fun k hk => (a 1 k (by omega) (by omega)).trans (h.1 k hk), (a 0 1 (by omega) (by omega)).trans h.2⟩
/-- nothing changes but what is noted of TOKENS and merges -/
def rfE (I I' : Nat → Nat → Int32) : Prop := ∀ b k, (b = 0 → k ≠ 22 ∧ k ≠ 23) → (11 ≤ b → 14 < b) → I' b k = I b k
theorem rfE.rf {I : Nat → Nat → Int32} : rfE I I := fun _ _ _ _ => rfl
theorem rfE.tr {I J K : Nat → Nat → Int32} (h : rfE I J) (a : rfE J K) : rfE I K := fun b k h1 h2 => (a b k h1 h2).trans (h b k h1 h2)
theorem rfE.toD {I J : Nat → Nat → Int32} (h : rfE I J) : rfD I J := fun b k h1 h2 => h b k (fun e => by have := h1 e; omega) (fun e => by have := h2 (by omega); omega)
theorem rfE.st {I J : Nat → Nat → Int32} (h : rfE I J) {b k : Nat} {x : Int32} (hb : 11 ≤ b) (hb2 : b ≤ 14) : rfE I (x2 J b k x) := by
  intro b2 k2 h1 h2
  rw [x2_o _ _ (fun e => by have := h2 (by omega); omega)]
  exact h b2 k2 h1 h2
theorem rfE.st0 {I J : Nat → Nat → Int32} (h : rfE I J) {k : Nat} {x : Int32} (hk : k = 22 ∨ k = 23) : rfE I (x2 J 0 k x) := by
  intro b2 k2 h1 h2
  rw [x2_o _ _ (fun e => by have := h1 e.1; omega)]
  exact h b2 k2 h1 h2
theorem rfF.agE {f : Nat → Nat} {n : Nat} {I J : Nat → Nat → Int32} (h : rfF f n I) (a : rfE I J) : rfF f n J := h.agD a.toD
section RFJ
variable {f : Nat → Nat} {n : Nat} {I J : Nat → Nat → Int32} {L : Nat → Nat → Int64} {F : Nat → Nat → UInt32} {d : Nat} {Q : xP}
theorem rf_tx77 (hG : rfG f n) {p i : Nat} {a hh ii : Int32} (hF : rfF f n J) (hi : ii = nI i) (hi2 : i < 16) (hhh : hh = nI (sTp f p i)) (hr : ∀ j, j ≤ i → sTp f p j + f (sTp f p j) < 1400) (hM : ∀ j, j < i → J 11 j = nI (sTp f p j))
    (hok : sDup f (sTp f p) i = false → ∀ y, XC xE0 (d + 1) xM_45 (106, [some (.ref 0), some (.int a), some (.int hh), some (.int ii), some (.int y)], [], (sh2, J, L, F)) Q)
    (hbad : sDup f (sTp f p) i = true → Q (some (.int 0)) (sh2, J, L, F)) :
    ∀ (u j : Nat), j + u = i → (∀ l, l < j → ¬ sAlk f (sTp f p l) (sTp f p i)) → ∀ y, y = nI j → XC xE0 (d + 1) xM_45 (77, [some (.ref 0), some (.int a), some (.int hh), some (.int ii), some (.int y)], [], (sh2, J, L, F)) Q := by
  intro u
  induction u with
  | zero =>
    intro j hj hall y hy
    refine XC.block [106] 60 ?_
    refine And.intro (fun z => hok ?_ _) (fun z => absurd (show ii ≤ y by rw [hi, hy]; exact nI_le (by omega) (by omega)) z)
    cases hd : sDup f (sTp f p) i with
    | false => rfl
    | true =>
      obtain ⟨l, hl, z⟩ := sDup_iff.mp hd
      exact absurd z (hall l (by omega))
  | succ u ih =>
    intro j hj hall y hy
    refine XC.block [77, 106] 60 ?_
    refine And.intro (fun z => absurd (show ii ≤ y from z) (by rw [hi, hy]; exact nI_ge (by omega) (by omega))) (fun z => ?_)
    refine And.intro (rf_in hy (by omega) (by decide)) ?_
    refine rf_alike hF hG.1 (hr j (by omega)) (hr i (by omega)) (show J 11 y.toNatClampNeg = nI (sTp f p j) by rw [hy, nI_clamp (by omega)]; exact hM j (by omega)) hhh (fun h => ?_) (fun h => ?_)
    · exact And.intro (fun z => absurd (show (1 : Int32) = 0 from z) (by decide)) (fun z => ⟨by decide, hbad (sDup_iff.mpr ⟨j, by omega, h⟩)⟩)
    · refine And.intro (fun z => ?_) (fun z => absurd (show (0 : Int32) = 0 from rfl) z)
      refine ih (j + 1) (by omega) (fun l hl => ?_) _ (show y + 1 = nI (j + 1) by rw [hy, nI_1])
      rcases Nat.lt_or_ge l j with q | q
      · exact hall l q
      · have : l = j := by omega
        subst this
        exact h
theorem rf_tx43 (hG : rfG f n) {p m e : Nat} {a : Int32} (hm : m ≤ 16) (hok : (∀ i, i < m → sTg1 f p i) → ∀ J', rfE I J' → J' 0 22 = nI m → (∀ j, j < m → J' 11 j = nI (sTp f p j) ∧ sTp f p j + f (sTp f p j) < 1400) → Q (some (.int 1)) (sh2, J', L, F))
    (hbad : (∃ i, i < m ∧ ¬ sTg1 f p i) → ∀ J', rfE I J' → Q (some (.int 0)) (sh2, J', L, F)) (hFI : rfF f n I) :
    ∀ (u i : Nat), i + u = m → ∀ J, rfE I J → J 0 22 = nI m → (∀ j, j < i → J 11 j = nI (sTp f p j) ∧ sTp f p j + f (sTp f p j) < 1400) → (∀ j, j < i → sTg1 f p j) → sRep (sPln f n 2) u (sTp f p i) = .inr e →
    ∀ hh ii y4, hh = nI (sTp f p i) → ii = nI i → XC xE0 (d + 1) xM_45 (43, [some (.ref 0), some (.int a), some (.int hh), some (.int ii), y4], [], (sh2, J, L, F)) Q := by
  have hn := hG.2
  intro u
  induction u with
  | zero =>
    intro i hi J D h22 h11 hg hr hh ii y4 hhh hii
    refine XC.block [43] 60 ?_
    exact And.intro (fun z => ⟨by decide, hok (fun j hj => hg j (by omega)) J D h22 (fun j hj => h11 j (by omega))⟩) (fun z => absurd (show J 0 22 ≤ ii by rw [h22, hii]; exact nI_le (by omega) (by omega)) z)
  | succ u ih =>
    intro i hi J D h22 h11 hg hr hh ii y4 hhh hii
    unfold sRep at hr
    split at hr
    · cases hr
    · rename_i r hs
      have hle := sStr_le (show sStr f n false (sTp f p i) = .inr r from hs)
      have ek : ii.toNatClampNeg = i := by rw [hii, nI_clamp (by omega)]
      have D1 : rfE I (x2 J 11 ii.toNatClampNeg hh) := D.st (by decide) (by decide)
      have F1 : rfF f n (x2 J 11 ii.toNatClampNeg hh) := hFI.agE D1
      have hb := hG.1 (sTp f p i)
      have g1 : x2 J 11 ii.toNatClampNeg hh 1 hh.toNatClampNeg = nI (f (sTp f p i)) := rf_at F1 hhh (by omega)
      have h11' : ∀ j, j < i + 1 → x2 J 11 ii.toNatClampNeg hh 11 j = nI (sTp f p j) ∧ sTp f p j + f (sTp f p j) < 1400 := by
        intro j hj
        rcases Nat.lt_or_ge j i with q | q
        · rw [x2_o _ _ (by omega)]; exact h11 j q
        · have : j = i := by omega
          subst this
          rw [ek, x2_same]; exact ⟨hhh, by omega⟩
      refine XC.block [43, 77] 60 ?_
      refine And.intro (fun z => absurd (show J 0 22 ≤ ii from z) (by rw [h22, hii]; exact nI_ge (by omega) (by omega))) (fun z => ?_)
      refine And.intro (rf_in hii (by omega) (by decide)) ?_
      refine And.intro (rf_in hhh (by omega) (by decide)) ?_
      refine fr_in (fun c1 c2 => ?_) (fun c1 => ?_)
      · have c1 : ¬ x2 J 11 ii.toNatClampNeg hh 1 hh.toNatClampNeg < 1 := c1
        have c2 : x2 J 11 ii.toNatClampNeg hh 1 hh.toNatClampNeg ≤ 4 := c2
        rw [g1, show (1 : Int32) = nI 1 from rfl, nI_ltI (by omega) (by omega)] at c1
        rw [g1, show (4 : Int32) = nI 4 from rfl, nI_leI (by omega) (by omega)] at c2
        refine And.intro (fun z => ?_) (fun z => absurd (show ¬ (1 : Int32) = 0 by decide) z)
        refine rf_tx77 hG (p := p) (i := i) F1 hii (by omega) hhh (fun j hj => (h11' j (by omega)).2) (fun j hj => (h11' j (by omega)).1) (fun hD y => ?_) (fun hD => ?_) i 0 (by omega) (fun l hl => absurd hl (by omega)) _ rfl
        · refine XC.block [43] 60 ?_
          refine And.intro (rf_in hhh (by omega) (by decide)) ?_
          refine ih (i + 1) (by omega) _ D1 (by rw [x2_o _ _ (by omega)]; exact h22) h11' (fun j hj => ?_) ?_ _ _ _ ?_ (show ii + 1 = nI (i + 1) by rw [hii, nI_1])
          · rcases Nat.lt_or_ge j i with q | q
            · exact hg j q
            · have : j = i := by omega
              subst this
              exact ⟨by omega, c2, hD⟩
          · show sRep (sPln f n 2) u (sTp f p i + 1 + f (sTp f p i)) = _
            rw [hle.1]; exact hr
          · show hh + (1 + x2 J 11 ii.toNatClampNeg hh 1 hh.toNatClampNeg) = nI (sTp f p i + 1 + f (sTp f p i))
            rw [g1, show (1 : Int32) = nI 1 from rfl, nI_add, hhh, nI_add]
            congr 1
            omega
        · exact hbad ⟨i, by omega, fun z => by rw [z.2.2] at hD; cases hD⟩ _ D1
      · have c1 : x2 J 11 ii.toNatClampNeg hh 1 hh.toNatClampNeg < 1 ∨ ¬ x2 J 11 ii.toNatClampNeg hh 1 hh.toNatClampNeg ≤ 4 := c1
        rw [g1, show (1 : Int32) = nI 1 from rfl, show (4 : Int32) = nI 4 from rfl, nI_ltI (by omega) (by omega), nI_leI (by omega) (by omega)] at c1
        exact And.intro (fun z => absurd (show (0 : Int32) = 0 from rfl) z) (fun z => ⟨by decide, hbad ⟨i, by omega, fun q => by have := q.1; have := q.2.1; omega⟩ _ D1⟩)
theorem rf_texts (hG : rfG f n) (hF : rfF f n I) {p e : Nat} (hA : sA1 f n p = .inr e) {a : Int32} (ha : a = nI p)
    (hok : sTx f p → ∀ J', rfE I J' → J' 0 22 = nI (f (p + 1)) → (∀ j, j < f (p + 1) → J' 11 j = nI (sTp f p j) ∧ sTp f p j + f (sTp f p j) < 1400) → Q (some (.int 1)) (sh2, J', L, F))
    (hbad : ¬ sTx f p → ∀ J', rfE I J' → Q (some (.int 0)) (sh2, J', L, F)) : XM xE0 (d + 1) 45 [.ref 0, .int a] (sh2, I, L, F) Q := by
  obtain ⟨u1, u2, u3, u4⟩ := sArr_un hA
  have hn := hG.2
  have e1 : a + 1 = nI (p + 1) := by rw [ha, nI_1]
  have b1 := hG.1 (p + 1)
  have b2 := hG.1 p
  have g1 : I 1 (a + 1).toNatClampNeg = nI (f (p + 1)) := rf_at hF e1 (by omega)
  have g2 : I 1 a.toNatClampNeg = nI (f p) := rf_at hF ha (by omega)
  have D1 : rfE I (x2 I 0 22 (I 1 (a + 1).toNatClampNeg)) := rfE.rf.st0 (by decide)
  refine XC.block [43] 60 ?_
  refine And.intro (rf_in e1 (by omega) (by decide)) ?_
  refine And.intro (rf_in ha (by omega) (by decide)) ?_
  refine And.intro (fun z => ⟨by decide, hbad (fun q => ?_) _ D1⟩) (fun z => ?_)
  · have z : ¬ I 1 a.toNatClampNeg = 2 := z
    rw [g2, q.1] at z
    exact z rfl
  · have z : ¬ ¬ I 1 a.toNatClampNeg = 2 := z
    have z := Classical.not_not.mp z
    rw [g2, show (2 : Int32) = nI 2 from rfl, nI_eq (by omega) (by omega)] at z
    refine fr_in (fun c1 c2 => ?_) (fun c1 => ?_)
    · have c1 : ¬ I 1 (a + 1).toNatClampNeg < 2 := c1
      have c2 : I 1 (a + 1).toNatClampNeg ≤ 16 := c2
      rw [g1, show (2 : Int32) = nI 2 from rfl, nI_ltI (by omega) (by omega)] at c1
      rw [g1, show (16 : Int32) = nI 16 from rfl, nI_leI (by omega) (by omega)] at c2
      refine And.intro (fun _ => ?_) (fun z => absurd (show ¬ (1 : Int32) = 0 by decide) z)
      refine rf_tx43 (I := I) hG (p := p) (m := f (p + 1)) (e := e) c2 (fun hall => hok ⟨z, by omega, c2, hall⟩) (fun hex J' D' => hbad (fun q => ?_) J' D') hF (f (p + 1)) 0 (by omega) _ D1 g1 (fun j hj => absurd hj (by omega)) (fun j hj => absurd hj (by omega)) ?_ _ _ _ ?_ rfl
      · obtain ⟨i, hi, w⟩ := hex
        exact w (q.2.2.2 i hi)
      · rw [z] at u4
        exact u4
      · show a + 2 = nI (p + 2)
        rw [ha, show (2 : Int32) = nI 2 from rfl, nI_add]
    · have c1 : I 1 (a + 1).toNatClampNeg < 2 ∨ ¬ I 1 (a + 1).toNatClampNeg ≤ 16 := c1
      rw [g1, show (2 : Int32) = nI 2 from rfl, show (16 : Int32) = nI 16 from rfl, nI_ltI (by omega) (by omega), nI_leI (by omega) (by omega)] at c1
      exact And.intro (fun z => absurd (show (0 : Int32) = 0 from rfl) z) (fun _ => ⟨by decide, hbad (fun q => by have := q.2.1; have := q.2.2.1; omega) _ D1⟩)
end RFJ
