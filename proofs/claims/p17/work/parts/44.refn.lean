/-! KEYS of the reference: what is done with them -/
section RFN
variable {f : Nat → Nat} {n k : Nat} {I J : Nat → Nat → Int32} {L : Nat → Nat → Int64} {F : Nat → Nat → UInt32} {d : Nat} {Q : xP}
abbrev rfL1 (x : Int32) : xL := [some (.ref 0), some (.int x), none, none, none, none, none, none]
/-- the KEYS were found: KEY j is noted, and where its VALUE is -/
def rfKv (f : Nat → Nat) (n k : Nat) (J : Nat → Nat → Int32) : Prop := ∀ j, j < 11 → ∃ i, J 16 j = nI i ∧ i < 24 ∧ J 4 i = nI (sVk f n k j) ∧ ∃ e, sVal f n (sTs.getD j 0) (sVk f n k j) = .inr e
theorem rfKv.ag (h : rfKv f n k I) (a : ∀ b k, b = 4 ∨ b = 16 → J b k = I b k) : rfKv f n k J := by
  intro j hj
  obtain ⟨i, h1, h2, h3, h4⟩ := h j hj
  exact ⟨i, (a 16 j (by omega)).trans h1, h2, (a 4 i (by omega)).trans h3, h4⟩
theorem rfKv.of (hV : rfV f n k J) (h : ∀ j, j < 11 → sO f n k j ≠ none) (h16 : ∀ j, j < 11 → J 16 j = rfO (sO f n k j)) : rfKv f n k J := by
  intro j hj
  cases ho : sO f n k j with
  | none => exact absurd ho (h j hj)
  | some i =>
    have hl := sKt_lt ho
    obtain ⟨p1, p2, p3, p4⟩ := hV.2.2.1 i hl.1
    have hv := (hV.2.2.2 i hl.1).2
    have hk := hV.2.1
    have e : sVk f n k j = sVa f n i := by unfold sVk; rw [ho]
    refine ⟨i, by rw [h16 j hj, ho]; rfl, by omega, by rw [e]; exact p3, sKey f n (i + 1), ?_⟩
    rw [e, ← hl.2]; exact hv
theorem rf_lkBF (h : ¬ J 0 3 ≤ 0) (hgo : ∀ x, XC xE0 (d + 5) xM_42 (208, rfL1 x, [], (sh2, J, L, F)) Q) : ∀ (u i : Nat), i + u = 11 → ∀ x, x = nI i → XC xE0 (d + 5) xM_42 (175, rfL1 x, [], (sh2, J, L, F)) Q := by
  intro u
  induction u with
  | zero =>
    intro i hi x hx
    refine XC.block [208] 60 ?_
    exact And.intro (fun z => hgo x) (fun z => absurd (show (11 : Int32) ≤ x by rw [hx, show (11 : Int32) = nI 11 from rfl]; exact nI_le (by omega) (by omega)) z)
  | succ u ih =>
    intro i hi x hx
    have hx1 : x + 1 = nI (i + 1) := by rw [hx, nI_1]
    refine XC.block [175, 208] 60 ?_
    refine And.intro (fun z => absurd (show (11 : Int32) ≤ x from z) (by rw [hx, show (11 : Int32) = nI 11 from rfl]; exact nI_ge (by omega) (by omega))) (fun z => ?_)
    refine And.intro (rf_in hx (by omega) (by decide)) ?_
    exact And.intro (fun _ => rf_badF h (ih (i + 1) (by omega) _ hx1)) (fun _ => rf_badF h (ih (i + 1) (by omega) _ hx1))
theorem rf_lkB (h3 : J 0 3 = 0) (hlt : ∀ j i, sO f n k j = some i → i < 24) (h16 : ∀ j, j < 11 → J 16 j = rfO (sO f n k j))
    (hgo : (∀ j, j < 11 → sO f n k j ≠ none) → ∀ x, XC xE0 (d + 5) xM_42 (208, rfL1 x, [], (sh2, J, L, F)) Q)
    (hbad : (∃ j, j < 11 ∧ sO f n k j = none) → ∀ x, XC xE0 (d + 5) xM_42 (208, rfL1 x, [], (sh2, x2 (x2 J 0 3 8) 0 4 (-1), L, F)) Q) :
    ∀ (u i : Nat), i + u = 11 → (∀ j, j < i → sO f n k j ≠ none) → ∀ x, x = nI i → XC xE0 (d + 5) xM_42 (175, rfL1 x, [], (sh2, J, L, F)) Q := by
  intro u
  induction u with
  | zero =>
    intro i hi hall x hx
    refine XC.block [208] 60 ?_
    exact And.intro (fun z => hgo (fun j hj => hall j (by omega)) x) (fun z => absurd (show (11 : Int32) ≤ x by rw [hx, show (11 : Int32) = nI 11 from rfl]; exact nI_le (by omega) (by omega)) z)
  | succ u ih =>
    intro i hi hall x hx
    have hx1 : x + 1 = nI (i + 1) := by rw [hx, nI_1]
    have e16 : J 16 x.toNatClampNeg = rfO (sO f n k i) := by rw [hx, nI_clamp (by omega)]; exact h16 i (by omega)
    have hneg : rfO (sO f n k i) < 0 ↔ sO f n k i = none := rfO_neg (fun j hj => by have := hlt i j hj; omega)
    refine XC.block [175, 208] 60 ?_
    refine And.intro (fun z => absurd (show (11 : Int32) ≤ x from z) (by rw [hx, show (11 : Int32) = nI 11 from rfl]; exact nI_ge (by omega) (by omega))) (fun z => ?_)
    refine And.intro (rf_in hx (by omega) (by decide)) ?_
    refine And.intro (fun z => rf_bad0 (ih (i + 1) (by omega) (fun j hj => ?_) _ hx1)) (fun z => rf_bad1 h3 ?_)
    · have z : 0 ≤ J 16 x.toNatClampNeg := z
      rw [e16] at z
      rcases Nat.lt_or_ge j i with y | y
      · exact hall j y
      · have : j = i := by omega
        subst this
        exact fun w => absurd (hneg.mpr w) (Int32.not_lt.mpr z)
    · have z : ¬ 0 ≤ J 16 x.toNatClampNeg := z
      rw [e16] at z
      exact rf_lkBF (show ¬ (8 : Int32) ≤ 0 by decide) (hbad ⟨i, by omega, hneg.mp (Int32.not_le.mp z)⟩) u (i + 1) (by omega) _ hx1
theorem rf_lkCF {x : Int32} (h : ¬ J 0 3 ≤ 0) (hQ : Q none (sh2, J, L, F)) : XC xE0 (d + 5) xM_42 (208, rfL1 x, [], (sh2, J, L, F)) Q := by
  refine XC.block [] 60 ?_
  refine And.intro (fun _ => ?_) (fun z => absurd (rf_ne0 h) z)
  refine rf_badF h ?_
  exact And.intro (fun z => absurd z h) (fun _ => ⟨trivial, hQ⟩)
theorem rf_typesFit2 (hF : rfF f n I) (hG : rfG f n) {p q e : Nat} (hp : p + 1 < 1400) (hq : sA1 f n q = .inr e) {a b : Int32} (ha : a = nI p) (hb : b = nI q) (h1 : sTF f p q = true → Q (some (.int 1)) (sh2, I, L, F)) (h0 : sTF f p q = false → Q (some (.int 0)) (sh2, I, L, F)) : XM xE0 d 43 [.ref 0, .int a, .int b] (sh2, I, L, F) Q := by
  refine rf_typesFit hF hG hp hq ha hb ?_
  cases ht : sTF f p q with
  | true => exact h1 ht
  | false => exact h0 ht
theorem rf_lkC (hG : rfG f n) (hF : rfF f n J) (h3 : J 0 3 = 0) (hK : rfKv f n k J) {x : Int32}
    (hgo : sTF f (sVk f n k 8) (sVk f n k 9) = true → XC xE0 (d + 5) xM_42 (266, rfL1 x, [], (sh2, J, L, F)) Q)
    (hbad : sTF f (sVk f n k 8) (sVk f n k 9) = false → Q none (sh2, x2 (x2 J 0 3 8) 0 4 (-1), L, F)) : XC xE0 (d + 5) xM_42 (208, rfL1 x, [], (sh2, J, L, F)) Q := by
  obtain ⟨i8, a1, a2, a3, e8, a4⟩ := hK 8 (by decide)
  obtain ⟨i9, b1, b2, b3, e9, b4⟩ := hK 9 (by decide)
  have a4 : sA1 f n (sVk f n k 8) = .inr e8 := a4
  have b4 : sA1 f n (sVk f n k 9) = .inr e9 := b4
  have l8 := sA1_le a4
  have hn := hG.2
  refine XC.block [266] 60 ?_
  refine And.intro (fun z => absurd h3 z) (fun _ => ?_)
  refine And.intro (rf_in (j := 8) rfl (by decide) (by decide)) ?_
  refine And.intro (rf_in a1 (by omega) (by decide)) ?_
  refine And.intro (rf_in (j := 9) rfl (by decide) (by decide)) ?_
  refine And.intro (rf_in b1 (by omega) (by decide)) ?_
  refine rf_typesFit2 hF hG (p := sVk f n k 8) (q := sVk f n k 9) (by omega) b4 ?_ ?_ (fun ht => ?_) (fun ht => ?_)
  · show J 4 (J 16 8).toNatClampNeg = _
    rw [a1, nI_clamp (by omega)]; exact a3
  · show J 4 (J 16 9).toNatClampNeg = _
    rw [b1, nI_clamp (by omega)]; exact b3
  · refine And.intro (fun _ => rf_bad0 ?_) (fun z => absurd (show ¬ (1 : Int32) = 0 by decide) z)
    exact And.intro (fun _ => hgo ht) (fun z => absurd (show J 0 3 ≤ 0 by rw [h3]; decide) z)
  · refine And.intro (fun z => absurd (show (0 : Int32) = 0 from rfl) z) (fun _ => rf_bad1 h3 ?_)
    exact And.intro (fun z => absurd (show (8 : Int32) ≤ 0 from z) (by decide)) (fun _ => ⟨trivial, hbad ht⟩)
/-- say[] -/
theorem rf_lkD (hG : rfG f n) (hFI : rfF f n I) (hKI : rfKv f n k I) (hgo : ∀ J x, rfD I J → J 0 3 = I 0 3 → (∀ b k, b ≠ 10 → J b k = I b k) → (∀ j, j < 11 → J 10 j = nI (sN f n k j)) → XC xE0 (d + 5) xM_42 (318, rfL1 x, [], (sh2, J, L, F)) Q) :
    ∀ (u i : Nat), i + u = 11 → ∀ J, rfD I J → (∀ b k, b ≠ 10 → J b k = I b k) → (∀ j, j < i → J 10 j = nI (sN f n k j)) → ∀ x, x = nI i → XC xE0 (d + 5) xM_42 (268, rfL1 x, [], (sh2, J, L, F)) Q := by
  have hn := hG.2
  intro u
  induction u with
  | zero =>
    intro i hi J D hfr h10 x hx
    refine XC.block [318] 60 ?_
    exact And.intro (fun z => hgo J x D (hfr 0 3 (by decide)) hfr (fun j hj => h10 j (by omega))) (fun z => absurd (show (11 : Int32) ≤ x by rw [hx, show (11 : Int32) = nI 11 from rfl]; exact nI_le (by omega) (by omega)) z)
  | succ u ih =>
    intro i hi J D hfr h10 x hx
    have hx1 : x + 1 = nI (i + 1) := by rw [hx, nI_1]
    have ek : x.toNatClampNeg = i := by rw [hx, nI_clamp (by omega)]
    obtain ⟨iv, v1, v2, v3, ev, v4⟩ := hKI i (by omega)
    have F1 : rfF f n J := hFI.agD D
    have w1 : J 16 x.toNatClampNeg = nI iv := by rw [ek, hfr 16 i (by decide)]; exact v1
    have w3 : J 4 (J 16 x.toNatClampNeg).toNatClampNeg = nI (sVk f n k i) := by rw [w1, nI_clamp (by omega), hfr 4 iv (by decide)]; exact v3
    have go : ∀ v, v = nI (sN f n k i) → XC xE0 (d + 5) xM_42 (268, rfL1 (x + 1), [], (sh2, x2 J 10 x.toNatClampNeg v, L, F)) Q := by
      intro v hv
      refine ih (i + 1) (by omega) _ (D.st (by decide) (by decide)) (fun b k hb => by rw [x2_o _ _ (by omega)]; exact hfr b k hb) (fun j hj => ?_) _ hx1
      rcases Nat.lt_or_ge j i with y | y
      · rw [x2_o _ _ (by omega)]; exact h10 j y
      · have : j = i := by omega
        subst this
        rw [ek, x2_same]; exact hv
    have goN : (i < 6 ∨ i = 10) → XC xE0 (d + 5) xM_42 (291, rfL1 x, [.int x, .ref 10], (sh2, J, L, F)) Q := by
      intro hc
      have ht : sTs.getD i 0 = 0 := by
        rcases hc with hc | hc
        · match i, hc with
          | 0, _ => rfl
          | 1, _ => rfl
          | 2, _ => rfl
          | 3, _ => rfl
          | 4, _ => rfl
          | 5, _ => rfl
          | j + 6, h => exact absurd h (by omega)
        · subst hc; rfl
      rw [ht] at v4
      have l4 := sVal_0 v4
      refine XC.block [268] 60 ?_
      refine And.intro (rf_in hx (by omega) (by decide)) ?_
      refine And.intro (rf_in w1 (by omega) (by decide)) ?_
      refine rf_u F1 hG.1 (p := sVk f n k i) (k := 4) (by omega) w3 rfl (fun s hs => ?_)
      refine And.intro (rf_in hx (by omega) (by decide)) (go s ?_)
      rw [hs]
      unfold sN
      rw [if_pos hc]
    refine XC.block [268, 291, 318] 60 ?_
    refine And.intro (fun z => absurd (show (11 : Int32) ≤ x from z) (by rw [hx, show (11 : Int32) = nI 11 from rfl]; exact nI_ge (by omega) (by omega))) (fun z => ?_)
    refine And.intro (fun z => goN ?_) (fun z => ?_)
    · have z : x < 6 := z
      rw [hx, show (6 : Int32) = nI 6 from rfl, nI_ltI (by omega) (by omega)] at z
      exact Or.inl z
    · have z : ¬ x < 6 := z
      rw [hx, show (6 : Int32) = nI 6 from rfl, nI_ltI (by omega) (by omega)] at z
      refine And.intro (fun w => ?_) (fun w => goN ?_)
      · have w : ¬ x = 10 := w
        rw [hx, show (10 : Int32) = nI 10 from rfl, nI_eq (by omega) (by omega)] at w
        refine And.intro (rf_in hx (by omega) (by decide)) (go 0 ?_)
        unfold sN
        rw [if_neg (by omega)]
        rfl
      · have w : ¬ ¬ x = 10 := w
        have w := Classical.not_not.mp w
        rw [hx, show (10 : Int32) = nI 10 from rfl, nI_eq (by omega) (by omega)] at w
        exact Or.inr w
/-- dim, heads, kv -/
def sG1 (f : Nat → Nat) (n k : Nat) : Prop := (sN f n k 0 = 8 ∨ sN f n k 0 = 16) ∧ (sN f n k 1 = 1 ∨ sN f n k 1 = 2 ∨ sN f n k 1 = 4) ∧ 1 ≤ sN f n k 2 ∧ sN f n k 2 < 2 ^ 31
theorem sN_lt (hG : rfG f n) (j : Nat) : sN f n k j < 2 ^ 32 := by
  unfold sN
  split
  · have := sNum_lt hG.1 4 (sVk f n k j); omega
  · omega
theorem rf_lkE (hG : rfG f n) (h3 : J 0 3 = 0) (h10 : ∀ j, j < 11 → J 10 j = nI (sN f n k j)) {x : Int32}
    (hgo : sG1 f n k → XC xE0 (d + 5) xM_42 (392, rfL1 x, [], (sh2, J, L, F)) Q)
    (hbad : ¬ sG1 f n k → XC xE0 (d + 5) xM_42 (392, rfL1 x, [], (sh2, x2 (x2 J 0 3 9) 0 4 (-1), L, F)) Q) : XC xE0 (d + 5) xM_42 (318, rfL1 x, [], (sh2, J, L, F)) Q := by
  have q : ∀ (j c : Nat), j < 11 → c < 2 ^ 31 → (J 10 j = nI c ↔ sN f n k j = c) := fun j c hj hc => by
    rw [h10 j hj]; exact nI_inj (sN_lt hG j) (by omega)
  have n2 : J 10 2 < 1 ↔ ¬ (1 ≤ sN f n k 2 ∧ sN f n k 2 < 2 ^ 31) := by
    rw [h10 2 (by decide)]
    have := sN_lt (k := k) hG 2
    rcases Nat.lt_or_ge (sN f n k 2) (2 ^ 31) with y | y
    · rw [show (1 : Int32) = nI 1 from rfl, nI_ltI y (by omega)]; omega
    · exact ⟨fun _ => by omega, fun _ => Int32.lt_trans (nI_neg y this) (by decide)⟩
  have B : ¬ sG1 f n k → XC xE0 (d + 5) xM_42 (381, rfL1 x, [.ref 0], (sh2, J, L, F)) Q := fun z => by
    refine XC.block [392] 60 ?_
    exact rf_bad1 h3 (hbad z)
  have C371 : (sN f n k 0 = 8 ∨ sN f n k 0 = 16) → (sN f n k 1 = 1 ∨ sN f n k 1 = 2 ∨ sN f n k 1 = 4) → XC xE0 (d + 5) xM_42 (371, rfL1 x, [.ref 0], (sh2, J, L, F)) Q := fun y1 y2 => by
    refine XC.block [381, 392] 60 ?_
    refine And.intro (rf_in (j := 2) rfl (by decide) (by decide)) ?_
    refine And.intro (fun z => rf_bad0 (hgo ⟨y1, y2, ?_⟩)) (fun z => B (fun w => z ?_))
    · have z : (1 : Int32) ≤ J 10 2 := z
      exact Classical.byContradiction (fun w => absurd (n2.mpr w) (Int32.not_lt.mpr z))
    · show (1 : Int32) ≤ J 10 2
      exact Int32.not_lt.mp (fun y => n2.mp y w.2.2)
  have C341 : (sN f n k 0 = 8 ∨ sN f n k 0 = 16) → XC xE0 (d + 5) xM_42 (341, rfL1 x, [.ref 0], (sh2, J, L, F)) Q := fun y1 => by
    refine XC.block [371, 381] 60 ?_
    refine And.intro (rf_in (j := 1) rfl (by decide) (by decide)) ?_
    refine And.intro (fun z => C371 y1 (Or.inl ((q 1 1 (by decide) (by decide)).mp z))) (fun z1 => ?_)
    refine And.intro (rf_in (j := 1) rfl (by decide) (by decide)) ?_
    refine And.intro (fun z => C371 y1 (Or.inr (Or.inl ((q 1 2 (by decide) (by decide)).mp z)))) (fun z2 => ?_)
    refine And.intro (rf_in (j := 1) rfl (by decide) (by decide)) ?_
    refine And.intro (fun z => B (fun w => ?_)) (fun z => C371 y1 (Or.inr (Or.inr ((q 1 4 (by decide) (by decide)).mp (Classical.not_not.mp z)))))
    rcases w.2.1 with w | w | w
    · exact z1 ((q 1 1 (by decide) (by decide)).mpr w)
    · exact z2 ((q 1 2 (by decide) (by decide)).mpr w)
    · exact z ((q 1 4 (by decide) (by decide)).mpr w)
  refine XC.block [341, 381] 60 ?_
  refine And.intro (rf_in (j := 0) rfl (by decide) (by decide)) ?_
  refine And.intro (fun z => C341 (Or.inl ((q 0 8 (by decide) (by decide)).mp z))) (fun z1 => ?_)
  refine And.intro (rf_in (j := 0) rfl (by decide) (by decide)) ?_
  refine And.intro (fun z => B (fun w => ?_)) (fun z => C341 (Or.inr ((q 0 16 (by decide) (by decide)).mp (Classical.not_not.mp z))))
  rcases w.1 with w | w
  · exact z1 ((q 0 8 (by decide) (by decide)).mpr w)
  · exact z ((q 0 16 (by decide) (by decide)).mpr w)
end RFN
