/-! the class on paper: KEYS and NAMES -/
/-- nothing changes but next, fault, faultPlace and place i of array c -/
def clC (c i : Nat) (I I' : Nat → Nat → Int32) : Prop := ∀ b k, (b = 5 → k < 11 ∨ 13 < k) → ¬ (b = c ∧ k = i) → I' b k = I b k
theorem clC.of {c i : Nat} {I J : Nat → Nat → Int32} (h : clA I J) : clC c i I J := fun b k h1 _ => h b k h1
theorem clC.st {c i : Nat} {I J : Nat → Nat → Int32} (h : clC c i I J) {x : Int32} : clC c i I (x2 J c i x) := fun b k h1 h2 => (x2_o _ _ h2).trans (h b k h1 h2)
theorem clF.st {f : Nat → Nat} {n : Nat} {I : Nat → Nat → Int32} (h : clF f n I) {b k : Nat} {x : Int32} (hb : b ≠ 1) (hb2 : b ≠ 2) : clF f n (x2 I b k x) := ⟨fun j hj => by rw [x2_o _ _ (fun e => hb2 e.1.symm)]; exact h.1 j hj, (x2_o _ _ (fun e => hb e.1.symm)).trans h.2⟩
theorem clS.st {f : Nat → Nat} {n p : Nat} {I : Nat → Nat → Int32} (h : clS f n p I) {b k : Nat} {x : Int32} (hb : 6 ≤ b) : clS f n p (x2 I b k x) := ⟨h.1.st (by omega) (by omega), (x2_o _ _ (by omega)).trans h.2.1, (x2_o _ _ (by omega)).trans h.2.2.1, (x2_o _ _ (by omega)).trans h.2.2.2⟩
theorem clX.st {f : Nat → Nat} {n c w : Nat} {I : Nat → Nat → Int32} (h : clX f n c w I) {b k : Nat} {x : Int32} (hb : 6 ≤ b) : clX f n c w (x2 I b k x) := ⟨h.1.st (by omega) (by omega), (x2_o _ _ (by omega)).trans h.2.1, (x2_o _ _ (by omega)).trans h.2.2⟩
section CLB
variable {X : List (Option Nat)} {T : List xS} {f : Nat → Nat} {n : Nat} {I J : Nat → Nat → Int32} {L : Nat → Nat → Int64} {F : Nat → Nat → UInt32} {d : Nat} {Q : xP}
theorem cl_sameL (hF : clF f n I) (hG : rfG f n) {p q : Nat} (hp : p + f p < n) (hq : q + f q < n) {a b m : Int32} (ha : a = nI p) (hb : b = nI q) (hm : m = nI (f p)) (h1 : sAlk f p q → Q (some (.int 1)) (shG X T, I, L, F)) (h0 : ¬ sAlk f p q → Q (some (.int 0)) (shG X T, I, L, F)) :
    ∀ (k j : Nat), j + k = f p + 1 → (∀ i, i < j → f (p + i) = f (q + i)) → ∀ x : Int32, x = nI j → XC xE0 (d + 1) xM_135 (9, [some (.ref 1), some (.int a), some (.int b), some (.int m), some (.int x)], [], (shG X T, I, L, F)) Q := by
  have hn := hG.2
  have hfp := hG.1 p
  intro k
  induction k with
  | zero =>
    intro j hj hall x hx
    refine XC.block [9] 60 ?_
    exact And.intro (fun c => ⟨(show (1 : Int32) &&& 1 = 1 by decide), h1 (fun i hi => hall i (by omega))⟩) (fun c => absurd (show m < x by rw [hm, hx]; exact nI_lt (by omega) (by omega)) c)
  | succ k ih =>
    intro j hj hall x hx
    have e1 : a + x = nI (p + j) := by rw [ha, hx, nI_add]
    have e2 : b + x = nI (q + j) := by rw [hb, hx, nI_add]
    have hqj : q + j < n := by
      rcases Nat.eq_zero_or_pos j with z | z
      · omega
      · have := hall 0 z
        rw [Nat.add_zero, Nat.add_zero] at this
        omega
    refine XC.block [9] 60 ?_
    refine And.intro (fun c => absurd (show m < x from c) (by rw [hm, hx]; exact nI_nlt (by omega) (by omega))) (fun c => ?_)
    refine cl_at hF hG (p := p + j) (by omega) e1 (fun _ v hv => ?_) (fun z => absurd z (by omega))
    refine cl_at hF hG (p := q + j) (by omega) e2 (fun _ w hw => ?_) (fun z => absurd z (by omega))
    have g1 := hG.1 (p + j)
    have g2 := hG.1 (q + j)
    refine And.intro (fun c2 => ?_) (fun c2 => ⟨(show (0 : Int32) &&& 1 = 0 by decide), h0 (fun z => ?_)⟩)
    · have c2 : v = w := c2
      rw [hv, hw, nI_eq (by omega) (by omega)] at c2
      refine ih (j + 1) (by omega) (fun i hi => ?_) _ (show x + 1 = nI (j + 1) by rw [hx, nI_1])
      rcases Nat.lt_or_ge i j with q | q
      · exact hall i q
      · have : i = j := by omega
        subst this
        exact c2
    · have c2 : ¬ v = w := c2
      rw [hv, hw] at c2
      exact c2 (by rw [z j (by omega)])
theorem cl_same (hF : clF f n I) (hG : rfG f n) {p q : Nat} (hp : p + f p < n) (hq : q + f q < n) {a b : Int32} (ha : a = nI p) (hb : b = nI q) (h1 : sAlk f p q → Q (some (.int 1)) (shG X T, I, L, F)) (h0 : ¬ sAlk f p q → Q (some (.int 0)) (shG X T, I, L, F)) : XM xE0 (d + 1) 135 [.ref 1, .int a, .int b] (shG X T, I, L, F) Q := by
  have hn := hG.2
  refine XC.block [9] 60 ?_
  refine cl_at hF hG (p := p) (by omega) ha (fun _ v hv => ?_) (fun z => absurd z (by omega))
  exact cl_sameL hF hG hp hq ha hb hv h1 h0 (f p + 1) 0 (by omega) (fun i hi => absurd hi (by omega)) _ rfl
theorem cl_rn18_6 (hG : rfG f n) {i p : Nat} {ii fr : Int32} {M : Nat → Nat} (hi : ii = nI i) (hi2 : i < 24) {r : Nat} (S : clS f n r J) (hM : ∀ j, j < i → J 6 j = nI (M j) ∧ M j + f (M j) < n) (hfr : fr = nI p) (hp2 : p + f p < n)
    (hok : (∀ l, l < i → ¬ sAlk f (M l) p) → Q (some (.int 1)) (shG X T, x2 J 6 i fr, L, F))
    (hbad : (∃ l, l < i ∧ sAlk f (M l) p) → Q (some (.int 0)) (shG X T, x2 (x2 J 5 12 7) 5 13 fr, L, F)) :
    ∀ (k j : Nat), j + k = i → (∀ l, l < j → ¬ sAlk f (M l) p) → ∀ x, x = nI j → XC xE0 (d + 2) xM_143 (18, [some (.ref 5), some (.ref 6), some (.int ii), some (.int fr), some (.int x)], [], (shG X T, J, L, F)) Q := by
  have ek : ii.toNatClampNeg = i := by rw [hi, nI_clamp (by omega)]
  have hok : (∀ l, l < i → ¬ sAlk f (M l) p) → Q (some (.int 1)) (shG X T, x2 J 6 ii.toNatClampNeg fr, L, F) := by rw [ek]; exact hok
  intro k
  induction k with
  | zero =>
    intro j hj hall x hx
    refine XC.block [18] 60 ?_
    refine And.intro (fun z => ?_) (fun z => absurd (show ii ≤ x by rw [hi, hx]; exact nI_le (by omega) (by omega)) z)
    exact And.intro (rf_in hi (by omega) (by decide)) ⟨(show (1 : Int32) &&& 1 = 1 by decide), hok (fun l hl => hall l (by omega))⟩
  | succ k ih =>
    intro j hj hall x hx
    have ej : J 6 x.toNatClampNeg = nI (M j) := by rw [hx, nI_clamp (by omega)]; exact (hM j (by omega)).1
    refine XC.block [18] 60 ?_
    refine And.intro (fun c => absurd (show ii ≤ x from c) (by rw [hi, hx]; exact nI_ge (by omega) (by omega))) (fun c => ?_)
    refine And.intro (rf_in hx (by omega) (by decide)) ?_
    refine cl_same S.1 hG (hM j (by omega)).2 hp2 ej hfr (fun h => ?_) (fun h => ?_)
    · refine And.intro (fun z => absurd (show (1 : Int32) = 0 from z) (by decide)) (fun _ => ?_)
      exact cl_fail ⟨(show (0 : Int32) &&& 1 = 0 by decide), hbad ⟨j, by omega, h⟩⟩
    · refine And.intro (fun _ => ?_) (fun z => absurd (show (0 : Int32) = 0 from rfl) z)
      refine ih (j + 1) (by omega) (fun l hl => ?_) _ (show x + 1 = nI (j + 1) by rw [hx, nI_1])
      rcases Nat.lt_or_ge l j with q | q
      · exact hall l q
      · have : l = j := by omega
        subst this
        exact h
theorem cl_readName_6 (hG : rfG f n) {i p : Nat} {ii : Int32} {M : Nat → Nat} (hi : ii = nI i) (hi2 : i < 24) (hMi : M i = p) (S : clS f n p I) (hp : p ≤ n) (hM : ∀ j, j < i → I 6 j = nI (M j) ∧ M j + f (M j) < n)
    (hok : ∀ q, sStr f n true p = .inr q → sDup f M i = false → ∀ I', clC 6 i I I' → clS f n q I' → I' 6 i = nI p → Q (some (.int 1)) (shG X T, I', L, F))
    (hbad1 : ∀ c w, sStr f n true p = .inl (c, w) → ∀ I', clA I I' → clX f n c w I' → Q (some (.int 0)) (shG X T, I', L, F))
    (hbad2 : ∀ q, sStr f n true p = .inr q → sDup f M i = true → ∀ I', clA I I' → clX f n 7 p I' → Q (some (.int 0)) (shG X T, I', L, F)) : XM xE0 (d + 2) 143 [.ref 5, .ref 6, .int ii] (shG X T, I, L, F) Q := by
  have hn := hG.2
  have h11 := S.2.1
  refine XC.block [18] 60 ?_
  refine cl_readString (z := true) (Or.inl ⟨rfl, rfl⟩) hG hp S (fun q e I1 a1 S1 => ?_) (fun c w e I1 a1 X1 => ?_)
  · have hle := sStr_le e
    refine And.intro (fun _ => ?_) (fun z => absurd (show ¬ (1 : Int32) = 0 by decide) z)
    refine cl_rn18_6 (M := M) (p := p) hG hi hi2 S1 (fun j hj => ⟨(a1 6 j (by omega)).trans (hM j hj).1, (hM j hj).2⟩) h11 (by omega) (fun hall => ?_) (fun hex => ?_) i 0 (by omega) (fun l hl => absurd hl (by omega)) _ rfl
    · have hD : sDup f M i = false := by
        cases hd : sDup f M i with
        | false => rfl
        | true =>
          obtain ⟨j, hj, z⟩ := sDup_iff.mp hd
          rw [hMi] at z
          exact absurd z (hall j hj)
      exact hok q e hD _ (clC.of a1).st (S1.st (by decide)) ((x2_same _ _ _ _).trans h11)
    · refine hbad2 q e ?_ _ ((a1.put (by decide) (by decide)).put (by decide) (by decide)) (clX.put S1.1 clA.rf rfl h11)
      obtain ⟨j, hj, z⟩ := hex
      exact sDup_iff.mpr ⟨j, hj, by rw [hMi]; exact z⟩
  · refine And.intro (fun z => absurd (show (0 : Int32) = 0 from rfl) z) (fun _ => ⟨(show (0 : Int32) &&& 1 = 0 by decide), hbad1 c w e I1 a1 X1⟩)
theorem cl_rn18_9 (hG : rfG f n) {i p : Nat} {ii fr : Int32} {M : Nat → Nat} (hi : ii = nI i) (hi2 : i < 24) {r : Nat} (S : clS f n r J) (hM : ∀ j, j < i → J 9 j = nI (M j) ∧ M j + f (M j) < n) (hfr : fr = nI p) (hp2 : p + f p < n)
    (hok : (∀ l, l < i → ¬ sAlk f (M l) p) → Q (some (.int 1)) (shG X T, x2 J 9 i fr, L, F))
    (hbad : (∃ l, l < i ∧ sAlk f (M l) p) → Q (some (.int 0)) (shG X T, x2 (x2 J 5 12 7) 5 13 fr, L, F)) :
    ∀ (k j : Nat), j + k = i → (∀ l, l < j → ¬ sAlk f (M l) p) → ∀ x, x = nI j → XC xE0 (d + 2) xM_143 (18, [some (.ref 5), some (.ref 9), some (.int ii), some (.int fr), some (.int x)], [], (shG X T, J, L, F)) Q := by
  have ek : ii.toNatClampNeg = i := by rw [hi, nI_clamp (by omega)]
  have hok : (∀ l, l < i → ¬ sAlk f (M l) p) → Q (some (.int 1)) (shG X T, x2 J 9 ii.toNatClampNeg fr, L, F) := by rw [ek]; exact hok
  intro k
  induction k with
  | zero =>
    intro j hj hall x hx
    refine XC.block [18] 60 ?_
    refine And.intro (fun z => ?_) (fun z => absurd (show ii ≤ x by rw [hi, hx]; exact nI_le (by omega) (by omega)) z)
    exact And.intro (rf_in hi (by omega) (by decide)) ⟨(show (1 : Int32) &&& 1 = 1 by decide), hok (fun l hl => hall l (by omega))⟩
  | succ k ih =>
    intro j hj hall x hx
    have ej : J 9 x.toNatClampNeg = nI (M j) := by rw [hx, nI_clamp (by omega)]; exact (hM j (by omega)).1
    refine XC.block [18] 60 ?_
    refine And.intro (fun c => absurd (show ii ≤ x from c) (by rw [hi, hx]; exact nI_ge (by omega) (by omega))) (fun c => ?_)
    refine And.intro (rf_in hx (by omega) (by decide)) ?_
    refine cl_same S.1 hG (hM j (by omega)).2 hp2 ej hfr (fun h => ?_) (fun h => ?_)
    · refine And.intro (fun z => absurd (show (1 : Int32) = 0 from z) (by decide)) (fun _ => ?_)
      exact cl_fail ⟨(show (0 : Int32) &&& 1 = 0 by decide), hbad ⟨j, by omega, h⟩⟩
    · refine And.intro (fun _ => ?_) (fun z => absurd (show (0 : Int32) = 0 from rfl) z)
      refine ih (j + 1) (by omega) (fun l hl => ?_) _ (show x + 1 = nI (j + 1) by rw [hx, nI_1])
      rcases Nat.lt_or_ge l j with q | q
      · exact hall l q
      · have : l = j := by omega
        subst this
        exact h
theorem cl_readName_9 (hG : rfG f n) {i p : Nat} {ii : Int32} {M : Nat → Nat} (hi : ii = nI i) (hi2 : i < 24) (hMi : M i = p) (S : clS f n p I) (hp : p ≤ n) (hM : ∀ j, j < i → I 9 j = nI (M j) ∧ M j + f (M j) < n)
    (hok : ∀ q, sStr f n true p = .inr q → sDup f M i = false → ∀ I', clC 9 i I I' → clS f n q I' → I' 9 i = nI p → Q (some (.int 1)) (shG X T, I', L, F))
    (hbad1 : ∀ c w, sStr f n true p = .inl (c, w) → ∀ I', clA I I' → clX f n c w I' → Q (some (.int 0)) (shG X T, I', L, F))
    (hbad2 : ∀ q, sStr f n true p = .inr q → sDup f M i = true → ∀ I', clA I I' → clX f n 7 p I' → Q (some (.int 0)) (shG X T, I', L, F)) : XM xE0 (d + 2) 143 [.ref 5, .ref 9, .int ii] (shG X T, I, L, F) Q := by
  have hn := hG.2
  have h11 := S.2.1
  refine XC.block [18] 60 ?_
  refine cl_readString (z := true) (Or.inl ⟨rfl, rfl⟩) hG hp S (fun q e I1 a1 S1 => ?_) (fun c w e I1 a1 X1 => ?_)
  · have hle := sStr_le e
    refine And.intro (fun _ => ?_) (fun z => absurd (show ¬ (1 : Int32) = 0 by decide) z)
    refine cl_rn18_9 (M := M) (p := p) hG hi hi2 S1 (fun j hj => ⟨(a1 9 j (by omega)).trans (hM j hj).1, (hM j hj).2⟩) h11 (by omega) (fun hall => ?_) (fun hex => ?_) i 0 (by omega) (fun l hl => absurd hl (by omega)) _ rfl
    · have hD : sDup f M i = false := by
        cases hd : sDup f M i with
        | false => rfl
        | true =>
          obtain ⟨j, hj, z⟩ := sDup_iff.mp hd
          rw [hMi] at z
          exact absurd z (hall j hj)
      exact hok q e hD _ (clC.of a1).st (S1.st (by decide)) ((x2_same _ _ _ _).trans h11)
    · refine hbad2 q e ?_ _ ((a1.put (by decide) (by decide)).put (by decide) (by decide)) (clX.put S1.1 clA.rf rfl h11)
      obtain ⟨j, hj, z⟩ := hex
      exact sDup_iff.mpr ⟨j, hj, by rw [hMi]; exact z⟩
  · refine And.intro (fun z => absurd (show (0 : Int32) = 0 from rfl) z) (fun _ => ⟨(show (0 : Int32) &&& 1 = 0 by decide), hbad1 c w e I1 a1 X1⟩)
/-- a VALUE that is no ARRAY -/
theorem cl_valP {p t : Nat} {x dd : Int32} (hx : x = nI t) (ht : t < 3) (hG : rfG f n) (hp : p ≤ n) (hS : clS f n p I)
    (hok : ∀ q, sPln f n t p = .inr q → ∀ I', clA I I' → clS f n q I' → Q (some (.int 1)) (shG X T, I', L, F))
    (hbad : ∀ c w, sPln f n t p = .inl (c, w) → ∀ I', clA I I' → clX f n c w I' → Q (some (.int 0)) (shG X T, I', L, F)) : XM xE0 (d + 3) 146 [.ref 5, .int x, .int dd] (shG X T, I, L, F) Q := by
  have hl : ∀ (k : Nat), k ≤ 4 → ¬ lg_cmp (lN (sNum f p k)) 0 < 0 := by
    intro k hk
    have h := sNum_lt hG.1 k p
    have h2 : 256 ^ k ≤ 256 ^ 4 := Nat.pow_le_pow_right (by decide) hk
    unfold lg_cmp
    have hlt : sNum f p k < 2 ^ 63 := by omega
    have hnn : ¬ lN (sNum f p k) < lN 0 := by rw [pk_lLT hlt (by decide)]; omega
    split
    · decide
    · split
      · decide
      · rename_i h3 h4
        exact absurd (Int64.lt_of_le_of_ne (Int64.not_lt.mp h3) h4) hnn
  match t, ht with
  | 0, _ =>
    refine XC.block [] 60 ?_
    refine And.intro (fun c => absurd hx c) (fun c => ?_)
    refine cl_readNumber hG (k := 4) (by decide) hp hS rfl (fun c I1 v a1 S1 hv => ?_) (fun c I1 a1 X1 => ?_)
    · refine And.intro (fun z => absurd (show lg_cmp v 0 < 0 from z) (by rw [hv]; exact hl 4 (by decide))) (fun _ => ⟨(show (1 : Int32) &&& 1 = 1 by decide), hok (p + 4) ?_ I1 a1 S1⟩)
      show sSkip n 4 p = _
      unfold sSkip
      rw [if_pos c]
    · refine And.intro (fun _ => ⟨(show (0 : Int32) &&& 1 = 0 by decide), hbad 1 p ?_ I1 a1 X1⟩) (fun z => absurd (show lg_cmp (-1) 0 < 0 by decide) z)
      show sSkip n 4 p = _
      unfold sSkip
      rw [if_neg c]
  | 1, _ =>
    refine XC.block [] 60 ?_
    refine And.intro (fun c => ?_) (fun c => absurd (show ¬ x = 0 by rw [hx]; decide) c)
    refine And.intro (fun c => absurd (show x = 1 by rw [hx]; rfl) c) (fun c => ?_)
    refine cl_readNumber hG (k := 2) (by decide) hp hS rfl (fun c I1 v a1 S1 hv => ?_) (fun c I1 a1 X1 => ?_)
    · refine And.intro (fun z => absurd (show lg_cmp v 0 < 0 from z) (by rw [hv]; exact hl 2 (by decide))) (fun _ => ⟨(show (1 : Int32) &&& 1 = 1 by decide), hok (p + 2) ?_ I1 a1 S1⟩)
      show sSkip n 2 p = _
      unfold sSkip
      rw [if_pos c]
    · refine And.intro (fun _ => ⟨(show (0 : Int32) &&& 1 = 0 by decide), hbad 1 p ?_ I1 a1 X1⟩) (fun z => absurd (show lg_cmp (-1) 0 < 0 by decide) z)
      show sSkip n 2 p = _
      unfold sSkip
      rw [if_neg c]
  | 2, _ =>
    refine XC.block [] 60 ?_
    refine And.intro (fun c => ?_) (fun c => absurd (show ¬ x = 0 by rw [hx]; decide) c)
    refine And.intro (fun c => ?_) (fun c => absurd (show ¬ x = 1 by rw [hx]; decide) c)
    refine And.intro (fun c => absurd (show x = 2 by rw [hx]; rfl) c) (fun c => ?_)
    exact cl_readString (z := false) (Or.inr ⟨rfl, rfl⟩) hG hp hS (fun q e I1 a1 S1 => ⟨(show (1 : Int32) &&& 1 = 1 by decide), hok q e I1 a1 S1⟩) (fun c w e I1 a1 X1 => ⟨(show (0 : Int32) &&& 1 = 0 by decide), hbad c w e I1 a1 X1⟩)
  | t + 3, h => exact absurd h (by omega)
end CLB
