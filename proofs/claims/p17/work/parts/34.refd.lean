/-! the reference on paper: INFOS -/
theorem x2_same {α : Type} (g : Nat → Nat → α) (a k : Nat) (x : α) : x2 g a k x a k = x := by
  unfold x2
  rw [Nat.beq_refl, Nat.beq_refl]
  rfl
theorem x2_o {α : Type} (g : Nat → Nat → α) {a k b j : Nat} (x : α) (h : ¬ (b = a ∧ j = k)) : x2 g a k x b j = g b j := by
  unfold x2
  cases e : (Nat.beq b a && Nat.beq j k) with
  | false => rfl
  | true =>
    rw [Bool.and_eq_true] at e
    exact absurd ⟨Nat.eq_of_beq_eq_true e.1, Nat.eq_of_beq_eq_true e.2⟩ h
/-- nothing changes but at, fault, place and what is noted of INFO i -/
def rfC (i : Nat) (I I' : Nat → Nat → Int32) : Prop := ∀ b k, (b = 0 → k < 2 ∨ 4 < k) → (5 ≤ b → b ≤ 9 → k ≠ i) → I' b k = I b k
theorem rfC.rf {i : Nat} {I : Nat → Nat → Int32} : rfC i I I := fun _ _ _ _ => rfl
theorem rfC.ag {i : Nat} {I J K : Nat → Nat → Int32} (h : rfC i I J) (a : rfA J K) : rfC i I K := fun b k h1 h2 => (a b k h1).trans (h b k h1 h2)
theorem rfC.st {i : Nat} {I J : Nat → Nat → Int32} (h : rfC i I J) {b k : Nat} {x : Int32} (hb : 5 ≤ b) (hb2 : b ≤ 9) (hk : k = i) : rfC i I (x2 J b k x) := by
  intro b2 k2 h1 h2
  rw [x2_o _ _ (fun e => h2 (by omega) (by omega) (by omega))]
  exact h b2 k2 h1 h2
theorem rfC.put {i : Nat} {I J : Nat → Nat → Int32} (h : rfC i I J) {k : Nat} {x : Int32} (h1 : 2 ≤ k) (h2 : k ≤ 4) : rfC i I (x2 J 0 k x) := h.ag (rfA.rf.put h1 h2)
section RFD
variable {f : Nat → Nat} {n : Nat} {I J : Nat → Nat → Int32} {L : Nat → Nat → Int64} {F : Nat → Nat → UInt32} {d : Nat} {Q : xP}
theorem rfF.st (h : rfF f n I) {b k : Nat} {x : Int32} (hb : 2 ≤ b) : rfF f n (x2 I b k x) := ⟨fun j hj => (x2_o _ _ (fun e => by omega)).trans (h.1 j hj), (x2_o _ _ (fun e => by omega)).trans h.2⟩
theorem rfX.st {c w : Nat} (h : rfX f n c w I) {b k : Nat} {x : Int32} (hb : 2 ≤ b) : rfX f n c w (x2 I b k x) := ⟨h.1.st hb, ⟨(x2_o _ _ (fun e => by omega)).trans h.2.1.1, h.2.1.2⟩, (x2_o _ _ (fun e => by omega)).trans h.2.2⟩
theorem rfS.st {p : Nat} (h : rfS f n p I) {b k : Nat} {x : Int32} (hb : 2 ≤ b) : rfS f n p (x2 I b k x) := ⟨h.1.st hb, (x2_o _ _ (fun e => by omega)).trans h.2.1, (x2_o _ _ (fun e => by omega)).trans h.2.2⟩
theorem rf_i258F {i c w : Nat} {ii : Int32} {y2 y3 y4 : Option Value} (hi : ii = nI i) (hi2 : i < 24) (C : rfC i I J) (X : rfX f n c w J) (hQ : ∀ I', rfC i I I' → rfX f n c w I' → Q none (sh2, I', L, F)) : XC xE0 (d + 3) xM_38 (258, [some (.ref 0), some (.int ii), y2, y3, y4], [], (sh2, J, L, F)) Q := by
  refine XC.block [] 60 ?_
  refine rf_readF X.ft ?_
  exact And.intro (rf_in hi (by omega) (by decide)) ⟨trivial, hQ _ (C.st (by decide) (by decide) (by rw [hi, nI_clamp (by omega)])) (X.st (by decide))⟩
theorem rf_i226F {i c w : Nat} {ii v2 : Int32} {y3 y4 : Option Value} (hi : ii = nI i) (hi2 : i < 24) (C : rfC i I J) (X : rfX f n c w J) (hQ : ∀ I', rfC i I I' → rfX f n c w I' → Q none (sh2, I', L, F)) : XC xE0 (d + 3) xM_38 (226, [some (.ref 0), some (.int ii), some (.int v2), y3, y4], [], (sh2, J, L, F)) Q := by
  refine XC.block [258] 60 ?_
  refine And.intro (rf_in hi (by omega) (by decide)) ?_
  refine And.intro (fun c => rf_badF X.ft (rf_i258F hi hi2 C X hQ)) (fun c => ?_)
  refine And.intro (rf_in hi (by omega) (by decide)) ?_
  refine And.intro (show ¬ (8 : Int32) = 0 by decide) ?_
  exact And.intro (fun c => rf_badF X.ft (rf_i258F hi hi2 C X hQ)) (fun c => rf_badF X.ft (rf_i258F hi hi2 C X hQ))
theorem rf_i187F {i c w : Nat} {ii v2 v3 : Int32} {y4 : Option Value} (hi : ii = nI i) (hi2 : i < 24) (C : rfC i I J) (X : rfX f n c w J) (hQ : ∀ I', rfC i I I' → rfX f n c w I' → Q none (sh2, I', L, F)) : XC xE0 (d + 3) xM_38 (187, [some (.ref 0), some (.int ii), some (.int v2), some (.int v3), y4], [], (sh2, J, L, F)) Q := by
  refine XC.block [226] 60 ?_
  refine rf_readF X.ft ?_
  refine And.intro (rf_in hi (by omega) (by decide)) ?_
  have C2 : ∀ x, rfC i I (x2 J 8 ii.toNatClampNeg x) := fun x => C.st (by decide) (by decide) (by rw [hi, nI_clamp (by omega)])
  have X2 : ∀ x, rfX f n c w (x2 J 8 ii.toNatClampNeg x) := fun x => X.st (by decide)
  refine And.intro (rf_in hi (by omega) (by decide)) ?_
  exact And.intro (fun c => rf_badF (X2 _).ft (rf_i226F hi hi2 (C2 _) (X2 _) hQ)) (fun c => rf_badF (X2 _).ft (rf_i226F hi hi2 (C2 _) (X2 _) hQ))
theorem rf_i136F {i c w : Nat} {ii v2 v3 : Int32} {y4 : Option Value} (hi : ii = nI i) (hi2 : i < 24) (C : rfC i I J) (X : rfX f n c w J) (hQ : ∀ I', rfC i I I' → rfX f n c w I' → Q none (sh2, I', L, F)) : XC xE0 (d + 3) xM_38 (136, [some (.ref 0), some (.int ii), some (.int v2), some (.int v3), y4], [], (sh2, J, L, F)) Q := by
  have C2 : ∀ J x, rfC i I J → rfC i I (x2 J 7 ii.toNatClampNeg x) := fun J x C => C.st (by decide) (by decide) (by rw [hi, nI_clamp (by omega)])
  have X2 : ∀ J x, rfX f n c w J → rfX f n c w (x2 J 7 ii.toNatClampNeg x) := fun J x X => X.st (by decide)
  refine XC.block [187] 60 ?_
  refine And.intro (rf_in hi (by omega) (by decide)) ?_
  refine And.intro (fun c => rf_i187F hi hi2 (C2 _ _ C) (X2 _ _ X) hQ) (fun c => ?_)
  refine rf_readF (X2 _ _ X).ft ?_
  refine And.intro (rf_in hi (by omega) (by decide)) ?_
  refine And.intro (rf_in hi (by omega) (by decide)) ?_
  refine fr_in (fun c1 c2 => ?_) (fun c1 => ?_)
  · exact And.intro (fun c => rf_badF (X2 _ _ (X2 _ _ X)).ft (rf_i187F hi hi2 (C2 _ _ (C2 _ _ C)) (X2 _ _ (X2 _ _ X)) hQ)) (fun c => rf_badF (X2 _ _ (X2 _ _ X)).ft (rf_i187F hi hi2 (C2 _ _ (C2 _ _ C)) (X2 _ _ (X2 _ _ X)) hQ))
  · exact And.intro (fun c => rf_badF (X2 _ _ (X2 _ _ X)).ft (rf_i187F hi hi2 (C2 _ _ (C2 _ _ C)) (X2 _ _ (X2 _ _ X)) hQ)) (fun c => rf_badF (X2 _ _ (X2 _ _ X)).ft (rf_i187F hi hi2 (C2 _ _ (C2 _ _ C)) (X2 _ _ (X2 _ _ X)) hQ))
theorem rf_i94F {i c w : Nat} {ii v3 : Int32} {y2 y4 : Option Value} (hi : ii = nI i) (hi2 : i < 24) (C : rfC i I J) (X : rfX f n c w J) (hQ : ∀ I', rfC i I I' → rfX f n c w I' → Q none (sh2, I', L, F)) : XC xE0 (d + 3) xM_38 (94, [some (.ref 0), some (.int ii), y2, some (.int v3), y4], [], (sh2, J, L, F)) Q := by
  have C2 : ∀ x, rfC i I (x2 J 6 ii.toNatClampNeg x) := fun x => C.st (by decide) (by decide) (by rw [hi, nI_clamp (by omega)])
  have X2 : ∀ x, rfX f n c w (x2 J 6 ii.toNatClampNeg x) := fun x => X.st (by decide)
  refine XC.block [136] 60 ?_
  refine rf_readF X.ft ?_
  refine And.intro (rf_in hi (by omega) (by decide)) ?_
  refine And.intro (rf_in hi (by omega) (by decide)) ?_
  refine fr_in (fun c1 c2 => ?_) (fun c1 => ?_)
  · exact And.intro (fun c => rf_badF (X2 _).ft (rf_i136F hi hi2 (C2 _) (X2 _) hQ)) (fun c => rf_badF (X2 _).ft (rf_i136F hi hi2 (C2 _) (X2 _) hQ))
  · exact And.intro (fun c => rf_badF (X2 _).ft (rf_i136F hi hi2 (C2 _) (X2 _) hQ)) (fun c => rf_badF (X2 _).ft (rf_i136F hi hi2 (C2 _) (X2 _) hQ))
theorem rf_i63F {i c w : Nat} {ii : Int32} {y2 y3 y4 : Option Value} (hi : ii = nI i) (hi2 : i < 24) (C : rfC i I J) (X : rfX f n c w J) (hQ : ∀ I', rfC i I I' → rfX f n c w I' → Q none (sh2, I', L, F)) : XC xE0 (d + 3) xM_38 (63, [some (.ref 0), some (.int ii), y2, y3, y4], [], (sh2, J, L, F)) Q := by
  refine XC.block [94] 60 ?_
  refine rf_readF X.ft ?_
  refine fr_in (fun c1 c2 => ?_) (fun c1 => ?_)
  · exact And.intro (fun c => rf_badF X.ft (rf_i94F hi hi2 C X hQ)) (fun c => rf_badF X.ft (rf_i94F hi hi2 C X hQ))
  · exact And.intro (fun c => rf_badF X.ft (rf_i94F hi hi2 C X hQ)) (fun c => rf_badF X.ft (rf_i94F hi hi2 C X hQ))
theorem rf_i17F {i c w : Nat} {ii j : Int32} {y3 y4 : Option Value} (hi : ii = nI i) (hi2 : i < 24) (C : rfC i I J) (X : rfX f n c w J) (hQ : ∀ I', rfC i I I' → rfX f n c w I' → Q none (sh2, I', L, F)) : XC xE0 (d + 3) xM_38 (17, [some (.ref 0), some (.int ii), some (.int j), y3, y4], [], (sh2, J, L, F)) Q := by
  refine XC.block [63] 60 ?_
  refine And.intro (fun c => rf_i63F hi hi2 C X hQ) (fun c => ?_)
  exact And.intro (fun c => rf_i63F hi hi2 C X hQ) (fun c => absurd (rf_ne0 X.ft) c)
/-- the NAMES before it -/
theorem rf_i17 (hG : rfG f n) {i p : Nat} {ii : Int32} {y3 y4 : Option Value} {M : Nat → Nat} (hi : ii = nI i) (hi2 : i < 24) (C : rfC i I J) {r : Nat} (S : rfS f n r J) (hM : ∀ j, j < i → J 5 j = nI (M j) ∧ M j + f (M j) < 1400) (hp : J 5 i = nI p) (hp2 : p + f p < 1400)
    (hok : (∀ l, l < i → ¬ sAlk f (M l) p) → ∀ y2, XC xE0 (d + 3) xM_38 (63, [some (.ref 0), some (.int ii), y2, y3, y4], [], (sh2, J, L, F)) Q)
    (hbad : (∃ l, l < i ∧ sAlk f (M l) p) → ∀ I', rfC i I I' → rfX f n 7 p I' → Q none (sh2, I', L, F)) :
    ∀ (k j : Nat), j + k = i → (∀ l, l < j → ¬ sAlk f (M l) p) → ∀ x, x = nI j → XC xE0 (d + 3) xM_38 (17, [some (.ref 0), some (.int ii), some (.int x), y3, y4], [], (sh2, J, L, F)) Q := by
  have ei : J 5 ii.toNatClampNeg = nI p := by rw [hi, nI_clamp (by omega)]; exact hp
  intro k
  induction k with
  | zero =>
    intro j hj hall x hx
    refine XC.block [63] 60 ?_
    exact And.intro (fun c => hok (fun l hl => hall l (by omega)) _) (fun c => absurd (show ii ≤ x by rw [hi, hx]; exact nI_le (by omega) (by omega)) c)
  | succ k ih =>
    intro j hj hall x hx
    have ej : J 5 x.toNatClampNeg = nI (M j) := by rw [hx, nI_clamp (by omega)]; exact (hM j (by omega)).1
    have e2 : x + 1 = nI (j + 1) := by rw [hx, nI_1]
    refine XC.block [63, 17] 60 ?_
    refine And.intro (fun c => absurd (show ii ≤ x from c) (by rw [hi, hx]; exact nI_ge (by omega) (by omega))) (fun c => ?_)
    refine And.intro (fun c => absurd S.2.2 c) (fun c => ?_)
    refine And.intro (rf_in hx (by omega) (by decide)) ?_
    refine And.intro (rf_in hi (by omega) (by decide)) ?_
    refine rf_alike S.1 hG.1 (hM j (by omega)).2 hp2 ej ei (fun h => ?_) (fun h => ?_)
    · refine And.intro (rf_in hi (by omega) (by decide)) ?_
      refine rf_bad1 S.2.2 ?_
      refine rf_i17F hi hi2 ((C.put (by decide) (by decide)).put (by decide) (by decide)) (rfX.put S.1 rfA.rf rfl (by decide) (by decide) ei) (hbad ⟨j, by omega, h⟩)
    · refine And.intro (rf_in hi (by omega) (by decide)) ?_
      refine rf_bad0 ?_
      refine ih (j + 1) (by omega) (fun l hl => ?_) _ e2
      rcases Nat.lt_or_ge l j with q | q
      · exact hall l q
      · have : l = j := by omega
        subst this
        exact h
end RFD
