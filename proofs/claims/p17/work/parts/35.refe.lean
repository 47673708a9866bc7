/-! the reference on paper: an INFO that is sound so far -/
theorem rf_rem8 : ∀ c, c < 17 → ((nI c - nI c / 8 * 8 = 0) ↔ c % 8 = 0) := by decide +kernel
section RFE
variable {f : Nat → Nat} {n : Nat} {I J : Nat → Nat → Int32} {L : Nat → Nat → Int64} {F : Nat → Nat → UInt32} {d : Nat} {Q : xP}
/-- FAULT c at w while INFO i is read -/
abbrev rfBd (f : Nat → Nat) (n i : Nat) (I : Nat → Nat → Int32) (L : Nat → Nat → Int64) (F : Nat → Nat → UInt32) (Q : xP) (c w : Nat) : Prop := ∀ I', rfC i I I' → rfX f n c w I' → Q none (sh2, I', L, F)
theorem rf_i258 (hG : rfG f n) {i h : Nat} {ii : Int32} {y2 y3 y4 : Option Value} (hi : ii = nI i) (hi2 : i < 24) (C : rfC i I J) (S : rfS f n h J) (hh : h ≤ n)
    (hok : h + 2 ≤ n → ∀ I', rfC i I I' → rfS f n (h + 2) I' → I' 5 i = J 5 i → I' 6 i = J 6 i → I' 7 i = J 7 i → I' 8 i = J 8 i → I' 9 i = nI (sNum f h 2) → Q none (sh2, I', L, F))
    (hbad : ¬ h + 2 ≤ n → rfBd f n i I L F Q 1 h) : XC xE0 (d + 3) xM_38 (258, [some (.ref 0), some (.int ii), y2, y3, y4], [], (sh2, J, L, F)) Q := by
  have ek : ii.toNatClampNeg = i := by rw [hi, nI_clamp (by omega)]
  refine XC.block [] 60 ?_
  refine rf_read hG (k := 2) (by decide) hh S rfl (fun c I1 s a1 S1 hs => ?_) (fun c I1 a1 X1 => ?_)
  · refine And.intro (rf_in hi (by omega) (by decide)) ⟨trivial, hok c _ ((C.ag a1).st (by decide) (by decide) ek) (S1.st (by decide)) ?_ ?_ ?_ ?_ ?_⟩
    · exact a1 5 i (by omega)
    · exact a1 6 i (by omega)
    · exact a1 7 i (by omega)
    · exact a1 8 i (by omega)
    · rw [ek, x2_same]; exact hs
  · exact And.intro (rf_in hi (by omega) (by decide)) ⟨trivial, hbad c _ ((C.ag a1).st (by decide) (by decide) ek) (X1.st (by decide))⟩
theorem rf_i226 (hG : rfG f n) {i a c k h : Nat} {ii v2 : Int32} {y3 y4 : Option Value} (hi : ii = nI i) (hi2 : i < 24) (h2 : v2 = nI a) (C : rfC i I J) (S : rfS f n h J) (h6 : J 6 i = nI c) (hc : c < 17) (h8 : J 8 i = nI k) (hk : k < 3)
    (hok : ¬ (0 < k ∧ c % 8 ≠ 0) → XC xE0 (d + 3) xM_38 (258, [some (.ref 0), some (.int ii), some (.int v2), y3, y4], [], (sh2, J, L, F)) Q)
    (hbad : 0 < k ∧ c % 8 ≠ 0 → rfBd f n i I L F Q 4 a) : XC xE0 (d + 3) xM_38 (226, [some (.ref 0), some (.int ii), some (.int v2), y3, y4], [], (sh2, J, L, F)) Q := by
  have ek : ii.toNatClampNeg = i := by rw [hi, nI_clamp (by omega)]
  have e8 : J 8 ii.toNatClampNeg = nI k := by rw [ek]; exact h8
  have e6 : J 6 ii.toNatClampNeg = nI c := by rw [ek]; exact h6
  refine XC.block [258] 60 ?_
  refine And.intro (rf_in hi (by omega) (by decide)) ?_
  refine And.intro (fun q => rf_bad0 (hok ?_)) (fun q => ?_)
  · have q : J 8 ii.toNatClampNeg ≤ 0 := q
    rw [e8, show (0 : Int32) = nI 0 from rfl, nI_leI (by omega) (by omega)] at q
    omega
  · have q : ¬ J 8 ii.toNatClampNeg ≤ 0 := q
    rw [e8, show (0 : Int32) = nI 0 from rfl, nI_leI (by omega) (by omega)] at q
    refine And.intro (rf_in hi (by omega) (by decide)) ?_
    refine And.intro (show ¬ (8 : Int32) = 0 by decide) ?_
    refine And.intro (fun z => rf_bad0 (hok ?_)) (fun z => ?_)
    · have z : J 6 ii.toNatClampNeg - J 6 ii.toNatClampNeg / 8 * 8 = 0 := z
      rw [e6, rf_rem8 c hc] at z
      omega
    · have z : ¬ J 6 ii.toNatClampNeg - J 6 ii.toNatClampNeg / 8 * 8 = 0 := z
      rw [e6, rf_rem8 c hc] at z
      exact rf_bad1 S.2.2 (rf_i258F hi hi2 ((C.put (by decide) (by decide)).put (by decide) (by decide)) (rfX.put S.1 rfA.rf rfl (by decide) (by decide) h2) (hbad ⟨by omega, z⟩))
theorem rf_i187 (hG : rfG f n) {i g : Nat} {ii v2 v3 : Int32} {y4 : Option Value} (hi : ii = nI i) (hi2 : i < 24) (C : rfC i I J) (S : rfS f n g J) (hg : g ≤ n)
    (hok : ∀ k q, sSml f n 0 2 5 g = .inr (k, q) → ∀ J' y4, rfC i I J' → rfS f n q J' → J' 5 i = J 5 i → J' 6 i = J 6 i → J' 7 i = J 7 i → J' 8 i = nI k → XC xE0 (d + 3) xM_38 (226, [some (.ref 0), some (.int ii), some (.int v2), some (.int v3), y4], [], (sh2, J', L, F)) Q)
    (hbad : ∀ c w, sSml f n 0 2 5 g = .inl (c, w) → rfBd f n i I L F Q c w) : XC xE0 (d + 3) xM_38 (187, [some (.ref 0), some (.int ii), some (.int v2), some (.int v3), y4], [], (sh2, J, L, F)) Q := by
  have hb := hG.1 g
  have ek : ii.toNatClampNeg = i := by rw [hi, nI_clamp (by omega)]
  refine XC.block [226] 60 ?_
  refine rf_read hG (k := 1) (by decide) hg S rfl (fun c I1 s a1 S1 hs => ?_) (fun c I1 a1 X1 => ?_)
  · have hs : s = nI (f g) := hs
    refine And.intro (rf_in hi (by omega) (by decide)) ?_
    refine And.intro (rf_in hi (by omega) (by decide)) ?_
    refine And.intro (fun z => ?_) (fun z => ?_)
    · have z : x2 I1 8 ii.toNatClampNeg s 8 ii.toNatClampNeg ≤ 2 := z
      rw [x2_same, hs, show (2 : Int32) = nI 2 from rfl, nI_leI (by omega) (by omega)] at z
      refine rf_bad0 (hok (f g) (g + 1) ?_ _ _ ((C.ag a1).st (by decide) (by decide) ek) (S1.st (by decide)) ?_ ?_ ?_ ?_)
      · unfold sSml; rw [if_pos c, if_pos ⟨by omega, z⟩]
      · exact a1 5 i (by omega)
      · exact a1 6 i (by omega)
      · exact a1 7 i (by omega)
      · rw [ek, x2_same]; exact hs
    · have z : ¬ x2 I1 8 ii.toNatClampNeg s 8 ii.toNatClampNeg ≤ 2 := z
      rw [x2_same, hs, show (2 : Int32) = nI 2 from rfl, nI_leI (by omega) (by omega)] at z
      refine rf_bad1 S1.2.2 (rf_i226F hi hi2 ((((C.ag a1).st (by decide) (by decide) ek).put (by decide) (by decide)).put (by decide) (by decide)) (rfX.put (S1.1.st (by decide)) rfA.rf rfl (by decide) (by decide) S.2.1) (hbad 5 g ?_))
      unfold sSml; rw [if_pos c, if_neg (by omega)]
  · refine And.intro (rf_in hi (by omega) (by decide)) ?_
    refine And.intro (rf_in hi (by omega) (by decide)) ?_
    have C2 : ∀ x, rfC i I (x2 I1 8 ii.toNatClampNeg x) := fun x => (C.ag a1).st (by decide) (by decide) ek
    have X2 : ∀ x, rfX f n 1 g (x2 I1 8 ii.toNatClampNeg x) := fun x => X1.st (by decide)
    have hB := hbad 1 g (by unfold sSml; rw [if_neg c])
    exact And.intro (fun _ => rf_badF (X2 _).ft (rf_i226F hi hi2 (C2 _) (X2 _) hB)) (fun _ => rf_badF (X2 _).ft (rf_i226F hi hi2 (C2 _) (X2 _) hB))
set_option maxHeartbeats 8000000 in
theorem rf_i136 (hG : rfG f n) {i b s : Nat} {ii v2 v3 : Int32} {y4 : Option Value} (hi : ii = nI i) (hi2 : i < 24) (h2 : v2 + 1 = nI b) (h3 : v3 = nI s) (hs3 : s < 3) (C : rfC i I J) (S : rfS f n b J) (hb : b ≤ n)
    (hok : ∀ r q, (if s = 2 then sSml f n 1 16 4 b else .inr (1, b)) = .inr (r, q) → ∀ J', rfC i I J' → rfS f n q J' → J' 5 i = J 5 i → J' 6 i = J 6 i → J' 7 i = nI r → XC xE0 (d + 3) xM_38 (187, [some (.ref 0), some (.int ii), some (.int v2), some (.int v3), y4], [], (sh2, J', L, F)) Q)
    (hbad : ∀ c w, (if s = 2 then sSml f n 1 16 4 b else .inr (1, b)) = .inl (c, w) → rfBd f n i I L F Q c w) : XC xE0 (d + 3) xM_38 (136, [some (.ref 0), some (.int ii), some (.int v2), some (.int v3), y4], [], (sh2, J, L, F)) Q := by
  have hbb := hG.1 b
  have ek : ii.toNatClampNeg = i := by rw [hi, nI_clamp (by omega)]
  have C2 : ∀ J x, rfC i I J → rfC i I (x2 J 7 ii.toNatClampNeg x) := fun J x C => C.st (by decide) (by decide) ek
  have S2 : ∀ J x q, rfS f n q J → rfS f n q (x2 J 7 ii.toNatClampNeg x) := fun J x q X => X.st (by decide)
  have X2 : ∀ J x c w, rfX f n c w J → rfX f n c w (x2 J 7 ii.toNatClampNeg x) := fun J x c w X => X.st (by decide)
  refine XC.block [187] 60 ?_
  refine And.intro (rf_in hi (by omega) (by decide)) ?_
  refine And.intro (fun z => ?_) (fun z => ?_)
  · have z : ¬ v3 = 2 := z
    rw [h3, show (2 : Int32) = nI 2 from rfl, nI_eq (by omega) (by omega)] at z
    refine hok 1 b (if_neg z) _ (C2 _ _ C) (S2 _ _ _ S) rfl rfl ?_
    rw [ek, x2_same]; rfl
  · have z : ¬ ¬ v3 = 2 := z
    have z := Classical.not_not.mp z
    rw [h3, show (2 : Int32) = nI 2 from rfl, nI_eq (by omega) (by omega)] at z
    rw [if_pos z] at hok hbad
    refine rf_read hG (k := 1) (by decide) hb (S2 _ _ _ S) rfl (fun c I1 s a1 S1 hs => ?_) (fun c I1 a1 X1 => ?_)
    · have hs : s = nI (f b) := hs
      refine And.intro (rf_in hi (by omega) (by decide)) ?_
      refine And.intro (rf_in hi (by omega) (by decide)) ?_
      refine fr_in (fun c1 c2 => ?_) (fun c1 => ?_)
      · have c1 : ¬ x2 I1 7 ii.toNatClampNeg s 7 ii.toNatClampNeg < 1 := c1
        have c2 : x2 I1 7 ii.toNatClampNeg s 7 ii.toNatClampNeg ≤ 16 := c2
        rw [x2_same, hs, show (1 : Int32) = nI 1 from rfl, nI_ltI (by omega) (by omega)] at c1
        rw [x2_same, hs, show (16 : Int32) = nI 16 from rfl, nI_leI (by omega) (by omega)] at c2
        refine And.intro (fun _ => rf_bad0 (hok (f b) (b + 1) ?_ _ (C2 _ _ ((C2 _ _ C).ag a1)) (S2 _ _ _ S1) ?_ ?_ ?_)) (fun z => absurd (show ¬ (1 : Int32) = 0 by decide) z)
        · unfold sSml; rw [if_pos c, if_pos ⟨by omega, c2⟩]
        · exact a1 5 i (by omega)
        · exact a1 6 i (by omega)
        · rw [ek, x2_same]; exact hs
      · have c1 : x2 I1 7 ii.toNatClampNeg s 7 ii.toNatClampNeg < 1 ∨ ¬ x2 I1 7 ii.toNatClampNeg s 7 ii.toNatClampNeg ≤ 16 := c1
        rw [x2_same, hs, show (1 : Int32) = nI 1 from rfl, show (16 : Int32) = nI 16 from rfl, nI_ltI (by omega) (by omega), nI_leI (by omega) (by omega)] at c1
        refine And.intro (fun z => absurd (show (0 : Int32) = 0 from rfl) z) (fun _ => rf_bad1 S1.2.2 (rf_i187F hi hi2 (((C2 _ _ ((C2 _ _ C).ag a1)).put (by decide) (by decide)).put (by decide) (by decide)) (rfX.put (S2 _ _ _ S1).1 rfA.rf rfl (by decide) (by decide) h2) (hbad 4 b ?_)))
        unfold sSml; rw [if_pos c, if_neg (by omega)]
    · have hB := hbad 1 b (by unfold sSml; rw [if_neg c])
      refine And.intro (rf_in hi (by omega) (by decide)) ?_
      refine And.intro (rf_in hi (by omega) (by decide)) ?_
      refine fr_in (fun c1 c2 => ?_) (fun c1 => ?_)
      · exact And.intro (fun _ => rf_badF (X2 _ _ _ _ X1).ft (rf_i187F hi hi2 (C2 _ _ ((C2 _ _ C).ag a1)) (X2 _ _ _ _ X1) hB)) (fun _ => rf_badF (X2 _ _ _ _ X1).ft (rf_i187F hi hi2 (C2 _ _ ((C2 _ _ C).ag a1)) (X2 _ _ _ _ X1) hB))
      · exact And.intro (fun _ => rf_badF (X2 _ _ _ _ X1).ft (rf_i187F hi hi2 (C2 _ _ ((C2 _ _ C).ag a1)) (X2 _ _ _ _ X1) hB)) (fun _ => rf_badF (X2 _ _ _ _ X1).ft (rf_i187F hi hi2 (C2 _ _ ((C2 _ _ C).ag a1)) (X2 _ _ _ _ X1) hB))
theorem rf_i94 (hG : rfG f n) {i a : Nat} {ii v3 : Int32} {y2 y4 : Option Value} (hi : ii = nI i) (hi2 : i < 24) (C : rfC i I J) (S : rfS f n a J) (ha : a ≤ n)
    (hok : ∀ c q, sSml f n 1 16 4 a = .inr (c, q) → ∀ J' v2, v2 = nI a → rfC i I J' → rfS f n q J' → J' 5 i = J 5 i → J' 6 i = nI c → XC xE0 (d + 3) xM_38 (136, [some (.ref 0), some (.int ii), some (.int v2), some (.int v3), y4], [], (sh2, J', L, F)) Q)
    (hbad : ∀ c w, sSml f n 1 16 4 a = .inl (c, w) → rfBd f n i I L F Q c w) : XC xE0 (d + 3) xM_38 (94, [some (.ref 0), some (.int ii), y2, some (.int v3), y4], [], (sh2, J, L, F)) Q := by
  have hbb := hG.1 a
  have ek : ii.toNatClampNeg = i := by rw [hi, nI_clamp (by omega)]
  have C2 : ∀ J x, rfC i I J → rfC i I (x2 J 6 ii.toNatClampNeg x) := fun J x C => C.st (by decide) (by decide) ek
  have S2 : ∀ J x q, rfS f n q J → rfS f n q (x2 J 6 ii.toNatClampNeg x) := fun J x q X => X.st (by decide)
  have X2 : ∀ J x c w, rfX f n c w J → rfX f n c w (x2 J 6 ii.toNatClampNeg x) := fun J x c w X => X.st (by decide)
  refine XC.block [136] 60 ?_
  refine rf_read hG (k := 1) (by decide) ha S rfl (fun c I1 s a1 S1 hs => ?_) (fun c I1 a1 X1 => ?_)
  · have hs : s = nI (f a) := hs
    refine And.intro (rf_in hi (by omega) (by decide)) ?_
    refine And.intro (rf_in hi (by omega) (by decide)) ?_
    refine fr_in (fun c1 c2 => ?_) (fun c1 => ?_)
    · have c1 : ¬ x2 I1 6 ii.toNatClampNeg s 6 ii.toNatClampNeg < 1 := c1
      have c2 : x2 I1 6 ii.toNatClampNeg s 6 ii.toNatClampNeg ≤ 16 := c2
      rw [x2_same, hs, show (1 : Int32) = nI 1 from rfl, nI_ltI (by omega) (by omega)] at c1
      rw [x2_same, hs, show (16 : Int32) = nI 16 from rfl, nI_leI (by omega) (by omega)] at c2
      refine And.intro (fun _ => rf_bad0 (hok (f a) (a + 1) ?_ _ _ S.2.1 (C2 _ _ (C.ag a1)) (S2 _ _ _ S1) ?_ ?_)) (fun z => absurd (show ¬ (1 : Int32) = 0 by decide) z)
      · unfold sSml; rw [if_pos c, if_pos ⟨by omega, c2⟩]
      · exact a1 5 i (by omega)
      · rw [ek, x2_same]; exact hs
    · have c1 : x2 I1 6 ii.toNatClampNeg s 6 ii.toNatClampNeg < 1 ∨ ¬ x2 I1 6 ii.toNatClampNeg s 6 ii.toNatClampNeg ≤ 16 := c1
      rw [x2_same, hs, show (1 : Int32) = nI 1 from rfl, show (16 : Int32) = nI 16 from rfl, nI_ltI (by omega) (by omega), nI_leI (by omega) (by omega)] at c1
      refine And.intro (fun z => absurd (show (0 : Int32) = 0 from rfl) z) (fun _ => rf_bad1 S1.2.2 (rf_i136F hi hi2 (((C2 _ _ (C.ag a1)).put (by decide) (by decide)).put (by decide) (by decide)) (rfX.put (S2 _ _ _ S1).1 rfA.rf rfl (by decide) (by decide) S.2.1) (hbad 4 a ?_)))
      unfold sSml; rw [if_pos c, if_neg (by omega)]
  · have hB := hbad 1 a (by unfold sSml; rw [if_neg c])
    refine And.intro (rf_in hi (by omega) (by decide)) ?_
    refine And.intro (rf_in hi (by omega) (by decide)) ?_
    refine fr_in (fun c1 c2 => ?_) (fun c1 => ?_)
    · exact And.intro (fun _ => rf_badF (X2 _ _ _ _ X1).ft (rf_i136F hi hi2 (C2 _ _ (C.ag a1)) (X2 _ _ _ _ X1) hB)) (fun _ => rf_badF (X2 _ _ _ _ X1).ft (rf_i136F hi hi2 (C2 _ _ (C.ag a1)) (X2 _ _ _ _ X1) hB))
    · exact And.intro (fun _ => rf_badF (X2 _ _ _ _ X1).ft (rf_i136F hi hi2 (C2 _ _ (C.ag a1)) (X2 _ _ _ _ X1) hB)) (fun _ => rf_badF (X2 _ _ _ _ X1).ft (rf_i136F hi hi2 (C2 _ _ (C.ag a1)) (X2 _ _ _ _ X1) hB))
theorem rf_i63 (hG : rfG f n) {i p : Nat} {ii : Int32} {y2 y3 y4 : Option Value} (hi : ii = nI i) (hi2 : i < 24) (C : rfC i I J) (S : rfS f n p J) (hp : p ≤ n)
    (hok : ∀ s q, sSml f n 1 2 4 p = .inr (s, q) → ∀ J' v3 y2, v3 = nI s → rfC i I J' → rfS f n q J' → J' 5 i = J 5 i → XC xE0 (d + 3) xM_38 (94, [some (.ref 0), some (.int ii), y2, some (.int v3), y4], [], (sh2, J', L, F)) Q)
    (hbad : ∀ c w, sSml f n 1 2 4 p = .inl (c, w) → rfBd f n i I L F Q c w) : XC xE0 (d + 3) xM_38 (63, [some (.ref 0), some (.int ii), y2, y3, y4], [], (sh2, J, L, F)) Q := by
  have hbb := hG.1 p
  refine XC.block [94] 60 ?_
  refine rf_read hG (k := 1) (by decide) hp S rfl (fun c I1 s a1 S1 hs => ?_) (fun c I1 a1 X1 => ?_)
  · have hs : s = nI (f p) := hs
    refine fr_in (fun c1 c2 => ?_) (fun c1 => ?_)
    · rw [hs, show (1 : Int32) = nI 1 from rfl, nI_ltI (by omega) (by omega)] at c1
      rw [hs, show (2 : Int32) = nI 2 from rfl, nI_leI (by omega) (by omega)] at c2
      refine And.intro (fun _ => rf_bad0 (hok (f p) (p + 1) ?_ _ _ _ hs (C.ag a1) S1 (a1 5 i (by omega)))) (fun z => absurd (show ¬ (1 : Int32) = 0 by decide) z)
      unfold sSml; rw [if_pos c, if_pos ⟨by omega, c2⟩]
    · rw [hs, show (1 : Int32) = nI 1 from rfl, show (2 : Int32) = nI 2 from rfl, nI_ltI (by omega) (by omega), nI_leI (by omega) (by omega)] at c1
      refine And.intro (fun z => absurd (show (0 : Int32) = 0 from rfl) z) (fun _ => rf_bad1 S1.2.2 (rf_i94F hi hi2 (((C.ag a1).put (by decide) (by decide)).put (by decide) (by decide)) (rfX.put S1.1 rfA.rf rfl (by decide) (by decide) S.2.1) (hbad 4 p ?_)))
      unfold sSml; rw [if_pos c, if_neg (by omega)]
  · have hB := hbad 1 p (by unfold sSml; rw [if_neg c])
    refine fr_in (fun c1 c2 => ?_) (fun c1 => ?_)
    · exact And.intro (fun _ => rf_badF X1.ft (rf_i94F hi hi2 (C.ag a1) X1 hB)) (fun _ => rf_badF X1.ft (rf_i94F hi hi2 (C.ag a1) X1 hB))
    · exact And.intro (fun _ => rf_badF X1.ft (rf_i94F hi hi2 (C.ag a1) X1 hB)) (fun _ => rf_badF X1.ft (rf_i94F hi hi2 (C.ag a1) X1 hB))
theorem rf_info (hG : rfG f n) {i p : Nat} {ii : Int32} {M : Nat → Nat} (hi : ii = nI i) (hi2 : i < 24) (hMi : M i = p) (S : rfS f n p I) (hp : p ≤ n) (hM : ∀ j, j < i → I 5 j = nI (M j) ∧ M j + f (M j) < 1400)
    (hok : ∀ q v q', sStr f n true p = .inr q → sDup f M i = false → sInf f n q = .inr (v, q') → ∀ I', rfC i I I' → rfS f n q' I' → I' 5 i = nI p → I' 6 i = nI v.1 → I' 7 i = nI v.2.1 → I' 8 i = nI v.2.2.1 → I' 9 i = nI v.2.2.2 → Q none (sh2, I', L, F))
    (hbad1 : ∀ c w, sStr f n true p = .inl (c, w) → rfBd f n i I L F Q c w)
    (hbad2 : ∀ q, sStr f n true p = .inr q → sDup f M i = true → rfBd f n i I L F Q 7 p)
    (hbad3 : ∀ q c w, sStr f n true p = .inr q → sDup f M i = false → sInf f n q = .inl (c, w) → rfBd f n i I L F Q c w) : XM xE0 (d + 3) 38 [.ref 0, .int ii] (sh2, I, L, F) Q := by
  have ek : ii.toNatClampNeg = i := by rw [hi, nI_clamp (by omega)]
  have hn := hG.2
  refine XC.block [17] 60 ?_
  refine And.intro (rf_in hi (by omega) (by decide)) ?_
  have C0 : rfC i I (x2 I 5 ii.toNatClampNeg (I 0 2)) := rfC.rf.st (by decide) (by decide) ek
  refine rf_string (z := true) (Or.inl ⟨rfl, rfl⟩) hG hp (S.st (by decide)) (fun q e I1 a1 S1 => ?_) (fun c w e I1 a1 X1 => ?_)
  · have hle := sStr_le e
    have e5 : I1 5 i = nI p := by
      rw [a1 5 i (by omega), ek, x2_same]; exact S.2.1
    refine rf_i17 (M := M) (p := p) (I := I) hG hi hi2 (C0.ag a1) S1 (fun j hj => ⟨?_, (hM j hj).2⟩) e5 (by omega) (fun hall y2 => ?_) (fun hex => ?_) i 0 (by omega) (fun l hl => absurd hl (by omega)) _ rfl
    · rw [a1 5 j (by omega), x2_o _ _ (by omega)]; exact (hM j hj).1
    · have hD : sDup f M i = false := by
        cases hd : sDup f M i with
        | false => rfl
        | true =>
          obtain ⟨j, hj, z⟩ := sDup_iff.mp hd
          rw [hMi] at z
          exact absurd z (hall j hj)
      refine rf_i63 hG hi hi2 (C0.ag a1) S1 hle.2.1 (fun s a e1 J1 v3 y2 h3 C1 T1 g5 => ?_) (fun c w e1 => hbad3 q c w e hD (by simp only [sInf, e1]))
      have l1 := sSml_le e1
      have k1 : a = q + 1 := congrArg Prod.snd l1.1
      have m1 : s = f q := congrArg Prod.fst l1.1
      refine rf_i94 hG hi hi2 C1 T1 (by omega) (fun c b e2 J2 v2 h2 C2 T2 g52 g62 => ?_) (fun c w e2 => hbad3 q c w e hD (by simp only [sInf, e1, e2]))
      have l2 := sSml_le e2
      have k2 : b = a + 1 := congrArg Prod.snd l2.1
      have m2 : c = f a := congrArg Prod.fst l2.1
      refine rf_i136 hG hi hi2 (by rw [h2, k2, nI_1]) h3 (by omega) C2 T2 (by omega) (fun r g e3 J3 C3 T3 g53 g63 g73 => ?_) (fun cc w e3 => hbad3 q cc w e hD ?_)
      · have l3 : g ≤ n ∧ r ≤ 16 := by
          split at e3
          · have l3 := sSml_le e3
            have k3 : g = b + 1 := congrArg Prod.snd l3.1
            have m3 : r = f b := congrArg Prod.fst l3.1
            omega
          · injection e3 with e3
            injection e3 with e3 e4
            omega
        refine rf_i187 hG hi hi2 C3 T3 l3.1 (fun k h e4 J4 y4 C4 T4 g54 g64 g74 g84 => ?_) (fun cc w e4 => hbad3 q cc w e hD ?_)
        · have l4 := sSml_le e4
          have k4 : h = g + 1 := congrArg Prod.snd l4.1
          have m4 : k = f g := congrArg Prod.fst l4.1
          have key : sInf f n q = if 0 < k ∧ c % 8 ≠ 0 then .inl (4, a) else if h + 2 ≤ n then .inr ((c, r, k, sNum f h 2), h + 2) else .inl (1, h) := by
            simp only [sInf, e1, e2, e3, e4]
          refine rf_i226 hG hi hi2 h2 C4 T4 (by rw [g64, g63]; exact g62) (by omega) g84 (by omega) (fun z => ?_) (fun z => hbad3 q 4 a e hD (by rw [key, if_pos z]))
          refine rf_i258 hG hi hi2 C4 T4 (by omega) (fun w I' CC TT t5 t6 t7 t8 t9 => ?_) (fun w => hbad3 q 1 h e hD (by rw [key, if_neg z, if_neg w]))
          refine hok q (c, r, k, sNum f h 2) (h + 2) e hD (by rw [key, if_neg z, if_pos w]) I' CC TT ?_ ?_ ?_ ?_ t9
          · rw [t5, g54, g53, g52, g5]; exact e5
          · rw [t6, g64, g63]; exact g62
          · rw [t7, g74]; exact g73
          · rw [t8]; exact g84
        · simp only [sInf, e1, e2, e3, e4]
      · simp only [sInf, e1, e2, e3]
    · refine hbad2 q e ?_
      obtain ⟨j, hj, z⟩ := hex
      exact sDup_iff.mpr ⟨j, hj, by rw [hMi]; exact z⟩
  · refine rf_i17F hi hi2 (C0.ag a1) X1 (hbad1 c w e)
end RFE
