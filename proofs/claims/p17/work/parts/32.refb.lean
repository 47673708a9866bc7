/-! the reference on paper: STRINGS, TYPES, counts, VALUES -/
section RFB
variable {f : Nat → Nat} {n : Nat} {I : Nat → Nat → Int32} {L : Nat → Nat → Int64} {F : Nat → Nat → UInt32} {d : Nat} {Q : xP}
theorem rf_ne0 (h : ¬ I 0 3 ≤ 0) : ¬ I 0 3 = 0 := fun e => h (by rw [e]; decide)
theorem rf_str60F {z w v : Int32} (h : ¬ I 0 3 ≤ 0) (hQ : Q none (sh2, I, L, F)) : XC xE0 (d + 2) xM_31 (60, [some (.ref 0), some (.int z), some (.int w), some (.int v)], [], (sh2, I, L, F)) Q := by
  refine XC.block [] 60 ?_
  exact And.intro (fun c => ⟨trivial, hQ⟩) (fun c => absurd (rf_ne0 h) c)
theorem rf_str35F {z w v : Int32} (h : ¬ I 0 3 ≤ 0) (hQ : Q none (sh2, I, L, F)) : XC xE0 (d + 2) xM_31 (35, [some (.ref 0), some (.int z), some (.int w), some (.int v)], [], (sh2, I, L, F)) Q := by
  refine XC.block [60] 60 ?_
  exact And.intro (fun c => rf_badF h (rf_str60F h hQ)) (fun c => And.intro (fun c => rf_badF h (rf_str60F h hQ)) (fun c => And.intro (fun c => rf_badF h (rf_str60F h hQ)) (fun c => rf_badF h (rf_str60F h hQ))))
theorem rf_str11F {z w v : Int32} (h : ¬ I 0 3 ≤ 0) (hQ : Q none (sh2, I, L, F)) : XC xE0 (d + 2) xM_31 (11, [some (.ref 0), some (.int z), some (.int w), some (.int v)], [], (sh2, I, L, F)) Q := by
  refine XC.block [35] 60 ?_
  exact And.intro (fun c => rf_badF h (rf_str35F h hQ)) (fun c => rf_badF h (rf_str35F h hQ))
theorem rf_string {p : Nat} {z : Bool} {zz : Int32} (hz : (z = true ∧ zz = 1) ∨ (z = false ∧ zz = 0)) (hG : rfG f n) (hp : p ≤ n) (hS : rfS f n p I)
    (hok : ∀ q, sStr f n z p = .inr q → ∀ I', rfA I I' → rfS f n q I' → Q none (sh2, I', L, F))
    (hbad : ∀ c w, sStr f n z p = .inl (c, w) → ∀ I', rfA I I' → rfX f n c w I' → Q none (sh2, I', L, F)) : XM xE0 (d + 2) 31 [.ref 0, .int zz] (sh2, I, L, F) Q := by
  have hb := hG.1 p
  have hn := hG.2
  refine XC.block [11] 60 ?_
  refine rf_read hG (k := 1) (by decide) hp hS rfl (fun c I1 s a1 S1 hs => ?_) (fun c I1 a1 X1 => ?_)
  · have hs : s = nI (f p) := hs
    obtain ⟨F1, at1, ft1⟩ := S1
    have e : I1 0 2 + s = nI (p + 1 + f p) := by rw [at1, hs, nI_add]
    have e0 : I 0 2 = nI p := hS.2.1
    have h4 : ∀ (c1 : p + 1 + f p ≤ n), ¬ (f p ≤ 16 ∧ (z = true → f p ≠ 0)) → XC xE0 (d + 2) xM_31 (60, [some (.ref 0), some (.int zz), some (.int (I 0 2)), some (.int s)], [], (sh2, x2 (x2 I1 0 3 4) 0 4 (I 0 2), L, F)) Q := by
      intro c1 c2
      refine rf_str60F (show ¬ (4 : Int32) ≤ 0 by decide) (hbad 4 p ?_ _ ((a1.put (by decide) (by decide)).put (by decide) (by decide)) (rfX.put F1 rfA.rf rfl (by decide) (by decide) e0))
      unfold sStr
      rw [if_pos c1, if_neg c2]
    have hgo : ∀ (c1 : p + 1 + f p ≤ n), (f p ≤ 16 ∧ (z = true → f p ≠ 0)) → XC xE0 (d + 2) xM_31 (60, [some (.ref 0), some (.int zz), some (.int (I 0 2)), some (.int s)], [], (sh2, I1, L, F)) Q := by
      intro c1 c2
      refine XC.block [] 60 ?_
      refine And.intro (fun c => absurd ft1 c) (fun c => ⟨trivial, ?_⟩)
      refine hok (p + 1 + f p) ?_ _ (a1.put (by decide) (by decide)) ⟨F1.ag (rfA.rf.put (by decide) (by decide)), e, ft1⟩
      unfold sStr
      rw [if_pos c1, if_pos c2]
    refine XC.block [35] 60 ?_
    refine And.intro (fun c => ?_) (fun c => ?_)
    · have c : I1 0 2 + s ≤ I1 0 1 := c
      rw [e, F1.2, nI_leI (by omega) (by omega)] at c
      refine rf_bad0 ?_
      refine XC.block [60] 60 ?_
      refine And.intro (fun c2 => ?_) (fun c2 => ?_)
      · have c2 : (16 : Int32) < s := c2
        rw [hs, show (16 : Int32) = nI 16 from rfl, nI_ltI (by omega) (by omega)] at c2
        exact rf_bad1 ft1 (h4 c (by omega))
      · have c2 : ¬ (16 : Int32) < s := c2
        rw [hs, show (16 : Int32) = nI 16 from rfl, nI_ltI (by omega) (by omega)] at c2
        refine And.intro (fun c3 => ?_) (fun c3 => ?_)
        · have c3 : zz = 0 := c3
          refine rf_bad0 (hgo c ⟨by omega, fun zt => ?_⟩)
          rcases hz with ⟨_, h⟩ | ⟨h, _⟩
          · rw [h] at c3; exact absurd c3 (by decide)
          · rw [h] at zt; cases zt
        · have c3 : ¬ zz = 0 := c3
          refine And.intro (fun c4 => ?_) (fun c4 => ?_)
          · have c4 : ¬ s = 0 := c4
            refine rf_bad0 (hgo c ⟨by omega, fun zt h0 => c4 ?_⟩)
            rw [hs, h0]; rfl
          · have c4 : ¬ ¬ s = 0 := c4
            refine rf_bad1 ft1 (h4 c (fun q => q.2 ?_ ?_))
            · rcases hz with ⟨h, _⟩ | ⟨_, h⟩
              · exact h
              · exact absurd h c3
            · have c4 := Classical.not_not.mp c4
              rw [hs, show (0 : Int32) = nI 0 from rfl, nI_eq (by omega) (by omega)] at c4
              exact c4
    · have c : ¬ I1 0 2 + s ≤ I1 0 1 := c
      rw [e, F1.2, nI_leI (by omega) (by omega)] at c
      refine rf_bad1 ft1 (rf_str35F (show ¬ (1 : Int32) ≤ 0 by decide) (hbad 1 p ?_ _ ((a1.put (by decide) (by decide)).put (by decide) (by decide)) (rfX.put F1 rfA.rf rfl (by decide) (by decide) e0)))
      unfold sStr
      rw [if_neg c]
  · refine rf_str11F X1.ft (hbad 1 p ?_ I1 a1 X1)
    unfold sStr
    rw [if_neg (by omega)]
theorem rf_stringF {z : Int32} (h : ¬ I 0 3 ≤ 0) (hQ : Q none (sh2, I, L, F)) : XM xE0 (d + 2) 31 [.ref 0, .int z] (sh2, I, L, F) Q := by
  refine XC.block [11] 60 ?_
  exact rf_readF h (rf_str11F h hQ)
theorem rf_alikeL (hF : rfF f n I) (hf : ∀ k, f k < 256) {p q : Nat} (hp : p + f p < 1400) (hq : q + f q < 1400) {a b : Int32} (ha : a = nI p) (hb : b = nI q) (h1 : sAlk f p q → Q (some (.int 1)) (sh2, I, L, F)) (h0 : ¬ sAlk f p q → Q (some (.int 0)) (sh2, I, L, F)) : ∀ (k j : Nat), j + k = f p + 1 → (∀ i, i < j → f (p + i) = f (q + i)) → ∀ x : Int32, x = nI j → XC xE0 d xM_32 (2, [some (.ref 0), some (.int a), some (.int b), some (.int x)], [], (sh2, I, L, F)) Q := by
  have hfp := hf p
  have e0 : I 1 a.toNatClampNeg = nI (f p) := rf_at hF ha (by omega)
  intro k
  induction k with
  | zero =>
    intro j hj hall x hx
    refine XC.block [2] 60 ?_
    refine And.intro (rf_in ha (by omega) (by decide)) ?_
    refine And.intro (fun c => ⟨by decide, h1 (fun i hi => hall i (by omega))⟩) (fun c => absurd (show I 1 a.toNatClampNeg < x by rw [e0, hx]; exact nI_lt (by omega) (by omega)) c)
  | succ k ih =>
    intro j hj hall x hx
    have e1 : a + x = nI (p + j) := by rw [ha, hx, nI_add]
    have e2 : b + x = nI (q + j) := by rw [hb, hx, nI_add]
    have hqj : q + j < 1400 := by
      rcases Nat.eq_zero_or_pos j with z | z
      · omega
      · have := hall 0 z
        rw [Nat.add_zero, Nat.add_zero] at this
        omega
    refine XC.block [2] 60 ?_
    refine And.intro (rf_in ha (by omega) (by decide)) ?_
    refine And.intro (fun c => absurd (show I 1 a.toNatClampNeg < x from c) (by rw [e0, hx]; exact nI_nlt (by omega) (by omega))) (fun c => ?_)
    refine And.intro (rf_in e1 (by omega) (by decide)) ?_
    refine And.intro (rf_in e2 (by omega) (by decide)) ?_
    have g1 := hf (p + j)
    have g2 := hf (q + j)
    refine And.intro (fun c2 => ?_) (fun c2 => ⟨by decide, h0 (fun z => ?_)⟩)
    · have c2 : I 1 (a + x).toNatClampNeg = I 1 (b + x).toNatClampNeg := c2
      rw [rf_at hF e1 (by omega), rf_at hF e2 (by omega), nI_eq (by omega) (by omega)] at c2
      refine ih (j + 1) (by omega) (fun i hi => ?_) _ (show x + 1 = nI (j + 1) by rw [hx, nI_1])
      rcases Nat.lt_or_ge i j with q | q
      · exact hall i q
      · have : i = j := by omega
        subst this
        exact c2
    · have c2 : ¬ I 1 (a + x).toNatClampNeg = I 1 (b + x).toNatClampNeg := c2
      rw [rf_at hF e1 (by omega), rf_at hF e2 (by omega)] at c2
      exact c2 (by rw [z j (by omega)])
theorem rf_alike (hF : rfF f n I) (hf : ∀ k, f k < 256) {p q : Nat} (hp : p + f p < 1400) (hq : q + f q < 1400) {a b : Int32} (ha : a = nI p) (hb : b = nI q) (h1 : sAlk f p q → Q (some (.int 1)) (sh2, I, L, F)) (h0 : ¬ sAlk f p q → Q (some (.int 0)) (sh2, I, L, F)) : XM xE0 d 32 [.ref 0, .int a, .int b] (sh2, I, L, F) Q := by
  refine XC.block [2] 60 ?_
  exact rf_alikeL hF hf hp hq ha hb h1 h0 (f p + 1) 0 (by omega) (fun i hi => absurd hi (by omega)) _ rfl
theorem rf_kind {p : Nat} (hG : rfG f n) (hp : p ≤ n) (hS : rfS f n p I)
    (hok : ∀ t q, sSml f n 0 3 5 p = .inr (t, q) → ∀ I' s, rfA I I' → rfS f n q I' → s = nI t → Q (some (.int s)) (sh2, I', L, F))
    (hbad : ∀ c w, sSml f n 0 3 5 p = .inl (c, w) → ∀ I' s, rfA I I' → rfX f n c w I' → Q (some (.int s)) (sh2, I', L, F)) : XM xE0 (d + 2) 33 [.ref 0] (sh2, I, L, F) Q := by
  have hb := hG.1 p
  have hn := hG.2
  have e0 : I 0 2 = nI p := hS.2.1
  refine XC.block [] 60 ?_
  refine rf_read hG (k := 1) (by decide) hp hS rfl (fun c I1 s a1 S1 hs => ?_) (fun c I1 a1 X1 => ?_)
  · have hs : s = nI (f p) := hs
    refine And.intro (fun c2 => ?_) (fun c2 => ?_)
    · have c2 : s ≤ 3 := c2
      rw [hs, show (3 : Int32) = nI 3 from rfl, nI_leI (by omega) (by omega)] at c2
      refine rf_bad0 ⟨trivial, hok (f p) (p + 1) ?_ I1 s a1 S1 hs⟩
      unfold sSml
      rw [if_pos c, if_pos ⟨by omega, c2⟩]
    · have c2 : ¬ s ≤ 3 := c2
      rw [hs, show (3 : Int32) = nI 3 from rfl, nI_leI (by omega) (by omega)] at c2
      refine rf_bad1 S1.2.2 ⟨trivial, hbad 5 p ?_ _ s ((a1.put (by decide) (by decide)).put (by decide) (by decide)) (rfX.put S1.1 rfA.rf rfl (by decide) (by decide) e0)⟩
      unfold sSml
      rw [if_pos c, if_neg (by omega)]
  · exact And.intro (fun c2 => rf_badF X1.ft ⟨trivial, hbad 1 p (by unfold sSml; rw [if_neg c]) I1 0 a1 X1⟩) (fun c2 => rf_badF X1.ft ⟨trivial, hbad 1 p (by unfold sSml; rw [if_neg c]) I1 0 a1 X1⟩)
theorem rf_kindF (h : ¬ I 0 3 ≤ 0) (hQ : Q (some (.int 0)) (sh2, I, L, F)) : XM xE0 (d + 2) 33 [.ref 0] (sh2, I, L, F) Q := by
  refine XC.block [] 60 ?_
  refine rf_readF h ?_
  exact And.intro (fun c2 => rf_badF h ⟨trivial, hQ⟩) (fun c2 => rf_badF h ⟨trivial, hQ⟩)
theorem rf_many {p : Nat} {x : Int32} (hx : x = 24) (hG : rfG f n) (hp : p ≤ n) (hS : rfS f n p I)
    (hok : ∀ t q, sSml f n 0 24 4 p = .inr (t, q) → ∀ I' s, rfA I I' → rfS f n q I' → s = nI t → Q (some (.int s)) (sh2, I', L, F))
    (hbad : ∀ c w, sSml f n 0 24 4 p = .inl (c, w) → ∀ I', rfA I I' → rfX f n c w I' → Q (some (.int 0)) (sh2, I', L, F)) : XM xE0 (d + 2) 34 [.ref 0, .int x] (sh2, I, L, F) Q := by
  have hb := hG.1 p
  have hn := hG.2
  have e0 : I 0 2 = nI p := hS.2.1
  refine XC.block [] 60 ?_
  refine rf_read hG (k := 1) (by decide) hp hS rfl (fun c I1 s a1 S1 hs => ?_) (fun c I1 a1 X1 => ?_)
  · have hs : s = nI (f p) := hs
    refine And.intro (fun c2 => ?_) (fun c2 => ?_)
    · have c2 : s ≤ x := c2
      rw [hs, hx, show (24 : Int32) = nI 24 from rfl, nI_leI (by omega) (by omega)] at c2
      refine rf_bad0 ?_
      refine And.intro (fun c3 => ⟨trivial, hok (f p) (p + 1) ?_ I1 s a1 S1 hs⟩) (fun c3 => absurd (show I1 0 3 ≤ 0 by rw [S1.2.2]; decide) c3)
      unfold sSml
      rw [if_pos c, if_pos ⟨by omega, c2⟩]
    · have c2 : ¬ s ≤ x := c2
      rw [hs, hx, show (24 : Int32) = nI 24 from rfl, nI_leI (by omega) (by omega)] at c2
      refine rf_bad1 S1.2.2 ?_
      refine And.intro (fun c3 => absurd (show (4 : Int32) ≤ 0 from c3) (by decide)) (fun c3 => ⟨trivial, hbad 4 p ?_ _ ((a1.put (by decide) (by decide)).put (by decide) (by decide)) (rfX.put S1.1 rfA.rf rfl (by decide) (by decide) e0)⟩)
      unfold sSml
      rw [if_pos c, if_neg (by omega)]
  · have hq := hbad 1 p (by unfold sSml; rw [if_neg c]) I1 a1 X1
    refine And.intro (fun c2 => rf_badF X1.ft ?_) (fun c2 => rf_badF X1.ft ?_)
    · exact And.intro (fun c3 => absurd c3 X1.ft) (fun c3 => ⟨trivial, hq⟩)
    · exact And.intro (fun c3 => absurd c3 X1.ft) (fun c3 => ⟨trivial, hq⟩)
theorem rf_manyF {x : Int32} (h : ¬ I 0 3 ≤ 0) (hQ : Q (some (.int 0)) (sh2, I, L, F)) : XM xE0 (d + 2) 34 [.ref 0, .int x] (sh2, I, L, F) Q := by
  refine XC.block [] 60 ?_
  refine rf_readF h ?_
  refine And.intro (fun c2 => rf_badF h ?_) (fun c2 => rf_badF h ?_)
  · exact And.intro (fun c3 => absurd c3 h) (fun c3 => ⟨trivial, hQ⟩)
  · exact And.intro (fun c3 => absurd c3 h) (fun c3 => ⟨trivial, hQ⟩)
theorem rf_plain {p t : Nat} {x : Int32} (hx : x = nI t) (ht : t < 3) (hG : rfG f n) (hp : p ≤ n) (hS : rfS f n p I)
    (hok : ∀ q, sPln f n t p = .inr q → ∀ I', rfA I I' → rfS f n q I' → Q none (sh2, I', L, F))
    (hbad : ∀ c w, sPln f n t p = .inl (c, w) → ∀ I', rfA I I' → rfX f n c w I' → Q none (sh2, I', L, F)) : XM xE0 (d + 3) 35 [.ref 0, .int x] (sh2, I, L, F) Q := by
  refine XC.block [] 60 ?_
  match t, ht with
  | 0, _ =>
    refine And.intro (fun c => absurd hx c) (fun c => ?_)
    refine rf_read hG (k := 4) (by decide) hp hS rfl (fun c I1 s a1 S1 hs => ⟨trivial, hok (p + 4) ?_ I1 a1 S1⟩) (fun c I1 a1 X1 => ⟨trivial, hbad 1 p ?_ I1 a1 X1⟩)
    · show sSkip n 4 p = _
      unfold sSkip
      rw [if_pos c]
    · show sSkip n 4 p = _
      unfold sSkip
      rw [if_neg c]
  | 1, _ =>
    refine And.intro (fun c => ?_) (fun c => absurd (show ¬ x = 0 by rw [hx]; decide) c)
    refine And.intro (fun c => absurd (show x = 1 by rw [hx]; rfl) c) (fun c => ?_)
    refine rf_read hG (k := 2) (by decide) hp hS rfl (fun c I1 s a1 S1 hs => ⟨trivial, hok (p + 2) ?_ I1 a1 S1⟩) (fun c I1 a1 X1 => ⟨trivial, hbad 1 p ?_ I1 a1 X1⟩)
    · show sSkip n 2 p = _
      unfold sSkip
      rw [if_pos c]
    · show sSkip n 2 p = _
      unfold sSkip
      rw [if_neg c]
  | 2, _ =>
    refine And.intro (fun c => ?_) (fun c => absurd (show ¬ x = 0 by rw [hx]; decide) c)
    refine And.intro (fun c => ?_) (fun c => absurd (show ¬ x = 1 by rw [hx]; decide) c)
    exact rf_string (z := false) (Or.inr ⟨rfl, rfl⟩) hG hp hS (fun q e I1 a1 S1 => ⟨trivial, hok q e I1 a1 S1⟩) (fun c w e I1 a1 X1 => ⟨trivial, hbad c w e I1 a1 X1⟩)
end RFB
