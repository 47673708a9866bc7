/-! merges and ALIGN -/
/-- the OCTETS of the STRING at r are those at p and at q together -/
def sCat (f : Nat → Nat) (r p q : Nat) : Prop := f r = f p + f q ∧ ∀ i, i < f r → f (r + 1 + i) = (if i < f p then f (p + 1 + i) else f (q + 1 + i - f p))
def sCatB (f : Nat → Nat) (r p q : Nat) : Bool := f r == f p + f q && (List.range (f r)).all fun i => f (r + 1 + i) == (if i < f p then f (p + 1 + i) else f (q + 1 + i - f p))
theorem sCatB_iff {f : Nat → Nat} {r p q : Nat} : sCatB f r p q = true ↔ sCat f r p q := by
  unfold sCatB sCat
  rw [Bool.and_eq_true, List.all_eq_true]
  constructor
  · rintro ⟨h1, h2⟩
    exact ⟨eq_of_beq h1, fun i hi => eq_of_beq (h2 i (List.mem_range.mpr hi))⟩
  · rintro ⟨h1, h2⟩
    refine ⟨by rw [h1]; exact beq_self_eq_true _, fun i hi => ?_⟩
    rw [h2 i (List.mem_range.mp hi)]
    exact beq_self_eq_true _
/-- the first of u TOKENS from t on that is both -/
def sTgt (f K : Nat → Nat) (p q : Nat) : Nat → Nat → Option Nat
  | 0, _ => none
  | u + 1, t => bif sCatB f (K t) p q then some t else sTgt f K p q u (t + 1)
theorem sTgt_lt {f K : Nat → Nat} {p q : Nat} : ∀ (u t j : Nat), sTgt f K p q u t = some j → t ≤ j ∧ j < t + u
  | 0, t, j, h => by cases h
  | u + 1, t, j, h => by
    unfold sTgt at h
    cases e : sCatB f (K t) p q with
    | true => rw [e] at h; injection h with h; omega
    | false => rw [e] at h; have := sTgt_lt u (t + 1) j h; omega
theorem rfO_neg {o : Option Nat} (h : ∀ j, o = some j → j < 2 ^ 31) : rfO o < 0 ↔ o = none := by
  cases o with
  | none => exact ⟨fun _ => rfl, fun _ => (by decide : (-1 : Int32) < 0)⟩
  | some j => exact ⟨fun z => absurd z (nI_pos (h j rfl)), fun z => by cases z⟩
section RFK
variable {f : Nat → Nat} {n : Nat} {I J : Nat → Nat → Int32} {L : Nat → Nat → Int64} {F : Nat → Nat → UInt32} {d : Nat} {Q : xP}
theorem rf_tg51 (hG : rfG f n) (hF : rfF f n I) {r p q : Nat} {a b t rr : Int32} (ha : a = nI p) (hb : b = nI q) (hr : rr = nI r) (br : r + f r < 1400) (bp : p + f p < 1400) (bq : q + f q < 1400) (hl : f r = f p + f q)
    (h1 : sCatB f r p q = true → ∀ x, XC xE0 d xM_47 (139, [some (.ref 0), some (.int a), some (.int b), some (.int t), some (.int rr), some (.int 1), some (.int x)], [], (sh2, I, L, F)) Q)
    (h0 : sCatB f r p q = false → ∀ x, XC xE0 d xM_47 (139, [some (.ref 0), some (.int a), some (.int b), some (.int t), some (.int rr), some (.int 0), some (.int x)], [], (sh2, I, L, F)) Q) :
    ∀ (u i : Nat), i + u = f r → (∀ l, l < i → f (r + 1 + l) = (if l < f p then f (p + 1 + l) else f (q + 1 + l - f p))) → ∀ x, x = nI i → XC xE0 d xM_47 (51, [some (.ref 0), some (.int a), some (.int b), some (.int t), some (.int rr), some (.int 1), some (.int x)], [], (sh2, I, L, F)) Q := by
  have g1 : I 1 rr.toNatClampNeg = nI (f r) := rf_at hF hr (by omega)
  have g2 : I 1 a.toNatClampNeg = nI (f p) := rf_at hF ha (by omega)
  have b1 := hG.1 r
  have b2 := hG.1 p
  intro u
  induction u with
  | zero =>
    intro i hi hall x hx
    refine XC.block [139] 60 ?_
    refine And.intro (rf_in hr (by omega) (by decide)) ?_
    refine And.intro (fun z => h1 (sCatB_iff.mpr ⟨hl, fun l hl2 => hall l (by omega)⟩) _) (fun z => absurd (show I 1 rr.toNatClampNeg ≤ x by rw [g1, hx]; exact nI_le (by omega) (by omega)) z)
  | succ u ih =>
    intro i hi hall x hx
    have e1 : rr + 1 + x = nI (r + 1 + i) := by rw [hr, hx, nI_1, nI_add]
    have g3 : I 1 (rr + 1 + x).toNatClampNeg = nI (f (r + 1 + i)) := rf_at hF e1 (by omega)
    have b3 := hG.1 (r + 1 + i)
    have hx1 : x + 1 = nI (i + 1) := by rw [hx, nI_1]
    /- both ways come to 123 -/
    have go : ∀ v w, v < 256 → w = nI v → v = (if i < f p then f (p + 1 + i) else f (q + 1 + i - f p)) → XC xE0 d xM_47 (123, [some (.ref 0), some (.int a), some (.int b), some (.int t), some (.int rr), some (.int 1), some (.int x)], [.int w, .int (I 1 (rr + 1 + x).toNatClampNeg)], (sh2, I, L, F)) Q := by
      intro v w hv hw hc
      refine XC.block [51] 60 ?_
      refine And.intro (fun z => ?_) (fun z => ?_)
      · have z : ¬ I 1 (rr + 1 + x).toNatClampNeg = w := z
        rw [g3, hw, nI_eq (by omega) (by omega)] at z
        refine XC.block [139] 60 ?_
        have hf0 : sCatB f r p q = false := by
          cases hb : sCatB f r p q with
          | false => rfl
          | true => exact absurd ((sCatB_iff.mp hb).2 i (by omega)) (by rw [← hc]; exact z)
        refine And.intro (rf_in hr (by omega) (by decide)) ?_
        exact And.intro (fun z => h0 hf0 _) (fun z => And.intro (fun _ => h0 hf0 _) (fun z => absurd (show (0 : Int32) = 0 from rfl) z))
      · have z : ¬ ¬ I 1 (rr + 1 + x).toNatClampNeg = w := z
        have z := Classical.not_not.mp z
        rw [g3, hw, nI_eq (by omega) (by omega)] at z
        refine ih (i + 1) (by omega) (fun l hl2 => ?_) _ hx1
        rcases Nat.lt_or_ge l i with y | y
        · exact hall l y
        · have : l = i := by omega
          subst this
          rw [z, hc]
    refine XC.block [123, 139] 60 ?_
    refine And.intro (rf_in hr (by omega) (by decide)) ?_
    refine And.intro (fun z => absurd (show I 1 rr.toNatClampNeg ≤ x from z) (by rw [g1, hx]; exact nI_ge (by omega) (by omega))) (fun z => ?_)
    refine And.intro (fun z => absurd (show (1 : Int32) = 0 from z) (by decide)) (fun z => ?_)
    refine And.intro (rf_in e1 (by omega) (by decide)) ?_
    refine And.intro (rf_in ha (by omega) (by decide)) ?_
    refine And.intro (fun z => ?_) (fun z => ?_)
    · have z : I 1 a.toNatClampNeg ≤ x := z
      rw [g2, hx, nI_leI (by omega) (by omega)] at z
      refine And.intro (rf_in ha (by omega) (by decide)) ?_
      have e2 : b + 1 + x - I 1 a.toNatClampNeg = nI (q + 1 + i - f p) := by
        rw [g2, hb, hx, nI_1, nI_add]
        have : q + 1 + i = (q + 1 + i - f p) + f p := by omega
        rw [this, ← nI_add, Int32.add_sub_cancel]
        congr 1
        omega
      refine And.intro (rf_in e2 (by omega) (by decide)) ?_
      exact go _ _ (hG.1 _) (rf_at hF e2 (by omega)) (by rw [if_neg (by omega)])
    · have z : ¬ I 1 a.toNatClampNeg ≤ x := z
      rw [g2, hx, nI_leI (by omega) (by omega)] at z
      have e2 : a + 1 + x = nI (p + 1 + i) := by rw [ha, hx, nI_1, nI_add]
      refine And.intro (rf_in e2 (by omega) (by decide)) ?_
      exact go _ _ (hG.1 _) (rf_at hF e2 (by omega)) (by rw [if_pos (by omega)])
theorem rf_tg2 (hG : rfG f n) (hF : rfF f n I) {K : Nat → Nat} {m p q : Nat} {a b : Int32} (hm : m ≤ 16) (ha : a = nI p) (hb : b = nI q) (bp : p + f p < 1400) (bq : q + f q < 1400) (h22 : I 0 22 = nI m) (hK : ∀ j, j < m → I 11 j = nI (K j) ∧ K j + f (K j) < 1400) :
    ∀ (u t : Nat), t + u = m → Q (some (.int (rfO (sTgt f K p q u t)))) (sh2, I, L, F) → ∀ x y4 y5 y6, x = nI t → XC xE0 d xM_47 (2, [some (.ref 0), some (.int a), some (.int b), some (.int x), y4, y5, y6], [], (sh2, I, L, F)) Q := by
  intro u
  induction u with
  | zero =>
    intro t ht hQ x y4 y5 y6 hx
    refine XC.block [2] 60 ?_
    exact And.intro (fun z => ⟨trivial, hQ⟩) (fun z => absurd (show I 0 22 ≤ x by rw [h22, hx]; exact nI_le (by omega) (by omega)) z)
  | succ u ih =>
    intro t ht hQ x y4 y5 y6 hx
    obtain ⟨k1, k2⟩ := hK t (by omega)
    have b1 := hG.1 (K t)
    have b2 := hG.1 p
    have b3 := hG.1 q
    have hx1 : x + 1 = nI (t + 1) := by rw [hx, nI_1]
    have er : I 11 x.toNatClampNeg = nI (K t) := by rw [hx, nI_clamp (by omega)]; exact k1
    have yes : sCatB f (K t) p q = true → ∀ x6, XC xE0 d xM_47 (139, [some (.ref 0), some (.int a), some (.int b), some (.int x), some (.int (I 11 x.toNatClampNeg)), some (.int 1), some (.int x6)], [], (sh2, I, L, F)) Q := by
      intro h x6
      refine XC.block [2] 60 ?_
      refine And.intro (fun z => absurd (show (1 : Int32) = 0 from z) (by decide)) (fun z => ⟨trivial, ?_⟩)
      unfold sTgt at hQ
      rw [h] at hQ
      rw [hx]
      exact hQ
    have no : sCatB f (K t) p q = false → ∀ x6, XC xE0 d xM_47 (139, [some (.ref 0), some (.int a), some (.int b), some (.int x), some (.int (I 11 x.toNatClampNeg)), some (.int 0), some (.int x6)], [], (sh2, I, L, F)) Q := by
      intro h x6
      refine XC.block [2] 60 ?_
      refine And.intro (fun _ => ?_) (fun z => absurd (show (0 : Int32) = 0 from rfl) z)
      unfold sTgt at hQ
      rw [h] at hQ
      exact ih (t + 1) (by omega) hQ _ _ _ _ hx1
    refine XC.block [2, 51] 60 ?_
    refine And.intro (fun z => absurd (show I 0 22 ≤ x from z) (by rw [h22, hx]; exact nI_ge (by omega) (by omega))) (fun z => ?_)
    refine And.intro (rf_in hx (by omega) (by decide)) ?_
    refine And.intro (rf_in er (by omega) (by decide)) ?_
    refine And.intro (rf_in ha (by omega) (by decide)) ?_
    refine And.intro (rf_in hb (by omega) (by decide)) ?_
    have gr : I 1 (I 11 x.toNatClampNeg).toNatClampNeg = nI (f (K t)) := rf_at hF er (by omega)
    refine And.intro (fun z => ?_) (fun z => ?_)
    · have z : ¬ I 1 (I 11 x.toNatClampNeg).toNatClampNeg = I 1 a.toNatClampNeg + I 1 b.toNatClampNeg := z
      rw [gr, rf_at hF ha (by omega), rf_at hF hb (by omega), nI_add, nI_eq (by omega) (by omega)] at z
      have hf0 : sCatB f (K t) p q = false := by
        cases hb : sCatB f (K t) p q with
        | false => rfl
        | true => exact absurd (sCatB_iff.mp hb).1 z
      refine XC.block [139] 60 ?_
      refine And.intro (rf_in er (by omega) (by decide)) ?_
      exact And.intro (fun z => no hf0 _) (fun z => And.intro (fun _ => no hf0 _) (fun z => absurd (show (0 : Int32) = 0 from rfl) z))
    · have z : ¬ ¬ I 1 (I 11 x.toNatClampNeg).toNatClampNeg = I 1 a.toNatClampNeg + I 1 b.toNatClampNeg := z
      have z := Classical.not_not.mp z
      rw [gr, rf_at hF ha (by omega), rf_at hF hb (by omega), nI_add, nI_eq (by omega) (by omega)] at z
      exact rf_tg51 hG hF ha hb er k2 bp bq z yes no (f (K t)) 0 (by omega) (fun l hl => absurd hl (by omega)) _ rfl
theorem rf_together (hG : rfG f n) (hF : rfF f n I) {K : Nat → Nat} {m p q : Nat} {a b : Int32} (hm : m ≤ 16) (ha : a = nI p) (hb : b = nI q) (bp : p + f p < 1400) (bq : q + f q < 1400) (h22 : I 0 22 = nI m) (hK : ∀ j, j < m → I 11 j = nI (K j) ∧ K j + f (K j) < 1400) (hQ : Q (some (.int (rfO (sTgt f K p q m 0)))) (sh2, I, L, F)) : XM xE0 d 47 [.ref 0, .int a, .int b] (sh2, I, L, F) Q := by
  refine XC.block [2] 60 ?_
  exact rf_tg2 hG hF hm ha hb bp bq h22 hK m 0 (by omega) hQ _ _ _ _ rfl
/-- merge i of an ARRAY of ARRAYS at h, TOKENS at K, m of them -/
def sMg1 (f K : Nat → Nat) (m h : Nat) : Prop := f (h + 1) = 2 ∧ sNum f (h + 2) 4 < m ∧ sNum f (h + 6) 4 < m ∧ sTgt f K (K (sNum f (h + 2) 4)) (K (sNum f (h + 6) 4)) m 0 ≠ none
def sMg (f K : Nat → Nat) (m p : Nat) : Prop := f (p + 1) = 0 ∨ (f p = 3 ∧ f (p + 1) ≤ 12 ∧ ∀ i, i < f (p + 1) → sMg1 f K m (p + 2 + 10 * i))
/-- what is noted of merge i -/
def rfM (f K : Nat → Nat) (m h : Nat) (J : Nat → Nat → Int32) (i : Nat) : Prop := J 12 i = nI (sNum f (h + 2) 4) ∧ J 13 i = nI (sNum f (h + 6) 4) ∧ J 14 i = rfO (sTgt f K (K (sNum f (h + 2) 4)) (K (sNum f (h + 6) 4)) m 0)
theorem rf_po171 {i : Nat} {a hh ii : Int32} (hii : ii = nI i) (hi : i < 12) {T : Option Nat} (hT : ∀ j, T = some j → j < 16) (h14 : J 14 i = rfO T)
    (hgo : T ≠ none → XC xE0 (d + 1) xM_46 (48, [some (.ref 0), some (.int a), some (.int (hh + 10)), some (.int (ii + 1))], [], (sh2, J, L, F)) Q)
    (hbad : T = none → Q (some (.int 0)) (sh2, J, L, F)) : XC xE0 (d + 1) xM_46 (171, [some (.ref 0), some (.int a), some (.int hh), some (.int ii)], [], (sh2, J, L, F)) Q := by
  have ek : ii.toNatClampNeg = i := by rw [hii, nI_clamp (by omega)]
  have hneg : rfO T < 0 ↔ T = none := rfO_neg (fun j hj => by have := hT j hj; omega)
  refine XC.block [48] 60 ?_
  refine And.intro (rf_in hii (by omega) (by decide)) ?_
  refine And.intro (fun z => hgo (fun w => ?_)) (fun z => ⟨by decide, hbad ?_⟩)
  · have z : 0 ≤ J 14 ii.toNatClampNeg := z
    rw [ek, h14] at z
    exact absurd (hneg.mpr w) (Int32.not_lt.mpr z)
  · have z : ¬ 0 ≤ J 14 ii.toNatClampNeg := z
    rw [ek, h14] at z
    exact hneg.mp (Int32.not_le.mp z)
theorem rf_po139 (hG : rfG f n) (hF : rfF f n J) {K : Nat → Nat} {m i s t : Nat} {a hh ii : Int32} (hm : m ≤ 16) (hii : ii = nI i) (hi : i < 12) (h22 : J 0 22 = nI m) (hK : ∀ j, j < m → J 11 j = nI (K j) ∧ K j + f (K j) < 1400) (h12 : J 12 i = nI s) (h13 : J 13 i = nI t) (hs : s < m) (ht : t < m)
    (hgo : XC xE0 (d + 1) xM_46 (171, [some (.ref 0), some (.int a), some (.int hh), some (.int ii)], [], (sh2, x2 J 14 ii.toNatClampNeg (rfO (sTgt f K (K s) (K t) m 0)), L, F)) Q) : XC xE0 (d + 1) xM_46 (139, [some (.ref 0), some (.int a), some (.int hh), some (.int ii)], [], (sh2, J, L, F)) Q := by
  have ek : ii.toNatClampNeg = i := by rw [hii, nI_clamp (by omega)]
  have q12 : J 12 ii.toNatClampNeg = nI s := by rw [ek]; exact h12
  have q13 : J 13 ii.toNatClampNeg = nI t := by rw [ek]; exact h13
  refine XC.block [171] 60 ?_
  refine And.intro (rf_in hii (by omega) (by decide)) ?_
  refine And.intro (rf_in q12 (by omega) (by decide)) ?_
  refine And.intro (rf_in hii (by omega) (by decide)) ?_
  refine And.intro (rf_in q13 (by omega) (by decide)) ?_
  refine rf_together hG hF (K := K) (m := m) (p := K s) (q := K t) hm ?_ ?_ (hK _ hs).2 (hK _ ht).2 h22 hK ?_
  · show J 11 (J 12 ii.toNatClampNeg).toNatClampNeg = _
    rw [q12, nI_clamp (by omega)]; exact (hK _ hs).1
  · show J 11 (J 13 ii.toNatClampNeg).toNatClampNeg = _
    rw [q13, nI_clamp (by omega)]; exact (hK _ ht).1
  · exact And.intro (rf_in hii (by omega) (by decide)) hgo
theorem rf_inr {m v : Nat} (hm : m ≤ 16) (hv : v < 2 ^ 32) : ¬ nI v < 0 ∧ nI v ≤ nI m - 1 ↔ v < m := by
  rcases Nat.eq_zero_or_pos m with w | w
  · subst w
    constructor
    · rintro ⟨w3, w4⟩
      exact absurd (Int32.lt_of_le_of_lt w4 (by decide)) w3
    · omega
  · have e : nI m - 1 = nI (m - 1) := by
      have : m = m - 1 + 1 := by omega
      rw [this, nI_pred]
      congr 1
    rw [e, show (0 : Int32) = nI 0 from rfl, nI_rng hv (by omega) (by omega)]
    omega
theorem rf_po99 {m i s t : Nat} {a hh ii : Int32} (hm : m ≤ 16) (hii : ii = nI i) (hi : i < 12) (h22 : J 0 22 = nI m) (h12 : J 12 i = nI s) (h13 : J 13 i = nI t) (hs : s < 2 ^ 32) (ht : t < 2 ^ 32)
    (hgo : s < m → t < m → XC xE0 (d + 1) xM_46 (139, [some (.ref 0), some (.int a), some (.int hh), some (.int ii)], [], (sh2, J, L, F)) Q)
    (hbad : ¬ (s < m ∧ t < m) → Q (some (.int 0)) (sh2, J, L, F)) : XC xE0 (d + 1) xM_46 (99, [some (.ref 0), some (.int a), some (.int hh), some (.int ii)], [], (sh2, J, L, F)) Q := by
  have ek : ii.toNatClampNeg = i := by rw [hii, nI_clamp (by omega)]
  have q12 : J 12 ii.toNatClampNeg = nI s := by rw [ek]; exact h12
  have q13 : J 13 ii.toNatClampNeg = nI t := by rw [ek]; exact h13
  refine XC.block [118, 139] 60 ?_
  refine And.intro (rf_in hii (by omega) (by decide)) ?_
  refine fr_in (fun c1 c2 => ?_) (fun c1 => ?_)
  · have c1 : ¬ J 12 ii.toNatClampNeg < 0 := c1
    have c2 : J 12 ii.toNatClampNeg ≤ J 0 22 - 1 := c2
    rw [q12] at c1 c2
    rw [h22] at c2
    have c3 := (rf_inr hm hs).mp ⟨c1, c2⟩
    refine And.intro (fun z => absurd (show (1 : Int32) = 0 from z) (by decide)) (fun _ => ?_)
    refine XC.block [139] 60 ?_
    refine And.intro (rf_in hii (by omega) (by decide)) ?_
    refine fr_in (fun c4 c5 => ?_) (fun c4 => ?_)
    · have c4 : ¬ J 13 ii.toNatClampNeg < 0 := c4
      have c5 : J 13 ii.toNatClampNeg ≤ J 0 22 - 1 := c5
      rw [q13] at c4 c5
      rw [h22] at c5
      have c6 := (rf_inr hm ht).mp ⟨c4, c5⟩
      exact And.intro (fun _ => hgo c3 c6) (fun z => absurd (show ¬ (1 : Int32) = 0 by decide) z)
    · have c4 : J 13 ii.toNatClampNeg < 0 ∨ ¬ J 13 ii.toNatClampNeg ≤ J 0 22 - 1 := c4
      rw [q13, h22] at c4
      refine And.intro (fun z => absurd (show (0 : Int32) = 0 from rfl) z) (fun _ => ⟨by decide, hbad (fun w => ?_)⟩)
      have := (rf_inr hm ht).mpr w.2
      exact c4.elim this.1 (fun y => y this.2)
  · have c1 : J 12 ii.toNatClampNeg < 0 ∨ ¬ J 12 ii.toNatClampNeg ≤ J 0 22 - 1 := c1
    rw [q12, h22] at c1
    refine And.intro (fun _ => ⟨by decide, hbad (fun w => ?_)⟩) (fun z => absurd (show (0 : Int32) = 0 from rfl) z)
    have := (rf_inr hm hs).mpr w.1
    exact c1.elim this.1 (fun y => y this.2)
theorem rf_po70 (hG : rfG f n) (hF : rfF f n J) {i h : Nat} {a hh ii : Int32} (hii : ii = nI i) (hi : i < 12) (hhh : hh = nI h) (hb : h + 10 ≤ 1400)
    (hgo : ∀ s1 s2, s1 = nI (sNum f (h + 2) 4) → s2 = nI (sNum f (h + 6) 4) → XC xE0 (d + 1) xM_46 (99, [some (.ref 0), some (.int a), some (.int hh), some (.int ii)], [], (sh2, x2 (x2 J 12 ii.toNatClampNeg s1) 13 ii.toNatClampNeg s2, L, F)) Q) : XC xE0 (d + 1) xM_46 (70, [some (.ref 0), some (.int a), some (.int hh), some (.int ii)], [], (sh2, J, L, F)) Q := by
  refine XC.block [84] 60 ?_
  refine rf_u hF hG.1 (p := h + 2) (k := 4) (by omega) (show hh + 2 = nI (h + 2) by rw [hhh, show (2 : Int32) = nI 2 from rfl, nI_add]) rfl (fun s1 hs1 => ?_)
  refine And.intro (rf_in hii (by omega) (by decide)) ?_
  have go : XC xE0 (d + 1) xM_46 (84, [some (.ref 0), some (.int a), some (.int hh), some (.int ii)], [], (sh2, x2 J 12 ii.toNatClampNeg s1, L, F)) Q := by
    refine XC.block [99] 60 ?_
    refine rf_u (hF.st (by decide)) hG.1 (p := h + 6) (k := 4) (by omega) (show hh + 6 = nI (h + 6) by rw [hhh, show (6 : Int32) = nI 6 from rfl, nI_add]) rfl (fun s2 hs2 => ?_)
    exact And.intro (rf_in hii (by omega) (by decide)) (hgo s1 s2 hs1 hs2)
  exact go
theorem rf_po48 (hG : rfG f n) {K : Nat → Nat} {m g p e : Nat} {a : Int32} (hm : m ≤ 16) (hg : g ≤ 12) (hFI : rfF f n I)
    (hok : (∀ i, i < g → sMg1 f K m (p + 2 + 10 * i)) → ∀ J', rfE I J' → J' 0 22 = nI m → (∀ j, j < m → J' 11 j = nI (K j)) → J' 0 23 = nI g → (∀ i, i < g → rfM f K m (p + 2 + 10 * i) J' i) → Q (some (.int 1)) (sh2, J', L, F))
    (hbad : (∃ i, i < g ∧ ¬ sMg1 f K m (p + 2 + 10 * i)) → ∀ J', rfE I J' → Q (some (.int 0)) (sh2, J', L, F)) (hKb : ∀ j, j < m → K j + f (K j) < 1400) :
    ∀ (u i : Nat), i + u = g → ∀ J, rfE I J → J 0 22 = nI m → (∀ j, j < m → J 11 j = nI (K j)) → J 0 23 = nI g → (∀ j, j < i → rfM f K m (p + 2 + 10 * j) J j) → (∀ j, j < i → sMg1 f K m (p + 2 + 10 * j)) → (0 < u → sRep (sA2 f n) u (p + 2 + 10 * i) = .inr e ∧ sTf f u (p + 2 + 10 * i) = true) →
    ∀ hh ii, hh = nI (p + 2 + 10 * i) → ii = nI i → XC xE0 (d + 1) xM_46 (48, [some (.ref 0), some (.int a), some (.int hh), some (.int ii)], [], (sh2, J, L, F)) Q := by
  have hn := hG.2
  intro u
  induction u with
  | zero =>
    intro i hi J D h22 h11 h23 hM hg1 hr hh ii hhh hii
    refine XC.block [48] 60 ?_
    exact And.intro (fun z => ⟨by decide, hok (fun j hj => hg1 j (by omega)) J D h22 h11 h23 (fun j hj => hM j (by omega))⟩) (fun z => absurd (show J 0 23 ≤ ii by rw [h23, hii]; exact nI_le (by omega) (by omega)) z)
  | succ u ih =>
    intro i hi J D h22 h11 h23 hM hg1 hr hh ii hhh hii
    obtain ⟨hr, ht⟩ := hr (by omega)
    have hF : rfF f n J := hFI.agE D
    have hH : ∃ h, h = p + 2 + 10 * i := ⟨_, rfl⟩
    obtain ⟨h, hH⟩ := hH
    rw [← hH] at hr ht hhh
    have ht0 : ¬ (0 < f (h + 1) ∧ f h ≠ 0) ∧ sTf f u (h + 2 + 4 * f (h + 1)) = true := by
      have ht : (if 0 < f (h + 1) ∧ f h ≠ 0 then false else sTf f u (h + 2 + 4 * f (h + 1))) = true := ht
      split at ht
      · cases ht
      · exact ⟨by assumption, ht⟩
    unfold sRep at hr
    split at hr
    · cases hr
    · rename_i r hs
      have hle := sA2_in hs
      have hnx := sA2_num hs (by have := ht0.1; omega)
      have ek : ii.toNatClampNeg = i := by rw [hii, nI_clamp (by omega)]
      have e1 : hh + 1 = nI (h + 1) := by rw [hhh, nI_1]
      have b1 := hG.1 (h + 1)
      refine XC.block [48, 70] 60 ?_
      refine And.intro (fun z => absurd (show J 0 23 ≤ ii from z) (by rw [h23, hii]; exact nI_ge (by omega) (by omega))) (fun z => ?_)
      refine And.intro (rf_in e1 (by omega) (by decide)) ?_
      refine And.intro (fun z => ?_) (fun z => ⟨by decide, hbad ⟨i, by omega, ?_⟩ J D⟩)
      · have z2 : J 1 (hh + 1).toNatClampNeg = 2 := z
        rw [rf_at hF e1 (by omega), show (2 : Int32) = nI 2 from rfl, nI_eq (by omega) (by omega)] at z2
        have B1 := sNum_lt hG.1 4 (h + 2)
        have B2 := sNum_lt hG.1 4 (h + 6)
        refine rf_po70 hG hF hii (by omega) hhh (by omega) (fun s1 s2 hs1 hs2 => ?_)
        have D2 : rfE I (x2 (x2 J 12 ii.toNatClampNeg s1) 13 ii.toNatClampNeg s2) := (D.st (by decide) (by decide)).st (by decide) (by decide)
        have q12 : x2 (x2 J 12 ii.toNatClampNeg s1) 13 ii.toNatClampNeg s2 12 i = nI (sNum f (h + 2) 4) := by
          rw [x2_o _ _ (by omega), ek, x2_same]; exact hs1
        have q13 : x2 (x2 J 12 ii.toNatClampNeg s1) 13 ii.toNatClampNeg s2 13 i = nI (sNum f (h + 6) 4) := by
          rw [ek, x2_same]; exact hs2
        have qfr : ∀ b2 k2, ¬ ((b2 = 12 ∨ b2 = 13) ∧ k2 = i) → x2 (x2 J 12 ii.toNatClampNeg s1) 13 ii.toNatClampNeg s2 b2 k2 = J b2 k2 := fun b2 k2 hk => by
          rw [x2_o _ _ (by omega), x2_o _ _ (by omega)]
        revert D2 q12 q13 qfr
        generalize x2 (x2 J 12 ii.toNatClampNeg s1) 13 ii.toNatClampNeg s2 = J2
        intro D2 q12 q13 qfr
        have q22 : J2 0 22 = nI m := (qfr 0 22 (by omega)).trans h22
        have q11 : ∀ j, j < m → J2 11 j = nI (K j) := fun j hj => (qfr 11 j (by omega)).trans (h11 j hj)
        refine rf_po99 hm hii (by omega) q22 q12 q13 (by omega) (by omega) (fun c3 c6 => ?_) (fun c => hbad ⟨i, by omega, fun w => c ?_⟩ J2 D2)
        · refine rf_po139 hG (hFI.agE D2) (K := K) hm hii (by omega) q22 (fun j hj => ⟨q11 j hj, hKb j hj⟩) q12 q13 c3 c6 ?_
          have hlt := sTgt_lt (f := f) (K := K) (p := K (sNum f (h + 2) 4)) (q := K (sNum f (h + 6) 4)) m 0
          have hTx : ∃ T, T = sTgt f K (K (sNum f (h + 2) 4)) (K (sNum f (h + 6) 4)) m 0 := ⟨_, rfl⟩
          obtain ⟨T, hT⟩ := hTx
          rw [← hT] at hlt ⊢
          have D3 : rfE I (x2 J2 14 ii.toNatClampNeg (rfO T)) := D2.st (by decide) (by decide)
          refine rf_po171 hii (by omega) (T := T) (fun j hj => by have := hlt j hj; omega) (by rw [ek, x2_same]) (fun hTn => ?_) (fun hTn => hbad ⟨i, by omega, fun w => ?_⟩ _ D3)
          · have hmg : sMg1 f K m (p + 2 + 10 * i) := by
              rw [← hH]; exact ⟨z2, c3, c6, by rw [← hT]; exact hTn⟩
            refine ih (i + 1) (by omega) _ D3 ?_ (fun j hj => ?_) ?_ (fun j hj => ?_) (fun j hj => ?_) (fun hu => ?_) _ _ ?_ (show ii + 1 = nI (i + 1) by rw [hii, nI_1])
            · rw [x2_o _ _ (by omega)]; exact q22
            · rw [x2_o _ _ (by omega)]; exact q11 j hj
            · rw [x2_o _ _ (by omega), qfr _ _ (by omega)]; exact h23
            · rcases Nat.lt_or_ge j i with y | y
              · obtain ⟨m1, m2, m3⟩ := hM j y
                refine ⟨?_, ?_, ?_⟩
                · rw [x2_o _ _ (by omega), qfr _ _ (by omega)]; exact m1
                · rw [x2_o _ _ (by omega), qfr _ _ (by omega)]; exact m2
                · rw [x2_o _ _ (by omega), qfr _ _ (by omega)]; exact m3
              · have : j = i := by omega
                subst this
                refine ⟨?_, ?_, ?_⟩
                · rw [x2_o _ _ (by omega), ← hH]; exact q12
                · rw [x2_o _ _ (by omega), ← hH]; exact q13
                · rw [ek, x2_same, ← hH, hT]
            · rcases Nat.lt_or_ge j i with y | y
              · exact hg1 j y
              · have : j = i := by omega
                subst this
                exact hmg
            · have e10 : p + 2 + 10 * (i + 1) = r := by omega
              rw [e10]
              refine ⟨hr, ?_⟩
              rw [hnx]; exact ht0.2
            · rw [hhh, show (10 : Int32) = nI 10 from rfl, nI_add]
              congr 1
              omega
          · rw [← hH] at w
            exact w.2.2.2 (by rw [← hT]; exact hTn)
        · rw [← hH] at w
          exact ⟨w.2.1, w.2.2.1⟩
      · have z : ¬ J 1 (hh + 1).toNatClampNeg = 2 := z
        rw [rf_at hF e1 (by omega), show (2 : Int32) = nI 2 from rfl, nI_eq (by omega) (by omega)] at z
        rw [← hH]
        exact fun w => z w.1
end RFK
