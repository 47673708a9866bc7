/-! the class on paper: KEYS -/
section CLF
variable {X : List (Option Nat)} {T : List xS} {f : Nat → Nat} {n : Nat} {I J : Nat → Nat → Int32} {L : Nat → Nat → Int64} {F : Nat → Nat → UInt32} {d : Nat} {Q : xP}
theorem cl_tx0 : ∀ j, j < 3 → xtchr 0 j = nI (sWd [100, 105, 109] j) ∧ sWd [100, 105, 109] j < 256 := by decide +kernel
theorem cl_spL0 (hF : clF f n I) (hG : rfG f n) {p m fr : Nat} (hp : p + f p < n) (hpm : f p = m) (hfm : fr + m ≤ 3) {w : Nat → Nat} (hw : ∀ i, i < m → w i = sWd [100, 105, 109] (fr + i)) {a b mm : Int32} (ha : a = nI p) (hb : b = nI fr) (hm : mm = nI m) (h1 : sIsB f p w m = true → Q (some (.int 1)) (shG X T, I, L, F)) (h0 : sIsB f p w m = false → Q (some (.int 0)) (shG X T, I, L, F)) :
    ∀ (k j : Nat), j + k = m → (∀ i, i < j → f (p + 1 + i) = w i) → ∀ x : Int32, x = nI j → XC xE0 (d + 1) xM_136 (30, [some (.ref 1), some (.int a), some (.ref 1000000), some (.int b), some (.int mm), some (.int x)], [], (shG X T, I, L, F)) Q := by
  have hn := hG.2
  intro k
  induction k with
  | zero =>
    intro j hj hall x hx
    refine XC.block [30] 60 ?_
    exact And.intro (fun z => ⟨(show (1 : Int32) &&& 1 = 1 by decide), h1 (sIsB_iff.mpr ⟨hpm, fun i hi => hall i (by omega)⟩)⟩) (fun z => absurd (show mm ≤ x by rw [hm, hx]; exact nI_le (by omega) (by omega)) z)
  | succ k ih =>
    intro j hj hall x hx
    have e1 : a + 1 + x = nI (p + 1 + j) := by rw [ha, hx, nI_1, nI_add]
    have e2 : b + x = nI (fr + j) := by rw [hb, hx, nI_add]
    have g1 := hG.1 (p + 1 + j)
    obtain ⟨t1, t2⟩ := cl_tx0 (fr + j) (by omega)
    refine XC.block [30] 60 ?_
    refine And.intro (fun z => absurd (show mm ≤ x from z) (by rw [hm, hx]; exact nI_ge (by omega) (by omega))) (fun z => ?_)
    refine cl_at hF hG (p := p + 1 + j) (by omega) e1 (fun _ v hv => ?_) (fun z => absurd z (by omega))
    refine And.intro (rf_in (N := 3) e2 (by omega) (by decide)) ?_
    have ec : xtchr 0 (b + x).toNatClampNeg = nI (w j) := by
      rw [e2, nI_clamp (by omega), t1, hw j (by omega)]
    have hw2 : w j < 256 := by rw [hw j (by omega)]; exact t2
    refine And.intro (fun z => ?_) (fun z => ⟨(show (0 : Int32) &&& 1 = 0 by decide), h0 ?_⟩)
    · have z : v = xtchr 0 (b + x).toNatClampNeg := z
      rw [hv, ec, nI_eq (by omega) (by omega)] at z
      refine ih (j + 1) (by omega) (fun i hi => ?_) _ (show x + 1 = nI (j + 1) by rw [hx, nI_1])
      rcases Nat.lt_or_ge i j with q | q
      · exact hall i q
      · have : i = j := by omega
        subst this
        exact z
    · have z : ¬ v = xtchr 0 (b + x).toNatClampNeg := z
      rw [hv, ec, nI_eq (by omega) (by omega)] at z
      cases hb : sIsB f p w m with
      | false => rfl
      | true => exact absurd ((sIsB_iff.mp hb).2 j (by omega)) z
theorem cl_sp0 (hF : clF f n I) (hG : rfG f n) {p m fr : Nat} (hp : p + f p < n) (hfm : fr + m ≤ 3) {w : Nat → Nat} (hw : ∀ i, i < m → w i = sWd [100, 105, 109] (fr + i)) {a b mm : Int32} (ha : a = nI p) (hb : b = nI fr) (hm : mm = nI m) (h1 : sIsB f p w m = true → Q (some (.int 1)) (shG X T, I, L, F)) (h0 : sIsB f p w m = false → Q (some (.int 0)) (shG X T, I, L, F)) : XM xE0 (d + 1) 136 [.ref 1, .int a, .ref 1000000, .int b, .int mm] (shG X T, I, L, F) Q := by
  have hn := hG.2
  have hfp := hG.1 p
  have ne : ¬ f p = m → sIsB f p w m = false := fun z => by
    cases hb : sIsB f p w m with
    | false => rfl
    | true => exact absurd (sIsB_iff.mp hb).1 z
  refine XC.block [30] 60 ?_
  refine cl_at hF hG (p := p) (by omega) ha (fun _ v hv => ?_) (fun z => absurd z (by omega))
  refine And.intro (fun z => ⟨(show (0 : Int32) &&& 1 = 0 by decide), h0 (ne ?_)⟩) (fun z => ?_)
  · have z : ¬ v = mm := z
    rw [hv, hm, nI_eq (by omega) (by omega)] at z
    exact z
  · have z : ¬ ¬ v = mm := z
    have z := Classical.not_not.mp z
    rw [hv, hm, nI_eq (by omega) (by omega)] at z
    refine And.intro (fun y => absurd (show b < 0 from y) (by rw [hb]; exact nI_pos (by omega))) (fun _ => ?_)
    refine And.intro (fun _ => ?_) (fun y => absurd (show b + mm ≤ nI 3 by rw [hb, hm, nI_add]; exact nI_le (by omega) (by omega)) y)
    exact cl_spL0 hF hG hp z hfm hw ha hb hm h1 h0 m 0 (by omega) (fun i hi => absurd hi (by omega)) _ rfl
theorem cl_poL0 (hF : clF f n I) (hG : rfG f n) {k : Nat} (hk : k ≤ 24) (h9 : I 5 9 = nI k) (hP : ∀ j, j < k → clP1 f n I j) (hQ : Q (some (.int (rfO (sKf f n (sWd [100, 105, 109]) 3 k 0)))) (shG X T, I, L, F)) :
    ∀ (u j : Nat), j + u = k → sKf f n (sWd [100, 105, 109]) 3 k 0 = sKf f n (sWd [100, 105, 109]) 3 u j → ∀ x : Int32, x = nI j → XC xE0 (d + 2) xM_150 (2, [some (.ref 5), some (.ref 1000000), some (.int x)], [], (shG X T, I, L, F)) Q := by
  intro u
  induction u with
  | zero =>
    intro j hj he x hx
    refine XC.block [2] 60 ?_
    refine And.intro (fun z => ⟨trivial, ?_⟩) (fun z => absurd (show I 5 9 ≤ x by rw [h9, hx]; exact nI_le (by omega) (by omega)) z)
    rw [he] at hQ
    exact hQ
  | succ u ih =>
    intro j hj he x hx
    obtain ⟨p1, p2, p3, p4⟩ := hP j (by omega)
    have e6 : I 6 x.toNatClampNeg = nI (sKey f n j) := by rw [hx, nI_clamp (by omega)]; exact p1
    refine XC.block [2] 60 ?_
    refine And.intro (fun z => absurd (show I 5 9 ≤ x from z) (by rw [h9, hx]; exact nI_ge (by omega) (by omega))) (fun z => ?_)
    refine And.intro (rf_in hx (by omega) (by decide)) ?_
    refine cl_sp0 hF hG (p := sKey f n j) (m := 3) (fr := 0) p4 (by decide) (w := sWd [100, 105, 109]) (fun i _ => by rw [Nat.zero_add]) e6 rfl rfl (fun h => ?_) (fun h => ?_)
    · refine And.intro (fun z => absurd (show (1 : Int32) = 0 from z) (by decide)) (fun _ => ⟨trivial, ?_⟩)
      have e : sKf f n (sWd [100, 105, 109]) 3 (u + 1) j = some j := by
        show (bif sIsB f (sKey f n j) (sWd [100, 105, 109]) 3 then _ else _) = _
        rw [h]; rfl
      rw [he, e] at hQ
      rw [hx]
      exact hQ
    · refine And.intro (fun _ => ?_) (fun z => absurd (show (0 : Int32) = 0 from rfl) z)
      have e : sKf f n (sWd [100, 105, 109]) 3 (u + 1) j = sKf f n (sWd [100, 105, 109]) 3 u (j + 1) := by
        show (bif sIsB f (sKey f n j) (sWd [100, 105, 109]) 3 then _ else _) = _
        rw [h]; rfl
      exact ih (j + 1) (by omega) (he.trans e) _ (show x + 1 = nI (j + 1) by rw [hx, nI_1])
theorem cl_fk0 (hF : clF f n I) (hG : rfG f n) {k q t : Nat} (hk : k ≤ 24) (h9 : I 5 9 = nI k) (hP : ∀ j, j < k → clP1 f n I j) (hq : q < 14) (ht : t < 256) {qq tt : Int32} (hqq : qq = nI q) (htt : tt = nI t)
    (h1 : ∀ i, sKf f n (sWd [100, 105, 109]) 3 k 0 = some i → sTy f n i = t → Q (some (.int 1)) (shG X T, x2 I 15 q (nI (sVa f n i)), L, F))
    (h2 : ∀ i, sKf f n (sWd [100, 105, 109]) 3 k 0 = some i → ¬ sTy f n i = t → Q (some (.int 0)) (shG X T, x2 I 15 q (nI (sVa f n i)), L, F))
    (h0 : sKf f n (sWd [100, 105, 109]) 3 k 0 = none → Q (some (.int 0)) (shG X T, x2 I 15 q (-1), L, F)) : XM xE0 (d + 3) 90 [.ref 14, .int qq, .ref 1000000, .int tt] (shG X T, I, L, F) Q := by
  have ek : qq.toNatClampNeg = q := by rw [hqq, nI_clamp (by omega)]
  rw [← ek] at h1 h2 h0
  refine XC.block [10] 60 ?_
  refine XC.block [2] 60 ?_
  refine cl_poL0 hF hG hk h9 hP ?_ k 0 (by omega) rfl _ rfl
  have hlt := sKf_lt (f := f) (n := n) (w := sWd [100, 105, 109]) (m := 3) k 0
  have go : ∀ o : Option Nat, o = sKf f n (sWd [100, 105, 109]) 3 k 0 → XC xE0 (d + 3) xM_90 (10, [some (.ref 14), some (.int qq), some (.ref 1000000), some (.int tt), some (.int (rfO o))], [], (shG X T, I, L, F)) Q := by
    intro o ho
    rw [← ho] at h1 h2 h0 hlt
    match o, ho with
    | none, _ =>
      refine XC.block [] 60 ?_
      refine And.intro (fun z => absurd (show (0 : Int32) ≤ -1 from z) (by decide)) (fun _ => ?_)
      refine And.intro (rf_in hqq (by omega) (by decide)) ?_
      exact And.intro (fun _ => ⟨(show (0 : Int32) &&& 1 = 0 by decide), h0 rfl⟩) (fun z => absurd (show (-1 : Int32) < 0 by decide) z)
    | some i, _ =>
      have hi : i < k := by have := hlt i rfl; omega
      obtain ⟨p1, p2, p3, p4⟩ := hP i hi
      have ei : (nI i).toNatClampNeg = i := nI_clamp (by omega)
      have hty : sTy f n i < 256 := hG.1 _
      have g8 : I 8 (nI i).toNatClampNeg = I 8 i := by rw [ei]
      have h1 : sTy f n i = t → Q (some (.int 1)) (shG X T, x2 I 15 qq.toNatClampNeg (I 8 (nI i).toNatClampNeg), L, F) := fun y => by
        have := h1 i rfl y
        rw [← p3, ← g8] at this
        exact this
      have h2 : ¬ sTy f n i = t → Q (some (.int 0)) (shG X T, x2 I 15 qq.toNatClampNeg (I 8 (nI i).toNatClampNeg), L, F) := fun y => by
        have := h2 i rfl y
        rw [← p3, ← g8] at this
        exact this
      refine XC.block [] 60 ?_
      refine And.intro (fun _ => ?_) (fun z => absurd (show 0 ≤ nI i from nI_pos' (by omega)) z)
      refine And.intro (rf_in (i := nI i) rfl (by omega) (by decide)) ?_
      refine And.intro (rf_in hqq (by omega) (by decide)) ?_
      refine And.intro (fun z => absurd (show nI i < 0 from z) (nI_pos (by omega))) (fun _ => ?_)
      refine And.intro (rf_in (i := nI i) rfl (by omega) (by decide)) ?_
      refine And.intro (fun z => ⟨(show (0 : Int32) &&& 1 = 0 by decide), h2 ?_⟩) (fun z => ⟨(show (1 : Int32) &&& 1 = 1 by decide), h1 ?_⟩)
      · have z : ¬ I 7 (nI i).toNatClampNeg = tt := z
        rw [ei, p2, htt, nI_eq (by omega) (by omega)] at z
        exact z
      · have z : ¬ ¬ I 7 (nI i).toNatClampNeg = tt := z
        have z := Classical.not_not.mp z
        rw [ei, p2, htt, nI_eq (by omega) (by omega)] at z
        exact z
  exact go _ rfl
theorem cl_tx1 : ∀ j, j < 5 → xtchr 1 j = nI (sWd [104, 101, 97, 100, 115] j) ∧ sWd [104, 101, 97, 100, 115] j < 256 := by decide +kernel
theorem cl_spL1 (hF : clF f n I) (hG : rfG f n) {p m fr : Nat} (hp : p + f p < n) (hpm : f p = m) (hfm : fr + m ≤ 5) {w : Nat → Nat} (hw : ∀ i, i < m → w i = sWd [104, 101, 97, 100, 115] (fr + i)) {a b mm : Int32} (ha : a = nI p) (hb : b = nI fr) (hm : mm = nI m) (h1 : sIsB f p w m = true → Q (some (.int 1)) (shG X T, I, L, F)) (h0 : sIsB f p w m = false → Q (some (.int 0)) (shG X T, I, L, F)) :
    ∀ (k j : Nat), j + k = m → (∀ i, i < j → f (p + 1 + i) = w i) → ∀ x : Int32, x = nI j → XC xE0 (d + 1) xM_136 (30, [some (.ref 1), some (.int a), some (.ref 1000001), some (.int b), some (.int mm), some (.int x)], [], (shG X T, I, L, F)) Q := by
  have hn := hG.2
  intro k
  induction k with
  | zero =>
    intro j hj hall x hx
    refine XC.block [30] 60 ?_
    exact And.intro (fun z => ⟨(show (1 : Int32) &&& 1 = 1 by decide), h1 (sIsB_iff.mpr ⟨hpm, fun i hi => hall i (by omega)⟩)⟩) (fun z => absurd (show mm ≤ x by rw [hm, hx]; exact nI_le (by omega) (by omega)) z)
  | succ k ih =>
    intro j hj hall x hx
    have e1 : a + 1 + x = nI (p + 1 + j) := by rw [ha, hx, nI_1, nI_add]
    have e2 : b + x = nI (fr + j) := by rw [hb, hx, nI_add]
    have g1 := hG.1 (p + 1 + j)
    obtain ⟨t1, t2⟩ := cl_tx1 (fr + j) (by omega)
    refine XC.block [30] 60 ?_
    refine And.intro (fun z => absurd (show mm ≤ x from z) (by rw [hm, hx]; exact nI_ge (by omega) (by omega))) (fun z => ?_)
    refine cl_at hF hG (p := p + 1 + j) (by omega) e1 (fun _ v hv => ?_) (fun z => absurd z (by omega))
    refine And.intro (rf_in (N := 5) e2 (by omega) (by decide)) ?_
    have ec : xtchr 1 (b + x).toNatClampNeg = nI (w j) := by
      rw [e2, nI_clamp (by omega), t1, hw j (by omega)]
    have hw2 : w j < 256 := by rw [hw j (by omega)]; exact t2
    refine And.intro (fun z => ?_) (fun z => ⟨(show (0 : Int32) &&& 1 = 0 by decide), h0 ?_⟩)
    · have z : v = xtchr 1 (b + x).toNatClampNeg := z
      rw [hv, ec, nI_eq (by omega) (by omega)] at z
      refine ih (j + 1) (by omega) (fun i hi => ?_) _ (show x + 1 = nI (j + 1) by rw [hx, nI_1])
      rcases Nat.lt_or_ge i j with q | q
      · exact hall i q
      · have : i = j := by omega
        subst this
        exact z
    · have z : ¬ v = xtchr 1 (b + x).toNatClampNeg := z
      rw [hv, ec, nI_eq (by omega) (by omega)] at z
      cases hb : sIsB f p w m with
      | false => rfl
      | true => exact absurd ((sIsB_iff.mp hb).2 j (by omega)) z
theorem cl_sp1 (hF : clF f n I) (hG : rfG f n) {p m fr : Nat} (hp : p + f p < n) (hfm : fr + m ≤ 5) {w : Nat → Nat} (hw : ∀ i, i < m → w i = sWd [104, 101, 97, 100, 115] (fr + i)) {a b mm : Int32} (ha : a = nI p) (hb : b = nI fr) (hm : mm = nI m) (h1 : sIsB f p w m = true → Q (some (.int 1)) (shG X T, I, L, F)) (h0 : sIsB f p w m = false → Q (some (.int 0)) (shG X T, I, L, F)) : XM xE0 (d + 1) 136 [.ref 1, .int a, .ref 1000001, .int b, .int mm] (shG X T, I, L, F) Q := by
  have hn := hG.2
  have hfp := hG.1 p
  have ne : ¬ f p = m → sIsB f p w m = false := fun z => by
    cases hb : sIsB f p w m with
    | false => rfl
    | true => exact absurd (sIsB_iff.mp hb).1 z
  refine XC.block [30] 60 ?_
  refine cl_at hF hG (p := p) (by omega) ha (fun _ v hv => ?_) (fun z => absurd z (by omega))
  refine And.intro (fun z => ⟨(show (0 : Int32) &&& 1 = 0 by decide), h0 (ne ?_)⟩) (fun z => ?_)
  · have z : ¬ v = mm := z
    rw [hv, hm, nI_eq (by omega) (by omega)] at z
    exact z
  · have z : ¬ ¬ v = mm := z
    have z := Classical.not_not.mp z
    rw [hv, hm, nI_eq (by omega) (by omega)] at z
    refine And.intro (fun y => absurd (show b < 0 from y) (by rw [hb]; exact nI_pos (by omega))) (fun _ => ?_)
    refine And.intro (fun _ => ?_) (fun y => absurd (show b + mm ≤ nI 5 by rw [hb, hm, nI_add]; exact nI_le (by omega) (by omega)) y)
    exact cl_spL1 hF hG hp z hfm hw ha hb hm h1 h0 m 0 (by omega) (fun i hi => absurd hi (by omega)) _ rfl
theorem cl_poL1 (hF : clF f n I) (hG : rfG f n) {k : Nat} (hk : k ≤ 24) (h9 : I 5 9 = nI k) (hP : ∀ j, j < k → clP1 f n I j) (hQ : Q (some (.int (rfO (sKf f n (sWd [104, 101, 97, 100, 115]) 5 k 0)))) (shG X T, I, L, F)) :
    ∀ (u j : Nat), j + u = k → sKf f n (sWd [104, 101, 97, 100, 115]) 5 k 0 = sKf f n (sWd [104, 101, 97, 100, 115]) 5 u j → ∀ x : Int32, x = nI j → XC xE0 (d + 2) xM_150 (2, [some (.ref 5), some (.ref 1000001), some (.int x)], [], (shG X T, I, L, F)) Q := by
  intro u
  induction u with
  | zero =>
    intro j hj he x hx
    refine XC.block [2] 60 ?_
    refine And.intro (fun z => ⟨trivial, ?_⟩) (fun z => absurd (show I 5 9 ≤ x by rw [h9, hx]; exact nI_le (by omega) (by omega)) z)
    rw [he] at hQ
    exact hQ
  | succ u ih =>
    intro j hj he x hx
    obtain ⟨p1, p2, p3, p4⟩ := hP j (by omega)
    have e6 : I 6 x.toNatClampNeg = nI (sKey f n j) := by rw [hx, nI_clamp (by omega)]; exact p1
    refine XC.block [2] 60 ?_
    refine And.intro (fun z => absurd (show I 5 9 ≤ x from z) (by rw [h9, hx]; exact nI_ge (by omega) (by omega))) (fun z => ?_)
    refine And.intro (rf_in hx (by omega) (by decide)) ?_
    refine cl_sp1 hF hG (p := sKey f n j) (m := 5) (fr := 0) p4 (by decide) (w := sWd [104, 101, 97, 100, 115]) (fun i _ => by rw [Nat.zero_add]) e6 rfl rfl (fun h => ?_) (fun h => ?_)
    · refine And.intro (fun z => absurd (show (1 : Int32) = 0 from z) (by decide)) (fun _ => ⟨trivial, ?_⟩)
      have e : sKf f n (sWd [104, 101, 97, 100, 115]) 5 (u + 1) j = some j := by
        show (bif sIsB f (sKey f n j) (sWd [104, 101, 97, 100, 115]) 5 then _ else _) = _
        rw [h]; rfl
      rw [he, e] at hQ
      rw [hx]
      exact hQ
    · refine And.intro (fun _ => ?_) (fun z => absurd (show (0 : Int32) = 0 from rfl) z)
      have e : sKf f n (sWd [104, 101, 97, 100, 115]) 5 (u + 1) j = sKf f n (sWd [104, 101, 97, 100, 115]) 5 u (j + 1) := by
        show (bif sIsB f (sKey f n j) (sWd [104, 101, 97, 100, 115]) 5 then _ else _) = _
        rw [h]; rfl
      exact ih (j + 1) (by omega) (he.trans e) _ (show x + 1 = nI (j + 1) by rw [hx, nI_1])
theorem cl_fk1 (hF : clF f n I) (hG : rfG f n) {k q t : Nat} (hk : k ≤ 24) (h9 : I 5 9 = nI k) (hP : ∀ j, j < k → clP1 f n I j) (hq : q < 14) (ht : t < 256) {qq tt : Int32} (hqq : qq = nI q) (htt : tt = nI t)
    (h1 : ∀ i, sKf f n (sWd [104, 101, 97, 100, 115]) 5 k 0 = some i → sTy f n i = t → Q (some (.int 1)) (shG X T, x2 I 15 q (nI (sVa f n i)), L, F))
    (h2 : ∀ i, sKf f n (sWd [104, 101, 97, 100, 115]) 5 k 0 = some i → ¬ sTy f n i = t → Q (some (.int 0)) (shG X T, x2 I 15 q (nI (sVa f n i)), L, F))
    (h0 : sKf f n (sWd [104, 101, 97, 100, 115]) 5 k 0 = none → Q (some (.int 0)) (shG X T, x2 I 15 q (-1), L, F)) : XM xE0 (d + 3) 90 [.ref 14, .int qq, .ref 1000001, .int tt] (shG X T, I, L, F) Q := by
  have ek : qq.toNatClampNeg = q := by rw [hqq, nI_clamp (by omega)]
  rw [← ek] at h1 h2 h0
  refine XC.block [10] 60 ?_
  refine XC.block [2] 60 ?_
  refine cl_poL1 hF hG hk h9 hP ?_ k 0 (by omega) rfl _ rfl
  have hlt := sKf_lt (f := f) (n := n) (w := sWd [104, 101, 97, 100, 115]) (m := 5) k 0
  have go : ∀ o : Option Nat, o = sKf f n (sWd [104, 101, 97, 100, 115]) 5 k 0 → XC xE0 (d + 3) xM_90 (10, [some (.ref 14), some (.int qq), some (.ref 1000001), some (.int tt), some (.int (rfO o))], [], (shG X T, I, L, F)) Q := by
    intro o ho
    rw [← ho] at h1 h2 h0 hlt
    match o, ho with
    | none, _ =>
      refine XC.block [] 60 ?_
      refine And.intro (fun z => absurd (show (0 : Int32) ≤ -1 from z) (by decide)) (fun _ => ?_)
      refine And.intro (rf_in hqq (by omega) (by decide)) ?_
      exact And.intro (fun _ => ⟨(show (0 : Int32) &&& 1 = 0 by decide), h0 rfl⟩) (fun z => absurd (show (-1 : Int32) < 0 by decide) z)
    | some i, _ =>
      have hi : i < k := by have := hlt i rfl; omega
      obtain ⟨p1, p2, p3, p4⟩ := hP i hi
      have ei : (nI i).toNatClampNeg = i := nI_clamp (by omega)
      have hty : sTy f n i < 256 := hG.1 _
      have g8 : I 8 (nI i).toNatClampNeg = I 8 i := by rw [ei]
      have h1 : sTy f n i = t → Q (some (.int 1)) (shG X T, x2 I 15 qq.toNatClampNeg (I 8 (nI i).toNatClampNeg), L, F) := fun y => by
        have := h1 i rfl y
        rw [← p3, ← g8] at this
        exact this
      have h2 : ¬ sTy f n i = t → Q (some (.int 0)) (shG X T, x2 I 15 qq.toNatClampNeg (I 8 (nI i).toNatClampNeg), L, F) := fun y => by
        have := h2 i rfl y
        rw [← p3, ← g8] at this
        exact this
      refine XC.block [] 60 ?_
      refine And.intro (fun _ => ?_) (fun z => absurd (show 0 ≤ nI i from nI_pos' (by omega)) z)
      refine And.intro (rf_in (i := nI i) rfl (by omega) (by decide)) ?_
      refine And.intro (rf_in hqq (by omega) (by decide)) ?_
      refine And.intro (fun z => absurd (show nI i < 0 from z) (nI_pos (by omega))) (fun _ => ?_)
      refine And.intro (rf_in (i := nI i) rfl (by omega) (by decide)) ?_
      refine And.intro (fun z => ⟨(show (0 : Int32) &&& 1 = 0 by decide), h2 ?_⟩) (fun z => ⟨(show (1 : Int32) &&& 1 = 1 by decide), h1 ?_⟩)
      · have z : ¬ I 7 (nI i).toNatClampNeg = tt := z
        rw [ei, p2, htt, nI_eq (by omega) (by omega)] at z
        exact z
      · have z : ¬ ¬ I 7 (nI i).toNatClampNeg = tt := z
        have z := Classical.not_not.mp z
        rw [ei, p2, htt, nI_eq (by omega) (by omega)] at z
        exact z
  exact go _ rfl
theorem cl_tx2 : ∀ j, j < 2 → xtchr 2 j = nI (sWd [107, 118] j) ∧ sWd [107, 118] j < 256 := by decide +kernel
theorem cl_spL2 (hF : clF f n I) (hG : rfG f n) {p m fr : Nat} (hp : p + f p < n) (hpm : f p = m) (hfm : fr + m ≤ 2) {w : Nat → Nat} (hw : ∀ i, i < m → w i = sWd [107, 118] (fr + i)) {a b mm : Int32} (ha : a = nI p) (hb : b = nI fr) (hm : mm = nI m) (h1 : sIsB f p w m = true → Q (some (.int 1)) (shG X T, I, L, F)) (h0 : sIsB f p w m = false → Q (some (.int 0)) (shG X T, I, L, F)) :
    ∀ (k j : Nat), j + k = m → (∀ i, i < j → f (p + 1 + i) = w i) → ∀ x : Int32, x = nI j → XC xE0 (d + 1) xM_136 (30, [some (.ref 1), some (.int a), some (.ref 1000002), some (.int b), some (.int mm), some (.int x)], [], (shG X T, I, L, F)) Q := by
  have hn := hG.2
  intro k
  induction k with
  | zero =>
    intro j hj hall x hx
    refine XC.block [30] 60 ?_
    exact And.intro (fun z => ⟨(show (1 : Int32) &&& 1 = 1 by decide), h1 (sIsB_iff.mpr ⟨hpm, fun i hi => hall i (by omega)⟩)⟩) (fun z => absurd (show mm ≤ x by rw [hm, hx]; exact nI_le (by omega) (by omega)) z)
  | succ k ih =>
    intro j hj hall x hx
    have e1 : a + 1 + x = nI (p + 1 + j) := by rw [ha, hx, nI_1, nI_add]
    have e2 : b + x = nI (fr + j) := by rw [hb, hx, nI_add]
    have g1 := hG.1 (p + 1 + j)
    obtain ⟨t1, t2⟩ := cl_tx2 (fr + j) (by omega)
    refine XC.block [30] 60 ?_
    refine And.intro (fun z => absurd (show mm ≤ x from z) (by rw [hm, hx]; exact nI_ge (by omega) (by omega))) (fun z => ?_)
    refine cl_at hF hG (p := p + 1 + j) (by omega) e1 (fun _ v hv => ?_) (fun z => absurd z (by omega))
    refine And.intro (rf_in (N := 2) e2 (by omega) (by decide)) ?_
    have ec : xtchr 2 (b + x).toNatClampNeg = nI (w j) := by
      rw [e2, nI_clamp (by omega), t1, hw j (by omega)]
    have hw2 : w j < 256 := by rw [hw j (by omega)]; exact t2
    refine And.intro (fun z => ?_) (fun z => ⟨(show (0 : Int32) &&& 1 = 0 by decide), h0 ?_⟩)
    · have z : v = xtchr 2 (b + x).toNatClampNeg := z
      rw [hv, ec, nI_eq (by omega) (by omega)] at z
      refine ih (j + 1) (by omega) (fun i hi => ?_) _ (show x + 1 = nI (j + 1) by rw [hx, nI_1])
      rcases Nat.lt_or_ge i j with q | q
      · exact hall i q
      · have : i = j := by omega
        subst this
        exact z
    · have z : ¬ v = xtchr 2 (b + x).toNatClampNeg := z
      rw [hv, ec, nI_eq (by omega) (by omega)] at z
      cases hb : sIsB f p w m with
      | false => rfl
      | true => exact absurd ((sIsB_iff.mp hb).2 j (by omega)) z
theorem cl_sp2 (hF : clF f n I) (hG : rfG f n) {p m fr : Nat} (hp : p + f p < n) (hfm : fr + m ≤ 2) {w : Nat → Nat} (hw : ∀ i, i < m → w i = sWd [107, 118] (fr + i)) {a b mm : Int32} (ha : a = nI p) (hb : b = nI fr) (hm : mm = nI m) (h1 : sIsB f p w m = true → Q (some (.int 1)) (shG X T, I, L, F)) (h0 : sIsB f p w m = false → Q (some (.int 0)) (shG X T, I, L, F)) : XM xE0 (d + 1) 136 [.ref 1, .int a, .ref 1000002, .int b, .int mm] (shG X T, I, L, F) Q := by
  have hn := hG.2
  have hfp := hG.1 p
  have ne : ¬ f p = m → sIsB f p w m = false := fun z => by
    cases hb : sIsB f p w m with
    | false => rfl
    | true => exact absurd (sIsB_iff.mp hb).1 z
  refine XC.block [30] 60 ?_
  refine cl_at hF hG (p := p) (by omega) ha (fun _ v hv => ?_) (fun z => absurd z (by omega))
  refine And.intro (fun z => ⟨(show (0 : Int32) &&& 1 = 0 by decide), h0 (ne ?_)⟩) (fun z => ?_)
  · have z : ¬ v = mm := z
    rw [hv, hm, nI_eq (by omega) (by omega)] at z
    exact z
  · have z : ¬ ¬ v = mm := z
    have z := Classical.not_not.mp z
    rw [hv, hm, nI_eq (by omega) (by omega)] at z
    refine And.intro (fun y => absurd (show b < 0 from y) (by rw [hb]; exact nI_pos (by omega))) (fun _ => ?_)
    refine And.intro (fun _ => ?_) (fun y => absurd (show b + mm ≤ nI 2 by rw [hb, hm, nI_add]; exact nI_le (by omega) (by omega)) y)
    exact cl_spL2 hF hG hp z hfm hw ha hb hm h1 h0 m 0 (by omega) (fun i hi => absurd hi (by omega)) _ rfl
theorem cl_poL2 (hF : clF f n I) (hG : rfG f n) {k : Nat} (hk : k ≤ 24) (h9 : I 5 9 = nI k) (hP : ∀ j, j < k → clP1 f n I j) (hQ : Q (some (.int (rfO (sKf f n (sWd [107, 118]) 2 k 0)))) (shG X T, I, L, F)) :
    ∀ (u j : Nat), j + u = k → sKf f n (sWd [107, 118]) 2 k 0 = sKf f n (sWd [107, 118]) 2 u j → ∀ x : Int32, x = nI j → XC xE0 (d + 2) xM_150 (2, [some (.ref 5), some (.ref 1000002), some (.int x)], [], (shG X T, I, L, F)) Q := by
  intro u
  induction u with
  | zero =>
    intro j hj he x hx
    refine XC.block [2] 60 ?_
    refine And.intro (fun z => ⟨trivial, ?_⟩) (fun z => absurd (show I 5 9 ≤ x by rw [h9, hx]; exact nI_le (by omega) (by omega)) z)
    rw [he] at hQ
    exact hQ
  | succ u ih =>
    intro j hj he x hx
    obtain ⟨p1, p2, p3, p4⟩ := hP j (by omega)
    have e6 : I 6 x.toNatClampNeg = nI (sKey f n j) := by rw [hx, nI_clamp (by omega)]; exact p1
    refine XC.block [2] 60 ?_
    refine And.intro (fun z => absurd (show I 5 9 ≤ x from z) (by rw [h9, hx]; exact nI_ge (by omega) (by omega))) (fun z => ?_)
    refine And.intro (rf_in hx (by omega) (by decide)) ?_
    refine cl_sp2 hF hG (p := sKey f n j) (m := 2) (fr := 0) p4 (by decide) (w := sWd [107, 118]) (fun i _ => by rw [Nat.zero_add]) e6 rfl rfl (fun h => ?_) (fun h => ?_)
    · refine And.intro (fun z => absurd (show (1 : Int32) = 0 from z) (by decide)) (fun _ => ⟨trivial, ?_⟩)
      have e : sKf f n (sWd [107, 118]) 2 (u + 1) j = some j := by
        show (bif sIsB f (sKey f n j) (sWd [107, 118]) 2 then _ else _) = _
        rw [h]; rfl
      rw [he, e] at hQ
      rw [hx]
      exact hQ
    · refine And.intro (fun _ => ?_) (fun z => absurd (show (0 : Int32) = 0 from rfl) z)
      have e : sKf f n (sWd [107, 118]) 2 (u + 1) j = sKf f n (sWd [107, 118]) 2 u (j + 1) := by
        show (bif sIsB f (sKey f n j) (sWd [107, 118]) 2 then _ else _) = _
        rw [h]; rfl
      exact ih (j + 1) (by omega) (he.trans e) _ (show x + 1 = nI (j + 1) by rw [hx, nI_1])
theorem cl_fk2 (hF : clF f n I) (hG : rfG f n) {k q t : Nat} (hk : k ≤ 24) (h9 : I 5 9 = nI k) (hP : ∀ j, j < k → clP1 f n I j) (hq : q < 14) (ht : t < 256) {qq tt : Int32} (hqq : qq = nI q) (htt : tt = nI t)
    (h1 : ∀ i, sKf f n (sWd [107, 118]) 2 k 0 = some i → sTy f n i = t → Q (some (.int 1)) (shG X T, x2 I 15 q (nI (sVa f n i)), L, F))
    (h2 : ∀ i, sKf f n (sWd [107, 118]) 2 k 0 = some i → ¬ sTy f n i = t → Q (some (.int 0)) (shG X T, x2 I 15 q (nI (sVa f n i)), L, F))
    (h0 : sKf f n (sWd [107, 118]) 2 k 0 = none → Q (some (.int 0)) (shG X T, x2 I 15 q (-1), L, F)) : XM xE0 (d + 3) 90 [.ref 14, .int qq, .ref 1000002, .int tt] (shG X T, I, L, F) Q := by
  have ek : qq.toNatClampNeg = q := by rw [hqq, nI_clamp (by omega)]
  rw [← ek] at h1 h2 h0
  refine XC.block [10] 60 ?_
  refine XC.block [2] 60 ?_
  refine cl_poL2 hF hG hk h9 hP ?_ k 0 (by omega) rfl _ rfl
  have hlt := sKf_lt (f := f) (n := n) (w := sWd [107, 118]) (m := 2) k 0
  have go : ∀ o : Option Nat, o = sKf f n (sWd [107, 118]) 2 k 0 → XC xE0 (d + 3) xM_90 (10, [some (.ref 14), some (.int qq), some (.ref 1000002), some (.int tt), some (.int (rfO o))], [], (shG X T, I, L, F)) Q := by
    intro o ho
    rw [← ho] at h1 h2 h0 hlt
    match o, ho with
    | none, _ =>
      refine XC.block [] 60 ?_
      refine And.intro (fun z => absurd (show (0 : Int32) ≤ -1 from z) (by decide)) (fun _ => ?_)
      refine And.intro (rf_in hqq (by omega) (by decide)) ?_
      exact And.intro (fun _ => ⟨(show (0 : Int32) &&& 1 = 0 by decide), h0 rfl⟩) (fun z => absurd (show (-1 : Int32) < 0 by decide) z)
    | some i, _ =>
      have hi : i < k := by have := hlt i rfl; omega
      obtain ⟨p1, p2, p3, p4⟩ := hP i hi
      have ei : (nI i).toNatClampNeg = i := nI_clamp (by omega)
      have hty : sTy f n i < 256 := hG.1 _
      have g8 : I 8 (nI i).toNatClampNeg = I 8 i := by rw [ei]
      have h1 : sTy f n i = t → Q (some (.int 1)) (shG X T, x2 I 15 qq.toNatClampNeg (I 8 (nI i).toNatClampNeg), L, F) := fun y => by
        have := h1 i rfl y
        rw [← p3, ← g8] at this
        exact this
      have h2 : ¬ sTy f n i = t → Q (some (.int 0)) (shG X T, x2 I 15 qq.toNatClampNeg (I 8 (nI i).toNatClampNeg), L, F) := fun y => by
        have := h2 i rfl y
        rw [← p3, ← g8] at this
        exact this
      refine XC.block [] 60 ?_
      refine And.intro (fun _ => ?_) (fun z => absurd (show 0 ≤ nI i from nI_pos' (by omega)) z)
      refine And.intro (rf_in (i := nI i) rfl (by omega) (by decide)) ?_
      refine And.intro (rf_in hqq (by omega) (by decide)) ?_
      refine And.intro (fun z => absurd (show nI i < 0 from z) (nI_pos (by omega))) (fun _ => ?_)
      refine And.intro (rf_in (i := nI i) rfl (by omega) (by decide)) ?_
      refine And.intro (fun z => ⟨(show (0 : Int32) &&& 1 = 0 by decide), h2 ?_⟩) (fun z => ⟨(show (1 : Int32) &&& 1 = 1 by decide), h1 ?_⟩)
      · have z : ¬ I 7 (nI i).toNatClampNeg = tt := z
        rw [ei, p2, htt, nI_eq (by omega) (by omega)] at z
        exact z
      · have z : ¬ ¬ I 7 (nI i).toNatClampNeg = tt := z
        have z := Classical.not_not.mp z
        rw [ei, p2, htt, nI_eq (by omega) (by omega)] at z
        exact z
  exact go _ rfl
theorem cl_tx3 : ∀ j, j < 6 → xtchr 3 j = nI (sWd [108, 97, 121, 101, 114, 115] j) ∧ sWd [108, 97, 121, 101, 114, 115] j < 256 := by decide +kernel
theorem cl_spL3 (hF : clF f n I) (hG : rfG f n) {p m fr : Nat} (hp : p + f p < n) (hpm : f p = m) (hfm : fr + m ≤ 6) {w : Nat → Nat} (hw : ∀ i, i < m → w i = sWd [108, 97, 121, 101, 114, 115] (fr + i)) {a b mm : Int32} (ha : a = nI p) (hb : b = nI fr) (hm : mm = nI m) (h1 : sIsB f p w m = true → Q (some (.int 1)) (shG X T, I, L, F)) (h0 : sIsB f p w m = false → Q (some (.int 0)) (shG X T, I, L, F)) :
    ∀ (k j : Nat), j + k = m → (∀ i, i < j → f (p + 1 + i) = w i) → ∀ x : Int32, x = nI j → XC xE0 (d + 1) xM_136 (30, [some (.ref 1), some (.int a), some (.ref 1000003), some (.int b), some (.int mm), some (.int x)], [], (shG X T, I, L, F)) Q := by
  have hn := hG.2
  intro k
  induction k with
  | zero =>
    intro j hj hall x hx
    refine XC.block [30] 60 ?_
    exact And.intro (fun z => ⟨(show (1 : Int32) &&& 1 = 1 by decide), h1 (sIsB_iff.mpr ⟨hpm, fun i hi => hall i (by omega)⟩)⟩) (fun z => absurd (show mm ≤ x by rw [hm, hx]; exact nI_le (by omega) (by omega)) z)
  | succ k ih =>
    intro j hj hall x hx
    have e1 : a + 1 + x = nI (p + 1 + j) := by rw [ha, hx, nI_1, nI_add]
    have e2 : b + x = nI (fr + j) := by rw [hb, hx, nI_add]
    have g1 := hG.1 (p + 1 + j)
    obtain ⟨t1, t2⟩ := cl_tx3 (fr + j) (by omega)
    refine XC.block [30] 60 ?_
    refine And.intro (fun z => absurd (show mm ≤ x from z) (by rw [hm, hx]; exact nI_ge (by omega) (by omega))) (fun z => ?_)
    refine cl_at hF hG (p := p + 1 + j) (by omega) e1 (fun _ v hv => ?_) (fun z => absurd z (by omega))
    refine And.intro (rf_in (N := 6) e2 (by omega) (by decide)) ?_
    have ec : xtchr 3 (b + x).toNatClampNeg = nI (w j) := by
      rw [e2, nI_clamp (by omega), t1, hw j (by omega)]
    have hw2 : w j < 256 := by rw [hw j (by omega)]; exact t2
    refine And.intro (fun z => ?_) (fun z => ⟨(show (0 : Int32) &&& 1 = 0 by decide), h0 ?_⟩)
    · have z : v = xtchr 3 (b + x).toNatClampNeg := z
      rw [hv, ec, nI_eq (by omega) (by omega)] at z
      refine ih (j + 1) (by omega) (fun i hi => ?_) _ (show x + 1 = nI (j + 1) by rw [hx, nI_1])
      rcases Nat.lt_or_ge i j with q | q
      · exact hall i q
      · have : i = j := by omega
        subst this
        exact z
    · have z : ¬ v = xtchr 3 (b + x).toNatClampNeg := z
      rw [hv, ec, nI_eq (by omega) (by omega)] at z
      cases hb : sIsB f p w m with
      | false => rfl
      | true => exact absurd ((sIsB_iff.mp hb).2 j (by omega)) z
theorem cl_sp3 (hF : clF f n I) (hG : rfG f n) {p m fr : Nat} (hp : p + f p < n) (hfm : fr + m ≤ 6) {w : Nat → Nat} (hw : ∀ i, i < m → w i = sWd [108, 97, 121, 101, 114, 115] (fr + i)) {a b mm : Int32} (ha : a = nI p) (hb : b = nI fr) (hm : mm = nI m) (h1 : sIsB f p w m = true → Q (some (.int 1)) (shG X T, I, L, F)) (h0 : sIsB f p w m = false → Q (some (.int 0)) (shG X T, I, L, F)) : XM xE0 (d + 1) 136 [.ref 1, .int a, .ref 1000003, .int b, .int mm] (shG X T, I, L, F) Q := by
  have hn := hG.2
  have hfp := hG.1 p
  have ne : ¬ f p = m → sIsB f p w m = false := fun z => by
    cases hb : sIsB f p w m with
    | false => rfl
    | true => exact absurd (sIsB_iff.mp hb).1 z
  refine XC.block [30] 60 ?_
  refine cl_at hF hG (p := p) (by omega) ha (fun _ v hv => ?_) (fun z => absurd z (by omega))
  refine And.intro (fun z => ⟨(show (0 : Int32) &&& 1 = 0 by decide), h0 (ne ?_)⟩) (fun z => ?_)
  · have z : ¬ v = mm := z
    rw [hv, hm, nI_eq (by omega) (by omega)] at z
    exact z
  · have z : ¬ ¬ v = mm := z
    have z := Classical.not_not.mp z
    rw [hv, hm, nI_eq (by omega) (by omega)] at z
    refine And.intro (fun y => absurd (show b < 0 from y) (by rw [hb]; exact nI_pos (by omega))) (fun _ => ?_)
    refine And.intro (fun _ => ?_) (fun y => absurd (show b + mm ≤ nI 6 by rw [hb, hm, nI_add]; exact nI_le (by omega) (by omega)) y)
    exact cl_spL3 hF hG hp z hfm hw ha hb hm h1 h0 m 0 (by omega) (fun i hi => absurd hi (by omega)) _ rfl
theorem cl_poL3 (hF : clF f n I) (hG : rfG f n) {k : Nat} (hk : k ≤ 24) (h9 : I 5 9 = nI k) (hP : ∀ j, j < k → clP1 f n I j) (hQ : Q (some (.int (rfO (sKf f n (sWd [108, 97, 121, 101, 114, 115]) 6 k 0)))) (shG X T, I, L, F)) :
    ∀ (u j : Nat), j + u = k → sKf f n (sWd [108, 97, 121, 101, 114, 115]) 6 k 0 = sKf f n (sWd [108, 97, 121, 101, 114, 115]) 6 u j → ∀ x : Int32, x = nI j → XC xE0 (d + 2) xM_150 (2, [some (.ref 5), some (.ref 1000003), some (.int x)], [], (shG X T, I, L, F)) Q := by
  intro u
  induction u with
  | zero =>
    intro j hj he x hx
    refine XC.block [2] 60 ?_
    refine And.intro (fun z => ⟨trivial, ?_⟩) (fun z => absurd (show I 5 9 ≤ x by rw [h9, hx]; exact nI_le (by omega) (by omega)) z)
    rw [he] at hQ
    exact hQ
  | succ u ih =>
    intro j hj he x hx
    obtain ⟨p1, p2, p3, p4⟩ := hP j (by omega)
    have e6 : I 6 x.toNatClampNeg = nI (sKey f n j) := by rw [hx, nI_clamp (by omega)]; exact p1
    refine XC.block [2] 60 ?_
    refine And.intro (fun z => absurd (show I 5 9 ≤ x from z) (by rw [h9, hx]; exact nI_ge (by omega) (by omega))) (fun z => ?_)
    refine And.intro (rf_in hx (by omega) (by decide)) ?_
    refine cl_sp3 hF hG (p := sKey f n j) (m := 6) (fr := 0) p4 (by decide) (w := sWd [108, 97, 121, 101, 114, 115]) (fun i _ => by rw [Nat.zero_add]) e6 rfl rfl (fun h => ?_) (fun h => ?_)
    · refine And.intro (fun z => absurd (show (1 : Int32) = 0 from z) (by decide)) (fun _ => ⟨trivial, ?_⟩)
      have e : sKf f n (sWd [108, 97, 121, 101, 114, 115]) 6 (u + 1) j = some j := by
        show (bif sIsB f (sKey f n j) (sWd [108, 97, 121, 101, 114, 115]) 6 then _ else _) = _
        rw [h]; rfl
      rw [he, e] at hQ
      rw [hx]
      exact hQ
    · refine And.intro (fun _ => ?_) (fun z => absurd (show (0 : Int32) = 0 from rfl) z)
      have e : sKf f n (sWd [108, 97, 121, 101, 114, 115]) 6 (u + 1) j = sKf f n (sWd [108, 97, 121, 101, 114, 115]) 6 u (j + 1) := by
        show (bif sIsB f (sKey f n j) (sWd [108, 97, 121, 101, 114, 115]) 6 then _ else _) = _
        rw [h]; rfl
      exact ih (j + 1) (by omega) (he.trans e) _ (show x + 1 = nI (j + 1) by rw [hx, nI_1])
theorem cl_fk3 (hF : clF f n I) (hG : rfG f n) {k q t : Nat} (hk : k ≤ 24) (h9 : I 5 9 = nI k) (hP : ∀ j, j < k → clP1 f n I j) (hq : q < 14) (ht : t < 256) {qq tt : Int32} (hqq : qq = nI q) (htt : tt = nI t)
    (h1 : ∀ i, sKf f n (sWd [108, 97, 121, 101, 114, 115]) 6 k 0 = some i → sTy f n i = t → Q (some (.int 1)) (shG X T, x2 I 15 q (nI (sVa f n i)), L, F))
    (h2 : ∀ i, sKf f n (sWd [108, 97, 121, 101, 114, 115]) 6 k 0 = some i → ¬ sTy f n i = t → Q (some (.int 0)) (shG X T, x2 I 15 q (nI (sVa f n i)), L, F))
    (h0 : sKf f n (sWd [108, 97, 121, 101, 114, 115]) 6 k 0 = none → Q (some (.int 0)) (shG X T, x2 I 15 q (-1), L, F)) : XM xE0 (d + 3) 90 [.ref 14, .int qq, .ref 1000003, .int tt] (shG X T, I, L, F) Q := by
  have ek : qq.toNatClampNeg = q := by rw [hqq, nI_clamp (by omega)]
  rw [← ek] at h1 h2 h0
  refine XC.block [10] 60 ?_
  refine XC.block [2] 60 ?_
  refine cl_poL3 hF hG hk h9 hP ?_ k 0 (by omega) rfl _ rfl
  have hlt := sKf_lt (f := f) (n := n) (w := sWd [108, 97, 121, 101, 114, 115]) (m := 6) k 0
  have go : ∀ o : Option Nat, o = sKf f n (sWd [108, 97, 121, 101, 114, 115]) 6 k 0 → XC xE0 (d + 3) xM_90 (10, [some (.ref 14), some (.int qq), some (.ref 1000003), some (.int tt), some (.int (rfO o))], [], (shG X T, I, L, F)) Q := by
    intro o ho
    rw [← ho] at h1 h2 h0 hlt
    match o, ho with
    | none, _ =>
      refine XC.block [] 60 ?_
      refine And.intro (fun z => absurd (show (0 : Int32) ≤ -1 from z) (by decide)) (fun _ => ?_)
      refine And.intro (rf_in hqq (by omega) (by decide)) ?_
      exact And.intro (fun _ => ⟨(show (0 : Int32) &&& 1 = 0 by decide), h0 rfl⟩) (fun z => absurd (show (-1 : Int32) < 0 by decide) z)
    | some i, _ =>
      have hi : i < k := by have := hlt i rfl; omega
      obtain ⟨p1, p2, p3, p4⟩ := hP i hi
      have ei : (nI i).toNatClampNeg = i := nI_clamp (by omega)
      have hty : sTy f n i < 256 := hG.1 _
      have g8 : I 8 (nI i).toNatClampNeg = I 8 i := by rw [ei]
      have h1 : sTy f n i = t → Q (some (.int 1)) (shG X T, x2 I 15 qq.toNatClampNeg (I 8 (nI i).toNatClampNeg), L, F) := fun y => by
        have := h1 i rfl y
        rw [← p3, ← g8] at this
        exact this
      have h2 : ¬ sTy f n i = t → Q (some (.int 0)) (shG X T, x2 I 15 qq.toNatClampNeg (I 8 (nI i).toNatClampNeg), L, F) := fun y => by
        have := h2 i rfl y
        rw [← p3, ← g8] at this
        exact this
      refine XC.block [] 60 ?_
      refine And.intro (fun _ => ?_) (fun z => absurd (show 0 ≤ nI i from nI_pos' (by omega)) z)
      refine And.intro (rf_in (i := nI i) rfl (by omega) (by decide)) ?_
      refine And.intro (rf_in hqq (by omega) (by decide)) ?_
      refine And.intro (fun z => absurd (show nI i < 0 from z) (nI_pos (by omega))) (fun _ => ?_)
      refine And.intro (rf_in (i := nI i) rfl (by omega) (by decide)) ?_
      refine And.intro (fun z => ⟨(show (0 : Int32) &&& 1 = 0 by decide), h2 ?_⟩) (fun z => ⟨(show (1 : Int32) &&& 1 = 1 by decide), h1 ?_⟩)
      · have z : ¬ I 7 (nI i).toNatClampNeg = tt := z
        rw [ei, p2, htt, nI_eq (by omega) (by omega)] at z
        exact z
      · have z : ¬ ¬ I 7 (nI i).toNatClampNeg = tt := z
        have z := Classical.not_not.mp z
        rw [ei, p2, htt, nI_eq (by omega) (by omega)] at z
        exact z
  exact go _ rfl
theorem cl_tx4 : ∀ j, j < 3 → xtchr 4 j = nI (sWd [102, 102, 110] j) ∧ sWd [102, 102, 110] j < 256 := by decide +kernel
theorem cl_spL4 (hF : clF f n I) (hG : rfG f n) {p m fr : Nat} (hp : p + f p < n) (hpm : f p = m) (hfm : fr + m ≤ 3) {w : Nat → Nat} (hw : ∀ i, i < m → w i = sWd [102, 102, 110] (fr + i)) {a b mm : Int32} (ha : a = nI p) (hb : b = nI fr) (hm : mm = nI m) (h1 : sIsB f p w m = true → Q (some (.int 1)) (shG X T, I, L, F)) (h0 : sIsB f p w m = false → Q (some (.int 0)) (shG X T, I, L, F)) :
    ∀ (k j : Nat), j + k = m → (∀ i, i < j → f (p + 1 + i) = w i) → ∀ x : Int32, x = nI j → XC xE0 (d + 1) xM_136 (30, [some (.ref 1), some (.int a), some (.ref 1000004), some (.int b), some (.int mm), some (.int x)], [], (shG X T, I, L, F)) Q := by
  have hn := hG.2
  intro k
  induction k with
  | zero =>
    intro j hj hall x hx
    refine XC.block [30] 60 ?_
    exact And.intro (fun z => ⟨(show (1 : Int32) &&& 1 = 1 by decide), h1 (sIsB_iff.mpr ⟨hpm, fun i hi => hall i (by omega)⟩)⟩) (fun z => absurd (show mm ≤ x by rw [hm, hx]; exact nI_le (by omega) (by omega)) z)
  | succ k ih =>
    intro j hj hall x hx
    have e1 : a + 1 + x = nI (p + 1 + j) := by rw [ha, hx, nI_1, nI_add]
    have e2 : b + x = nI (fr + j) := by rw [hb, hx, nI_add]
    have g1 := hG.1 (p + 1 + j)
    obtain ⟨t1, t2⟩ := cl_tx4 (fr + j) (by omega)
    refine XC.block [30] 60 ?_
    refine And.intro (fun z => absurd (show mm ≤ x from z) (by rw [hm, hx]; exact nI_ge (by omega) (by omega))) (fun z => ?_)
    refine cl_at hF hG (p := p + 1 + j) (by omega) e1 (fun _ v hv => ?_) (fun z => absurd z (by omega))
    refine And.intro (rf_in (N := 3) e2 (by omega) (by decide)) ?_
    have ec : xtchr 4 (b + x).toNatClampNeg = nI (w j) := by
      rw [e2, nI_clamp (by omega), t1, hw j (by omega)]
    have hw2 : w j < 256 := by rw [hw j (by omega)]; exact t2
    refine And.intro (fun z => ?_) (fun z => ⟨(show (0 : Int32) &&& 1 = 0 by decide), h0 ?_⟩)
    · have z : v = xtchr 4 (b + x).toNatClampNeg := z
      rw [hv, ec, nI_eq (by omega) (by omega)] at z
      refine ih (j + 1) (by omega) (fun i hi => ?_) _ (show x + 1 = nI (j + 1) by rw [hx, nI_1])
      rcases Nat.lt_or_ge i j with q | q
      · exact hall i q
      · have : i = j := by omega
        subst this
        exact z
    · have z : ¬ v = xtchr 4 (b + x).toNatClampNeg := z
      rw [hv, ec, nI_eq (by omega) (by omega)] at z
      cases hb : sIsB f p w m with
      | false => rfl
      | true => exact absurd ((sIsB_iff.mp hb).2 j (by omega)) z
theorem cl_sp4 (hF : clF f n I) (hG : rfG f n) {p m fr : Nat} (hp : p + f p < n) (hfm : fr + m ≤ 3) {w : Nat → Nat} (hw : ∀ i, i < m → w i = sWd [102, 102, 110] (fr + i)) {a b mm : Int32} (ha : a = nI p) (hb : b = nI fr) (hm : mm = nI m) (h1 : sIsB f p w m = true → Q (some (.int 1)) (shG X T, I, L, F)) (h0 : sIsB f p w m = false → Q (some (.int 0)) (shG X T, I, L, F)) : XM xE0 (d + 1) 136 [.ref 1, .int a, .ref 1000004, .int b, .int mm] (shG X T, I, L, F) Q := by
  have hn := hG.2
  have hfp := hG.1 p
  have ne : ¬ f p = m → sIsB f p w m = false := fun z => by
    cases hb : sIsB f p w m with
    | false => rfl
    | true => exact absurd (sIsB_iff.mp hb).1 z
  refine XC.block [30] 60 ?_
  refine cl_at hF hG (p := p) (by omega) ha (fun _ v hv => ?_) (fun z => absurd z (by omega))
  refine And.intro (fun z => ⟨(show (0 : Int32) &&& 1 = 0 by decide), h0 (ne ?_)⟩) (fun z => ?_)
  · have z : ¬ v = mm := z
    rw [hv, hm, nI_eq (by omega) (by omega)] at z
    exact z
  · have z : ¬ ¬ v = mm := z
    have z := Classical.not_not.mp z
    rw [hv, hm, nI_eq (by omega) (by omega)] at z
    refine And.intro (fun y => absurd (show b < 0 from y) (by rw [hb]; exact nI_pos (by omega))) (fun _ => ?_)
    refine And.intro (fun _ => ?_) (fun y => absurd (show b + mm ≤ nI 3 by rw [hb, hm, nI_add]; exact nI_le (by omega) (by omega)) y)
    exact cl_spL4 hF hG hp z hfm hw ha hb hm h1 h0 m 0 (by omega) (fun i hi => absurd hi (by omega)) _ rfl
theorem cl_poL4 (hF : clF f n I) (hG : rfG f n) {k : Nat} (hk : k ≤ 24) (h9 : I 5 9 = nI k) (hP : ∀ j, j < k → clP1 f n I j) (hQ : Q (some (.int (rfO (sKf f n (sWd [102, 102, 110]) 3 k 0)))) (shG X T, I, L, F)) :
    ∀ (u j : Nat), j + u = k → sKf f n (sWd [102, 102, 110]) 3 k 0 = sKf f n (sWd [102, 102, 110]) 3 u j → ∀ x : Int32, x = nI j → XC xE0 (d + 2) xM_150 (2, [some (.ref 5), some (.ref 1000004), some (.int x)], [], (shG X T, I, L, F)) Q := by
  intro u
  induction u with
  | zero =>
    intro j hj he x hx
    refine XC.block [2] 60 ?_
    refine And.intro (fun z => ⟨trivial, ?_⟩) (fun z => absurd (show I 5 9 ≤ x by rw [h9, hx]; exact nI_le (by omega) (by omega)) z)
    rw [he] at hQ
    exact hQ
  | succ u ih =>
    intro j hj he x hx
    obtain ⟨p1, p2, p3, p4⟩ := hP j (by omega)
    have e6 : I 6 x.toNatClampNeg = nI (sKey f n j) := by rw [hx, nI_clamp (by omega)]; exact p1
    refine XC.block [2] 60 ?_
    refine And.intro (fun z => absurd (show I 5 9 ≤ x from z) (by rw [h9, hx]; exact nI_ge (by omega) (by omega))) (fun z => ?_)
    refine And.intro (rf_in hx (by omega) (by decide)) ?_
    refine cl_sp4 hF hG (p := sKey f n j) (m := 3) (fr := 0) p4 (by decide) (w := sWd [102, 102, 110]) (fun i _ => by rw [Nat.zero_add]) e6 rfl rfl (fun h => ?_) (fun h => ?_)
    · refine And.intro (fun z => absurd (show (1 : Int32) = 0 from z) (by decide)) (fun _ => ⟨trivial, ?_⟩)
      have e : sKf f n (sWd [102, 102, 110]) 3 (u + 1) j = some j := by
        show (bif sIsB f (sKey f n j) (sWd [102, 102, 110]) 3 then _ else _) = _
        rw [h]; rfl
      rw [he, e] at hQ
      rw [hx]
      exact hQ
    · refine And.intro (fun _ => ?_) (fun z => absurd (show (0 : Int32) = 0 from rfl) z)
      have e : sKf f n (sWd [102, 102, 110]) 3 (u + 1) j = sKf f n (sWd [102, 102, 110]) 3 u (j + 1) := by
        show (bif sIsB f (sKey f n j) (sWd [102, 102, 110]) 3 then _ else _) = _
        rw [h]; rfl
      exact ih (j + 1) (by omega) (he.trans e) _ (show x + 1 = nI (j + 1) by rw [hx, nI_1])
theorem cl_fk4 (hF : clF f n I) (hG : rfG f n) {k q t : Nat} (hk : k ≤ 24) (h9 : I 5 9 = nI k) (hP : ∀ j, j < k → clP1 f n I j) (hq : q < 14) (ht : t < 256) {qq tt : Int32} (hqq : qq = nI q) (htt : tt = nI t)
    (h1 : ∀ i, sKf f n (sWd [102, 102, 110]) 3 k 0 = some i → sTy f n i = t → Q (some (.int 1)) (shG X T, x2 I 15 q (nI (sVa f n i)), L, F))
    (h2 : ∀ i, sKf f n (sWd [102, 102, 110]) 3 k 0 = some i → ¬ sTy f n i = t → Q (some (.int 0)) (shG X T, x2 I 15 q (nI (sVa f n i)), L, F))
    (h0 : sKf f n (sWd [102, 102, 110]) 3 k 0 = none → Q (some (.int 0)) (shG X T, x2 I 15 q (-1), L, F)) : XM xE0 (d + 3) 90 [.ref 14, .int qq, .ref 1000004, .int tt] (shG X T, I, L, F) Q := by
  have ek : qq.toNatClampNeg = q := by rw [hqq, nI_clamp (by omega)]
  rw [← ek] at h1 h2 h0
  refine XC.block [10] 60 ?_
  refine XC.block [2] 60 ?_
  refine cl_poL4 hF hG hk h9 hP ?_ k 0 (by omega) rfl _ rfl
  have hlt := sKf_lt (f := f) (n := n) (w := sWd [102, 102, 110]) (m := 3) k 0
  have go : ∀ o : Option Nat, o = sKf f n (sWd [102, 102, 110]) 3 k 0 → XC xE0 (d + 3) xM_90 (10, [some (.ref 14), some (.int qq), some (.ref 1000004), some (.int tt), some (.int (rfO o))], [], (shG X T, I, L, F)) Q := by
    intro o ho
    rw [← ho] at h1 h2 h0 hlt
    match o, ho with
    | none, _ =>
      refine XC.block [] 60 ?_
      refine And.intro (fun z => absurd (show (0 : Int32) ≤ -1 from z) (by decide)) (fun _ => ?_)
      refine And.intro (rf_in hqq (by omega) (by decide)) ?_
      exact And.intro (fun _ => ⟨(show (0 : Int32) &&& 1 = 0 by decide), h0 rfl⟩) (fun z => absurd (show (-1 : Int32) < 0 by decide) z)
    | some i, _ =>
      have hi : i < k := by have := hlt i rfl; omega
      obtain ⟨p1, p2, p3, p4⟩ := hP i hi
      have ei : (nI i).toNatClampNeg = i := nI_clamp (by omega)
      have hty : sTy f n i < 256 := hG.1 _
      have g8 : I 8 (nI i).toNatClampNeg = I 8 i := by rw [ei]
      have h1 : sTy f n i = t → Q (some (.int 1)) (shG X T, x2 I 15 qq.toNatClampNeg (I 8 (nI i).toNatClampNeg), L, F) := fun y => by
        have := h1 i rfl y
        rw [← p3, ← g8] at this
        exact this
      have h2 : ¬ sTy f n i = t → Q (some (.int 0)) (shG X T, x2 I 15 qq.toNatClampNeg (I 8 (nI i).toNatClampNeg), L, F) := fun y => by
        have := h2 i rfl y
        rw [← p3, ← g8] at this
        exact this
      refine XC.block [] 60 ?_
      refine And.intro (fun _ => ?_) (fun z => absurd (show 0 ≤ nI i from nI_pos' (by omega)) z)
      refine And.intro (rf_in (i := nI i) rfl (by omega) (by decide)) ?_
      refine And.intro (rf_in hqq (by omega) (by decide)) ?_
      refine And.intro (fun z => absurd (show nI i < 0 from z) (nI_pos (by omega))) (fun _ => ?_)
      refine And.intro (rf_in (i := nI i) rfl (by omega) (by decide)) ?_
      refine And.intro (fun z => ⟨(show (0 : Int32) &&& 1 = 0 by decide), h2 ?_⟩) (fun z => ⟨(show (1 : Int32) &&& 1 = 1 by decide), h1 ?_⟩)
      · have z : ¬ I 7 (nI i).toNatClampNeg = tt := z
        rw [ei, p2, htt, nI_eq (by omega) (by omega)] at z
        exact z
      · have z : ¬ ¬ I 7 (nI i).toNatClampNeg = tt := z
        have z := Classical.not_not.mp z
        rw [ei, p2, htt, nI_eq (by omega) (by omega)] at z
        exact z
  exact go _ rfl
theorem cl_tx5 : ∀ j, j < 3 → xtchr 5 j = nI (sWd [99, 116, 120] j) ∧ sWd [99, 116, 120] j < 256 := by decide +kernel
theorem cl_spL5 (hF : clF f n I) (hG : rfG f n) {p m fr : Nat} (hp : p + f p < n) (hpm : f p = m) (hfm : fr + m ≤ 3) {w : Nat → Nat} (hw : ∀ i, i < m → w i = sWd [99, 116, 120] (fr + i)) {a b mm : Int32} (ha : a = nI p) (hb : b = nI fr) (hm : mm = nI m) (h1 : sIsB f p w m = true → Q (some (.int 1)) (shG X T, I, L, F)) (h0 : sIsB f p w m = false → Q (some (.int 0)) (shG X T, I, L, F)) :
    ∀ (k j : Nat), j + k = m → (∀ i, i < j → f (p + 1 + i) = w i) → ∀ x : Int32, x = nI j → XC xE0 (d + 1) xM_136 (30, [some (.ref 1), some (.int a), some (.ref 1000005), some (.int b), some (.int mm), some (.int x)], [], (shG X T, I, L, F)) Q := by
  have hn := hG.2
  intro k
  induction k with
  | zero =>
    intro j hj hall x hx
    refine XC.block [30] 60 ?_
    exact And.intro (fun z => ⟨(show (1 : Int32) &&& 1 = 1 by decide), h1 (sIsB_iff.mpr ⟨hpm, fun i hi => hall i (by omega)⟩)⟩) (fun z => absurd (show mm ≤ x by rw [hm, hx]; exact nI_le (by omega) (by omega)) z)
  | succ k ih =>
    intro j hj hall x hx
    have e1 : a + 1 + x = nI (p + 1 + j) := by rw [ha, hx, nI_1, nI_add]
    have e2 : b + x = nI (fr + j) := by rw [hb, hx, nI_add]
    have g1 := hG.1 (p + 1 + j)
    obtain ⟨t1, t2⟩ := cl_tx5 (fr + j) (by omega)
    refine XC.block [30] 60 ?_
    refine And.intro (fun z => absurd (show mm ≤ x from z) (by rw [hm, hx]; exact nI_ge (by omega) (by omega))) (fun z => ?_)
    refine cl_at hF hG (p := p + 1 + j) (by omega) e1 (fun _ v hv => ?_) (fun z => absurd z (by omega))
    refine And.intro (rf_in (N := 3) e2 (by omega) (by decide)) ?_
    have ec : xtchr 5 (b + x).toNatClampNeg = nI (w j) := by
      rw [e2, nI_clamp (by omega), t1, hw j (by omega)]
    have hw2 : w j < 256 := by rw [hw j (by omega)]; exact t2
    refine And.intro (fun z => ?_) (fun z => ⟨(show (0 : Int32) &&& 1 = 0 by decide), h0 ?_⟩)
    · have z : v = xtchr 5 (b + x).toNatClampNeg := z
      rw [hv, ec, nI_eq (by omega) (by omega)] at z
      refine ih (j + 1) (by omega) (fun i hi => ?_) _ (show x + 1 = nI (j + 1) by rw [hx, nI_1])
      rcases Nat.lt_or_ge i j with q | q
      · exact hall i q
      · have : i = j := by omega
        subst this
        exact z
    · have z : ¬ v = xtchr 5 (b + x).toNatClampNeg := z
      rw [hv, ec, nI_eq (by omega) (by omega)] at z
      cases hb : sIsB f p w m with
      | false => rfl
      | true => exact absurd ((sIsB_iff.mp hb).2 j (by omega)) z
theorem cl_sp5 (hF : clF f n I) (hG : rfG f n) {p m fr : Nat} (hp : p + f p < n) (hfm : fr + m ≤ 3) {w : Nat → Nat} (hw : ∀ i, i < m → w i = sWd [99, 116, 120] (fr + i)) {a b mm : Int32} (ha : a = nI p) (hb : b = nI fr) (hm : mm = nI m) (h1 : sIsB f p w m = true → Q (some (.int 1)) (shG X T, I, L, F)) (h0 : sIsB f p w m = false → Q (some (.int 0)) (shG X T, I, L, F)) : XM xE0 (d + 1) 136 [.ref 1, .int a, .ref 1000005, .int b, .int mm] (shG X T, I, L, F) Q := by
  have hn := hG.2
  have hfp := hG.1 p
  have ne : ¬ f p = m → sIsB f p w m = false := fun z => by
    cases hb : sIsB f p w m with
    | false => rfl
    | true => exact absurd (sIsB_iff.mp hb).1 z
  refine XC.block [30] 60 ?_
  refine cl_at hF hG (p := p) (by omega) ha (fun _ v hv => ?_) (fun z => absurd z (by omega))
  refine And.intro (fun z => ⟨(show (0 : Int32) &&& 1 = 0 by decide), h0 (ne ?_)⟩) (fun z => ?_)
  · have z : ¬ v = mm := z
    rw [hv, hm, nI_eq (by omega) (by omega)] at z
    exact z
  · have z : ¬ ¬ v = mm := z
    have z := Classical.not_not.mp z
    rw [hv, hm, nI_eq (by omega) (by omega)] at z
    refine And.intro (fun y => absurd (show b < 0 from y) (by rw [hb]; exact nI_pos (by omega))) (fun _ => ?_)
    refine And.intro (fun _ => ?_) (fun y => absurd (show b + mm ≤ nI 3 by rw [hb, hm, nI_add]; exact nI_le (by omega) (by omega)) y)
    exact cl_spL5 hF hG hp z hfm hw ha hb hm h1 h0 m 0 (by omega) (fun i hi => absurd hi (by omega)) _ rfl
theorem cl_poL5 (hF : clF f n I) (hG : rfG f n) {k : Nat} (hk : k ≤ 24) (h9 : I 5 9 = nI k) (hP : ∀ j, j < k → clP1 f n I j) (hQ : Q (some (.int (rfO (sKf f n (sWd [99, 116, 120]) 3 k 0)))) (shG X T, I, L, F)) :
    ∀ (u j : Nat), j + u = k → sKf f n (sWd [99, 116, 120]) 3 k 0 = sKf f n (sWd [99, 116, 120]) 3 u j → ∀ x : Int32, x = nI j → XC xE0 (d + 2) xM_150 (2, [some (.ref 5), some (.ref 1000005), some (.int x)], [], (shG X T, I, L, F)) Q := by
  intro u
  induction u with
  | zero =>
    intro j hj he x hx
    refine XC.block [2] 60 ?_
    refine And.intro (fun z => ⟨trivial, ?_⟩) (fun z => absurd (show I 5 9 ≤ x by rw [h9, hx]; exact nI_le (by omega) (by omega)) z)
    rw [he] at hQ
    exact hQ
  | succ u ih =>
    intro j hj he x hx
    obtain ⟨p1, p2, p3, p4⟩ := hP j (by omega)
    have e6 : I 6 x.toNatClampNeg = nI (sKey f n j) := by rw [hx, nI_clamp (by omega)]; exact p1
    refine XC.block [2] 60 ?_
    refine And.intro (fun z => absurd (show I 5 9 ≤ x from z) (by rw [h9, hx]; exact nI_ge (by omega) (by omega))) (fun z => ?_)
    refine And.intro (rf_in hx (by omega) (by decide)) ?_
    refine cl_sp5 hF hG (p := sKey f n j) (m := 3) (fr := 0) p4 (by decide) (w := sWd [99, 116, 120]) (fun i _ => by rw [Nat.zero_add]) e6 rfl rfl (fun h => ?_) (fun h => ?_)
    · refine And.intro (fun z => absurd (show (1 : Int32) = 0 from z) (by decide)) (fun _ => ⟨trivial, ?_⟩)
      have e : sKf f n (sWd [99, 116, 120]) 3 (u + 1) j = some j := by
        show (bif sIsB f (sKey f n j) (sWd [99, 116, 120]) 3 then _ else _) = _
        rw [h]; rfl
      rw [he, e] at hQ
      rw [hx]
      exact hQ
    · refine And.intro (fun _ => ?_) (fun z => absurd (show (0 : Int32) = 0 from rfl) z)
      have e : sKf f n (sWd [99, 116, 120]) 3 (u + 1) j = sKf f n (sWd [99, 116, 120]) 3 u (j + 1) := by
        show (bif sIsB f (sKey f n j) (sWd [99, 116, 120]) 3 then _ else _) = _
        rw [h]; rfl
      exact ih (j + 1) (by omega) (he.trans e) _ (show x + 1 = nI (j + 1) by rw [hx, nI_1])
theorem cl_fk5 (hF : clF f n I) (hG : rfG f n) {k q t : Nat} (hk : k ≤ 24) (h9 : I 5 9 = nI k) (hP : ∀ j, j < k → clP1 f n I j) (hq : q < 14) (ht : t < 256) {qq tt : Int32} (hqq : qq = nI q) (htt : tt = nI t)
    (h1 : ∀ i, sKf f n (sWd [99, 116, 120]) 3 k 0 = some i → sTy f n i = t → Q (some (.int 1)) (shG X T, x2 I 15 q (nI (sVa f n i)), L, F))
    (h2 : ∀ i, sKf f n (sWd [99, 116, 120]) 3 k 0 = some i → ¬ sTy f n i = t → Q (some (.int 0)) (shG X T, x2 I 15 q (nI (sVa f n i)), L, F))
    (h0 : sKf f n (sWd [99, 116, 120]) 3 k 0 = none → Q (some (.int 0)) (shG X T, x2 I 15 q (-1), L, F)) : XM xE0 (d + 3) 90 [.ref 14, .int qq, .ref 1000005, .int tt] (shG X T, I, L, F) Q := by
  have ek : qq.toNatClampNeg = q := by rw [hqq, nI_clamp (by omega)]
  rw [← ek] at h1 h2 h0
  refine XC.block [10] 60 ?_
  refine XC.block [2] 60 ?_
  refine cl_poL5 hF hG hk h9 hP ?_ k 0 (by omega) rfl _ rfl
  have hlt := sKf_lt (f := f) (n := n) (w := sWd [99, 116, 120]) (m := 3) k 0
  have go : ∀ o : Option Nat, o = sKf f n (sWd [99, 116, 120]) 3 k 0 → XC xE0 (d + 3) xM_90 (10, [some (.ref 14), some (.int qq), some (.ref 1000005), some (.int tt), some (.int (rfO o))], [], (shG X T, I, L, F)) Q := by
    intro o ho
    rw [← ho] at h1 h2 h0 hlt
    match o, ho with
    | none, _ =>
      refine XC.block [] 60 ?_
      refine And.intro (fun z => absurd (show (0 : Int32) ≤ -1 from z) (by decide)) (fun _ => ?_)
      refine And.intro (rf_in hqq (by omega) (by decide)) ?_
      exact And.intro (fun _ => ⟨(show (0 : Int32) &&& 1 = 0 by decide), h0 rfl⟩) (fun z => absurd (show (-1 : Int32) < 0 by decide) z)
    | some i, _ =>
      have hi : i < k := by have := hlt i rfl; omega
      obtain ⟨p1, p2, p3, p4⟩ := hP i hi
      have ei : (nI i).toNatClampNeg = i := nI_clamp (by omega)
      have hty : sTy f n i < 256 := hG.1 _
      have g8 : I 8 (nI i).toNatClampNeg = I 8 i := by rw [ei]
      have h1 : sTy f n i = t → Q (some (.int 1)) (shG X T, x2 I 15 qq.toNatClampNeg (I 8 (nI i).toNatClampNeg), L, F) := fun y => by
        have := h1 i rfl y
        rw [← p3, ← g8] at this
        exact this
      have h2 : ¬ sTy f n i = t → Q (some (.int 0)) (shG X T, x2 I 15 qq.toNatClampNeg (I 8 (nI i).toNatClampNeg), L, F) := fun y => by
        have := h2 i rfl y
        rw [← p3, ← g8] at this
        exact this
      refine XC.block [] 60 ?_
      refine And.intro (fun _ => ?_) (fun z => absurd (show 0 ≤ nI i from nI_pos' (by omega)) z)
      refine And.intro (rf_in (i := nI i) rfl (by omega) (by decide)) ?_
      refine And.intro (rf_in hqq (by omega) (by decide)) ?_
      refine And.intro (fun z => absurd (show nI i < 0 from z) (nI_pos (by omega))) (fun _ => ?_)
      refine And.intro (rf_in (i := nI i) rfl (by omega) (by decide)) ?_
      refine And.intro (fun z => ⟨(show (0 : Int32) &&& 1 = 0 by decide), h2 ?_⟩) (fun z => ⟨(show (1 : Int32) &&& 1 = 1 by decide), h1 ?_⟩)
      · have z : ¬ I 7 (nI i).toNatClampNeg = tt := z
        rw [ei, p2, htt, nI_eq (by omega) (by omega)] at z
        exact z
      · have z : ¬ ¬ I 7 (nI i).toNatClampNeg = tt := z
        have z := Classical.not_not.mp z
        rw [ei, p2, htt, nI_eq (by omega) (by omega)] at z
        exact z
  exact go _ rfl
theorem cl_tx6 : ∀ j, j < 3 → xtchr 6 j = nI (sWd [101, 112, 115] j) ∧ sWd [101, 112, 115] j < 256 := by decide +kernel
theorem cl_spL6 (hF : clF f n I) (hG : rfG f n) {p m fr : Nat} (hp : p + f p < n) (hpm : f p = m) (hfm : fr + m ≤ 3) {w : Nat → Nat} (hw : ∀ i, i < m → w i = sWd [101, 112, 115] (fr + i)) {a b mm : Int32} (ha : a = nI p) (hb : b = nI fr) (hm : mm = nI m) (h1 : sIsB f p w m = true → Q (some (.int 1)) (shG X T, I, L, F)) (h0 : sIsB f p w m = false → Q (some (.int 0)) (shG X T, I, L, F)) :
    ∀ (k j : Nat), j + k = m → (∀ i, i < j → f (p + 1 + i) = w i) → ∀ x : Int32, x = nI j → XC xE0 (d + 1) xM_136 (30, [some (.ref 1), some (.int a), some (.ref 1000006), some (.int b), some (.int mm), some (.int x)], [], (shG X T, I, L, F)) Q := by
  have hn := hG.2
  intro k
  induction k with
  | zero =>
    intro j hj hall x hx
    refine XC.block [30] 60 ?_
    exact And.intro (fun z => ⟨(show (1 : Int32) &&& 1 = 1 by decide), h1 (sIsB_iff.mpr ⟨hpm, fun i hi => hall i (by omega)⟩)⟩) (fun z => absurd (show mm ≤ x by rw [hm, hx]; exact nI_le (by omega) (by omega)) z)
  | succ k ih =>
    intro j hj hall x hx
    have e1 : a + 1 + x = nI (p + 1 + j) := by rw [ha, hx, nI_1, nI_add]
    have e2 : b + x = nI (fr + j) := by rw [hb, hx, nI_add]
    have g1 := hG.1 (p + 1 + j)
    obtain ⟨t1, t2⟩ := cl_tx6 (fr + j) (by omega)
    refine XC.block [30] 60 ?_
    refine And.intro (fun z => absurd (show mm ≤ x from z) (by rw [hm, hx]; exact nI_ge (by omega) (by omega))) (fun z => ?_)
    refine cl_at hF hG (p := p + 1 + j) (by omega) e1 (fun _ v hv => ?_) (fun z => absurd z (by omega))
    refine And.intro (rf_in (N := 3) e2 (by omega) (by decide)) ?_
    have ec : xtchr 6 (b + x).toNatClampNeg = nI (w j) := by
      rw [e2, nI_clamp (by omega), t1, hw j (by omega)]
    have hw2 : w j < 256 := by rw [hw j (by omega)]; exact t2
    refine And.intro (fun z => ?_) (fun z => ⟨(show (0 : Int32) &&& 1 = 0 by decide), h0 ?_⟩)
    · have z : v = xtchr 6 (b + x).toNatClampNeg := z
      rw [hv, ec, nI_eq (by omega) (by omega)] at z
      refine ih (j + 1) (by omega) (fun i hi => ?_) _ (show x + 1 = nI (j + 1) by rw [hx, nI_1])
      rcases Nat.lt_or_ge i j with q | q
      · exact hall i q
      · have : i = j := by omega
        subst this
        exact z
    · have z : ¬ v = xtchr 6 (b + x).toNatClampNeg := z
      rw [hv, ec, nI_eq (by omega) (by omega)] at z
      cases hb : sIsB f p w m with
      | false => rfl
      | true => exact absurd ((sIsB_iff.mp hb).2 j (by omega)) z
theorem cl_sp6 (hF : clF f n I) (hG : rfG f n) {p m fr : Nat} (hp : p + f p < n) (hfm : fr + m ≤ 3) {w : Nat → Nat} (hw : ∀ i, i < m → w i = sWd [101, 112, 115] (fr + i)) {a b mm : Int32} (ha : a = nI p) (hb : b = nI fr) (hm : mm = nI m) (h1 : sIsB f p w m = true → Q (some (.int 1)) (shG X T, I, L, F)) (h0 : sIsB f p w m = false → Q (some (.int 0)) (shG X T, I, L, F)) : XM xE0 (d + 1) 136 [.ref 1, .int a, .ref 1000006, .int b, .int mm] (shG X T, I, L, F) Q := by
  have hn := hG.2
  have hfp := hG.1 p
  have ne : ¬ f p = m → sIsB f p w m = false := fun z => by
    cases hb : sIsB f p w m with
    | false => rfl
    | true => exact absurd (sIsB_iff.mp hb).1 z
  refine XC.block [30] 60 ?_
  refine cl_at hF hG (p := p) (by omega) ha (fun _ v hv => ?_) (fun z => absurd z (by omega))
  refine And.intro (fun z => ⟨(show (0 : Int32) &&& 1 = 0 by decide), h0 (ne ?_)⟩) (fun z => ?_)
  · have z : ¬ v = mm := z
    rw [hv, hm, nI_eq (by omega) (by omega)] at z
    exact z
  · have z : ¬ ¬ v = mm := z
    have z := Classical.not_not.mp z
    rw [hv, hm, nI_eq (by omega) (by omega)] at z
    refine And.intro (fun y => absurd (show b < 0 from y) (by rw [hb]; exact nI_pos (by omega))) (fun _ => ?_)
    refine And.intro (fun _ => ?_) (fun y => absurd (show b + mm ≤ nI 3 by rw [hb, hm, nI_add]; exact nI_le (by omega) (by omega)) y)
    exact cl_spL6 hF hG hp z hfm hw ha hb hm h1 h0 m 0 (by omega) (fun i hi => absurd hi (by omega)) _ rfl
theorem cl_poL6 (hF : clF f n I) (hG : rfG f n) {k : Nat} (hk : k ≤ 24) (h9 : I 5 9 = nI k) (hP : ∀ j, j < k → clP1 f n I j) (hQ : Q (some (.int (rfO (sKf f n (sWd [101, 112, 115]) 3 k 0)))) (shG X T, I, L, F)) :
    ∀ (u j : Nat), j + u = k → sKf f n (sWd [101, 112, 115]) 3 k 0 = sKf f n (sWd [101, 112, 115]) 3 u j → ∀ x : Int32, x = nI j → XC xE0 (d + 2) xM_150 (2, [some (.ref 5), some (.ref 1000006), some (.int x)], [], (shG X T, I, L, F)) Q := by
  intro u
  induction u with
  | zero =>
    intro j hj he x hx
    refine XC.block [2] 60 ?_
    refine And.intro (fun z => ⟨trivial, ?_⟩) (fun z => absurd (show I 5 9 ≤ x by rw [h9, hx]; exact nI_le (by omega) (by omega)) z)
    rw [he] at hQ
    exact hQ
  | succ u ih =>
    intro j hj he x hx
    obtain ⟨p1, p2, p3, p4⟩ := hP j (by omega)
    have e6 : I 6 x.toNatClampNeg = nI (sKey f n j) := by rw [hx, nI_clamp (by omega)]; exact p1
    refine XC.block [2] 60 ?_
    refine And.intro (fun z => absurd (show I 5 9 ≤ x from z) (by rw [h9, hx]; exact nI_ge (by omega) (by omega))) (fun z => ?_)
    refine And.intro (rf_in hx (by omega) (by decide)) ?_
    refine cl_sp6 hF hG (p := sKey f n j) (m := 3) (fr := 0) p4 (by decide) (w := sWd [101, 112, 115]) (fun i _ => by rw [Nat.zero_add]) e6 rfl rfl (fun h => ?_) (fun h => ?_)
    · refine And.intro (fun z => absurd (show (1 : Int32) = 0 from z) (by decide)) (fun _ => ⟨trivial, ?_⟩)
      have e : sKf f n (sWd [101, 112, 115]) 3 (u + 1) j = some j := by
        show (bif sIsB f (sKey f n j) (sWd [101, 112, 115]) 3 then _ else _) = _
        rw [h]; rfl
      rw [he, e] at hQ
      rw [hx]
      exact hQ
    · refine And.intro (fun _ => ?_) (fun z => absurd (show (0 : Int32) = 0 from rfl) z)
      have e : sKf f n (sWd [101, 112, 115]) 3 (u + 1) j = sKf f n (sWd [101, 112, 115]) 3 u (j + 1) := by
        show (bif sIsB f (sKey f n j) (sWd [101, 112, 115]) 3 then _ else _) = _
        rw [h]; rfl
      exact ih (j + 1) (by omega) (he.trans e) _ (show x + 1 = nI (j + 1) by rw [hx, nI_1])
theorem cl_fk6 (hF : clF f n I) (hG : rfG f n) {k q t : Nat} (hk : k ≤ 24) (h9 : I 5 9 = nI k) (hP : ∀ j, j < k → clP1 f n I j) (hq : q < 14) (ht : t < 256) {qq tt : Int32} (hqq : qq = nI q) (htt : tt = nI t)
    (h1 : ∀ i, sKf f n (sWd [101, 112, 115]) 3 k 0 = some i → sTy f n i = t → Q (some (.int 1)) (shG X T, x2 I 15 q (nI (sVa f n i)), L, F))
    (h2 : ∀ i, sKf f n (sWd [101, 112, 115]) 3 k 0 = some i → ¬ sTy f n i = t → Q (some (.int 0)) (shG X T, x2 I 15 q (nI (sVa f n i)), L, F))
    (h0 : sKf f n (sWd [101, 112, 115]) 3 k 0 = none → Q (some (.int 0)) (shG X T, x2 I 15 q (-1), L, F)) : XM xE0 (d + 3) 90 [.ref 14, .int qq, .ref 1000006, .int tt] (shG X T, I, L, F) Q := by
  have ek : qq.toNatClampNeg = q := by rw [hqq, nI_clamp (by omega)]
  rw [← ek] at h1 h2 h0
  refine XC.block [10] 60 ?_
  refine XC.block [2] 60 ?_
  refine cl_poL6 hF hG hk h9 hP ?_ k 0 (by omega) rfl _ rfl
  have hlt := sKf_lt (f := f) (n := n) (w := sWd [101, 112, 115]) (m := 3) k 0
  have go : ∀ o : Option Nat, o = sKf f n (sWd [101, 112, 115]) 3 k 0 → XC xE0 (d + 3) xM_90 (10, [some (.ref 14), some (.int qq), some (.ref 1000006), some (.int tt), some (.int (rfO o))], [], (shG X T, I, L, F)) Q := by
    intro o ho
    rw [← ho] at h1 h2 h0 hlt
    match o, ho with
    | none, _ =>
      refine XC.block [] 60 ?_
      refine And.intro (fun z => absurd (show (0 : Int32) ≤ -1 from z) (by decide)) (fun _ => ?_)
      refine And.intro (rf_in hqq (by omega) (by decide)) ?_
      exact And.intro (fun _ => ⟨(show (0 : Int32) &&& 1 = 0 by decide), h0 rfl⟩) (fun z => absurd (show (-1 : Int32) < 0 by decide) z)
    | some i, _ =>
      have hi : i < k := by have := hlt i rfl; omega
      obtain ⟨p1, p2, p3, p4⟩ := hP i hi
      have ei : (nI i).toNatClampNeg = i := nI_clamp (by omega)
      have hty : sTy f n i < 256 := hG.1 _
      have g8 : I 8 (nI i).toNatClampNeg = I 8 i := by rw [ei]
      have h1 : sTy f n i = t → Q (some (.int 1)) (shG X T, x2 I 15 qq.toNatClampNeg (I 8 (nI i).toNatClampNeg), L, F) := fun y => by
        have := h1 i rfl y
        rw [← p3, ← g8] at this
        exact this
      have h2 : ¬ sTy f n i = t → Q (some (.int 0)) (shG X T, x2 I 15 qq.toNatClampNeg (I 8 (nI i).toNatClampNeg), L, F) := fun y => by
        have := h2 i rfl y
        rw [← p3, ← g8] at this
        exact this
      refine XC.block [] 60 ?_
      refine And.intro (fun _ => ?_) (fun z => absurd (show 0 ≤ nI i from nI_pos' (by omega)) z)
      refine And.intro (rf_in (i := nI i) rfl (by omega) (by decide)) ?_
      refine And.intro (rf_in hqq (by omega) (by decide)) ?_
      refine And.intro (fun z => absurd (show nI i < 0 from z) (nI_pos (by omega))) (fun _ => ?_)
      refine And.intro (rf_in (i := nI i) rfl (by omega) (by decide)) ?_
      refine And.intro (fun z => ⟨(show (0 : Int32) &&& 1 = 0 by decide), h2 ?_⟩) (fun z => ⟨(show (1 : Int32) &&& 1 = 1 by decide), h1 ?_⟩)
      · have z : ¬ I 7 (nI i).toNatClampNeg = tt := z
        rw [ei, p2, htt, nI_eq (by omega) (by omega)] at z
        exact z
      · have z : ¬ ¬ I 7 (nI i).toNatClampNeg = tt := z
        have z := Classical.not_not.mp z
        rw [ei, p2, htt, nI_eq (by omega) (by omega)] at z
        exact z
  exact go _ rfl
theorem cl_tx7 : ∀ j, j < 4 → xtchr 7 j = nI (sWd [98, 97, 115, 101] j) ∧ sWd [98, 97, 115, 101] j < 256 := by decide +kernel
theorem cl_spL7 (hF : clF f n I) (hG : rfG f n) {p m fr : Nat} (hp : p + f p < n) (hpm : f p = m) (hfm : fr + m ≤ 4) {w : Nat → Nat} (hw : ∀ i, i < m → w i = sWd [98, 97, 115, 101] (fr + i)) {a b mm : Int32} (ha : a = nI p) (hb : b = nI fr) (hm : mm = nI m) (h1 : sIsB f p w m = true → Q (some (.int 1)) (shG X T, I, L, F)) (h0 : sIsB f p w m = false → Q (some (.int 0)) (shG X T, I, L, F)) :
    ∀ (k j : Nat), j + k = m → (∀ i, i < j → f (p + 1 + i) = w i) → ∀ x : Int32, x = nI j → XC xE0 (d + 1) xM_136 (30, [some (.ref 1), some (.int a), some (.ref 1000007), some (.int b), some (.int mm), some (.int x)], [], (shG X T, I, L, F)) Q := by
  have hn := hG.2
  intro k
  induction k with
  | zero =>
    intro j hj hall x hx
    refine XC.block [30] 60 ?_
    exact And.intro (fun z => ⟨(show (1 : Int32) &&& 1 = 1 by decide), h1 (sIsB_iff.mpr ⟨hpm, fun i hi => hall i (by omega)⟩)⟩) (fun z => absurd (show mm ≤ x by rw [hm, hx]; exact nI_le (by omega) (by omega)) z)
  | succ k ih =>
    intro j hj hall x hx
    have e1 : a + 1 + x = nI (p + 1 + j) := by rw [ha, hx, nI_1, nI_add]
    have e2 : b + x = nI (fr + j) := by rw [hb, hx, nI_add]
    have g1 := hG.1 (p + 1 + j)
    obtain ⟨t1, t2⟩ := cl_tx7 (fr + j) (by omega)
    refine XC.block [30] 60 ?_
    refine And.intro (fun z => absurd (show mm ≤ x from z) (by rw [hm, hx]; exact nI_ge (by omega) (by omega))) (fun z => ?_)
    refine cl_at hF hG (p := p + 1 + j) (by omega) e1 (fun _ v hv => ?_) (fun z => absurd z (by omega))
    refine And.intro (rf_in (N := 4) e2 (by omega) (by decide)) ?_
    have ec : xtchr 7 (b + x).toNatClampNeg = nI (w j) := by
      rw [e2, nI_clamp (by omega), t1, hw j (by omega)]
    have hw2 : w j < 256 := by rw [hw j (by omega)]; exact t2
    refine And.intro (fun z => ?_) (fun z => ⟨(show (0 : Int32) &&& 1 = 0 by decide), h0 ?_⟩)
    · have z : v = xtchr 7 (b + x).toNatClampNeg := z
      rw [hv, ec, nI_eq (by omega) (by omega)] at z
      refine ih (j + 1) (by omega) (fun i hi => ?_) _ (show x + 1 = nI (j + 1) by rw [hx, nI_1])
      rcases Nat.lt_or_ge i j with q | q
      · exact hall i q
      · have : i = j := by omega
        subst this
        exact z
    · have z : ¬ v = xtchr 7 (b + x).toNatClampNeg := z
      rw [hv, ec, nI_eq (by omega) (by omega)] at z
      cases hb : sIsB f p w m with
      | false => rfl
      | true => exact absurd ((sIsB_iff.mp hb).2 j (by omega)) z
theorem cl_sp7 (hF : clF f n I) (hG : rfG f n) {p m fr : Nat} (hp : p + f p < n) (hfm : fr + m ≤ 4) {w : Nat → Nat} (hw : ∀ i, i < m → w i = sWd [98, 97, 115, 101] (fr + i)) {a b mm : Int32} (ha : a = nI p) (hb : b = nI fr) (hm : mm = nI m) (h1 : sIsB f p w m = true → Q (some (.int 1)) (shG X T, I, L, F)) (h0 : sIsB f p w m = false → Q (some (.int 0)) (shG X T, I, L, F)) : XM xE0 (d + 1) 136 [.ref 1, .int a, .ref 1000007, .int b, .int mm] (shG X T, I, L, F) Q := by
  have hn := hG.2
  have hfp := hG.1 p
  have ne : ¬ f p = m → sIsB f p w m = false := fun z => by
    cases hb : sIsB f p w m with
    | false => rfl
    | true => exact absurd (sIsB_iff.mp hb).1 z
  refine XC.block [30] 60 ?_
  refine cl_at hF hG (p := p) (by omega) ha (fun _ v hv => ?_) (fun z => absurd z (by omega))
  refine And.intro (fun z => ⟨(show (0 : Int32) &&& 1 = 0 by decide), h0 (ne ?_)⟩) (fun z => ?_)
  · have z : ¬ v = mm := z
    rw [hv, hm, nI_eq (by omega) (by omega)] at z
    exact z
  · have z : ¬ ¬ v = mm := z
    have z := Classical.not_not.mp z
    rw [hv, hm, nI_eq (by omega) (by omega)] at z
    refine And.intro (fun y => absurd (show b < 0 from y) (by rw [hb]; exact nI_pos (by omega))) (fun _ => ?_)
    refine And.intro (fun _ => ?_) (fun y => absurd (show b + mm ≤ nI 4 by rw [hb, hm, nI_add]; exact nI_le (by omega) (by omega)) y)
    exact cl_spL7 hF hG hp z hfm hw ha hb hm h1 h0 m 0 (by omega) (fun i hi => absurd hi (by omega)) _ rfl
theorem cl_poL7 (hF : clF f n I) (hG : rfG f n) {k : Nat} (hk : k ≤ 24) (h9 : I 5 9 = nI k) (hP : ∀ j, j < k → clP1 f n I j) (hQ : Q (some (.int (rfO (sKf f n (sWd [98, 97, 115, 101]) 4 k 0)))) (shG X T, I, L, F)) :
    ∀ (u j : Nat), j + u = k → sKf f n (sWd [98, 97, 115, 101]) 4 k 0 = sKf f n (sWd [98, 97, 115, 101]) 4 u j → ∀ x : Int32, x = nI j → XC xE0 (d + 2) xM_150 (2, [some (.ref 5), some (.ref 1000007), some (.int x)], [], (shG X T, I, L, F)) Q := by
  intro u
  induction u with
  | zero =>
    intro j hj he x hx
    refine XC.block [2] 60 ?_
    refine And.intro (fun z => ⟨trivial, ?_⟩) (fun z => absurd (show I 5 9 ≤ x by rw [h9, hx]; exact nI_le (by omega) (by omega)) z)
    rw [he] at hQ
    exact hQ
  | succ u ih =>
    intro j hj he x hx
    obtain ⟨p1, p2, p3, p4⟩ := hP j (by omega)
    have e6 : I 6 x.toNatClampNeg = nI (sKey f n j) := by rw [hx, nI_clamp (by omega)]; exact p1
    refine XC.block [2] 60 ?_
    refine And.intro (fun z => absurd (show I 5 9 ≤ x from z) (by rw [h9, hx]; exact nI_ge (by omega) (by omega))) (fun z => ?_)
    refine And.intro (rf_in hx (by omega) (by decide)) ?_
    refine cl_sp7 hF hG (p := sKey f n j) (m := 4) (fr := 0) p4 (by decide) (w := sWd [98, 97, 115, 101]) (fun i _ => by rw [Nat.zero_add]) e6 rfl rfl (fun h => ?_) (fun h => ?_)
    · refine And.intro (fun z => absurd (show (1 : Int32) = 0 from z) (by decide)) (fun _ => ⟨trivial, ?_⟩)
      have e : sKf f n (sWd [98, 97, 115, 101]) 4 (u + 1) j = some j := by
        show (bif sIsB f (sKey f n j) (sWd [98, 97, 115, 101]) 4 then _ else _) = _
        rw [h]; rfl
      rw [he, e] at hQ
      rw [hx]
      exact hQ
    · refine And.intro (fun _ => ?_) (fun z => absurd (show (0 : Int32) = 0 from rfl) z)
      have e : sKf f n (sWd [98, 97, 115, 101]) 4 (u + 1) j = sKf f n (sWd [98, 97, 115, 101]) 4 u (j + 1) := by
        show (bif sIsB f (sKey f n j) (sWd [98, 97, 115, 101]) 4 then _ else _) = _
        rw [h]; rfl
      exact ih (j + 1) (by omega) (he.trans e) _ (show x + 1 = nI (j + 1) by rw [hx, nI_1])
theorem cl_fk7 (hF : clF f n I) (hG : rfG f n) {k q t : Nat} (hk : k ≤ 24) (h9 : I 5 9 = nI k) (hP : ∀ j, j < k → clP1 f n I j) (hq : q < 14) (ht : t < 256) {qq tt : Int32} (hqq : qq = nI q) (htt : tt = nI t)
    (h1 : ∀ i, sKf f n (sWd [98, 97, 115, 101]) 4 k 0 = some i → sTy f n i = t → Q (some (.int 1)) (shG X T, x2 I 15 q (nI (sVa f n i)), L, F))
    (h2 : ∀ i, sKf f n (sWd [98, 97, 115, 101]) 4 k 0 = some i → ¬ sTy f n i = t → Q (some (.int 0)) (shG X T, x2 I 15 q (nI (sVa f n i)), L, F))
    (h0 : sKf f n (sWd [98, 97, 115, 101]) 4 k 0 = none → Q (some (.int 0)) (shG X T, x2 I 15 q (-1), L, F)) : XM xE0 (d + 3) 90 [.ref 14, .int qq, .ref 1000007, .int tt] (shG X T, I, L, F) Q := by
  have ek : qq.toNatClampNeg = q := by rw [hqq, nI_clamp (by omega)]
  rw [← ek] at h1 h2 h0
  refine XC.block [10] 60 ?_
  refine XC.block [2] 60 ?_
  refine cl_poL7 hF hG hk h9 hP ?_ k 0 (by omega) rfl _ rfl
  have hlt := sKf_lt (f := f) (n := n) (w := sWd [98, 97, 115, 101]) (m := 4) k 0
  have go : ∀ o : Option Nat, o = sKf f n (sWd [98, 97, 115, 101]) 4 k 0 → XC xE0 (d + 3) xM_90 (10, [some (.ref 14), some (.int qq), some (.ref 1000007), some (.int tt), some (.int (rfO o))], [], (shG X T, I, L, F)) Q := by
    intro o ho
    rw [← ho] at h1 h2 h0 hlt
    match o, ho with
    | none, _ =>
      refine XC.block [] 60 ?_
      refine And.intro (fun z => absurd (show (0 : Int32) ≤ -1 from z) (by decide)) (fun _ => ?_)
      refine And.intro (rf_in hqq (by omega) (by decide)) ?_
      exact And.intro (fun _ => ⟨(show (0 : Int32) &&& 1 = 0 by decide), h0 rfl⟩) (fun z => absurd (show (-1 : Int32) < 0 by decide) z)
    | some i, _ =>
      have hi : i < k := by have := hlt i rfl; omega
      obtain ⟨p1, p2, p3, p4⟩ := hP i hi
      have ei : (nI i).toNatClampNeg = i := nI_clamp (by omega)
      have hty : sTy f n i < 256 := hG.1 _
      have g8 : I 8 (nI i).toNatClampNeg = I 8 i := by rw [ei]
      have h1 : sTy f n i = t → Q (some (.int 1)) (shG X T, x2 I 15 qq.toNatClampNeg (I 8 (nI i).toNatClampNeg), L, F) := fun y => by
        have := h1 i rfl y
        rw [← p3, ← g8] at this
        exact this
      have h2 : ¬ sTy f n i = t → Q (some (.int 0)) (shG X T, x2 I 15 qq.toNatClampNeg (I 8 (nI i).toNatClampNeg), L, F) := fun y => by
        have := h2 i rfl y
        rw [← p3, ← g8] at this
        exact this
      refine XC.block [] 60 ?_
      refine And.intro (fun _ => ?_) (fun z => absurd (show 0 ≤ nI i from nI_pos' (by omega)) z)
      refine And.intro (rf_in (i := nI i) rfl (by omega) (by decide)) ?_
      refine And.intro (rf_in hqq (by omega) (by decide)) ?_
      refine And.intro (fun z => absurd (show nI i < 0 from z) (nI_pos (by omega))) (fun _ => ?_)
      refine And.intro (rf_in (i := nI i) rfl (by omega) (by decide)) ?_
      refine And.intro (fun z => ⟨(show (0 : Int32) &&& 1 = 0 by decide), h2 ?_⟩) (fun z => ⟨(show (1 : Int32) &&& 1 = 1 by decide), h1 ?_⟩)
      · have z : ¬ I 7 (nI i).toNatClampNeg = tt := z
        rw [ei, p2, htt, nI_eq (by omega) (by omega)] at z
        exact z
      · have z : ¬ ¬ I 7 (nI i).toNatClampNeg = tt := z
        have z := Classical.not_not.mp z
        rw [ei, p2, htt, nI_eq (by omega) (by omega)] at z
        exact z
  exact go _ rfl
theorem cl_tx8 : ∀ j, j < 6 → xtchr 8 j = nI (sWd [116, 111, 107, 101, 110, 115] j) ∧ sWd [116, 111, 107, 101, 110, 115] j < 256 := by decide +kernel
theorem cl_spL8 (hF : clF f n I) (hG : rfG f n) {p m fr : Nat} (hp : p + f p < n) (hpm : f p = m) (hfm : fr + m ≤ 6) {w : Nat → Nat} (hw : ∀ i, i < m → w i = sWd [116, 111, 107, 101, 110, 115] (fr + i)) {a b mm : Int32} (ha : a = nI p) (hb : b = nI fr) (hm : mm = nI m) (h1 : sIsB f p w m = true → Q (some (.int 1)) (shG X T, I, L, F)) (h0 : sIsB f p w m = false → Q (some (.int 0)) (shG X T, I, L, F)) :
    ∀ (k j : Nat), j + k = m → (∀ i, i < j → f (p + 1 + i) = w i) → ∀ x : Int32, x = nI j → XC xE0 (d + 1) xM_136 (30, [some (.ref 1), some (.int a), some (.ref 1000008), some (.int b), some (.int mm), some (.int x)], [], (shG X T, I, L, F)) Q := by
  have hn := hG.2
  intro k
  induction k with
  | zero =>
    intro j hj hall x hx
    refine XC.block [30] 60 ?_
    exact And.intro (fun z => ⟨(show (1 : Int32) &&& 1 = 1 by decide), h1 (sIsB_iff.mpr ⟨hpm, fun i hi => hall i (by omega)⟩)⟩) (fun z => absurd (show mm ≤ x by rw [hm, hx]; exact nI_le (by omega) (by omega)) z)
  | succ k ih =>
    intro j hj hall x hx
    have e1 : a + 1 + x = nI (p + 1 + j) := by rw [ha, hx, nI_1, nI_add]
    have e2 : b + x = nI (fr + j) := by rw [hb, hx, nI_add]
    have g1 := hG.1 (p + 1 + j)
    obtain ⟨t1, t2⟩ := cl_tx8 (fr + j) (by omega)
    refine XC.block [30] 60 ?_
    refine And.intro (fun z => absurd (show mm ≤ x from z) (by rw [hm, hx]; exact nI_ge (by omega) (by omega))) (fun z => ?_)
    refine cl_at hF hG (p := p + 1 + j) (by omega) e1 (fun _ v hv => ?_) (fun z => absurd z (by omega))
    refine And.intro (rf_in (N := 6) e2 (by omega) (by decide)) ?_
    have ec : xtchr 8 (b + x).toNatClampNeg = nI (w j) := by
      rw [e2, nI_clamp (by omega), t1, hw j (by omega)]
    have hw2 : w j < 256 := by rw [hw j (by omega)]; exact t2
    refine And.intro (fun z => ?_) (fun z => ⟨(show (0 : Int32) &&& 1 = 0 by decide), h0 ?_⟩)
    · have z : v = xtchr 8 (b + x).toNatClampNeg := z
      rw [hv, ec, nI_eq (by omega) (by omega)] at z
      refine ih (j + 1) (by omega) (fun i hi => ?_) _ (show x + 1 = nI (j + 1) by rw [hx, nI_1])
      rcases Nat.lt_or_ge i j with q | q
      · exact hall i q
      · have : i = j := by omega
        subst this
        exact z
    · have z : ¬ v = xtchr 8 (b + x).toNatClampNeg := z
      rw [hv, ec, nI_eq (by omega) (by omega)] at z
      cases hb : sIsB f p w m with
      | false => rfl
      | true => exact absurd ((sIsB_iff.mp hb).2 j (by omega)) z
theorem cl_sp8 (hF : clF f n I) (hG : rfG f n) {p m fr : Nat} (hp : p + f p < n) (hfm : fr + m ≤ 6) {w : Nat → Nat} (hw : ∀ i, i < m → w i = sWd [116, 111, 107, 101, 110, 115] (fr + i)) {a b mm : Int32} (ha : a = nI p) (hb : b = nI fr) (hm : mm = nI m) (h1 : sIsB f p w m = true → Q (some (.int 1)) (shG X T, I, L, F)) (h0 : sIsB f p w m = false → Q (some (.int 0)) (shG X T, I, L, F)) : XM xE0 (d + 1) 136 [.ref 1, .int a, .ref 1000008, .int b, .int mm] (shG X T, I, L, F) Q := by
  have hn := hG.2
  have hfp := hG.1 p
  have ne : ¬ f p = m → sIsB f p w m = false := fun z => by
    cases hb : sIsB f p w m with
    | false => rfl
    | true => exact absurd (sIsB_iff.mp hb).1 z
  refine XC.block [30] 60 ?_
  refine cl_at hF hG (p := p) (by omega) ha (fun _ v hv => ?_) (fun z => absurd z (by omega))
  refine And.intro (fun z => ⟨(show (0 : Int32) &&& 1 = 0 by decide), h0 (ne ?_)⟩) (fun z => ?_)
  · have z : ¬ v = mm := z
    rw [hv, hm, nI_eq (by omega) (by omega)] at z
    exact z
  · have z : ¬ ¬ v = mm := z
    have z := Classical.not_not.mp z
    rw [hv, hm, nI_eq (by omega) (by omega)] at z
    refine And.intro (fun y => absurd (show b < 0 from y) (by rw [hb]; exact nI_pos (by omega))) (fun _ => ?_)
    refine And.intro (fun _ => ?_) (fun y => absurd (show b + mm ≤ nI 6 by rw [hb, hm, nI_add]; exact nI_le (by omega) (by omega)) y)
    exact cl_spL8 hF hG hp z hfm hw ha hb hm h1 h0 m 0 (by omega) (fun i hi => absurd hi (by omega)) _ rfl
theorem cl_poL8 (hF : clF f n I) (hG : rfG f n) {k : Nat} (hk : k ≤ 24) (h9 : I 5 9 = nI k) (hP : ∀ j, j < k → clP1 f n I j) (hQ : Q (some (.int (rfO (sKf f n (sWd [116, 111, 107, 101, 110, 115]) 6 k 0)))) (shG X T, I, L, F)) :
    ∀ (u j : Nat), j + u = k → sKf f n (sWd [116, 111, 107, 101, 110, 115]) 6 k 0 = sKf f n (sWd [116, 111, 107, 101, 110, 115]) 6 u j → ∀ x : Int32, x = nI j → XC xE0 (d + 2) xM_150 (2, [some (.ref 5), some (.ref 1000008), some (.int x)], [], (shG X T, I, L, F)) Q := by
  intro u
  induction u with
  | zero =>
    intro j hj he x hx
    refine XC.block [2] 60 ?_
    refine And.intro (fun z => ⟨trivial, ?_⟩) (fun z => absurd (show I 5 9 ≤ x by rw [h9, hx]; exact nI_le (by omega) (by omega)) z)
    rw [he] at hQ
    exact hQ
  | succ u ih =>
    intro j hj he x hx
    obtain ⟨p1, p2, p3, p4⟩ := hP j (by omega)
    have e6 : I 6 x.toNatClampNeg = nI (sKey f n j) := by rw [hx, nI_clamp (by omega)]; exact p1
    refine XC.block [2] 60 ?_
    refine And.intro (fun z => absurd (show I 5 9 ≤ x from z) (by rw [h9, hx]; exact nI_ge (by omega) (by omega))) (fun z => ?_)
    refine And.intro (rf_in hx (by omega) (by decide)) ?_
    refine cl_sp8 hF hG (p := sKey f n j) (m := 6) (fr := 0) p4 (by decide) (w := sWd [116, 111, 107, 101, 110, 115]) (fun i _ => by rw [Nat.zero_add]) e6 rfl rfl (fun h => ?_) (fun h => ?_)
    · refine And.intro (fun z => absurd (show (1 : Int32) = 0 from z) (by decide)) (fun _ => ⟨trivial, ?_⟩)
      have e : sKf f n (sWd [116, 111, 107, 101, 110, 115]) 6 (u + 1) j = some j := by
        show (bif sIsB f (sKey f n j) (sWd [116, 111, 107, 101, 110, 115]) 6 then _ else _) = _
        rw [h]; rfl
      rw [he, e] at hQ
      rw [hx]
      exact hQ
    · refine And.intro (fun _ => ?_) (fun z => absurd (show (0 : Int32) = 0 from rfl) z)
      have e : sKf f n (sWd [116, 111, 107, 101, 110, 115]) 6 (u + 1) j = sKf f n (sWd [116, 111, 107, 101, 110, 115]) 6 u (j + 1) := by
        show (bif sIsB f (sKey f n j) (sWd [116, 111, 107, 101, 110, 115]) 6 then _ else _) = _
        rw [h]; rfl
      exact ih (j + 1) (by omega) (he.trans e) _ (show x + 1 = nI (j + 1) by rw [hx, nI_1])
theorem cl_fk8 (hF : clF f n I) (hG : rfG f n) {k q t : Nat} (hk : k ≤ 24) (h9 : I 5 9 = nI k) (hP : ∀ j, j < k → clP1 f n I j) (hq : q < 14) (ht : t < 256) {qq tt : Int32} (hqq : qq = nI q) (htt : tt = nI t)
    (h1 : ∀ i, sKf f n (sWd [116, 111, 107, 101, 110, 115]) 6 k 0 = some i → sTy f n i = t → Q (some (.int 1)) (shG X T, x2 I 15 q (nI (sVa f n i)), L, F))
    (h2 : ∀ i, sKf f n (sWd [116, 111, 107, 101, 110, 115]) 6 k 0 = some i → ¬ sTy f n i = t → Q (some (.int 0)) (shG X T, x2 I 15 q (nI (sVa f n i)), L, F))
    (h0 : sKf f n (sWd [116, 111, 107, 101, 110, 115]) 6 k 0 = none → Q (some (.int 0)) (shG X T, x2 I 15 q (-1), L, F)) : XM xE0 (d + 3) 90 [.ref 14, .int qq, .ref 1000008, .int tt] (shG X T, I, L, F) Q := by
  have ek : qq.toNatClampNeg = q := by rw [hqq, nI_clamp (by omega)]
  rw [← ek] at h1 h2 h0
  refine XC.block [10] 60 ?_
  refine XC.block [2] 60 ?_
  refine cl_poL8 hF hG hk h9 hP ?_ k 0 (by omega) rfl _ rfl
  have hlt := sKf_lt (f := f) (n := n) (w := sWd [116, 111, 107, 101, 110, 115]) (m := 6) k 0
  have go : ∀ o : Option Nat, o = sKf f n (sWd [116, 111, 107, 101, 110, 115]) 6 k 0 → XC xE0 (d + 3) xM_90 (10, [some (.ref 14), some (.int qq), some (.ref 1000008), some (.int tt), some (.int (rfO o))], [], (shG X T, I, L, F)) Q := by
    intro o ho
    rw [← ho] at h1 h2 h0 hlt
    match o, ho with
    | none, _ =>
      refine XC.block [] 60 ?_
      refine And.intro (fun z => absurd (show (0 : Int32) ≤ -1 from z) (by decide)) (fun _ => ?_)
      refine And.intro (rf_in hqq (by omega) (by decide)) ?_
      exact And.intro (fun _ => ⟨(show (0 : Int32) &&& 1 = 0 by decide), h0 rfl⟩) (fun z => absurd (show (-1 : Int32) < 0 by decide) z)
    | some i, _ =>
      have hi : i < k := by have := hlt i rfl; omega
      obtain ⟨p1, p2, p3, p4⟩ := hP i hi
      have ei : (nI i).toNatClampNeg = i := nI_clamp (by omega)
      have hty : sTy f n i < 256 := hG.1 _
      have g8 : I 8 (nI i).toNatClampNeg = I 8 i := by rw [ei]
      have h1 : sTy f n i = t → Q (some (.int 1)) (shG X T, x2 I 15 qq.toNatClampNeg (I 8 (nI i).toNatClampNeg), L, F) := fun y => by
        have := h1 i rfl y
        rw [← p3, ← g8] at this
        exact this
      have h2 : ¬ sTy f n i = t → Q (some (.int 0)) (shG X T, x2 I 15 qq.toNatClampNeg (I 8 (nI i).toNatClampNeg), L, F) := fun y => by
        have := h2 i rfl y
        rw [← p3, ← g8] at this
        exact this
      refine XC.block [] 60 ?_
      refine And.intro (fun _ => ?_) (fun z => absurd (show 0 ≤ nI i from nI_pos' (by omega)) z)
      refine And.intro (rf_in (i := nI i) rfl (by omega) (by decide)) ?_
      refine And.intro (rf_in hqq (by omega) (by decide)) ?_
      refine And.intro (fun z => absurd (show nI i < 0 from z) (nI_pos (by omega))) (fun _ => ?_)
      refine And.intro (rf_in (i := nI i) rfl (by omega) (by decide)) ?_
      refine And.intro (fun z => ⟨(show (0 : Int32) &&& 1 = 0 by decide), h2 ?_⟩) (fun z => ⟨(show (1 : Int32) &&& 1 = 1 by decide), h1 ?_⟩)
      · have z : ¬ I 7 (nI i).toNatClampNeg = tt := z
        rw [ei, p2, htt, nI_eq (by omega) (by omega)] at z
        exact z
      · have z : ¬ ¬ I 7 (nI i).toNatClampNeg = tt := z
        have z := Classical.not_not.mp z
        rw [ei, p2, htt, nI_eq (by omega) (by omega)] at z
        exact z
  exact go _ rfl
theorem cl_tx9 : ∀ j, j < 6 → xtchr 9 j = nI (sWd [109, 101, 114, 103, 101, 115] j) ∧ sWd [109, 101, 114, 103, 101, 115] j < 256 := by decide +kernel
theorem cl_spL9 (hF : clF f n I) (hG : rfG f n) {p m fr : Nat} (hp : p + f p < n) (hpm : f p = m) (hfm : fr + m ≤ 6) {w : Nat → Nat} (hw : ∀ i, i < m → w i = sWd [109, 101, 114, 103, 101, 115] (fr + i)) {a b mm : Int32} (ha : a = nI p) (hb : b = nI fr) (hm : mm = nI m) (h1 : sIsB f p w m = true → Q (some (.int 1)) (shG X T, I, L, F)) (h0 : sIsB f p w m = false → Q (some (.int 0)) (shG X T, I, L, F)) :
    ∀ (k j : Nat), j + k = m → (∀ i, i < j → f (p + 1 + i) = w i) → ∀ x : Int32, x = nI j → XC xE0 (d + 1) xM_136 (30, [some (.ref 1), some (.int a), some (.ref 1000009), some (.int b), some (.int mm), some (.int x)], [], (shG X T, I, L, F)) Q := by
  have hn := hG.2
  intro k
  induction k with
  | zero =>
    intro j hj hall x hx
    refine XC.block [30] 60 ?_
    exact And.intro (fun z => ⟨(show (1 : Int32) &&& 1 = 1 by decide), h1 (sIsB_iff.mpr ⟨hpm, fun i hi => hall i (by omega)⟩)⟩) (fun z => absurd (show mm ≤ x by rw [hm, hx]; exact nI_le (by omega) (by omega)) z)
  | succ k ih =>
    intro j hj hall x hx
    have e1 : a + 1 + x = nI (p + 1 + j) := by rw [ha, hx, nI_1, nI_add]
    have e2 : b + x = nI (fr + j) := by rw [hb, hx, nI_add]
    have g1 := hG.1 (p + 1 + j)
    obtain ⟨t1, t2⟩ := cl_tx9 (fr + j) (by omega)
    refine XC.block [30] 60 ?_
    refine And.intro (fun z => absurd (show mm ≤ x from z) (by rw [hm, hx]; exact nI_ge (by omega) (by omega))) (fun z => ?_)
    refine cl_at hF hG (p := p + 1 + j) (by omega) e1 (fun _ v hv => ?_) (fun z => absurd z (by omega))
    refine And.intro (rf_in (N := 6) e2 (by omega) (by decide)) ?_
    have ec : xtchr 9 (b + x).toNatClampNeg = nI (w j) := by
      rw [e2, nI_clamp (by omega), t1, hw j (by omega)]
    have hw2 : w j < 256 := by rw [hw j (by omega)]; exact t2
    refine And.intro (fun z => ?_) (fun z => ⟨(show (0 : Int32) &&& 1 = 0 by decide), h0 ?_⟩)
    · have z : v = xtchr 9 (b + x).toNatClampNeg := z
      rw [hv, ec, nI_eq (by omega) (by omega)] at z
      refine ih (j + 1) (by omega) (fun i hi => ?_) _ (show x + 1 = nI (j + 1) by rw [hx, nI_1])
      rcases Nat.lt_or_ge i j with q | q
      · exact hall i q
      · have : i = j := by omega
        subst this
        exact z
    · have z : ¬ v = xtchr 9 (b + x).toNatClampNeg := z
      rw [hv, ec, nI_eq (by omega) (by omega)] at z
      cases hb : sIsB f p w m with
      | false => rfl
      | true => exact absurd ((sIsB_iff.mp hb).2 j (by omega)) z
theorem cl_sp9 (hF : clF f n I) (hG : rfG f n) {p m fr : Nat} (hp : p + f p < n) (hfm : fr + m ≤ 6) {w : Nat → Nat} (hw : ∀ i, i < m → w i = sWd [109, 101, 114, 103, 101, 115] (fr + i)) {a b mm : Int32} (ha : a = nI p) (hb : b = nI fr) (hm : mm = nI m) (h1 : sIsB f p w m = true → Q (some (.int 1)) (shG X T, I, L, F)) (h0 : sIsB f p w m = false → Q (some (.int 0)) (shG X T, I, L, F)) : XM xE0 (d + 1) 136 [.ref 1, .int a, .ref 1000009, .int b, .int mm] (shG X T, I, L, F) Q := by
  have hn := hG.2
  have hfp := hG.1 p
  have ne : ¬ f p = m → sIsB f p w m = false := fun z => by
    cases hb : sIsB f p w m with
    | false => rfl
    | true => exact absurd (sIsB_iff.mp hb).1 z
  refine XC.block [30] 60 ?_
  refine cl_at hF hG (p := p) (by omega) ha (fun _ v hv => ?_) (fun z => absurd z (by omega))
  refine And.intro (fun z => ⟨(show (0 : Int32) &&& 1 = 0 by decide), h0 (ne ?_)⟩) (fun z => ?_)
  · have z : ¬ v = mm := z
    rw [hv, hm, nI_eq (by omega) (by omega)] at z
    exact z
  · have z : ¬ ¬ v = mm := z
    have z := Classical.not_not.mp z
    rw [hv, hm, nI_eq (by omega) (by omega)] at z
    refine And.intro (fun y => absurd (show b < 0 from y) (by rw [hb]; exact nI_pos (by omega))) (fun _ => ?_)
    refine And.intro (fun _ => ?_) (fun y => absurd (show b + mm ≤ nI 6 by rw [hb, hm, nI_add]; exact nI_le (by omega) (by omega)) y)
    exact cl_spL9 hF hG hp z hfm hw ha hb hm h1 h0 m 0 (by omega) (fun i hi => absurd hi (by omega)) _ rfl
theorem cl_poL9 (hF : clF f n I) (hG : rfG f n) {k : Nat} (hk : k ≤ 24) (h9 : I 5 9 = nI k) (hP : ∀ j, j < k → clP1 f n I j) (hQ : Q (some (.int (rfO (sKf f n (sWd [109, 101, 114, 103, 101, 115]) 6 k 0)))) (shG X T, I, L, F)) :
    ∀ (u j : Nat), j + u = k → sKf f n (sWd [109, 101, 114, 103, 101, 115]) 6 k 0 = sKf f n (sWd [109, 101, 114, 103, 101, 115]) 6 u j → ∀ x : Int32, x = nI j → XC xE0 (d + 2) xM_150 (2, [some (.ref 5), some (.ref 1000009), some (.int x)], [], (shG X T, I, L, F)) Q := by
  intro u
  induction u with
  | zero =>
    intro j hj he x hx
    refine XC.block [2] 60 ?_
    refine And.intro (fun z => ⟨trivial, ?_⟩) (fun z => absurd (show I 5 9 ≤ x by rw [h9, hx]; exact nI_le (by omega) (by omega)) z)
    rw [he] at hQ
    exact hQ
  | succ u ih =>
    intro j hj he x hx
    obtain ⟨p1, p2, p3, p4⟩ := hP j (by omega)
    have e6 : I 6 x.toNatClampNeg = nI (sKey f n j) := by rw [hx, nI_clamp (by omega)]; exact p1
    refine XC.block [2] 60 ?_
    refine And.intro (fun z => absurd (show I 5 9 ≤ x from z) (by rw [h9, hx]; exact nI_ge (by omega) (by omega))) (fun z => ?_)
    refine And.intro (rf_in hx (by omega) (by decide)) ?_
    refine cl_sp9 hF hG (p := sKey f n j) (m := 6) (fr := 0) p4 (by decide) (w := sWd [109, 101, 114, 103, 101, 115]) (fun i _ => by rw [Nat.zero_add]) e6 rfl rfl (fun h => ?_) (fun h => ?_)
    · refine And.intro (fun z => absurd (show (1 : Int32) = 0 from z) (by decide)) (fun _ => ⟨trivial, ?_⟩)
      have e : sKf f n (sWd [109, 101, 114, 103, 101, 115]) 6 (u + 1) j = some j := by
        show (bif sIsB f (sKey f n j) (sWd [109, 101, 114, 103, 101, 115]) 6 then _ else _) = _
        rw [h]; rfl
      rw [he, e] at hQ
      rw [hx]
      exact hQ
    · refine And.intro (fun _ => ?_) (fun z => absurd (show (0 : Int32) = 0 from rfl) z)
      have e : sKf f n (sWd [109, 101, 114, 103, 101, 115]) 6 (u + 1) j = sKf f n (sWd [109, 101, 114, 103, 101, 115]) 6 u (j + 1) := by
        show (bif sIsB f (sKey f n j) (sWd [109, 101, 114, 103, 101, 115]) 6 then _ else _) = _
        rw [h]; rfl
      exact ih (j + 1) (by omega) (he.trans e) _ (show x + 1 = nI (j + 1) by rw [hx, nI_1])
theorem cl_fk9 (hF : clF f n I) (hG : rfG f n) {k q t : Nat} (hk : k ≤ 24) (h9 : I 5 9 = nI k) (hP : ∀ j, j < k → clP1 f n I j) (hq : q < 14) (ht : t < 256) {qq tt : Int32} (hqq : qq = nI q) (htt : tt = nI t)
    (h1 : ∀ i, sKf f n (sWd [109, 101, 114, 103, 101, 115]) 6 k 0 = some i → sTy f n i = t → Q (some (.int 1)) (shG X T, x2 I 15 q (nI (sVa f n i)), L, F))
    (h2 : ∀ i, sKf f n (sWd [109, 101, 114, 103, 101, 115]) 6 k 0 = some i → ¬ sTy f n i = t → Q (some (.int 0)) (shG X T, x2 I 15 q (nI (sVa f n i)), L, F))
    (h0 : sKf f n (sWd [109, 101, 114, 103, 101, 115]) 6 k 0 = none → Q (some (.int 0)) (shG X T, x2 I 15 q (-1), L, F)) : XM xE0 (d + 3) 90 [.ref 14, .int qq, .ref 1000009, .int tt] (shG X T, I, L, F) Q := by
  have ek : qq.toNatClampNeg = q := by rw [hqq, nI_clamp (by omega)]
  rw [← ek] at h1 h2 h0
  refine XC.block [10] 60 ?_
  refine XC.block [2] 60 ?_
  refine cl_poL9 hF hG hk h9 hP ?_ k 0 (by omega) rfl _ rfl
  have hlt := sKf_lt (f := f) (n := n) (w := sWd [109, 101, 114, 103, 101, 115]) (m := 6) k 0
  have go : ∀ o : Option Nat, o = sKf f n (sWd [109, 101, 114, 103, 101, 115]) 6 k 0 → XC xE0 (d + 3) xM_90 (10, [some (.ref 14), some (.int qq), some (.ref 1000009), some (.int tt), some (.int (rfO o))], [], (shG X T, I, L, F)) Q := by
    intro o ho
    rw [← ho] at h1 h2 h0 hlt
    match o, ho with
    | none, _ =>
      refine XC.block [] 60 ?_
      refine And.intro (fun z => absurd (show (0 : Int32) ≤ -1 from z) (by decide)) (fun _ => ?_)
      refine And.intro (rf_in hqq (by omega) (by decide)) ?_
      exact And.intro (fun _ => ⟨(show (0 : Int32) &&& 1 = 0 by decide), h0 rfl⟩) (fun z => absurd (show (-1 : Int32) < 0 by decide) z)
    | some i, _ =>
      have hi : i < k := by have := hlt i rfl; omega
      obtain ⟨p1, p2, p3, p4⟩ := hP i hi
      have ei : (nI i).toNatClampNeg = i := nI_clamp (by omega)
      have hty : sTy f n i < 256 := hG.1 _
      have g8 : I 8 (nI i).toNatClampNeg = I 8 i := by rw [ei]
      have h1 : sTy f n i = t → Q (some (.int 1)) (shG X T, x2 I 15 qq.toNatClampNeg (I 8 (nI i).toNatClampNeg), L, F) := fun y => by
        have := h1 i rfl y
        rw [← p3, ← g8] at this
        exact this
      have h2 : ¬ sTy f n i = t → Q (some (.int 0)) (shG X T, x2 I 15 qq.toNatClampNeg (I 8 (nI i).toNatClampNeg), L, F) := fun y => by
        have := h2 i rfl y
        rw [← p3, ← g8] at this
        exact this
      refine XC.block [] 60 ?_
      refine And.intro (fun _ => ?_) (fun z => absurd (show 0 ≤ nI i from nI_pos' (by omega)) z)
      refine And.intro (rf_in (i := nI i) rfl (by omega) (by decide)) ?_
      refine And.intro (rf_in hqq (by omega) (by decide)) ?_
      refine And.intro (fun z => absurd (show nI i < 0 from z) (nI_pos (by omega))) (fun _ => ?_)
      refine And.intro (rf_in (i := nI i) rfl (by omega) (by decide)) ?_
      refine And.intro (fun z => ⟨(show (0 : Int32) &&& 1 = 0 by decide), h2 ?_⟩) (fun z => ⟨(show (1 : Int32) &&& 1 = 1 by decide), h1 ?_⟩)
      · have z : ¬ I 7 (nI i).toNatClampNeg = tt := z
        rw [ei, p2, htt, nI_eq (by omega) (by omega)] at z
        exact z
      · have z : ¬ ¬ I 7 (nI i).toNatClampNeg = tt := z
        have z := Classical.not_not.mp z
        rw [ei, p2, htt, nI_eq (by omega) (by omega)] at z
        exact z
  exact go _ rfl
theorem cl_tx10 : ∀ j, j < 4 → xtchr 10 j = nI (sWd [115, 116, 111, 112] j) ∧ sWd [115, 116, 111, 112] j < 256 := by decide +kernel
theorem cl_spL10 (hF : clF f n I) (hG : rfG f n) {p m fr : Nat} (hp : p + f p < n) (hpm : f p = m) (hfm : fr + m ≤ 4) {w : Nat → Nat} (hw : ∀ i, i < m → w i = sWd [115, 116, 111, 112] (fr + i)) {a b mm : Int32} (ha : a = nI p) (hb : b = nI fr) (hm : mm = nI m) (h1 : sIsB f p w m = true → Q (some (.int 1)) (shG X T, I, L, F)) (h0 : sIsB f p w m = false → Q (some (.int 0)) (shG X T, I, L, F)) :
    ∀ (k j : Nat), j + k = m → (∀ i, i < j → f (p + 1 + i) = w i) → ∀ x : Int32, x = nI j → XC xE0 (d + 1) xM_136 (30, [some (.ref 1), some (.int a), some (.ref 1000010), some (.int b), some (.int mm), some (.int x)], [], (shG X T, I, L, F)) Q := by
  have hn := hG.2
  intro k
  induction k with
  | zero =>
    intro j hj hall x hx
    refine XC.block [30] 60 ?_
    exact And.intro (fun z => ⟨(show (1 : Int32) &&& 1 = 1 by decide), h1 (sIsB_iff.mpr ⟨hpm, fun i hi => hall i (by omega)⟩)⟩) (fun z => absurd (show mm ≤ x by rw [hm, hx]; exact nI_le (by omega) (by omega)) z)
  | succ k ih =>
    intro j hj hall x hx
    have e1 : a + 1 + x = nI (p + 1 + j) := by rw [ha, hx, nI_1, nI_add]
    have e2 : b + x = nI (fr + j) := by rw [hb, hx, nI_add]
    have g1 := hG.1 (p + 1 + j)
    obtain ⟨t1, t2⟩ := cl_tx10 (fr + j) (by omega)
    refine XC.block [30] 60 ?_
    refine And.intro (fun z => absurd (show mm ≤ x from z) (by rw [hm, hx]; exact nI_ge (by omega) (by omega))) (fun z => ?_)
    refine cl_at hF hG (p := p + 1 + j) (by omega) e1 (fun _ v hv => ?_) (fun z => absurd z (by omega))
    refine And.intro (rf_in (N := 4) e2 (by omega) (by decide)) ?_
    have ec : xtchr 10 (b + x).toNatClampNeg = nI (w j) := by
      rw [e2, nI_clamp (by omega), t1, hw j (by omega)]
    have hw2 : w j < 256 := by rw [hw j (by omega)]; exact t2
    refine And.intro (fun z => ?_) (fun z => ⟨(show (0 : Int32) &&& 1 = 0 by decide), h0 ?_⟩)
    · have z : v = xtchr 10 (b + x).toNatClampNeg := z
      rw [hv, ec, nI_eq (by omega) (by omega)] at z
      refine ih (j + 1) (by omega) (fun i hi => ?_) _ (show x + 1 = nI (j + 1) by rw [hx, nI_1])
      rcases Nat.lt_or_ge i j with q | q
      · exact hall i q
      · have : i = j := by omega
        subst this
        exact z
    · have z : ¬ v = xtchr 10 (b + x).toNatClampNeg := z
      rw [hv, ec, nI_eq (by omega) (by omega)] at z
      cases hb : sIsB f p w m with
      | false => rfl
      | true => exact absurd ((sIsB_iff.mp hb).2 j (by omega)) z
theorem cl_sp10 (hF : clF f n I) (hG : rfG f n) {p m fr : Nat} (hp : p + f p < n) (hfm : fr + m ≤ 4) {w : Nat → Nat} (hw : ∀ i, i < m → w i = sWd [115, 116, 111, 112] (fr + i)) {a b mm : Int32} (ha : a = nI p) (hb : b = nI fr) (hm : mm = nI m) (h1 : sIsB f p w m = true → Q (some (.int 1)) (shG X T, I, L, F)) (h0 : sIsB f p w m = false → Q (some (.int 0)) (shG X T, I, L, F)) : XM xE0 (d + 1) 136 [.ref 1, .int a, .ref 1000010, .int b, .int mm] (shG X T, I, L, F) Q := by
  have hn := hG.2
  have hfp := hG.1 p
  have ne : ¬ f p = m → sIsB f p w m = false := fun z => by
    cases hb : sIsB f p w m with
    | false => rfl
    | true => exact absurd (sIsB_iff.mp hb).1 z
  refine XC.block [30] 60 ?_
  refine cl_at hF hG (p := p) (by omega) ha (fun _ v hv => ?_) (fun z => absurd z (by omega))
  refine And.intro (fun z => ⟨(show (0 : Int32) &&& 1 = 0 by decide), h0 (ne ?_)⟩) (fun z => ?_)
  · have z : ¬ v = mm := z
    rw [hv, hm, nI_eq (by omega) (by omega)] at z
    exact z
  · have z : ¬ ¬ v = mm := z
    have z := Classical.not_not.mp z
    rw [hv, hm, nI_eq (by omega) (by omega)] at z
    refine And.intro (fun y => absurd (show b < 0 from y) (by rw [hb]; exact nI_pos (by omega))) (fun _ => ?_)
    refine And.intro (fun _ => ?_) (fun y => absurd (show b + mm ≤ nI 4 by rw [hb, hm, nI_add]; exact nI_le (by omega) (by omega)) y)
    exact cl_spL10 hF hG hp z hfm hw ha hb hm h1 h0 m 0 (by omega) (fun i hi => absurd hi (by omega)) _ rfl
theorem cl_poL10 (hF : clF f n I) (hG : rfG f n) {k : Nat} (hk : k ≤ 24) (h9 : I 5 9 = nI k) (hP : ∀ j, j < k → clP1 f n I j) (hQ : Q (some (.int (rfO (sKf f n (sWd [115, 116, 111, 112]) 4 k 0)))) (shG X T, I, L, F)) :
    ∀ (u j : Nat), j + u = k → sKf f n (sWd [115, 116, 111, 112]) 4 k 0 = sKf f n (sWd [115, 116, 111, 112]) 4 u j → ∀ x : Int32, x = nI j → XC xE0 (d + 2) xM_150 (2, [some (.ref 5), some (.ref 1000010), some (.int x)], [], (shG X T, I, L, F)) Q := by
  intro u
  induction u with
  | zero =>
    intro j hj he x hx
    refine XC.block [2] 60 ?_
    refine And.intro (fun z => ⟨trivial, ?_⟩) (fun z => absurd (show I 5 9 ≤ x by rw [h9, hx]; exact nI_le (by omega) (by omega)) z)
    rw [he] at hQ
    exact hQ
  | succ u ih =>
    intro j hj he x hx
    obtain ⟨p1, p2, p3, p4⟩ := hP j (by omega)
    have e6 : I 6 x.toNatClampNeg = nI (sKey f n j) := by rw [hx, nI_clamp (by omega)]; exact p1
    refine XC.block [2] 60 ?_
    refine And.intro (fun z => absurd (show I 5 9 ≤ x from z) (by rw [h9, hx]; exact nI_ge (by omega) (by omega))) (fun z => ?_)
    refine And.intro (rf_in hx (by omega) (by decide)) ?_
    refine cl_sp10 hF hG (p := sKey f n j) (m := 4) (fr := 0) p4 (by decide) (w := sWd [115, 116, 111, 112]) (fun i _ => by rw [Nat.zero_add]) e6 rfl rfl (fun h => ?_) (fun h => ?_)
    · refine And.intro (fun z => absurd (show (1 : Int32) = 0 from z) (by decide)) (fun _ => ⟨trivial, ?_⟩)
      have e : sKf f n (sWd [115, 116, 111, 112]) 4 (u + 1) j = some j := by
        show (bif sIsB f (sKey f n j) (sWd [115, 116, 111, 112]) 4 then _ else _) = _
        rw [h]; rfl
      rw [he, e] at hQ
      rw [hx]
      exact hQ
    · refine And.intro (fun _ => ?_) (fun z => absurd (show (0 : Int32) = 0 from rfl) z)
      have e : sKf f n (sWd [115, 116, 111, 112]) 4 (u + 1) j = sKf f n (sWd [115, 116, 111, 112]) 4 u (j + 1) := by
        show (bif sIsB f (sKey f n j) (sWd [115, 116, 111, 112]) 4 then _ else _) = _
        rw [h]; rfl
      exact ih (j + 1) (by omega) (he.trans e) _ (show x + 1 = nI (j + 1) by rw [hx, nI_1])
theorem cl_fk10 (hF : clF f n I) (hG : rfG f n) {k q t : Nat} (hk : k ≤ 24) (h9 : I 5 9 = nI k) (hP : ∀ j, j < k → clP1 f n I j) (hq : q < 14) (ht : t < 256) {qq tt : Int32} (hqq : qq = nI q) (htt : tt = nI t)
    (h1 : ∀ i, sKf f n (sWd [115, 116, 111, 112]) 4 k 0 = some i → sTy f n i = t → Q (some (.int 1)) (shG X T, x2 I 15 q (nI (sVa f n i)), L, F))
    (h2 : ∀ i, sKf f n (sWd [115, 116, 111, 112]) 4 k 0 = some i → ¬ sTy f n i = t → Q (some (.int 0)) (shG X T, x2 I 15 q (nI (sVa f n i)), L, F))
    (h0 : sKf f n (sWd [115, 116, 111, 112]) 4 k 0 = none → Q (some (.int 0)) (shG X T, x2 I 15 q (-1), L, F)) : XM xE0 (d + 3) 90 [.ref 14, .int qq, .ref 1000010, .int tt] (shG X T, I, L, F) Q := by
  have ek : qq.toNatClampNeg = q := by rw [hqq, nI_clamp (by omega)]
  rw [← ek] at h1 h2 h0
  refine XC.block [10] 60 ?_
  refine XC.block [2] 60 ?_
  refine cl_poL10 hF hG hk h9 hP ?_ k 0 (by omega) rfl _ rfl
  have hlt := sKf_lt (f := f) (n := n) (w := sWd [115, 116, 111, 112]) (m := 4) k 0
  have go : ∀ o : Option Nat, o = sKf f n (sWd [115, 116, 111, 112]) 4 k 0 → XC xE0 (d + 3) xM_90 (10, [some (.ref 14), some (.int qq), some (.ref 1000010), some (.int tt), some (.int (rfO o))], [], (shG X T, I, L, F)) Q := by
    intro o ho
    rw [← ho] at h1 h2 h0 hlt
    match o, ho with
    | none, _ =>
      refine XC.block [] 60 ?_
      refine And.intro (fun z => absurd (show (0 : Int32) ≤ -1 from z) (by decide)) (fun _ => ?_)
      refine And.intro (rf_in hqq (by omega) (by decide)) ?_
      exact And.intro (fun _ => ⟨(show (0 : Int32) &&& 1 = 0 by decide), h0 rfl⟩) (fun z => absurd (show (-1 : Int32) < 0 by decide) z)
    | some i, _ =>
      have hi : i < k := by have := hlt i rfl; omega
      obtain ⟨p1, p2, p3, p4⟩ := hP i hi
      have ei : (nI i).toNatClampNeg = i := nI_clamp (by omega)
      have hty : sTy f n i < 256 := hG.1 _
      have g8 : I 8 (nI i).toNatClampNeg = I 8 i := by rw [ei]
      have h1 : sTy f n i = t → Q (some (.int 1)) (shG X T, x2 I 15 qq.toNatClampNeg (I 8 (nI i).toNatClampNeg), L, F) := fun y => by
        have := h1 i rfl y
        rw [← p3, ← g8] at this
        exact this
      have h2 : ¬ sTy f n i = t → Q (some (.int 0)) (shG X T, x2 I 15 qq.toNatClampNeg (I 8 (nI i).toNatClampNeg), L, F) := fun y => by
        have := h2 i rfl y
        rw [← p3, ← g8] at this
        exact this
      refine XC.block [] 60 ?_
      refine And.intro (fun _ => ?_) (fun z => absurd (show 0 ≤ nI i from nI_pos' (by omega)) z)
      refine And.intro (rf_in (i := nI i) rfl (by omega) (by decide)) ?_
      refine And.intro (rf_in hqq (by omega) (by decide)) ?_
      refine And.intro (fun z => absurd (show nI i < 0 from z) (nI_pos (by omega))) (fun _ => ?_)
      refine And.intro (rf_in (i := nI i) rfl (by omega) (by decide)) ?_
      refine And.intro (fun z => ⟨(show (0 : Int32) &&& 1 = 0 by decide), h2 ?_⟩) (fun z => ⟨(show (1 : Int32) &&& 1 = 1 by decide), h1 ?_⟩)
      · have z : ¬ I 7 (nI i).toNatClampNeg = tt := z
        rw [ei, p2, htt, nI_eq (by omega) (by omega)] at z
        exact z
      · have z : ¬ ¬ I 7 (nI i).toNatClampNeg = tt := z
        have z := Classical.not_not.mp z
        rw [ei, p2, htt, nI_eq (by omega) (by omega)] at z
        exact z
  exact go _ rfl
theorem cl_tx11 : ∀ j, j < 5 → xtchr 11 j = nI (sWd [97, 108, 105, 103, 110] j) ∧ sWd [97, 108, 105, 103, 110] j < 256 := by decide +kernel
theorem cl_spL11 (hF : clF f n I) (hG : rfG f n) {p m fr : Nat} (hp : p + f p < n) (hpm : f p = m) (hfm : fr + m ≤ 5) {w : Nat → Nat} (hw : ∀ i, i < m → w i = sWd [97, 108, 105, 103, 110] (fr + i)) {a b mm : Int32} (ha : a = nI p) (hb : b = nI fr) (hm : mm = nI m) (h1 : sIsB f p w m = true → Q (some (.int 1)) (shG X T, I, L, F)) (h0 : sIsB f p w m = false → Q (some (.int 0)) (shG X T, I, L, F)) :
    ∀ (k j : Nat), j + k = m → (∀ i, i < j → f (p + 1 + i) = w i) → ∀ x : Int32, x = nI j → XC xE0 (d + 1) xM_136 (30, [some (.ref 1), some (.int a), some (.ref 1000011), some (.int b), some (.int mm), some (.int x)], [], (shG X T, I, L, F)) Q := by
  have hn := hG.2
  intro k
  induction k with
  | zero =>
    intro j hj hall x hx
    refine XC.block [30] 60 ?_
    exact And.intro (fun z => ⟨(show (1 : Int32) &&& 1 = 1 by decide), h1 (sIsB_iff.mpr ⟨hpm, fun i hi => hall i (by omega)⟩)⟩) (fun z => absurd (show mm ≤ x by rw [hm, hx]; exact nI_le (by omega) (by omega)) z)
  | succ k ih =>
    intro j hj hall x hx
    have e1 : a + 1 + x = nI (p + 1 + j) := by rw [ha, hx, nI_1, nI_add]
    have e2 : b + x = nI (fr + j) := by rw [hb, hx, nI_add]
    have g1 := hG.1 (p + 1 + j)
    obtain ⟨t1, t2⟩ := cl_tx11 (fr + j) (by omega)
    refine XC.block [30] 60 ?_
    refine And.intro (fun z => absurd (show mm ≤ x from z) (by rw [hm, hx]; exact nI_ge (by omega) (by omega))) (fun z => ?_)
    refine cl_at hF hG (p := p + 1 + j) (by omega) e1 (fun _ v hv => ?_) (fun z => absurd z (by omega))
    refine And.intro (rf_in (N := 5) e2 (by omega) (by decide)) ?_
    have ec : xtchr 11 (b + x).toNatClampNeg = nI (w j) := by
      rw [e2, nI_clamp (by omega), t1, hw j (by omega)]
    have hw2 : w j < 256 := by rw [hw j (by omega)]; exact t2
    refine And.intro (fun z => ?_) (fun z => ⟨(show (0 : Int32) &&& 1 = 0 by decide), h0 ?_⟩)
    · have z : v = xtchr 11 (b + x).toNatClampNeg := z
      rw [hv, ec, nI_eq (by omega) (by omega)] at z
      refine ih (j + 1) (by omega) (fun i hi => ?_) _ (show x + 1 = nI (j + 1) by rw [hx, nI_1])
      rcases Nat.lt_or_ge i j with q | q
      · exact hall i q
      · have : i = j := by omega
        subst this
        exact z
    · have z : ¬ v = xtchr 11 (b + x).toNatClampNeg := z
      rw [hv, ec, nI_eq (by omega) (by omega)] at z
      cases hb : sIsB f p w m with
      | false => rfl
      | true => exact absurd ((sIsB_iff.mp hb).2 j (by omega)) z
theorem cl_sp11 (hF : clF f n I) (hG : rfG f n) {p m fr : Nat} (hp : p + f p < n) (hfm : fr + m ≤ 5) {w : Nat → Nat} (hw : ∀ i, i < m → w i = sWd [97, 108, 105, 103, 110] (fr + i)) {a b mm : Int32} (ha : a = nI p) (hb : b = nI fr) (hm : mm = nI m) (h1 : sIsB f p w m = true → Q (some (.int 1)) (shG X T, I, L, F)) (h0 : sIsB f p w m = false → Q (some (.int 0)) (shG X T, I, L, F)) : XM xE0 (d + 1) 136 [.ref 1, .int a, .ref 1000011, .int b, .int mm] (shG X T, I, L, F) Q := by
  have hn := hG.2
  have hfp := hG.1 p
  have ne : ¬ f p = m → sIsB f p w m = false := fun z => by
    cases hb : sIsB f p w m with
    | false => rfl
    | true => exact absurd (sIsB_iff.mp hb).1 z
  refine XC.block [30] 60 ?_
  refine cl_at hF hG (p := p) (by omega) ha (fun _ v hv => ?_) (fun z => absurd z (by omega))
  refine And.intro (fun z => ⟨(show (0 : Int32) &&& 1 = 0 by decide), h0 (ne ?_)⟩) (fun z => ?_)
  · have z : ¬ v = mm := z
    rw [hv, hm, nI_eq (by omega) (by omega)] at z
    exact z
  · have z : ¬ ¬ v = mm := z
    have z := Classical.not_not.mp z
    rw [hv, hm, nI_eq (by omega) (by omega)] at z
    refine And.intro (fun y => absurd (show b < 0 from y) (by rw [hb]; exact nI_pos (by omega))) (fun _ => ?_)
    refine And.intro (fun _ => ?_) (fun y => absurd (show b + mm ≤ nI 5 by rw [hb, hm, nI_add]; exact nI_le (by omega) (by omega)) y)
    exact cl_spL11 hF hG hp z hfm hw ha hb hm h1 h0 m 0 (by omega) (fun i hi => absurd hi (by omega)) _ rfl
theorem cl_poL11 (hF : clF f n I) (hG : rfG f n) {k : Nat} (hk : k ≤ 24) (h9 : I 5 9 = nI k) (hP : ∀ j, j < k → clP1 f n I j) (hQ : Q (some (.int (rfO (sKf f n (sWd [97, 108, 105, 103, 110]) 5 k 0)))) (shG X T, I, L, F)) :
    ∀ (u j : Nat), j + u = k → sKf f n (sWd [97, 108, 105, 103, 110]) 5 k 0 = sKf f n (sWd [97, 108, 105, 103, 110]) 5 u j → ∀ x : Int32, x = nI j → XC xE0 (d + 2) xM_150 (2, [some (.ref 5), some (.ref 1000011), some (.int x)], [], (shG X T, I, L, F)) Q := by
  intro u
  induction u with
  | zero =>
    intro j hj he x hx
    refine XC.block [2] 60 ?_
    refine And.intro (fun z => ⟨trivial, ?_⟩) (fun z => absurd (show I 5 9 ≤ x by rw [h9, hx]; exact nI_le (by omega) (by omega)) z)
    rw [he] at hQ
    exact hQ
  | succ u ih =>
    intro j hj he x hx
    obtain ⟨p1, p2, p3, p4⟩ := hP j (by omega)
    have e6 : I 6 x.toNatClampNeg = nI (sKey f n j) := by rw [hx, nI_clamp (by omega)]; exact p1
    refine XC.block [2] 60 ?_
    refine And.intro (fun z => absurd (show I 5 9 ≤ x from z) (by rw [h9, hx]; exact nI_ge (by omega) (by omega))) (fun z => ?_)
    refine And.intro (rf_in hx (by omega) (by decide)) ?_
    refine cl_sp11 hF hG (p := sKey f n j) (m := 5) (fr := 0) p4 (by decide) (w := sWd [97, 108, 105, 103, 110]) (fun i _ => by rw [Nat.zero_add]) e6 rfl rfl (fun h => ?_) (fun h => ?_)
    · refine And.intro (fun z => absurd (show (1 : Int32) = 0 from z) (by decide)) (fun _ => ⟨trivial, ?_⟩)
      have e : sKf f n (sWd [97, 108, 105, 103, 110]) 5 (u + 1) j = some j := by
        show (bif sIsB f (sKey f n j) (sWd [97, 108, 105, 103, 110]) 5 then _ else _) = _
        rw [h]; rfl
      rw [he, e] at hQ
      rw [hx]
      exact hQ
    · refine And.intro (fun _ => ?_) (fun z => absurd (show (0 : Int32) = 0 from rfl) z)
      have e : sKf f n (sWd [97, 108, 105, 103, 110]) 5 (u + 1) j = sKf f n (sWd [97, 108, 105, 103, 110]) 5 u (j + 1) := by
        show (bif sIsB f (sKey f n j) (sWd [97, 108, 105, 103, 110]) 5 then _ else _) = _
        rw [h]; rfl
      exact ih (j + 1) (by omega) (he.trans e) _ (show x + 1 = nI (j + 1) by rw [hx, nI_1])
theorem cl_fk11 (hF : clF f n I) (hG : rfG f n) {k q t : Nat} (hk : k ≤ 24) (h9 : I 5 9 = nI k) (hP : ∀ j, j < k → clP1 f n I j) (hq : q < 14) (ht : t < 256) {qq tt : Int32} (hqq : qq = nI q) (htt : tt = nI t)
    (h1 : ∀ i, sKf f n (sWd [97, 108, 105, 103, 110]) 5 k 0 = some i → sTy f n i = t → Q (some (.int 1)) (shG X T, x2 I 15 q (nI (sVa f n i)), L, F))
    (h2 : ∀ i, sKf f n (sWd [97, 108, 105, 103, 110]) 5 k 0 = some i → ¬ sTy f n i = t → Q (some (.int 0)) (shG X T, x2 I 15 q (nI (sVa f n i)), L, F))
    (h0 : sKf f n (sWd [97, 108, 105, 103, 110]) 5 k 0 = none → Q (some (.int 0)) (shG X T, x2 I 15 q (-1), L, F)) : XM xE0 (d + 3) 90 [.ref 14, .int qq, .ref 1000011, .int tt] (shG X T, I, L, F) Q := by
  have ek : qq.toNatClampNeg = q := by rw [hqq, nI_clamp (by omega)]
  rw [← ek] at h1 h2 h0
  refine XC.block [10] 60 ?_
  refine XC.block [2] 60 ?_
  refine cl_poL11 hF hG hk h9 hP ?_ k 0 (by omega) rfl _ rfl
  have hlt := sKf_lt (f := f) (n := n) (w := sWd [97, 108, 105, 103, 110]) (m := 5) k 0
  have go : ∀ o : Option Nat, o = sKf f n (sWd [97, 108, 105, 103, 110]) 5 k 0 → XC xE0 (d + 3) xM_90 (10, [some (.ref 14), some (.int qq), some (.ref 1000011), some (.int tt), some (.int (rfO o))], [], (shG X T, I, L, F)) Q := by
    intro o ho
    rw [← ho] at h1 h2 h0 hlt
    match o, ho with
    | none, _ =>
      refine XC.block [] 60 ?_
      refine And.intro (fun z => absurd (show (0 : Int32) ≤ -1 from z) (by decide)) (fun _ => ?_)
      refine And.intro (rf_in hqq (by omega) (by decide)) ?_
      exact And.intro (fun _ => ⟨(show (0 : Int32) &&& 1 = 0 by decide), h0 rfl⟩) (fun z => absurd (show (-1 : Int32) < 0 by decide) z)
    | some i, _ =>
      have hi : i < k := by have := hlt i rfl; omega
      obtain ⟨p1, p2, p3, p4⟩ := hP i hi
      have ei : (nI i).toNatClampNeg = i := nI_clamp (by omega)
      have hty : sTy f n i < 256 := hG.1 _
      have g8 : I 8 (nI i).toNatClampNeg = I 8 i := by rw [ei]
      have h1 : sTy f n i = t → Q (some (.int 1)) (shG X T, x2 I 15 qq.toNatClampNeg (I 8 (nI i).toNatClampNeg), L, F) := fun y => by
        have := h1 i rfl y
        rw [← p3, ← g8] at this
        exact this
      have h2 : ¬ sTy f n i = t → Q (some (.int 0)) (shG X T, x2 I 15 qq.toNatClampNeg (I 8 (nI i).toNatClampNeg), L, F) := fun y => by
        have := h2 i rfl y
        rw [← p3, ← g8] at this
        exact this
      refine XC.block [] 60 ?_
      refine And.intro (fun _ => ?_) (fun z => absurd (show 0 ≤ nI i from nI_pos' (by omega)) z)
      refine And.intro (rf_in (i := nI i) rfl (by omega) (by decide)) ?_
      refine And.intro (rf_in hqq (by omega) (by decide)) ?_
      refine And.intro (fun z => absurd (show nI i < 0 from z) (nI_pos (by omega))) (fun _ => ?_)
      refine And.intro (rf_in (i := nI i) rfl (by omega) (by decide)) ?_
      refine And.intro (fun z => ⟨(show (0 : Int32) &&& 1 = 0 by decide), h2 ?_⟩) (fun z => ⟨(show (1 : Int32) &&& 1 = 1 by decide), h1 ?_⟩)
      · have z : ¬ I 7 (nI i).toNatClampNeg = tt := z
        rw [ei, p2, htt, nI_eq (by omega) (by omega)] at z
        exact z
      · have z : ¬ ¬ I 7 (nI i).toNatClampNeg = tt := z
        have z := Classical.not_not.mp z
        rw [ei, p2, htt, nI_eq (by omega) (by omega)] at z
        exact z
  exact go _ rfl
theorem cl_tx12 : ∀ j, j < 5 → xtchr 12 j = nI (sWd [101, 109, 98, 101, 100] j) ∧ sWd [101, 109, 98, 101, 100] j < 256 := by decide +kernel
theorem cl_spL12 (hF : clF f n I) (hG : rfG f n) {p m fr : Nat} (hp : p + f p < n) (hpm : f p = m) (hfm : fr + m ≤ 5) {w : Nat → Nat} (hw : ∀ i, i < m → w i = sWd [101, 109, 98, 101, 100] (fr + i)) {a b mm : Int32} (ha : a = nI p) (hb : b = nI fr) (hm : mm = nI m) (h1 : sIsB f p w m = true → Q (some (.int 1)) (shG X T, I, L, F)) (h0 : sIsB f p w m = false → Q (some (.int 0)) (shG X T, I, L, F)) :
    ∀ (k j : Nat), j + k = m → (∀ i, i < j → f (p + 1 + i) = w i) → ∀ x : Int32, x = nI j → XC xE0 (d + 1) xM_136 (30, [some (.ref 1), some (.int a), some (.ref 1000012), some (.int b), some (.int mm), some (.int x)], [], (shG X T, I, L, F)) Q := by
  have hn := hG.2
  intro k
  induction k with
  | zero =>
    intro j hj hall x hx
    refine XC.block [30] 60 ?_
    exact And.intro (fun z => ⟨(show (1 : Int32) &&& 1 = 1 by decide), h1 (sIsB_iff.mpr ⟨hpm, fun i hi => hall i (by omega)⟩)⟩) (fun z => absurd (show mm ≤ x by rw [hm, hx]; exact nI_le (by omega) (by omega)) z)
  | succ k ih =>
    intro j hj hall x hx
    have e1 : a + 1 + x = nI (p + 1 + j) := by rw [ha, hx, nI_1, nI_add]
    have e2 : b + x = nI (fr + j) := by rw [hb, hx, nI_add]
    have g1 := hG.1 (p + 1 + j)
    obtain ⟨t1, t2⟩ := cl_tx12 (fr + j) (by omega)
    refine XC.block [30] 60 ?_
    refine And.intro (fun z => absurd (show mm ≤ x from z) (by rw [hm, hx]; exact nI_ge (by omega) (by omega))) (fun z => ?_)
    refine cl_at hF hG (p := p + 1 + j) (by omega) e1 (fun _ v hv => ?_) (fun z => absurd z (by omega))
    refine And.intro (rf_in (N := 5) e2 (by omega) (by decide)) ?_
    have ec : xtchr 12 (b + x).toNatClampNeg = nI (w j) := by
      rw [e2, nI_clamp (by omega), t1, hw j (by omega)]
    have hw2 : w j < 256 := by rw [hw j (by omega)]; exact t2
    refine And.intro (fun z => ?_) (fun z => ⟨(show (0 : Int32) &&& 1 = 0 by decide), h0 ?_⟩)
    · have z : v = xtchr 12 (b + x).toNatClampNeg := z
      rw [hv, ec, nI_eq (by omega) (by omega)] at z
      refine ih (j + 1) (by omega) (fun i hi => ?_) _ (show x + 1 = nI (j + 1) by rw [hx, nI_1])
      rcases Nat.lt_or_ge i j with q | q
      · exact hall i q
      · have : i = j := by omega
        subst this
        exact z
    · have z : ¬ v = xtchr 12 (b + x).toNatClampNeg := z
      rw [hv, ec, nI_eq (by omega) (by omega)] at z
      cases hb : sIsB f p w m with
      | false => rfl
      | true => exact absurd ((sIsB_iff.mp hb).2 j (by omega)) z
theorem cl_sp12 (hF : clF f n I) (hG : rfG f n) {p m fr : Nat} (hp : p + f p < n) (hfm : fr + m ≤ 5) {w : Nat → Nat} (hw : ∀ i, i < m → w i = sWd [101, 109, 98, 101, 100] (fr + i)) {a b mm : Int32} (ha : a = nI p) (hb : b = nI fr) (hm : mm = nI m) (h1 : sIsB f p w m = true → Q (some (.int 1)) (shG X T, I, L, F)) (h0 : sIsB f p w m = false → Q (some (.int 0)) (shG X T, I, L, F)) : XM xE0 (d + 1) 136 [.ref 1, .int a, .ref 1000012, .int b, .int mm] (shG X T, I, L, F) Q := by
  have hn := hG.2
  have hfp := hG.1 p
  have ne : ¬ f p = m → sIsB f p w m = false := fun z => by
    cases hb : sIsB f p w m with
    | false => rfl
    | true => exact absurd (sIsB_iff.mp hb).1 z
  refine XC.block [30] 60 ?_
  refine cl_at hF hG (p := p) (by omega) ha (fun _ v hv => ?_) (fun z => absurd z (by omega))
  refine And.intro (fun z => ⟨(show (0 : Int32) &&& 1 = 0 by decide), h0 (ne ?_)⟩) (fun z => ?_)
  · have z : ¬ v = mm := z
    rw [hv, hm, nI_eq (by omega) (by omega)] at z
    exact z
  · have z : ¬ ¬ v = mm := z
    have z := Classical.not_not.mp z
    rw [hv, hm, nI_eq (by omega) (by omega)] at z
    refine And.intro (fun y => absurd (show b < 0 from y) (by rw [hb]; exact nI_pos (by omega))) (fun _ => ?_)
    refine And.intro (fun _ => ?_) (fun y => absurd (show b + mm ≤ nI 5 by rw [hb, hm, nI_add]; exact nI_le (by omega) (by omega)) y)
    exact cl_spL12 hF hG hp z hfm hw ha hb hm h1 h0 m 0 (by omega) (fun i hi => absurd hi (by omega)) _ rfl
theorem cl_tx13 : ∀ j, j < 4 → xtchr 13 j = nI (sWd [110, 111, 114, 109] j) ∧ sWd [110, 111, 114, 109] j < 256 := by decide +kernel
theorem cl_spL13 (hF : clF f n I) (hG : rfG f n) {p m fr : Nat} (hp : p + f p < n) (hpm : f p = m) (hfm : fr + m ≤ 4) {w : Nat → Nat} (hw : ∀ i, i < m → w i = sWd [110, 111, 114, 109] (fr + i)) {a b mm : Int32} (ha : a = nI p) (hb : b = nI fr) (hm : mm = nI m) (h1 : sIsB f p w m = true → Q (some (.int 1)) (shG X T, I, L, F)) (h0 : sIsB f p w m = false → Q (some (.int 0)) (shG X T, I, L, F)) :
    ∀ (k j : Nat), j + k = m → (∀ i, i < j → f (p + 1 + i) = w i) → ∀ x : Int32, x = nI j → XC xE0 (d + 1) xM_136 (30, [some (.ref 1), some (.int a), some (.ref 1000013), some (.int b), some (.int mm), some (.int x)], [], (shG X T, I, L, F)) Q := by
  have hn := hG.2
  intro k
  induction k with
  | zero =>
    intro j hj hall x hx
    refine XC.block [30] 60 ?_
    exact And.intro (fun z => ⟨(show (1 : Int32) &&& 1 = 1 by decide), h1 (sIsB_iff.mpr ⟨hpm, fun i hi => hall i (by omega)⟩)⟩) (fun z => absurd (show mm ≤ x by rw [hm, hx]; exact nI_le (by omega) (by omega)) z)
  | succ k ih =>
    intro j hj hall x hx
    have e1 : a + 1 + x = nI (p + 1 + j) := by rw [ha, hx, nI_1, nI_add]
    have e2 : b + x = nI (fr + j) := by rw [hb, hx, nI_add]
    have g1 := hG.1 (p + 1 + j)
    obtain ⟨t1, t2⟩ := cl_tx13 (fr + j) (by omega)
    refine XC.block [30] 60 ?_
    refine And.intro (fun z => absurd (show mm ≤ x from z) (by rw [hm, hx]; exact nI_ge (by omega) (by omega))) (fun z => ?_)
    refine cl_at hF hG (p := p + 1 + j) (by omega) e1 (fun _ v hv => ?_) (fun z => absurd z (by omega))
    refine And.intro (rf_in (N := 4) e2 (by omega) (by decide)) ?_
    have ec : xtchr 13 (b + x).toNatClampNeg = nI (w j) := by
      rw [e2, nI_clamp (by omega), t1, hw j (by omega)]
    have hw2 : w j < 256 := by rw [hw j (by omega)]; exact t2
    refine And.intro (fun z => ?_) (fun z => ⟨(show (0 : Int32) &&& 1 = 0 by decide), h0 ?_⟩)
    · have z : v = xtchr 13 (b + x).toNatClampNeg := z
      rw [hv, ec, nI_eq (by omega) (by omega)] at z
      refine ih (j + 1) (by omega) (fun i hi => ?_) _ (show x + 1 = nI (j + 1) by rw [hx, nI_1])
      rcases Nat.lt_or_ge i j with q | q
      · exact hall i q
      · have : i = j := by omega
        subst this
        exact z
    · have z : ¬ v = xtchr 13 (b + x).toNatClampNeg := z
      rw [hv, ec, nI_eq (by omega) (by omega)] at z
      cases hb : sIsB f p w m with
      | false => rfl
      | true => exact absurd ((sIsB_iff.mp hb).2 j (by omega)) z
theorem cl_sp13 (hF : clF f n I) (hG : rfG f n) {p m fr : Nat} (hp : p + f p < n) (hfm : fr + m ≤ 4) {w : Nat → Nat} (hw : ∀ i, i < m → w i = sWd [110, 111, 114, 109] (fr + i)) {a b mm : Int32} (ha : a = nI p) (hb : b = nI fr) (hm : mm = nI m) (h1 : sIsB f p w m = true → Q (some (.int 1)) (shG X T, I, L, F)) (h0 : sIsB f p w m = false → Q (some (.int 0)) (shG X T, I, L, F)) : XM xE0 (d + 1) 136 [.ref 1, .int a, .ref 1000013, .int b, .int mm] (shG X T, I, L, F) Q := by
  have hn := hG.2
  have hfp := hG.1 p
  have ne : ¬ f p = m → sIsB f p w m = false := fun z => by
    cases hb : sIsB f p w m with
    | false => rfl
    | true => exact absurd (sIsB_iff.mp hb).1 z
  refine XC.block [30] 60 ?_
  refine cl_at hF hG (p := p) (by omega) ha (fun _ v hv => ?_) (fun z => absurd z (by omega))
  refine And.intro (fun z => ⟨(show (0 : Int32) &&& 1 = 0 by decide), h0 (ne ?_)⟩) (fun z => ?_)
  · have z : ¬ v = mm := z
    rw [hv, hm, nI_eq (by omega) (by omega)] at z
    exact z
  · have z : ¬ ¬ v = mm := z
    have z := Classical.not_not.mp z
    rw [hv, hm, nI_eq (by omega) (by omega)] at z
    refine And.intro (fun y => absurd (show b < 0 from y) (by rw [hb]; exact nI_pos (by omega))) (fun _ => ?_)
    refine And.intro (fun _ => ?_) (fun y => absurd (show b + mm ≤ nI 4 by rw [hb, hm, nI_add]; exact nI_le (by omega) (by omega)) y)
    exact cl_spL13 hF hG hp z hfm hw ha hb hm h1 h0 m 0 (by omega) (fun i hi => absurd hi (by omega)) _ rfl
theorem cl_tx14 : ∀ j, j < 3 → xtchr 14 j = nI (sWd [111, 117, 116] j) ∧ sWd [111, 117, 116] j < 256 := by decide +kernel
theorem cl_spL14 (hF : clF f n I) (hG : rfG f n) {p m fr : Nat} (hp : p + f p < n) (hpm : f p = m) (hfm : fr + m ≤ 3) {w : Nat → Nat} (hw : ∀ i, i < m → w i = sWd [111, 117, 116] (fr + i)) {a b mm : Int32} (ha : a = nI p) (hb : b = nI fr) (hm : mm = nI m) (h1 : sIsB f p w m = true → Q (some (.int 1)) (shG X T, I, L, F)) (h0 : sIsB f p w m = false → Q (some (.int 0)) (shG X T, I, L, F)) :
    ∀ (k j : Nat), j + k = m → (∀ i, i < j → f (p + 1 + i) = w i) → ∀ x : Int32, x = nI j → XC xE0 (d + 1) xM_136 (30, [some (.ref 1), some (.int a), some (.ref 1000014), some (.int b), some (.int mm), some (.int x)], [], (shG X T, I, L, F)) Q := by
  have hn := hG.2
  intro k
  induction k with
  | zero =>
    intro j hj hall x hx
    refine XC.block [30] 60 ?_
    exact And.intro (fun z => ⟨(show (1 : Int32) &&& 1 = 1 by decide), h1 (sIsB_iff.mpr ⟨hpm, fun i hi => hall i (by omega)⟩)⟩) (fun z => absurd (show mm ≤ x by rw [hm, hx]; exact nI_le (by omega) (by omega)) z)
  | succ k ih =>
    intro j hj hall x hx
    have e1 : a + 1 + x = nI (p + 1 + j) := by rw [ha, hx, nI_1, nI_add]
    have e2 : b + x = nI (fr + j) := by rw [hb, hx, nI_add]
    have g1 := hG.1 (p + 1 + j)
    obtain ⟨t1, t2⟩ := cl_tx14 (fr + j) (by omega)
    refine XC.block [30] 60 ?_
    refine And.intro (fun z => absurd (show mm ≤ x from z) (by rw [hm, hx]; exact nI_ge (by omega) (by omega))) (fun z => ?_)
    refine cl_at hF hG (p := p + 1 + j) (by omega) e1 (fun _ v hv => ?_) (fun z => absurd z (by omega))
    refine And.intro (rf_in (N := 3) e2 (by omega) (by decide)) ?_
    have ec : xtchr 14 (b + x).toNatClampNeg = nI (w j) := by
      rw [e2, nI_clamp (by omega), t1, hw j (by omega)]
    have hw2 : w j < 256 := by rw [hw j (by omega)]; exact t2
    refine And.intro (fun z => ?_) (fun z => ⟨(show (0 : Int32) &&& 1 = 0 by decide), h0 ?_⟩)
    · have z : v = xtchr 14 (b + x).toNatClampNeg := z
      rw [hv, ec, nI_eq (by omega) (by omega)] at z
      refine ih (j + 1) (by omega) (fun i hi => ?_) _ (show x + 1 = nI (j + 1) by rw [hx, nI_1])
      rcases Nat.lt_or_ge i j with q | q
      · exact hall i q
      · have : i = j := by omega
        subst this
        exact z
    · have z : ¬ v = xtchr 14 (b + x).toNatClampNeg := z
      rw [hv, ec, nI_eq (by omega) (by omega)] at z
      cases hb : sIsB f p w m with
      | false => rfl
      | true => exact absurd ((sIsB_iff.mp hb).2 j (by omega)) z
theorem cl_sp14 (hF : clF f n I) (hG : rfG f n) {p m fr : Nat} (hp : p + f p < n) (hfm : fr + m ≤ 3) {w : Nat → Nat} (hw : ∀ i, i < m → w i = sWd [111, 117, 116] (fr + i)) {a b mm : Int32} (ha : a = nI p) (hb : b = nI fr) (hm : mm = nI m) (h1 : sIsB f p w m = true → Q (some (.int 1)) (shG X T, I, L, F)) (h0 : sIsB f p w m = false → Q (some (.int 0)) (shG X T, I, L, F)) : XM xE0 (d + 1) 136 [.ref 1, .int a, .ref 1000014, .int b, .int mm] (shG X T, I, L, F) Q := by
  have hn := hG.2
  have hfp := hG.1 p
  have ne : ¬ f p = m → sIsB f p w m = false := fun z => by
    cases hb : sIsB f p w m with
    | false => rfl
    | true => exact absurd (sIsB_iff.mp hb).1 z
  refine XC.block [30] 60 ?_
  refine cl_at hF hG (p := p) (by omega) ha (fun _ v hv => ?_) (fun z => absurd z (by omega))
  refine And.intro (fun z => ⟨(show (0 : Int32) &&& 1 = 0 by decide), h0 (ne ?_)⟩) (fun z => ?_)
  · have z : ¬ v = mm := z
    rw [hv, hm, nI_eq (by omega) (by omega)] at z
    exact z
  · have z : ¬ ¬ v = mm := z
    have z := Classical.not_not.mp z
    rw [hv, hm, nI_eq (by omega) (by omega)] at z
    refine And.intro (fun y => absurd (show b < 0 from y) (by rw [hb]; exact nI_pos (by omega))) (fun _ => ?_)
    refine And.intro (fun _ => ?_) (fun y => absurd (show b + mm ≤ nI 3 by rw [hb, hm, nI_add]; exact nI_le (by omega) (by omega)) y)
    exact cl_spL14 hF hG hp z hfm hw ha hb hm h1 h0 m 0 (by omega) (fun i hi => absurd hi (by omega)) _ rfl
theorem cl_tx15 : ∀ j, j < 36 → xtchr 15 j = nI (sWd [97, 48, 113, 48, 107, 48, 118, 48, 111, 48, 102, 48, 103, 48, 117, 48, 100, 48, 97, 49, 113, 49, 107, 49, 118, 49, 111, 49, 102, 49, 103, 49, 117, 49, 100, 49] j) ∧ sWd [97, 48, 113, 48, 107, 48, 118, 48, 111, 48, 102, 48, 103, 48, 117, 48, 100, 48, 97, 49, 113, 49, 107, 49, 118, 49, 111, 49, 102, 49, 103, 49, 117, 49, 100, 49] j < 256 := by decide +kernel
theorem cl_spL15 (hF : clF f n I) (hG : rfG f n) {p m fr : Nat} (hp : p + f p < n) (hpm : f p = m) (hfm : fr + m ≤ 36) {w : Nat → Nat} (hw : ∀ i, i < m → w i = sWd [97, 48, 113, 48, 107, 48, 118, 48, 111, 48, 102, 48, 103, 48, 117, 48, 100, 48, 97, 49, 113, 49, 107, 49, 118, 49, 111, 49, 102, 49, 103, 49, 117, 49, 100, 49] (fr + i)) {a b mm : Int32} (ha : a = nI p) (hb : b = nI fr) (hm : mm = nI m) (h1 : sIsB f p w m = true → Q (some (.int 1)) (shG X T, I, L, F)) (h0 : sIsB f p w m = false → Q (some (.int 0)) (shG X T, I, L, F)) :
    ∀ (k j : Nat), j + k = m → (∀ i, i < j → f (p + 1 + i) = w i) → ∀ x : Int32, x = nI j → XC xE0 (d + 1) xM_136 (30, [some (.ref 1), some (.int a), some (.ref 1000015), some (.int b), some (.int mm), some (.int x)], [], (shG X T, I, L, F)) Q := by
  have hn := hG.2
  intro k
  induction k with
  | zero =>
    intro j hj hall x hx
    refine XC.block [30] 60 ?_
    exact And.intro (fun z => ⟨(show (1 : Int32) &&& 1 = 1 by decide), h1 (sIsB_iff.mpr ⟨hpm, fun i hi => hall i (by omega)⟩)⟩) (fun z => absurd (show mm ≤ x by rw [hm, hx]; exact nI_le (by omega) (by omega)) z)
  | succ k ih =>
    intro j hj hall x hx
    have e1 : a + 1 + x = nI (p + 1 + j) := by rw [ha, hx, nI_1, nI_add]
    have e2 : b + x = nI (fr + j) := by rw [hb, hx, nI_add]
    have g1 := hG.1 (p + 1 + j)
    obtain ⟨t1, t2⟩ := cl_tx15 (fr + j) (by omega)
    refine XC.block [30] 60 ?_
    refine And.intro (fun z => absurd (show mm ≤ x from z) (by rw [hm, hx]; exact nI_ge (by omega) (by omega))) (fun z => ?_)
    refine cl_at hF hG (p := p + 1 + j) (by omega) e1 (fun _ v hv => ?_) (fun z => absurd z (by omega))
    refine And.intro (rf_in (N := 36) e2 (by omega) (by decide)) ?_
    have ec : xtchr 15 (b + x).toNatClampNeg = nI (w j) := by
      rw [e2, nI_clamp (by omega), t1, hw j (by omega)]
    have hw2 : w j < 256 := by rw [hw j (by omega)]; exact t2
    refine And.intro (fun z => ?_) (fun z => ⟨(show (0 : Int32) &&& 1 = 0 by decide), h0 ?_⟩)
    · have z : v = xtchr 15 (b + x).toNatClampNeg := z
      rw [hv, ec, nI_eq (by omega) (by omega)] at z
      refine ih (j + 1) (by omega) (fun i hi => ?_) _ (show x + 1 = nI (j + 1) by rw [hx, nI_1])
      rcases Nat.lt_or_ge i j with q | q
      · exact hall i q
      · have : i = j := by omega
        subst this
        exact z
    · have z : ¬ v = xtchr 15 (b + x).toNatClampNeg := z
      rw [hv, ec, nI_eq (by omega) (by omega)] at z
      cases hb : sIsB f p w m with
      | false => rfl
      | true => exact absurd ((sIsB_iff.mp hb).2 j (by omega)) z
theorem cl_sp15 (hF : clF f n I) (hG : rfG f n) {p m fr : Nat} (hp : p + f p < n) (hfm : fr + m ≤ 36) {w : Nat → Nat} (hw : ∀ i, i < m → w i = sWd [97, 48, 113, 48, 107, 48, 118, 48, 111, 48, 102, 48, 103, 48, 117, 48, 100, 48, 97, 49, 113, 49, 107, 49, 118, 49, 111, 49, 102, 49, 103, 49, 117, 49, 100, 49] (fr + i)) {a b mm : Int32} (ha : a = nI p) (hb : b = nI fr) (hm : mm = nI m) (h1 : sIsB f p w m = true → Q (some (.int 1)) (shG X T, I, L, F)) (h0 : sIsB f p w m = false → Q (some (.int 0)) (shG X T, I, L, F)) : XM xE0 (d + 1) 136 [.ref 1, .int a, .ref 1000015, .int b, .int mm] (shG X T, I, L, F) Q := by
  have hn := hG.2
  have hfp := hG.1 p
  have ne : ¬ f p = m → sIsB f p w m = false := fun z => by
    cases hb : sIsB f p w m with
    | false => rfl
    | true => exact absurd (sIsB_iff.mp hb).1 z
  refine XC.block [30] 60 ?_
  refine cl_at hF hG (p := p) (by omega) ha (fun _ v hv => ?_) (fun z => absurd z (by omega))
  refine And.intro (fun z => ⟨(show (0 : Int32) &&& 1 = 0 by decide), h0 (ne ?_)⟩) (fun z => ?_)
  · have z : ¬ v = mm := z
    rw [hv, hm, nI_eq (by omega) (by omega)] at z
    exact z
  · have z : ¬ ¬ v = mm := z
    have z := Classical.not_not.mp z
    rw [hv, hm, nI_eq (by omega) (by omega)] at z
    refine And.intro (fun y => absurd (show b < 0 from y) (by rw [hb]; exact nI_pos (by omega))) (fun _ => ?_)
    refine And.intro (fun _ => ?_) (fun y => absurd (show b + mm ≤ nI 36 by rw [hb, hm, nI_add]; exact nI_le (by omega) (by omega)) y)
    exact cl_spL15 hF hG hp z hfm hw ha hb hm h1 h0 m 0 (by omega) (fun i hi => absurd hi (by omega)) _ rfl
end CLF
