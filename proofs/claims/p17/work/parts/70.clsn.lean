/-! the class on paper: TENSORS -/
/-- the first of u INFOS from i on with this NAME -/
def sNg (f : Nat → Nat) (n b : Nat) (w : Nat → Nat) (m : Nat) : Nat → Nat → Option Nat
  | 0, _ => none
  | u + 1, i => bif sIsB f (sNam f n b i) w m then some i else sNg f n b w m u (i + 1)
theorem sNg_lt {f : Nat → Nat} {n b : Nat} {w : Nat → Nat} {m : Nat} : ∀ (u i j : Nat), sNg f n b w m u i = some j → i ≤ j ∧ j < i + u
  | 0, i, j, h => by cases h
  | u + 1, i, j, h => by
    have h : (bif sIsB f (sNam f n b i) w m then some i else sNg f n b w m u (i + 1)) = some j := h
    cases e : sIsB f (sNam f n b i) w m with
    | true => rw [e] at h; injection h with h; omega
    | false => rw [e] at h; have := sNg_lt u (i + 1) j h; omega
def clU (f : Nat → Nat) (n b t : Nat) (J : Nat → Nat → Int32) : Prop := J 5 10 = nI t ∧ t ≤ 24 ∧ ∀ j, j < t → (J 9 j = nI (sNam f n b j) ∧ sNam f n b j + f (sNam f n b j) < n) ∧ (J 10 j = nI (sCo f n b j) ∧ 1 ≤ sCo f n b j ∧ sCo f n b j ≤ 16) ∧ (J 11 j = nI (sRo f n b j) ∧ 1 ≤ sRo f n b j ∧ sRo f n b j ≤ 16) ∧ (J 12 j = nI (sPk f n b j) ∧ sPk f n b j ≤ 2 ∧ (0 < sPk f n b j → sCo f n b j % 8 = 0)) ∧ J 13 j = nI (sOf f n b j) ∧ sOf f n b j < 65536
theorem clU.of {f : Nat → Nat} {n b t k : Nat} {J : Nat → Nat → Int32} (hf : ∀ k, f k < 256) (ht : t ≤ 24) (h : clP f n t k b J) : clU f n b t J := by
  refine ⟨h.1, ht, fun j hj => ?_⟩
  obtain ⟨h1, h2, v, h3, h4, h5, h6, h7⟩ := h.2.2.2 j hj
  have hr := sInf_rng hf h3
  have e : sIv f n b j = v := by unfold sIv; rw [h3]
  have e1 : sCo f n b j = v.1 := by unfold sCo; rw [e]
  have e2 : sRo f n b j = v.2.1 := by unfold sRo; rw [e]
  have e3 : sPk f n b j = v.2.2.1 := by unfold sPk; rw [e]
  have e4 : sOf f n b j = v.2.2.2 := by unfold sOf; rw [e]
  rw [e1, e2, e3, e4]
  exact ⟨⟨h1, h2⟩, ⟨h4, hr.1, hr.2.1⟩, ⟨h5, hr.2.2.1, hr.2.2.2.1⟩, ⟨h6, hr.2.2.2.2.1, hr.2.2.2.2.2.1⟩, h7, hr.2.2.2.2.2.2⟩
section CLO
variable {X : List (Option Nat)} {T : List xS} {f : Nat → Nat} {n b t : Nat} {I J : Nat → Nat → Int32} {L : Nat → Nat → Int64} {F : Nat → Nat → UInt32} {d : Nat} {Q : xP}
theorem cl_to12 (hF : clF f n I) (hG : rfG f n) (hU : clU f n b t I) {m fr : Nat} (hfm : fr + m ≤ 5) {w : Nat → Nat} (hw : ∀ i, i < m → w i = sWd [101, 109, 98, 101, 100] (fr + i)) {b1 mm : Int32} (hb : b1 = nI fr) (hm : mm = nI m) (hQ : ∀ v, v = rfO (sNg f n b w m t 0) → Q (some (.int v)) (shG X T, I, L, F)) : XM xE0 (d + 2) 151 [.ref 5, .ref 1000012, .int b1, .int mm] (shG X T, I, L, F) Q := by
  have ht := hU.2.1
  have loop : ∀ (u j : Nat), j + u = t → sNg f n b w m t 0 = sNg f n b w m u j → ∀ x : Int32, x = nI j → XC xE0 (d + 2) xM_151 (3, [some (.ref 5), some (.ref 1000012), some (.int b1), some (.int mm), some (.int x)], [], (shG X T, I, L, F)) Q := by
    intro u
    induction u with
    | zero =>
      intro j hj he x hx
      refine XC.block [3] 60 ?_
      refine And.intro (fun z => ⟨trivial, hQ _ ?_⟩) (fun z => absurd (show I 5 10 ≤ x by rw [hU.1, hx]; exact nI_le (by omega) (by omega)) z)
      rw [he]; rfl
    | succ u ih =>
      intro j hj he x hx
      obtain ⟨⟨p1, p4⟩, -⟩ := hU.2.2 j (by omega)
      have e9 : I 9 x.toNatClampNeg = nI (sNam f n b j) := by rw [hx, nI_clamp (by omega)]; exact p1
      have hu : sNg f n b w m (u + 1) j = (bif sIsB f (sNam f n b j) w m then some j else sNg f n b w m u (j + 1)) := rfl
      refine XC.block [3] 60 ?_
      refine And.intro (fun z => absurd (show I 5 10 ≤ x from z) (by rw [hU.1, hx]; exact nI_ge (by omega) (by omega))) (fun z => ?_)
      refine And.intro (rf_in hx (by omega) (by decide)) ?_
      refine cl_sp12 hF hG (p := sNam f n b j) (m := m) (fr := fr) p4 hfm hw e9 hb hm (fun h => ?_) (fun h => ?_)
      · refine And.intro (fun z => absurd (show (1 : Int32) = 0 from z) (by decide)) (fun _ => ⟨trivial, hQ _ ?_⟩)
        rw [he, hu, h]; exact hx
      · refine And.intro (fun _ => ?_) (fun z => absurd (show (0 : Int32) = 0 from rfl) z)
        exact ih (j + 1) (by omega) (by rw [he, hu, h]; rfl) _ (show x + 1 = nI (j + 1) by rw [hx, nI_1])
  refine XC.block [3] 60 ?_
  exact loop t 0 (by omega) rfl _ rfl
theorem cl_to13 (hF : clF f n I) (hG : rfG f n) (hU : clU f n b t I) {m fr : Nat} (hfm : fr + m ≤ 4) {w : Nat → Nat} (hw : ∀ i, i < m → w i = sWd [110, 111, 114, 109] (fr + i)) {b1 mm : Int32} (hb : b1 = nI fr) (hm : mm = nI m) (hQ : ∀ v, v = rfO (sNg f n b w m t 0) → Q (some (.int v)) (shG X T, I, L, F)) : XM xE0 (d + 2) 151 [.ref 5, .ref 1000013, .int b1, .int mm] (shG X T, I, L, F) Q := by
  have ht := hU.2.1
  have loop : ∀ (u j : Nat), j + u = t → sNg f n b w m t 0 = sNg f n b w m u j → ∀ x : Int32, x = nI j → XC xE0 (d + 2) xM_151 (3, [some (.ref 5), some (.ref 1000013), some (.int b1), some (.int mm), some (.int x)], [], (shG X T, I, L, F)) Q := by
    intro u
    induction u with
    | zero =>
      intro j hj he x hx
      refine XC.block [3] 60 ?_
      refine And.intro (fun z => ⟨trivial, hQ _ ?_⟩) (fun z => absurd (show I 5 10 ≤ x by rw [hU.1, hx]; exact nI_le (by omega) (by omega)) z)
      rw [he]; rfl
    | succ u ih =>
      intro j hj he x hx
      obtain ⟨⟨p1, p4⟩, -⟩ := hU.2.2 j (by omega)
      have e9 : I 9 x.toNatClampNeg = nI (sNam f n b j) := by rw [hx, nI_clamp (by omega)]; exact p1
      have hu : sNg f n b w m (u + 1) j = (bif sIsB f (sNam f n b j) w m then some j else sNg f n b w m u (j + 1)) := rfl
      refine XC.block [3] 60 ?_
      refine And.intro (fun z => absurd (show I 5 10 ≤ x from z) (by rw [hU.1, hx]; exact nI_ge (by omega) (by omega))) (fun z => ?_)
      refine And.intro (rf_in hx (by omega) (by decide)) ?_
      refine cl_sp13 hF hG (p := sNam f n b j) (m := m) (fr := fr) p4 hfm hw e9 hb hm (fun h => ?_) (fun h => ?_)
      · refine And.intro (fun z => absurd (show (1 : Int32) = 0 from z) (by decide)) (fun _ => ⟨trivial, hQ _ ?_⟩)
        rw [he, hu, h]; exact hx
      · refine And.intro (fun _ => ?_) (fun z => absurd (show (0 : Int32) = 0 from rfl) z)
        exact ih (j + 1) (by omega) (by rw [he, hu, h]; rfl) _ (show x + 1 = nI (j + 1) by rw [hx, nI_1])
  refine XC.block [3] 60 ?_
  exact loop t 0 (by omega) rfl _ rfl
theorem cl_to14 (hF : clF f n I) (hG : rfG f n) (hU : clU f n b t I) {m fr : Nat} (hfm : fr + m ≤ 3) {w : Nat → Nat} (hw : ∀ i, i < m → w i = sWd [111, 117, 116] (fr + i)) {b1 mm : Int32} (hb : b1 = nI fr) (hm : mm = nI m) (hQ : ∀ v, v = rfO (sNg f n b w m t 0) → Q (some (.int v)) (shG X T, I, L, F)) : XM xE0 (d + 2) 151 [.ref 5, .ref 1000014, .int b1, .int mm] (shG X T, I, L, F) Q := by
  have ht := hU.2.1
  have loop : ∀ (u j : Nat), j + u = t → sNg f n b w m t 0 = sNg f n b w m u j → ∀ x : Int32, x = nI j → XC xE0 (d + 2) xM_151 (3, [some (.ref 5), some (.ref 1000014), some (.int b1), some (.int mm), some (.int x)], [], (shG X T, I, L, F)) Q := by
    intro u
    induction u with
    | zero =>
      intro j hj he x hx
      refine XC.block [3] 60 ?_
      refine And.intro (fun z => ⟨trivial, hQ _ ?_⟩) (fun z => absurd (show I 5 10 ≤ x by rw [hU.1, hx]; exact nI_le (by omega) (by omega)) z)
      rw [he]; rfl
    | succ u ih =>
      intro j hj he x hx
      obtain ⟨⟨p1, p4⟩, -⟩ := hU.2.2 j (by omega)
      have e9 : I 9 x.toNatClampNeg = nI (sNam f n b j) := by rw [hx, nI_clamp (by omega)]; exact p1
      have hu : sNg f n b w m (u + 1) j = (bif sIsB f (sNam f n b j) w m then some j else sNg f n b w m u (j + 1)) := rfl
      refine XC.block [3] 60 ?_
      refine And.intro (fun z => absurd (show I 5 10 ≤ x from z) (by rw [hU.1, hx]; exact nI_ge (by omega) (by omega))) (fun z => ?_)
      refine And.intro (rf_in hx (by omega) (by decide)) ?_
      refine cl_sp14 hF hG (p := sNam f n b j) (m := m) (fr := fr) p4 hfm hw e9 hb hm (fun h => ?_) (fun h => ?_)
      · refine And.intro (fun z => absurd (show (1 : Int32) = 0 from z) (by decide)) (fun _ => ⟨trivial, hQ _ ?_⟩)
        rw [he, hu, h]; exact hx
      · refine And.intro (fun _ => ?_) (fun z => absurd (show (0 : Int32) = 0 from rfl) z)
        exact ih (j + 1) (by omega) (by rw [he, hu, h]; rfl) _ (show x + 1 = nI (j + 1) by rw [hx, nI_1])
  refine XC.block [3] 60 ?_
  exact loop t 0 (by omega) rfl _ rfl
theorem cl_to15 (hF : clF f n I) (hG : rfG f n) (hU : clU f n b t I) {m fr : Nat} (hfm : fr + m ≤ 36) {w : Nat → Nat} (hw : ∀ i, i < m → w i = sWd [97, 48, 113, 48, 107, 48, 118, 48, 111, 48, 102, 48, 103, 48, 117, 48, 100, 48, 97, 49, 113, 49, 107, 49, 118, 49, 111, 49, 102, 49, 103, 49, 117, 49, 100, 49] (fr + i)) {b1 mm : Int32} (hb : b1 = nI fr) (hm : mm = nI m) (hQ : ∀ v, v = rfO (sNg f n b w m t 0) → Q (some (.int v)) (shG X T, I, L, F)) : XM xE0 (d + 2) 151 [.ref 5, .ref 1000015, .int b1, .int mm] (shG X T, I, L, F) Q := by
  have ht := hU.2.1
  have loop : ∀ (u j : Nat), j + u = t → sNg f n b w m t 0 = sNg f n b w m u j → ∀ x : Int32, x = nI j → XC xE0 (d + 2) xM_151 (3, [some (.ref 5), some (.ref 1000015), some (.int b1), some (.int mm), some (.int x)], [], (shG X T, I, L, F)) Q := by
    intro u
    induction u with
    | zero =>
      intro j hj he x hx
      refine XC.block [3] 60 ?_
      refine And.intro (fun z => ⟨trivial, hQ _ ?_⟩) (fun z => absurd (show I 5 10 ≤ x by rw [hU.1, hx]; exact nI_le (by omega) (by omega)) z)
      rw [he]; rfl
    | succ u ih =>
      intro j hj he x hx
      obtain ⟨⟨p1, p4⟩, -⟩ := hU.2.2 j (by omega)
      have e9 : I 9 x.toNatClampNeg = nI (sNam f n b j) := by rw [hx, nI_clamp (by omega)]; exact p1
      have hu : sNg f n b w m (u + 1) j = (bif sIsB f (sNam f n b j) w m then some j else sNg f n b w m u (j + 1)) := rfl
      refine XC.block [3] 60 ?_
      refine And.intro (fun z => absurd (show I 5 10 ≤ x from z) (by rw [hU.1, hx]; exact nI_ge (by omega) (by omega))) (fun z => ?_)
      refine And.intro (rf_in hx (by omega) (by decide)) ?_
      refine cl_sp15 hF hG (p := sNam f n b j) (m := m) (fr := fr) p4 hfm hw e9 hb hm (fun h => ?_) (fun h => ?_)
      · refine And.intro (fun z => absurd (show (1 : Int32) = 0 from z) (by decide)) (fun _ => ⟨trivial, hQ _ ?_⟩)
        rw [he, hu, h]; exact hx
      · refine And.intro (fun _ => ?_) (fun z => absurd (show (0 : Int32) = 0 from rfl) z)
        exact ih (j + 1) (by omega) (by rw [he, hu, h]; rfl) _ (show x + 1 = nI (j + 1) by rw [hx, nI_1])
  refine XC.block [3] 60 ?_
  exact loop t 0 (by omega) rfl _ rfl
theorem cl_dataSize (hU : clU f n b t J) {i : Nat} (hi : i < t) {x : Int32} (hx : x = nI i) (hQ : ∀ v, v = nI (sOc f n b i) → Q (some (.int v)) (shG X T, J, L, F)) : XM xE0 d 149 [.ref 5, .int x] (shG X T, J, L, F) Q := by
  have ht := hU.2.1
  obtain ⟨-, ⟨h6, h6a, h6b⟩, ⟨h7, h7a, h7b⟩, ⟨h8, h8a, h8b⟩, -⟩ := hU.2.2 i hi
  have hcr : sCo f n b i * sRo f n b i ≤ 256 := Nat.mul_le_mul h6b h7b
  have ek : x.toNatClampNeg = i := by rw [hx, nI_clamp (by omega)]
  have e6 : J 10 x.toNatClampNeg * J 11 x.toNatClampNeg = nI (sCo f n b i * sRo f n b i) := by rw [ek, h6, h7, nI_mul]
  have e8 : J 12 x.toNatClampNeg = nI (sPk f n b i) := by rw [ek]; exact h8
  refine XC.block [14] 60 ?_
  refine And.intro (rf_in hx (by omega) (by decide)) ?_
  refine And.intro (rf_in hx (by omega) (by decide)) ?_
  have go : ∀ w, w = nI (sCo f n b i * sRo f n b i) → XC xE0 d xM_149 (14, [some (.ref 5), some (.int x), some (.int w)], [], (shG X T, J, L, F)) Q := by
    intro w hw
    refine XC.block [] 60 ?_
    refine And.intro (rf_in hx (by omega) (by decide)) ?_
    refine And.intro (fun z => ?_) (fun z => ⟨trivial, hQ _ ?_⟩)
    · have z : ¬ J 12 x.toNatClampNeg = 0 := z
      rw [e8, show (0 : Int32) = nI 0 from rfl, nI_eq (by omega) (by omega)] at z
      have h88 := h8b (by omega)
      have eq8 : sCo f n b i * sRo f n b i / 8 = sRo f n b i * (sCo f n b i / 8) := by
        have : sCo f n b i = 8 * (sCo f n b i / 8) := by omega
        have e : sCo f n b i * sRo f n b i = 8 * (sRo f n b i * (sCo f n b i / 8)) := by
          conv => lhs; rw [this]
          rw [Nat.mul_comm (sRo f n b i), Nat.mul_assoc]
        omega
      have ed : w / 8 = nI (sRo f n b i * (sCo f n b i / 8)) := by
        rw [hw, show (8 : Int32) = nI 8 from rfl, pk_div (by omega) (by omega) (by omega), eq8]
      refine And.intro (show ¬ (8 : Int32) = 0 by decide) ?_
      refine And.intro (rf_in hx (by omega) (by decide)) ?_
      refine And.intro (fun y => ⟨trivial, hQ _ ?_⟩) (fun y => ⟨trivial, hQ _ ?_⟩)
      · have y : ¬ J 12 x.toNatClampNeg = 1 := y
        rw [e8, show (1 : Int32) = nI 1 from rfl, nI_eq (by omega) (by omega)] at y
        show w / 8 * 10 = _
        rw [ed, show (10 : Int32) = nI 10 from rfl, nI_mul]
        unfold sOc sSt sBk
        rw [if_neg z, if_neg y, if_neg z, Nat.mul_comm 10]
      · have y : ¬ ¬ J 12 x.toNatClampNeg = 1 := y
        have y := Classical.not_not.mp y
        rw [e8, show (1 : Int32) = nI 1 from rfl, nI_eq (by omega) (by omega)] at y
        show w / 8 * 6 = _
        rw [ed, show (6 : Int32) = nI 6 from rfl, nI_mul]
        unfold sOc sSt sBk
        rw [if_neg z, if_pos y, if_neg z, Nat.mul_comm 6]
    · have z : ¬ ¬ J 12 x.toNatClampNeg = 0 := z
      have z := Classical.not_not.mp z
      rw [e8, show (0 : Int32) = nI 0 from rfl, nI_eq (by omega) (by omega)] at z
      show w * 2 = _
      rw [hw, show (2 : Int32) = nI 2 from rfl, nI_mul]
      unfold sOc sSt sBk
      rw [if_pos z, if_pos z, Nat.mul_comm (sCo f n b i), Nat.mul_comm 2]
  exact go _ e6
theorem cl_overlaps (hU : clU f n b t J) {i : Nat} (hi : i < t) {x : Int32} (hx : x = nI i) (h1 : (∃ j, j < i ∧ sOv f n b i j) → Q (some (.int 1)) (shG X T, J, L, F)) (h0 : (∀ j, j < i → ¬ sOv f n b i j) → Q (some (.int 0)) (shG X T, J, L, F)) : XM xE0 (d + 1) 106 [.ref 14, .int x] (shG X T, J, L, F) Q := by
  have ht := hU.2.1
  obtain ⟨-, ⟨c6, c6a, c6b⟩, ⟨c7, c7a, c7b⟩, -, c9, c9b⟩ := hU.2.2 i hi
  have oci := sOc_le c6b c7b
  have e13 : J 13 x.toNatClampNeg = nI (sOf f n b i) := by rw [hx, nI_clamp (by omega)]; exact c9
  have loop : ∀ fr en, fr = nI (sOf f n b i) → en = nI (sOf f n b i + sOc f n b i) → ∀ (u j : Nat), j + u = i → (∀ l, l < j → ¬ sOv f n b i l) → ∀ y y5, y = nI j → XC xE0 (d + 1) xM_106 (24, [some (.ref 14), some (.int x), some (.int fr), some (.int en), some (.int y), y5], [], (shG X T, J, L, F)) Q := by
    intro fr en hfr hen u
    induction u with
    | zero =>
      intro j hj hall y y5 hy
      refine XC.block [24] 60 ?_
      exact And.intro (fun _ => ⟨(show (0 : Int32) &&& 1 = 0 by decide), h0 (fun l hl => hall l (by omega))⟩) (fun z => absurd (show x ≤ y by rw [hx, hy]; exact nI_le (by omega) (by omega)) z)
    | succ u ih =>
      intro j hj hall y y5 hy
      obtain ⟨-, ⟨d6, d6a, d6b⟩, ⟨d7, d7a, d7b⟩, -, d9, d9b⟩ := hU.2.2 j (by omega)
      have ocj := sOc_le d6b d7b
      have ej : J 13 y.toNatClampNeg = nI (sOf f n b j) := by rw [hy, nI_clamp (by omega)]; exact d9
      have next : ¬ sOv f n b i j → ∀ y5, XC xE0 (d + 1) xM_106 (66, [some (.ref 14), some (.int x), some (.int fr), some (.int en), some (.int y), y5], [], (shG X T, J, L, F)) Q := fun hno y5 => by
        refine XC.block [24] 60 ?_
        refine ih (j + 1) (by omega) (fun l hl => ?_) _ _ (show y + 1 = nI (j + 1) by rw [hy, nI_1])
        rcases Nat.lt_or_ge l j with q | q
        · exact hall l q
        · have : l = j := by omega
          subst this
          exact hno
      refine XC.block [66] 60 ?_
      refine And.intro (fun z => absurd (show x ≤ y from z) (by rw [hx, hy]; exact nI_ge (by omega) (by omega))) (fun _ => ?_)
      refine And.intro (rf_in hy (by omega) (by decide)) ?_
      refine cl_dataSize hU (by omega) hy (fun v hv => ?_)
      refine And.intro (fun z => next (fun w => ?_) _) (fun z => ?_)
      · have z : J 13 y.toNatClampNeg + v ≤ fr := z
        rw [ej, hv, nI_add, hfr, nI_leI (by omega) (by omega)] at z
        exact absurd w.1 (by omega)
      · have z : ¬ J 13 y.toNatClampNeg + v ≤ fr := z
        rw [ej, hv, nI_add, hfr, nI_leI (by omega) (by omega)] at z
        refine And.intro (fun w => next (fun o => ?_) _) (fun w => ⟨(show (1 : Int32) &&& 1 = 1 by decide), h1 ⟨j, by omega, by omega, ?_⟩⟩)
        · have w : en ≤ J 13 y.toNatClampNeg := w
          rw [ej, hen, nI_leI (by omega) (by omega)] at w
          exact absurd o.2 (by omega)
        · have w : ¬ en ≤ J 13 y.toNatClampNeg := w
          rw [ej, hen, nI_leI (by omega) (by omega)] at w
          omega
  refine XC.block [10] 60 ?_
  refine And.intro (rf_in hx (by omega) (by decide)) ?_
  refine XC.block [24] 60 ?_
  refine cl_dataSize hU hi hx (fun v hv => ?_)
  exact loop _ _ e13 (show J 13 x.toNatClampNeg + v = _ by rw [e13, hv, nI_add]) i 0 (by omega) (fun l hl => absurd hl (by omega)) _ _ rfl
theorem cl_dataBegin {a A : Nat} (h11 : J 5 11 = nI a) (ha : a ≤ 1400) (hA : 1 ≤ A) (hA2 : A ≤ 64) {x : Int32} (hx : x = nI A) (hQ : ∀ v, v = nI (sDa a A) → Q (some (.int v)) (shG X T, J, L, F)) : XM xE0 d 104 [.ref 14, .int x] (shG X T, J, L, F) Q := by
  have eD : (J 5 11 + x - 1) / x * x = nI (sDa a A) := by
    rw [h11, hx, nI_add]
    have : a + A = a + A - 1 + 1 := by omega
    rw [this, nI_pred, pk_div (by omega) (by omega) (by omega), nI_mul]
    unfold sDa
    congr 3
  refine XC.block [] 60 ?_
  refine And.intro (fun _ => ?_) (fun z => absurd (show (1 : Int32) ≤ x by rw [hx, show (1 : Int32) = nI 1 from rfl]; exact nI_le hA (by omega)) z)
  exact And.intro (show ¬ x = 0 by rw [hx]; exact nI_ne0 hA (by omega)) ⟨trivial, hQ _ eD⟩
theorem cl_placed (hF : clF f n J) (hG : rfG f n) (hU : clU f n b t J) {A B : Nat} (hA : 1 ≤ A) (hA2 : A ≤ 64) (hB : B ≤ 1500) {x y : Int32} (hx : x = nI A) (hy : y = nI B) (h1 : (∀ i, i < t → sPl f n b B A i) → Q (some (.int 1)) (shG X T, J, L, F)) (h0 : ¬ (∀ i, i < t → sPl f n b B A i) → Q (some (.int 0)) (shG X T, J, L, F)) : XM xE0 (d + 2) 105 [.ref 14, .int x, .int y] (shG X T, J, L, F) Q := by
  have ht := hU.2.1
  have hn := hG.2
  have loop : ∀ (u i : Nat), i + u = t → (∀ l, l < i → sPl f n b B A l) → ∀ z, z = nI i → XC xE0 (d + 2) xM_105 (2, [some (.ref 14), some (.int x), some (.int y), some (.int z)], [], (shG X T, J, L, F)) Q := by
    intro u
    induction u with
    | zero =>
      intro i hi hall z hz
      refine XC.block [2] 60 ?_
      exact And.intro (fun _ => ⟨(show (1 : Int32) &&& 1 = 1 by decide), h1 (fun l hl => hall l (by omega))⟩) (fun w => absurd (show J 5 10 ≤ z by rw [hU.1, hz]; exact nI_le (by omega) (by omega)) w)
    | succ u ih =>
      intro i hi hall z hz
      obtain ⟨-, ⟨d6, d6a, d6b⟩, ⟨d7, d7a, d7b⟩, -, d9, d9b⟩ := hU.2.2 i (by omega)
      have oci := sOc_le d6b d7b
      have e13 : J 13 z.toNatClampNeg = nI (sOf f n b i) := by rw [hz, nI_clamp (by omega)]; exact d9
      have erem : J 13 z.toNatClampNeg - J 13 z.toNatClampNeg / x * x = nI (sOf f n b i % A) := by
        rw [e13, hx]; exact pk_rem (by omega) hA (by omega)
      have hml : sOf f n b i % A < 64 := Nat.lt_of_lt_of_le (Nat.mod_lt _ hA) hA2
      refine XC.block [34] 60 ?_
      refine And.intro (fun w => absurd (show J 5 10 ≤ z from w) (by rw [hU.1, hz]; exact nI_ge (by omega) (by omega))) (fun _ => ?_)
      refine And.intro (fun w => absurd (show x < 1 from w) (by rw [hx, show (1 : Int32) = nI 1 from rfl]; exact nI_nlt hA (by omega))) (fun _ => ?_)
      refine And.intro (rf_in hz (by omega) (by decide)) ?_
      refine And.intro (show ¬ x = 0 by rw [hx]; exact nI_ne0 hA (by omega)) ?_
      refine And.intro (fun w => ?_) (fun w => ⟨(show (0 : Int32) &&& 1 = 0 by decide), h0 (fun q => ?_)⟩)
      · have w : J 13 z.toNatClampNeg - J 13 z.toNatClampNeg / x * x = 0 := w
        rw [erem, show (0 : Int32) = nI 0 from rfl, nI_eq (by omega) (by omega)] at w
        refine XC.block [2] 60 ?_
        refine And.intro (rf_in hz (by omega) (by decide)) ?_
        refine cl_dataSize hU (by omega) hz (fun v hv => ?_)
        have es : y + J 13 z.toNatClampNeg + v = nI (B + (sOf f n b i + sOc f n b i)) := by
          rw [hy, e13, hv, nI_add, nI_add]
          congr 1
          omega
        refine And.intro (fun c => ⟨(show (0 : Int32) &&& 1 = 0 by decide), h0 (fun q => ?_)⟩) (fun c => ?_)
        · have c : J 1 1 < y + J 13 z.toNatClampNeg + v := c
          rw [es, hF.2, nI_ltI (by omega) (by omega)] at c
          have := (q i (by omega)).1.2
          omega
        · have c : ¬ J 1 1 < y + J 13 z.toNatClampNeg + v := c
          rw [es, hF.2, nI_ltI (by omega) (by omega)] at c
          refine cl_overlaps hU (by omega) hz (fun o => ?_) (fun o => ?_)
          · refine And.intro (fun s => absurd (show (1 : Int32) = 0 from s) (by decide)) (fun _ => ⟨(show (0 : Int32) &&& 1 = 0 by decide), h0 (fun q => ?_)⟩)
            obtain ⟨j, hj, ov⟩ := o
            exact (q i (by omega)).2 j hj ov
          · refine And.intro (fun _ => ?_) (fun s => absurd (show (0 : Int32) = 0 from rfl) s)
            refine ih (i + 1) (by omega) (fun l hl => ?_) _ (show z + 1 = nI (i + 1) by rw [hz, nI_1])
            rcases Nat.lt_or_ge l i with q | q
            · exact hall l q
            · have : l = i := by omega
              subst this
              exact ⟨⟨w, by omega⟩, o⟩
      · have w : ¬ J 13 z.toNatClampNeg - J 13 z.toNatClampNeg / x * x = 0 := w
        rw [erem, (q i (by omega)).1.1] at w
        exact w rfl
  refine XC.block [2] 60 ?_
  exact loop t 0 (by omega) (fun l hl => absurd hl (by omega)) _ rfl
end CLO
