/-! where the DATA lie -/
def sSt (f : Nat → Nat) (n b i : Nat) : Nat := if sPk f n b i = 0 then 2 else if sPk f n b i = 1 then 6 else 10
def sBk (f : Nat → Nat) (n b i : Nat) : Nat := if sPk f n b i = 0 then sRo f n b i * sCo f n b i else sRo f n b i * (sCo f n b i / 8)
/-- how many OCTETS TENSOR i has -/
def sOc (f : Nat → Nat) (n b i : Nat) : Nat := sSt f n b i * sBk f n b i
theorem sBk_le {f : Nat → Nat} {n b i : Nat} (h1 : sCo f n b i ≤ 16) (h2 : sRo f n b i ≤ 16) : sBk f n b i ≤ 256 := by
  unfold sBk
  split
  · exact Nat.mul_le_mul h2 h1
  · exact Nat.mul_le_mul h2 (Nat.le_trans (Nat.div_le_self _ _) h1)
theorem sSt_le {f : Nat → Nat} {n b i : Nat} : 2 ≤ sSt f n b i ∧ sSt f n b i ≤ 10 := by
  unfold sSt
  split
  · omega
  · split <;> omega
theorem sOc_le {f : Nat → Nat} {n b i : Nat} (h1 : sCo f n b i ≤ 16) (h2 : sRo f n b i ≤ 16) : sOc f n b i ≤ 2560 := Nat.mul_le_mul sSt_le.2 (sBk_le h1 h2)
/-- the FAULT c there is just if P fails -/
def rfSt (c : Int32) (P : Prop) (J : Nat → Nat → Int32) : Prop := (J 0 3 = 0 ∧ P) ∨ (J 0 3 = c ∧ ¬ P)
theorem rfSt.iff {c : Int32} {P P' : Prop} {J : Nat → Nat → Int32} (h : rfSt c P J) (e : P ↔ P') : rfSt c P' J := by
  rcases h with h | h
  · exact Or.inl ⟨h.1, e.mp h.2⟩
  · exact Or.inr ⟨h.1, fun w => h.2 (e.mpr w)⟩
/-- two DATA have an OCTET in common -/
def sOv (f : Nat → Nat) (n b i j : Nat) : Prop := sOf f n b i < sOf f n b j + sOc f n b j ∧ sOf f n b j < sOf f n b i + sOc f n b i
/-- where the DATA begin -/
def sDa (a A : Nat) : Nat := (a + A - 1) / A * A
/-- TENSOR i is well placed -/
def sPl (f : Nat → Nat) (n b B A i : Nat) : Prop := (sOf f n b i % A = 0 ∧ B + (sOf f n b i + sOc f n b i) ≤ n) ∧ ∀ j, j < i → ¬ sOv f n b i j
/-- nothing changes but fault, place -/
def rfR (I I' : Nat → Nat → Int32) : Prop := ∀ b k, (b = 0 → k ≠ 3 ∧ k ≠ 4) → True → I' b k = I b k
theorem rfR.rf {I : Nat → Nat → Int32} : rfR I I := fun _ _ _ _ => rfl
theorem rfR.toD {I J : Nat → Nat → Int32} (h : rfR I J) : rfD I J := fun b k h1 h2 => h b k (fun e => by have := h1 e; omega) trivial
theorem rfR.bad {I J : Nat → Nat → Int32} (h : rfR I J) {c w : Int32} : rfR I (x2 (x2 J 0 3 c) 0 4 w) := by
  intro b k h1 h2
  rw [x2_o _ _ (fun e => by have := h1 e.1; omega), x2_o _ _ (fun e => by have := h1 e.1; omega)]
  exact h b k h1 h2
section RFT
variable {f : Nat → Nat} {n b t : Nat} {I J : Nat → Nat → Int32} {L : Nat → Nat → Int64} {F : Nat → Nat → UInt32} {d : Nat} {Q : xP}
theorem rf_st1 {c w : Int32} {P : Prop} (hc : ¬ c ≤ 0) (S : rfSt c P J) (hgo : ∀ J', rfR J J' → rfSt c False J' → Q none (sh2, J', L, F)) : XM xE0 d 29 [.ref 0, .int 1, .int c, .int w] (sh2, J, L, F) Q := by
  rcases S with h | h
  · exact rf_bad1 h.1 (hgo _ rfR.rf.bad (Or.inr ⟨rfl, id⟩))
  · exact rf_badF (by rw [h.1]; exact hc) (hgo J rfR.rf (Or.inr ⟨h.1, id⟩))
theorem rfR.tr {I J K : Nat → Nat → Int32} (h : rfR I J) (a : rfR J K) : rfR I K := fun b k h1 h2 => (a b k h1 h2).trans (h b k h1 h2)
theorem rf_octets (hU : rfU f n b t J) {i : Nat} (hi : i < t) {x : Int32} (hx : x = nI i) (hQ : ∀ v, v = nI (sOc f n b i) → Q (some (.int v)) (sh2, J, L, F)) : XM xE0 d 50 [.ref 0, .int x] (sh2, J, L, F) Q := by
  have ht := hU.2.1
  obtain ⟨-, ⟨h6, h6a, h6b⟩, ⟨h7, h7a, h7b⟩, ⟨h8, h8a, h8b⟩, -⟩ := hU.2.2 i hi
  have ek : x.toNatClampNeg = i := by rw [hx, nI_clamp (by omega)]
  have e6 : J 6 x.toNatClampNeg = nI (sCo f n b i) := by rw [ek]; exact h6
  have e7 : J 7 x.toNatClampNeg = nI (sRo f n b i) := by rw [ek]; exact h7
  have e8 : J 8 x.toNatClampNeg = nI (sPk f n b i) := by rw [ek]; exact h8
  refine XC.block [] 60 ?_
  refine And.intro (rf_in hx (by omega) (by decide)) ?_
  refine And.intro (rf_in hx (by omega) (by decide)) ?_
  refine And.intro (fun z => ?_) (fun z => ?_)
  · have z : ¬ J 8 x.toNatClampNeg = 0 := z
    rw [e8, show (0 : Int32) = nI 0 from rfl, nI_eq (by omega) (by omega)] at z
    refine And.intro (rf_in hx (by omega) (by decide)) ?_
    refine And.intro (show ¬ (8 : Int32) = 0 by decide) ?_
    refine And.intro (rf_in hx (by omega) (by decide)) ?_
    have ed : J 6 x.toNatClampNeg / 8 = nI (sCo f n b i / 8) := by
      rw [e6, show (8 : Int32) = nI 8 from rfl, pk_div (by omega) (by omega) (by omega)]
    refine And.intro (fun w => ⟨trivial, hQ _ ?_⟩) (fun w => ⟨trivial, hQ _ ?_⟩)
    · have w : ¬ J 8 x.toNatClampNeg = 1 := w
      rw [e8, show (1 : Int32) = nI 1 from rfl, nI_eq (by omega) (by omega)] at w
      show J 7 x.toNatClampNeg * (J 6 x.toNatClampNeg / 8 * 10) = _
      rw [ed, e7, show (10 : Int32) = nI 10 from rfl, nI_mul, nI_mul]
      unfold sOc sSt sBk
      rw [if_neg z, if_neg w, if_neg z, Nat.mul_comm 10, Nat.mul_assoc]
    · have w : ¬ ¬ J 8 x.toNatClampNeg = 1 := w
      have w := Classical.not_not.mp w
      rw [e8, show (1 : Int32) = nI 1 from rfl, nI_eq (by omega) (by omega)] at w
      show J 7 x.toNatClampNeg * (J 6 x.toNatClampNeg / 8 * 6) = _
      rw [ed, e7, show (6 : Int32) = nI 6 from rfl, nI_mul, nI_mul]
      unfold sOc sSt sBk
      rw [if_neg z, if_pos w, if_neg z, Nat.mul_comm 6, Nat.mul_assoc]
  · have z : ¬ ¬ J 8 x.toNatClampNeg = 0 := z
    have z := Classical.not_not.mp z
    rw [e8, show (0 : Int32) = nI 0 from rfl, nI_eq (by omega) (by omega)] at z
    refine And.intro (rf_in hx (by omega) (by decide)) ⟨trivial, hQ _ ?_⟩
    show J 7 x.toNatClampNeg * (2 * J 6 x.toNatClampNeg) = _
    rw [e6, e7, show (2 : Int32) = nI 2 from rfl, nI_mul, nI_mul]
    unfold sOc sSt sBk
    rw [if_pos z, if_pos z, Nat.mul_left_comm]
abbrev rfLp (x fr en : Int32) (y4 : Option Value) : xL := [some (.ref 0), some (.int x), some (.int fr), some (.int en), y4, none, none, none]
/-- the TENSORS before it -/
theorem rf_pl99 (hU : rfU f n b t I) {i : Nat} (hi : i < t) {x fr en : Int32} (hx : x = nI i) (hfr : fr = nI (sOf f n b i)) (hen : en = nI (sOf f n b i + sOc f n b i)) {P : Prop}
    (hgo : ∀ J' y4, rfR I J' → rfSt 11 (P ∧ ∀ j, j < i → ¬ sOv f n b i j) J' → XC xE0 (d + 2) xM_51 (152, rfLp x fr en y4, [], (sh2, J', L, F)) Q) :
    ∀ (u j : Nat), j + u = i → ∀ J, rfR I J → rfSt 11 (P ∧ ∀ l, l < j → ¬ sOv f n b i l) J → ∀ y, y = nI j → XC xE0 (d + 2) xM_51 (99, rfLp x fr en (some (.int y)), [], (sh2, J, L, F)) Q := by
  have ht := hU.2.1
  obtain ⟨-, ⟨c6, c6a, c6b⟩, ⟨c7, c7a, c7b⟩, -, c9, c9b⟩ := hU.2.2 i hi
  have oci := sOc_le c6b c7b
  intro u
  induction u with
  | zero =>
    intro j hj J D S y hy
    have : j = i := by omega
    subst this
    refine XC.block [152] 60 ?_
    exact And.intro (fun _ => hgo J _ D S) (fun z => absurd (show x ≤ y by rw [hx, hy]; exact nI_le (by omega) (by omega)) z)
  | succ u ih =>
    intro j hj J D S y hy
    have UJ := hU.ag D.toD
    obtain ⟨-, ⟨d6, d6a, d6b⟩, ⟨d7, d7a, d7b⟩, -, d9, d9b⟩ := UJ.2.2 j (by omega)
    have ocj := sOc_le d6b d7b
    have hy1 : y + 1 = nI (j + 1) := by rw [hy, nI_1]
    have e9 : J 9 y.toNatClampNeg = nI (sOf f n b j) := by rw [hy, nI_clamp (by omega)]; exact d9
    have step : ∀ J', rfR I J' → rfSt 11 ((P ∧ ∀ l, l < j → ¬ sOv f n b i l) ∧ ¬ sOv f n b i j) J' → XC xE0 (d + 2) xM_51 (99, rfLp x fr en (some (.int (y + 1))), [], (sh2, J', L, F)) Q := by
      intro J' D' S'
      refine ih (j + 1) (by omega) J' D' (S'.iff ⟨fun w => ⟨w.1.1, fun l hl => ?_⟩, fun w => ⟨⟨w.1, fun l hl => w.2 l (by omega)⟩, w.2 j (by omega)⟩⟩) _ hy1
      rcases Nat.lt_or_ge l j with q | q
      · exact w.1.2 l q
      · have : l = j := by omega
        subst this
        exact w.2
    have no : ¬ sOv f n b i j → XC xE0 (d + 2) xM_51 (139, rfLp x fr en (some (.int y)), [.ref 0], (sh2, J, L, F)) Q := fun hn => by
      refine XC.block [99] 60 ?_
      exact rf_bad0 (step J D (S.iff ⟨fun w => ⟨w, hn⟩, fun w => w.1⟩))
    refine XC.block [99, 139, 152] 60 ?_
    refine And.intro (fun z => absurd (show x ≤ y from z) (by rw [hx, hy]; exact nI_ge (by omega) (by omega))) (fun _ => ?_)
    refine And.intro (rf_in hy (by omega) (by decide)) ?_
    refine rf_octets UJ (by omega) hy (fun v hv => ?_)
    refine And.intro (fun z => no (fun w => ?_)) (fun z => ?_)
    · have z : J 9 y.toNatClampNeg + v ≤ fr := z
      rw [e9, hv, nI_add, hfr, nI_leI (by omega) (by omega)] at z
      exact absurd w.1 (by omega)
    · have z : ¬ J 9 y.toNatClampNeg + v ≤ fr := z
      rw [e9, hv, nI_add, hfr, nI_leI (by omega) (by omega)] at z
      refine And.intro (rf_in hy (by omega) (by decide)) ?_
      refine And.intro (fun w => no (fun o => ?_)) (fun w => ?_)
      · have w : en ≤ J 9 y.toNatClampNeg := w
        rw [e9, hen, nI_leI (by omega) (by omega)] at w
        exact absurd o.2 (by omega)
      · have w : ¬ en ≤ J 9 y.toNatClampNeg := w
        rw [e9, hen, nI_leI (by omega) (by omega)] at w
        refine rf_st1 (by decide) S (fun J' D' S' => step J' (D.tr D') (S'.iff ⟨fun q => q.elim, fun q => q.2 ⟨by omega, by omega⟩⟩))
/-- from 36 on: all of them -/
theorem rf_pl36 (hU : rfU f n b t I) {A B s : Nat} (hA : 1 ≤ A) (hA2 : A ≤ 64) (h11 : I 10 11 = nI A) (h24 : I 0 24 = nI B) (hB : B ≤ 1500) (h1 : I 0 1 = nI s) (hs : s ≤ 1400)
    (hgo : ∀ J' x y2 y3 y4, rfR I J' → rfSt 11 (∀ i, i < t → sPl f s b B A i) J' → XC xE0 (d + 2) xM_51 (158, [some (.ref 0), some (.int x), y2, y3, y4, none, none, none], [], (sh2, J', L, F)) Q) (hsn : s = n) :
    ∀ (u i : Nat), i + u = t → ∀ J, rfR I J → rfSt 11 (∀ l, l < i → sPl f n b B A l) J → ∀ x y2 y3 y4, x = nI i → XC xE0 (d + 2) xM_51 (36, [some (.ref 0), some (.int x), y2, y3, y4, none, none, none], [], (sh2, J, L, F)) Q := by
  subst hsn
  have ht := hU.2.1
  intro u
  induction u with
  | zero =>
    intro i hi J D S x y2 y3 y4 hx
    have UJ := hU.ag D.toD
    refine XC.block [158] 60 ?_
    exact And.intro (fun _ => hgo J _ _ _ _ D (S.iff ⟨fun w l hl => w l (by omega), fun w l hl => w l (by omega)⟩)) (fun z => absurd (show J 0 14 ≤ x by rw [UJ.1, hx]; exact nI_le (by omega) (by omega)) z)
  | succ u ih =>
    intro i hi J D S x y2 y3 y4 hx
    have UJ := hU.ag D.toD
    obtain ⟨-, ⟨d6, d6a, d6b⟩, ⟨d7, d7a, d7b⟩, -, d9, d9b⟩ := UJ.2.2 i (by omega)
    have oci := sOc_le d6b d7b
    have hx1 : x + 1 = nI (i + 1) := by rw [hx, nI_1]
    have e9 : J 9 x.toNatClampNeg = nI (sOf f s b i) := by rw [hx, nI_clamp (by omega)]; exact d9
    have j11 : J 10 11 = nI A := (D 10 11 (by omega) (by decide)).trans h11
    have j24 : J 0 24 = nI B := (D 0 24 (by omega) (by decide)).trans h24
    have j1 : J 0 1 = nI s := (D 0 1 (by omega) (by decide)).trans h1
    refine XC.block [59, 158] 60 ?_
    refine And.intro (fun z => absurd (show J 0 14 ≤ x from z) (by rw [UJ.1, hx]; exact nI_ge (by omega) (by omega))) (fun _ => ?_)
    refine And.intro (rf_in hx (by omega) (by decide)) ?_
    refine rf_octets UJ (by omega) hx (fun v hv => ?_)
    have go : ∀ fr en, fr = nI (sOf f s b i) → en = nI (sOf f s b i + sOc f s b i) → XC xE0 (d + 2) xM_51 (59, rfLp x fr en y4, [], (sh2, J, L, F)) Q := by
      intro fr en hfr hen
      have C99 : ∀ J', rfR I J' → rfSt 11 ((∀ l, l < i → sPl f s b B A l) ∧ (sOf f s b i % A = 0 ∧ B + (sOf f s b i + sOc f s b i) ≤ s)) J' → XC xE0 (d + 2) xM_51 (96, rfLp x fr en y4, [], (sh2, J', L, F)) Q := by
        intro J' D' S'
        refine XC.block [99] 60 ?_
        refine rf_pl99 (I := I) hU (by omega) hx hfr hen (P := (∀ l, l < i → sPl f s b B A l) ∧ (sOf f s b i % A = 0 ∧ B + (sOf f s b i + sOc f s b i) ≤ s)) (fun J2 y4 D2 S2 => ?_) i 0 (by omega) J' D' (S'.iff ⟨fun w => ⟨w, fun l hl => absurd hl (by omega)⟩, fun w => w.1⟩) _ rfl
        refine XC.block [36] 60 ?_
        refine ih (i + 1) (by omega) J2 D2 (S2.iff ⟨fun w l hl => ?_, fun w => ⟨⟨fun l hl => w l (by omega), (w i (by omega)).1⟩, (w i (by omega)).2⟩⟩) _ _ _ _ hx1
        rcases Nat.lt_or_ge l i with q | q
        · exact w.1.1 l q
        · have : l = i := by omega
          subst this
          exact ⟨w.1.2, w.2⟩
      have erem : fr - fr / J 10 11 * J 10 11 = nI (sOf f s b i % A) := by
        rw [hfr, j11]; exact pk_rem (by omega) hA (by omega)
      have hml : sOf f s b i % A < 64 := Nat.lt_of_lt_of_le (Nat.mod_lt _ hA) hA2
      have bad : ¬ (sOf f s b i % A = 0 ∧ B + (sOf f s b i + sOc f s b i) ≤ s) → XC xE0 (d + 2) xM_51 (85, rfLp x fr en y4, [.ref 0], (sh2, J, L, F)) Q := fun hb => by
        refine XC.block [96] 60 ?_
        exact rf_st1 (by decide) S (fun J' D' S' => C99 J' (D.tr D') (S'.iff ⟨fun q => q.elim, fun q => hb q.2⟩))
      refine XC.block [85, 96] 60 ?_
      refine And.intro (rf_in (j := 11) rfl (by decide) (by decide)) ?_
      refine And.intro (show ¬ J 10 11 = 0 by rw [j11]; exact nI_ne0 hA (by omega)) ?_
      refine And.intro (fun z => bad (fun w => ?_)) (fun z => ?_)
      · have z : ¬ fr - fr / J 10 11 * J 10 11 = 0 := z
        rw [erem, w.1] at z
        exact z rfl
      · have z : ¬ ¬ fr - fr / J 10 11 * J 10 11 = 0 := z
        have z := Classical.not_not.mp z
        rw [erem, show (0 : Int32) = nI 0 from rfl, nI_eq (by omega) (by omega)] at z
        refine And.intro (fun w => rf_bad0 (C99 J D (S.iff ⟨fun q => ⟨q, z, ?_⟩, fun q => q.1⟩))) (fun w => bad (fun q => ?_))
        · have w : J 0 24 + en ≤ J 0 1 := w
          rw [j24, hen, nI_add, j1, nI_leI (by omega) (by omega)] at w
          exact w
        · have w : ¬ J 0 24 + en ≤ J 0 1 := w
          rw [j24, hen, nI_add, j1, nI_leI (by omega) (by omega)] at w
          exact w q.2
    exact go _ _ e9 (show J 9 x.toNatClampNeg + v = _ by rw [e9, hv, nI_add])
end RFT
