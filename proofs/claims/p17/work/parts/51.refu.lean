/-! the HALVES of the DATA -/
/-- a HALF that is none or too great -/
def rfHw (most h : Int64) : Prop := ¬ 0 < lg_cmp h most ∧ 0 ≤ lg_cmp h (-most)
def sMo (f : Nat → Nat) (n b i : Nat) : Int64 := (if sPk f n b i = 0 then 16 else 1) <<< ((24 : Int32).toInt64 &&& 63)
/-- all HALVES of TENSOR i are within bounds -/
def sWt (f : Nat → Nat) (n b B i : Nat) : Prop := ∀ s, s < sBk f n b i → rfHw (sMo f n b i) (rfHf (nI (sNum f (B + sOf f n b i + sSt f n b i * s) 2)))
section RFU
variable {f : Nat → Nat} {n b t : Nat} {I J : Nat → Nat → Int32} {L : Nat → Nat → Int64} {F : Nat → Nat → UInt32} {d : Nat} {Q : xP}
abbrev rfLw (x st : Int32) (mo : Int64) (p : Int32) (y6 : Option Value) : xL := [some (.ref 0), some (.int x), some (.int st), some (.long mo), none, some (.int p), y6, none]
theorem rf_pl229 (hG : rfG f n) (hF : rfF f n I) (hU : rfU f n b t I) {B i : Nat} (h24 : I 0 24 = nI B) (hi : i < t) (hpl : B + (sOf f n b i + sOc f n b i) ≤ n) {x st : Int32} (hx : x = nI i) (hst : st = nI (sSt f n b i)) {P : Prop}
    (hgo : ∀ J' p y6, rfR I J' → rfSt 12 (P ∧ sWt f n b B i) J' → XC xE0 (d + 2) xM_51 (295, rfLw x st (sMo f n b i) p y6, [], (sh2, J', L, F)) Q) :
    ∀ (u s : Nat), s + u = sBk f n b i → ∀ J, rfR I J → rfSt 12 (P ∧ ∀ l, l < s → rfHw (sMo f n b i) (rfHf (nI (sNum f (B + sOf f n b i + sSt f n b i * l) 2)))) J → ∀ p y6, p = nI (sSt f n b i * s) → XC xE0 (d + 2) xM_51 (229, rfLw x st (sMo f n b i) p y6, [], (sh2, J, L, F)) Q := by
  have ht := hU.2.1
  have hn := hG.2
  have hst2 := sSt_le (f := f) (n := n) (b := b) (i := i)
  intro u
  induction u with
  | zero =>
    intro s hs J D S p y6 hp
    have UJ := hU.ag D.toD
    have e : sSt f n b i * s = sOc f n b i := by unfold sOc; rw [← hs]; rfl
    refine XC.block [295] 60 ?_
    refine rf_octets UJ hi hx (fun v hv => ?_)
    refine And.intro (fun _ => hgo J _ _ D (S.iff ⟨fun w => ⟨w.1, fun l hl => w.2 l (by omega)⟩, fun w => ⟨w.1, fun l hl => w.2 l (by omega)⟩⟩)) (fun z => absurd (show v ≤ p by rw [hv, hp, e]; exact nI_le (Nat.le_refl _) (by omega)) z)
  | succ u ih =>
    intro s hs J D S p y6 hp
    have UJ := hU.ag D.toD
    have FJ := hF.agD D.toD
    have hlt : sSt f n b i * s + sSt f n b i ≤ sOc f n b i := by
      unfold sOc
      rw [← Nat.mul_succ]
      exact Nat.mul_le_mul_left _ (by omega)
    obtain ⟨-, -, -, -, d9, d9b⟩ := UJ.2.2 i hi
    have e9 : J 9 x.toNatClampNeg = nI (sOf f n b i) := by rw [hx, nI_clamp (by omega)]; exact d9
    have j24 : J 0 24 = nI B := (D 0 24 (by omega) (by decide)).trans h24
    have e1 : J 0 24 + J 9 x.toNatClampNeg + p = nI (B + sOf f n b i + sSt f n b i * s) := by rw [j24, e9, hp, nI_add, nI_add]
    have hp1 : p + st = nI (sSt f n b i * (s + 1)) := by rw [hp, hst, nI_add, Nat.mul_succ]
    have step : ∀ J' h, rfR I J' → rfSt 12 ((P ∧ ∀ l, l < s → rfHw (sMo f n b i) (rfHf (nI (sNum f (B + sOf f n b i + sSt f n b i * l) 2)))) ∧ rfHw (sMo f n b i) (rfHf (nI (sNum f (B + sOf f n b i + sSt f n b i * s) 2)))) J' → XC xE0 (d + 2) xM_51 (286, [some (.ref 0), some (.int x), some (.int st), some (.long (sMo f n b i)), none, some (.int p), some (.long h), none], [], (sh2, J', L, F)) Q := by
      intro J' h D' S'
      refine XC.block [229] 60 ?_
      refine ih (s + 1) (by omega) J' D' (S'.iff ⟨fun w => ⟨w.1.1, fun l hl => ?_⟩, fun w => ⟨⟨w.1, fun l hl => w.2 l (by omega)⟩, w.2 s (by omega)⟩⟩) _ _ hp1
      rcases Nat.lt_or_ge l s with q | q
      · exact w.1.2 l q
      · have : l = s := by omega
        subst this
        exact w.2
    refine XC.block [259, 295] 60 ?_
    refine rf_octets UJ hi hx (fun v hv => ?_)
    refine And.intro (fun z => absurd (show v ≤ p from z) (by rw [hv, hp]; exact nI_ge (by omega) (by omega))) (fun _ => ?_)
    refine And.intro (rf_in hx (by omega) (by decide)) ?_
    refine rf_half FJ hG.1 (p := B + sOf f n b i + sSt f n b i * s) (by omega) e1 ?_
    have go : ∀ h, h = rfHf (nI (sNum f (B + sOf f n b i + sSt f n b i * s) 2)) → XC xE0 (d + 2) xM_51 (259, [some (.ref 0), some (.int x), some (.int st), some (.long (sMo f n b i)), none, some (.int p), some (.long h), none], [], (sh2, J, L, F)) Q := by
      intro h hh
      rw [← hh] at step
      have bad : ¬ rfHw (sMo f n b i) h → XC xE0 (d + 2) xM_51 (275, [some (.ref 0), some (.int x), some (.int st), some (.long (sMo f n b i)), none, some (.int p), some (.long h), none], [.ref 0], (sh2, J, L, F)) Q := fun hb => by
        refine XC.block [286] 60 ?_
        exact rf_st1 (by decide) S (fun J' D' S' => step J' h (D.tr D') (S'.iff ⟨fun q => q.elim, fun q => hb q.2⟩))
      refine XC.block [275, 286] 60 ?_
      refine And.intro (fun z => bad (fun w => w.1 z)) (fun z1 => ?_)
      exact And.intro (fun z => rf_bad0 (step J h D (S.iff ⟨fun q => ⟨q, z1, z⟩, fun q => q.1⟩))) (fun z => bad (fun w => z w.2))
    exact go _ rfl
theorem rf_pl160F {x : Int32} {y2 y3 y4 y5 y6 y7 : Option Value} (h : ¬ J 0 3 ≤ 0) (hQ : Q none (sh2, J, L, F)) : XC xE0 (d + 2) xM_51 (160, [some (.ref 0), some (.int x), y2, y3, y4, y5, y6, y7], [], (sh2, J, L, F)) Q := by
  refine XC.block [] 60 ?_
  refine And.intro (fun _ => ⟨trivial, hQ⟩) (fun _ => ?_)
  exact And.intro (fun _ => ⟨trivial, hQ⟩) (fun z => absurd (rf_ne0 h) z)
theorem rf_pl160 (hG : rfG f n) (hF : rfF f n I) (hU : rfU f n b t I) {B : Nat} (h24 : I 0 24 = nI B) (hpl : ∀ i, i < t → B + (sOf f n b i + sOc f n b i) ≤ n)
    (hQ : ∀ J', rfR I J' → rfSt 12 (∀ i, i < t → sWt f n b B i) J' → Q none (sh2, J', L, F)) :
    ∀ (u i : Nat), i + u = t → ∀ J, rfR I J → J 0 3 = 0 → (∀ l, l < i → sWt f n b B l) → ∀ x y2 y3 y4 y5 y6, x = nI i → XC xE0 (d + 2) xM_51 (160, [some (.ref 0), some (.int x), y2, y3, y4, y5, y6, none], [], (sh2, J, L, F)) Q := by
  have ht := hU.2.1
  intro u
  induction u with
  | zero =>
    intro i hi J D h3 hall x y2 y3 y4 y5 y6 hx
    have UJ := hU.ag D.toD
    refine XC.block [] 60 ?_
    exact And.intro (fun _ => ⟨trivial, hQ J D (Or.inl ⟨h3, fun l hl => hall l (by omega)⟩)⟩) (fun z => absurd (show J 0 14 ≤ x by rw [UJ.1, hx]; exact nI_le (by omega) (by omega)) z)
  | succ u ih =>
    intro i hi J D h3 hall x y2 y3 y4 y5 y6 hx
    have UJ := hU.ag D.toD
    have hx1 : x + 1 = nI (i + 1) := by rw [hx, nI_1]
    obtain ⟨-, -, -, ⟨d8, d8a, d8b⟩, -⟩ := UJ.2.2 i (by omega)
    have e8 : J 8 x.toNatClampNeg = nI (sPk f n b i) := by rw [hx, nI_clamp (by omega)]; exact d8
    have C229 : ∀ st, st = nI (sSt f n b i) → XC xE0 (d + 2) xM_51 (229, rfLw x st (sMo f n b i) 0 y6, [], (sh2, J, L, F)) Q := by
      intro st hst
      refine rf_pl229 (I := I) hG hF hU h24 (by omega) (hpl i (by omega)) hx hst (P := True) (fun J' p y6' D' S' => ?_) (sBk f n b i) 0 (by omega) J D (Or.inl ⟨h3, trivial, fun l hl => absurd hl (by omega)⟩) _ _ rfl
      refine XC.block [160] 60 ?_
      rcases S' with y | y
      · refine ih (i + 1) (by omega) J' D' y.1 (fun l hl => ?_) _ _ _ _ _ _ hx1
        rcases Nat.lt_or_ge l i with q | q
        · exact hall l q
        · have : l = i := by omega
          subst this
          exact y.2.2
      · refine rf_pl160F (show ¬ J' 0 3 ≤ 0 by rw [y.1]; decide) (hQ J' D' (Or.inr ⟨y.1, fun w => y.2 ⟨trivial, w i (by omega)⟩⟩))
    have C206 : ∀ st, st = nI (sSt f n b i) → XC xE0 (d + 2) xM_51 (206, [some (.ref 0), some (.int x), some (.int st), y3, y4, y5, y6, none], [], (sh2, J, L, F)) Q := by
      intro st hst
      refine XC.block [229] 60 ?_
      refine And.intro (rf_in hx (by omega) (by decide)) ?_
      refine And.intro (fun z => ?_) (fun z => ?_)
      · have z : ¬ J 8 x.toNatClampNeg = 0 := z
        rw [e8, show (0 : Int32) = nI 0 from rfl, nI_eq (by omega) (by omega)] at z
        have := C229 st hst
        rw [show sMo f n b i = (1 : Int64) <<< ((24 : Int32).toInt64 &&& 63) by unfold sMo; rw [if_neg z]] at this
        exact this
      · have z : ¬ ¬ J 8 x.toNatClampNeg = 0 := z
        have z := Classical.not_not.mp z
        rw [e8, show (0 : Int32) = nI 0 from rfl, nI_eq (by omega) (by omega)] at z
        have := C229 st hst
        rw [show sMo f n b i = (16 : Int64) <<< ((24 : Int32).toInt64 &&& 63) by unfold sMo; rw [if_pos z]] at this
        exact this
    refine XC.block [206] 60 ?_
    refine And.intro (fun z => absurd (show J 0 14 ≤ x from z) (by rw [UJ.1, hx]; exact nI_ge (by omega) (by omega))) (fun _ => ?_)
    refine And.intro (fun z => absurd h3 z) (fun _ => ?_)
    refine And.intro (rf_in hx (by omega) (by decide)) ?_
    refine And.intro (fun z => ?_) (fun z => C206 2 ?_)
    · have z : ¬ J 8 x.toNatClampNeg = 0 := z
      rw [e8, show (0 : Int32) = nI 0 from rfl, nI_eq (by omega) (by omega)] at z
      refine And.intro (rf_in hx (by omega) (by decide)) ?_
      refine And.intro (fun w => C206 10 ?_) (fun w => C206 6 ?_)
      · have w : ¬ J 8 x.toNatClampNeg = 1 := w
        rw [e8, show (1 : Int32) = nI 1 from rfl, nI_eq (by omega) (by omega)] at w
        unfold sSt
        rw [if_neg z, if_neg w]
        rfl
      · have w : ¬ ¬ J 8 x.toNatClampNeg = 1 := w
        have w := Classical.not_not.mp w
        rw [e8, show (1 : Int32) = nI 1 from rfl, nI_eq (by omega) (by omega)] at w
        unfold sSt
        rw [if_neg z, if_pos w]
        rfl
    · have z : ¬ ¬ J 8 x.toNatClampNeg = 0 := z
      have z := Classical.not_not.mp z
      rw [e8, show (0 : Int32) = nI 0 from rfl, nI_eq (by omega) (by omega)] at z
      unfold sSt
      rw [if_pos z]
      rfl
theorem sDa_le {a A : Nat} (ha : a ≤ 1400) (hA : 1 ≤ A) (hA2 : A ≤ 64) : sDa a A ≤ 1463 := by
  unfold sDa
  have := Nat.div_mul_le_self (a + A - 1) A
  omega
theorem rf_places (hG : rfG f n) (hF : rfF f n I) (hU : rfU f n b t I) {a A : Nat} (h2 : I 0 2 = nI a) (ha : a ≤ 1400) (hA : 1 ≤ A) (hA2 : A ≤ 64) (h11 : I 10 11 = nI A) (h3 : I 0 3 = 0)
    (hok : (∀ i, i < t → sPl f n b (sDa a A) A i) → (∀ i, i < t → sWt f n b (sDa a A) i) → ∀ J', rfR (x2 I 0 24 (nI (sDa a A))) J' → J' 0 3 = 0 → Q none (sh2, J', L, F))
    (hb11 : ¬ (∀ i, i < t → sPl f n b (sDa a A) A i) → ∀ J', rfR (x2 I 0 24 (nI (sDa a A))) J' → J' 0 3 = 11 → Q none (sh2, J', L, F))
    (hb12 : (∀ i, i < t → sPl f n b (sDa a A) A i) → ¬ (∀ i, i < t → sWt f n b (sDa a A) i) → ∀ J', rfR (x2 I 0 24 (nI (sDa a A))) J' → J' 0 3 = 12 → Q none (sh2, J', L, F)) : XM xE0 (d + 2) 51 [.ref 0] (sh2, I, L, F) Q := by
  have hn := hG.2
  have hD := sDa_le ha hA hA2
  have eD : (I 0 2 + I 10 11 - 1) / I 10 11 * I 10 11 = nI (sDa a A) := by
    rw [h2, h11, nI_add]
    have : a + A = a + A - 1 + 1 := by omega
    rw [this, nI_pred, pk_div (by omega) (by omega) (by omega), nI_mul]
    unfold sDa
    congr 3
  refine XC.block [36] 60 ?_
  refine And.intro (rf_in (j := 11) rfl (by decide) (by decide)) ?_
  refine And.intro (rf_in (j := 11) rfl (by decide) (by decide)) ?_
  refine And.intro (show ¬ I 10 11 = 0 by rw [h11]; exact nI_ne0 hA (by omega)) ?_
  refine And.intro (rf_in (j := 11) rfl (by decide) (by decide)) ?_
  have D0 : rfD I (x2 I 0 24 (nI (sDa a A))) := rfD.rf.st0 (by decide)
  have go : ∀ v, v = nI (sDa a A) → XC xE0 (d + 2) xM_51 (36, [some (.ref 0), some (.int 0), none, none, none, none, none, none], [], (sh2, x2 I 0 24 v, L, F)) Q := by
    intro v hv
    subst hv
    refine rf_pl36 (I := x2 I 0 24 (nI (sDa a A))) (s := n) (hU.ag D0) hA hA2 h11 rfl (by omega) hF.2 hn (fun J' x y2 y3 y4 D' S' => ?_) rfl t 0 (by omega) _ rfR.rf (Or.inl ⟨h3, fun l hl => absurd hl (by omega)⟩) _ _ _ _ rfl
    refine XC.block [160] 60 ?_
    rcases S' with y | y
    · refine rf_pl160 (I := x2 I 0 24 (nI (sDa a A))) hG (hF.agD D0) (hU.ag D0) rfl (fun i hi => (y.2 i hi).1.2) (fun J2 D2 S2 => ?_) t 0 (by omega) J' D' y.1 (fun l hl => absurd hl (by omega)) _ _ _ _ _ _ rfl
      rcases S2 with z | z
      · exact hok y.2 z.2 J2 D2 z.1
      · exact hb12 y.2 z.2 J2 D2 z.1
    · exact rf_pl160F (show ¬ J' 0 3 ≤ 0 by rw [y.1]; decide) (hb11 y.2 J' D' y.1)
  exact go _ eD
end RFU
