/-! KEYS of the reference: their VALUES -/
theorem rf_n32 {r : UInt32} (h : Jvm.FP.Core.fIsNaN r = false) : vf_n32 r := by
  have h1 : r.toNat % 2 ^ 31 ≤ 2139095040 := (Jvm.FP.Core.ne_nan32 r).mp ((Jvm.FP.Core.notNaN_iff32 r).mp h)
  unfold vf_n32
  rw [UInt32.le_iff_toNat_le, UInt32.toNat_and]
  show r.toNat &&& (2 ^ 31 - 1) ≤ 2139095040
  rw [Nat.and_two_pow_sub_one_eq_mod]
  exact h1
theorem rf_c24 : Jvm.FP.Core.FFin 1266679808 ∧ ¬ Jvm.FP.Core.FZero 1266679808 := by
  rw [Jvm.FP.Core.fin_bits32, Jvm.FP.Core.zero_bits232]
  decide
theorem rf_nn (e : Int64) : vf_n32 (FP.fdiv (FP.l2f e) 1266679808) := rf_n32 (Jvm.FP.Core.fdiv_out (Jvm.FP.Core.l2f_notNaN e) rf_c24.1 rf_c24.2)
section RFO
variable {f : Nat → Nat} {n k : Nat} {I J : Nat → Nat → Int32} {L : Nat → Nat → Int64} {F : Nat → Nat → UInt32} {d : Nat} {Q : xP}
/-- layers, ffn, ctx -/
def sG2 (f : Nat → Nat) (n k : Nat) : Prop := sN f n k 1 % sN f n k 2 = 0 ∧ (1 ≤ sN f n k 3 ∧ sN f n k 3 ≤ 2) ∧ (sN f n k 4 = 8 ∨ sN f n k 4 = 16) ∧ 2 ≤ sN f n k 5 ∧ sN f n k 5 ≤ 8
theorem rf_lkF (hG : rfG f n) (h3 : J 0 3 = 0) (h10 : ∀ j, j < 11 → J 10 j = nI (sN f n k j)) (g1 : sG1 f n k) {x : Int32}
    (hgo : sG2 f n k → XC xE0 (d + 5) xM_42 (478, rfL1 x, [], (sh2, J, L, F)) Q)
    (hbad : ¬ sG2 f n k → XC xE0 (d + 5) xM_42 (478, rfL1 x, [], (sh2, x2 (x2 J 0 3 9) 0 4 (-1), L, F)) Q) : XC xE0 (d + 5) xM_42 (392, rfL1 x, [], (sh2, J, L, F)) Q := by
  have q : ∀ (j c : Nat), j < 11 → c < 2 ^ 31 → (J 10 j = nI c ↔ sN f n k j = c) := fun j c hj hc => by
    rw [h10 j hj]; exact nI_inj (sN_lt hG j) (by omega)
  have r : ∀ (j lo hi : Nat), j < 11 → lo < 2 ^ 31 → hi < 2 ^ 31 → (¬ J 10 j < nI lo ∧ J 10 j ≤ nI hi ↔ lo ≤ sN f n k j ∧ sN f n k j ≤ hi) := fun j lo hi hj hl hh => by
    rw [h10 j hj]; exact nI_rng (sN_lt hG j) hl hh
  have B : ¬ sG2 f n k → XC xE0 (d + 5) xM_42 (467, rfL1 x, [.ref 0], (sh2, J, L, F)) Q := fun z => by
    refine XC.block [478] 60 ?_
    exact rf_bad1 h3 (hbad z)
  have C452 : sN f n k 1 % sN f n k 2 = 0 → (1 ≤ sN f n k 3 ∧ sN f n k 3 ≤ 2) → (sN f n k 4 = 8 ∨ sN f n k 4 = 16) → XC xE0 (d + 5) xM_42 (452, rfL1 x, [.ref 0], (sh2, J, L, F)) Q := fun y1 y2 y3 => by
    refine XC.block [467, 478] 60 ?_
    refine And.intro (rf_in (j := 5) rfl (by decide) (by decide)) ?_
    refine fr_in (fun c1 c2 => ?_) (fun c1 => ?_)
    · have c1 : ¬ J 10 5 < nI 2 := c1
      have c2 : J 10 5 ≤ nI 8 := c2
      exact And.intro (fun _ => rf_bad0 (hgo ⟨y1, y2, y3, (r 5 2 8 (by decide) (by decide) (by decide)).mp ⟨c1, c2⟩⟩)) (fun z => absurd (show ¬ (1 : Int32) = 0 by decide) z)
    · have c1 : J 10 5 < nI 2 ∨ ¬ J 10 5 ≤ nI 8 := c1
      refine And.intro (fun z => absurd (show (0 : Int32) = 0 from rfl) z) (fun _ => B (fun w => ?_))
      have := (r 5 2 8 (by decide) (by decide) (by decide)).mpr w.2.2.2
      exact c1.elim this.1 (fun y => y this.2)
  have C430 : sN f n k 1 % sN f n k 2 = 0 → (1 ≤ sN f n k 3 ∧ sN f n k 3 ≤ 2) → XC xE0 (d + 5) xM_42 (430, rfL1 x, [.ref 0], (sh2, J, L, F)) Q := fun y1 y2 => by
    refine XC.block [452, 467] 60 ?_
    refine And.intro (rf_in (j := 4) rfl (by decide) (by decide)) ?_
    refine And.intro (fun z => C452 y1 y2 (Or.inl ((q 4 8 (by decide) (by decide)).mp z))) (fun z1 => ?_)
    refine And.intro (rf_in (j := 4) rfl (by decide) (by decide)) ?_
    refine And.intro (fun z => B (fun w => ?_)) (fun z => C452 y1 y2 (Or.inr ((q 4 16 (by decide) (by decide)).mp (Classical.not_not.mp z))))
    rcases w.2.2.1 with w | w
    · exact z1 ((q 4 8 (by decide) (by decide)).mpr w)
    · exact z ((q 4 16 (by decide) (by decide)).mpr w)
  have C416 : sN f n k 1 % sN f n k 2 = 0 → XC xE0 (d + 5) xM_42 (416, rfL1 x, [.ref 0], (sh2, J, L, F)) Q := fun y1 => by
    refine XC.block [430, 467] 60 ?_
    refine And.intro (rf_in (j := 3) rfl (by decide) (by decide)) ?_
    refine fr_in (fun c1 c2 => ?_) (fun c1 => ?_)
    · have c1 : ¬ J 10 3 < nI 1 := c1
      have c2 : J 10 3 ≤ nI 2 := c2
      exact And.intro (fun z => absurd (show (1 : Int32) = 0 from z) (by decide)) (fun _ => C430 y1 ((r 3 1 2 (by decide) (by decide) (by decide)).mp ⟨c1, c2⟩))
    · have c1 : J 10 3 < nI 1 ∨ ¬ J 10 3 ≤ nI 2 := c1
      refine And.intro (fun _ => B (fun w => ?_)) (fun z => absurd (show (0 : Int32) = 0 from rfl) z)
      have := (r 3 1 2 (by decide) (by decide) (by decide)).mpr w.2.1
      exact c1.elim this.1 (fun y => y this.2)
  have b1 : sN f n k 1 < 2 ^ 31 := by have := g1.2.1; omega
  have erem : J 10 1 - J 10 1 / J 10 2 * J 10 2 = nI (sN f n k 1 % sN f n k 2) := by
    rw [h10 1 (by decide), h10 2 (by decide)]
    exact pk_rem b1 g1.2.2.1 g1.2.2.2
  have hml : sN f n k 1 % sN f n k 2 < 2 ^ 31 := Nat.lt_of_le_of_lt (Nat.mod_le _ _) b1
  refine XC.block [416, 467] 60 ?_
  refine And.intro (fun z => absurd h3 z) (fun _ => ?_)
  refine And.intro (rf_in (j := 1) rfl (by decide) (by decide)) ?_
  refine And.intro (rf_in (j := 2) rfl (by decide) (by decide)) ?_
  refine And.intro (show ¬ J 10 2 = 0 by rw [h10 2 (by decide)]; exact nI_ne0 g1.2.2.1 g1.2.2.2) ?_
  refine And.intro (fun z => B (fun w => ?_)) (fun z => C416 ?_)
  · have z : ¬ J 10 1 - J 10 1 / J 10 2 * J 10 2 = 0 := z
    rw [erem, w.1] at z
    exact z rfl
  · have z : ¬ ¬ J 10 1 - J 10 1 / J 10 2 * J 10 2 = 0 := z
    have z := Classical.not_not.mp z
    rw [erem, show (0 : Int32) = nI 0 from rfl, nI_eq hml (by omega)] at z
    exact z
theorem rf_lkFF (h : ¬ J 0 3 ≤ 0) {x : Int32} (hgo : XC xE0 (d + 5) xM_42 (478, rfL1 x, [], (sh2, J, L, F)) Q) : XC xE0 (d + 5) xM_42 (392, rfL1 x, [], (sh2, J, L, F)) Q := by
  have B : XC xE0 (d + 5) xM_42 (467, rfL1 x, [.ref 0], (sh2, J, L, F)) Q := by
    refine XC.block [478] 60 ?_
    exact rf_badF h hgo
  have C452 : XC xE0 (d + 5) xM_42 (452, rfL1 x, [.ref 0], (sh2, J, L, F)) Q := by
    refine XC.block [467, 478] 60 ?_
    refine And.intro (rf_in (j := 5) rfl (by decide) (by decide)) ?_
    refine fr_in (fun c1 c2 => ?_) (fun c1 => ?_)
    · exact And.intro (fun _ => rf_badF h hgo) (fun _ => B)
    · exact And.intro (fun _ => rf_badF h hgo) (fun _ => B)
  have C430 : XC xE0 (d + 5) xM_42 (430, rfL1 x, [.ref 0], (sh2, J, L, F)) Q := by
    refine XC.block [452, 467] 60 ?_
    refine And.intro (rf_in (j := 4) rfl (by decide) (by decide)) ?_
    refine And.intro (fun z => C452) (fun z1 => ?_)
    refine And.intro (rf_in (j := 4) rfl (by decide) (by decide)) ?_
    exact And.intro (fun z => B) (fun z => C452)
  refine XC.block [416] 60 ?_
  refine And.intro (fun _ => ?_) (fun z => absurd (rf_ne0 h) z)
  refine XC.block [430, 467] 60 ?_
  refine And.intro (rf_in (j := 3) rfl (by decide) (by decide)) ?_
  refine fr_in (fun c1 c2 => ?_) (fun c1 => ?_)
  · exact And.intro (fun z => B) (fun _ => C430)
  · exact And.intro (fun z => B) (fun _ => C430)
abbrev rfL2 (e b : Int64) : xL := [some (.ref 0), some (.long e), none, some (.long b), none, some (.long 16777216), none, none]
abbrev rfL3 (e b : Int64) (g : Int32) : xL := [some (.ref 0), some (.long e), none, some (.long b), none, some (.long 16777216), none, some (.int g)]
/-- eps and base, in parts -/
def rfEp (f : Nat → Nat) (n k : Nat) : Int64 := rfHf (nI (sNum f (sVk f n k 6) 2))
def rfBa (f : Nat → Nat) (n k : Nat) : Int64 := rfHf (nI (sNum f (sVk f n k 7) 2))
theorem rf_lkG (hG : rfG f n) (hF : rfF f n J) (hK : rfKv f n k J) {x : Int32} (hgo : XC xE0 (d + 5) xM_42 (517, rfL2 (rfEp f n k) (rfBa f n k), [], (sh2, J, L, F)) Q) : XC xE0 (d + 5) xM_42 (478, rfL1 x, [], (sh2, J, L, F)) Q := by
  obtain ⟨i6, a1, a2, a3, e6, a4⟩ := hK 6 (by decide)
  obtain ⟨i7, b1, b2, b3, e7, b4⟩ := hK 7 (by decide)
  have a4 := sVal_1 (show sVal f n 1 (sVk f n k 6) = .inr e6 from a4)
  have b4 := sVal_1 (show sVal f n 1 (sVk f n k 7) = .inr e7 from b4)
  have hn := hG.2
  have go : XC xE0 (d + 5) xM_42 (495, [some (.ref 0), some (.long (rfEp f n k)), none, none, none, none, none, none], [], (sh2, J, L, F)) Q := by
    refine XC.block [517] 60 ?_
    refine And.intro (rf_in (j := 7) rfl (by decide) (by decide)) ?_
    refine And.intro (rf_in b1 (by omega) (by decide)) ?_
    refine rf_half hF hG.1 (p := sVk f n k 7) (by omega) ?_ hgo
    show J 4 (J 16 7).toNatClampNeg = _
    rw [b1, nI_clamp (by omega)]; exact b3
  refine XC.block [495] 60 ?_
  refine And.intro (rf_in (j := 6) rfl (by decide) (by decide)) ?_
  refine And.intro (rf_in a1 (by omega) (by decide)) ?_
  refine rf_half hF hG.1 (p := sVk f n k 6) (by omega) ?_ go
  show J 4 (J 16 6).toNatClampNeg = _
  rw [a1, nI_clamp (by omega)]; exact a3
def rfEb (e b : Int64) : Prop := ¬ lg_cmp e (16777216 >>> ((10 : Int32).toInt64 &&& 63)) < 0 ∧ ¬ 0 < lg_cmp e 16777216 ∧ ¬ lg_cmp b 16777216 < 0 ∧ lg_cmp b (16 * 16777216) ≤ 0
theorem rf_lkH (h3 : J 0 3 = 0) {e b : Int64} (hgo : rfEb e b → XC xE0 (d + 5) xM_42 (564, rfL2 e b, [], (sh2, J, L, F)) Q)
    (hbad : ¬ rfEb e b → XC xE0 (d + 5) xM_42 (564, rfL2 e b, [], (sh2, x2 (x2 J 0 3 9) 0 4 (-1), L, F)) Q) : XC xE0 (d + 5) xM_42 (517, rfL2 e b, [], (sh2, J, L, F)) Q := by
  have B : ¬ rfEb e b → XC xE0 (d + 5) xM_42 (553, rfL2 e b, [.ref 0], (sh2, J, L, F)) Q := fun z => by
    refine XC.block [564] 60 ?_
    exact rf_bad1 h3 (hbad z)
  refine XC.block [553, 564] 60 ?_
  refine And.intro (fun z => B (fun w => w.1 z)) (fun z1 => ?_)
  refine And.intro (fun z => B (fun w => w.2.1 z)) (fun z2 => ?_)
  refine And.intro (fun z => B (fun w => w.2.2.1 z)) (fun z3 => ?_)
  exact And.intro (fun z => rf_bad0 (hgo ⟨z1, z2, z3, z⟩)) (fun z => B (fun w => z w.2.2.2))
theorem rf_lkHF (h : ¬ J 0 3 ≤ 0) {e b : Int64} (hgo : XC xE0 (d + 5) xM_42 (564, rfL2 e b, [], (sh2, J, L, F)) Q) : XC xE0 (d + 5) xM_42 (517, rfL2 e b, [], (sh2, J, L, F)) Q := by
  have B : XC xE0 (d + 5) xM_42 (553, rfL2 e b, [.ref 0], (sh2, J, L, F)) Q := by
    refine XC.block [564] 60 ?_
    exact rf_badF h hgo
  refine XC.block [553, 564] 60 ?_
  refine And.intro (fun z => B) (fun z1 => ?_)
  refine And.intro (fun z => B) (fun z2 => ?_)
  refine And.intro (fun z => B) (fun z3 => ?_)
  exact And.intro (fun z => rf_badF h hgo) (fun z => B)
/-- eps and turn as REALS -/
abbrev rfFl (F : Nat → Nat → UInt32) (e b : Int64) : Nat → Nat → UInt32 := x2 (x2 F 0 25 (FP.fdiv (FP.l2f e) 1266679808)) 0 26 (FP.fdiv (FP.l2f b) 1266679808)
theorem rf_lkI {e b : Int64} (hgo : XC xE0 (d + 5) xM_42 (582, rfL2 e b, [], (sh2, J, L, rfFl F e b)) Q) : XC xE0 (d + 5) xM_42 (564, rfL2 e b, [], (sh2, J, L, F)) Q := by
  refine XC.block [582] 60 ?_
  exact And.intro (rf_nn e) (And.intro (rf_nn b) hgo)
theorem rf_lkJ (hG : rfG f n) (hF : rfF f n J) (hK : rfKv f n k J) (h3 : J 0 3 = 0) {e b : Int64} (hT : sTF f (sVk f n k 8) (sVk f n k 9) = true)
    (hgo : sTx f (sVk f n k 8) → sMg f (sTp f (sVk f n k 8)) (f (sVk f n k 8 + 1)) (sVk f n k 9) → ∀ J', rfE J J' → J' 0 22 = nI (f (sVk f n k 8 + 1)) → (∀ j, j < f (sVk f n k 8 + 1) → J' 11 j = nI (sTp f (sVk f n k 8) j) ∧ sTp f (sVk f n k 8) j + f (sTp f (sVk f n k 8) j) < 1400) → J' 0 23 = nI (f (sVk f n k 9 + 1)) → (∀ i, i < f (sVk f n k 9 + 1) → rfM f (sTp f (sVk f n k 8)) (f (sVk f n k 8 + 1)) (sVk f n k 9 + 2 + 10 * i) J' i) → XC xE0 (d + 5) xM_42 (634, rfL3 e b 1, [], (sh2, J', L, F)) Q)
    (hbad : ¬ (sTx f (sVk f n k 8) ∧ sMg f (sTp f (sVk f n k 8)) (f (sVk f n k 8 + 1)) (sVk f n k 9)) → ∀ J', rfE J J' → XC xE0 (d + 5) xM_42 (634, rfL3 e b 0, [], (sh2, J', L, F)) Q) : XC xE0 (d + 5) xM_42 (582, rfL2 e b, [], (sh2, J, L, F)) Q := by
  obtain ⟨i8, a1, a2, a3, e8, a4⟩ := hK 8 (by decide)
  obtain ⟨i9, b1, b2, b3, e9, b4⟩ := hK 9 (by decide)
  have a4 : sA1 f n (sVk f n k 8) = .inr e8 := a4
  have b4 : sA1 f n (sVk f n k 9) = .inr e9 := b4
  have hT2 : f (sVk f n k 9 + 1) = 0 ∨ (f (sVk f n k 9) = 3 ∧ sTf f (f (sVk f n k 9 + 1)) (sVk f n k 9 + 2) = true) := by
    unfold sTF at hT
    split at hT
    · cases hT
    · rename_i hc
      rcases Nat.eq_zero_or_pos (f (sVk f n k 9 + 1)) with z | z
      · exact Or.inl z
      · exact Or.inr ⟨Classical.byContradiction (fun w => hc (Or.inr ⟨z, w⟩)), hT⟩
  refine XC.block [608, 631] 60 ?_
  refine And.intro (fun z => absurd h3 z) (fun _ => ?_)
  refine And.intro (rf_in (j := 8) rfl (by decide) (by decide)) ?_
  refine And.intro (rf_in a1 (by omega) (by decide)) ?_
  have bad : ¬ (sTx f (sVk f n k 8) ∧ sMg f (sTp f (sVk f n k 8)) (f (sVk f n k 8 + 1)) (sVk f n k 9)) → ∀ J', rfE J J' → XC xE0 (d + 5) xM_42 (631, rfL2 e b, [], (sh2, J', L, F)) Q := fun z J' E' => by
    refine XC.block [634] 60 ?_
    exact hbad z J' E'
  refine rf_texts hG hF (p := sVk f n k 8) a4 ?_ (fun hx J1 E1 h22 h11 => ?_) (fun hx J1 E1 => ?_)
  · show J 4 (J 16 8).toNatClampNeg = _
    rw [a1, nI_clamp (by omega)]; exact a3
  · refine And.intro (fun z => absurd (show (1 : Int32) = 0 from z) (by decide)) (fun _ => ?_)
    have b1' : J1 16 9 = nI i9 := (E1 16 9 (by omega) (by omega)).trans b1
    have b3' : J1 4 i9 = nI (sVk f n k 9) := (E1 4 i9 (by omega) (by omega)).trans b3
    refine XC.block [631, 634] 60 ?_
    refine And.intro (rf_in (j := 9) rfl (by decide) (by decide)) ?_
    refine And.intro (rf_in b1' (by omega) (by decide)) ?_
    refine rf_pairsOf hG (hF.agE E1) (K := sTp f (sVk f n k 8)) (m := f (sVk f n k 8 + 1)) (p := sVk f n k 9) hx.2.2.1 b4 hT2 ?_ h22 h11 (fun hy J2 E2 g22 g11 g23 gM => ?_) (fun hy J2 E2 => ?_)
    · show J1 4 (J1 16 9).toNatClampNeg = _
      rw [b1', nI_clamp (by omega)]; exact b3'
    · refine And.intro (fun z => absurd (show (1 : Int32) = 0 from z) (by decide)) (fun _ => ?_)
      exact hgo hx hy J2 (E1.tr E2) g22 (fun j hj => ⟨g11 j hj, (h11 j hj).2⟩) g23 gM
    · exact And.intro (fun _ => bad (fun w => hy w.2) J2 (E1.tr E2)) (fun z => absurd (show (0 : Int32) = 0 from rfl) z)
  · exact And.intro (fun _ => bad (fun w => hx w.1) J1 E1) (fun z => absurd (show (0 : Int32) = 0 from rfl) z)
theorem rf_lkJF (h : ¬ J 0 3 ≤ 0) {e b : Int64} (hgo : XC xE0 (d + 5) xM_42 (634, rfL3 e b 0, [], (sh2, J, L, F)) Q) : XC xE0 (d + 5) xM_42 (582, rfL2 e b, [], (sh2, J, L, F)) Q := by
  refine XC.block [634] 60 ?_
  exact And.intro (fun _ => hgo) (fun z => absurd (rf_ne0 h) z)
theorem rf_lkKF (hG : rfG f n) (hF : rfF f n J) (hV : rfV f n k J) (h : ¬ J 0 3 ≤ 0) {e b : Int64} {g : Int32} (hQ : ∀ J', rfD J J' → J' 0 3 = J 0 3 → Q none (sh2, J', L, F)) : XC xE0 (d + 5) xM_42 (634, rfL3 e b g, [], (sh2, J, L, F)) Q := by
  have A : XC xE0 (d + 5) xM_42 (671, rfL3 e b g, [], (sh2, J, L, F)) Q := by
    refine XC.block [] 60 ?_
    exact rf_alignF hG hF hV (c := J 0 3) rfl h (fun J' D' h' => ⟨trivial, hQ J' D' h'⟩)
  refine XC.block [671] 60 ?_
  refine And.intro (fun _ => rf_badF h A) (fun _ => ?_)
  refine And.intro (rf_in (j := 10) rfl (by decide) (by decide)) ?_
  refine fr_in (fun c1 c2 => ?_) (fun c1 => ?_)
  · exact And.intro (fun _ => rf_badF h A) (fun _ => rf_badF h A)
  · exact And.intro (fun _ => rf_badF h A) (fun _ => rf_badF h A)
theorem rf_lkK (hG : rfG f n) (hF : rfF f n J) (hV : rfV f n k J) (h3 : J 0 3 = 0) {e b : Int64} {m s : Nat} (hm : m ≤ 16) (hs : s < 2 ^ 32) (h22 : J 0 22 = nI m) (h10 : J 10 10 = nI s)
    (hok : s < m → ∀ A, sAlF f n k 0 8 = some A → ∀ J', rfD J J' → J' 0 3 = 0 → J' 10 11 = nI A → (∀ b k, b ≠ 0 → ¬ (b = 10 ∧ k = 11) → J' b k = J b k) → (∀ k, 4 < k → J' 0 k = J 0 k) → Q none (sh2, J', L, F))
    (hbad : ¬ (s < m ∧ ∃ A, sAlF f n k 0 8 = some A) → ∀ J', rfD J J' → J' 0 3 = 9 → Q none (sh2, J', L, F)) : XC xE0 (d + 5) xM_42 (634, rfL3 e b 1, [], (sh2, J, L, F)) Q := by
  refine XC.block [671] 60 ?_
  refine And.intro (fun z => absurd (show (1 : Int32) = 0 from z) (by decide)) (fun _ => ?_)
  refine And.intro (rf_in (j := 10) rfl (by decide) (by decide)) ?_
  refine fr_in (fun c1 c2 => ?_) (fun c1 => ?_)
  · have c1 : ¬ J 10 10 < 0 := c1
    have c2 : J 10 10 ≤ J 0 22 - 1 := c2
    rw [h10] at c1 c2
    rw [h22] at c2
    have c3 := (rf_inr hm hs).mp ⟨c1, c2⟩
    refine And.intro (fun _ => rf_bad0 ?_) (fun z => absurd (show ¬ (1 : Int32) = 0 by decide) z)
    refine XC.block [] 60 ?_
    exact rf_align hG hF hV h3 (fun A eA J' D' g3 g11 gf g0 => ⟨trivial, hok c3 A eA J' D' g3 g11 gf g0⟩) (fun eA J' D' g3 => ⟨trivial, hbad (fun w => by obtain ⟨A, hA⟩ := w.2; rw [eA] at hA; cases hA) J' D' g3⟩)
  · have c1 : J 10 10 < 0 ∨ ¬ J 10 10 ≤ J 0 22 - 1 := c1
    rw [h10, h22] at c1
    refine And.intro (fun z => absurd (show (0 : Int32) = 0 from rfl) z) (fun _ => rf_bad1 h3 ?_)
    refine XC.block [] 60 ?_
    have D2 : rfD J (x2 (x2 J 0 3 9) 0 4 (-1)) := rfD.rf.bad
    refine rf_alignF hG (hF.agD D2) (hV.ag D2) (c := 9) rfl (by decide) (fun J' D' h' => ⟨trivial, hbad (fun w => ?_) J' (D2.tr D') h'⟩)
    have := (rf_inr hm hs).mpr w.1
    exact c1.elim this.1 (fun y => y this.2)
end RFO
