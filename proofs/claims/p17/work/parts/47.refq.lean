/-! TENSORS of the reference -/
/-- what INFO i says -/
def sIv (f : Nat → Nat) (n b i : Nat) : Nat × Nat × Nat × Nat := match sInf f n (sNam f n b i + 1 + f (sNam f n b i)) with
  | .inl _ => (0, 0, 0, 0)
  | .inr v => v.1
def sCo (f : Nat → Nat) (n b i : Nat) : Nat := (sIv f n b i).1
def sRo (f : Nat → Nat) (n b i : Nat) : Nat := (sIv f n b i).2.1
def sPk (f : Nat → Nat) (n b i : Nat) : Nat := (sIv f n b i).2.2.1
def sOf (f : Nat → Nat) (n b i : Nat) : Nat := (sIv f n b i).2.2.2
theorem sInf_rng {f : Nat → Nat} (hf : ∀ k, f k < 256) {n p : Nat} {v : Nat × Nat × Nat × Nat} {q : Nat} (h : sInf f n p = .inr (v, q)) : 1 ≤ v.1 ∧ v.1 ≤ 16 ∧ 1 ≤ v.2.1 ∧ v.2.1 ≤ 16 ∧ v.2.2.1 ≤ 2 ∧ (0 < v.2.2.1 → v.1 % 8 = 0) ∧ v.2.2.2 < 65536 := by
  unfold sInf at h
  split at h
  · cases h
  · rename_i s a e1
    split at h
    · cases h
    · rename_i c b e2
      have l2 := sSml_le e2
      have m2 : c = f a := congrArg Prod.fst l2.1
      split at h
      · cases h
      · rename_i r g e3
        have l3 : 1 ≤ r ∧ r ≤ 16 := by
          split at e3
          · have l3 := sSml_le e3
            have m3 : r = f b := congrArg Prod.fst l3.1
            omega
          · injection e3 with e3
            injection e3 with e3 e4
            omega
        split at h
        · cases h
        · rename_i k hh e4
          have l4 := sSml_le e4
          have m4 : k = f g := congrArg Prod.fst l4.1
          split at h
          · cases h
          · rename_i hc
            split at h
            · injection h with h
              injection h with h _
              subst h
              have := sNum_lt hf 2 hh
              exact ⟨by omega, by omega, l3.1, l3.2, (show k ≤ 2 by omega), fun z => Classical.byContradiction (fun w => hc ⟨z, w⟩), (show sNum f hh 2 < 65536 by omega)⟩
            · cases h
/-- what LOADING knows of INFOS -/
def rfU (f : Nat → Nat) (n b t : Nat) (J : Nat → Nat → Int32) : Prop := J 0 14 = nI t ∧ t ≤ 24 ∧ ∀ j, j < t → (J 5 j = nI (sNam f n b j) ∧ sNam f n b j + f (sNam f n b j) < 1400) ∧ (J 6 j = nI (sCo f n b j) ∧ 1 ≤ sCo f n b j ∧ sCo f n b j ≤ 16) ∧ (J 7 j = nI (sRo f n b j) ∧ 1 ≤ sRo f n b j ∧ sRo f n b j ≤ 16) ∧ (J 8 j = nI (sPk f n b j) ∧ sPk f n b j ≤ 2 ∧ (0 < sPk f n b j → sCo f n b j % 8 = 0)) ∧ J 9 j = nI (sOf f n b j) ∧ sOf f n b j < 65536
theorem rfU.of {f : Nat → Nat} {n b t k : Nat} {J : Nat → Nat → Int32} (hf : ∀ k, f k < 256) (ht : t ≤ 24) (h : rfP f n t k b J) : rfU f n b t J := by
  refine ⟨h.1, ht, fun j hj => ?_⟩
  obtain ⟨h1, h2, v, h3, h4, h5, h6, h7⟩ := h.2.2.2 j hj
  have hr := sInf_rng hf h3
  have e : sIv f n b j = v := by unfold sIv; rw [h3]
  have e1 : sCo f n b j = v.1 := by unfold sCo; rw [e]
  have e2 : sRo f n b j = v.2.1 := by unfold sRo; rw [e]
  have e3 : sPk f n b j = v.2.2.1 := by unfold sPk; rw [e]
  have e4 : sOf f n b j = v.2.2.2 := by unfold sOf; rw [e]
  rw [e1, e2, e3, e4]
  exact ⟨⟨h1, h2⟩, ⟨h4, hr.1, hr.2.1⟩, ⟨h5, hr.2.2.1, hr.2.2.2.1⟩, ⟨h6, hr.2.2.2.2.1, hr.2.2.2.2.2.1⟩, h7, hr.2.2.2.2.2.2⟩
theorem rfU.ag {f : Nat → Nat} {n b t : Nat} {I J : Nat → Nat → Int32} (h : rfU f n b t I) (a : rfD I J) : rfU f n b t J := by
  refine ⟨(a 0 14 (by omega) (by omega)).trans h.1, h.2.1, fun j hj => ?_⟩
  obtain ⟨h1, h2, h3, h4, h5⟩ := h.2.2 j hj
  exact ⟨⟨(a 5 j (by omega) (by omega)).trans h1.1, h1.2⟩, ⟨(a 6 j (by omega) (by omega)).trans h2.1, h2.2⟩, ⟨(a 7 j (by omega) (by omega)).trans h3.1, h3.2⟩, ⟨(a 8 j (by omega) (by omega)).trans h4.1, h4.2⟩, (a 9 j (by omega) (by omega)).trans h5.1, h5.2⟩
/-- the last of u INFOS from i on with this NAME (else o) -/
def sNf (f : Nat → Nat) (n b : Nat) (w : Nat → Nat) (m : Nat) : Nat → Nat → Option Nat → Option Nat
  | 0, _, o => o
  | u + 1, i, o => sNf f n b w m u (i + 1) (bif sIsB f (sNam f n b i) w m then some i else o)
theorem sNf_lt {f : Nat → Nat} {n b : Nat} {w : Nat → Nat} {m : Nat} : ∀ (u i : Nat) (o : Option Nat), (∀ j, o = some j → j < i) → ∀ j, sNf f n b w m u i o = some j → j < i + u
  | 0, i, o, h, j, e => h j e
  | u + 1, i, o, h, j, e => by
    have := sNf_lt u (i + 1) _ (fun j e => ?_) j e
    · omega
    · cases hb : sIsB f (sNam f n b i) w m with
      | true => rw [hb] at e; injection e with e; omega
      | false => rw [hb] at e; have := h j e; omega
/-- a TENSOR that is needed is there, with its COLUMNS and ROWS -/
def sNd (f : Nat → Nat) (n b t : Nat) (w : Nat → Nat) (m c r : Nat) : Prop := ∃ i, sNf f n b w m t 0 none = some i ∧ sCo f n b i = c ∧ sRo f n b i = r
section RFQ
variable {f : Nat → Nat} {n b t : Nat} {I J : Nat → Nat → Int32} {L : Nat → Nat → Int64} {F : Nat → Nat → UInt32} {d : Nat} {Q : xP}
theorem rf_nd6 (hG : rfG f n) (hF : rfF f n J) (hU : rfU f n b t J) {m : Nat} (hm : m < 256) {w : Nat → Nat} {name : Int64} (hw : rfW name w m) {q mm c r : Int32} (hmm : mm = nI m)
    (hgo : ∀ x, XC xE0 (d + 1) xM_48 (42, [some (.ref 0), some (.int q), some (.long name), none, some (.int mm), some (.int c), some (.int r), some (.int (rfO (sNf f n b w m t 0 none))), some (.int x)], [], (sh2, J, L, F)) Q) :
    ∀ (u i : Nat) (o : Option Nat), i + u = t → sNf f n b w m u i o = sNf f n b w m t 0 none → ∀ x y, x = nI i → y = rfO o → XC xE0 (d + 1) xM_48 (6, [some (.ref 0), some (.int q), some (.long name), none, some (.int mm), some (.int c), some (.int r), some (.int y), some (.int x)], [], (sh2, J, L, F)) Q := by
  have ht := hU.2.1
  intro u
  induction u with
  | zero =>
    intro i o hi ho x y hx hy
    refine XC.block [42] 60 ?_
    refine And.intro (fun z => ?_) (fun z => absurd (show J 0 14 ≤ x by rw [hU.1, hx]; exact nI_le (by omega) (by omega)) z)
    have := hgo x
    rw [← ho] at this
    rw [hy]
    exact this
  | succ u ih =>
    intro i o hi ho x y hx hy
    have hx1 : x + 1 = nI (i + 1) := by rw [hx, nI_1]
    obtain ⟨⟨h5, h5b⟩, -⟩ := hU.2.2 i (by omega)
    have e5 : J 5 x.toNatClampNeg = nI (sNam f n b i) := by rw [hx, nI_clamp (by omega)]; exact h5
    refine XC.block [6, 42] 60 ?_
    refine And.intro (fun z => absurd (show J 0 14 ≤ x from z) (by rw [hU.1, hx]; exact nI_ge (by omega) (by omega))) (fun z => ?_)
    refine And.intro (rf_in hx (by omega) (by decide)) ?_
    refine rf_is hF hG.1 h5b hm hw e5 hmm (fun h => ?_) (fun h => ?_)
    · refine And.intro (fun z => absurd (show (1 : Int32) = 0 from z) (by decide)) (fun _ => ?_)
      refine ih (i + 1) (some i) (by omega) ?_ _ _ hx1 hx
      have ho : sNf f n b w m u (i + 1) (bif sIsB f (sNam f n b i) w m then some i else o) = _ := ho
      rw [h] at ho
      exact ho
    · refine And.intro (fun _ => ?_) (fun z => absurd (show (0 : Int32) = 0 from rfl) z)
      refine ih (i + 1) o (by omega) ?_ _ _ hx1 hy
      have ho : sNf f n b w m u (i + 1) (bif sIsB f (sNam f n b i) w m then some i else o) = _ := ho
      rw [h] at ho
      exact ho
theorem rf_need (hG : rfG f n) (hF : rfF f n J) (hU : rfU f n b t J) {qq m cc rr : Nat} (hq : qq < 21) (hm : m < 256) {w : Nat → Nat} {name : Int64} (hw : rfW name w m) {q mm c r : Int32} (hqq : q = nI qq) (hmm : mm = nI m) (hc : c = nI cc) (hc2 : cc < 2 ^ 31) (hr : r = nI rr) (hr2 : rr < 2 ^ 31)
    (h1 : sNd f n b t w m cc rr → Q none (sh2, x2 J 15 qq (rfO (sNf f n b w m t 0 none)), L, F))
    (h0 : ¬ sNd f n b t w m cc rr → J 0 3 = 0 → Q none (sh2, x2 (x2 (x2 J 15 qq (rfO (sNf f n b w m t 0 none))) 0 3 10) 0 4 (-1), L, F))
    (hF0 : ¬ sNd f n b t w m cc rr → ¬ J 0 3 ≤ 0 → Q none (sh2, x2 J 15 qq (rfO (sNf f n b w m t 0 none)), L, F)) (hd : J 0 3 = 0 ∨ ¬ J 0 3 ≤ 0) : XM xE0 (d + 1) 48 [.ref 0, .int q, .long name, .int mm, .int c, .int r] (sh2, J, L, F) Q := by
  have ht := hU.2.1
  have ek : q.toNatClampNeg = qq := by rw [hqq, nI_clamp (by omega)]
  refine XC.block [6] 60 ?_
  refine rf_nd6 hG hF hU hm hw hmm (fun x => ?_) t 0 none (by omega) rfl _ _ rfl rfl
  have hlt := sNf_lt (f := f) (n := n) (b := b) (w := w) (m := m) t 0 none (fun j e => by cases e)
  revert h1 h0 hF0 hlt
  unfold sNd
  generalize sNf f n b w m t 0 none = o
  intro h1 h0 hF0 hlt
  have h1 : (∃ i, o = some i ∧ sCo f n b i = cc ∧ sRo f n b i = rr) → Q none (sh2, x2 J 15 q.toNatClampNeg (rfO o), L, F) := by rw [ek]; exact h1
  have h0 : ¬ (∃ i, o = some i ∧ sCo f n b i = cc ∧ sRo f n b i = rr) → J 0 3 = 0 → Q none (sh2, x2 (x2 (x2 J 15 q.toNatClampNeg (rfO o)) 0 3 10) 0 4 (-1), L, F) := by rw [ek]; exact h0
  have hF0 : ¬ (∃ i, o = some i ∧ sCo f n b i = cc ∧ sRo f n b i = rr) → ¬ J 0 3 ≤ 0 → Q none (sh2, x2 J 15 q.toNatClampNeg (rfO o), L, F) := by rw [ek]; exact hF0
  have B : ¬ (∃ i, o = some i ∧ sCo f n b i = cc ∧ sRo f n b i = rr) → XC xE0 (d + 1) xM_48 (98, [some (.ref 0), some (.int q), some (.long name), none, some (.int mm), some (.int c), some (.int r), some (.int (rfO o)), some (.int x)], [.ref 0], (sh2, x2 J 15 q.toNatClampNeg (rfO o), L, F)) Q := fun z => by
    refine XC.block [] 60 ?_
    rcases hd with y | y
    · exact rf_bad1 (I := x2 J 15 q.toNatClampNeg (rfO o)) y ⟨trivial, h0 z y⟩
    · exact rf_badF (I := x2 J 15 q.toNatClampNeg (rfO o)) y ⟨trivial, hF0 z y⟩
  match o, hlt with
  | none, _ =>
    refine XC.block [98] 60 ?_
    refine And.intro (rf_in hqq (by omega) (by decide)) ?_
    exact And.intro (fun _ => B (fun w => by obtain ⟨i, e, _⟩ := w; cases e)) (fun z => absurd (show (-1 : Int32) < 0 by decide) z)
  | some i, hlt =>
    have hi : i < t := by have := hlt i rfl; omega
    obtain ⟨-, ⟨h6, h6a, h6b⟩, ⟨h7, h7a, h7b⟩, -⟩ := hU.2.2 i hi
    have ei : (nI i).toNatClampNeg = i := nI_clamp (by omega)
    refine XC.block [98] 60 ?_
    refine And.intro (rf_in hqq (by omega) (by decide)) ?_
    refine And.intro (fun z => absurd (show nI i < 0 from z) (nI_pos (by omega))) (fun _ => ?_)
    refine And.intro (fun _ => ?_) (fun z => absurd (show 0 ≤ nI i from nI_pos' (by omega)) z)
    refine And.intro (rf_in (i := nI i) rfl (by omega) (by decide)) ?_
    refine And.intro (fun z => B (fun w => ?_)) (fun z => ?_)
    · have z : ¬ J 6 (nI i).toNatClampNeg = c := z
      rw [ei, h6, hc, nI_eq (by omega) (by omega)] at z
      obtain ⟨i2, e, e2, _⟩ := w
      injection e with e
      subst e
      exact z e2
    · have z : ¬ ¬ J 6 (nI i).toNatClampNeg = c := z
      have z := Classical.not_not.mp z
      rw [ei, h6, hc, nI_eq (by omega) (by omega)] at z
      refine And.intro (fun _ => ?_) (fun z => absurd (show 0 ≤ nI i from nI_pos' (by omega)) z)
      refine And.intro (rf_in (i := nI i) rfl (by omega) (by decide)) ?_
      refine And.intro (fun y => rf_bad0 ⟨trivial, h1 ⟨i, rfl, z, ?_⟩⟩) (fun y => B (fun w => ?_))
      · have y : J 7 (nI i).toNatClampNeg = r := y
        rw [ei, h7, hr, nI_eq (by omega) (by omega)] at y
        exact y
      · have y : ¬ J 7 (nI i).toNatClampNeg = r := y
        rw [ei, h7, hr, nI_eq (by omega) (by omega)] at y
        obtain ⟨i2, e, _, e3⟩ := w
        injection e with e
        subst e
        exact y e3
end RFQ
