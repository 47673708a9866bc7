/-! the class on paper: takeShapes -/
def sOg (f : Nat → Nat) (n b t q : Nat) : Option Nat := sNg f n b (sWd (sNws.getD q [])) (sNws.getD q []).length t 0
def sGg (f : Nat → Nat) (n b t dd kv ff tk q : Nat) : Prop := ∃ i, sOg f n b t q = some i ∧ sCo f n b i = ((sRq dd kv ff tk).getD q (0, 0)).1 ∧ sRo f n b i = ((sRq dd kv ff tk).getD q (0, 0)).2
def sRw (dd kv ff p : Nat) : Nat := [1, dd, kv, kv, dd, 1, ff, ff, dd].getD p 0
theorem sNws_l : ∀ i, i < 18 → (sNws.getD (3 + i) []).length = 2 ∧ ∀ j, j < 2 → sWd (sNws.getD (3 + i) []) j = sWd [97, 48, 113, 48, 107, 48, 118, 48, 111, 48, 102, 48, 103, 48, 117, 48, 100, 48, 97, 49, 113, 49, 107, 49, 118, 49, 111, 49, 102, 49, 103, 49, 117, 49, 100, 49] (2 * i + j) := by decide +kernel
theorem sRq_l {dd kv ff tk : Nat} : ∀ i, i < 18 → (sRq dd kv ff tk).getD (3 + i) (0, 0) = (if i % 9 = 8 then ff else dd, sRw dd kv ff (i % 9))
  | 0, _ => rfl
  | 1, _ => rfl
  | 2, _ => rfl
  | 3, _ => rfl
  | 4, _ => rfl
  | 5, _ => rfl
  | 6, _ => rfl
  | 7, _ => rfl
  | 8, _ => rfl
  | 9, _ => rfl
  | 10, _ => rfl
  | 11, _ => rfl
  | 12, _ => rfl
  | 13, _ => rfl
  | 14, _ => rfl
  | 15, _ => rfl
  | 16, _ => rfl
  | 17, _ => rfl
  | i + 18, h => absurd h (by omega)
section CLP_a
variable {X : List (Option Nat)} {T : List xS} {f : Nat → Nat} {n b t k : Nat} {I J : Nat → Nat → Int32} {L : Nat → Nat → Int64} {F : Nat → Nat → UInt32} {d : Nat} {Q : xP}
theorem cl_need_a (ht : t ≤ 24) (hC : ∀ i, i < t → J 47 i = nI (sCo f n b i) ∧ J 48 i = nI (sRo f n b i) ∧ sCo f n b i ≤ 16 ∧ sRo f n b i ≤ 16) {o : Option Nat} (ho : ∀ i, o = some i → i < t) {qq cc rr : Nat} (hq : qq < 21) (hc2 : cc < 2 ^ 31) (hr2 : rr < 2 ^ 31) {q v c r : Int32} (hqq : q = nI qq) (hv : v = rfO o) (hc : c = nI cc) (hr : r = nI rr)
    (h1 : ∀ i, o = some i → sCo f n b i = cc → sRo f n b i = rr → Q (some (.int 1)) (shG X (md1 T), x2 J 49 qq (nI i), L, F)) (h0 : ¬ (∃ i, o = some i ∧ sCo f n b i = cc ∧ sRo f n b i = rr) → Q (some (.int 0)) (shG X (md1 T), J, L, F)) : XM xE0 d 102 [.ref 45, .int q, .int v, .int c, .int r] (shG X (md1 T), J, L, F) Q := by
  have ek : q.toNatClampNeg = qq := by rw [hqq, nI_clamp (by omega)]
  match o, ho, hv, h1, h0 with
  | none, _, hv, _, h0 =>
    have hv : v = -1 := hv
    refine XC.block [] 60 ?_
    exact And.intro (fun _ => ⟨(show (0 : Int32) &&& 1 = 0 by decide), h0 (fun w => by obtain ⟨i, e, _⟩ := w; cases e)⟩) (fun z => absurd (show v < 0 by rw [hv]; decide) z)
  | some i, ho, hv, h1, h0 =>
    have hv : v = nI i := hv
    have hi := ho i rfl
    obtain ⟨c1, c2, c3, c4⟩ := hC i hi
    have ei : v.toNatClampNeg = i := by rw [hv, nI_clamp (by omega)]
    have h1 : sCo f n b i = cc → sRo f n b i = rr → Q (some (.int 1)) (shG X (md1 T), x2 J 49 q.toNatClampNeg v, L, F) := by
      rw [ek, hv]; exact h1 i rfl
    refine XC.block [] 60 ?_
    refine And.intro (fun z => absurd (show v < 0 from z) (by rw [hv]; exact nI_pos (by omega))) (fun _ => ?_)
    refine And.intro (rf_in hv (by omega) (by decide)) ?_
    refine And.intro (fun z => ⟨(show (0 : Int32) &&& 1 = 0 by decide), h0 (fun w => ?_)⟩) (fun z => ?_)
    · have z : ¬ J 47 v.toNatClampNeg = c := z
      rw [ei, c1, hc, nI_eq (by omega) (by omega)] at z
      obtain ⟨i2, e, e2, _⟩ := w
      injection e with e
      subst e
      exact z e2
    · have z : ¬ ¬ J 47 v.toNatClampNeg = c := z
      have z := Classical.not_not.mp z
      rw [ei, c1, hc, nI_eq (by omega) (by omega)] at z
      refine And.intro (rf_in hv (by omega) (by decide)) ?_
      refine And.intro (fun y => ?_) (fun y => ⟨(show (0 : Int32) &&& 1 = 0 by decide), h0 (fun w => ?_)⟩)
      · have y : J 48 v.toNatClampNeg = r := y
        rw [ei, c2, hr, nI_eq (by omega) (by omega)] at y
        exact And.intro (rf_in hqq (by omega) (by decide)) ⟨(show (1 : Int32) &&& 1 = 1 by decide), h1 z y⟩
      · have y : ¬ J 48 v.toNatClampNeg = r := y
        rw [ei, c2, hr, nI_eq (by omega) (by omega)] at y
        obtain ⟨i2, e, _, e3⟩ := w
        injection e with e
        subst e
        exact y e3
theorem cl_rowsOf_a {dd kv ff : Nat} (h0 : J 39 0 = nI dd) (h4 : J 39 4 = nI ff) (hkv : J 38 5 * J 39 2 = nI kv) : ∀ p, p < 9 → ∀ {x : Int32}, x = nI p → (∀ v, v = nI (sRw dd kv ff p) → Q (some (.int v)) (shG X (md1 T), J, L, F)) → XM xE0 d 103 [.int x, .ref 38] (shG X (md1 T), J, L, F) Q
  | 0, _, x, hx, hQ => by
    subst hx
    refine XC.block [] 60 ?_
    exact And.intro (fun _ => ⟨trivial, hQ _ rfl⟩) (fun z => absurd (show (nI 0).toInt = 0 by decide) z)
  | 1, _, x, hx, hQ => by
    subst hx
    refine XC.block [] 60 ?_
    refine And.intro (fun z => absurd (show (nI 1).toInt = 0 from z) (by decide)) (fun _ => ?_)
    exact And.intro (fun _ => And.intro (rf_in (j := 0) rfl (by decide) (by decide)) ⟨trivial, hQ _ h0⟩) (fun z => absurd (show (nI 1).toInt = 1 by decide) z)
  | 2, _, x, hx, hQ => by
    subst hx
    refine XC.block [] 60 ?_
    refine And.intro (fun z => absurd (show (nI 2).toInt = 0 from z) (by decide)) (fun _ => ?_)
    refine And.intro (fun z => absurd (show (nI 2).toInt = 1 from z) (by decide)) (fun _ => ?_)
    exact And.intro (fun _ => And.intro (rf_in (j := 2) rfl (by decide) (by decide)) ⟨trivial, hQ _ hkv⟩) (fun z => absurd (show (nI 2).toInt = 2 by decide) z)
  | 3, _, x, hx, hQ => by
    subst hx
    refine XC.block [] 60 ?_
    refine And.intro (fun z => absurd (show (nI 3).toInt = 0 from z) (by decide)) (fun _ => ?_)
    refine And.intro (fun z => absurd (show (nI 3).toInt = 1 from z) (by decide)) (fun _ => ?_)
    refine And.intro (fun z => absurd (show (nI 3).toInt = 2 from z) (by decide)) (fun _ => ?_)
    exact And.intro (fun _ => And.intro (rf_in (j := 2) rfl (by decide) (by decide)) ⟨trivial, hQ _ hkv⟩) (fun z => absurd (show (nI 3).toInt = 3 by decide) z)
  | 4, _, x, hx, hQ => by
    subst hx
    refine XC.block [] 60 ?_
    refine And.intro (fun z => absurd (show (nI 4).toInt = 0 from z) (by decide)) (fun _ => ?_)
    refine And.intro (fun z => absurd (show (nI 4).toInt = 1 from z) (by decide)) (fun _ => ?_)
    refine And.intro (fun z => absurd (show (nI 4).toInt = 2 from z) (by decide)) (fun _ => ?_)
    refine And.intro (fun z => absurd (show (nI 4).toInt = 3 from z) (by decide)) (fun _ => ?_)
    exact And.intro (fun _ => And.intro (rf_in (j := 0) rfl (by decide) (by decide)) ⟨trivial, hQ _ h0⟩) (fun z => absurd (show (nI 4).toInt = 4 by decide) z)
  | 5, _, x, hx, hQ => by
    subst hx
    refine XC.block [] 60 ?_
    refine And.intro (fun z => absurd (show (nI 5).toInt = 0 from z) (by decide)) (fun _ => ?_)
    refine And.intro (fun z => absurd (show (nI 5).toInt = 1 from z) (by decide)) (fun _ => ?_)
    refine And.intro (fun z => absurd (show (nI 5).toInt = 2 from z) (by decide)) (fun _ => ?_)
    refine And.intro (fun z => absurd (show (nI 5).toInt = 3 from z) (by decide)) (fun _ => ?_)
    refine And.intro (fun z => absurd (show (nI 5).toInt = 4 from z) (by decide)) (fun _ => ?_)
    exact And.intro (fun _ => ⟨trivial, hQ _ rfl⟩) (fun z => absurd (show (nI 5).toInt = 5 by decide) z)
  | 6, _, x, hx, hQ => by
    subst hx
    refine XC.block [] 60 ?_
    refine And.intro (fun z => absurd (show (nI 6).toInt = 0 from z) (by decide)) (fun _ => ?_)
    refine And.intro (fun z => absurd (show (nI 6).toInt = 1 from z) (by decide)) (fun _ => ?_)
    refine And.intro (fun z => absurd (show (nI 6).toInt = 2 from z) (by decide)) (fun _ => ?_)
    refine And.intro (fun z => absurd (show (nI 6).toInt = 3 from z) (by decide)) (fun _ => ?_)
    refine And.intro (fun z => absurd (show (nI 6).toInt = 4 from z) (by decide)) (fun _ => ?_)
    refine And.intro (fun z => absurd (show (nI 6).toInt = 5 from z) (by decide)) (fun _ => ?_)
    exact And.intro (fun _ => And.intro (rf_in (j := 4) rfl (by decide) (by decide)) ⟨trivial, hQ _ h4⟩) (fun z => absurd (show (nI 6).toInt = 6 by decide) z)
  | 7, _, x, hx, hQ => by
    subst hx
    refine XC.block [] 60 ?_
    refine And.intro (fun z => absurd (show (nI 7).toInt = 0 from z) (by decide)) (fun _ => ?_)
    refine And.intro (fun z => absurd (show (nI 7).toInt = 1 from z) (by decide)) (fun _ => ?_)
    refine And.intro (fun z => absurd (show (nI 7).toInt = 2 from z) (by decide)) (fun _ => ?_)
    refine And.intro (fun z => absurd (show (nI 7).toInt = 3 from z) (by decide)) (fun _ => ?_)
    refine And.intro (fun z => absurd (show (nI 7).toInt = 4 from z) (by decide)) (fun _ => ?_)
    refine And.intro (fun z => absurd (show (nI 7).toInt = 5 from z) (by decide)) (fun _ => ?_)
    refine And.intro (fun z => absurd (show (nI 7).toInt = 6 from z) (by decide)) (fun _ => ?_)
    exact And.intro (fun _ => And.intro (rf_in (j := 4) rfl (by decide) (by decide)) ⟨trivial, hQ _ h4⟩) (fun z => absurd (show (nI 7).toInt = 7 by decide) z)
  | 8, _, x, hx, hQ => by
    subst hx
    refine XC.block [] 60 ?_
    refine And.intro (fun z => absurd (show (nI 8).toInt = 0 from z) (by decide)) (fun _ => ?_)
    refine And.intro (fun z => absurd (show (nI 8).toInt = 1 from z) (by decide)) (fun _ => ?_)
    refine And.intro (fun z => absurd (show (nI 8).toInt = 2 from z) (by decide)) (fun _ => ?_)
    refine And.intro (fun z => absurd (show (nI 8).toInt = 3 from z) (by decide)) (fun _ => ?_)
    refine And.intro (fun z => absurd (show (nI 8).toInt = 4 from z) (by decide)) (fun _ => ?_)
    refine And.intro (fun z => absurd (show (nI 8).toInt = 5 from z) (by decide)) (fun _ => ?_)
    refine And.intro (fun z => absurd (show (nI 8).toInt = 6 from z) (by decide)) (fun _ => ?_)
    refine And.intro (fun z => absurd (show (nI 8).toInt = 7 from z) (by decide)) (fun _ => ?_)
    exact And.intro (rf_in (j := 0) rfl (by decide) (by decide)) ⟨trivial, hQ _ h0⟩
  | p + 9, h, _, _, _ => absurd h (by omega)
end CLP_a
section CLP_b
variable {X : List (Option Nat)} {T : List xS} {f : Nat → Nat} {n b t k : Nat} {I J : Nat → Nat → Int32} {L : Nat → Nat → Int64} {F : Nat → Nat → UInt32} {d : Nat} {Q : xP}
theorem cl_need_b (ht : t ≤ 24) (hC : ∀ i, i < t → J 60 i = nI (sCo f n b i) ∧ J 61 i = nI (sRo f n b i) ∧ sCo f n b i ≤ 16 ∧ sRo f n b i ≤ 16) {o : Option Nat} (ho : ∀ i, o = some i → i < t) {qq cc rr : Nat} (hq : qq < 21) (hc2 : cc < 2 ^ 31) (hr2 : rr < 2 ^ 31) {q v c r : Int32} (hqq : q = nI qq) (hv : v = rfO o) (hc : c = nI cc) (hr : r = nI rr)
    (h1 : ∀ i, o = some i → sCo f n b i = cc → sRo f n b i = rr → Q (some (.int 1)) (shG X (md2 T), x2 J 62 qq (nI i), L, F)) (h0 : ¬ (∃ i, o = some i ∧ sCo f n b i = cc ∧ sRo f n b i = rr) → Q (some (.int 0)) (shG X (md2 T), J, L, F)) : XM xE0 d 102 [.ref 58, .int q, .int v, .int c, .int r] (shG X (md2 T), J, L, F) Q := by
  have ek : q.toNatClampNeg = qq := by rw [hqq, nI_clamp (by omega)]
  match o, ho, hv, h1, h0 with
  | none, _, hv, _, h0 =>
    have hv : v = -1 := hv
    refine XC.block [] 60 ?_
    exact And.intro (fun _ => ⟨(show (0 : Int32) &&& 1 = 0 by decide), h0 (fun w => by obtain ⟨i, e, _⟩ := w; cases e)⟩) (fun z => absurd (show v < 0 by rw [hv]; decide) z)
  | some i, ho, hv, h1, h0 =>
    have hv : v = nI i := hv
    have hi := ho i rfl
    obtain ⟨c1, c2, c3, c4⟩ := hC i hi
    have ei : v.toNatClampNeg = i := by rw [hv, nI_clamp (by omega)]
    have h1 : sCo f n b i = cc → sRo f n b i = rr → Q (some (.int 1)) (shG X (md2 T), x2 J 62 q.toNatClampNeg v, L, F) := by
      rw [ek, hv]; exact h1 i rfl
    refine XC.block [] 60 ?_
    refine And.intro (fun z => absurd (show v < 0 from z) (by rw [hv]; exact nI_pos (by omega))) (fun _ => ?_)
    refine And.intro (rf_in hv (by omega) (by decide)) ?_
    refine And.intro (fun z => ⟨(show (0 : Int32) &&& 1 = 0 by decide), h0 (fun w => ?_)⟩) (fun z => ?_)
    · have z : ¬ J 60 v.toNatClampNeg = c := z
      rw [ei, c1, hc, nI_eq (by omega) (by omega)] at z
      obtain ⟨i2, e, e2, _⟩ := w
      injection e with e
      subst e
      exact z e2
    · have z : ¬ ¬ J 60 v.toNatClampNeg = c := z
      have z := Classical.not_not.mp z
      rw [ei, c1, hc, nI_eq (by omega) (by omega)] at z
      refine And.intro (rf_in hv (by omega) (by decide)) ?_
      refine And.intro (fun y => ?_) (fun y => ⟨(show (0 : Int32) &&& 1 = 0 by decide), h0 (fun w => ?_)⟩)
      · have y : J 61 v.toNatClampNeg = r := y
        rw [ei, c2, hr, nI_eq (by omega) (by omega)] at y
        exact And.intro (rf_in hqq (by omega) (by decide)) ⟨(show (1 : Int32) &&& 1 = 1 by decide), h1 z y⟩
      · have y : ¬ J 61 v.toNatClampNeg = r := y
        rw [ei, c2, hr, nI_eq (by omega) (by omega)] at y
        obtain ⟨i2, e, _, e3⟩ := w
        injection e with e
        subst e
        exact y e3
theorem cl_rowsOf_b {dd kv ff : Nat} (h0 : J 52 0 = nI dd) (h4 : J 52 4 = nI ff) (hkv : J 51 5 * J 52 2 = nI kv) : ∀ p, p < 9 → ∀ {x : Int32}, x = nI p → (∀ v, v = nI (sRw dd kv ff p) → Q (some (.int v)) (shG X (md2 T), J, L, F)) → XM xE0 d 103 [.int x, .ref 51] (shG X (md2 T), J, L, F) Q
  | 0, _, x, hx, hQ => by
    subst hx
    refine XC.block [] 60 ?_
    exact And.intro (fun _ => ⟨trivial, hQ _ rfl⟩) (fun z => absurd (show (nI 0).toInt = 0 by decide) z)
  | 1, _, x, hx, hQ => by
    subst hx
    refine XC.block [] 60 ?_
    refine And.intro (fun z => absurd (show (nI 1).toInt = 0 from z) (by decide)) (fun _ => ?_)
    exact And.intro (fun _ => And.intro (rf_in (j := 0) rfl (by decide) (by decide)) ⟨trivial, hQ _ h0⟩) (fun z => absurd (show (nI 1).toInt = 1 by decide) z)
  | 2, _, x, hx, hQ => by
    subst hx
    refine XC.block [] 60 ?_
    refine And.intro (fun z => absurd (show (nI 2).toInt = 0 from z) (by decide)) (fun _ => ?_)
    refine And.intro (fun z => absurd (show (nI 2).toInt = 1 from z) (by decide)) (fun _ => ?_)
    exact And.intro (fun _ => And.intro (rf_in (j := 2) rfl (by decide) (by decide)) ⟨trivial, hQ _ hkv⟩) (fun z => absurd (show (nI 2).toInt = 2 by decide) z)
  | 3, _, x, hx, hQ => by
    subst hx
    refine XC.block [] 60 ?_
    refine And.intro (fun z => absurd (show (nI 3).toInt = 0 from z) (by decide)) (fun _ => ?_)
    refine And.intro (fun z => absurd (show (nI 3).toInt = 1 from z) (by decide)) (fun _ => ?_)
    refine And.intro (fun z => absurd (show (nI 3).toInt = 2 from z) (by decide)) (fun _ => ?_)
    exact And.intro (fun _ => And.intro (rf_in (j := 2) rfl (by decide) (by decide)) ⟨trivial, hQ _ hkv⟩) (fun z => absurd (show (nI 3).toInt = 3 by decide) z)
  | 4, _, x, hx, hQ => by
    subst hx
    refine XC.block [] 60 ?_
    refine And.intro (fun z => absurd (show (nI 4).toInt = 0 from z) (by decide)) (fun _ => ?_)
    refine And.intro (fun z => absurd (show (nI 4).toInt = 1 from z) (by decide)) (fun _ => ?_)
    refine And.intro (fun z => absurd (show (nI 4).toInt = 2 from z) (by decide)) (fun _ => ?_)
    refine And.intro (fun z => absurd (show (nI 4).toInt = 3 from z) (by decide)) (fun _ => ?_)
    exact And.intro (fun _ => And.intro (rf_in (j := 0) rfl (by decide) (by decide)) ⟨trivial, hQ _ h0⟩) (fun z => absurd (show (nI 4).toInt = 4 by decide) z)
  | 5, _, x, hx, hQ => by
    subst hx
    refine XC.block [] 60 ?_
    refine And.intro (fun z => absurd (show (nI 5).toInt = 0 from z) (by decide)) (fun _ => ?_)
    refine And.intro (fun z => absurd (show (nI 5).toInt = 1 from z) (by decide)) (fun _ => ?_)
    refine And.intro (fun z => absurd (show (nI 5).toInt = 2 from z) (by decide)) (fun _ => ?_)
    refine And.intro (fun z => absurd (show (nI 5).toInt = 3 from z) (by decide)) (fun _ => ?_)
    refine And.intro (fun z => absurd (show (nI 5).toInt = 4 from z) (by decide)) (fun _ => ?_)
    exact And.intro (fun _ => ⟨trivial, hQ _ rfl⟩) (fun z => absurd (show (nI 5).toInt = 5 by decide) z)
  | 6, _, x, hx, hQ => by
    subst hx
    refine XC.block [] 60 ?_
    refine And.intro (fun z => absurd (show (nI 6).toInt = 0 from z) (by decide)) (fun _ => ?_)
    refine And.intro (fun z => absurd (show (nI 6).toInt = 1 from z) (by decide)) (fun _ => ?_)
    refine And.intro (fun z => absurd (show (nI 6).toInt = 2 from z) (by decide)) (fun _ => ?_)
    refine And.intro (fun z => absurd (show (nI 6).toInt = 3 from z) (by decide)) (fun _ => ?_)
    refine And.intro (fun z => absurd (show (nI 6).toInt = 4 from z) (by decide)) (fun _ => ?_)
    refine And.intro (fun z => absurd (show (nI 6).toInt = 5 from z) (by decide)) (fun _ => ?_)
    exact And.intro (fun _ => And.intro (rf_in (j := 4) rfl (by decide) (by decide)) ⟨trivial, hQ _ h4⟩) (fun z => absurd (show (nI 6).toInt = 6 by decide) z)
  | 7, _, x, hx, hQ => by
    subst hx
    refine XC.block [] 60 ?_
    refine And.intro (fun z => absurd (show (nI 7).toInt = 0 from z) (by decide)) (fun _ => ?_)
    refine And.intro (fun z => absurd (show (nI 7).toInt = 1 from z) (by decide)) (fun _ => ?_)
    refine And.intro (fun z => absurd (show (nI 7).toInt = 2 from z) (by decide)) (fun _ => ?_)
    refine And.intro (fun z => absurd (show (nI 7).toInt = 3 from z) (by decide)) (fun _ => ?_)
    refine And.intro (fun z => absurd (show (nI 7).toInt = 4 from z) (by decide)) (fun _ => ?_)
    refine And.intro (fun z => absurd (show (nI 7).toInt = 5 from z) (by decide)) (fun _ => ?_)
    refine And.intro (fun z => absurd (show (nI 7).toInt = 6 from z) (by decide)) (fun _ => ?_)
    exact And.intro (fun _ => And.intro (rf_in (j := 4) rfl (by decide) (by decide)) ⟨trivial, hQ _ h4⟩) (fun z => absurd (show (nI 7).toInt = 7 by decide) z)
  | 8, _, x, hx, hQ => by
    subst hx
    refine XC.block [] 60 ?_
    refine And.intro (fun z => absurd (show (nI 8).toInt = 0 from z) (by decide)) (fun _ => ?_)
    refine And.intro (fun z => absurd (show (nI 8).toInt = 1 from z) (by decide)) (fun _ => ?_)
    refine And.intro (fun z => absurd (show (nI 8).toInt = 2 from z) (by decide)) (fun _ => ?_)
    refine And.intro (fun z => absurd (show (nI 8).toInt = 3 from z) (by decide)) (fun _ => ?_)
    refine And.intro (fun z => absurd (show (nI 8).toInt = 4 from z) (by decide)) (fun _ => ?_)
    refine And.intro (fun z => absurd (show (nI 8).toInt = 5 from z) (by decide)) (fun _ => ?_)
    refine And.intro (fun z => absurd (show (nI 8).toInt = 6 from z) (by decide)) (fun _ => ?_)
    refine And.intro (fun z => absurd (show (nI 8).toInt = 7 from z) (by decide)) (fun _ => ?_)
    exact And.intro (rf_in (j := 0) rfl (by decide) (by decide)) ⟨trivial, hQ _ h0⟩
  | p + 9, h, _, _, _ => absurd h (by omega)
end CLP_b
