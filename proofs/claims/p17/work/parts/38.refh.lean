/-! KEYS -/
def sIsB (f : Nat → Nat) (p : Nat) (w : Nat → Nat) (m : Nat) : Bool := f p == m && (List.range m).all fun i => f (p + 1 + i) == w i
theorem sIsB_iff {f : Nat → Nat} {p : Nat} {w : Nat → Nat} {m : Nat} : sIsB f p w m = true ↔ f p = m ∧ ∀ i, i < m → f (p + 1 + i) = w i := by
  unfold sIsB
  rw [Bool.and_eq_true, List.all_eq_true]
  constructor
  · rintro ⟨h1, h2⟩
    exact ⟨eq_of_beq h1, fun i hi => eq_of_beq (h2 i (List.mem_range.mpr hi))⟩
  · rintro ⟨h1, h2⟩
    refine ⟨by rw [h1]; exact beq_self_eq_true _, fun i hi => ?_⟩
    rw [h2 i (List.mem_range.mp hi)]
    exact beq_self_eq_true _
/-- the TYPE of PAIR i, the place of its VALUE -/
def sTy (f : Nat → Nat) (n i : Nat) : Nat := f (sKey f n i + 1 + f (sKey f n i))
def sVa (f : Nat → Nat) (n i : Nat) : Nat := sKey f n i + 2 + f (sKey f n i)
/-- the first of u PAIRS from i on with this KEY -/
def sKf (f : Nat → Nat) (n : Nat) (w : Nat → Nat) (m : Nat) : Nat → Nat → Option Nat
  | 0, _ => none
  | u + 1, i => bif sIsB f (sKey f n i) w m then some i else sKf f n w m u (i + 1)
/-- .. if its TYPE is t -/
def sKt (f : Nat → Nat) (n t : Nat) (w : Nat → Nat) (m k : Nat) : Option Nat := match sKf f n w m k 0 with
  | none => none
  | some i => if sTy f n i = t then some i else none
def rfO : Option Nat → Int32
  | none => -1
  | some i => nI i
theorem sKf_lt {f : Nat → Nat} {n : Nat} {w : Nat → Nat} {m : Nat} : ∀ (u i j : Nat), sKf f n w m u i = some j → i ≤ j ∧ j < i + u
  | 0, i, j, h => by cases h
  | u + 1, i, j, h => by
    unfold sKf at h
    cases e : sIsB f (sKey f n i) w m with
    | true => rw [e] at h; injection h with h; omega
    | false => rw [e] at h; have := sKf_lt u (i + 1) j h; omega
theorem sKt_lt {f : Nat → Nat} {n t : Nat} {w : Nat → Nat} {m k j : Nat} (h : sKt f n t w m k = some j) : j < k ∧ sTy f n j = t := by
  unfold sKt at h
  split at h
  · cases h
  · rename_i i e
    split at h
    · injection h with h
      have := sKf_lt _ _ _ e
      subst h
      exact ⟨by omega, by assumption⟩
    · cases h
section RFH
variable {f : Nat → Nat} {n : Nat} {I J : Nat → Nat → Int32} {L : Nat → Nat → Int64} {F : Nat → Nat → UInt32} {d : Nat} {Q : xP}
/-- the letters of a name that is a long -/
def rfW (name : Int64) (w : Nat → Nat) (m : Nat) : Prop := ∀ i, i < m → w i < 256 ∧ ((name >>> (((8 : Int32) * nI i).toInt64 &&& 63)) &&& 255).toInt32 = nI (w i)
theorem rf_isL (hF : rfF f n I) (hf : ∀ k, f k < 256) {p m : Nat} (hp : p + m < 1400) {w : Nat → Nat} {name : Int64} (hw : rfW name w m) {a mm : Int32} (ha : a = nI p) (hm : mm = nI m) (hpm : f p = m) (h1 : sIsB f p w m = true → Q (some (.int 1)) (sh2, I, L, F)) (h0 : sIsB f p w m = false → Q (some (.int 0)) (sh2, I, L, F)) :
    ∀ (k j : Nat), j + k = m → (∀ i, i < j → f (p + 1 + i) = w i) → ∀ x : Int32, x = nI j → XC xE0 d xM_39 (16, [some (.ref 0), some (.int a), some (.long name), none, some (.int mm), some (.int x)], [], (sh2, I, L, F)) Q := by
  intro k
  induction k with
  | zero =>
    intro j hj hall x hx
    refine XC.block [16] 60 ?_
    exact And.intro (fun z => ⟨by decide, h1 (sIsB_iff.mpr ⟨hpm, fun i hi => hall i (by omega)⟩)⟩) (fun z => absurd (show mm ≤ x by rw [hm, hx]; exact nI_le (by omega) (by omega)) z)
  | succ k ih =>
    intro j hj hall x hx
    have e1 : a + 1 + x = nI (p + 1 + j) := by rw [ha, hx, nI_1, nI_add]
    obtain ⟨w1, w2⟩ := hw j (by omega)
    rw [← hx] at w2
    have g1 := hf (p + 1 + j)
    refine XC.block [16] 60 ?_
    refine And.intro (fun z => absurd (show mm ≤ x from z) (by rw [hm, hx]; exact nI_ge (by omega) (by omega))) (fun z => ?_)
    refine And.intro (rf_in e1 (by omega) (by decide)) ?_
    refine And.intro (fun z => ?_) (fun z => ⟨by decide, h0 ?_⟩)
    · have z : I 1 (a + 1 + x).toNatClampNeg = ((name >>> (((8 : Int32) * x).toInt64 &&& 63)) &&& 255).toInt32 := z
      rw [rf_at hF e1 (by omega), w2, nI_eq (by omega) (by omega)] at z
      refine ih (j + 1) (by omega) (fun i hi => ?_) _ (show x + 1 = nI (j + 1) by rw [hx, nI_1])
      rcases Nat.lt_or_ge i j with q | q
      · exact hall i q
      · have : i = j := by omega
        subst this
        exact z
    · have z : ¬ I 1 (a + 1 + x).toNatClampNeg = ((name >>> (((8 : Int32) * x).toInt64 &&& 63)) &&& 255).toInt32 := z
      rw [rf_at hF e1 (by omega), w2, nI_eq (by omega) (by omega)] at z
      cases hb : sIsB f p w m with
      | false => rfl
      | true => exact absurd ((sIsB_iff.mp hb).2 j (by omega)) z
theorem rf_is (hF : rfF f n I) (hf : ∀ k, f k < 256) {p m : Nat} (hp : p + f p < 1400) (hm2 : m < 256) {w : Nat → Nat} {name : Int64} (hw : rfW name w m) {a mm : Int32} (ha : a = nI p) (hm : mm = nI m) (h1 : sIsB f p w m = true → Q (some (.int 1)) (sh2, I, L, F)) (h0 : sIsB f p w m = false → Q (some (.int 0)) (sh2, I, L, F)) : XM xE0 d 39 [.ref 0, .int a, .long name, .int mm] (sh2, I, L, F) Q := by
  have hb := hf p
  refine XC.block [16] 60 ?_
  refine And.intro (rf_in ha (by omega) (by decide)) ?_
  refine And.intro (fun z => ?_) (fun z => ⟨by decide, h0 ?_⟩)
  · have z : I 1 a.toNatClampNeg = mm := z
    rw [rf_at hF ha (by omega), hm, nI_eq (by omega) (by omega)] at z
    exact rf_isL hF hf (by omega) hw ha hm z h1 h0 m 0 (by omega) (fun i hi => absurd hi (by omega)) _ rfl
  · have z : ¬ I 1 a.toNatClampNeg = mm := z
    rw [rf_at hF ha (by omega), hm, nI_eq (by omega) (by omega)] at z
    cases hb : sIsB f p w m with
    | false => rfl
    | true => exact absurd (sIsB_iff.mp hb).1 z
theorem rf_keyL (hF : rfF f n I) (hf : ∀ k, f k < 256) {m t k : Nat} (hm2 : m < 256) (ht : t < 256) (hk : k ≤ 24) {w : Nat → Nat} {name : Int64} (hw : rfW name w m) {mm tt : Int32} (hm : mm = nI m) (htt : tt = nI t) (h13 : I 0 13 = nI k) (hP : ∀ j, j < k → rfP1 f n I j) :
    ∀ (u j : Nat), j + u = k → (Q (some (.int (rfO (match sKf f n w m u j with
      | none => none
      | some i => if sTy f n i = t then some i else none)))) (sh2, I, L, F)) → ∀ x : Int32, x = nI j → XC xE0 (d + 1) xM_40 (3, [some (.ref 0), some (.long name), none, some (.int mm), some (.int tt), some (.int x)], [], (sh2, I, L, F)) Q := by
  intro u
  induction u with
  | zero =>
    intro j hj hQ x hx
    refine XC.block [3] 60 ?_
    exact And.intro (fun z => ⟨trivial, hQ⟩) (fun z => absurd (show I 0 13 ≤ x by rw [h13, hx]; exact nI_le (by omega) (by omega)) z)
  | succ u ih =>
    intro j hj hQ x hx
    have ek : x.toNatClampNeg = j := by rw [hx, nI_clamp (by omega)]
    obtain ⟨p1, p2, p3, p4⟩ := hP j (by omega)
    refine XC.block [3] 60 ?_
    refine And.intro (fun z => absurd (show I 0 13 ≤ x from z) (by rw [h13, hx]; exact nI_ge (by omega) (by omega))) (fun z => ?_)
    refine And.intro (rf_in hx (by omega) (by decide)) ?_
    refine rf_is hF hf p4 hm2 hw (show I 2 x.toNatClampNeg = nI (sKey f n j) by rw [ek]; exact p1) hm (fun h => ?_) (fun h => ?_)
    · refine And.intro (fun z => absurd (show (1 : Int32) = 0 from z) (by decide)) (fun z => ?_)
      refine And.intro (rf_in hx (by omega) (by decide)) ?_
      have hty : I 3 x.toNatClampNeg = nI (sTy f n j) := by rw [ek]; exact p2
      have hb : sTy f n j < 256 := hf _
      refine And.intro (fun z => ⟨trivial, ?_⟩) (fun z => ⟨trivial, ?_⟩)
      · have z : ¬ I 3 x.toNatClampNeg = tt := z
        rw [hty, htt, nI_eq (by omega) (by omega)] at z
        unfold sKf at hQ
        rw [h] at hQ
        simp only [cond_true, if_neg z] at hQ
        exact hQ
      · have z : ¬ ¬ I 3 x.toNatClampNeg = tt := z
        have z := Classical.not_not.mp z
        rw [hty, htt, nI_eq (by omega) (by omega)] at z
        unfold sKf at hQ
        rw [h] at hQ
        simp only [cond_true, if_pos z] at hQ
        rw [hx]
        exact hQ
    · refine And.intro (fun z => ?_) (fun z => absurd (show (0 : Int32) = 0 from rfl) z)
      refine ih (j + 1) (by omega) ?_ _ (show x + 1 = nI (j + 1) by rw [hx, nI_1])
      unfold sKf at hQ
      rw [h] at hQ
      exact hQ
theorem rf_key (hF : rfF f n I) (hf : ∀ k, f k < 256) {m t k : Nat} (hm2 : m < 256) (ht : t < 256) (hk : k ≤ 24) {w : Nat → Nat} {name : Int64} (hw : rfW name w m) {mm tt : Int32} (hm : mm = nI m) (htt : tt = nI t) (h13 : I 0 13 = nI k) (hP : ∀ j, j < k → rfP1 f n I j) (hQ : Q (some (.int (rfO (sKt f n t w m k)))) (sh2, I, L, F)) : XM xE0 (d + 1) 40 [.ref 0, .long name, .int mm, .int tt] (sh2, I, L, F) Q := by
  refine XC.block [3] 60 ?_
  exact rf_keyL hF hf hm2 ht hk hw hm htt h13 hP k 0 (by omega) hQ _ rfl
/-- a HALF as the reference has it: its parts, 2^-24 each -/
def rfHp (e m : Int32) : Int64 := if e = 0 then m.toInt64 else ((1024 : Int32) + m).toInt64 <<< ((e - 1).toInt64 &&& 63)
def rfHs (h : Int32) (p : Int64) : Int64 := if h >>> ((15 : Int32) &&& 31) = 1 then - p else p
def rfHf (h : Int32) : Int64 := if (h >>> ((10 : Int32) &&& 31)) &&& 31 = 31 then 1125899906842624 else rfHs h (rfHp ((h >>> ((10 : Int32) &&& 31)) &&& 31) (h &&& 1023))
theorem rf_hf55 {a h e m : Int32} {pt : Int64} (hQ : Q (some (.long (rfHs h pt))) (sh2, I, L, F)) : XC xE0 d xM_41 (55, [some (.ref 0), some (.int a), some (.int h), some (.int e), some (.int m), some (.long pt), none], [], (sh2, I, L, F)) Q := by
  unfold rfHs at hQ
  refine XC.block [] 60 ?_
  refine And.intro (fun z2 => ⟨trivial, ?_⟩) (fun z2 => ⟨trivial, ?_⟩)
  · have z2 : ¬ h >>> ((15 : Int32) &&& 31) = 1 := z2
    rw [if_neg z2] at hQ
    exact hQ
  · have z2 : ¬ ¬ h >>> ((15 : Int32) &&& 31) = 1 := z2
    rw [if_pos (Classical.not_not.mp z2)] at hQ
    exact hQ
theorem rf_hf22 {a h e m : Int32} (hQ : Q (some (.long (if e = 31 then 1125899906842624 else rfHs h (rfHp e m)))) (sh2, I, L, F)) : XC xE0 d xM_41 (22, [some (.ref 0), some (.int a), some (.int h), some (.int e), some (.int m), none, none], [], (sh2, I, L, F)) Q := by
  refine XC.block [55] 60 ?_
  refine And.intro (fun z => ?_) (fun z => ⟨trivial, ?_⟩)
  · have z : ¬ e = 31 := z
    rw [if_neg z] at hQ
    unfold rfHp at hQ
    refine And.intro (fun z1 => ?_) (fun z1 => ?_)
    · have z1 : ¬ e = 0 := z1
      rw [if_neg z1] at hQ
      exact rf_hf55 hQ
    · have z1 : ¬ ¬ e = 0 := z1
      rw [if_pos (Classical.not_not.mp z1)] at hQ
      exact rf_hf55 hQ
  · have z : ¬ ¬ e = 31 := z
    rw [if_pos (Classical.not_not.mp z)] at hQ
    exact hQ
theorem rf_half (hF : rfF f n I) (hf : ∀ k, f k < 256) {p : Nat} (hp : p + 2 ≤ 1400) {a : Int32} (ha : a = nI p) (hQ : Q (some (.long (rfHf (nI (sNum f p 2))))) (sh2, I, L, F)) : XM xE0 (d + 1) 41 [.ref 0, .int a] (sh2, I, L, F) Q := by
  refine XC.block [22] 60 ?_
  refine rf_u hF hf hp ha rfl (fun s hs => ?_)
  subst hs
  exact rf_hf22 hQ
end RFH
