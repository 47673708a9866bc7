/-! the calls of the reference on paper: FILE, TEXT and what only reads -/
theorem oc_and (y : Int64) : (y &&& 255).toInt32 = y.toInt32 &&& 255 := by
  apply Int32.toBitVec_inj.mp
  rw [Int64.toBitVec_toInt32, Int64.toBitVec_and, Int32.toBitVec_and, Int64.toBitVec_toInt32, BitVec.signExtend_eq_setWidth_of_le _ (by decide), BitVec.signExtend_eq_setWidth_of_le _ (by decide), BitVec.setWidth_and]
  rfl
theorem oc_b (x : Int32) : x.toInt8.toInt32 &&& 255 = x &&& 255 := by
  apply Int32.toBitVec_inj.mp
  rw [Int32.toBitVec_and, Int8.toBitVec_toInt32, Int32.toBitVec_toInt8, Int32.toBitVec_and]
  apply BitVec.eq_of_getLsbD_eq
  intro i hi
  rw [BitVec.getLsbD_and, BitVec.getLsbD_and]
  rcases Nat.lt_or_ge i 8 with h | h
  · rw [BitVec.getLsbD_signExtend, BitVec.signExtend_eq_setWidth_of_le _ (by decide), BitVec.getLsbD_setWidth]
    simp [h, hi]
  · have : (Int32.toBitVec 255).getLsbD i = false := by
      have : ∀ i : Fin 32, 8 ≤ i.val → (Int32.toBitVec 255).getLsbD i.val = false := by decide
      exact this ⟨i, hi⟩ h
    rw [this, Bool.and_false, Bool.and_false]
theorem oc_x (x y : Int32) : (x ^^^ y) &&& 255 = (x &&& 255) ^^^ (y &&& 255) := by
  apply Int32.toBitVec_inj.mp
  rw [Int32.toBitVec_and, Int32.toBitVec_xor, Int32.toBitVec_xor, Int32.toBitVec_and, Int32.toBitVec_and]
  apply BitVec.eq_of_getLsbD_eq
  intro i hi
  simp only [BitVec.getLsbD_and, BitVec.getLsbD_xor]
  cases x.toBitVec.getLsbD i <;> cases y.toBitVec.getLsbD i <;> simp
/-- the i-th OCTET of a long -/
def oR (w : Int64) (x : Int32) : Int64 := (w.toUInt64 >>> ((8 * x).toInt64.toUInt64 &&& Int64.toUInt64 63)).toInt64
def oc (w : Int64) (i : Nat) : Nat := (oR w (nI i)).toInt32.toBitVec.toNat % 256
theorem oc_lt (w : Int64) (i : Nat) : oc w i < 256 := Nat.mod_lt _ (by decide)
theorem oc_r (w : Int64) (i : Nat) : (oR w (nI i) &&& 255).toInt32 = nI (oc w i) := by
  rw [oc_and]; exact pk_and _ 8 (by decide)
theorem oc_c (w : Int64) (i : Nat) : (oR w (nI i)).toInt32.toInt8.toInt32 &&& 255 = nI (oc w i) := by
  rw [oc_b]; exact pk_and _ 8 (by decide)
/-- the FILE with k OCTETS more -/
def oFl (f : Nat → Nat) (n k : Nat) (w : Int64) (i : Nat) : Nat := if n ≤ i ∧ i < n + k then oc w (i - n) else f i
theorem oFl_0 {f : Nat → Nat} {n : Nat} {w : Int64} : oFl f n 0 w = f := by
  funext i
  unfold oFl
  rw [if_neg (by omega)]
theorem oFl_st {f : Nat → Nat} {n k : Nat} {w : Int64} (i : Nat) : oFl f n (k + 1) w i = if i = n + k then oc w k else oFl f n k w i := by
  unfold oFl
  rcases Nat.lt_trichotomy i (n + k) with y | y | y
  · rw [if_neg (show ¬ i = n + k by omega)]
    rcases Nat.lt_or_ge i n with z | z
    · rw [if_neg (by omega), if_neg (by omega)]
    · rw [if_pos (by omega), if_pos (by omega)]
  · rw [if_pos y, if_pos (by omega), y, Nat.add_sub_cancel_left]
  · rw [if_neg (show ¬ i = n + k by omega), if_neg (by omega), if_neg (by omega)]
theorem oFl_lt {f : Nat → Nat} {n k : Nat} {w : Int64} (h : ∀ i, f i < 256) : ∀ i, oFl f n k w i < 256 := by
  intro i
  unfold oFl
  split
  · exact oc_lt _ _
  · exact h i
theorem rg8 {a : Int32} (h1 : ¬ a < 1) (h2 : a ≤ 8) : ∃ k, 1 ≤ k ∧ k ≤ 8 ∧ a = nI k := by
  obtain ⟨k, hk, e⟩ := nI_of (x := a) (fun z => h1 (Int32.lt_trans z (by decide)))
  subst e
  rw [show (1 : Int32) = nI 1 from rfl, nI_ltI hk (by decide)] at h1
  rw [show (8 : Int32) = nI 8 from rfl, nI_leI hk (by decide)] at h2
  exact ⟨k, by omega, h2, rfl⟩
section RUH
variable {M : pMd} {f : Nat → Nat} {n : Nat} {I J : Nat → Nat → Int32} {L : Nat → Nat → Int64} {F G : Nat → Nat → UInt32} {d : Nat} {Q : xP}
/-- the TEXT as the reference holds it -/
def rfTx (x : Nat → Nat) (n : Nat) (I : Nat → Nat → Int32) : Prop := (∀ k, k < 24 → I 28 k = nI (x k)) ∧ I 0 58 = nI n
theorem rf_file (hn : n ≤ 1400) (hF : rfF f n I) (w : Int64) {a : Int32}
    (hrf : (a < 1 ∨ ¬ a ≤ 8) → Q (some (.int (-1))) (sh2, I, L, F))
    (hfl : ∀ k, 1 ≤ k → k ≤ 8 → a = nI k → 1400 < n + k → Q (some (.int (-2))) (sh2, I, L, F))
    (hok : ∀ k, 1 ≤ k → k ≤ 8 → a = nI k → n + k ≤ 1400 → ∀ J, rfF (oFl f n k w) (n + k) J → (∀ b i, b ≠ 1 → ¬ (b = 0 ∧ i = 1) → J b i = I b i) → Q (some (.int (nI (n + k)))) (sh2, J, L, F)) : XM xE0 (d + 1) 25 [.ref 0, .long w, .int a] (sh2, I, L, F) Q := by
  have loop : ∀ k, k ≤ 8 → a = nI k → n + k ≤ 1400 → (∀ J, rfF (oFl f n k w) (n + k) J → (∀ b i, b ≠ 1 → ¬ (b = 0 ∧ i = 1) → J b i = I b i) → Q (some (.int (nI (n + k)))) (sh2, J, L, F)) → ∀ (u i : Nat), i + u = k → ∀ J, rfF (oFl f n i w) (n + i) J → (∀ b i, b ≠ 1 → ¬ (b = 0 ∧ i = 1) → J b i = I b i) → ∀ x, x = nI i → XC xE0 (d + 1) xM_25 (30, [some (.ref 0), some (.long w), none, some (.int a), some (.int x)], [], (sh2, J, L, F)) Q := by
    intro k hk ha hnk fin u
    induction u with
    | zero =>
      intro i hi J R D x hx
      have : i = k := by omega
      subst this
      have e : Q (some (.int (J 0 1))) (sh2, J, L, F) := by rw [R.2]; exact fin J R D
      refine XC.block [30] 60 ?_
      exact And.intro (fun _ => ⟨trivial, e⟩) (fun z => absurd (show a ≤ x by rw [ha, hx]; exact nI_le (by omega) (by omega)) z)
    | succ u ih =>
      intro i hi J R D x hx
      have hlt : ¬ a ≤ x := by rw [ha, hx]; exact nI_ge (by omega) (by omega)
      have i1 : i + 1 + u = k := by omega
      have hx1 : x + 1 = nI (i + 1) := by rw [hx, nI_1]
      have kin : vp_in (J 0 1) 1400 := rf_in R.2 (by omega) (by decide)
      have tk : (J 0 1).toNatClampNeg = n + i := by rw [R.2, nI_clamp (by omega)]
      have ev : (oR w x &&& 255).toInt32 = nI (oc w i) := by rw [hx]; exact oc_r w i
      have R2 : rfF (oFl f n (i + 1) w) (n + (i + 1)) (x2 (x2 J 1 (J 0 1).toNatClampNeg (oR w x &&& 255).toInt32) 0 1 (x2 J 1 (J 0 1).toNatClampNeg (oR w x &&& 255).toInt32 0 1 + 1)) := by
        refine ⟨fun q hq => ?_, ?_⟩
        · rw [x2_o _ _ (by omega), tk, oFl_st]
          split
          · rename_i y
            rw [y, x2_same]; exact ev
          · rename_i y
            rw [x2_o _ _ (by omega)]; exact R.1 q hq
        · rw [x2_same, x2_o _ _ (by omega), R.2, nI_1]; rfl
      have D2 : ∀ b i', b ≠ 1 → ¬ (b = 0 ∧ i' = 1) → x2 (x2 J 1 (J 0 1).toNatClampNeg (oR w x &&& 255).toInt32) 0 1 (x2 J 1 (J 0 1).toNatClampNeg (oR w x &&& 255).toInt32 0 1 + 1) b i' = I b i' := fun b i' h1 h2 => by
        rw [x2_o _ _ (by omega), x2_o _ _ (by omega)]; exact D b i' h1 h2
      refine XC.block [30] 60 ?_
      refine And.intro (fun z => absurd z hlt) (fun _ => ?_)
      refine And.intro kin ?_
      exact ih (i + 1) i1 _ R2 D2 _ hx1
  have full : ∀ k, k ≤ 8 → a = nI k → (I 0 1 + a ≤ 1400 ↔ n + k ≤ 1400) := fun k hk ha => by
    rw [hF.2, ha, nI_add, show (1400 : Int32) = nI 1400 from rfl, nI_leI (by omega) (by decide)]
  have go : ¬ a < 1 → a ≤ 8 → I 0 1 + a ≤ 1400 → ∀ x, x = nI 0 → XC xE0 (d + 1) xM_25 (30, [some (.ref 0), some (.long w), none, some (.int a), some (.int x)], [], (sh2, I, L, F)) Q := fun z1 z2 z3 x hx => by
    obtain ⟨k, k1, k2, ha⟩ := rg8 z1 z2
    have hnk := (full k k2 ha).mp z3
    exact loop k k2 ha hnk (fun J R D => hok k k1 k2 ha hnk J R D) k 0 (Nat.zero_add _) I (by rw [oFl_0]; exact hF) (fun _ _ _ _ => rfl) x hx
  have nogo : ¬ a < 1 → a ≤ 8 → ¬ I 0 1 + a ≤ 1400 → Q (some (.int (-2))) (sh2, I, L, F) := fun z1 z2 z3 => by
    obtain ⟨k, k1, k2, ha⟩ := rg8 z1 z2
    exact hfl k k1 k2 ha (Nat.lt_of_not_le (fun y => z3 ((full k k2 ha).mpr y)))
  refine XC.block [30] 60 ?_
  refine fr_in (fun z1 z2 => ?_) (fun z => ?_)
  · refine And.intro (fun _ => ?_) (fun z => absurd (show ¬ (1 : Int32) = 0 by decide) z)
    exact And.intro (fun z => go z1 z2 z _ rfl) (fun z => ⟨trivial, nogo z1 z2 z⟩)
  · exact And.intro (fun w => absurd (show (0 : Int32) = 0 from rfl) w) (fun _ => ⟨trivial, hrf z⟩)
theorem rf_text (hn : n ≤ 24) (hF : rfTx f n I) (w : Int64) {a : Int32}
    (hrf : (a < 1 ∨ ¬ a ≤ 8) → Q (some (.int (-1))) (sh2, I, L, F))
    (hfl : ∀ k, 1 ≤ k → k ≤ 8 → a = nI k → 24 < n + k → Q (some (.int (-2))) (sh2, I, L, F))
    (hok : ∀ k, 1 ≤ k → k ≤ 8 → a = nI k → n + k ≤ 24 → ∀ J, rfTx (oFl f n k w) (n + k) J → (∀ b i, b ≠ 28 → ¬ (b = 0 ∧ i = 58) → J b i = I b i) → Q (some (.int (nI (n + k)))) (sh2, J, L, F)) : XM xE0 (d + 1) 58 [.ref 0, .long w, .int a] (sh2, I, L, F) Q := by
  have loop : ∀ k, k ≤ 8 → a = nI k → n + k ≤ 24 → (∀ J, rfTx (oFl f n k w) (n + k) J → (∀ b i, b ≠ 28 → ¬ (b = 0 ∧ i = 58) → J b i = I b i) → Q (some (.int (nI (n + k)))) (sh2, J, L, F)) → ∀ (u i : Nat), i + u = k → ∀ J, rfTx (oFl f n i w) (n + i) J → (∀ b i, b ≠ 28 → ¬ (b = 0 ∧ i = 58) → J b i = I b i) → ∀ x, x = nI i → XC xE0 (d + 1) xM_58 (29, [some (.ref 0), some (.long w), none, some (.int a), some (.int x)], [], (sh2, J, L, F)) Q := by
    intro k hk ha hnk fin u
    induction u with
    | zero =>
      intro i hi J R D x hx
      have : i = k := by omega
      subst this
      have e : Q (some (.int (J 0 58))) (sh2, J, L, F) := by rw [R.2]; exact fin J R D
      refine XC.block [29] 60 ?_
      exact And.intro (fun _ => ⟨trivial, e⟩) (fun z => absurd (show a ≤ x by rw [ha, hx]; exact nI_le (by omega) (by omega)) z)
    | succ u ih =>
      intro i hi J R D x hx
      have hlt : ¬ a ≤ x := by rw [ha, hx]; exact nI_ge (by omega) (by omega)
      have i1 : i + 1 + u = k := by omega
      have hx1 : x + 1 = nI (i + 1) := by rw [hx, nI_1]
      have kin : vp_in (J 0 58) 24 := rf_in R.2 (by omega) (by decide)
      have tk : (J 0 58).toNatClampNeg = n + i := by rw [R.2, nI_clamp (by omega)]
      have ev : (oR w x &&& 255).toInt32 = nI (oc w i) := by rw [hx]; exact oc_r w i
      have R2 : rfTx (oFl f n (i + 1) w) (n + (i + 1)) (x2 (x2 J 28 (J 0 58).toNatClampNeg (oR w x &&& 255).toInt32) 0 58 (x2 J 28 (J 0 58).toNatClampNeg (oR w x &&& 255).toInt32 0 58 + 1)) := by
        refine ⟨fun q hq => ?_, ?_⟩
        · rw [x2_o _ _ (by omega), tk, oFl_st]
          split
          · rename_i y
            rw [y, x2_same]; exact ev
          · rename_i y
            rw [x2_o _ _ (by omega)]; exact R.1 q hq
        · rw [x2_same, x2_o _ _ (by omega), R.2, nI_1]; rfl
      have D2 : ∀ b i', b ≠ 28 → ¬ (b = 0 ∧ i' = 58) → x2 (x2 J 28 (J 0 58).toNatClampNeg (oR w x &&& 255).toInt32) 0 58 (x2 J 28 (J 0 58).toNatClampNeg (oR w x &&& 255).toInt32 0 58 + 1) b i' = I b i' := fun b i' h1 h2 => by
        rw [x2_o _ _ (by omega), x2_o _ _ (by omega)]; exact D b i' h1 h2
      refine XC.block [29] 60 ?_
      refine And.intro (fun z => absurd z hlt) (fun _ => ?_)
      refine And.intro kin ?_
      exact ih (i + 1) i1 _ R2 D2 _ hx1
  have full : ∀ k, k ≤ 8 → a = nI k → (I 0 58 + a ≤ 24 ↔ n + k ≤ 24) := fun k hk ha => by
    rw [hF.2, ha, nI_add, show (24 : Int32) = nI 24 from rfl, nI_leI (by omega) (by decide)]
  have go : ¬ a < 1 → a ≤ 8 → I 0 58 + a ≤ 24 → ∀ x, x = nI 0 → XC xE0 (d + 1) xM_58 (29, [some (.ref 0), some (.long w), none, some (.int a), some (.int x)], [], (sh2, I, L, F)) Q := fun z1 z2 z3 x hx => by
    obtain ⟨k, k1, k2, ha⟩ := rg8 z1 z2
    have hnk := (full k k2 ha).mp z3
    exact loop k k2 ha hnk (fun J R D => hok k k1 k2 ha hnk J R D) k 0 (Nat.zero_add _) I (by rw [oFl_0]; exact hF) (fun _ _ _ _ => rfl) x hx
  have nogo : ¬ a < 1 → a ≤ 8 → ¬ I 0 58 + a ≤ 24 → Q (some (.int (-2))) (sh2, I, L, F) := fun z1 z2 z3 => by
    obtain ⟨k, k1, k2, ha⟩ := rg8 z1 z2
    exact hfl k k1 k2 ha (Nat.lt_of_not_le (fun y => z3 ((full k k2 ha).mpr y)))
  refine XC.block [29] 60 ?_
  refine fr_in (fun z1 z2 => ?_) (fun z => ?_)
  · refine And.intro (fun _ => ?_) (fun z => absurd (show ¬ (1 : Int32) = 0 by decide) z)
    exact And.intro (fun z => go z1 z2 z _ rfl) (fun z => ⟨trivial, nogo z1 z2 z⟩)
  · exact And.intro (fun w => absurd (show (0 : Int32) = 0 from rfl) w) (fun _ => ⟨trivial, hrf z⟩)
/-- the FILE with an OCTET changed -/
def oFx (f : Nat → Nat) (k : Nat) (x : Int32) (i : Nat) : Nat := if i = k then (nI (f k) ^^^ x).toBitVec.toNat % 256 else f i
theorem oFx_lt {f : Nat → Nat} {k : Nat} {x : Int32} (h : ∀ i, f i < 256) : ∀ i, oFx f k x i < 256 := by
  intro i
  unfold oFx
  split
  · exact Nat.mod_lt _ (by decide)
  · exact h i
theorem n255 {k : Nat} (h : k < 256) : nI k &&& 255 = nI k := by
  rw [pk_andN (by omega) 8 (by decide), Nat.mod_eq_of_lt (by omega)]
theorem oFx_k {f : Nat → Nat} {k x : Nat} (h : ∀ i, f i < 256) (hx : x < 256) : nI (f k) ^^^ nI x = nI (oFx f k (nI x) k) := by
  unfold oFx
  rw [if_pos rfl]
  have e : (nI (f k) ^^^ nI x) &&& 255 = nI (f k) ^^^ nI x := by rw [oc_x, n255 (h k), n255 hx]
  rw [← pk_and (nI (f k) ^^^ nI x) (m := 255) 8 (by decide), e]
/-- a number of a range -/
theorem rgn {a : Int32} {N : Nat} (hN : N < 2 ^ 31) (h1 : ¬ a < 0) (h2 : a ≤ nI N - 1) : ∃ k, k < N ∧ a = nI k := by
  rcases Nat.eq_zero_or_pos N with y | y
  · subst y
    exact absurd h2 (fun z => h1 (Int32.lt_of_le_of_lt z (by decide)))
  · obtain ⟨k, hk, e⟩ := nI_of h1
    subst e
    rw [nI_p1 y, nI_leI hk (by omega)] at h2
    exact ⟨k, by omega, rfl⟩
theorem rgx {a : Int32} {N : Nat} (hN : N < 2 ^ 31) (h1 : ¬ a < 0) (h2 : a ≤ nI N) : ∃ k, k ≤ N ∧ a = nI k := by
  obtain ⟨k, hk, e⟩ := nI_of h1
  subst e
  rw [nI_leI hk hN] at h2
  exact ⟨k, h2, rfl⟩
/-- in(k, 0, N - 1) -/
def rgI (a : Int32) (N : Nat) : Prop := ¬ a < 0 ∧ a ≤ nI N - 1
theorem rf_flip (hG : rfG f n) (hF : rfF f n I) {a b : Int32}
    (hrf : ¬ (rgI a n ∧ ¬ b < 0 ∧ b ≤ 255) → Q (some (.int (-1))) (sh2, I, L, F))
    (hok : ∀ k x, k < n → x < 256 → a = nI k → b = nI x → ∀ J, rfF (oFx f k (nI x)) n J → (∀ b i, b ≠ 1 → J b i = I b i) → Q (some (.int (nI (oFx f k (nI x) k)))) (sh2, J, L, F)) : XM xE0 (d + 1) 26 [.ref 0, .int a, .int b] (sh2, I, L, F) Q := by
  have hn := hG.2
  have go : ¬ a < 0 → a ≤ I 0 1 - 1 → ¬ b < 0 → b ≤ 255 → vp_in a 1400 ∧ Q (some (.int (x2 I 1 a.toNatClampNeg (I 1 a.toNatClampNeg ^^^ b) 1 a.toNatClampNeg))) (sh2, x2 I 1 a.toNatClampNeg (I 1 a.toNatClampNeg ^^^ b), L, F) := by
    intro z1 z2 z3 z4
    rw [hF.2] at z2
    obtain ⟨k, hk, ea⟩ := rgn (by omega) z1 z2
    obtain ⟨x, hx, eb⟩ := rgx (N := 255) (by decide) z3 z4
    have ta : a.toNatClampNeg = k := by rw [ea, nI_clamp (by omega)]
    have ev : I 1 k ^^^ b = nI (oFx f k (nI x) k) := by rw [hF.1 k (by omega), eb]; exact oFx_k hG.1 (by omega)
    refine ⟨rf_in ea (by omega) (by decide), ?_⟩
    rw [ta, ev, x2_same]
    refine hok k x hk (by omega) ea eb _ ⟨fun i hi => ?_, ?_⟩ (fun b' i hb => x2_o _ _ (fun e => hb e.1))
    · rcases Nat.decEq i k with y | y
      · rw [x2_o _ _ (fun e => y e.2), hF.1 i hi]
        unfold oFx
        rw [if_neg y]
      · subst y
        rw [x2_same]
    · rw [x2_o _ _ (by omega)]; exact hF.2
  have no : (a < 0 ∨ ¬ a ≤ I 0 1 - 1) → Q (some (.int (-1))) (sh2, I, L, F) := fun z => hrf (fun w => z.elim (fun z => w.1.1 z) (fun z => z (by rw [hF.2]; exact w.1.2)))
  have no2 : (b < 0 ∨ ¬ b ≤ 255) → Q (some (.int (-1))) (sh2, I, L, F) := fun z => hrf (fun w => z.elim (fun z => w.2.1 z) (fun z => z w.2.2))
  refine XC.block [] 60 ?_
  refine fr_in (fun z1 z2 => ?_) (fun z => ?_)
  · refine And.intro (fun z => absurd (show (1 : Int32) = 0 from z) (by decide)) (fun _ => ?_)
    refine fr_in (fun z3 z4 => ?_) (fun z => ?_)
    · refine And.intro (fun _ => ?_) (fun z => absurd (show ¬ (1 : Int32) = 0 by decide) z)
      have g := go z1 z2 z3 z4
      exact And.intro g.1 (And.intro g.1 (And.intro g.1 ⟨trivial, g.2⟩))
    · exact And.intro (fun w => absurd (show (0 : Int32) = 0 from rfl) w) (fun _ => ⟨trivial, no2 z⟩)
  · exact And.intro (fun _ => ⟨trivial, no z⟩) (fun w => absurd (show (0 : Int32) = 0 from rfl) w)
theorem rf_clear (hQ : Q (some (.int (I 0 1))) (sh2, x2 I 0 1 0, L, F)) : XM xE0 d 27 [.ref 0] (sh2, I, L, F) Q := by
  refine XC.block [] 60 ?_
  exact ⟨trivial, hQ⟩
theorem rf_place (h1 : ¬ I 0 3 < 1 → I 0 3 ≤ 7 → Q (some (.int (I 0 4))) (sh2, I, L, F)) (h2 : (I 0 3 < 1 ∨ ¬ I 0 3 ≤ 7) → Q (some (.int (-1))) (sh2, I, L, F)) : XM xE0 (d + 1) 55 [.ref 0] (sh2, I, L, F) Q := by
  refine XC.block [] 60 ?_
  refine fr_in (fun z1 z2 => ?_) (fun z => ?_)
  · exact And.intro (fun z => absurd (show (1 : Int32) = 0 from z) (by decide)) (fun _ => ⟨trivial, h1 z1 z2⟩)
  · exact And.intro (fun _ => ⟨trivial, h2 z⟩) (fun w => absurd (show (0 : Int32) = 0 from rfl) w)
theorem rf_fact (hM : rfMd M I F) {a : Int32} (h1 : ∀ k, k < 12 → a = nI k → Q (some (.int (nI (mFa M k)))) (sh2, I, L, F)) (h2 : ¬ rgI a 12 → Q (some (.int (-1))) (sh2, I, L, F)) : XM xE0 (d + 1) 56 [.ref 0, .int a] (sh2, I, L, F) Q := by
  have hne : ¬ I 0 38 = 0 := by rw [hM.1]; decide
  have go : ¬ a < 0 → a ≤ 11 → vp_in a 12 ∧ Q (some (.int (I 17 a.toNatClampNeg))) (sh2, I, L, F) := fun z1 z2 => by
    obtain ⟨k, hk, ea⟩ := rgn (N := 12) (by decide) z1 z2
    refine ⟨rf_in ea hk (by decide), ?_⟩
    rw [show a.toNatClampNeg = k by rw [ea, nI_clamp (by omega)], hM.2.1 k hk]
    exact h1 k hk ea
  have no : (a < 0 ∨ ¬ a ≤ 11) → Q (some (.int (-1))) (sh2, I, L, F) := fun z => h2 (fun w => z.elim (fun z => w.1 z) (fun z => z w.2))
  refine XC.block [] 60 ?_
  refine And.intro (fun _ => ?_) (fun z => absurd hne z)
  refine fr_in (fun z1 z2 => ?_) (fun z => ?_)
  · have g := go z1 z2
    exact And.intro (fun z => absurd (show (1 : Int32) = 0 from z) (by decide)) (fun _ => And.intro g.1 ⟨trivial, g.2⟩)
  · exact And.intro (fun _ => ⟨trivial, no z⟩) (fun w => absurd (show (0 : Int32) = 0 from rfl) w)
theorem rf_token {N : Nat} (hN : N ≤ 24) (h59 : I 0 59 = nI N) {a : Int32} (h1 : ∀ k, k < N → a = nI k → Q (some (.int (I 29 k))) (sh2, I, L, F)) (h2 : ¬ rgI a N → Q (some (.int (-1))) (sh2, I, L, F)) : XM xE0 (d + 1) 60 [.ref 0, .int a] (sh2, I, L, F) Q := by
  have go : ¬ a < 0 → a ≤ I 0 59 - 1 → vp_in a 24 ∧ Q (some (.int (I 29 a.toNatClampNeg))) (sh2, I, L, F) := fun z1 z2 => by
    rw [h59] at z2
    obtain ⟨k, hk, ea⟩ := rgn (N := N) (by omega) z1 z2
    refine ⟨rf_in ea (by omega) (by decide), ?_⟩
    rw [show a.toNatClampNeg = k by rw [ea, nI_clamp (by omega)]]
    exact h1 k hk ea
  have no : (a < 0 ∨ ¬ a ≤ I 0 59 - 1) → Q (some (.int (-1))) (sh2, I, L, F) := fun z => h2 (fun w => z.elim (fun z => w.1 z) (fun z => z (by rw [h59]; exact w.2)))
  refine XC.block [] 60 ?_
  refine fr_in (fun z1 z2 => ?_) (fun z => ?_)
  · have g := go z1 z2
    exact And.intro (fun z => absurd (show (1 : Int32) = 0 from z) (by decide)) (fun _ => And.intro g.1 ⟨trivial, g.2⟩)
  · exact And.intro (fun _ => ⟨trivial, no z⟩) (fun w => absurd (show (0 : Int32) = 0 from rfl) w)
theorem rf_letter (hM : rfMd M I F) (hm : mGd M) {a b : Int32} (h1 : ∀ t j, t < mFa M 6 → j < mTl M t → a = nI t → b = nI j → Q (some (.int (nI (mTc M t j)))) (sh2, I, L, F)) (h2 : ¬ (rgI a (mFa M 6) ∧ ∀ t, a = nI t → t < mFa M 6 → rgI b (mTl M t)) → Q (some (.int (-1))) (sh2, I, L, F)) : XM xE0 (d + 1) 61 [.ref 0, .int a, .int b] (sh2, I, L, F) Q := by
  have hne : ¬ I 0 38 = 0 := by rw [hM.1]; decide
  have h6 := hm.1.2.2.2.2.2.2.1
  have e6 : I 17 6 = nI (mFa M 6) := hM.2.1 6 (by decide)
  have v6 : vp_in (6 : Int32) 12 := rf_in (j := 6) rfl (by decide) (by decide)
  have g1 : ¬ a < 0 → a ≤ I 17 6 - 1 → ∃ t, t < mFa M 6 ∧ a = nI t := fun z1 z2 => by rw [e6] at z2; exact rgn (by omega) z1 z2
  have n1 : (a < 0 ∨ ¬ a ≤ I 17 6 - 1) → Q (some (.int (-1))) (sh2, I, L, F) := fun z => h2 (fun w => z.elim (fun z => w.1.1 z) (fun z => z (by rw [e6]; exact w.1.2)))
  have ai : ¬ a < 0 → a ≤ I 17 6 - 1 → vp_in a 16 := fun z1 z2 => by
    obtain ⟨t, ht, ea⟩ := g1 z1 z2
    exact rf_in ea (by omega) (by decide)
  have e19 : ¬ a < 0 → a ≤ I 17 6 - 1 → ∀ t, t < mFa M 6 → a = nI t → I 19 a.toNatClampNeg = nI (mTl M t) := fun z1 z2 t ht ea => by
    rw [ea, nI_clamp (by omega)]; exact (hM.2.2.1 t ht).1
  have go : ¬ a < 0 → a ≤ I 17 6 - 1 → ¬ b < 0 → b ≤ I 19 a.toNatClampNeg - 1 → vp_in (4 * a + b) 64 ∧ Q (some (.int (I 18 (4 * a + b).toNatClampNeg))) (sh2, I, L, F) := fun z1 z2 z3 z4 => by
    obtain ⟨t, ht, ea⟩ := g1 z1 z2
    have tl := (hm.2.2.2.2.1 t ht).1
    rw [e19 z1 z2 t ht ea] at z4
    obtain ⟨j, hj, eb⟩ := rgn (by omega) z3 z4
    have ei : 4 * a + b = nI (4 * t + j) := by rw [ea, eb, show (4 : Int32) = nI 4 from rfl, nI_mul, nI_add]
    refine ⟨rf_in ei (by omega) (by decide), ?_⟩
    rw [ei, nI_clamp (by omega), (hM.2.2.1 t ht).2 j hj]
    exact h1 t j ht hj ea eb
  have n2 : ¬ a < 0 → a ≤ I 17 6 - 1 → (b < 0 ∨ ¬ b ≤ I 19 a.toNatClampNeg - 1) → Q (some (.int (-1))) (sh2, I, L, F) := fun z1 z2 z => h2 (fun w => by
    obtain ⟨t, ht, ea⟩ := g1 z1 z2
    have w2 := w.2 t ea ht
    rw [e19 z1 z2 t ht ea] at z
    exact z.elim (fun z => w2.1 z) (fun z => z w2.2))
  refine XC.block [] 60 ?_
  refine And.intro (fun z => absurd z hne) (fun _ => ?_)
  refine And.intro v6 ?_
  refine fr_in (fun z1 z2 => ?_) (fun z => ?_)
  · refine And.intro (fun z => absurd (show (1 : Int32) = 0 from z) (by decide)) (fun _ => ?_)
    refine And.intro (ai z1 z2) ?_
    refine fr_in (fun z3 z4 => ?_) (fun z => ?_)
    · have g := go z1 z2 z3 z4
      exact And.intro (fun z => absurd (show (1 : Int32) = 0 from z) (by decide)) (fun _ => And.intro g.1 ⟨trivial, g.2⟩)
    · exact And.intro (fun _ => ⟨trivial, n2 z1 z2 z⟩) (fun w => absurd (show (0 : Int32) = 0 from rfl) w)
  · exact And.intro (fun _ => ⟨trivial, n1 z⟩) (fun w => absurd (show (0 : Int32) = 0 from rfl) w)
/-- what weight answers -/
def mWa (M : pMd) (t r c : Nat) : Int32 := FP.f2i (FP.fmul (mWt M t (r * mCo M t + c)) 1199570944)
theorem fWa {x : UInt32} (h : fB 156 x) : fF (FP.fmul x 1199570944) := by
  have k : fB 165 1199570944 := by show fu 1199570944 ≤ 2 ^ 165; decide +kernel
  exact (h.mul k (k := 172) (by decide) (by decide) (by decide) (by decide) (by decide)).fin (by decide)
theorem rf_weight (hM : rfMd M I F) (hm : mGd M) {a b c : Int32} (h1 : ∀ t r k, t < mFa M 10 → r < mRo M t → k < mCo M t → a = nI t → b = nI r → c = nI k → Q (some (.int (mWa M t r k))) (sh2, I, L, F)) (h2 : ¬ (rgI a (mFa M 10) ∧ ∀ t, a = nI t → t < mFa M 10 → rgI b (mRo M t) ∧ rgI c (mCo M t)) → Q (some (.int (-1))) (sh2, I, L, F)) : XM xE0 (d + 1) 57 [.ref 0, .int a, .int b, .int c] (sh2, I, L, F) Q := by
  have hne : ¬ I 0 38 = 0 := by rw [hM.1]; decide
  have h10 := hm.1.2.2.2.2.2.2.2.2.2
  have e10 : I 17 10 = nI (mFa M 10) := hM.2.1 10 (by decide)
  have v10 : vp_in (10 : Int32) 12 := rf_in (j := 10) rfl (by decide) (by decide)
  have g1 : ¬ a < 0 → a ≤ I 17 10 - 1 → ∃ t, t < mFa M 10 ∧ a = nI t := fun z1 z2 => by rw [e10] at z2; exact rgn (by omega) z1 z2
  have ai : ¬ a < 0 → a ≤ I 17 10 - 1 → vp_in a 24 := fun z1 z2 => by
    obtain ⟨t, ht, ea⟩ := g1 z1 z2
    exact rf_in ea (by omega) (by decide)
  have n1 : (a < 0 ∨ ¬ a ≤ I 17 10 - 1) → Q (some (.int (-1))) (sh2, I, L, F) := fun z => h2 (fun w => z.elim (fun z => w.1.1 z) (fun z => z (by rw [e10]; exact w.1.2)))
  have e25 : ∀ t, t < mFa M 10 → a = nI t → I 25 a.toNatClampNeg = nI (mRo M t) ∧ I 24 a.toNatClampNeg = nI (mCo M t) ∧ I 26 a.toNatClampNeg = nI (mBg M t) := fun t ht ea => by
    have w := hM.2.2.2.2.2.1 t ht
    rw [ea, nI_clamp (by omega)]; exact ⟨w.2.1, w.1, w.2.2.1⟩
  have n2 : ¬ a < 0 → a ≤ I 17 10 - 1 → (b < 0 ∨ ¬ b ≤ I 25 a.toNatClampNeg - 1) → Q (some (.int (-1))) (sh2, I, L, F) := fun z1 z2 z => h2 (fun w => by
    obtain ⟨t, ht, ea⟩ := g1 z1 z2
    have w2 := (w.2 t ea ht).1
    rw [(e25 t ht ea).1] at z
    exact z.elim (fun z => w2.1 z) (fun z => z w2.2))
  have n3 : ¬ a < 0 → a ≤ I 17 10 - 1 → (c < 0 ∨ ¬ c ≤ I 24 a.toNatClampNeg - 1) → Q (some (.int (-1))) (sh2, I, L, F) := fun z1 z2 z => h2 (fun w => by
    obtain ⟨t, ht, ea⟩ := g1 z1 z2
    have w2 := (w.2 t ea ht).2
    rw [(e25 t ht ea).2.1] at z
    exact z.elim (fun z => w2.1 z) (fun z => z w2.2))
  have go : ¬ a < 0 → a ≤ I 17 10 - 1 → ¬ b < 0 → b ≤ I 25 a.toNatClampNeg - 1 → ¬ c < 0 → c ≤ I 24 a.toNatClampNeg - 1 → vp_in (I 26 a.toNatClampNeg + b * I 24 a.toNatClampNeg + c) 2900 ∧ vf_n32 (FP.fmul (F 27 (I 26 a.toNatClampNeg + b * I 24 a.toNatClampNeg + c).toNatClampNeg) 1199570944) ∧ Q (some (.int (FP.f2i (FP.fmul (F 27 (I 26 a.toNatClampNeg + b * I 24 a.toNatClampNeg + c).toNatClampNeg) 1199570944)))) (sh2, I, L, F) := fun z1 z2 z3 z4 z5 z6 => by
    obtain ⟨t, ht, ea⟩ := g1 z1 z2
    obtain ⟨e1, e2, e3⟩ := e25 t ht ea
    obtain ⟨t1, t2, t3, t4⟩ := hm.2.1 t ht
    rw [e1] at z4
    rw [e2] at z6
    obtain ⟨r, hr, eb⟩ := rgn (by omega) z3 z4
    obtain ⟨k, hk, ec⟩ := rgn (by omega) z5 z6
    have lt : r * mCo M t + k < mCo M t * mRo M t := by
      refine Nat.lt_of_lt_of_le (Nat.add_lt_add_left hk _) ?_
      rw [← Nat.succ_mul, Nat.mul_comm]
      exact Nat.mul_le_mul_left _ hr
    have ei : I 26 a.toNatClampNeg + b * I 24 a.toNatClampNeg + c = nI (mBg M t + (r * mCo M t + k)) := by rw [e3, e2, eb, ec, nI_mul, nI_add, nI_add, Nat.add_assoc]
    have ew : F 27 (I 26 a.toNatClampNeg + b * I 24 a.toNatClampNeg + c).toNatClampNeg = mWt M t (r * mCo M t + k) := by rw [ei, nI_clamp (by omega)]; exact (hM.2.2.2.2.2.1 t ht).2.2.2 _ lt
    rw [ew]
    exact ⟨rf_in ei (by omega) (by decide), (fWa (t4 _ lt)).n32, h1 t r k ht hr hk ea eb ec⟩
  refine XC.block [61] 60 ?_
  refine And.intro (fun _ => ?_) (fun z => absurd hne z)
  refine And.intro v10 ?_
  refine fr_in (fun z1 z2 => ?_) (fun z => ?_)
  · refine And.intro (fun z => absurd (show (1 : Int32) = 0 from z) (by decide)) (fun _ => ?_)
    refine And.intro (ai z1 z2) ?_
    refine fr_in (fun z3 z4 => ?_) (fun z => ?_)
    · refine And.intro (fun z => absurd (show (1 : Int32) = 0 from z) (by decide)) (fun _ => ?_)
      refine And.intro (ai z1 z2) ?_
      refine fr_in (fun z5 z6 => ?_) (fun z => ?_)
      · have g := go z1 z2 z3 z4 z5 z6
        refine And.intro (fun _ => ?_) (fun z => absurd (show ¬ (1 : Int32) = 0 by decide) z)
        refine XC.block [] 60 ?_
        exact And.intro (ai z1 z2) (And.intro (ai z1 z2) (And.intro g.1 (And.intro g.2.1 ⟨trivial, g.2.2⟩)))
      · exact And.intro (fun w => absurd (show (0 : Int32) = 0 from rfl) w) (fun _ => ⟨trivial, n3 z1 z2 z⟩)
    · exact And.intro (fun _ => ⟨trivial, n2 z1 z2 z⟩) (fun w => absurd (show (0 : Int32) = 0 from rfl) w)
  · exact And.intro (fun _ => ⟨trivial, n1 z⟩) (fun w => absurd (show (0 : Int32) = 0 from rfl) w)
/-- what logit answers -/
def pLg (x : UInt32) : Int32 := FP.f2i (FP.fmul x 1149239296)
theorem fLg {x : UInt32} (h : fB 172 x) : fF (FP.fmul x 1149239296) := by
  have k : fB 159 1149239296 := by show fu 1149239296 ≤ 2 ^ 159; decide +kernel
  exact (h.mul k (k := 182) (by decide) (by decide) (by decide) (by decide) (by decide)).fin (by decide)
theorem rf_logit (hM : rfMd M I F) (hm : mGd M) {s : Nat} (hs : s ≤ 60) (h60 : I 0 60 = nI s) (hB : 0 < s → ∀ i, i < mFa M 6 → fB 172 (F 43 i)) {a : Int32} (h0 : s = 0 → Q (some (.int (-3))) (sh2, I, L, F)) (h1 : 0 < s → ∀ k, k < mFa M 6 → a = nI k → Q (some (.int (pLg (F 43 k)))) (sh2, I, L, F)) (h2 : 0 < s → ¬ rgI a (mFa M 6) → Q (some (.int (-1))) (sh2, I, L, F)) : XM xE0 (d + 1) 70 [.ref 0, .int a] (sh2, I, L, F) Q := by
  have hne : ¬ I 0 38 = 0 := by rw [hM.1]; decide
  have h6 := hm.1.2.2.2.2.2.2.1
  have e6 : I 17 6 = nI (mFa M 6) := hM.2.1 6 (by decide)
  have v6 : vp_in (6 : Int32) 12 := rf_in (j := 6) rfl (by decide) (by decide)
  have sz : I 0 60 = 0 ↔ s = 0 := by rw [h60, show (0 : Int32) = nI 0 from rfl, nI_eq (by omega) (by decide)]
  have go : ¬ I 0 60 = 0 → ¬ a < 0 → a ≤ I 17 6 - 1 → vp_in a 16 ∧ vf_n32 (FP.fmul (F 43 a.toNatClampNeg) 1149239296) ∧ Q (some (.int (pLg (F 43 a.toNatClampNeg)))) (sh2, I, L, F) := fun z0 z1 z2 => by
    have s0 : 0 < s := Nat.pos_of_ne_zero (fun w => z0 (sz.mpr w))
    rw [e6] at z2
    obtain ⟨k, hk, ea⟩ := rgn (by omega) z1 z2
    rw [show a.toNatClampNeg = k by rw [ea, nI_clamp (by omega)]]
    exact ⟨rf_in ea (by omega) (by decide), (fLg (hB s0 k hk)).n32, h1 s0 k hk ea⟩
  have no : ¬ I 0 60 = 0 → (a < 0 ∨ ¬ a ≤ I 17 6 - 1) → Q (some (.int (-1))) (sh2, I, L, F) := fun z0 z => h2 (Nat.pos_of_ne_zero (fun w => z0 (sz.mpr w))) (fun w => z.elim (fun z => w.1 z) (fun z => z (by rw [e6]; exact w.2)))
  refine XC.block [] 60 ?_
  refine And.intro (fun z => absurd z hne) (fun _ => ?_)
  refine And.intro (fun z0 => ?_) (fun z0 => ⟨trivial, h0 (sz.mp (Classical.not_not.mp z0))⟩)
  refine And.intro v6 ?_
  refine fr_in (fun z1 z2 => ?_) (fun z => ?_)
  · have g := go z0 z1 z2
    exact And.intro (fun z => absurd (show (1 : Int32) = 0 from z) (by decide)) (fun _ => And.intro g.1 (And.intro g.2.1 ⟨trivial, g.2.2⟩))
  · exact And.intro (fun _ => ⟨trivial, no z0 z⟩) (fun w => absurd (show (0 : Int32) = 0 from rfl) w)
theorem rf_seed {w : Int64} (h : Q none (sh2, I, x2 L 0 62 (if w = 0 then 1 else w), F)) : XM xE0 d 71 [.ref 0, .long w] (sh2, I, L, F) Q := by
  have e0 : w = 0 → lg_cmp w 0 = 0 := fun e => by rw [e]; rfl
  have e1 : lg_cmp w 0 = 0 → w = 0 := fun e => by
    unfold lg_cmp at e
    split at e
    · exact absurd e (by decide)
    · split at e
      · assumption
      · exact absurd e (by decide)
  have a1 : ¬ lg_cmp w 0 = 0 → Q none (sh2, I, x2 L 0 62 w, F) := fun z => by rw [if_neg (fun e => z (e0 e))] at h; exact h
  have a2 : lg_cmp w 0 = 0 → Q none (sh2, I, x2 L 0 62 1, F) := fun z => by rw [if_pos (e1 z)] at h; exact h
  refine XC.block [] 60 ?_
  exact And.intro (fun c3 => ⟨trivial, a1 c3⟩) (fun c3 => ⟨trivial, a2 (Classical.not_not.mp c3)⟩)
theorem rf_said {y : Nat} (hy : y < 2 ^ 31) (h61 : I 0 61 = nI y) {a : Int32} (h1 : ∀ k, k < 32 → k < y → a = nI k → Q (some (.int (I 30 ((y - 1 - k) % 32)))) (sh2, I, L, F)) (h2 : ¬ (rgI a 32 ∧ rgI a y) → Q (some (.int (-1))) (sh2, I, L, F)) : XM xE0 (d + 1) 75 [.ref 0, .int a] (sh2, I, L, F) Q := by
  have go : ¬ a < 0 → a ≤ 31 → ¬ I 0 61 ≤ a → vp_in (I 0 61 - 1 - a - (I 0 61 - 1 - a) / 32 * 32) 32 ∧ Q (some (.int (I 30 (I 0 61 - 1 - a - (I 0 61 - 1 - a) / 32 * 32).toNatClampNeg))) (sh2, I, L, F) := fun z1 z2 z3 => by
    obtain ⟨k, hk, ea⟩ := rgn (N := 32) (by decide) z1 z2
    rw [h61, ea, nI_leI hy (by omega)] at z3
    have e : I 0 61 - 1 - a = nI (y - 1 - k) := by rw [h61, ea, nI_p1 (by omega), pk_sub (by omega)]
    have er : I 0 61 - 1 - a - (I 0 61 - 1 - a) / 32 * 32 = nI ((y - 1 - k) % 32) := by rw [e]; exact pk_rem (d := 32) (by omega) (by decide) (by decide)
    have lt : (y - 1 - k) % 32 < 32 := Nat.mod_lt _ (by decide)
    rw [er, nI_clamp (by omega)]
    exact ⟨rf_in rfl lt (by decide), h1 k hk (by omega) ea⟩
  have n1 : (a < 0 ∨ ¬ a ≤ 31) → Q (some (.int (-1))) (sh2, I, L, F) := fun z => h2 (fun w => z.elim (fun z => w.1.1 z) (fun z => z w.1.2))
  have n2 : ¬ a < 0 → a ≤ 31 → I 0 61 ≤ a → Q (some (.int (-1))) (sh2, I, L, F) := fun z1 z2 z => h2 (fun w => by
    obtain ⟨k, hk, ea⟩ := rgn hy w.2.1 w.2.2
    rw [h61, ea, nI_leI hy (by omega)] at z
    omega)
  refine XC.block [] 60 ?_
  refine fr_in (fun z1 z2 => ?_) (fun z => ?_)
  · refine And.intro (fun z => absurd (show (1 : Int32) = 0 from z) (by decide)) (fun _ => ?_)
    refine And.intro (fun z => ⟨trivial, n2 z1 z2 z⟩) (fun z => ?_)
    have g := go z1 z2 z
    exact And.intro (show ¬ (32 : Int32) = 0 by decide) (And.intro g.1 ⟨trivial, g.2⟩)
  · exact And.intro (fun _ => ⟨trivial, n1 z⟩) (fun w => absurd (show (0 : Int32) = 0 from rfl) w)
end RUH
