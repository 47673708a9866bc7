/-! the calls of the class on paper: FILE, TEXT and what needs no MODEL -/
theorem oc_c2 (w : Int64) (i : Nat) : (oR w (nI i)).toInt32.toInt8.toInt32.toInt8.toInt32 &&& 255 = nI (oc w i) := by
  rw [oc_b]; exact oc_c w i
theorem rgL {a : Int32} {N : Nat} (hN : N < 2 ^ 31) (h1 : ¬ a < 0) (h2 : a < nI N) : ∃ k, k < N ∧ a = nI k := by
  obtain ⟨k, hk, e⟩ := nI_of h1
  subst e
  rw [nI_ltI hk hN] at h2
  exact ⟨k, h2, rfl⟩
theorem rgNo {a : Int32} {N : Nat} (hN : N < 2 ^ 31) (h : a < 0 ∨ ¬ a < nI N) : ¬ rgI a N := by
  intro w
  obtain ⟨k, hk, e⟩ := rgn hN w.1 w.2
  subst e
  exact h.elim (fun z => w.1 z) (fun z => z ((nI_ltI (by omega) hN).mpr hk))
section CAA
variable {X : List (Option Nat)} {T : List xS} {M : pMd} {f : Nat → Nat} {n : Nat} {I J : Nat → Nat → Int32} {L : Nat → Nat → Int64} {F G : Nat → Nat → UInt32} {d : Nat} {Q : xP} {m0 s0 : Option Nat}
theorem cl_app1 (hn : n ≤ 1400) (hF : clF f n I) (w : Int64) {a : Int32}
    (hrf : (a < 1 ∨ ¬ a ≤ 8) → Q (some (.int (-1))) (shG X T, I, L, F))
    (hfl : ∀ k, 1 ≤ k → k ≤ 8 → a = nI k → 1400 < n + k → Q (some (.int (-2))) (shG X T, I, L, F))
    (hok : ∀ k, 1 ≤ k → k ≤ 8 → a = nI k → n + k ≤ 1400 → ∀ J, clF (oFl f n k w) (n + k) J → (∀ b i, b ≠ 2 → ¬ (b = 1 ∧ i = 1) → J b i = I b i) → Q (some (.int (nI (n + k)))) (shG X T, J, L, F)) : XM xE0 d 131 [.ref 1, .long w, .int a] (shG X T, I, L, F) Q := by
  have loop : ∀ k, k ≤ 8 → a = nI k → n + k ≤ 1400 → (∀ J, clF (oFl f n k w) (n + k) J → (∀ b i, b ≠ 2 → ¬ (b = 1 ∧ i = 1) → J b i = I b i) → Q (some (.int (nI (n + k)))) (shG X T, J, L, F)) → ∀ (u i : Nat), i + u = k → ∀ J, clF (oFl f n i w) n J → (∀ b i, b ≠ 2 → J b i = I b i) → ∀ x, x = nI i → XC xE0 d xM_131 (33, [some (.ref 1), some (.long w), none, some (.int a), some (.int x)], [], (shG X T, J, L, F)) Q := by
    intro k hk ha hnk fin u
    induction u with
    | zero =>
      intro i hi J R D x hx
      have : i = k := by omega
      subst this
      have e1 : J 1 1 + a = nI (n + i) := by rw [R.2, ha, nI_add]
      have R2 : clF (oFl f n i w) (n + i) (x2 J 1 1 (J 1 1 + a)) := ⟨fun q hq => by rw [x2_o _ _ (by omega)]; exact R.1 q hq, by rw [x2_same]; exact e1⟩
      have D2 : ∀ b i', b ≠ 2 → ¬ (b = 1 ∧ i' = 1) → x2 J 1 1 (J 1 1 + a) b i' = I b i' := fun b i' h1 h2 => by rw [x2_o _ _ h2]; exact D b i' h1
      have e : Q (some (.int (x2 J 1 1 (J 1 1 + a) 1 1))) (shG X T, x2 J 1 1 (J 1 1 + a), L, F) := by rw [R2.2]; exact fin _ R2 D2
      refine XC.block [33] 60 ?_
      exact And.intro (fun _ => ⟨trivial, e⟩) (fun z => absurd (show a ≤ x by rw [ha, hx]; exact nI_le (by omega) (by omega)) z)
    | succ u ih =>
      intro i hi J R D x hx
      have hlt : ¬ a ≤ x := by rw [ha, hx]; exact nI_ge (by omega) (by omega)
      have i1 : i + 1 + u = k := by omega
      have hx1 : x + 1 = nI (i + 1) := by rw [hx, nI_1]
      have es : J 1 1 + x = nI (n + i) := by rw [R.2, hx, nI_add]
      have kin : vp_in (J 1 1 + x) 1400 := rf_in es (by omega) (by decide)
      have tk : (J 1 1 + x).toNatClampNeg = n + i := by rw [es, nI_clamp (by omega)]
      have ev : (oR w x).toInt32.toInt8.toInt32.toInt8.toInt32 &&& 255 = nI (oc w i) := by rw [hx]; exact oc_c2 w i
      have R2 : clF (oFl f n (i + 1) w) n (x2 J 2 (J 1 1 + x).toNatClampNeg (oR w x).toInt32.toInt8.toInt32.toInt8.toInt32) := by
        refine ⟨fun q hq => ?_, ?_⟩
        · rw [tk, oFl_st]
          split
          · rename_i y
            rw [y, x2_same]; exact ev
          · rename_i y
            rw [x2_o _ _ (by omega)]; exact R.1 q hq
        · rw [x2_o _ _ (by omega)]; exact R.2
      have D2 : ∀ b i', b ≠ 2 → x2 J 2 (J 1 1 + x).toNatClampNeg (oR w x).toInt32.toInt8.toInt32.toInt8.toInt32 b i' = I b i' := fun b i' h1 => by
        rw [x2_o _ _ (fun e => h1 e.1)]; exact D b i' h1
      refine XC.block [33] 60 ?_
      refine And.intro (fun z => absurd z hlt) (fun _ => ?_)
      refine And.intro kin ?_
      exact ih (i + 1) i1 _ R2 D2 _ hx1
  have full : ∀ k, k ≤ 8 → a = nI k → (I 1 1 + a ≤ nI 1400 ↔ n + k ≤ 1400) := fun k hk ha => by
    rw [hF.2, ha, nI_add, nI_leI (by omega) (by decide)]
  have go : ¬ a < 1 → a ≤ 8 → I 1 1 + a ≤ nI 1400 → ∀ x, x = nI 0 → XC xE0 d xM_131 (33, [some (.ref 1), some (.long w), none, some (.int a), some (.int x)], [], (shG X T, I, L, F)) Q := fun z1 z2 z3 x hx => by
    obtain ⟨k, k1, k2, ha⟩ := rg8 z1 z2
    have hnk := (full k k2 ha).mp z3
    exact loop k k2 ha hnk (fun J R D => hok k k1 k2 ha hnk J R D) k 0 (Nat.zero_add _) I (by rw [oFl_0]; exact hF) (fun _ _ _ => rfl) x hx
  have nogo : ¬ a < 1 → a ≤ 8 → ¬ I 1 1 + a ≤ nI 1400 → Q (some (.int (-2))) (shG X T, I, L, F) := fun z1 z2 z3 => by
    obtain ⟨k, k1, k2, ha⟩ := rg8 z1 z2
    exact hfl k k1 k2 ha (Nat.lt_of_not_le (fun y => z3 ((full k k2 ha).mpr y)))
  refine XC.block [33] 60 ?_
  refine And.intro (fun z => ⟨trivial, hrf (Or.inl z)⟩) (fun z1 => ?_)
  refine And.intro (fun z2 => ?_) (fun z => ⟨trivial, hrf (Or.inr z)⟩)
  exact And.intro (fun z => go z1 z2 z _ rfl) (fun z => ⟨trivial, nogo z1 z2 z⟩)
theorem cl_file (hn : n ≤ 1400) (hF : clF f n I) (w : Int64) {a : Int32}
    (hrf : (a < 1 ∨ ¬ a ≤ 8) → Q (some (.int (-1))) (shG (clXX m0 s0) T, I, L, F))
    (hfl : ∀ k, 1 ≤ k → k ≤ 8 → a = nI k → 1400 < n + k → Q (some (.int (-2))) (shG (clXX m0 s0) T, I, L, F))
    (hok : ∀ k, 1 ≤ k → k ≤ 8 → a = nI k → n + k ≤ 1400 → ∀ J, clF (oFl f n k w) (n + k) J → (∀ b i, b ≠ 2 → ¬ (b = 1 ∧ i = 1) → J b i = I b i) → Q (some (.int (nI (n + k)))) (shG (clXX m0 s0) T, J, L, F)) : XM xE0 (d + 1) 1 [.ref 0, .long w, .int a] (shG (clXX m0 s0) T, I, L, F) Q := by
  refine XC.block [] 60 ?_
  exact cl_app1 hn hF w (fun z => ⟨trivial, hrf z⟩) (fun k k1 k2 e z => ⟨trivial, hfl k k1 k2 e z⟩) (fun k k1 k2 e z J R D => ⟨trivial, hok k k1 k2 e z J R D⟩)
theorem cl_app3 (hn : n ≤ 24) (hF : clTx f n I) (w : Int64) {a : Int32}
    (hrf : (a < 1 ∨ ¬ a ≤ 8) → Q (some (.int (-1))) (shG X T, I, L, F))
    (hfl : ∀ k, 1 ≤ k → k ≤ 8 → a = nI k → 24 < n + k → Q (some (.int (-2))) (shG X T, I, L, F))
    (hok : ∀ k, 1 ≤ k → k ≤ 8 → a = nI k → n + k ≤ 24 → ∀ J, clTx (oFl f n k w) (n + k) J → (∀ b i, b ≠ 4 → ¬ (b = 3 ∧ i = 1) → J b i = I b i) → Q (some (.int (nI (n + k)))) (shG X T, J, L, F)) : XM xE0 d 131 [.ref 3, .long w, .int a] (shG X T, I, L, F) Q := by
  have loop : ∀ k, k ≤ 8 → a = nI k → n + k ≤ 24 → (∀ J, clTx (oFl f n k w) (n + k) J → (∀ b i, b ≠ 4 → ¬ (b = 3 ∧ i = 1) → J b i = I b i) → Q (some (.int (nI (n + k)))) (shG X T, J, L, F)) → ∀ (u i : Nat), i + u = k → ∀ J, clTx (oFl f n i w) n J → (∀ b i, b ≠ 4 → J b i = I b i) → ∀ x, x = nI i → XC xE0 d xM_131 (33, [some (.ref 3), some (.long w), none, some (.int a), some (.int x)], [], (shG X T, J, L, F)) Q := by
    intro k hk ha hnk fin u
    induction u with
    | zero =>
      intro i hi J R D x hx
      have : i = k := by omega
      subst this
      have e1 : J 3 1 + a = nI (n + i) := by rw [R.2, ha, nI_add]
      have R2 : clTx (oFl f n i w) (n + i) (x2 J 3 1 (J 3 1 + a)) := ⟨fun q hq => by rw [x2_o _ _ (by omega)]; exact R.1 q hq, by rw [x2_same]; exact e1⟩
      have D2 : ∀ b i', b ≠ 4 → ¬ (b = 3 ∧ i' = 1) → x2 J 3 1 (J 3 1 + a) b i' = I b i' := fun b i' h1 h2 => by rw [x2_o _ _ h2]; exact D b i' h1
      have e : Q (some (.int (x2 J 3 1 (J 3 1 + a) 3 1))) (shG X T, x2 J 3 1 (J 3 1 + a), L, F) := by rw [R2.2]; exact fin _ R2 D2
      refine XC.block [33] 60 ?_
      exact And.intro (fun _ => ⟨trivial, e⟩) (fun z => absurd (show a ≤ x by rw [ha, hx]; exact nI_le (by omega) (by omega)) z)
    | succ u ih =>
      intro i hi J R D x hx
      have hlt : ¬ a ≤ x := by rw [ha, hx]; exact nI_ge (by omega) (by omega)
      have i1 : i + 1 + u = k := by omega
      have hx1 : x + 1 = nI (i + 1) := by rw [hx, nI_1]
      have es : J 3 1 + x = nI (n + i) := by rw [R.2, hx, nI_add]
      have kin : vp_in (J 3 1 + x) 24 := rf_in es (by omega) (by decide)
      have tk : (J 3 1 + x).toNatClampNeg = n + i := by rw [es, nI_clamp (by omega)]
      have ev : (oR w x).toInt32.toInt8.toInt32.toInt8.toInt32 &&& 255 = nI (oc w i) := by rw [hx]; exact oc_c2 w i
      have R2 : clTx (oFl f n (i + 1) w) n (x2 J 4 (J 3 1 + x).toNatClampNeg (oR w x).toInt32.toInt8.toInt32.toInt8.toInt32) := by
        refine ⟨fun q hq => ?_, ?_⟩
        · rw [tk, oFl_st]
          split
          · rename_i y
            rw [y, x2_same]; exact ev
          · rename_i y
            rw [x2_o _ _ (by omega)]; exact R.1 q hq
        · rw [x2_o _ _ (by omega)]; exact R.2
      have D2 : ∀ b i', b ≠ 4 → x2 J 4 (J 3 1 + x).toNatClampNeg (oR w x).toInt32.toInt8.toInt32.toInt8.toInt32 b i' = I b i' := fun b i' h1 => by
        rw [x2_o _ _ (fun e => h1 e.1)]; exact D b i' h1
      refine XC.block [33] 60 ?_
      refine And.intro (fun z => absurd z hlt) (fun _ => ?_)
      refine And.intro kin ?_
      exact ih (i + 1) i1 _ R2 D2 _ hx1
  have full : ∀ k, k ≤ 8 → a = nI k → (I 3 1 + a ≤ nI 24 ↔ n + k ≤ 24) := fun k hk ha => by
    rw [hF.2, ha, nI_add, nI_leI (by omega) (by decide)]
  have go : ¬ a < 1 → a ≤ 8 → I 3 1 + a ≤ nI 24 → ∀ x, x = nI 0 → XC xE0 d xM_131 (33, [some (.ref 3), some (.long w), none, some (.int a), some (.int x)], [], (shG X T, I, L, F)) Q := fun z1 z2 z3 x hx => by
    obtain ⟨k, k1, k2, ha⟩ := rg8 z1 z2
    have hnk := (full k k2 ha).mp z3
    exact loop k k2 ha hnk (fun J R D => hok k k1 k2 ha hnk J R D) k 0 (Nat.zero_add _) I (by rw [oFl_0]; exact hF) (fun _ _ _ => rfl) x hx
  have nogo : ¬ a < 1 → a ≤ 8 → ¬ I 3 1 + a ≤ nI 24 → Q (some (.int (-2))) (shG X T, I, L, F) := fun z1 z2 z3 => by
    obtain ⟨k, k1, k2, ha⟩ := rg8 z1 z2
    exact hfl k k1 k2 ha (Nat.lt_of_not_le (fun y => z3 ((full k k2 ha).mpr y)))
  refine XC.block [33] 60 ?_
  refine And.intro (fun z => ⟨trivial, hrf (Or.inl z)⟩) (fun z1 => ?_)
  refine And.intro (fun z2 => ?_) (fun z => ⟨trivial, hrf (Or.inr z)⟩)
  exact And.intro (fun z => go z1 z2 z _ rfl) (fun z => ⟨trivial, nogo z1 z2 z⟩)
theorem cl_text (hn : n ≤ 24) (hF : clTx f n I) (w : Int64) {a : Int32}
    (hrf : (a < 1 ∨ ¬ a ≤ 8) → Q (some (.int (-1))) (shG (clXX m0 s0) T, I, L, F))
    (hfl : ∀ k, 1 ≤ k → k ≤ 8 → a = nI k → 24 < n + k → Q (some (.int (-2))) (shG (clXX m0 s0) T, I, L, F))
    (hok : ∀ k, 1 ≤ k → k ≤ 8 → a = nI k → n + k ≤ 24 → ∀ J, clTx (oFl f n k w) (n + k) J → (∀ b i, b ≠ 4 → ¬ (b = 3 ∧ i = 1) → J b i = I b i) → Q (some (.int (nI (n + k)))) (shG (clXX m0 s0) T, J, L, F)) : XM xE0 (d + 1) 10 [.ref 0, .long w, .int a] (shG (clXX m0 s0) T, I, L, F) Q := by
  refine XC.block [] 60 ?_
  exact cl_app3 hn hF w (fun z => ⟨trivial, hrf z⟩) (fun k k1 k2 e z => ⟨trivial, hfl k k1 k2 e z⟩) (fun k k1 k2 e z J R D => ⟨trivial, hok k k1 k2 e z J R D⟩)
theorem oFx_c {f : Nat → Nat} {k x : Nat} {y : Int32} (h : y &&& 255 = nI (f k)) (hx : x < 256) : (y ^^^ nI x).toInt8.toInt32.toInt8.toInt32 &&& 255 = nI (oFx f k (nI x) k) := by
  rw [oc_b, oc_b, oc_x, h, n255 hx]
  unfold oFx
  rw [if_pos rfl]
  have e : (nI (f k) ^^^ nI x) &&& 255 = nI (f k) ^^^ nI x := by rw [← h, oc_x, n255 hx, Int32.and_assoc]; rfl
  rw [← pk_and (nI (f k) ^^^ nI x) (m := 255) 8 (by decide), e]
theorem cl_change (hn : n ≤ 1400) (hF : clF f n I) {a b : Int32} {x : Nat} (hx : x < 256) (eb : b = nI x)
    (hrf : ¬ rgI a n → Q (some (.int (-1))) (shG X T, I, L, F))
    (hok : ∀ k, k < n → a = nI k → ∀ J, clF (oFx f k (nI x)) n J → (∀ b i, b ≠ 2 → J b i = I b i) → Q (some (.int (nI (oFx f k (nI x) k)))) (shG X T, J, L, F)) : XM xE0 d 132 [.ref 1, .int a, .int b] (shG X T, I, L, F) Q := by
  by_cases hr : a < 0 ∨ ¬ a < I 1 1
  · have q := hrf (rgNo (by omega) (by rw [← hF.2]; exact hr))
    refine XC.block [] 60 ?_
    refine And.intro (fun z => ⟨trivial, q⟩) (fun z1 => ?_)
    exact And.intro (fun z2 => absurd hr (fun w => w.elim z1 (fun v => v z2))) (fun z => ⟨trivial, q⟩)
  · have r1 : ¬ a < 0 := fun z => hr (Or.inl z)
    have r2 : a < I 1 1 := Decidable.byContradiction (fun z => hr (Or.inr z))
    obtain ⟨k, hk, ea⟩ := rgL (N := n) (by omega) r1 (by rw [← hF.2]; exact r2)
    have ta : a.toNatClampNeg = k := by rw [ea, nI_clamp (by omega)]
    have vin : vp_in a 1400 := rf_in ea (by omega) (by decide)
    have ev : (I 2 a.toNatClampNeg ^^^ b).toInt8.toInt32.toInt8.toInt32 &&& 255 = nI (oFx f k (nI x) k) := by
      rw [ta, eb]
      exact oFx_c (hF.1 k (by omega)) hx
    have R2 : clF (oFx f k (nI x)) n (x2 I 2 a.toNatClampNeg (I 2 a.toNatClampNeg ^^^ b).toInt8.toInt32.toInt8.toInt32) := by
      refine ⟨fun i hi => ?_, ?_⟩
      · rcases Nat.decEq i k with y | y
        · rw [x2_o _ _ (fun e => y (e.2.trans ta)), hF.1 i hi]
          unfold oFx
          rw [if_neg y]
        · have y' : i = a.toNatClampNeg := y.trans ta.symm
          rw [y', x2_same, ta]
          rw [ta] at ev
          exact ev
      · rw [x2_o _ _ (by omega)]; exact hF.2
    have D2 : ∀ b' i, b' ≠ 2 → x2 I 2 a.toNatClampNeg (I 2 a.toNatClampNeg ^^^ b).toInt8.toInt32.toInt8.toInt32 b' i = I b' i := fun b' i h => x2_o _ _ (fun e => h e.1)
    have q : Q (some (.int (x2 I 2 a.toNatClampNeg (I 2 a.toNatClampNeg ^^^ b).toInt8.toInt32.toInt8.toInt32 2 a.toNatClampNeg &&& 255))) (shG X T, x2 I 2 a.toNatClampNeg (I 2 a.toNatClampNeg ^^^ b).toInt8.toInt32.toInt8.toInt32, L, F) := by
      rw [x2_same, ev]
      exact hok k hk ea _ R2 D2
    refine XC.block [] 60 ?_
    refine And.intro (fun z => absurd z r1) (fun z1 => ?_)
    refine And.intro (fun z2 => ?_) (fun z => absurd r2 z)
    exact And.intro vin (And.intro vin (And.intro vin ⟨trivial, q⟩))
theorem cl_flip (hn : n ≤ 1400) (hF : clF f n I) {a b : Int32}
    (hrf : ¬ (rgI a n ∧ ¬ b < 0 ∧ b ≤ 255) → Q (some (.int (-1))) (shG (clXX m0 s0) T, I, L, F))
    (hok : ∀ k x, k < n → x < 256 → a = nI k → b = nI x → ∀ J, clF (oFx f k (nI x)) n J → (∀ b i, b ≠ 2 → J b i = I b i) → Q (some (.int (nI (oFx f k (nI x) k)))) (shG (clXX m0 s0) T, J, L, F)) : XM xE0 (d + 1) 2 [.ref 0, .int a, .int b] (shG (clXX m0 s0) T, I, L, F) Q := by
  by_cases hr : b < 0 ∨ ¬ b ≤ 255
  · have q := hrf (fun w => hr.elim w.2.1 (fun v => v w.2.2))
    refine XC.block [] 60 ?_
    refine And.intro (fun z => ⟨trivial, q⟩) (fun z1 => ?_)
    exact And.intro (fun z2 => absurd hr (fun w => w.elim z1 (fun v => v z2))) (fun z => ⟨trivial, q⟩)
  · have r1 : ¬ b < 0 := fun z => hr (Or.inl z)
    have r2 : b ≤ 255 := Decidable.byContradiction (fun z => hr (Or.inr z))
    obtain ⟨x, hx, eb⟩ := rgx (N := 255) (by decide) r1 r2
    refine XC.block [] 60 ?_
    refine And.intro (fun z => absurd z r1) (fun z1 => ?_)
    refine And.intro (fun z2 => ?_) (fun z => absurd r2 z)
    exact cl_change hn hF (show x < 256 by omega) eb (fun z => ⟨trivial, hrf (fun w => z w.1)⟩) (fun k hk ea J R D => ⟨trivial, hok k x hk (by omega) ea eb J R D⟩)
theorem cl_clear (hQ : Q (some (.int (I 1 1))) (shG (clXX m0 s0) T, x2 I 1 1 0, L, F)) : XM xE0 d 3 [.ref 0] (shG (clXX m0 s0) T, I, L, F) Q := by
  refine XC.block [] 60 ?_
  exact ⟨trivial, hQ⟩
theorem cl_place (hQ : Q (some (.int (I 5 13))) (shG (clXX m0 s0) T, I, L, F)) : XM xE0 d 7 [.ref 0] (shG (clXX m0 s0) T, I, L, F) Q := by
  refine XC.block [] 60 ?_
  exact ⟨trivial, hQ⟩
theorem cl_token {N : Nat} (hN : N ≤ 24) (h1' : I 16 1 = nI N) {a : Int32} (h1 : ∀ k, k < N → a = nI k → Q (some (.int (I 17 k))) (shG (clXX m0 s0) T, I, L, F)) (h2 : ¬ rgI a N → Q (some (.int (-1))) (shG (clXX m0 s0) T, I, L, F)) : XM xE0 d 12 [.ref 0, .int a] (shG (clXX m0 s0) T, I, L, F) Q := by
  by_cases hr : a < 0 ∨ ¬ a < I 16 1
  · have q := h2 (rgNo (by omega) (by rw [← h1']; exact hr))
    refine XC.block [] 60 ?_
    refine And.intro (fun z => ⟨trivial, q⟩) (fun z1 => ?_)
    exact And.intro (fun z2 => absurd hr (fun w => w.elim z1 (fun v => v z2))) (fun z => ⟨trivial, q⟩)
  · have r1 : ¬ a < 0 := fun z => hr (Or.inl z)
    have r2 : a < I 16 1 := Decidable.byContradiction (fun z => hr (Or.inr z))
    obtain ⟨k, hk, ea⟩ := rgL (N := N) (by omega) r1 (by rw [← h1']; exact r2)
    have vin : vp_in a 24 := rf_in ea (by omega) (by decide)
    have q : Q (some (.int (I 17 a.toNatClampNeg))) (shG (clXX m0 s0) T, I, L, F) := by
      rw [show a.toNatClampNeg = k by rw [ea, nI_clamp (by omega)]]
      exact h1 k hk ea
    refine XC.block [] 60 ?_
    refine And.intro (fun z => absurd z r1) (fun z1 => ?_)
    refine And.intro (fun z2 => ?_) (fun z => absurd r2 z)
    exact And.intro vin ⟨trivial, q⟩
theorem cl_seed {w : Int64} (h : Q none (shG (clXX m0 s0) T, I, x2 L 33 2 (if w = 0 then 1 else w), F)) : XM xE0 d 17 [.ref 0, .long w] (shG (clXX m0 s0) T, I, L, F) Q := by
  have e1 : lg_cmp w 0 = 0 → w = 0 := fun e => by
    unfold lg_cmp at e
    split at e
    · exact absurd e (by decide)
    · split at e
      · assumption
      · exact absurd e (by decide)
  have e0 : w = 0 → lg_cmp w 0 = 0 := fun e => by rw [e]; decide
  have a1 : ¬ lg_cmp w 0 = 0 → Q none (shG (clXX m0 s0) T, I, x2 L 33 2 w, F) := fun z => by rw [if_neg (fun e => z (e0 e))] at h; exact h
  have a2 : lg_cmp w 0 = 0 → Q none (shG (clXX m0 s0) T, I, x2 L 33 2 1, F) := fun z => by rw [if_pos (e1 z)] at h; exact h
  refine XC.block [] 60 ?_
  exact And.intro (fun c3 => ⟨trivial, a1 c3⟩) (fun c3 => ⟨trivial, a2 (Classical.not_not.mp c3)⟩)
theorem cl_rem32 {y : Nat} (hy : y < 2 ^ 31) : nI y - nI y / 32 * 32 = nI (y % 32) := by
  exact pk_rem (d := 32) hy (by decide) (by decide)
theorem cl_said {y : Nat} (hy : y < 2 ^ 31) (h61 : I 36 1 = nI y) {a : Int32} (h1 : ∀ k, k < 32 → k < y → a = nI k → Q (some (.int (I 37 ((y - 1 - k) % 32)))) (shG (clXX m0 s0) T, I, L, F)) (h2 : ¬ (rgI a 32 ∧ rgI a y) → Q (some (.int (-1))) (shG (clXX m0 s0) T, I, L, F)) : XM xE0 (d + 1) 21 [.ref 0, .int a] (shG (clXX m0 s0) T, I, L, F) Q := by
  by_cases hr : a < 0 ∨ 32 ≤ a ∨ ¬ a < I 36 1
  · have q : Q (some (.int (-1))) (shG (clXX m0 s0) T, I, L, F) := by
      refine h2 (fun w => ?_)
      rcases hr with z | z | z
      · exact w.1.1 z
      · exact rgNo (N := 32) (by decide) (Or.inr (Int32.not_lt.mpr z)) w.1
      · rw [h61] at z
        exact rgNo hy (Or.inr z) w.2
    refine XC.block [] 60 ?_
    refine XC.block [] 60 ?_
    refine And.intro (fun z => ⟨trivial, trivial, q⟩) (fun z1 => ?_)
    refine And.intro (fun z => ⟨trivial, trivial, q⟩) (fun z2 => ?_)
    exact And.intro (fun z3 => absurd hr (fun w => w.elim z1 (fun v => v.elim z2 (fun u => u z3)))) (fun z => ⟨trivial, trivial, q⟩)
  · have r1 : ¬ a < 0 := fun z => hr (Or.inl z)
    have r2 : ¬ 32 ≤ a := fun z => hr (Or.inr (Or.inl z))
    have r3 : a < I 36 1 := Decidable.byContradiction (fun z => hr (Or.inr (Or.inr z)))
    obtain ⟨k, hk, ea⟩ := rgL (N := 32) (by decide) r1 (Int32.not_le.mp r2)
    have ky : k < y := by
      have z := r3
      rw [h61, ea, nI_ltI (by omega) hy] at z
      exact z
    have e1 : I 36 1 - 1 - a = nI (y - 1 - k) := by
      rw [h61, ea, nI_p1 (by omega), pk_sub (by omega)]
    have e2 : (I 36 1 - 1 - a) - (I 36 1 - 1 - a) / 32 * 32 = nI ((y - 1 - k) % 32) := by
      rw [e1]
      exact cl_rem32 (by omega)
    have vin : vp_in ((I 36 1 - 1 - a) - (I 36 1 - 1 - a) / 32 * 32) 32 := rf_in e2 (Nat.mod_lt _ (by decide)) (by decide)
    have q : Q (some (.int (I 37 ((I 36 1 - 1 - a) - (I 36 1 - 1 - a) / 32 * 32).toNatClampNeg))) (shG (clXX m0 s0) T, I, L, F) := by
      rw [show ((I 36 1 - 1 - a) - (I 36 1 - 1 - a) / 32 * 32).toNatClampNeg = (y - 1 - k) % 32 by rw [e2, nI_clamp (by have := Nat.mod_lt (y - 1 - k) (show 0 < 32 by decide); omega)]]
      exact h1 k hk ky ea
    refine XC.block [] 60 ?_
    refine XC.block [] 60 ?_
    refine And.intro (fun z => absurd z r1) (fun z1 => ?_)
    refine And.intro (fun z => absurd z r2) (fun z2 => ?_)
    refine And.intro (fun z3 => ?_) (fun z => absurd r3 z)
    refine And.intro (show ¬ (32 : Int32) = 0 by decide) ?_
    exact And.intro vin ⟨trivial, trivial, q⟩
theorem cl_reset (hQ : Q (some (.int (I 18 10))) (shG (clXX m0 s0) T, clFg I, L, F)) : XM xE0 (d + 2) 22 [.ref 0] (shG (clXX m0 s0) T, I, L, F) Q := by
  refine XC.block [] 60 ?_
  refine XC.block [] 60 ?_
  refine XC.block [] 60 ?_
  exact ⟨trivial, trivial, trivial, hQ⟩
end CAA
