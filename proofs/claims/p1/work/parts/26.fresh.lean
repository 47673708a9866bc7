/-! calls on new objects: the reference, the rest -/
section FRE
variable {I : Nat → Nat → Int32} {L : Nat → Nat → Int64} {F : Nat → Nat → UInt32} {a1 a2 a3 : Int32}
theorem fr2_flip (i : I 0 1 = 0) : XM xE0 100 26 [.ref 0, .int a1, .int a2] (sh2, I, L, F) (fun v h => v = some (.int (-1)) ∧ h.1 = sh2) := by
  refine XC.block [] 60 ?_
  refine fr_in (fun c1 c2 => (fr_n1 i c1 c2).elim) (fun c => ?_)
  exact And.intro (fun c => ⟨trivial, rfl, rfl⟩) (fun c => (c rfl).elim)
theorem fr_ge {k z : Int32} (i : z = 0) (c1 : ¬ k < 0) (c2 : ¬ z ≤ k) : False := by
  subst i
  exact c2 (Int32.not_lt.mp c1)
theorem fr2_said (i : I 0 61 = 0) : XM xE0 100 75 [.ref 0, .int a1] (sh2, I, L, F) (fun v h => v = some (.int (-1)) ∧ h.1 = sh2) := by
  refine XC.block [] 60 ?_
  refine fr_in (fun c1 c2 => ?_) (fun c => ?_)
  · refine And.intro (fun c => absurd (show (1 : Int32) = 0 from c) (by decide)) (fun c => ?_)
    exact And.intro (fun c3 => ⟨trivial, rfl, rfl⟩) (fun c3 => (fr_ge i c1 c3).elim)
  · exact And.intro (fun c => ⟨trivial, rfl, rfl⟩) (fun c => (c rfl).elim)
theorem fr2_say {f : Int32} (i : I 0 38 = 0) (h1 : fr_sy a1 → f = -3) (h2 : ¬ fr_sy a1 → f = -1) : XM xE0 100 74 [.ref 0, .int a1] (sh2, I, L, F) (fun v h => v = some (.int f) ∧ h.1 = sh2) := by
  refine XC.block [] 60 ?_
  refine fr_in (fun c1 c2 => ?_) (fun c => ?_)
  · refine And.intro (fun c => ?_) (fun c => (c (show ¬ (1 : Int32) = 0 by decide)).elim)
    exact And.intro (fun c => ⟨trivial, congrArg (fun x => some (Value.int x)) (h1 ⟨c1, Int32.not_lt.mpr c2⟩).symm, rfl⟩) (fun c => (c i).elim)
  · exact And.intro (fun c => (c rfl).elim) (fun _ => ⟨trivial, congrArg (fun x => some (Value.int x)) (h2 (fun q => c.elim q.1 (fun z => z (Int32.not_lt.mp q.2)))).symm, rfl⟩)
theorem fr2_draw {f : Int32} (i : I 0 38 = 0) (h1 : fr_dr a1 a2 a3 → f = -3) (h2 : ¬ fr_dr a1 a2 a3 → f = -1) : XM xE0 100 73 [.ref 0, .int a1, .int a2, .int a3] (sh2, I, L, F) (fun v h => v = some (.int f) ∧ h.1 = sh2) := by
  refine XC.block [] 60 ?_
  refine fr_in (fun t1 t2 => ?_) (fun t => ?_)
  · refine And.intro (fun c => absurd (show (1 : Int32) = 0 from c) (by decide)) (fun c => ?_)
    refine fr_in (fun k1 k2 => ?_) (fun k => ?_)
    · refine And.intro (fun c => absurd (show (1 : Int32) = 0 from c) (by decide)) (fun c => ?_)
      refine fr_in (fun p1 p2 => ?_) (fun p => ?_)
      · refine And.intro (fun c => ?_) (fun c => (c (show ¬ (1 : Int32) = 0 by decide)).elim)
        exact And.intro (fun c => ⟨trivial, congrArg (fun x => some (Value.int x)) (h1 ⟨t1, Int32.not_lt.mpr t2, k1, Int32.not_lt.mpr k2, p1, Int32.not_lt.mpr p2⟩).symm, rfl⟩) (fun c => (c i).elim)
      · exact And.intro (fun c => (c rfl).elim) (fun _ => ⟨trivial, congrArg (fun x => some (Value.int x)) (h2 (fun q => p.elim q.2.2.2.2.1 (fun z => z (Int32.not_lt.mp q.2.2.2.2.2)))).symm, rfl⟩)
    · exact And.intro (fun _ => ⟨trivial, congrArg (fun x => some (Value.int x)) (h2 (fun q => k.elim q.2.2.1 (fun z => z (Int32.not_lt.mp q.2.2.2.1)))).symm, rfl⟩) (fun c => (c rfl).elim)
  · exact And.intro (fun _ => ⟨trivial, congrArg (fun x => some (Value.int x)) (h2 (fun q => t.elim q.1 (fun z => z (Int32.not_lt.mp q.2.1)))).symm, rfl⟩) (fun c => (c rfl).elim)
theorem fr2_fileL (w : Int64) (m : Nat) (hm : m ≤ 8) {d : Nat} {Q : xP} (hQ : ∀ I', Q (some (.int (nI m))) (sh2, I', L, F)) : ∀ (k j : Nat), j + k = m → ∀ I' : Nat → Nat → Int32, I' 0 1 = nI j → XC xE0 d xM_25 (30, [some (.ref 0), some (.long w), none, some (.int (nI m)), some (.int (nI j))], [], (sh2, I', L, F)) Q := by
  have hQ' : ∀ (z : Int32) (I' : Nat → Nat → Int32), z = nI m → Q (some (.int z)) (sh2, I', L, F) := by
    intro z I' h; subst h; exact hQ I'
  intro k
  induction k with
  | zero =>
    intro j hj I' i
    have : j = m := by omega
    subst this
    refine XC.block [30] 60 ?_
    exact And.intro (fun c => ⟨trivial, hQ' _ _ i⟩) (fun c => absurd (nI_le (Nat.le_refl _) (by omega)) c)
  | succ k ih =>
    intro j hj I' i
    refine XC.block [30] 60 ?_
    refine And.intro (fun c => absurd c (nI_ge (by omega) (by omega))) (fun c => ?_)
    refine And.intro (show vp_in (I' 0 1) 1400 by rw [i]; exact vp_in_nI (by omega) (by decide)) ?_
    have h : ∀ X : Nat → Nat → Int32, X 0 1 = nI j + 1 → XC xE0 d xM_25 (30, [some (.ref 0), some (.long w), none, some (.int (nI m)), some (.int (nI j + 1))], [], (sh2, X, L, F)) Q := by
      intro X hX
      have h := ih (j + 1) (by omega) X (by rw [nI_succ]; exact hX)
      rw [nI_succ] at h
      exact h
    exact h _ (show I' 0 1 + 1 = nI j + 1 by rw [i])
theorem fr2_file {f : Int32} (w : Int64) (i : I 0 1 = 0) (h1 : a1 < 1 ∨ ¬ a1 ≤ 8 → f = -1) (h2 : ¬ a1 < 1 → a1 ≤ 8 → f = a1) : XM xE0 100 25 [.ref 0, .long w, .int a1] (sh2, I, L, F) (fun v h => v = some (.int f) ∧ h.1 = sh2) := by
  refine XC.block [30] 60 ?_
  refine fr_in (fun c1 c2 => ?_) (fun c => ?_)
  · refine And.intro (fun c => ?_) (fun c => (c (show ¬ (1 : Int32) = 0 by decide)).elim)
    refine And.intro (fun c3 => ?_) (fun c3 => (fr_le i c2 (by decide) c3).elim)
    have hf := h2 c1 c2
    obtain ⟨m, hm, rfl⟩ := nI_of (show ¬ a1 < 0 from fun z => c1 (Int32.lt_of_lt_of_le z (by decide)))
    have hm8 : m ≤ 8 := by
      rcases Nat.lt_or_ge 8 m with q | q
      · exact absurd c2 (nI_ge q (by omega))
      · exact q
    exact fr2_fileL w m hm8 (fun I' => ⟨congrArg (fun x => some (Value.int x)) hf.symm, rfl⟩) m 0 (by omega) I i
  · exact And.intro (fun c => (c rfl).elim) (fun _ => ⟨trivial, congrArg (fun x => some (Value.int x)) (h1 c).symm, rfl⟩)
theorem fr2_textL (w : Int64) (m : Nat) (hm : m ≤ 8) {d : Nat} {Q : xP} (hQ : ∀ I', Q (some (.int (nI m))) (sh2, I', L, F)) : ∀ (k j : Nat), j + k = m → ∀ I' : Nat → Nat → Int32, I' 0 58 = nI j → XC xE0 d xM_58 (29, [some (.ref 0), some (.long w), none, some (.int (nI m)), some (.int (nI j))], [], (sh2, I', L, F)) Q := by
  have hQ' : ∀ (z : Int32) (I' : Nat → Nat → Int32), z = nI m → Q (some (.int z)) (sh2, I', L, F) := by
    intro z I' h; subst h; exact hQ I'
  intro k
  induction k with
  | zero =>
    intro j hj I' i
    have : j = m := by omega
    subst this
    refine XC.block [29] 60 ?_
    exact And.intro (fun c => ⟨trivial, hQ' _ _ i⟩) (fun c => absurd (nI_le (Nat.le_refl _) (by omega)) c)
  | succ k ih =>
    intro j hj I' i
    refine XC.block [29] 60 ?_
    refine And.intro (fun c => absurd c (nI_ge (by omega) (by omega))) (fun c => ?_)
    refine And.intro (show vp_in (I' 0 58) 24 by rw [i]; exact vp_in_nI (by omega) (by decide)) ?_
    have h : ∀ X : Nat → Nat → Int32, X 0 58 = nI j + 1 → XC xE0 d xM_58 (29, [some (.ref 0), some (.long w), none, some (.int (nI m)), some (.int (nI j + 1))], [], (sh2, X, L, F)) Q := by
      intro X hX
      have h := ih (j + 1) (by omega) X (by rw [nI_succ]; exact hX)
      rw [nI_succ] at h
      exact h
    exact h _ (show I' 0 58 + 1 = nI j + 1 by rw [i])
theorem fr2_text {f : Int32} (w : Int64) (i : I 0 58 = 0) (h1 : a1 < 1 ∨ ¬ a1 ≤ 8 → f = -1) (h2 : ¬ a1 < 1 → a1 ≤ 8 → f = a1) : XM xE0 100 58 [.ref 0, .long w, .int a1] (sh2, I, L, F) (fun v h => v = some (.int f) ∧ h.1 = sh2) := by
  refine XC.block [29] 60 ?_
  refine fr_in (fun c1 c2 => ?_) (fun c => ?_)
  · refine And.intro (fun c => ?_) (fun c => (c (show ¬ (1 : Int32) = 0 by decide)).elim)
    refine And.intro (fun c3 => ?_) (fun c3 => (fr_le i c2 (by decide) c3).elim)
    have hf := h2 c1 c2
    obtain ⟨m, hm, rfl⟩ := nI_of (show ¬ a1 < 0 from fun z => c1 (Int32.lt_of_lt_of_le z (by decide)))
    have hm8 : m ≤ 8 := by
      rcases Nat.lt_or_ge 8 m with q | q
      · exact absurd c2 (nI_ge q (by omega))
      · exact q
    exact fr2_textL w m hm8 (fun I' => ⟨congrArg (fun x => some (Value.int x)) hf.symm, rfl⟩) m 0 (by omega) I i
  · exact And.intro (fun c => (c rfl).elim) (fun _ => ⟨trivial, congrArg (fun x => some (Value.int x)) (h1 c).symm, rfl⟩)
end FRE
