/-! calls on new objects: file, text and load of the class -/
section FRB
variable {I I2 : Nat → Nat → Int32} {L L2 : Nat → Nat → Int64} {F F2 : Nat → Nat → UInt32} {a1 a2 a3 : Int32}
theorem fr_g {z j : Int32} {N : Nat} (i : z = 0) (h : vp_in j N) : vp_in (z + j) N := by
  rw [i, Int32.zero_add]; exact h
theorem fr_le {z n k : Int32} (i : z = 0) (h : n ≤ 8) (hk : 8 ≤ k) (c : ¬ z + n ≤ k) : False := by
  rw [i, Int32.zero_add] at c
  exact c (Int32.le_trans h hk)
theorem fr1_fileL (w : Int64) (hn : a1 ≤ 8) {d : Nat} {Q : xP} (hQ : ∀ I', Q (some (.int a1)) (sh1, I', L, F)) : ∀ (k j : Nat), j + k = 8 → ∀ I' : Nat → Nat → Int32, I' 1 1 = 0 → XC xE0 d xM_131 (33, [some (.ref 1), some (.long w), none, some (.int a1), some (.int (nI j))], [], (sh1, I', L, F)) Q := by
  have hQ' : ∀ (z : Int32) (I' : Nat → Nat → Int32), z = a1 → Q (some (.int z)) (sh1, I', L, F) := by
    intro z I' h; subst h; exact hQ I'
  intro k
  induction k with
  | zero =>
    intro j hj I' i
    have : j = 8 := by omega
    subst this
    refine XC.block [33] 60 ?_
    exact And.intro (fun c => ⟨trivial, hQ' _ _ (show I' 1 1 + a1 = a1 by rw [i, Int32.zero_add])⟩) (fun c => absurd hn c)
  | succ k ih =>
    intro j hj I' i
    refine XC.block [33] 60 ?_
    refine And.intro (fun c => ⟨trivial, hQ' _ _ (show I' 1 1 + a1 = a1 by rw [i, Int32.zero_add])⟩) (fun c => ?_)
    refine And.intro (fr_g i (vp_in_nI (by omega) (by decide))) ?_
    have h : ∀ X : Nat → Nat → Int32, X 1 1 = 0 → XC xE0 d xM_131 (33, [some (.ref 1), some (.long w), none, some (.int a1), some (.int (nI j + 1))], [], (sh1, X, L, F)) Q := by
      intro X hX
      have h := ih (j + 1) (by omega) X hX
      rw [nI_succ] at h
      exact h
    exact h _ i
theorem fr1_file {f : Int32} (w : Int64) (i : I 1 1 = 0) (h1 : a1 < 1 ∨ ¬ a1 ≤ 8 → f = -1) (h2 : ¬ a1 < 1 → a1 ≤ 8 → f = a1) : XM xE0 100 1 [.ref 0, .long w, .int a1] (sh1, I, L, F) (fun v h => v = some (.int f) ∧ h.1 = sh1) := by
  refine XC.block [] 60 ?_
  refine XC.block [33] 300 ?_
  refine And.intro (fun c1 => ⟨trivial, trivial, congrArg (fun x => some (Value.int x)) (h1 (Or.inl c1)).symm, rfl⟩) (fun c1 => ?_)
  refine And.intro (fun c2 => ?_) (fun c2 => ⟨trivial, trivial, congrArg (fun x => some (Value.int x)) (h1 (Or.inr c2)).symm, rfl⟩)
  refine And.intro (fun c3 => ?_) (fun c3 => (fr_le i c2 (by decide) c3).elim)
  exact fr1_fileL w c2 (fun I' => ⟨trivial, congrArg (fun x => some (Value.int x)) (h2 c1 c2).symm, rfl⟩) 8 0 rfl I i
theorem fr1_textL (w : Int64) (hn : a1 ≤ 8) {d : Nat} {Q : xP} (hQ : ∀ I', Q (some (.int a1)) (sh1, I', L, F)) : ∀ (k j : Nat), j + k = 8 → ∀ I' : Nat → Nat → Int32, I' 3 1 = 0 → XC xE0 d xM_131 (33, [some (.ref 3), some (.long w), none, some (.int a1), some (.int (nI j))], [], (sh1, I', L, F)) Q := by
  have hQ' : ∀ (z : Int32) (I' : Nat → Nat → Int32), z = a1 → Q (some (.int z)) (sh1, I', L, F) := by
    intro z I' h; subst h; exact hQ I'
  intro k
  induction k with
  | zero =>
    intro j hj I' i
    have : j = 8 := by omega
    subst this
    refine XC.block [33] 60 ?_
    exact And.intro (fun c => ⟨trivial, hQ' _ _ (show I' 3 1 + a1 = a1 by rw [i, Int32.zero_add])⟩) (fun c => absurd hn c)
  | succ k ih =>
    intro j hj I' i
    refine XC.block [33] 60 ?_
    refine And.intro (fun c => ⟨trivial, hQ' _ _ (show I' 3 1 + a1 = a1 by rw [i, Int32.zero_add])⟩) (fun c => ?_)
    refine And.intro (fr_g i (vp_in_nI (by omega) (by decide))) ?_
    have h : ∀ X : Nat → Nat → Int32, X 3 1 = 0 → XC xE0 d xM_131 (33, [some (.ref 3), some (.long w), none, some (.int a1), some (.int (nI j + 1))], [], (sh1, X, L, F)) Q := by
      intro X hX
      have h := ih (j + 1) (by omega) X hX
      rw [nI_succ] at h
      exact h
    exact h _ i
theorem fr1_text {f : Int32} (w : Int64) (i : I 3 1 = 0) (h1 : a1 < 1 ∨ ¬ a1 ≤ 8 → f = -1) (h2 : ¬ a1 < 1 → a1 ≤ 8 → f = a1) : XM xE0 100 10 [.ref 0, .long w, .int a1] (sh1, I, L, F) (fun v h => v = some (.int f) ∧ h.1 = sh1) := by
  refine XC.block [] 60 ?_
  refine XC.block [33] 300 ?_
  refine And.intro (fun c1 => ⟨trivial, trivial, congrArg (fun x => some (Value.int x)) (h1 (Or.inl c1)).symm, rfl⟩) (fun c1 => ?_)
  refine And.intro (fun c2 => ?_) (fun c2 => ⟨trivial, trivial, congrArg (fun x => some (Value.int x)) (h1 (Or.inr c2)).symm, rfl⟩)
  refine And.intro (fun c3 => ?_) (fun c3 => (fr_le i c2 (by decide) c3).elim)
  exact fr1_textL w c2 (fun I' => ⟨trivial, congrArg (fun x => some (Value.int x)) (h2 c1 c2).symm, rfl⟩) 8 0 rfl I i
end FRB
