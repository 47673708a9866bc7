/-! calls on new objects: the reference -/
section FRD
variable {I : Nat → Nat → Int32} {L : Nat → Nat → Int64} {F : Nat → Nat → UInt32} {a1 a2 a3 : Int32}
theorem fr_in {d : Nat} {v lo hi : Int32} {h : xH} {Q : xP} (k1 : ¬ v < lo → v ≤ hi → Q (some (.int 1)) h) (k0 : v < lo ∨ ¬ v ≤ hi → Q (some (.int 0)) h) : XM xE0 d 24 [.int v, .int lo, .int hi] h Q := by
  refine XC.block [] 60 ?_
  refine And.intro (fun c => ⟨by decide, k0 (Or.inl c)⟩) (fun c => ?_)
  exact And.intro (fun c2 => ⟨by decide, k0 (Or.inr (Int32.not_le.mpr c2))⟩) (fun c2 => ⟨by decide, k1 c (Int32.not_lt.mp c2)⟩)
theorem fr2_fact (i : I 0 38 = 0) : XM xE0 100 56 [.ref 0, .int a1] (sh2, I, L, F) (fun v h => v = some (.int (-3)) ∧ h.1 = sh2) := by
  refine XC.block [] 60 ?_
  exact And.intro (fun c => (c i).elim) (fun c => ⟨trivial, rfl, rfl⟩)
theorem fr2_weight (i : I 0 38 = 0) : XM xE0 100 57 [.ref 0, .int a1, .int a2, .int a3] (sh2, I, L, F) (fun v h => v = some (.int (-3)) ∧ h.1 = sh2) := by
  refine XC.block [] 60 ?_
  exact And.intro (fun c => (c i).elim) (fun c => ⟨trivial, rfl, rfl⟩)
theorem fr2_encode (i : I 0 38 = 0) : XM xE0 100 59 [.ref 0] (sh2, I, L, F) (fun v h => v = some (.int (-3)) ∧ h.1 = sh2) := by
  refine XC.block [] 60 ?_
  exact And.intro (fun c => (c i).elim) (fun c => ⟨trivial, rfl, rfl⟩)
theorem fr2_step (i : I 0 38 = 0) : XM xE0 100 69 [.ref 0, .int a1] (sh2, I, L, F) (fun v h => v = some (.int (-3)) ∧ h.1 = sh2) := by
  refine XC.block [] 60 ?_
  exact And.intro (fun c => (c i).elim) (fun c => ⟨trivial, rfl, rfl⟩)
theorem fr2_logit (i : I 0 38 = 0) : XM xE0 100 70 [.ref 0, .int a1] (sh2, I, L, F) (fun v h => v = some (.int (-3)) ∧ h.1 = sh2) := by
  refine XC.block [] 60 ?_
  exact And.intro (fun c => ⟨trivial, rfl, rfl⟩) (fun c => (c i).elim)
theorem fr2_letter (i : I 0 38 = 0) : XM xE0 100 61 [.ref 0, .int a1, .int a2] (sh2, I, L, F) (fun v h => v = some (.int (-1)) ∧ h.1 = sh2) := by
  refine XC.block [] 60 ?_
  exact And.intro (fun c => ⟨trivial, rfl, rfl⟩) (fun c => (c i).elim)
theorem fr2_clear (i : I 0 1 = 0) : XM xE0 100 27 [.ref 0] (sh2, I, L, F) (fun v h => v = some (.int 0) ∧ h.1 = sh2) := by
  refine XC.block [] 60 ?_
  exact ⟨trivial, congrArg (fun x => some (Value.int x)) i, rfl⟩
theorem fr2_reset (i : I 0 60 = 0) : XM xE0 100 76 [.ref 0] (sh2, I, L, F) (fun v h => v = some (.int 0) ∧ h.1 = sh2) := by
  refine XC.block [] 60 ?_
  exact ⟨trivial, congrArg (fun x => some (Value.int x)) i, rfl⟩
theorem fr2_seed (w : Int64) : XM xE0 100 71 [.ref 0, .long w] (sh2, I, L, F) (fun v h => v = none ∧ h.1 = sh2) := by
  refine XC.block [] 60 ?_
  exact And.intro (fun c3 => ⟨trivial, rfl, rfl⟩) (fun c3 => ⟨trivial, rfl, rfl⟩)
theorem fr_n1 {v z : Int32} (i : z = 0) (c1 : ¬ v < 0) (c2 : v ≤ z - 1) : False := by
  subst i
  exact c1 (Int32.lt_of_le_of_lt c2 (by decide))
theorem fr2_token (i : I 0 59 = 0) : XM xE0 100 60 [.ref 0, .int a1] (sh2, I, L, F) (fun v h => v = some (.int (-1)) ∧ h.1 = sh2) := by
  refine XC.block [] 60 ?_
  refine fr_in (fun c1 c2 => (fr_n1 i c1 c2).elim) (fun c => ?_)
  exact And.intro (fun c => ⟨trivial, rfl, rfl⟩) (fun c => (c rfl).elim)
theorem fr_p0 {z : Int32} (i : z = 0) (c : ¬ z < 1) : False := by
  subst i
  exact c (by decide)
theorem fr2_place (i : I 0 3 = 0) : XM xE0 100 55 [.ref 0] (sh2, I, L, F) (fun v h => v = some (.int (-1)) ∧ h.1 = sh2) := by
  refine XC.block [] 60 ?_
  refine fr_in (fun c1 c2 => (fr_p0 i c1).elim) (fun c => ?_)
  exact And.intro (fun c => ⟨trivial, rfl, rfl⟩) (fun c => (c rfl).elim)
end FRD
