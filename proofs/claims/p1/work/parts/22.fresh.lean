/-! calls on new objects -/
/-- two runs with one answer are a pair -/
theorem lw_pair {yx ym : Nat} {av : List Value} {h1 h2 : xH} {f : Int32} {P1 P2 : xH → Prop} (r1 : XM xE0 100 yx (.ref 0 :: av) h1 (fun v h => v = some (.int f) ∧ P1 h)) (r2 : XM xE0 100 ym (.ref 0 :: av) h2 (fun v h => v = some (.int f) ∧ P2 h)) : lwPair yx ym av false h1 h2 (fun a b => P1 a ∧ P2 b) := by
  obtain ⟨v1, g1, ⟨rfl, p1⟩, r1⟩ := r1.det
  obtain ⟨v2, g2, ⟨rfl, p2⟩, r2⟩ := r2.det
  exact ⟨_, g1, g2, r1, r2, ⟨f, rfl⟩, p1, p2⟩
theorem lw_pairv {yx ym : Nat} {av : List Value} {h1 h2 : xH} {P1 P2 : xH → Prop} (r1 : XM xE0 100 yx (.ref 0 :: av) h1 (fun v h => v = none ∧ P1 h)) (r2 : XM xE0 100 ym (.ref 0 :: av) h2 (fun v h => v = none ∧ P2 h)) : lwPair yx ym av true h1 h2 (fun a b => P1 a ∧ P2 b) := by
  obtain ⟨v1, g1, ⟨rfl, p1⟩, r1⟩ := r1.det
  obtain ⟨v2, g2, ⟨rfl, p2⟩, r2⟩ := r2.det
  exact ⟨_, g1, g2, r1, r2, rfl, p1, p2⟩
section FR
variable {I I2 : Nat → Nat → Int32} {L L2 : Nat → Nat → Int64} {F F2 : Nat → Nat → UInt32} {a1 a2 a3 : Int32}
theorem fr1_fact : XM xE0 100 8 [.ref 0, .int a1] (sh1, I, L, F) (fun v h => v = some (.int (-3)) ∧ h.1 = sh1) := by
  refine XC.block [] 60 ?_
  exact ⟨trivial, rfl, rfl⟩
theorem fr1_weight : XM xE0 100 9 [.ref 0, .int a1, .int a2, .int a3] (sh1, I, L, F) (fun v h => v = some (.int (-3)) ∧ h.1 = sh1) := by
  refine XC.block [] 60 ?_
  exact ⟨trivial, rfl, rfl⟩
theorem fr1_encode : XM xE0 100 11 [.ref 0] (sh1, I, L, F) (fun v h => v = some (.int (-3)) ∧ h.1 = sh1) := by
  refine XC.block [] 60 ?_
  exact ⟨trivial, rfl, rfl⟩
theorem fr1_letter : XM xE0 100 13 [.ref 0, .int a1, .int a2] (sh1, I, L, F) (fun v h => v = some (.int (-1)) ∧ h.1 = sh1) := by
  refine XC.block [] 60 ?_
  exact ⟨trivial, rfl, rfl⟩
theorem fr1_step : XM xE0 100 14 [.ref 0, .int a1] (sh1, I, L, F) (fun v h => v = some (.int (-3)) ∧ h.1 = sh1) := by
  refine XC.block [] 60 ?_
  exact ⟨trivial, rfl, rfl⟩
theorem fr1_logit : XM xE0 100 15 [.ref 0, .int a1] (sh1, I, L, F) (fun v h => v = some (.int (-3)) ∧ h.1 = sh1) := by
  refine XC.block [] 60 ?_
  refine XC.block [] 60 ?_
  refine And.intro (by decide) ?_
  refine And.intro (fun c => absurd c (by decide)) (fun c => ?_)
  exact ⟨trivial, rfl, rfl⟩
theorem fr1_clear (i : I 1 1 = 0) : XM xE0 100 3 [.ref 0] (sh1, I, L, F) (fun v h => v = some (.int 0) ∧ h.1 = sh1) := by
  refine XC.block [] 60 ?_
  exact ⟨trivial, congrArg (fun x => some (Value.int x)) i, rfl⟩
theorem fr1_reset (i : I 18 10 = 0) : XM xE0 100 22 [.ref 0] (sh1, I, L, F) (fun v h => v = some (.int 0) ∧ h.1 = sh1) := by
  refine XC.block [] 60 ?_
  refine XC.block [] 60 ?_
  refine XC.block [] 60 ?_
  exact ⟨trivial, trivial, trivial, congrArg (fun x => some (Value.int x)) i, rfl⟩
theorem fr1_place (i : I 5 13 = -1) : XM xE0 100 7 [.ref 0] (sh1, I, L, F) (fun v h => v = some (.int (-1)) ∧ h.1 = sh1) := by
  refine XC.block [] 60 ?_
  exact ⟨trivial, congrArg (fun x => some (Value.int x)) i, rfl⟩
theorem fr_lt {k z : Int32} (i : z = 0) (c3 : ¬ k < 0) (c4 : k < z) : False := by
  subst i
  exact c3 c4
theorem fr1_flip (i : I 1 1 = 0) : XM xE0 100 2 [.ref 0, .int a1, .int a2] (sh1, I, L, F) (fun v h => v = some (.int (-1)) ∧ h.1 = sh1) := by
  refine XC.block [] 60 ?_
  refine And.intro (fun c => ⟨trivial, rfl, rfl⟩) (fun c => ?_)
  refine And.intro (fun c2 => ?_) (fun c2 => ⟨trivial, rfl, rfl⟩)
  refine XC.block [] 60 ?_
  refine And.intro (fun c3 => ⟨trivial, trivial, rfl, rfl⟩) (fun c3 => ?_)
  exact And.intro (fun c4 => (fr_lt i c3 c4).elim) (fun c4 => ⟨trivial, trivial, rfl, rfl⟩)
theorem fr1_token (i : I 16 1 = 0) : XM xE0 100 12 [.ref 0, .int a1] (sh1, I, L, F) (fun v h => v = some (.int (-1)) ∧ h.1 = sh1) := by
  refine XC.block [] 60 ?_
  refine And.intro (fun c3 => ⟨trivial, rfl, rfl⟩) (fun c3 => ?_)
  exact And.intro (fun c4 => (fr_lt i c3 c4).elim) (fun c4 => ⟨trivial, rfl, rfl⟩)
theorem fr1_said (i : I 36 1 = 0) : XM xE0 100 21 [.ref 0, .int a1] (sh1, I, L, F) (fun v h => v = some (.int (-1)) ∧ h.1 = sh1) := by
  refine XC.block [] 60 ?_
  refine XC.block [] 60 ?_
  refine And.intro (fun c3 => ⟨trivial, trivial, rfl, rfl⟩) (fun c3 => ?_)
  refine And.intro (fun c5 => ⟨trivial, trivial, rfl, rfl⟩) (fun c5 => ?_)
  exact And.intro (fun c4 => (fr_lt i c3 c4).elim) (fun c4 => ⟨trivial, trivial, rfl, rfl⟩)
theorem fr1_seed (w : Int64) : XM xE0 100 17 [.ref 0, .long w] (sh1, I, L, F) (fun v h => v = none ∧ h.1 = sh1) := by
  refine XC.block [] 60 ?_
  exact And.intro (fun c3 => ⟨trivial, rfl, rfl⟩) (fun c3 => ⟨trivial, rfl, rfl⟩)
/-- draw's and say's bounds -/
def fr_dr (a1 a2 a3 : Int32) : Prop := ¬ a1 < 0 ∧ ¬ 400 < a1 ∧ ¬ a2 < 1 ∧ ¬ 16 < a2 ∧ ¬ a3 < 1 ∧ ¬ 100 < a3
theorem fr1_draw {f : Int32} (h1 : fr_dr a1 a2 a3 → f = -3) (h2 : ¬ fr_dr a1 a2 a3 → f = -1) : XM xE0 100 18 [.ref 0, .int a1, .int a2, .int a3] (sh1, I, L, F) (fun v h => v = some (.int f) ∧ h.1 = sh1) := by
  refine XC.block [] 60 ?_
  refine And.intro (fun c1 => ⟨trivial, congrArg (fun x => some (Value.int x)) (h2 (fun q => q.1 c1)).symm, rfl⟩) (fun c1 => ?_)
  refine And.intro (fun c2 => ⟨trivial, congrArg (fun x => some (Value.int x)) (h2 (fun q => q.2.1 c2)).symm, rfl⟩) (fun c2 => ?_)
  refine And.intro (fun c3 => ⟨trivial, congrArg (fun x => some (Value.int x)) (h2 (fun q => q.2.2.1 c3)).symm, rfl⟩) (fun c3 => ?_)
  refine And.intro (fun c4 => ?_) (fun c4 => ⟨trivial, congrArg (fun x => some (Value.int x)) (h2 (fun q => q.2.2.2.1 (Int32.not_le.mp c4))).symm, rfl⟩)
  refine And.intro (fun c5 => ⟨trivial, congrArg (fun x => some (Value.int x)) (h2 (fun q => q.2.2.2.2.1 c5)).symm, rfl⟩) (fun c5 => ?_)
  refine And.intro (fun c6 => ?_) (fun c6 => ⟨trivial, congrArg (fun x => some (Value.int x)) (h2 (fun q => q.2.2.2.2.2 (Int32.not_le.mp c6))).symm, rfl⟩)
  refine XC.block [] 60 ?_
  refine And.intro (by decide) ?_
  refine And.intro (fun c => absurd c (by decide)) (fun c => ?_)
  exact ⟨trivial, congrArg (fun x => some (Value.int x)) (h1 ⟨c1, c2, c3, Int32.not_lt.mpr c4, c5, Int32.not_lt.mpr c6⟩).symm, rfl⟩
def fr_sy (a1 : Int32) : Prop := ¬ a1 < 1 ∧ ¬ 16 < a1
theorem fr1_say {f : Int32} (h1 : fr_sy a1 → f = -3) (h2 : ¬ fr_sy a1 → f = -1) : XM xE0 100 19 [.ref 0, .int a1] (sh1, I, L, F) (fun v h => v = some (.int f) ∧ h.1 = sh1) := by
  refine XC.block [] 60 ?_
  refine And.intro (fun c1 => ⟨trivial, congrArg (fun x => some (Value.int x)) (h2 (fun q => q.1 c1)).symm, rfl⟩) (fun c1 => ?_)
  refine And.intro (fun c4 => ?_) (fun c4 => ⟨trivial, congrArg (fun x => some (Value.int x)) (h2 (fun q => q.2 (Int32.not_le.mp c4))).symm, rfl⟩)
  refine XC.block [] 60 ?_
  refine And.intro (by decide) ?_
  refine And.intro (fun c => absurd c (by decide)) (fun c => ?_)
  exact ⟨trivial, congrArg (fun x => some (Value.int x)) (h1 ⟨c1, Int32.not_lt.mpr c4⟩).symm, rfl⟩
end FR
