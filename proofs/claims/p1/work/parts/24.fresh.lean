section FRC
variable {I I2 : Nat → Nat → Int32} {L L2 : Nat → Nat → Int64} {F F2 : Nat → Nat → UInt32} {a1 a2 a3 : Int32}
theorem fr_ld {z : Int32} (i : z = 0) : ¬ (0 : Int32) + 4 ≤ z := by
  rw [i]; decide
theorem fr1_load (i : I 1 1 = 0) : XM xE0 100 4 [.ref 0] (sh1, I, L, F) (fun v h => v = some (.int 1) ∧ h.1 = sh1) := by
  refine XC.block [] 100 ?_
  refine XC.block [] 100 ?_
  refine XC.block [] 100 ?_
  refine XC.block [] 100 ?_
  refine And.intro (fun c => (fr_ld i c).elim) (fun c => ?_)
  refine XC.block [] 100 ?_
  refine And.intro (show (0 : Int32) &&& 1 = 0 by decide) ?_
  refine And.intro trivial ?_
  refine And.intro (fun c => absurd (show (0 : Int32) ≤ lg_cmp (-1) 0 from c) (by decide)) (fun c => ?_)
  refine And.intro (show (0 : Int32) &&& 1 = 0 by decide) ?_
  refine And.intro (fun c => ?_) (fun c => (c rfl).elim)
  refine And.intro trivial ?_
  refine And.intro (fun c => ?_) (fun c => (c (show ¬ (1 : Int32) = 0 by decide)).elim)
  refine And.intro (fun c => ?_) (fun c => (c (show ¬ (1 : Int32) = 0 by decide)).elim)
  exact ⟨trivial, rfl, rfl⟩
end FRC
