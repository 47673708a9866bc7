/-! load of the reference on a new object -/
section FRG
variable {I : Nat → Nat → Int32} {L : Nat → Nat → Int64} {F : Nat → Nat → UInt32}
theorem fr_f1 {z : Int32} (i : z = 1) (c : z ≤ 0) : False := by
  subst i
  exact absurd c (by decide)
theorem fr_f0 {z : Int32} (i : z = 1) : ¬ z = 0 := by
  subst i
  decide
theorem fr_badF {d : Nat} {b c w : Int32} {I : Nat → Nat → Int32} (i : I 0 3 = 1) {Q : xP} (k : Q none (sh2, I, L, F)) : XM xE0 d 29 [.ref 0, .int b, .int c, .int w] (sh2, I, L, F) Q := by
  refine XC.block [] 60 ?_
  refine And.intro (fun c => ⟨trivial, k⟩) (fun c => ?_)
  exact And.intro (fun c => (fr_f1 i c).elim) (fun c => ⟨trivial, k⟩)
theorem fr_readF {d : Nat} {n : Int32} {I : Nat → Nat → Int32} (i : I 0 3 = 1) {Q : xP} (k : Q (some (.int 0)) (sh2, I, L, F)) : XM xE0 (d + 1) 30 [.ref 0, .int n] (sh2, I, L, F) Q := by
  refine XC.block [] 60 ?_
  refine And.intro (fun c => ?_) (fun c => ?_)
  · refine fr_badF i ?_
    exact And.intro (fun c => (fr_f1 i c).elim) (fun c => ⟨trivial, k⟩)
  · refine fr_badF i ?_
    exact And.intro (fun c => (fr_f1 i c).elim) (fun c => ⟨trivial, k⟩)
theorem fr_manyF {d : Nat} {n : Int32} {I : Nat → Nat → Int32} (i : I 0 3 = 1) {Q : xP} (k : Q (some (.int 0)) (sh2, I, L, F)) : XM xE0 (d + 2) 34 [.ref 0, .int n] (sh2, I, L, F) Q := by
  refine XC.block [] 60 ?_
  refine fr_readF i ?_
  refine And.intro (fun c => ?_) (fun c => ?_)
  · refine fr_badF i ?_
    exact And.intro (fun c => (fr_f1 i c).elim) (fun c => ⟨trivial, k⟩)
  · refine fr_badF i ?_
    exact And.intro (fun c => (fr_f1 i c).elim) (fun c => ⟨trivial, k⟩)
theorem fr_parseF {d : Nat} {I : Nat → Nat → Int32} (i : I 0 3 = 1) {Q : xP} (k : ∀ I' : Nat → Nat → Int32, I' 0 3 = 1 → Q none (sh2, I', L, F)) : XC xE0 (d + 3) xM_37 (10, [some (.ref 0), none, none, none, none], [.int 0], (sh2, I, L, F)) Q := by
  refine XC.block [] 60 ?_
  refine And.intro (fun c => absurd (show (0 : Int32) = 1179993927 from c) (by decide)) (fun c => ?_)
  refine fr_badF i ?_
  refine fr_readF i ?_
  refine And.intro (fun c => absurd (show (0 : Int32) = 3 from c) (by decide)) (fun c => ?_)
  refine fr_badF i ?_
  refine fr_manyF i ?_
  refine fr_manyF ?_ ?_
  · exact i
  refine And.intro (fun c => ?_) (fun c => (c (show (0 : Int32) ≤ 0 by decide)).elim)
  refine And.intro (fun c => ?_) (fun c => (c (show (0 : Int32) ≤ 0 by decide)).elim)
  exact ⟨trivial, k _ i⟩
theorem fr2_load (i : I 0 1 = 0) : XM xE0 100 52 [.ref 0] (sh2, I, L, F) (fun v h => v = some (.int 1) ∧ h.1 = sh2) := by
  refine XC.block [] 60 ?_
  refine XC.block [10] 60 ?_
  refine XC.block [] 60 ?_
  refine And.intro (fun c => (fr_ld i c).elim) (fun c => ?_)
  refine XC.block [] 60 ?_
  refine And.intro (fun c => absurd (show (1 : Int32) = 0 from c) (by decide)) (fun c => ?_)
  refine And.intro (fun c => ?_) (fun c => (c (show (0 : Int32) ≤ 0 by decide)).elim)
  refine And.intro trivial ?_
  refine And.intro (fun c => absurd (show (1 : Int32) ≤ 0 from c) (by decide)) (fun c => ?_)
  refine And.intro trivial ?_
  refine fr_parseF rfl (fun I' j => ?_)
  refine And.intro (fun c => ?_) (fun c => (c (fr_f0 j)).elim)
  refine And.intro (fun c => ?_) (fun c => (c (fr_f0 j)).elim)
  refine And.intro (fun c => ?_) (fun c => (c (fr_f0 j)).elim)
  refine And.intro (fun c => ?_) (fun c => (c (fr_f0 j)).elim)
  exact ⟨trivial, congrArg (fun x => some (Value.int x)) j, rfl⟩
end FRG
