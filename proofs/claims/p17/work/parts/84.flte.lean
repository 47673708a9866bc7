/-! ROOT and EXP of class and reference on paper -/
section FLE
variable {st : xH} {d : Nat} {Q : xP}
theorem fn_root_r {v : UInt32} (h : fRv v) (hQ : Q (some (.float (pRoot v))) st) : XM xE0 d 62 [.float v] st Q := by
  obtain ⟨g0, g⟩ := pRoot_g h
  have loop : ∀ (u i : Nat), i + u = 40 → ∀ x, x = nI i → XC xE0 d xM_62 (8, [some (.float v), some (.float (pRt v i)), some (.int x)], [], st) Q := by
    intro u
    induction u with
    | zero =>
      intro i hi x hx
      have : i = 40 := by omega
      subst this
      refine XC.block [8] 60 ?_
      exact And.intro (fun _ => ⟨trivial, hQ⟩) (fun z => absurd (show (40 : Int32) ≤ x by rw [hx]; decide) z)
    | succ u ih =>
      intro i hi x hx
      have hlt : ¬ (40 : Int32) ≤ x := by rw [hx, show (40 : Int32) = nI 40 from rfl]; exact nI_ge (by omega) (by omega)
      have hx1 : x + 1 = nI (i + 1) := by rw [hx, nI_1]
      have i1 : i + 1 + u = 40 := by omega
      refine XC.block [8] 60 ?_
      refine And.intro (fun z => absurd z hlt) (fun _ => ?_)
      exact And.intro (g i).2.1.n32 (And.intro (g i).2.2.n32 (And.intro (g (i + 1)).1.n32 (ih (i + 1) i1 _ hx1)))
  refine XC.block [8] 60 ?_
  exact And.intro g0.n32 (And.intro (g 0).1.n32 (loop 40 0 rfl _ rfl))
theorem fn_exp_r {v : UInt32} (h : fF v) (hQ : Q (some (.float (pExp v))) st) : XM xE0 d 63 [.float v] st Q := by
  have g := fun n hn => (pEx_ok h n hn).1
  have gd := (pE0_ok h).1
  have c40 : ∀ c (u i : Nat), i + u = 8 → ∀ x, x = nI i → XC xE0 d xM_63 (40, [some (.float v), some (.float c), some (.float (pEx (pE0 v) i)), some (.int x)], [], st) Q := by
    intro c u
    induction u with
    | zero =>
      intro i hi x hx
      have : i = 8 := by omega
      subst this
      refine XC.block [40] 60 ?_
      exact And.intro (fun _ => ⟨trivial, hQ⟩) (fun z => absurd (show (8 : Int32) ≤ x by rw [hx]; decide) z)
    | succ u ih =>
      intro i hi x hx
      have hlt : ¬ (8 : Int32) ≤ x := by rw [hx, show (8 : Int32) = nI 8 from rfl]; exact nI_ge (by omega) (by omega)
      have hx1 : x + 1 = nI (i + 1) := by rw [hx, nI_1]
      have i1 : i + 1 + u = 8 := by omega
      have gi := (g (i + 1) (by omega)).n32
      refine XC.block [40] 60 ?_
      refine And.intro (fun z => absurd z hlt) (fun _ => ?_)
      exact And.intro gi (ih (i + 1) i1 _ hx1)
  have g0 := (g 0 (by decide)).n32
  have c29 : ∀ c, c = pCl v → XC xE0 d xM_63 (29, [some (.float v), none, none, none], [.float c], st) Q := by
    intro c hc
    subst hc
    refine XC.block [40] 60 ?_
    exact And.intro gd.n32 (And.intro g0 (c40 _ 8 0 rfl _ rfl))
  have e1 : Op.cmpValue (FP.fcmp v 3246391296) .g < 0 → (3246391296 : UInt32) = pCl v := fun z => (if_pos z).symm
  have e2 : ¬ Op.cmpValue (FP.fcmp v 3246391296) .g < 0 → 0 < Op.cmpValue (FP.fcmp v 1098907648) .l → (1098907648 : UInt32) = pCl v := fun z y => ((if_neg z).trans (if_pos y)).symm
  have e3 : ¬ Op.cmpValue (FP.fcmp v 3246391296) .g < 0 → ¬ 0 < Op.cmpValue (FP.fcmp v 1098907648) .l → v = pCl v := fun z y => ((if_neg z).trans (if_neg y)).symm
  refine XC.block [29] 60 ?_
  refine And.intro (fun z => ?_) (fun z => c29 _ (e1 (Int32.not_le.mp z)))
  have z := Int32.not_lt.mpr z
  exact And.intro (fun y => c29 _ (e3 z (Int32.not_lt.mpr y))) (fun y => c29 _ (e2 z (Int32.not_le.mp y)))
theorem fn_root_c {v : UInt32} (h : fRv v) (hQ : Q (some (.float (pRoot v))) st) : XM xE0 d 128 [.float v] st Q := by
  obtain ⟨g0, g⟩ := pRoot_g h
  have loop : ∀ (u i : Nat), i + u = 40 → ∀ x, x = nI i → XC xE0 d xM_128 (8, [some (.float v), some (.float (pRt v i)), some (.int x)], [], st) Q := by
    intro u
    induction u with
    | zero =>
      intro i hi x hx
      have : i = 40 := by omega
      subst this
      refine XC.block [8] 60 ?_
      exact And.intro (fun _ => ⟨trivial, hQ⟩) (fun z => absurd (show (40 : Int32) ≤ x by rw [hx]; decide) z)
    | succ u ih =>
      intro i hi x hx
      have hlt : ¬ (40 : Int32) ≤ x := by rw [hx, show (40 : Int32) = nI 40 from rfl]; exact nI_ge (by omega) (by omega)
      have hx1 : x + 1 = nI (i + 1) := by rw [hx, nI_1]
      have i1 : i + 1 + u = 40 := by omega
      refine XC.block [8] 60 ?_
      refine And.intro (fun z => absurd z hlt) (fun _ => ?_)
      exact And.intro (g i).2.1.n32 (And.intro (g i).2.2.n32 (And.intro (g (i + 1)).1.n32 (ih (i + 1) i1 _ hx1)))
  refine XC.block [8] 60 ?_
  exact And.intro g0.n32 (And.intro (g 0).1.n32 (loop 40 0 rfl _ rfl))
theorem fn_exp_c {v : UInt32} (h : fF v) (hQ : Q (some (.float (pExp v))) st) : XM xE0 d 129 [.float v] st Q := by
  have g := fun n hn => (pEx_ok h n hn).1
  have gd := (pE0_ok h).1
  have c40 : ∀ c (u i : Nat), i + u = 8 → ∀ x, x = nI i → XC xE0 d xM_129 (35, [some (.float v), some (.float c), some (.float (pEx (pE0 v) i)), some (.int x)], [], st) Q := by
    intro c u
    induction u with
    | zero =>
      intro i hi x hx
      have : i = 8 := by omega
      subst this
      refine XC.block [35] 60 ?_
      exact And.intro (fun _ => ⟨trivial, hQ⟩) (fun z => absurd (show (8 : Int32) ≤ x by rw [hx]; decide) z)
    | succ u ih =>
      intro i hi x hx
      have hlt : ¬ (8 : Int32) ≤ x := by rw [hx, show (8 : Int32) = nI 8 from rfl]; exact nI_ge (by omega) (by omega)
      have hx1 : x + 1 = nI (i + 1) := by rw [hx, nI_1]
      have i1 : i + 1 + u = 8 := by omega
      have gi := (g (i + 1) (by omega)).n32
      refine XC.block [35] 60 ?_
      refine And.intro (fun z => absurd z hlt) (fun _ => ?_)
      exact And.intro gi (ih (i + 1) i1 _ hx1)
  have g0 := (g 0 (by decide)).n32
  have c29 : ∀ c, c = pCl v → XC xE0 d xM_129 (25, [some (.float v), none, none, none], [.float c], st) Q := by
    intro c hc
    subst hc
    refine XC.block [35] 60 ?_
    exact And.intro gd.n32 (And.intro g0 (c40 _ 8 0 rfl _ rfl))
  have e1 : Op.cmpValue (FP.fcmp v 3246391296) .g < 0 → (3246391296 : UInt32) = pCl v := fun z => (if_pos z).symm
  have e2 : ¬ Op.cmpValue (FP.fcmp v 3246391296) .g < 0 → 0 < Op.cmpValue (FP.fcmp v 1098907648) .l → (1098907648 : UInt32) = pCl v := fun z y => ((if_neg z).trans (if_pos y)).symm
  have e3 : ¬ Op.cmpValue (FP.fcmp v 3246391296) .g < 0 → ¬ 0 < Op.cmpValue (FP.fcmp v 1098907648) .l → v = pCl v := fun z y => ((if_neg z).trans (if_neg y)).symm
  refine XC.block [25] 60 ?_
  refine And.intro (fun z => ?_) (fun z => c29 _ (e1 (Int32.not_le.mp z)))
  have z := Int32.not_lt.mpr z
  exact And.intro (fun y => c29 _ (e3 z (Int32.not_lt.mpr y))) (fun y => c29 _ (e2 z (Int32.not_le.mp y)))
end FLE
