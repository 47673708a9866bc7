/-! the class on paper: load -/
theorem x0_o {α : Type} (g : Nat → Nat → α) {a b j : Nat} (x : α) (h : b ≠ a) : x0 g a x b j = g b j := by
  unfold x0
  have : Nat.beq b a = false := by
    rw [Bool.eq_false_iff]
    intro e
    exact h (Nat.eq_of_beq_eq_true e)
  rw [this]; rfl
def x0s {α : Type} (z : α) (f : Nat → Nat → α) : Nat → Nat → α := x0 (x0 (x0 (x0 (x0 (x0 (x0 (x0 (x0 (x0 (x0 (x0 (x0 f 51 z) 52 z) 53 z) 54 z) 55 z) 56 z) 57 z) 58 z) 59 z) 60 z) 61 z) 62 z) 63 z
theorem x0s_o {α : Type} (z : α) (f : Nat → Nat → α) {b k : Nat} (h : b < 51) : x0s z f b k = f b k := by
  unfold x0s
  rw [x0_o _ _ (by omega), x0_o _ _ (by omega), x0_o _ _ (by omega), x0_o _ _ (by omega), x0_o _ _ (by omega), x0_o _ _ (by omega), x0_o _ _ (by omega), x0_o _ _ (by omega), x0_o _ _ (by omega), x0_o _ _ (by omega), x0_o _ _ (by omega), x0_o _ _ (by omega), x0_o _ _ (by omega)]
def clX0 : List (Option Nat) := [some 1, some 3, some 5, some 14, some 16, some 18, some 33, some 36, none, some 38]
def clX1 : List (Option Nat) := [some 1, some 3, some 5, some 14, some 16, some 18, some 33, some 36, some 38, some 51]
def clX2 : List (Option Nat) := [some 1, some 3, some 5, some 14, some 16, some 18, some 33, some 36, some 51, some 38]
def clXh : List (Option Nat) := [some 1, some 3, some 5, some 14, some 16, some 18, some 33, some 36, some 38, some 38]
section CLU
variable {X : List (Option Nat)} {T : List xS} {f : Nat → Nat} {n b t k a : Nat} {I J : Nat → Nat → Int32} {L : Nat → Nat → Int64} {F G : Nat → Nat → UInt32} {d : Nat} {Q : xP}
theorem cl_g12 : ¬ (12 : Int32) < 0 ∧ (12 : Int32).toNatClampNeg ≤ 1000000 := ⟨by decide, by decide⟩
theorem cl_g16 : ¬ (16 : Int32) < 0 ∧ (16 : Int32).toNatClampNeg ≤ 1000000 := ⟨by decide, by decide⟩
theorem cl_g24 : ¬ (24 : Int32) < 0 ∧ (24 : Int32).toNatClampNeg ≤ 1000000 := ⟨by decide, by decide⟩
theorem cl_g21 : ¬ (21 : Int32) < 0 ∧ (21 : Int32).toNatClampNeg ≤ 1000000 := ⟨by decide, by decide⟩
theorem cl_g1866 : ¬ (1866 : Int32) < 0 ∧ (1866 : Int32).toNatClampNeg ≤ 1000000 := ⟨by decide, by decide⟩
def mdT1 : List xS := [.inr (8, [some 52, none, none, none, none, none, none]), .inl (.int, 12, []), .inr (9, [none, none, none, none, none, none])]
def mdT2 : List xS := [.inr (8, [some 52, none, none, none, none, none, none]), .inl (.int, 12, []), .inr (9, [some 54, some 55, some 56, some 57, none, none]), .inl (.long, 16, []), .inl (.int, 12, []), .inl (.int, 12, []), .inl (.int, 12, [])]
def mdT3 : List xS := [.inr (8, [some 52, some 53, none, none, none, none, none]), .inl (.int, 12, []), .inr (9, [some 54, some 55, some 56, some 57, none, none]), .inl (.long, 16, []), .inl (.int, 12, []), .inl (.int, 12, []), .inl (.int, 12, []), .inr (10, [none, none, none, none, none, none])]
def mdT4 : List xS := [.inr (8, [some 52, some 53, none, none, none, none, none]), .inl (.int, 12, []), .inr (9, [some 54, some 55, some 56, some 57, none, none]), .inl (.long, 16, []), .inl (.int, 12, []), .inl (.int, 12, []), .inl (.int, 12, []), .inr (10, [some 59, some 60, some 61, some 62, some 63, none]), .inl (.int, 24, []), .inl (.int, 24, []), .inl (.int, 24, []), .inl (.int, 21, []), .inl (.float, 1866, [])]
theorem cl_newW (hQ : Q none (shG X (md1 mdT2), x2 (x2 (x0 (x0 (x0 (x0 I 54 0) 55 0) 56 0) 57 0) 53 4 0) 53 5 0, x0 (x0 (x0 (x0 L 54 0) 55 0) 56 0) 57 0, x0 (x0 (x0 (x0 F 54 0) 55 0) 56 0) 57 0)) : XM xE0 d 161 [.ref 53] (shG X (md1 mdT1), I, L, F) Q := by
  refine XC.block [] 60 ?_
  exact And.intro cl_g16 (And.intro cl_g12 (And.intro cl_g12 (And.intro cl_g12 ⟨trivial, hQ⟩)))
theorem cl_newT (hQ : Q none (shG X (md1 mdT4), x2 (x0 (x0 (x0 (x0 (x0 I 59 0) 60 0) 61 0) 62 0) 63 0) 58 5 0, x0 (x0 (x0 (x0 (x0 L 59 0) 60 0) 61 0) 62 0) 63 0, x0 (x0 (x0 (x0 (x0 F 59 0) 60 0) 61 0) 62 0) 63 0)) : XM xE0 d 155 [.ref 58] (shG X (md1 mdT3), I, L, F) Q := by
  refine XC.block [] 60 ?_
  exact And.intro cl_g24 (And.intro cl_g24 (And.intro cl_g24 (And.intro cl_g21 (And.intro cl_g1866 ⟨trivial, hQ⟩))))
def mdT5 : List xS := [.inr (8, [some 52, some 53, none, none, none, none, none]), .inl (.int, 12, []), .inr (9, [some 54, some 55, some 56, some 57, none, none]), .inl (.long, 16, []), .inl (.int, 12, []), .inl (.int, 12, []), .inl (.int, 12, [])]
theorem cl_nm34 (hQ : ∀ I' F', (∀ b k, b < 51 → I' b k = I b k) → (∀ b k, b < 51 → F' b k = F b k) → Q none (shG X (md2 []), I', L, F')) : XC xE0 d xM_115 (34, [some (.ref 51)], [], (shG X (md2 []), I, L, F)) Q := by
  refine XC.block [] 60 ?_
  exact ⟨trivial, hQ _ _ (fun b k h => (x2_o _ _ (by omega)).trans (x2_o _ _ (by omega))) (fun b k h => (x2_o _ _ (by omega)).trans (x2_o _ _ (by omega)))⟩
theorem cl_nm23 (hQ : ∀ I' L' F', (∀ b k, b < 51 → I' b k = I b k) → (∀ b k, b < 51 → L' b k = L b k) → (∀ b k, b < 51 → F' b k = F b k) → Q none (shG X (md2 []), I', L', F')) : XC xE0 (d + 1) xM_115 (23, [some (.ref 51)], [], (shG X (md1 mdT5), I, L, F)) Q := by
  refine XC.block [34] 60 ?_
  refine cl_newT ?_
  refine cl_nm34 (fun I' F' a1 a3 => hQ I' _ F' (fun b k h => (a1 b k h).trans ?_) (fun b k h => ?_) (fun b k h => (a3 b k h).trans ?_))
  · rw [x2_o _ _ (by omega), x0_o _ _ (by omega), x0_o _ _ (by omega), x0_o _ _ (by omega), x0_o _ _ (by omega), x0_o _ _ (by omega)]
    exact x0_o (a := 58) _ _ (by omega)
  · rw [x0_o _ _ (by omega), x0_o _ _ (by omega), x0_o _ _ (by omega), x0_o _ _ (by omega), x0_o _ _ (by omega)]
    exact x0_o (a := 58) _ _ (by omega)
  · rw [x0_o _ _ (by omega), x0_o _ _ (by omega), x0_o _ _ (by omega), x0_o _ _ (by omega), x0_o _ _ (by omega)]
    exact x0_o (a := 58) _ _ (by omega)
theorem cl_nm12 (hQ : ∀ I' L' F', (∀ b k, b < 51 → I' b k = I b k) → (∀ b k, b < 51 → L' b k = L b k) → (∀ b k, b < 51 → F' b k = F b k) → Q none (shG X (md2 []), I', L', F')) : XC xE0 (d + 1) xM_115 (12, [some (.ref 51)], [], (shG X (md1 [.inr (8, [some 52, none, none, none, none, none, none]), .inl (.int, 12, [])]), I, L, F)) Q := by
  refine XC.block [23] 60 ?_
  refine cl_newW ?_
  refine cl_nm23 (fun I' L' F' a1 a2 a3 => hQ I' L' F' (fun b k h => (a1 b k h).trans ?_) (fun b k h => (a2 b k h).trans ?_) (fun b k h => (a3 b k h).trans ?_))
  · rw [x2_o _ _ (by omega), x2_o _ _ (by omega), x0_o _ _ (by omega), x0_o _ _ (by omega), x0_o _ _ (by omega), x0_o _ _ (by omega)]
    exact x0_o (a := 53) _ _ (by omega)
  · rw [x0_o _ _ (by omega), x0_o _ _ (by omega), x0_o _ _ (by omega), x0_o _ _ (by omega)]
    exact x0_o (a := 53) _ _ (by omega)
  · rw [x0_o _ _ (by omega), x0_o _ _ (by omega), x0_o _ _ (by omega), x0_o _ _ (by omega)]
    exact x0_o (a := 53) _ _ (by omega)
theorem cl_newM (hQ : ∀ I' L' F', (∀ b k, b < 51 → I' b k = I b k) → (∀ b k, b < 51 → L' b k = L b k) → (∀ b k, b < 51 → F' b k = F b k) → Q none (shG X (md2 []), I', L', F')) : XM xE0 (d + 1) 115 [.ref 51] (shG X (md1 [.inr (8, [none, none, none, none, none, none, none])]), I, L, F) Q := by
  refine XC.block [12] 60 ?_
  refine And.intro cl_g12 ?_
  refine cl_nm12 (fun I' L' F' a1 a2 a3 => hQ I' L' F' (fun b k h => (a1 b k h).trans ?_) (fun b k h => (a2 b k h).trans ?_) (fun b k h => (a3 b k h).trans ?_))
  · exact x0_o (a := 52) _ _ (by omega)
  · exact x0_o (a := 52) _ _ (by omega)
  · exact x0_o (a := 52) _ _ (by omega)
end CLU
