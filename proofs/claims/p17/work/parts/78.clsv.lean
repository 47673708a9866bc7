/-! the class on paper: takeSpare, load -/
def clXX (m s : Option Nat) : List (Option Nat) := [some 1, some 3, some 5, some 14, some 16, some 18, some 33, some 36, m, s]
def clFg (I : Nat → Nat → Int32) : Nat → Nat → Int32 := x2 (x2 (x2 (x2 I 18 10 0) 16 1 0) 3 1 0) 36 1 0
theorem clFg_o {I : Nat → Nat → Int32} {b k : Nat} (h : ¬ (b = 18 ∧ k = 10) ∧ ¬ (b = 16 ∧ k = 1) ∧ ¬ (b = 3 ∧ k = 1) ∧ ¬ (b = 36 ∧ k = 1)) : clFg I b k = I b k := by
  unfold clFg
  rw [x2_o _ _ (by omega), x2_o _ _ (by omega), x2_o _ _ (by omega), x2_o _ _ (by omega)]
def mdTT : List xS := [.inr (8, [some 52, some 53, some 58, none, none, none, none]), .inl (.int, 12, []), .inr (9, [some 54, some 55, some 56, some 57, none, none]), .inl (.long, 16, []), .inl (.int, 12, []), .inl (.int, 12, []), .inl (.int, 12, []), .inr (10, [some 59, some 60, some 61, some 62, some 63, none]), .inl (.int, 24, []), .inl (.int, 24, []), .inl (.int, 24, []), .inl (.int, 21, []), .inl (.float, 1866, [])]
theorem md2_e : md2 [] = md1 mdTT := rfl
section CLV
variable {X : List (Option Nat)} {T : List xS} {f : Nat → Nat} {n b t k a : Nat} {I J : Nat → Nat → Int32} {L : Nat → Nat → Int64} {F G : Nat → Nat → UInt32} {d : Nat} {Q : xP} {m s : Option Nat}
theorem cl_forget (hQ : Q none (shG (clXX m s) T, clFg I, L, F)) : XM xE0 (d + 1) 6 [.ref 0] (shG (clXX m s) T, I, L, F) Q := by
  refine XC.block [] 60 ?_
  refine XC.block [] 60 ?_
  exact ⟨trivial, trivial, hQ⟩
theorem cl_takeSpare0 (hQ : ∀ I' L' F', (∀ b k, b < 51 → I' b k = clFg I b k) → (∀ b k, b < 51 → L' b k = L b k) → (∀ b k, b < 51 → F' b k = F b k) → Q none (shG (clXX (some 38) (some 51)) (md2 []), I', L', F')) : XM xE0 (d + 2) 5 [.ref 0] (shG (clXX none (some 38)) (md1 []), I, L, F) Q := by
  have c32 : ∀ I' L' F', (∀ b k, b < 51 → I' b k = I b k) → (∀ b k, b < 51 → L' b k = L b k) → (∀ b k, b < 51 → F' b k = F b k) → XC xE0 (d + 2) xM_5 (32, [some (.ref 0), some .null], [], (shG (clXX (some 38) (some 51)) (md2 []), I', L', F')) Q := by
    intro I' L' F' a1 a2 a3
    refine XC.block [] 60 ?_
    refine cl_forget ⟨trivial, hQ _ _ _ (fun b k h => ?_) a2 a3⟩
    unfold clFg
    unfold x2
    cases h1 : (Nat.beq b 36 && Nat.beq k 1) with
    | true => rfl
    | false =>
      cases h2 : (Nat.beq b 3 && Nat.beq k 1) with
      | true => rfl
      | false =>
        cases h3 : (Nat.beq b 16 && Nat.beq k 1) with
        | true => rfl
        | false =>
          cases h4 : (Nat.beq b 18 && Nat.beq k 10) with
          | true => rfl
          | false => exact a1 b k h
  refine XC.block [32] 60 ?_
  refine cl_newM (fun I' L' F' a1 a2 a3 => c32 I' L' F' (fun b k h => (a1 b k h).trans ?_) (fun b k h => (a2 b k h).trans ?_) (fun b k h => (a3 b k h).trans ?_))
  · exact x0_o (a := 51) _ _ (by omega)
  · exact x0_o (a := 51) _ _ (by omega)
  · exact x0_o (a := 51) _ _ (by omega)
theorem cl_takeSpare1 (hQ : Q none (shG (clXX (some 51) (some 38)) (md2 []), clFg I, L, F)) : XM xE0 (d + 2) 5 [.ref 0] (shG (clXX (some 38) (some 51)) (md2 []), I, L, F) Q := by
  have c32 : XC xE0 (d + 2) xM_5 (32, [some (.ref 0), some (.ref 38)], [], (shG (clXX (some 51) (some 38)) (md2 []), I, L, F)) Q := by
    refine XC.block [] 60 ?_
    exact cl_forget ⟨trivial, hQ⟩
  refine XC.block [32] 60 ?_
  exact c32
theorem cl_takeSpare2 (hQ : Q none (shG (clXX (some 38) (some 51)) (md2 []), clFg I, L, F)) : XM xE0 (d + 2) 5 [.ref 0] (shG (clXX (some 51) (some 38)) (md2 []), I, L, F) Q := by
  have c32 : XC xE0 (d + 2) xM_5 (32, [some (.ref 0), some (.ref 51)], [], (shG (clXX (some 38) (some 51)) (md2 []), I, L, F)) Q := by
    refine XC.block [] 60 ?_
    exact cl_forget ⟨trivial, hQ⟩
  refine XC.block [32] 60 ?_
  exact c32
end CLV
