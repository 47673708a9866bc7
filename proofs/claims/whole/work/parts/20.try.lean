abbrev hO (e0 : xS) (tl : List xS) (I : Nat → Nat → Int32) (L : Nat → Nat → Int64) (F : Nat → Nat → UInt32) : xH := (e0 :: .inr (1, [some 2, none]) :: .inl (.byte, 1400, []) :: tl, I, L, F)
theorem try_at (e0 : xS) (tl : List xS) (I : Nat → Nat → Int32) (L : Nat → Nat → Int64) (F : Nat → Nat → UInt32) (k : Int32) (d : Nat) (Q : xP) (h1 : k < 0 ∨ ¬ k < I 1 1 → Q (some (.int 0)) (hO e0 tl I L F)) (h2 : ¬ k < 0 → k < I 1 1 → vp_in k 1400 ∧ Q (some (.int (I 2 k.toNatClampNeg &&& 255))) (hO e0 tl I L F)) : XM xE0 d 133 [.ref 1, .int k] (hO e0 tl I L F) Q := by
  refine XC.block [] 60 ?_
  refine And.intro (fun c1 => ?_) (fun c1 => ?_)
  · exact ⟨trivial, h1 (Or.inl c1)⟩
  · refine And.intro (fun c2 => ?_) (fun c2 => ?_)
    · obtain ⟨a, b⟩ := h2 c1 c2
      exact ⟨a, trivial, b⟩
    · exact ⟨trivial, h1 (Or.inr c2)⟩
def ap (I : Nat → Nat → Int32) (w : Int64) (s : Nat) : Nat → Nat → Nat → Int32
  | 0 => I
  | n + 1 => x2 (ap I w s n) 2 (s + n) ((w.toUInt64 >>> (((8 : Int32) * nI n).toInt64.toUInt64 &&& Int64.toUInt64 63)).toInt64.toInt32.toInt8.toInt32)
theorem try_loop (e0 : xS) (tl : List xS) (L : Nat → Nat → Int64) (F : Nat → Nat → UInt32) (w : Int64) (n : Nat) (hn : n ≤ 8) (d : Nat) (Q : xP) (I0 : Nat → Nat → Int32) (s : Nat) (hs : I0 1 1 = nI s) (hsn : s + n ≤ 1400) (hQ : Q (some (.int (nI s + nI n))) (hO e0 tl (x2 (ap I0 w s n) 1 1 (nI s + nI n)) L F)) : ∀ (k i : Nat), i + k = n → XC xE0 d xM_131 (33, [some (.ref 1), some (.long w), none, some (.int (nI n)), some (.int (nI i))], [], hO e0 tl (ap I0 w s i) L F) Q := by
  intro k
  induction k with
  | zero =>
    intro i hi
    have : i = n := by omega
    subst this
    refine XC.block [33] 60 ?_
    refine And.intro (fun c1 => ?_) (fun c1 => ?_)
    · refine And.intro trivial ?_
      sorry
    · exact absurd (nI_le (Nat.le_refl _) (by omega)) c1
  | succ k ih =>
    intro i hi
    refine XC.block [33] 60 ?_
    refine And.intro (fun c1 => ?_) (fun c1 => ?_)
    · exact absurd c1 (nI_ge (by omega) (by omega))
    · refine And.intro ?_ ?_
      · sorry
      · have := ih (i + 1) (by omega)
        sorry
