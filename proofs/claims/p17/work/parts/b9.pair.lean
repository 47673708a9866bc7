/-! what is to be shown of class and reference, for every part but load's own -/
/-- the long of two ints of the script -/
abbrev lwJ (a1 a2 : Int32) : Int64 := (a1.toInt64 <<< ((32 : Int32).toInt64 &&& 63)) ||| (a2.toInt64 &&& 4294967295)
/-- a call of both: the same answer, and R behind it -/
def lwPair (yx ym : Nat) (av : List Value) (vd : Bool) (h1 h2 : xH) (R : xH → xH → Prop) : Prop := ∃ (z : Option Value) (h1' h2' : xH), XM xE0 100 yx (.ref 0 :: av) h1 (fun v' h' => v' = z ∧ h' = h1') ∧ XM xE0 100 ym (.ref 0 :: av) h2 (fun v' h' => v' = z ∧ h' = h2') ∧ (bif vd then z = none else ∃ a : Int32, z = some (.int a)) ∧ R h1' h2'
/-- a call of both: any two answers, and R behind it -/
def lwPairX (yx ym : Nat) (av : List Value) (h1 h2 : xH) (R : xH → xH → Prop) : Prop := ∃ (a az : Int32) (h1' h2' : xH), XM xE0 100 yx (.ref 0 :: av) h1 (fun v' h' => v' = some (.int a) ∧ h' = h1') ∧ XM xE0 100 ym (.ref 0 :: av) h2 (fun v' h' => v' = some (.int az) ∧ h' = h2') ∧ R h1' h2'
/-- a relation of their states, by the number of calls -/
def lwSpec (N : Nat) (Rel : Nat → xH → xH → Prop) : Prop :=
  (∀ t h1 h2, Rel t h1 h2 → (∃ rf, h1.1[0]? = some (.inr (0, rf))) ∧ (∃ rf, h2.1[0]? = some (.inr (11, rf))) ∧ h1.1.length + h2.1.length ≤ 600000 ∧ xsz xE0 h1.1 + xsz xE0 h2.1 ≤ 7302250) ∧
  (∀ t h1 h2, Rel t h1 h2 → Rel (t + 1) h1 h2) ∧
  ∀ t h1 h2, Rel t h1 h2 → t < N → ∀ a1 a2 a3 : Int32,
    lwPair 1 25 [.long (lwJ a1 a2), .int a3] false h1 h2 (Rel (t + 1)) ∧
    lwPair 2 26 [.int a1, .int a2] false h1 h2 (Rel (t + 1)) ∧
    lwPair 3 27 [] false h1 h2 (Rel (t + 1)) ∧
    lwPairX 4 52 [] h1 h2 (Rel (t + 1)) ∧
    lwPair 7 55 [] false h1 h2 (Rel (t + 1)) ∧
    lwPair 8 56 [.int a1] false h1 h2 (Rel (t + 1)) ∧
    lwPair 9 57 [.int a1, .int a2, .int a3] false h1 h2 (Rel (t + 1)) ∧
    lwPair 10 58 [.long (lwJ a1 a2), .int a3] false h1 h2 (Rel (t + 1)) ∧
    lwPair 11 59 [] false h1 h2 (Rel (t + 1)) ∧
    lwPair 12 60 [.int a1] false h1 h2 (Rel (t + 1)) ∧
    lwPair 13 61 [.int a1, .int a2] false h1 h2 (Rel (t + 1)) ∧
    lwPair 14 69 [.int a1] false h1 h2 (Rel (t + 1)) ∧
    lwPair 15 70 [.int a1] false h1 h2 (Rel (t + 1)) ∧
    lwPair 17 71 [.long (lwJ a1 a2)] true h1 h2 (Rel (t + 1)) ∧
    lwPair 18 73 [.int a1, .int a2, .int a3] false h1 h2 (Rel (t + 1)) ∧
    lwPair 19 74 [.int a1] false h1 h2 (Rel (t + 1)) ∧
    lwPair 21 75 [.int a1] false h1 h2 (Rel (t + 1)) ∧
    lwPair 22 76 [] false h1 h2 (Rel (t + 1))
/-- two runs with one answer are a pair -/
theorem lw_pair {yx ym : Nat} {av : List Value} {h1 h2 : xH} {f : Int32} {P1 P2 : xH → Prop} (r1 : XM xE0 100 yx (.ref 0 :: av) h1 (fun v h => v = some (.int f) ∧ P1 h)) (r2 : XM xE0 100 ym (.ref 0 :: av) h2 (fun v h => v = some (.int f) ∧ P2 h)) {R : xH → xH → Prop} (k : ∀ a b, P1 a → P2 b → R a b) : lwPair yx ym av false h1 h2 R := by
  obtain ⟨v1, g1, ⟨rfl, p1⟩, r1⟩ := r1.det
  obtain ⟨v2, g2, ⟨rfl, p2⟩, r2⟩ := r2.det
  exact ⟨_, g1, g2, r1, r2, ⟨f, rfl⟩, k _ _ p1 p2⟩
theorem lw_pairv {yx ym : Nat} {av : List Value} {h1 h2 : xH} {P1 P2 : xH → Prop} (r1 : XM xE0 100 yx (.ref 0 :: av) h1 (fun v h => v = none ∧ P1 h)) (r2 : XM xE0 100 ym (.ref 0 :: av) h2 (fun v h => v = none ∧ P2 h)) {R : xH → xH → Prop} (k : ∀ a b, P1 a → P2 b → R a b) : lwPair yx ym av true h1 h2 R := by
  obtain ⟨v1, g1, ⟨rfl, p1⟩, r1⟩ := r1.det
  obtain ⟨v2, g2, ⟨rfl, p2⟩, r2⟩ := r2.det
  exact ⟨_, g1, g2, r1, r2, rfl, k _ _ p1 p2⟩
