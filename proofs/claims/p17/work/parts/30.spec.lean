/-! LOADING on paper: what the FILE (its OCTETS f, their number n) says, up to the first FAULT -/
abbrev pE (α : Type) : Type := (Nat × Nat) ⊕ α
/-- the number of k OCTETS at p, the lowest first -/
def sNum (f : Nat → Nat) (p : Nat) : Nat → Nat
  | 0 => 0
  | k + 1 => f p + 256 * sNum f (p + 1) k
/-- a STRING at p: where it ends -/
def sStr (f : Nat → Nat) (n : Nat) (z : Bool) (p : Nat) : pE Nat :=
  if p + 1 + f p ≤ n then (if f p ≤ 16 ∧ (z = true → f p ≠ 0) then .inr (p + 1 + f p) else .inl (4, p)) else .inl (1, p)
/-- a number of one OCTET that must be lo to hi -/
def sSml (f : Nat → Nat) (n lo hi c p : Nat) : pE (Nat × Nat) :=
  if p + 1 ≤ n then (if lo ≤ f p ∧ f p ≤ hi then .inr (f p, p + 1) else .inl (c, p)) else .inl (1, p)
def sSkip (n k p : Nat) : pE Nat := if p + k ≤ n then .inr (p + k) else .inl (1, p)
/-- a VALUE that is no ARRAY -/
def sPln (f : Nat → Nat) (n t p : Nat) : pE Nat := match t with
  | 0 => sSkip n 4 p
  | 1 => sSkip n 2 p
  | _ => sStr f n false p
def sRep (g : Nat → pE Nat) : Nat → Nat → pE Nat
  | 0, p => .inr p
  | k + 1, p => match g p with
    | .inl e => .inl e
    | .inr q => sRep g k q
/-- an ARRAY: TYPE, COUNT, so many of g (by TYPE); c: the TYPE ARRAY is too deep -/
def sArr (f : Nat → Nat) (n : Nat) (deep : Bool) (g : Nat → Nat → pE Nat) (p : Nat) : pE Nat := match sSml f n 0 3 5 p with
  | .inl e => .inl e
  | .inr (t, q) => if deep = true ∧ t = 3 then .inl (6, p) else (match sSml f n 0 24 4 q with
    | .inl e => .inl e
    | .inr (m, r) => sRep (g t) m r)
def sA3 (f : Nat → Nat) (n : Nat) (p : Nat) : pE Nat := sArr f n true (sPln f n) p
def sA2 (f : Nat → Nat) (n : Nat) (p : Nat) : pE Nat := sArr f n false (fun t q => if t < 3 then sPln f n t q else sA3 f n q) p
def sA1 (f : Nat → Nat) (n : Nat) (p : Nat) : pE Nat := sArr f n false (fun t q => if t < 3 then sPln f n t q else sA2 f n q) p
def sVal (f : Nat → Nat) (n t p : Nat) : pE Nat := if t < 3 then sPln f n t p else sA1 f n p
/-- two STRINGS are the same -/
def sAlk (f : Nat → Nat) (p q : Nat) : Prop := ∀ i, i ≤ f p → f (p + i) = f (q + i)
theorem sStr_le {f : Nat → Nat} {n p q : Nat} {z : Bool} (h : sStr f n z p = .inr q) : p + 1 + f p = q ∧ q ≤ n ∧ f p ≤ 16 ∧ (z = true → f p ≠ 0) := by
  unfold sStr at h
  split at h
  · split at h
    · injection h with h
      exact ⟨h, by omega, by omega, by rename_i a; exact a.2⟩
    · cases h
  · cases h
theorem sSml_le {f : Nat → Nat} {n lo hi c p : Nat} {v : Nat × Nat} (h : sSml f n lo hi c p = .inr v) : v = (f p, p + 1) ∧ p + 1 ≤ n ∧ lo ≤ f p ∧ f p ≤ hi := by
  unfold sSml at h
  split at h
  · split at h
    · injection h with h
      exact ⟨h.symm, by omega, by omega, by omega⟩
    · cases h
  · cases h
theorem sSkip_le {n k p q : Nat} (h : sSkip n k p = .inr q) : p + k = q ∧ q ≤ n := by
  unfold sSkip at h
  split at h
  · injection h with h
    omega
  · cases h
theorem sPln_le {f : Nat → Nat} {n t p q : Nat} (h : sPln f n t p = .inr q) : p < q ∧ q ≤ n := by
  unfold sPln at h
  split at h
  · have := sSkip_le h; omega
  · have := sSkip_le h; omega
  · have := sStr_le h; omega
theorem sRep_le {n : Nat} {g : Nat → pE Nat} (hg : ∀ p q, g p = .inr q → p ≤ q ∧ q ≤ n) : ∀ (k p q : Nat), p ≤ n → sRep g k p = .inr q → p ≤ q ∧ q ≤ n
  | 0, p, q, hp, h => by
    injection h with h
    omega
  | k + 1, p, q, hp, h => by
    unfold sRep at h
    split at h
    · cases h
    · rename_i r hr
      have := hg _ _ hr
      have := sRep_le hg k r q (by omega) h
      omega
theorem sArr_le {f : Nat → Nat} {n : Nat} {dp : Bool} {g : Nat → Nat → pE Nat} (hg : ∀ t p q, g t p = .inr q → p ≤ q ∧ q ≤ n) {p q : Nat} (h : sArr f n dp g p = .inr q) : p + 2 ≤ q ∧ q ≤ n := by
  unfold sArr at h
  split at h
  · cases h
  · rename_i t r hr
    have h1 := sSml_le hr
    split at h
    · cases h
    · split at h
      · cases h
      · rename_i m r2 hr2
        have h2 := sSml_le hr2
        have e1 := congrArg Prod.snd h1.1
        have e2 := congrArg Prod.snd h2.1
        have e1 : r = p + 1 := e1
        have e2 : r2 = r + 1 := e2
        have := sRep_le (hg t) m r2 q (by omega) h
        omega
theorem sA3_le {f : Nat → Nat} {n p q : Nat} (h : sA3 f n p = .inr q) : p + 2 ≤ q ∧ q ≤ n := sArr_le (fun t p q h => by have := sPln_le h; omega) h
theorem sA2_le {f : Nat → Nat} {n p q : Nat} (h : sA2 f n p = .inr q) : p + 2 ≤ q ∧ q ≤ n := by
  refine sArr_le (fun t p q h => ?_) h
  split at h
  · have := sPln_le h; omega
  · have := sA3_le h; omega
theorem sA1_le {f : Nat → Nat} {n p q : Nat} (h : sA1 f n p = .inr q) : p + 2 ≤ q ∧ q ≤ n := by
  refine sArr_le (fun t p q h => ?_) h
  split at h
  · have := sPln_le h; omega
  · have := sA2_le h; omega
theorem sVal_le {f : Nat → Nat} {n t p q : Nat} (h : sVal f n t p = .inr q) : p < q ∧ q ≤ n := by
  unfold sVal at h
  split at h
  · exact sPln_le h
  · have := sA1_le h; omega
/-- a PAIR at p: where the next thing is -/
def sPr (f : Nat → Nat) (n p : Nat) : pE Nat := match sStr f n true p with
  | .inl e => .inl e
  | .inr q => (match sSml f n 0 3 5 q with
    | .inl e => .inl e
    | .inr (t, r) => sVal f n t r)
/-- the place of PAIR i -/
def sKey (f : Nat → Nat) (n : Nat) : Nat → Nat
  | 0 => 10
  | i + 1 => match sPr f n (sKey f n i) with
    | .inl _ => 0
    | .inr q => q
def sAlkB (f : Nat → Nat) (p q : Nat) : Bool := (List.range (f p + 1)).all fun i => f (p + i) == f (q + i)
def sDup (f : Nat → Nat) (K : Nat → Nat) (i : Nat) : Bool := (List.range i).any fun j => sAlkB f (K j) (K i)
/-- k PAIRS from the i-th on: where the first INFO is -/
def sPrs (f : Nat → Nat) (n : Nat) : Nat → Nat → pE Nat
  | 0, i => .inr (sKey f n i)
  | k + 1, i => match sStr f n true (sKey f n i) with
    | .inl e => .inl e
    | .inr q => if sDup f (sKey f n) i = true then .inl (7, sKey f n i) else (match sSml f n 0 3 5 q with
      | .inl e => .inl e
      | .inr (t, r) => (match sVal f n t r with
        | .inl e => .inl e
        | .inr _ => sPrs f n k (i + 1)))
/-- what an INFO says behind its NAME: COLUMNS, ROWS, PACKING, OFFSET; where the next thing is -/
def sInf (f : Nat → Nat) (n p : Nat) : pE ((Nat × Nat × Nat × Nat) × Nat) := match sSml f n 1 2 4 p with
  | .inl e => .inl e
  | .inr (s, a) => (match sSml f n 1 16 4 a with
    | .inl e => .inl e
    | .inr (c, b) => (match (if s = 2 then sSml f n 1 16 4 b else .inr (1, b)) with
      | .inl e => .inl e
      | .inr (r, g) => (match sSml f n 0 2 5 g with
        | .inl e => .inl e
        | .inr (k, h) => if 0 < k ∧ c % 8 ≠ 0 then .inl (4, a) else if h + 2 ≤ n then .inr ((c, r, k, sNum f h 2), h + 2) else .inl (1, h))))
def sNm (f : Nat → Nat) (n p : Nat) : pE Nat := match sStr f n true p with
  | .inl e => .inl e
  | .inr q => (match sInf f n q with
    | .inl e => .inl e
    | .inr v => .inr v.2)
/-- the place of INFO i, the first at b -/
def sNam (f : Nat → Nat) (n b : Nat) : Nat → Nat
  | 0 => b
  | i + 1 => match sNm f n (sNam f n b i) with
    | .inl _ => 0
    | .inr q => q
def sIfs (f : Nat → Nat) (n b : Nat) : Nat → Nat → pE Nat
  | 0, i => .inr (sNam f n b i)
  | k + 1, i => match sStr f n true (sNam f n b i) with
    | .inl e => .inl e
    | .inr q => if sDup f (sNam f n b) i = true then .inl (7, sNam f n b i) else (match sInf f n q with
      | .inl e => .inl e
      | .inr _ => sIfs f n b k (i + 1))
/-- all PARTS: TENSORS, PAIRS, the place of the first INFO, the place behind the last -/
def sPts (f : Nat → Nat) (n : Nat) : pE (Nat × Nat × Nat × Nat) :=
  if ¬ 4 ≤ n then .inl (1, 0) else if sNum f 0 4 ≠ 1179993927 then .inl (2, 0) else if ¬ 8 ≤ n then .inl (1, 4) else if sNum f 4 4 ≠ 3 then .inl (3, 4) else (match sSml f n 0 24 4 8 with
    | .inl e => .inl e
    | .inr (t, _) => (match sSml f n 0 24 4 9 with
      | .inl e => .inl e
      | .inr (k, _) => (match sPrs f n k 0 with
        | .inl e => .inl e
        | .inr b => (match sIfs f n b t 0 with
          | .inl e => .inl e
          | .inr a => .inr (t, k, b, a)))))
theorem sAlkB_iff {f : Nat → Nat} {p q : Nat} : sAlkB f p q = true ↔ sAlk f p q := by
  unfold sAlkB sAlk
  rw [List.all_eq_true]
  constructor
  · intro h i hi
    exact eq_of_beq (h i (List.mem_range.mpr (by omega)))
  · intro h i hi
    rw [h i (by have := List.mem_range.mp hi; omega)]
    exact beq_self_eq_true _
theorem sDup_iff {f K : Nat → Nat} {i : Nat} : sDup f K i = true ↔ ∃ j, j < i ∧ sAlk f (K j) (K i) := by
  unfold sDup
  rw [List.any_eq_true]
  constructor
  · rintro ⟨j, hj, h⟩
    exact ⟨j, List.mem_range.mp hj, sAlkB_iff.mp h⟩
  · rintro ⟨j, hj, h⟩
    exact ⟨j, List.mem_range.mpr hj, sAlkB_iff.mpr h⟩
