/-! the reference on paper: reading numbers and STRINGS -/
/-- what the FILE holds: OCTETS, at most 1400 -/
def rfG (f : Nat → Nat) (n : Nat) : Prop := (∀ k, f k < 256) ∧ n ≤ 1400
def rfF (f : Nat → Nat) (n : Nat) (I : Nat → Nat → Int32) : Prop := (∀ k, k < 1400 → I 1 k = nI (f k)) ∧ I 0 1 = nI n
/-- at p, no FAULT yet -/
def rfS (f : Nat → Nat) (n p : Nat) (I : Nat → Nat → Int32) : Prop := rfF f n I ∧ I 0 2 = nI p ∧ I 0 3 = 0
/-- FAULT c at w -/
def rfX (f : Nat → Nat) (n c w : Nat) (I : Nat → Nat → Int32) : Prop := rfF f n I ∧ (I 0 3 = nI c ∧ 0 < c ∧ c < 13) ∧ I 0 4 = nI w
/-- nothing changes but at, fault, place -/
def rfA (I I' : Nat → Nat → Int32) : Prop := ∀ b k, (b = 0 → k < 2 ∨ 4 < k) → I' b k = I b k
theorem rfA.rf {I : Nat → Nat → Int32} : rfA I I := fun _ _ _ => rfl
theorem rfA.tr {I J K : Nat → Nat → Int32} (h1 : rfA I J) (h2 : rfA J K) : rfA I K := fun b k h => (h2 b k h).trans (h1 b k h)
theorem rfA.put {I J : Nat → Nat → Int32} (h : rfA I J) {k : Nat} {x : Int32} (h1 : 2 ≤ k) (h2 : k ≤ 4) : rfA I (x2 J 0 k x) := by
  intro b j hb
  unfold x2
  cases e : (Nat.beq b 0 && Nat.beq j k) with
  | false => exact h b j hb
  | true =>
    rw [Bool.and_eq_true] at e
    have e1 := Nat.eq_of_beq_eq_true e.1
    have e2 := Nat.eq_of_beq_eq_true e.2
    have := hb e1
    omega
theorem rfF.ag {f : Nat → Nat} {n : Nat} {I J : Nat → Nat → Int32} (h : rfF f n I) (a : rfA I J) : rfF f n J := ⟨fun k hk => (a 1 k (by omega)).trans (h.1 k hk), (a 0 1 (by omega)).trans h.2⟩
theorem rf_in {i : Int32} {j N : Nat} (e : i = nI j) (hj : j < N) (hN : N < 2 ^ 31) : vp_in i N := by
  rw [e]; exact vp_in_nI hj hN
theorem rf_at {f : Nat → Nat} {n : Nat} {I : Nat → Nat → Int32} (hF : rfF f n I) {i : Int32} {j : Nat} (e : i = nI j) (hj : j < 1400) : I 1 i.toNatClampNeg = nI (f j) := by
  rw [e, nI_clamp (by omega)]; exact hF.1 j hj
theorem rf_shl (s b : Nat) (hb : b < 256) : nI s <<< ((8 : Int32) &&& 31) ||| nI b = nI (b + 256 * s) := by
  apply Int32.toBitVec_inj.mp
  apply BitVec.eq_of_toNat_eq
  rw [Int32.toBitVec_or, BitVec.toNat_or, pk_shl _ _ 8 (by decide)]
  show (s % 2 ^ 32) * 2 ^ 8 % 2 ^ 32 ||| b % 2 ^ 32 = (b + 256 * s) % 2 ^ 32
  have e1 : (s % 2 ^ 32) * 2 ^ 8 % 2 ^ 32 = (s % 2 ^ 24) <<< 8 := by
    rw [Nat.shiftLeft_eq]; omega
  have e2 : b % 2 ^ 32 = b := by omega
  rw [e1, e2, ← Nat.shiftLeft_add_eq_or_of_lt (by omega : b < 2 ^ 8), Nat.shiftLeft_eq]
  omega
section RFA
variable {f : Nat → Nat} {n : Nat} {I : Nat → Nat → Int32} {L : Nat → Nat → Int64} {F : Nat → Nat → UInt32} {d : Nat} {Q : xP}
theorem rf_uL (hF : rfF f n I) (hf : ∀ k, f k < 256) {p k : Nat} (hp : p + k ≤ 1400) {a b : Int32} (ha : a = nI p) (hQ : ∀ s, s = nI (sNum f p k) → Q (some (.int s)) (sh2, I, L, F)) : ∀ (j m : Nat), j + m = k → ∀ (s i : Int32), i + 1 = nI j → s = nI (sNum f (p + j) m) → XC xE0 d xM_28 (7, [some (.ref 0), some (.int a), some (.int b), some (.int s), some (.int i)], [], (sh2, I, L, F)) Q := by
  intro j
  induction j with
  | zero =>
    intro m hm s i hi hs
    have hm : m = k := by omega
    subst hm
    have hi : i = -1 := by
      have : i = i + 1 + (-1) := by rw [Int32.add_assoc]; show i = i + 0; rw [Int32.add_zero]
      rw [this, hi]; rfl
    refine XC.block [7] 60 ?_
    exact And.intro (fun c => ⟨trivial, hQ s hs⟩) (fun c => absurd (by rw [hi]; decide) c)
  | succ j ih =>
    intro m hm s i hi hs
    have hi : i = nI j := by
      have : i = i + 1 - 1 := by rw [Int32.add_sub_cancel]
      rw [this, hi, nI_pred]
    have e : a + i = nI (p + j) := by rw [ha, hi, nI_add]
    refine XC.block [7] 60 ?_
    refine And.intro (fun c => absurd c (by rw [hi]; exact nI_pos (by omega))) (fun c => ?_)
    refine And.intro (rf_in e (by omega) (by decide)) ?_
    refine ih (m + 1) (by omega) _ _ (show i + (-1) + 1 = nI j by rw [Int32.add_assoc]; show i + 0 = nI j; rw [Int32.add_zero, hi]) ?_
    show s <<< ((8 : Int32) &&& 31) ||| I 1 (a + i).toNatClampNeg = nI (sNum f (p + j) (m + 1))
    rw [rf_at hF e (by omega), hs, rf_shl _ _ (hf _)]
    rfl
theorem rf_u (hF : rfF f n I) (hf : ∀ k, f k < 256) {p k : Nat} (hp : p + k ≤ 1400) {a b : Int32} (ha : a = nI p) (hb : b = nI k) (hQ : ∀ s, s = nI (sNum f p k) → Q (some (.int s)) (sh2, I, L, F)) : XM xE0 d 28 [.ref 0, .int a, .int b] (sh2, I, L, F) Q := by
  refine XC.block [7] 60 ?_
  refine rf_uL hF hf hp ha hQ k 0 rfl _ _ (show b - 1 + 1 = nI k by rw [hb, Int32.sub_add_cancel]) rfl
theorem rf_bad0 {c w : Int32} (hQ : Q none (sh2, I, L, F)) : XM xE0 d 29 [.ref 0, .int 0, .int c, .int w] (sh2, I, L, F) Q := by
  refine XC.block [] 60 ?_
  exact And.intro (fun c => ⟨trivial, hQ⟩) (fun c => (c rfl).elim)
theorem rf_badF {b c w : Int32} (h : ¬ I 0 3 ≤ 0) (hQ : Q none (sh2, I, L, F)) : XM xE0 d 29 [.ref 0, .int b, .int c, .int w] (sh2, I, L, F) Q := by
  refine XC.block [] 60 ?_
  refine And.intro (fun c => ⟨trivial, hQ⟩) (fun c => ?_)
  exact And.intro (fun c => absurd c h) (fun c => ⟨trivial, hQ⟩)
theorem rf_bad1 {c w : Int32} (h : I 0 3 = 0) (hQ : Q none (sh2, x2 (x2 I 0 3 c) 0 4 w, L, F)) : XM xE0 d 29 [.ref 0, .int 1, .int c, .int w] (sh2, I, L, F) Q := by
  refine XC.block [] 60 ?_
  refine And.intro (fun c => absurd (show (1 : Int32) = 0 from c) (by decide)) (fun c => ?_)
  exact And.intro (fun c => ⟨trivial, hQ⟩) (fun c => absurd (show I 0 3 ≤ 0 by rw [h]; decide) c)
theorem rfX.ft {c w : Nat} (h : rfX f n c w I) : ¬ I 0 3 ≤ 0 := by
  rw [h.2.1.1]; exact nI_nle h.2.1.2.1 (by have := h.2.1.2.2; omega)
theorem rfX.put {c w : Nat} {cc ww : Int32} {J : Nat → Nat → Int32} (hF : rfF f n J) (a : rfA J I) (hc : cc = nI c) (h0 : 0 < c) (h1 : c < 13) (hw : ww = nI w) : rfX f n c w (x2 (x2 I 0 3 cc) 0 4 ww) := by
  refine ⟨(hF.ag a).ag ((rfA.rf.put (by decide) (by decide)).put (by decide) (by decide)), ⟨?_, h0, h1⟩, ?_⟩
  · exact hc
  · exact hw
theorem rf_read {p k : Nat} (hG : rfG f n) (hk : k ≤ 4) (hp : p ≤ n) (hS : rfS f n p I) {b : Int32} (hb : b = nI k)
    (hok : p + k ≤ n → ∀ I' s, rfA I I' → rfS f n (p + k) I' → s = nI (sNum f p k) → Q (some (.int s)) (sh2, I', L, F))
    (hbad : ¬ p + k ≤ n → ∀ I', rfA I I' → rfX f n 1 p I' → Q (some (.int 0)) (sh2, I', L, F)) : XM xE0 (d + 1) 30 [.ref 0, .int b] (sh2, I, L, F) Q := by
  obtain ⟨hf, hn⟩ := hG
  obtain ⟨hF, h2, h3⟩ := hS
  have e : I 0 2 + b = nI (p + k) := by rw [h2, hb, nI_add]
  refine XC.block [] 60 ?_
  refine And.intro (fun c => ?_) (fun c => ?_)
  · have c : I 0 2 + b ≤ I 0 1 := c
    rw [e, hF.2, nI_leI (by omega) (by omega)] at c
    refine rf_bad0 ?_
    refine And.intro (fun c2 => ?_) (fun c2 => absurd (show I 0 3 ≤ 0 by rw [h3]; decide) c2)
    have aa : rfA I (x2 I 0 2 (I 0 2 + b)) := rfA.rf.put (by decide) (by decide)
    refine rf_u (hF.ag aa) hf (p := p) (k := k) (by omega) (show I 0 2 + b - b = nI p by rw [Int32.add_sub_cancel, h2]) hb (fun s hs => ⟨trivial, ?_⟩)
    exact hok c _ s aa ⟨hF.ag aa, e, h3⟩ hs
  · have c : ¬ I 0 2 + b ≤ I 0 1 := c
    rw [e, hF.2, nI_leI (by omega) (by omega)] at c
    refine rf_bad1 h3 ?_
    refine And.intro (fun c2 => absurd (show (1 : Int32) ≤ 0 from c2) (by decide)) (fun c2 => ⟨trivial, ?_⟩)
    exact hbad c _ ((rfA.rf.put (by decide) (by decide)).put (by decide) (by decide)) (rfX.put hF rfA.rf rfl (by decide) (by decide) h2)
theorem rf_readF {b : Int32} (h : ¬ I 0 3 ≤ 0) (hQ : Q (some (.int 0)) (sh2, I, L, F)) : XM xE0 (d + 1) 30 [.ref 0, .int b] (sh2, I, L, F) Q := by
  refine XC.block [] 60 ?_
  refine And.intro (fun c => ?_) (fun c => ?_)
  · refine rf_badF h ?_
    exact And.intro (fun c2 => absurd c2 h) (fun c2 => ⟨trivial, hQ⟩)
  · refine rf_badF h ?_
    exact And.intro (fun c2 => absurd c2 h) (fun c2 => ⟨trivial, hQ⟩)
end RFA
