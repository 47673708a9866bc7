/-! what is said of KEYS: ARRAYS -/
theorem nI_neg {v : Nat} (h1 : 2 ^ 31 ≤ v) (h2 : v < 2 ^ 32) : nI v < 0 := by
  rw [Int32.lt_iff_toInt_lt]
  show (Int32.ofNat v).toInt < 0
  have e : ((v : Int)).bmod (2 ^ 32) = (v : Int) - 2 ^ 32 := by
    rw [Int.bmod_eq_iff] <;> omega
  rw [← Int32.ofInt_eq_ofNat, Int32.toInt_ofInt, show Int32.size = 2 ^ 32 from rfl, e]
  omega
theorem nI_rng {v lo hi : Nat} (hv : v < 2 ^ 32) (hl : lo < 2 ^ 31) (hh : hi < 2 ^ 31) : (¬ nI v < nI lo ∧ nI v ≤ nI hi) ↔ (lo ≤ v ∧ v ≤ hi) := by
  rcases Nat.lt_or_ge v (2 ^ 31) with h | h
  · rw [nI_ltI h hl, nI_leI h hh]; omega
  · constructor
    · rintro ⟨h1, -⟩
      exact absurd (Int32.lt_of_lt_of_le (nI_neg h hv) (nI_pos' hl)) h1
    · omega
theorem nI_mul (a b : Nat) : nI a * nI b = nI (a * b) := (Int32.ofNat_mul a b).symm
theorem sSml_of {f : Nat → Nat} {n lo hi c p : Nat} (h : p + 1 ≤ n) (h2 : lo ≤ f p ∧ f p ≤ hi) : sSml f n lo hi c p = .inr (f p, p + 1) := by
  unfold sSml; rw [if_pos h, if_pos h2]
theorem sArr_un {f : Nat → Nat} {n : Nat} {dp : Bool} {g : Nat → Nat → pE Nat} {p q : Nat} (h : sArr f n dp g p = .inr q) : p + 2 ≤ n ∧ f p ≤ 3 ∧ f (p + 1) ≤ 24 ∧ sRep (g (f p)) (f (p + 1)) (p + 2) = .inr q := by
  unfold sArr at h
  split at h
  · cases h
  · rename_i t r hr
    have h1 := sSml_le hr
    have e1 : r = p + 1 := congrArg Prod.snd h1.1
    have e2 : t = f p := congrArg Prod.fst h1.1
    split at h
    · cases h
    · split at h
      · cases h
      · rename_i m r2 hr2
        have h2 := sSml_le hr2
        have e3 : r2 = r + 1 := congrArg Prod.snd h2.1
        have e4 : m = f r := congrArg Prod.fst h2.1
        subst e1
        subst e2
        subst e3
        subst e4
        exact ⟨by omega, by omega, by omega, h⟩
theorem sRep_skip {n : Nat} : ∀ (k p q : Nat), sRep (sSkip n 4) k p = .inr q → q = p + 4 * k
  | 0, p, q, h => by injection h with h; omega
  | k + 1, p, q, h => by
    unfold sRep at h
    split at h
    · cases h
    · rename_i r hr
      have := sSkip_le hr
      have := sRep_skip k r q h
      omega
theorem sRep_0 {g : Nat → pE Nat} {p q : Nat} (h : sRep g 0 p = .inr q) : q = p := by injection h with h; exact h.symm
theorem sA2_num {f : Nat → Nat} {n p q : Nat} (h : sA2 f n p = .inr q) (h0 : f (p + 1) = 0 ∨ f p = 0) : q = p + 2 + 4 * f (p + 1) := by
  have h1 := (sArr_un h).2.2.2
  rcases h0 with e | e
  · rw [e] at h1 ⊢
    have := sRep_0 h1
    omega
  · rw [e] at h1
    exact sRep_skip _ _ _ h1
theorem sA2_in {f : Nat → Nat} {n p q : Nat} (h : sA2 f n p = .inr q) : p + 2 ≤ q ∧ q ≤ n := sA2_le h
/-- an ARRAY of ARRAYS of NUMBERS, u of them from h on -/
def sTf (f : Nat → Nat) : Nat → Nat → Bool
  | 0, _ => true
  | u + 1, h => if 0 < f (h + 1) ∧ f h ≠ 0 then false else sTf f u (h + 2 + 4 * f (h + 1))
def sTF (f : Nat → Nat) (p q : Nat) : Bool := if (0 < f (p + 1) ∧ f p ≠ 2) ∨ (0 < f (q + 1) ∧ f q ≠ 3) then false else sTf f (f (q + 1)) (q + 2)
section RFI
variable {f : Nat → Nat} {n : Nat} {I J : Nat → Nat → Int32} {L : Nat → Nat → Int64} {F : Nat → Nat → UInt32} {d : Nat} {Q : xP}
theorem rf_tfL (hF : rfF f n I) (hG : rfG f n) {q e m : Nat} (hq : q + 1 < 1400) (hm : m = f (q + 1)) {a b : Int32} (hb : b = nI q)
    : ∀ (u j : Nat), j + u = m → ∀ (h : Nat), (0 < u → sRep (sA2 f n) u h = .inr e) → h ≤ 1400 →
    (Q (some (.int (if sTf f u h = true then 1 else 0))) (sh2, I, L, F)) → ∀ x y : Int32, x = nI h → y = nI j → XC xE0 d xM_43 (51, [some (.ref 0), some (.int a), some (.int b), some (.int x), some (.int y)], [], (sh2, I, L, F)) Q := by
  have e1 : b + 1 = nI (q + 1) := by rw [hb, nI_1]
  have hfm := hG.1 (q + 1)
  have hn := hG.2
  intro u
  induction u with
  | zero =>
    intro j hj h hr hh hQ x y hx hy
    refine XC.block [51] 60 ?_
    refine And.intro (rf_in e1 (by omega) (by decide)) ?_
    exact And.intro (fun z => ⟨by decide, hQ⟩) (fun z => absurd (show I 1 (b + 1).toNatClampNeg ≤ y by rw [rf_at hF e1 (by omega), hy]; exact nI_le (by omega) (by omega)) z)
  | succ u ih =>
    intro j hj h hr hh hQ x y hx hy
    have hr := hr (by omega)
    unfold sRep at hr
    split at hr
    · cases hr
    · rename_i r hs
      have hle := sA2_in hs
      have e2 : x + 1 = nI (h + 1) := by rw [hx, nI_1]
      have b1 := hG.1 (h + 1)
      have b2 := hG.1 h
      have g1 : I 1 (x + 1).toNatClampNeg = nI (f (h + 1)) := rf_at hF e2 (by omega)
      have g2 : I 1 x.toNatClampNeg = nI (f h) := rf_at hF hx (by omega)
      have go : (f (h + 1) = 0 ∨ f h = 0) → XC xE0 d xM_43 (86, [some (.ref 0), some (.int a), some (.int b), some (.int x), some (.int y)], [], (sh2, I, L, F)) Q := by
        intro h0
        have hnx := sA2_num hs h0
        refine XC.block [51] 60 ?_
        refine And.intro (rf_in e2 (by omega) (by decide)) ?_
        refine ih (j + 1) (by omega) r (fun _ => hr) (by omega) ?_ _ _ ?_ (show y + 1 = nI (j + 1) by rw [hy, nI_1])
        · have eT : sTf f (u + 1) h = sTf f u r := by
            rw [hnx]; exact if_neg (by omega)
          rw [eT] at hQ
          exact hQ
        · show x + (2 + 4 * I 1 (x + 1).toNatClampNeg) = nI r
          rw [g1, show (4 : Int32) = nI 4 from rfl, show (2 : Int32) = nI 2 from rfl, nI_mul, nI_add, hx, nI_add]
          congr 1
          omega
      refine XC.block [51, 86] 60 ?_
      refine And.intro (rf_in e1 (by omega) (by decide)) ?_
      refine And.intro (fun z => absurd (show I 1 (b + 1).toNatClampNeg ≤ y from z) (by rw [rf_at hF e1 (by omega), hy]; exact nI_ge (by omega) (by omega))) (fun z => ?_)
      refine And.intro (rf_in e2 (by omega) (by decide)) ?_
      refine And.intro (fun z => go ?_) (fun z => ?_)
      · have z : I 1 (x + 1).toNatClampNeg ≤ 0 := z
        rw [g1, show (0 : Int32) = nI 0 from rfl, nI_leI (by omega) (by omega)] at z
        omega
      · have z : ¬ I 1 (x + 1).toNatClampNeg ≤ 0 := z
        rw [g1, show (0 : Int32) = nI 0 from rfl, nI_leI (by omega) (by omega)] at z
        refine And.intro (rf_in hx (by omega) (by decide)) ?_
        refine And.intro (fun w => go ?_) (fun w => ⟨by decide, ?_⟩)
        · have w : I 1 x.toNatClampNeg = 0 := w
          rw [g2, show (0 : Int32) = nI 0 from rfl, nI_eq (by omega) (by omega)] at w
          omega
        · have w : ¬ I 1 x.toNatClampNeg = 0 := w
          rw [g2, show (0 : Int32) = nI 0 from rfl, nI_eq (by omega) (by omega)] at w
          have eT : sTf f (u + 1) h = false := if_pos ⟨by omega, w⟩
          rw [eT] at hQ
          exact hQ
theorem rf_typesFit (hF : rfF f n I) (hG : rfG f n) {p q e : Nat} (hp : p + 1 < 1400) (hq : sA1 f n q = .inr e) {a b : Int32} (ha : a = nI p) (hb : b = nI q) (hQ : Q (some (.int (if sTF f p q = true then 1 else 0))) (sh2, I, L, F)) : XM xE0 d 43 [.ref 0, .int a, .int b] (sh2, I, L, F) Q := by
  obtain ⟨u1, u2, u3, u4⟩ := sArr_un hq
  have hn := hG.2
  have e1 : a + 1 = nI (p + 1) := by rw [ha, nI_1]
  have e2 : b + 1 = nI (q + 1) := by rw [hb, nI_1]
  have b1 := hG.1 (p + 1)
  have b2 := hG.1 p
  have b3 := hG.1 (q + 1)
  have b4 := hG.1 q
  have g1 : I 1 (a + 1).toNatClampNeg = nI (f (p + 1)) := rf_at hF e1 (by omega)
  have g2 : I 1 a.toNatClampNeg = nI (f p) := rf_at hF ha (by omega)
  have g3 : I 1 (b + 1).toNatClampNeg = nI (f (q + 1)) := rf_at hF e2 (by omega)
  have g4 : I 1 b.toNatClampNeg = nI (f q) := rf_at hF hb (by omega)
  have go44 : ¬ (0 < f (p + 1) ∧ f p ≠ 2) → ¬ (0 < f (q + 1) ∧ f q ≠ 3) → XC xE0 d xM_43 (44, [some (.ref 0), some (.int a), some (.int b), none, none], [], (sh2, I, L, F)) Q := by
    intro h1 h2
    refine XC.block [51] 60 ?_
    refine rf_tfL hF hG (q := q) (e := e) (by omega) rfl hb (f (q + 1)) 0 (by omega) (q + 2) (fun h => ?_) (by omega) ?_ _ _ (show b + 2 = nI (q + 2) by rw [hb, show (2 : Int32) = nI 2 from rfl, nI_add]) rfl
    · have h3 : f q = 3 := Classical.byContradiction (fun z => h2 ⟨h, z⟩)
      have u4 : sRep (fun x => if f q < 3 then sPln f n (f q) x else sA2 f n x) (f (q + 1)) (q + 2) = .inr e := u4
      rw [show (fun x => if f q < 3 then sPln f n (f q) x else sA2 f n x) = sA2 f n from funext (fun x => if_neg (by omega))] at u4
      exact u4
    · have eT : sTF f p q = sTf f (f (q + 1)) (q + 2) := if_neg (fun z => z.elim h1 h2)
      rw [eT] at hQ
      exact hQ
  have go42 : (0 < f (p + 1) ∧ f p ≠ 2) ∨ (0 < f (q + 1) ∧ f q ≠ 3) → Q (some (.int 0)) (sh2, I, L, F) := by
    intro h
    have eT : sTF f p q = false := if_pos h
    rw [eT] at hQ
    exact hQ
  have go21 : ¬ (0 < f (p + 1) ∧ f p ≠ 2) → XC xE0 d xM_43 (21, [some (.ref 0), some (.int a), some (.int b), none, none], [], (sh2, I, L, F)) Q := by
    intro h1
    refine XC.block [44] 60 ?_
    refine And.intro (rf_in e2 (by omega) (by decide)) ?_
    refine And.intro (fun z => go44 h1 ?_) (fun z => ?_)
    · have z : I 1 (b + 1).toNatClampNeg ≤ 0 := z
      rw [g3, show (0 : Int32) = nI 0 from rfl, nI_leI (by omega) (by omega)] at z
      omega
    · have z : ¬ I 1 (b + 1).toNatClampNeg ≤ 0 := z
      rw [g3, show (0 : Int32) = nI 0 from rfl, nI_leI (by omega) (by omega)] at z
      refine And.intro (rf_in hb (by omega) (by decide)) ?_
      refine And.intro (fun w => go44 h1 ?_) (fun w => ⟨by decide, go42 (Or.inr ?_)⟩)
      · have w : I 1 b.toNatClampNeg = 3 := w
        rw [g4, show (3 : Int32) = nI 3 from rfl, nI_eq (by omega) (by omega)] at w
        omega
      · have w : ¬ I 1 b.toNatClampNeg = 3 := w
        rw [g4, show (3 : Int32) = nI 3 from rfl, nI_eq (by omega) (by omega)] at w
        exact ⟨by omega, w⟩
  refine XC.block [21] 60 ?_
  refine And.intro (rf_in e1 (by omega) (by decide)) ?_
  refine And.intro (fun z => go21 ?_) (fun z => ?_)
  · have z : I 1 (a + 1).toNatClampNeg ≤ 0 := z
    rw [g1, show (0 : Int32) = nI 0 from rfl, nI_leI (by omega) (by omega)] at z
    omega
  · have z : ¬ I 1 (a + 1).toNatClampNeg ≤ 0 := z
    rw [g1, show (0 : Int32) = nI 0 from rfl, nI_leI (by omega) (by omega)] at z
    refine And.intro (rf_in ha (by omega) (by decide)) ?_
    refine And.intro (fun w => ⟨by decide, go42 (Or.inl ?_)⟩) (fun w => go21 ?_)
    · have w : ¬ I 1 a.toNatClampNeg = 2 := w
      rw [g2, show (2 : Int32) = nI 2 from rfl, nI_eq (by omega) (by omega)] at w
      exact ⟨by omega, w⟩
    · have w : ¬ ¬ I 1 a.toNatClampNeg = 2 := w
      have w := Classical.not_not.mp w
      rw [g2, show (2 : Int32) = nI 2 from rfl, nI_eq (by omega) (by omega)] at w
      omega
end RFI
