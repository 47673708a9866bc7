/-! the class on paper: TOKENS -/
theorem sNum_inj {f : Nat → Nat} (hf : ∀ k, f k < 256) : ∀ (m p q : Nat), sNum f p m = sNum f q m ↔ ∀ i, i < m → f (p + i) = f (q + i)
  | 0, p, q => ⟨fun _ i hi => absurd hi (by omega), fun _ => rfl⟩
  | m + 1, p, q => by
    have ih := sNum_inj hf m (p + 1) (q + 1)
    have h1 := hf p
    have h2 := hf q
    show f p + 256 * sNum f (p + 1) m = f q + 256 * sNum f (q + 1) m ↔ _
    constructor
    · intro h i hi
      have e1 : f p = f q := by omega
      have e2 := ih.mp (by omega)
      match i, hi with
      | 0, _ => exact e1
      | i + 1, hi =>
        have := e2 i (by omega)
        rw [show p + (i + 1) = p + 1 + i by omega, show q + (i + 1) = q + 1 + i by omega]
        exact this
    · intro h
      have e1 : f p = f q := h 0 (by omega)
      have e2 := ih.mpr (fun i hi => by
        have := h (i + 1) (by omega)
        rw [show p + 1 + i = p + (i + 1) by omega, show q + 1 + i = q + (i + 1) by omega]
        exact this)
      rw [e1, e2]
/-- a STRING of at most 4 OCTETS as one number -/
def sTw (f : Nat → Nat) (p : Nat) : Nat := f p * 2 ^ 32 + sNum f (p + 1) (f p)
theorem sTw_lt {f : Nat → Nat} (hf : ∀ k, f k < 256) {p : Nat} (h4 : f p ≤ 4) : sNum f (p + 1) (f p) < 2 ^ 32 ∧ sTw f p < 2 ^ 40 := by
  have h := sNum_lt hf (f p) (p + 1)
  have h2 : 256 ^ (f p) ≤ 256 ^ 4 := Nat.pow_le_pow_right (by decide) h4
  unfold sTw
  omega
theorem sTw_inj {f : Nat → Nat} (hf : ∀ k, f k < 256) {p q : Nat} (hp : f p ≤ 4) (hq : f q ≤ 4) : sTw f p = sTw f q ↔ sAlk f p q := by
  have h1 := sTw_lt hf hp
  have h2 := sTw_lt hf hq
  unfold sTw at h1 h2 ⊢
  constructor
  · intro h
    have e : f p = f q := by omega
    have e2 : sNum f (p + 1) (f p) = sNum f (q + 1) (f q) := by omega
    rw [← e] at e2
    have e3 := (sNum_inj hf _ _ _).mp e2
    intro i hi
    match i, hi with
    | 0, _ => exact e
    | i + 1, hi =>
      have := e3 i (by omega)
      rw [show p + (i + 1) = p + 1 + i by omega, show q + (i + 1) = q + 1 + i by omega]
      exact this
  · intro h
    have e : f p = f q := h 0 (by omega)
    have e2 := (sNum_inj hf (f p) (p + 1) (q + 1)).mpr (fun i hi => by
      have := h (i + 1) (by omega)
      rw [show p + 1 + i = p + (i + 1) by omega, show q + 1 + i = q + (i + 1) by omega]
      exact this)
    rw [← e, e2]
/-- the first of u words from i on that is x -/
def sFw (w : Nat → Nat) (x : Nat) : Nat → Nat → Option Nat
  | 0, _ => none
  | u + 1, i => bif w i == x then some i else sFw w x u (i + 1)
theorem sFw_none {w : Nat → Nat} {x : Nat} : ∀ (u i : Nat), sFw w x u i = none ↔ ∀ j, i ≤ j → j < i + u → w j ≠ x
  | 0, i => ⟨fun _ j h1 h2 => by omega, fun _ => rfl⟩
  | u + 1, i => by
    have ih := sFw_none (w := w) (x := x) u (i + 1)
    show (bif w i == x then some i else sFw w x u (i + 1)) = none ↔ _
    cases hb : (w i == x) with
    | true =>
      constructor
      · intro h; cases h
      · intro h; exact absurd (eq_of_beq hb) (h i (by omega) (by omega))
    | false =>
      have hne : w i ≠ x := fun e => by rw [e, beq_self_eq_true] at hb; cases hb
      constructor
      · intro h j h1 h2
        rcases Nat.lt_or_ge i j with q | q
        · exact ih.mp h j q (by omega)
        · have : j = i := by omega
          subst this
          exact hne
      · intro h
        exact ih.mpr (fun j h1 h2 => h j (by omega) (by omega))
theorem sFw_lt {w : Nat → Nat} {x : Nat} : ∀ (u i j : Nat), sFw w x u i = some j → i ≤ j ∧ j < i + u
  | 0, i, j, h => by cases h
  | u + 1, i, j, h => by
    have h : (bif w i == x then some i else sFw w x u (i + 1)) = some j := h
    cases hb : (w i == x) with
    | true => rw [hb] at h; injection h with h; omega
    | false => rw [hb] at h; have := sFw_lt u (i + 1) j h; omega
theorem cl_or32 {m : Nat} (hm : m = 32) {s b : Nat} (hs : s < 2 ^ m) (hb : b < 256) : lN s ||| (nI b).toInt64 <<< ((nI m).toInt64 &&& 63) = lN (s + b * 2 ^ m) := by
  rw [nI_l (by omega)]
  apply Int64.toBitVec_inj.mp
  apply BitVec.eq_of_toNat_eq
  have e : (((nI m).toInt64 &&& 63).toBitVec.smod 64) = BitVec.ofNat 64 m := by
    subst hm; decide
  rw [Int64.toBitVec_or, BitVec.toNat_or, Int64.toBitVec_shiftLeft, e, BitVec.shiftLeft_eq', BitVec.toNat_shiftLeft]
  show s % 2 ^ 64 ||| (b % 2 ^ 64) <<< (m % 2 ^ 64) % 2 ^ 64 = (s + b * 2 ^ m) % 2 ^ 64
  have hm64 : m % 2 ^ 64 = m := by omega
  have hb64 : b % 2 ^ 64 = b := by omega
  have key : s ||| b <<< m = s + b * 2 ^ m := by
    rw [Nat.or_comm, ← Nat.shiftLeft_add_eq_or_of_lt hs, Nat.shiftLeft_eq, Nat.add_comm]
  have hp : 2 ^ m = 4294967296 := by rw [hm]
  have hs64 : s % 2 ^ 64 = s := by omega
  have hk : s + b * 2 ^ m < 2 ^ 64 := by rw [hp]; omega
  have hsh : b <<< m % 2 ^ 64 = b <<< m := by
    rw [Nat.shiftLeft_eq, hp]; omega
  rw [hm64, hb64, hs64, hsh, key, Nat.mod_eq_of_lt hk]
theorem cl_tkw {m s : Nat} (hm : m ≤ 255) (hs : s < 2 ^ 32) : (nI m).toInt64 <<< ((32 : Int32).toInt64 &&& 63) ||| lN s = lN (m * 2 ^ 32 + s) := by
  rw [Int64.or_comm, show (32 : Int32) = nI 32 from rfl, cl_or32 rfl hs (by omega), Nat.add_comm]
theorem cl_tokenOf {h0 : xH} {d : Nat} {Q : xP} {m s : Nat} (hm : m ≤ 255) (hs : s < 2 ^ 32) {a : Int64} {b : Int32} (ha : a = lN s) (hb : b = nI m) (hQ : ∀ v, v = lN (m * 2 ^ 32 + s) → Q (some (.long v)) h0) : XM xE0 d 162 [.long a, .int b] h0 Q := by
  refine XC.block [] 60 ?_
  refine ⟨trivial, hQ _ ?_⟩
  show b.toInt64 <<< ((32 : Int32).toInt64 &&& 63) ||| a = _
  rw [ha, hb]
  exact cl_tkw hm hs
section CLK_a
variable {X : List (Option Nat)} {T : List xS} {f : Nat → Nat} {n k : Nat} {I J : Nat → Nat → Int32} {L : Nat → Nat → Int64} {F : Nat → Nat → UInt32} {d : Nat} {Q : xP}
theorem cl_find_a {w : Nat → Nat} {c m s : Nat} (hc : c ≤ 16) (h4 : I 40 4 = nI c) (hw : ∀ i, i < c → L 41 i = lN (w i) ∧ w i < 2 ^ 63) (hm : m ≤ 255) (hs : s < 2 ^ 32) {a : Int64} {b : Int32} (ha : a = lN s) (hb : b = nI m) (hQ : ∀ v, v = rfO (sFw w (m * 2 ^ 32 + s) c 0) → Q (some (.int v)) (shG X (md1 T), I, L, F)) : XM xE0 (d + 1) 165 [.ref 40, .long a, .int b] (shG X (md1 T), I, L, F) Q := by
  have loop : ∀ (u j : Nat), j + u = c → sFw w (m * 2 ^ 32 + s) c 0 = sFw w (m * 2 ^ 32 + s) u j → ∀ x, x = nI j → XC xE0 (d + 1) xM_165 (3, [some (.ref 40), some (.long a), none, some (.int b), some (.int x)], [], (shG X (md1 T), I, L, F)) Q := by
    intro u
    induction u with
    | zero =>
      intro j hj he x hx
      refine XC.block [3] 60 ?_
      refine And.intro (fun _ => ⟨trivial, hQ _ ?_⟩) (fun z => absurd (show I 40 4 ≤ x by rw [h4, hx]; exact nI_le (by omega) (by omega)) z)
      rw [he]; rfl
    | succ u ih =>
      intro j hj he x hx
      have eL : L 41 x.toNatClampNeg = lN (w j) := by rw [hx, nI_clamp (by omega)]; exact (hw j (by omega)).1
      have hwj := (hw j (by omega)).2
      have hu : sFw w (m * 2 ^ 32 + s) (u + 1) j = (bif w j == (m * 2 ^ 32 + s) then some j else sFw w (m * 2 ^ 32 + s) u (j + 1)) := rfl
      refine XC.block [3] 60 ?_
      refine And.intro (fun z => absurd (show I 40 4 ≤ x from z) (by rw [h4, hx]; exact nI_ge (by omega) (by omega))) (fun _ => ?_)
      refine And.intro (rf_in hx (by omega) (by decide)) ?_
      refine cl_tokenOf hm hs ha hb (fun v hv => ?_)
      refine And.intro (fun z => ?_) (fun z => ⟨trivial, hQ _ ?_⟩)
      · have z : ¬ lg_cmp (L 41 x.toNatClampNeg) v = 0 := z
        rw [lg_eq0, eL, hv, pk_lEQ hwj (by omega)] at z
        have e : (w j == (m * 2 ^ 32 + s)) = false := by
          cases hb : (w j == (m * 2 ^ 32 + s)) with
          | false => rfl
          | true => exact absurd (eq_of_beq hb) z
        exact ih (j + 1) (by omega) (by rw [he, hu, e]; rfl) _ (show x + 1 = nI (j + 1) by rw [hx, nI_1])
      · have z : ¬ ¬ lg_cmp (L 41 x.toNatClampNeg) v = 0 := z
        have z := Classical.not_not.mp z
        rw [lg_eq0, eL, hv, pk_lEQ hwj (by omega)] at z
        show x = _
        rw [he, hu, z, beq_self_eq_true, hx]
        rfl
  refine XC.block [3] 60 ?_
  exact loop c 0 (by omega) rfl _ rfl
theorem cl_addToken_a {w : Nat → Nat} {c m s : Nat} (hc : c < 16) (h4 : I 40 4 = nI c) (hw : ∀ i, i < c → L 41 i = lN (w i) ∧ w i < 2 ^ 63) (hm : m ≤ 255) (hs : s < 2 ^ 32) {a : Int64} {b : Int32} (ha : a = lN s) (hb : b = nI m)
    (h1 : (∀ j, j < c → w j ≠ m * 2 ^ 32 + s) → Q (some (.int 1)) (shG X (md1 T), x2 I 40 4 (nI (c + 1)), x2 L 41 c (lN (m * 2 ^ 32 + s)), F))
    (h0 : (∃ j, j < c ∧ w j = m * 2 ^ 32 + s) → Q (some (.int 0)) (shG X (md1 T), I, L, F)) : XM xE0 (d + 2) 166 [.ref 40, .long a, .int b] (shG X (md1 T), I, L, F) Q := by
  have hlt := sFw_lt (w := w) (x := m * 2 ^ 32 + s) c 0
  have hnone := sFw_none (w := w) (x := m * 2 ^ 32 + s) c 0
  have hneg : rfO (sFw w (m * 2 ^ 32 + s) c 0) < 0 ↔ sFw w (m * 2 ^ 32 + s) c 0 = none := rfO_neg (fun j hj => by have := hlt j hj; omega)
  have ek : (I 40 4).toNatClampNeg = c := by rw [h4, nI_clamp (by omega)]
  refine XC.block [20] 60 ?_
  refine And.intro (fun z => absurd (show (16 : Int32) ≤ I 40 4 from z) (by rw [h4, show (16 : Int32) = nI 16 from rfl]; exact nI_ge (by omega) (by omega))) (fun _ => ?_)
  refine cl_find_a (by omega) h4 hw hm hs ha hb (fun v hv => ?_)
  refine And.intro (fun z => ?_) (fun z => ⟨(show (0 : Int32) &&& 1 = 0 by decide), h0 ?_⟩)
  · have z : v < 0 := z
    rw [hv, hneg, hnone] at z
    refine XC.block [] 60 ?_
    refine cl_tokenOf hm hs ha hb (fun u hu => ?_)
    refine And.intro (rf_in h4 (by omega) (by decide)) ⟨(show (1 : Int32) &&& 1 = 1 by decide), ?_⟩
    have := h1 (fun j hj => z j (by omega) (by omega))
    rw [← hu, ← ek, show nI ((I 40 4).toNatClampNeg + 1) = I 40 4 + 1 by rw [ek, h4, nI_1]] at this
    exact this
  · have z : ¬ v < 0 := z
    rw [hv, hneg, hnone] at z
    exact Classical.byContradiction (fun w' => z (fun j h1 h2 e => w' ⟨j, by omega, e⟩))
/-- nothing changes but facts, and what Words holds -/
def clN_a (I I' : Nat → Nat → Int32) : Prop := ∀ b k, b ≠ 39 → ¬ (b = 40 ∧ (k = 4 ∨ k = 5)) → b ≠ 42 → b ≠ 43 → b ≠ 44 → I' b k = I b k
theorem cl_tt59_a (hG : rfG f n) {p m e : Nat} (hm : m ≤ 16) (hFI : clF f n I) {mm : Int32} (hmm : mm = nI m)
    (hok : (∀ i, i < m → sTg1 f p i) → ∀ J' L', (∀ b k, ¬ (b = 40 ∧ k = 4) → J' b k = I b k) → (∀ b k, b ≠ 41 → L' b k = L b k) → J' 40 4 = nI m → (∀ i, i < m → L' 41 i = lN (sTw f (sTp f p i))) → Q (some (.int 1)) (shG X (md1 T), J', L', F))
    (hbad : (∃ i, i < m ∧ ¬ sTg1 f p i) → ∀ J' L', (∀ b k, ¬ (b = 40 ∧ k = 4) → J' b k = I b k) → (∀ b k, b ≠ 41 → L' b k = L b k) → Q (some (.int 0)) (shG X (md1 T), J', L', F)) :
    ∀ (u i : Nat), i + u = m → ∀ J L1, (∀ b k, ¬ (b = 40 ∧ k = 4) → J b k = I b k) → (∀ b k, b ≠ 41 → L1 b k = L b k) → J 40 4 = nI i → (∀ j, j < i → L1 41 j = lN (sTw f (sTp f p j))) → (∀ j, j < i → sTg1 f p j) → sRep (sPln f n 2) u (sTp f p i) = .inr e →
    ∀ hh ii y5, hh = nI (sTp f p i) → ii = nI i → XC xE0 (d + 3) xM_99 (59, [some (.ref 14), some (.ref 38), some (.int mm), some (.int hh), some (.int ii), y5], [], (shG X (md1 T), J, L1, F)) Q := by
  have hn := hG.2
  intro u
  induction u with
  | zero =>
    intro i hi J L1 D DL h4 hL hg hr hh ii y5 hhh hii
    have : i = m := by omega
    subst this
    refine XC.block [59] 60 ?_
    exact And.intro (fun _ => ⟨(show (1 : Int32) &&& 1 = 1 by decide), hok hg J L1 D DL h4 hL⟩) (fun z => absurd (show mm ≤ ii by rw [hmm, hii]; exact nI_le (by omega) (by omega)) z)
  | succ u ih =>
    intro i hi J L1 D DL h4 hL hg hr hh ii y5 hhh hii
    unfold sRep at hr
    split at hr
    · cases hr
    · rename_i r hs
      have hle := sStr_le (show sStr f n false (sTp f p i) = .inr r from hs)
      have FJ : clF f n J := ⟨fun k hk => by rw [D 2 k (by omega)]; exact hFI.1 k hk, (D 1 1 (by omega)).trans hFI.2⟩
      have hb := hG.1 (sTp f p i)
      refine XC.block [59] 60 ?_
      refine And.intro (fun z => absurd (show mm ≤ ii from z) (by rw [hmm, hii]; exact nI_ge (by omega) (by omega))) (fun _ => ?_)
      refine cl_at FJ hG (p := sTp f p i) (by omega) hhh (fun _ v hv => ?_) (fun z => absurd z (by omega))
      refine And.intro (fun z => ⟨(show (0 : Int32) &&& 1 = 0 by decide), hbad ⟨i, by omega, fun w => ?_⟩ J L1 D DL⟩) (fun z1 => ?_)
      · have z : v < 1 := z
        rw [hv, show (1 : Int32) = nI 1 from rfl, nI_ltI (by omega) (by omega)] at z
        have := w.1
        omega
      · have z1 : ¬ v < 1 := z1
        rw [hv, show (1 : Int32) = nI 1 from rfl, nI_ltI (by omega) (by omega)] at z1
        refine And.intro (fun z => ⟨(show (0 : Int32) &&& 1 = 0 by decide), hbad ⟨i, by omega, fun w => ?_⟩ J L1 D DL⟩) (fun z2 => ?_)
        · have z : (4 : Int32) < v := z
          rw [hv, show (4 : Int32) = nI 4 from rfl, nI_ltI (by omega) (by omega)] at z
          have := w.2.1
          omega
        · have z2 : ¬ (4 : Int32) < v := z2
          rw [hv, show (4 : Int32) = nI 4 from rfl, nI_ltI (by omega) (by omega)] at z2
          have h4' : f (sTp f p i) ≤ 4 := by omega
          have hs32 := sTw_lt hG.1 h4'
          refine cl_number FJ hG (p := sTp f p i + 1) (k := f (sTp f p i)) h4' (by omega) (show hh + 1 = nI (sTp f p i + 1) by rw [hhh, nI_1]) hv (fun v2 hv2 => ?_)
          refine cl_addToken_a (w := fun j => sTw f (sTp f p j)) (c := i) (m := f (sTp f p i)) (s := sNum f (sTp f p i + 1) (f (sTp f p i))) (by omega) h4 (fun j hj => ⟨hL j hj, ?_⟩) (by omega) hs32.1 hv2 hv (fun hnew => ?_) (fun hold => ?_)
          · have := sTw_lt hG.1 (hg j hj).2.1
            omega
          · refine And.intro (fun _ => ?_) (fun z => absurd (show ¬ (1 : Int32) = 0 by decide) z)
            have hD : sDup f (sTp f p) i = false := by
              cases hd : sDup f (sTp f p) i with
              | false => rfl
              | true =>
                obtain ⟨j, hj, a⟩ := sDup_iff.mp hd
                exact absurd ((sTw_inj hG.1 (hg j hj).2.1 h4').mpr a) (hnew j hj)
            refine ih (i + 1) (by omega) (x2 J 40 4 (nI (i + 1))) (x2 L1 41 i (lN (sTw f (sTp f p i)))) (fun b k hb => by rw [x2_o _ _ hb]; exact D b k hb) (fun b k hb => by rw [x2_o _ _ (fun e => hb e.1)]; exact DL b k hb) (x2_same _ _ _ _) (fun j hj => ?_) (fun j hj => ?_) ?_ _ _ _ ?_ (show ii + 1 = nI (i + 1) by rw [hii, nI_1])
            · rcases Nat.lt_or_ge j i with q | q
              · rw [x2_o _ _ (by omega)]; exact hL j q
              · have : j = i := by omega
                subst this
                exact x2_same _ _ _ _
            · rcases Nat.lt_or_ge j i with q | q
              · exact hg j q
              · have : j = i := by omega
                subst this
                exact ⟨by omega, h4', hD⟩
            · show sRep (sPln f n 2) u (sTp f p i + 1 + f (sTp f p i)) = _
              rw [hle.1]; exact hr
            · show hh + (1 + v) = nI (sTp f p i + 1 + f (sTp f p i))
              rw [hv, show (1 : Int32) = nI 1 from rfl, nI_add, hhh, nI_add]
              congr 1
              omega
          · refine And.intro (fun z => absurd (show (0 : Int32) = 0 from rfl) z) (fun _ => ⟨(show (0 : Int32) &&& 1 = 0 by decide), hbad ⟨i, by omega, fun w => ?_⟩ J L1 D DL⟩)
            obtain ⟨j, hj, a⟩ := hold
            have : sDup f (sTp f p) i = true := sDup_iff.mpr ⟨j, hj, (sTw_inj hG.1 (hg j hj).2.1 h4').mp a⟩
            rw [w.2.2] at this
            cases this
end CLK_a
section CLK_b
variable {X : List (Option Nat)} {T : List xS} {f : Nat → Nat} {n k : Nat} {I J : Nat → Nat → Int32} {L : Nat → Nat → Int64} {F : Nat → Nat → UInt32} {d : Nat} {Q : xP}
theorem cl_find_b {w : Nat → Nat} {c m s : Nat} (hc : c ≤ 16) (h4 : I 53 4 = nI c) (hw : ∀ i, i < c → L 54 i = lN (w i) ∧ w i < 2 ^ 63) (hm : m ≤ 255) (hs : s < 2 ^ 32) {a : Int64} {b : Int32} (ha : a = lN s) (hb : b = nI m) (hQ : ∀ v, v = rfO (sFw w (m * 2 ^ 32 + s) c 0) → Q (some (.int v)) (shG X (md2 T), I, L, F)) : XM xE0 (d + 1) 165 [.ref 53, .long a, .int b] (shG X (md2 T), I, L, F) Q := by
  have loop : ∀ (u j : Nat), j + u = c → sFw w (m * 2 ^ 32 + s) c 0 = sFw w (m * 2 ^ 32 + s) u j → ∀ x, x = nI j → XC xE0 (d + 1) xM_165 (3, [some (.ref 53), some (.long a), none, some (.int b), some (.int x)], [], (shG X (md2 T), I, L, F)) Q := by
    intro u
    induction u with
    | zero =>
      intro j hj he x hx
      refine XC.block [3] 60 ?_
      refine And.intro (fun _ => ⟨trivial, hQ _ ?_⟩) (fun z => absurd (show I 53 4 ≤ x by rw [h4, hx]; exact nI_le (by omega) (by omega)) z)
      rw [he]; rfl
    | succ u ih =>
      intro j hj he x hx
      have eL : L 54 x.toNatClampNeg = lN (w j) := by rw [hx, nI_clamp (by omega)]; exact (hw j (by omega)).1
      have hwj := (hw j (by omega)).2
      have hu : sFw w (m * 2 ^ 32 + s) (u + 1) j = (bif w j == (m * 2 ^ 32 + s) then some j else sFw w (m * 2 ^ 32 + s) u (j + 1)) := rfl
      refine XC.block [3] 60 ?_
      refine And.intro (fun z => absurd (show I 53 4 ≤ x from z) (by rw [h4, hx]; exact nI_ge (by omega) (by omega))) (fun _ => ?_)
      refine And.intro (rf_in hx (by omega) (by decide)) ?_
      refine cl_tokenOf hm hs ha hb (fun v hv => ?_)
      refine And.intro (fun z => ?_) (fun z => ⟨trivial, hQ _ ?_⟩)
      · have z : ¬ lg_cmp (L 54 x.toNatClampNeg) v = 0 := z
        rw [lg_eq0, eL, hv, pk_lEQ hwj (by omega)] at z
        have e : (w j == (m * 2 ^ 32 + s)) = false := by
          cases hb : (w j == (m * 2 ^ 32 + s)) with
          | false => rfl
          | true => exact absurd (eq_of_beq hb) z
        exact ih (j + 1) (by omega) (by rw [he, hu, e]; rfl) _ (show x + 1 = nI (j + 1) by rw [hx, nI_1])
      · have z : ¬ ¬ lg_cmp (L 54 x.toNatClampNeg) v = 0 := z
        have z := Classical.not_not.mp z
        rw [lg_eq0, eL, hv, pk_lEQ hwj (by omega)] at z
        show x = _
        rw [he, hu, z, beq_self_eq_true, hx]
        rfl
  refine XC.block [3] 60 ?_
  exact loop c 0 (by omega) rfl _ rfl
theorem cl_addToken_b {w : Nat → Nat} {c m s : Nat} (hc : c < 16) (h4 : I 53 4 = nI c) (hw : ∀ i, i < c → L 54 i = lN (w i) ∧ w i < 2 ^ 63) (hm : m ≤ 255) (hs : s < 2 ^ 32) {a : Int64} {b : Int32} (ha : a = lN s) (hb : b = nI m)
    (h1 : (∀ j, j < c → w j ≠ m * 2 ^ 32 + s) → Q (some (.int 1)) (shG X (md2 T), x2 I 53 4 (nI (c + 1)), x2 L 54 c (lN (m * 2 ^ 32 + s)), F))
    (h0 : (∃ j, j < c ∧ w j = m * 2 ^ 32 + s) → Q (some (.int 0)) (shG X (md2 T), I, L, F)) : XM xE0 (d + 2) 166 [.ref 53, .long a, .int b] (shG X (md2 T), I, L, F) Q := by
  have hlt := sFw_lt (w := w) (x := m * 2 ^ 32 + s) c 0
  have hnone := sFw_none (w := w) (x := m * 2 ^ 32 + s) c 0
  have hneg : rfO (sFw w (m * 2 ^ 32 + s) c 0) < 0 ↔ sFw w (m * 2 ^ 32 + s) c 0 = none := rfO_neg (fun j hj => by have := hlt j hj; omega)
  have ek : (I 53 4).toNatClampNeg = c := by rw [h4, nI_clamp (by omega)]
  refine XC.block [20] 60 ?_
  refine And.intro (fun z => absurd (show (16 : Int32) ≤ I 53 4 from z) (by rw [h4, show (16 : Int32) = nI 16 from rfl]; exact nI_ge (by omega) (by omega))) (fun _ => ?_)
  refine cl_find_b (by omega) h4 hw hm hs ha hb (fun v hv => ?_)
  refine And.intro (fun z => ?_) (fun z => ⟨(show (0 : Int32) &&& 1 = 0 by decide), h0 ?_⟩)
  · have z : v < 0 := z
    rw [hv, hneg, hnone] at z
    refine XC.block [] 60 ?_
    refine cl_tokenOf hm hs ha hb (fun u hu => ?_)
    refine And.intro (rf_in h4 (by omega) (by decide)) ⟨(show (1 : Int32) &&& 1 = 1 by decide), ?_⟩
    have := h1 (fun j hj => z j (by omega) (by omega))
    rw [← hu, ← ek, show nI ((I 53 4).toNatClampNeg + 1) = I 53 4 + 1 by rw [ek, h4, nI_1]] at this
    exact this
  · have z : ¬ v < 0 := z
    rw [hv, hneg, hnone] at z
    exact Classical.byContradiction (fun w' => z (fun j h1 h2 e => w' ⟨j, by omega, e⟩))
/-- nothing changes but facts, and what Words holds -/
def clN_b (I I' : Nat → Nat → Int32) : Prop := ∀ b k, b ≠ 52 → ¬ (b = 53 ∧ (k = 4 ∨ k = 5)) → b ≠ 55 → b ≠ 56 → b ≠ 57 → I' b k = I b k
theorem cl_tt59_b (hG : rfG f n) {p m e : Nat} (hm : m ≤ 16) (hFI : clF f n I) {mm : Int32} (hmm : mm = nI m)
    (hok : (∀ i, i < m → sTg1 f p i) → ∀ J' L', (∀ b k, ¬ (b = 53 ∧ k = 4) → J' b k = I b k) → (∀ b k, b ≠ 54 → L' b k = L b k) → J' 53 4 = nI m → (∀ i, i < m → L' 54 i = lN (sTw f (sTp f p i))) → Q (some (.int 1)) (shG X (md2 T), J', L', F))
    (hbad : (∃ i, i < m ∧ ¬ sTg1 f p i) → ∀ J' L', (∀ b k, ¬ (b = 53 ∧ k = 4) → J' b k = I b k) → (∀ b k, b ≠ 54 → L' b k = L b k) → Q (some (.int 0)) (shG X (md2 T), J', L', F)) :
    ∀ (u i : Nat), i + u = m → ∀ J L1, (∀ b k, ¬ (b = 53 ∧ k = 4) → J b k = I b k) → (∀ b k, b ≠ 54 → L1 b k = L b k) → J 53 4 = nI i → (∀ j, j < i → L1 54 j = lN (sTw f (sTp f p j))) → (∀ j, j < i → sTg1 f p j) → sRep (sPln f n 2) u (sTp f p i) = .inr e →
    ∀ hh ii y5, hh = nI (sTp f p i) → ii = nI i → XC xE0 (d + 3) xM_99 (59, [some (.ref 14), some (.ref 51), some (.int mm), some (.int hh), some (.int ii), y5], [], (shG X (md2 T), J, L1, F)) Q := by
  have hn := hG.2
  intro u
  induction u with
  | zero =>
    intro i hi J L1 D DL h4 hL hg hr hh ii y5 hhh hii
    have : i = m := by omega
    subst this
    refine XC.block [59] 60 ?_
    exact And.intro (fun _ => ⟨(show (1 : Int32) &&& 1 = 1 by decide), hok hg J L1 D DL h4 hL⟩) (fun z => absurd (show mm ≤ ii by rw [hmm, hii]; exact nI_le (by omega) (by omega)) z)
  | succ u ih =>
    intro i hi J L1 D DL h4 hL hg hr hh ii y5 hhh hii
    unfold sRep at hr
    split at hr
    · cases hr
    · rename_i r hs
      have hle := sStr_le (show sStr f n false (sTp f p i) = .inr r from hs)
      have FJ : clF f n J := ⟨fun k hk => by rw [D 2 k (by omega)]; exact hFI.1 k hk, (D 1 1 (by omega)).trans hFI.2⟩
      have hb := hG.1 (sTp f p i)
      refine XC.block [59] 60 ?_
      refine And.intro (fun z => absurd (show mm ≤ ii from z) (by rw [hmm, hii]; exact nI_ge (by omega) (by omega))) (fun _ => ?_)
      refine cl_at FJ hG (p := sTp f p i) (by omega) hhh (fun _ v hv => ?_) (fun z => absurd z (by omega))
      refine And.intro (fun z => ⟨(show (0 : Int32) &&& 1 = 0 by decide), hbad ⟨i, by omega, fun w => ?_⟩ J L1 D DL⟩) (fun z1 => ?_)
      · have z : v < 1 := z
        rw [hv, show (1 : Int32) = nI 1 from rfl, nI_ltI (by omega) (by omega)] at z
        have := w.1
        omega
      · have z1 : ¬ v < 1 := z1
        rw [hv, show (1 : Int32) = nI 1 from rfl, nI_ltI (by omega) (by omega)] at z1
        refine And.intro (fun z => ⟨(show (0 : Int32) &&& 1 = 0 by decide), hbad ⟨i, by omega, fun w => ?_⟩ J L1 D DL⟩) (fun z2 => ?_)
        · have z : (4 : Int32) < v := z
          rw [hv, show (4 : Int32) = nI 4 from rfl, nI_ltI (by omega) (by omega)] at z
          have := w.2.1
          omega
        · have z2 : ¬ (4 : Int32) < v := z2
          rw [hv, show (4 : Int32) = nI 4 from rfl, nI_ltI (by omega) (by omega)] at z2
          have h4' : f (sTp f p i) ≤ 4 := by omega
          have hs32 := sTw_lt hG.1 h4'
          refine cl_number FJ hG (p := sTp f p i + 1) (k := f (sTp f p i)) h4' (by omega) (show hh + 1 = nI (sTp f p i + 1) by rw [hhh, nI_1]) hv (fun v2 hv2 => ?_)
          refine cl_addToken_b (w := fun j => sTw f (sTp f p j)) (c := i) (m := f (sTp f p i)) (s := sNum f (sTp f p i + 1) (f (sTp f p i))) (by omega) h4 (fun j hj => ⟨hL j hj, ?_⟩) (by omega) hs32.1 hv2 hv (fun hnew => ?_) (fun hold => ?_)
          · have := sTw_lt hG.1 (hg j hj).2.1
            omega
          · refine And.intro (fun _ => ?_) (fun z => absurd (show ¬ (1 : Int32) = 0 by decide) z)
            have hD : sDup f (sTp f p) i = false := by
              cases hd : sDup f (sTp f p) i with
              | false => rfl
              | true =>
                obtain ⟨j, hj, a⟩ := sDup_iff.mp hd
                exact absurd ((sTw_inj hG.1 (hg j hj).2.1 h4').mpr a) (hnew j hj)
            refine ih (i + 1) (by omega) (x2 J 53 4 (nI (i + 1))) (x2 L1 54 i (lN (sTw f (sTp f p i)))) (fun b k hb => by rw [x2_o _ _ hb]; exact D b k hb) (fun b k hb => by rw [x2_o _ _ (fun e => hb e.1)]; exact DL b k hb) (x2_same _ _ _ _) (fun j hj => ?_) (fun j hj => ?_) ?_ _ _ _ ?_ (show ii + 1 = nI (i + 1) by rw [hii, nI_1])
            · rcases Nat.lt_or_ge j i with q | q
              · rw [x2_o _ _ (by omega)]; exact hL j q
              · have : j = i := by omega
                subst this
                exact x2_same _ _ _ _
            · rcases Nat.lt_or_ge j i with q | q
              · exact hg j q
              · have : j = i := by omega
                subst this
                exact ⟨by omega, h4', hD⟩
            · show sRep (sPln f n 2) u (sTp f p i + 1 + f (sTp f p i)) = _
              rw [hle.1]; exact hr
            · show hh + (1 + v) = nI (sTp f p i + 1 + f (sTp f p i))
              rw [hv, show (1 : Int32) = nI 1 from rfl, nI_add, hhh, nI_add]
              congr 1
              omega
          · refine And.intro (fun z => absurd (show (0 : Int32) = 0 from rfl) z) (fun _ => ⟨(show (0 : Int32) &&& 1 = 0 by decide), hbad ⟨i, by omega, fun w => ?_⟩ J L1 D DL⟩)
            obtain ⟨j, hj, a⟩ := hold
            have : sDup f (sTp f p) i = true := sDup_iff.mpr ⟨j, hj, (sTw_inj hG.1 (hg j hj).2.1 h4').mp a⟩
            rw [w.2.2] at this
            cases this
end CLK_b
