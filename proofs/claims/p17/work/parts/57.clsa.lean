/-! the class on paper: its shape, with the MODELS open -/
def shG (X : List (Option Nat)) (T : List xS) : List xS := .inr (0, X) :: .inr (1, [some 2, none]) :: .inl (.byte, 1400, []) :: .inr (1, [some 4, none]) :: .inl (.byte, 24, []) :: .inr (2, [some 1, some 6, some 7, some 8, some 9, some 10, some 11, some 12, some 13, none, none, none, none, none]) :: .inl (.int, 24, []) :: .inl (.int, 24, []) :: .inl (.int, 24, []) :: .inl (.int, 24, []) :: .inl (.int, 24, []) :: .inl (.int, 24, []) :: .inl (.int, 24, []) :: .inl (.int, 24, []) :: .inr (3, [some 1, some 5, some 15]) :: .inl (.int, 14, []) :: .inr (4, [some 17, none]) :: .inl (.int, 24, []) :: .inr (5, [some 19, some 20, some 21, some 22, some 23, some 24, some 25, some 26, some 27, some 30, none]) :: .inl (.float, 16, []) :: .inl (.float, 16, []) :: .inl (.float, 16, []) :: .inl (.float, 16, []) :: .inl (.float, 16, []) :: .inl (.float, 16, []) :: .inl (.float, 8, []) :: .inl (.float, 16, []) :: .inl ((.array .float), 2, [some 28, some 29]) :: .inl (.float, 128, []) :: .inl (.float, 128, []) :: .inl ((.array .float), 2, [some 31, some 32]) :: .inl (.float, 128, []) :: .inl (.float, 128, []) :: .inr (6, [some 34, some 35, none]) :: .inl (.int, 16, []) :: .inl (.float, 16, []) :: .inr (7, [some 37, none]) :: .inl (.int, 32, []) :: T
/-- the FILE as the class holds it -/
def clF (f : Nat → Nat) (n : Nat) (I : Nat → Nat → Int32) : Prop := (∀ k, k < 1400 → I 2 k &&& 255 = nI (f k)) ∧ I 1 1 = nI n
def clS (f : Nat → Nat) (n p : Nat) (I : Nat → Nat → Int32) : Prop := clF f n I ∧ I 5 11 = nI p ∧ I 5 12 = 0 ∧ I 5 13 = -1
def clX (f : Nat → Nat) (n c w : Nat) (I : Nat → Nat → Int32) : Prop := clF f n I ∧ I 5 12 = nI c ∧ I 5 13 = nI w
/-- nothing changes but next, fault, faultPlace -/
def clA (I I' : Nat → Nat → Int32) : Prop := ∀ b k, (b = 5 → k < 11 ∨ 13 < k) → I' b k = I b k
theorem clA.rf {I : Nat → Nat → Int32} : clA I I := fun _ _ _ => rfl
theorem clA.tr {I J K : Nat → Nat → Int32} (h1 : clA I J) (h2 : clA J K) : clA I K := fun b k h => (h2 b k h).trans (h1 b k h)
theorem clA.put {I J : Nat → Nat → Int32} (h : clA I J) {k : Nat} {x : Int32} (h1 : 11 ≤ k) (h2 : k ≤ 13) : clA I (x2 J 5 k x) := fun b j hb => (x2_o _ _ (fun e => by have := hb e.1; omega)).trans (h b j hb)
theorem clF.ag {f : Nat → Nat} {n : Nat} {I J : Nat → Nat → Int32} (h : clF f n I) (a : clA I J) : clF f n J := ⟨fun k hk => by rw [a 2 k (by omega)]; exact h.1 k hk, (a 1 1 (by omega)).trans h.2⟩
theorem sNum_snoc {f : Nat → Nat} : ∀ (j p : Nat), sNum f p (j + 1) = sNum f p j + f (p + j) * 256 ^ j
  | 0, p => by
    show f p + 256 * 0 = 0 + f p * 1
    omega
  | j + 1, p => by
    have ih := sNum_snoc (f := f) j (p + 1)
    show f p + 256 * sNum f (p + 1) (j + 1) = f p + 256 * sNum f (p + 1) j + f (p + (j + 1)) * 256 ^ (j + 1)
    have e : f (p + (j + 1)) * 256 ^ (j + 1) = 256 * (f (p + (j + 1)) * 256 ^ j) := by
      rw [Nat.pow_succ, ← Nat.mul_assoc, Nat.mul_comm]
    rw [ih, show p + 1 + j = p + (j + 1) by omega, e]
    omega
theorem cl_or {m : Nat} (hm : m = 0 ∨ m = 8 ∨ m = 16 ∨ m = 24) {s b : Nat} (hs : s < 2 ^ m) (hb : b < 256) : lN s ||| (nI b).toInt64 <<< ((nI m).toInt64 &&& 63) = lN (s + b * 2 ^ m) := by
  rw [nI_l (by omega)]
  apply Int64.toBitVec_inj.mp
  apply BitVec.eq_of_toNat_eq
  have e : (((nI m).toInt64 &&& 63).toBitVec.smod 64) = BitVec.ofNat 64 m := by
    rcases hm with rfl | rfl | rfl | rfl <;> decide
  rw [Int64.toBitVec_or, BitVec.toNat_or, Int64.toBitVec_shiftLeft, e, BitVec.shiftLeft_eq', BitVec.toNat_shiftLeft]
  show s % 2 ^ 64 ||| (b % 2 ^ 64) <<< (m % 2 ^ 64) % 2 ^ 64 = (s + b * 2 ^ m) % 2 ^ 64
  have hm64 : m % 2 ^ 64 = m := by omega
  have hb64 : b % 2 ^ 64 = b := by omega
  have key : s ||| b <<< m = s + b * 2 ^ m := by
    rw [Nat.or_comm, ← Nat.shiftLeft_add_eq_or_of_lt hs, Nat.shiftLeft_eq, Nat.add_comm]
  rw [hm64, hb64, ← key]
  rcases hm with rfl | rfl | rfl | rfl
  · rw [Nat.shiftLeft_eq] at *; rw [Nat.mod_eq_of_lt (show s < 2 ^ 64 by omega), Nat.mod_eq_of_lt (show b * 2 ^ 0 < 2 ^ 64 by omega), key, Nat.mod_eq_of_lt (by omega)]
  · rw [Nat.shiftLeft_eq] at *; rw [Nat.mod_eq_of_lt (show s < 2 ^ 64 by omega), Nat.mod_eq_of_lt (show b * 2 ^ 8 < 2 ^ 64 by omega), key, Nat.mod_eq_of_lt (by omega)]
  · rw [Nat.shiftLeft_eq] at *; rw [Nat.mod_eq_of_lt (show s < 2 ^ 64 by omega), Nat.mod_eq_of_lt (show b * 2 ^ 16 < 2 ^ 64 by omega), key, Nat.mod_eq_of_lt (by omega)]
  · rw [Nat.shiftLeft_eq] at *; rw [Nat.mod_eq_of_lt (show s < 2 ^ 64 by omega), Nat.mod_eq_of_lt (show b * 2 ^ 24 < 2 ^ 64 by omega), key, Nat.mod_eq_of_lt (by omega)]
section CLA
variable {X : List (Option Nat)} {T : List xS} {f : Nat → Nat} {n : Nat} {I : Nat → Nat → Int32} {L : Nat → Nat → Int64} {F : Nat → Nat → UInt32} {d : Nat} {Q : xP}
theorem cl_at (hF : clF f n I) (hG : rfG f n) {p : Nat} (hp : p < 2 ^ 31) {a : Int32} (ha : a = nI p) (h1 : p < n → ∀ v, v = nI (f p) → Q (some (.int v)) (shG X T, I, L, F)) (h0 : n ≤ p → Q (some (.int 0)) (shG X T, I, L, F)) : XM xE0 d 133 [.ref 1, .int a] (shG X T, I, L, F) Q := by
  have hn := hG.2
  refine XC.block [] 60 ?_
  refine And.intro (fun z => absurd (show a < 0 from z) (by rw [ha]; exact nI_pos hp)) (fun _ => ?_)
  refine And.intro (fun z => ?_) (fun z => ⟨trivial, h0 ?_⟩)
  · have z : a < I 1 1 := z
    rw [ha, hF.2, nI_ltI hp (by omega)] at z
    refine And.intro (rf_in ha (by omega) (by decide)) ⟨trivial, h1 z _ ?_⟩
    show I 2 a.toNatClampNeg &&& 255 = _
    rw [ha, nI_clamp (by omega)]
    exact hF.1 p (by omega)
  · have z : ¬ a < I 1 1 := z
    rw [ha, hF.2, nI_ltI hp (by omega)] at z
    omega
theorem cl_numL (hF : clF f n I) (hG : rfG f n) {p k : Nat} (hk : k ≤ 4) (hp : p + k ≤ n) {a kk : Int32} (ha : a = nI p) (hkk : kk = nI k) (hQ : ∀ v, v = lN (sNum f p k) → Q (some (.long v)) (shG X T, I, L, F)) :
    ∀ (u j : Nat), j + u = k → ∀ s x, s = lN (sNum f p j) → x = nI j → XC xE0 (d + 1) xM_134 (5, [some (.ref 1), some (.int a), some (.int kk), some (.long s), none, some (.int x)], [], (shG X T, I, L, F)) Q := by
  have hn := hG.2
  intro u
  induction u with
  | zero =>
    intro j hj s x hs hx
    have : j = k := by omega
    subst this
    refine XC.block [5] 60 ?_
    exact And.intro (fun _ => ⟨trivial, hQ s hs⟩) (fun z => absurd (show kk ≤ x by rw [hkk, hx]; exact nI_le (by omega) (by omega)) z)
  | succ u ih =>
    intro j hj s x hs hx
    have e1 : a + x = nI (p + j) := by rw [ha, hx, nI_add]
    refine XC.block [5] 60 ?_
    refine And.intro (fun z => absurd (show kk ≤ x from z) (by rw [hkk, hx]; exact nI_ge (by omega) (by omega))) (fun _ => ?_)
    refine cl_at hF hG (p := p + j) (by omega) e1 (fun _ v hv => ?_) (fun z => absurd z (by omega))
    refine ih (j + 1) (by omega) _ _ ?_ (show x + 1 = nI (j + 1) by rw [hx, nI_1])
    show s ||| v.toInt64 <<< ((8 * x).toInt64 &&& 63) = _
    have hl := sNum_lt hG.1 j p
    have h8 : 2 ^ (8 * j) = 256 ^ j := by rw [Nat.pow_mul]
    rw [hs, hv, hx, show (8 : Int32) = nI 8 from rfl, nI_mul, cl_or (by omega) (by rw [h8]; exact hl) (hG.1 _), sNum_snoc, h8]
theorem cl_number (hF : clF f n I) (hG : rfG f n) {p k : Nat} (hk : k ≤ 4) (hp : p + k ≤ n) {a kk : Int32} (ha : a = nI p) (hkk : kk = nI k) (hQ : ∀ v, v = lN (sNum f p k) → Q (some (.long v)) (shG X T, I, L, F)) : XM xE0 (d + 1) 134 [.ref 1, .int a, .int kk] (shG X T, I, L, F) Q := by
  refine XC.block [5] 60 ?_
  exact cl_numL hF hG hk hp ha hkk hQ k 0 (by omega) _ _ rfl rfl
theorem cl_fail {c w : Int32} (hQ : Q (some (.int 0)) (shG X T, x2 (x2 I 5 12 c) 5 13 w, L, F)) : XM xE0 d 139 [.ref 5, .int c, .int w] (shG X T, I, L, F) Q := by
  refine XC.block [] 60 ?_
  exact ⟨(show (0 : Int32) &&& 1 = 0 by decide), hQ⟩
theorem clX.put {c w : Nat} {cc ww : Int32} {J : Nat → Nat → Int32} (hF : clF f n J) (a : clA J I) (hc : cc = nI c) (hw : ww = nI w) : clX f n c w (x2 (x2 I 5 12 cc) 5 13 ww) := ⟨(hF.ag a).ag ((clA.rf.put (by decide) (by decide)).put (by decide) (by decide)), hc, hw⟩
theorem cl_readNumber {p k : Nat} (hG : rfG f n) (hk : k ≤ 4) (hp : p ≤ n) (hS : clS f n p I) {b : Int32} (hb : b = nI k)
    (hok : p + k ≤ n → ∀ I' v, clA I I' → clS f n (p + k) I' → v = lN (sNum f p k) → Q (some (.long v)) (shG X T, I', L, F))
    (hbad : ¬ p + k ≤ n → ∀ I', clA I I' → clX f n 1 p I' → Q (some (.long (-1))) (shG X T, I', L, F)) : XM xE0 (d + 2) 140 [.ref 5, .int b] (shG X T, I, L, F) Q := by
  have hn := hG.2
  obtain ⟨hF, h11, h12, h13⟩ := hS
  have e : I 5 11 + b = nI (p + k) := by rw [h11, hb, nI_add]
  refine XC.block [] 60 ?_
  refine And.intro (fun c => ?_) (fun c => ?_)
  · have c : I 5 11 + b ≤ I 1 1 := c
    rw [e, hF.2, nI_leI (by omega) (by omega)] at c
    refine cl_number hF hG hk c h11 hb (fun v hv => ⟨trivial, ?_⟩)
    have aa : clA I (x2 I 5 11 (I 5 11 + b)) := clA.rf.put (by decide) (by decide)
    exact hok c _ v aa ⟨hF.ag aa, e, h12, h13⟩ hv
  · have c : ¬ I 5 11 + b ≤ I 1 1 := c
    rw [e, hF.2, nI_leI (by omega) (by omega)] at c
    refine cl_fail ⟨trivial, ?_⟩
    exact hbad c _ ((clA.rf.put (by decide) (by decide)).put (by decide) (by decide)) (clX.put hF clA.rf rfl h11)
theorem cl_readSmall {p lo hi c : Nat} (hG : rfG f n) (hp : p ≤ n) (hS : clS f n p I) (hlo : lo < 256) (hhi : hi < 256) {l1 h1 c1 : Int32} (hl : l1 = nI lo) (hh : h1 = nI hi) (hc : c1 = nI c)
    (hok : ∀ v q, sSml f n lo hi c p = .inr (v, q) → ∀ I' s, clA I I' → clS f n q I' → s = nI v → Q (some (.int s)) (shG X T, I', L, F))
    (hbad : ∀ c' w, sSml f n lo hi c p = .inl (c', w) → ∀ I', clA I I' → clX f n c' w I' → Q (some (.int (-1))) (shG X T, I', L, F)) : XM xE0 (d + 1) 141 [.ref 5, .int l1, .int h1, .int c1] (shG X T, I, L, F) Q := by
  have hn := hG.2
  have hb := hG.1 p
  obtain ⟨hF, h11, h12, h13⟩ := hS
  refine XC.block [39] 60 ?_
  refine And.intro (fun z => ?_) (fun z => ?_)
  · have z : I 5 11 < I 1 1 := z
    rw [h11, hF.2, nI_ltI (by omega) (by omega)] at z
    refine cl_at hF hG (p := p) (by omega) h11 (fun _ v hv => ?_) (fun w => absurd w (by omega))
    have bad : ¬ (lo ≤ f p ∧ f p ≤ hi) → XC xE0 (d + 1) xM_141 (51, [some (.ref 5), some (.int l1), some (.int h1), some (.int c1), some (.int v)], [], (shG X T, I, L, F)) Q := fun hx => by
      refine XC.block [] 60 ?_
      refine cl_fail ⟨trivial, ?_⟩
      refine hbad c p ?_ _ ((clA.rf.put (by decide) (by decide)).put (by decide) (by decide)) (clX.put hF clA.rf hc h11)
      unfold sSml
      rw [if_pos (by omega), if_neg hx]
    refine XC.block [51] 60 ?_
    refine And.intro (fun y => bad (fun w => ?_)) (fun y => ?_)
    · have y : v < l1 := y
      rw [hv, hl, nI_ltI (by omega) (by omega)] at y
      omega
    · have y : ¬ v < l1 := y
      rw [hv, hl, nI_ltI (by omega) (by omega)] at y
      refine And.intro (fun w => ⟨trivial, ?_⟩) (fun w => bad (fun q => ?_))
      · have w : v ≤ h1 := w
        rw [hv, hh, nI_leI (by omega) (by omega)] at w
        have aa : clA I (x2 I 5 11 (I 5 11 + 1)) := clA.rf.put (by decide) (by decide)
        refine hok (f p) (p + 1) ?_ _ v aa ⟨hF.ag aa, ?_, h12, h13⟩ hv
        · unfold sSml
          rw [if_pos (by omega), if_pos ⟨by omega, w⟩]
        · show I 5 11 + 1 = _
          rw [h11, nI_1]
      · have w : ¬ v ≤ h1 := w
        rw [hv, hh, nI_leI (by omega) (by omega)] at w
        omega
  · have z : ¬ I 5 11 < I 1 1 := z
    rw [h11, hF.2, nI_ltI (by omega) (by omega)] at z
    refine cl_fail ⟨trivial, ?_⟩
    refine hbad 1 p ?_ _ ((clA.rf.put (by decide) (by decide)).put (by decide) (by decide)) (clX.put hF clA.rf rfl h11)
    unfold sSml
    rw [if_neg (by omega)]
theorem cl_readString {p : Nat} {z : Bool} {zz : Int32} (hz : (z = true ∧ zz = 1) ∨ (z = false ∧ zz = 0)) (hG : rfG f n) (hp : p ≤ n) (hS : clS f n p I)
    (hok : ∀ q, sStr f n z p = .inr q → ∀ I', clA I I' → clS f n q I' → Q (some (.int 1)) (shG X T, I', L, F))
    (hbad : ∀ c w, sStr f n z p = .inl (c, w) → ∀ I', clA I I' → clX f n c w I' → Q (some (.int 0)) (shG X T, I', L, F)) : XM xE0 (d + 1) 142 [.ref 5, .int zz] (shG X T, I, L, F) Q := by
  have hn := hG.2
  have hb := hG.1 p
  obtain ⟨hF, h11, h12, h13⟩ := hS
  have fail : ∀ c cc, cc = nI c → sStr f n z p = .inl (c, p) → Q (some (.int 0)) (shG X T, x2 (x2 I 5 12 cc) 5 13 (I 5 11), L, F) := fun c cc hc e => hbad c p e _ ((clA.rf.put (by decide) (by decide)).put (by decide) (by decide)) (clX.put hF clA.rf hc h11)
  refine XC.block [12] 60 ?_
  refine cl_at hF hG (p := p) (by omega) h11 (fun hpn v hv => ?_) (fun hpn => ?_)
  · have e : I 5 11 + 1 + v = nI (p + 1 + f p) := by rw [h11, hv, nI_1, nI_add]
    have bad : p + 1 + f p ≤ n → ¬ (f p ≤ 16 ∧ (z = true → f p ≠ 0)) → XC xE0 (d + 1) xM_142 (51, [some (.ref 5), some (.int zz), some (.int v)], [], (shG X T, I, L, F)) Q := fun h1 h2 => by
      refine XC.block [] 60 ?_
      exact cl_fail ⟨(show (0 : Int32) &&& 1 = 0 by decide), fail 4 4 rfl (by unfold sStr; rw [if_pos h1, if_neg h2])⟩
    refine XC.block [51] 60 ?_
    refine And.intro (fun c => ?_) (fun c => ?_)
    · have c : I 5 11 + 1 + v ≤ I 1 1 := c
      rw [e, hF.2, nI_leI (by omega) (by omega)] at c
      refine And.intro (fun y => bad c (fun w => ?_)) (fun y => ?_)
      · have y : v < zz := y
        rcases hz with ⟨h1, h2⟩ | ⟨h1, h2⟩
        · rw [hv, h2, show (1 : Int32) = nI 1 from rfl, nI_ltI (by omega) (by omega)] at y
          exact w.2 h1 (by omega)
        · rw [hv, h2, show (0 : Int32) = nI 0 from rfl, nI_ltI (by omega) (by omega)] at y
          omega
      · have y : ¬ v < zz := y
        refine And.intro (fun w => ⟨(show (1 : Int32) &&& 1 = 1 by decide), ?_⟩) (fun w => bad c (fun q => ?_))
        · have w : v ≤ 16 := w
          rw [hv, show (16 : Int32) = nI 16 from rfl, nI_leI (by omega) (by omega)] at w
          have aa : clA I (x2 I 5 11 (I 5 11 + (1 + v))) := clA.rf.put (by decide) (by decide)
          have hz0 : z = true → f p ≠ 0 := fun h1 h0 => y (by
            rcases hz with ⟨_, h2⟩ | ⟨h3, _⟩
            · rw [hv, h2, h0]; decide
            · rw [h3] at h1; cases h1)
          refine hok (p + 1 + f p) ?_ _ aa ⟨hF.ag aa, ?_, h12, h13⟩
          · unfold sStr
            rw [if_pos c, if_pos ⟨w, hz0⟩]
          · show I 5 11 + (1 + v) = _
            rw [← Int32.add_assoc]; exact e
        · have w : ¬ v ≤ 16 := w
          rw [hv, show (16 : Int32) = nI 16 from rfl, nI_leI (by omega) (by omega)] at w
          omega
    · have c : ¬ I 5 11 + 1 + v ≤ I 1 1 := c
      rw [e, hF.2, nI_leI (by omega) (by omega)] at c
      exact cl_fail ⟨(show (0 : Int32) &&& 1 = 0 by decide), fail 1 1 rfl (by unfold sStr; rw [if_neg c])⟩
  · refine XC.block [51] 60 ?_
    refine And.intro (fun c => ?_) (fun c => ?_)
    · have c : I 5 11 + 1 + 0 ≤ I 1 1 := c
      rw [h11, nI_1, Int32.add_zero, hF.2, nI_leI (by omega) (by omega)] at c
      omega
    · exact cl_fail ⟨(show (0 : Int32) &&& 1 = 0 by decide), fail 1 1 rfl (by unfold sStr; rw [if_neg (by omega)])⟩
end CLA
