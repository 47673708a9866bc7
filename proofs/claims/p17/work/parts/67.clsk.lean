/-! the class on paper: merges -/
theorem sNum_app {f : Nat → Nat} : ∀ (a b p : Nat), sNum f p (a + b) = sNum f p a + 256 ^ a * sNum f (p + a) b
  | 0, b, p => by
    show sNum f p (0 + b) = 0 + 1 * sNum f p b
    rw [Nat.zero_add, Nat.zero_add, Nat.one_mul]
  | a + 1, b, p => by
    have ih := sNum_app (f := f) a b (p + 1)
    rw [show a + 1 + b = (a + b) + 1 by omega]
    show f p + 256 * sNum f (p + 1) (a + b) = f p + 256 * sNum f (p + 1) a + 256 ^ (a + 1) * sNum f (p + (a + 1)) b
    rw [ih, show p + (a + 1) = p + 1 + a by omega, Nat.pow_succ, Nat.mul_add, Nat.mul_comm (256 ^ a) 256, Nat.mul_assoc]
    omega
theorem sCat_tw {f : Nat → Nat} (hf : ∀ k, f k < 256) {r p q : Nat} (hr : f r ≤ 4) (hpq : f p + f q ≤ 4) : sTw f r = (f p + f q) * 2 ^ 32 + (sNum f (p + 1) (f p) + sNum f (q + 1) (f q) * 2 ^ (8 * f p)) ↔ sCat f r p q := by
  have h1 := sTw_lt hf hr
  have hp := sNum_lt hf (f p) (p + 1)
  have hq := sNum_lt hf (f q) (q + 1)
  have e8 : 2 ^ (8 * f p) = 256 ^ (f p) := by rw [Nat.pow_mul]
  have hlt : sNum f (p + 1) (f p) + sNum f (q + 1) (f q) * 2 ^ (8 * f p) < 256 ^ (f p + f q) := by
    rw [e8, Nat.pow_add]
    have h3 : sNum f (q + 1) (f q) + 1 ≤ 256 ^ f q := hq
    have h4 := Nat.mul_le_mul_right (256 ^ f p) h3
    rw [Nat.add_mul, Nat.one_mul, Nat.mul_comm (256 ^ f q)] at h4
    omega
  have hlt2 : 256 ^ (f p + f q) ≤ 256 ^ 4 := Nat.pow_le_pow_right (by decide) hpq
  have app : f r = f p + f q → (sNum f (r + 1) (f r) = sNum f (p + 1) (f p) + sNum f (q + 1) (f q) * 2 ^ (8 * f p) ↔ ∀ i, i < f r → f (r + 1 + i) = (if i < f p then f (p + 1 + i) else f (q + 1 + i - f p))) := by
    intro e
    rw [e, sNum_app, e8, Nat.mul_comm (256 ^ f p)]
    have ha := sNum_lt hf (f p) (r + 1)
    have hpos : 0 < 256 ^ f p := Nat.two_pow_pos 0 |> fun _ => Nat.pow_pos (by decide)
    have split : (sNum f (r + 1) (f p) + sNum f (r + 1 + f p) (f q) * 256 ^ f p = sNum f (p + 1) (f p) + sNum f (q + 1) (f q) * 256 ^ f p) ↔ (sNum f (r + 1) (f p) = sNum f (p + 1) (f p) ∧ sNum f (r + 1 + f p) (f q) = sNum f (q + 1) (f q)) := by
      constructor
      · intro h
        have m := congrArg (· % 256 ^ f p) h
        have m : (sNum f (r + 1) (f p) + sNum f (r + 1 + f p) (f q) * 256 ^ f p) % 256 ^ f p = (sNum f (p + 1) (f p) + sNum f (q + 1) (f q) * 256 ^ f p) % 256 ^ f p := m
        rw [Nat.add_mul_mod_self_right, Nat.add_mul_mod_self_right, Nat.mod_eq_of_lt ha, Nat.mod_eq_of_lt hp] at m
        refine ⟨m, ?_⟩
        rw [m] at h
        exact Nat.eq_of_mul_eq_mul_right hpos (Nat.add_left_cancel h)
      · rintro ⟨a, b⟩
        rw [a, b]
    rw [split, sNum_inj hf, sNum_inj hf]
    constructor
    · rintro ⟨a, b⟩ i hi
      by_cases c : i < f p
      · rw [if_pos c]; exact a i c
      · rw [if_neg c]
        have := b (i - f p) (by omega)
        rw [show r + 1 + f p + (i - f p) = r + 1 + i by omega, show q + 1 + (i - f p) = q + 1 + i - f p by omega] at this
        exact this
    · intro h
      refine ⟨fun i hi => ?_, fun i hi => ?_⟩
      · have := h i (by omega)
        rw [if_pos hi] at this
        exact this
      · have := h (f p + i) (by omega)
        rw [if_neg (by omega), show r + 1 + (f p + i) = r + 1 + f p + i by omega, show q + 1 + (f p + i) - f p = q + 1 + i by omega] at this
        exact this
  unfold sTw at h1 ⊢
  unfold sCat
  constructor
  · intro h
    have e : f r = f p + f q := by omega
    exact ⟨e, (app e).mp (by omega)⟩
  · rintro ⟨e, h⟩
    have := (app e).mpr h
    rw [this, e]
theorem cl_shr32 {x : Nat} (hx : x < 2 ^ 63) : ((lN x).toUInt64 >>> ((32 : Int32).toInt64.toUInt64 &&& Int64.toUInt64 63)).toInt64 = lN (x / 2 ^ 32) := by
  apply Int64.toBitVec_inj.mp
  apply BitVec.eq_of_toNat_eq
  show ((lN x).toUInt64 >>> ((32 : Int32).toInt64.toUInt64 &&& Int64.toUInt64 63)).toNat = (x / 2 ^ 32) % 2 ^ 64
  have h2 : (lN x).toUInt64.toNat = x := by
    show x % 2 ^ 64 = x
    omega
  rw [UInt64.toNat_shiftRight, h2, show ((32 : Int32).toInt64.toUInt64 &&& Int64.toUInt64 63).toNat % 64 = 32 by decide, Nat.shiftRight_eq_div_pow]
  omega
theorem cl_and32 {x : Nat} (hx : x < 2 ^ 63) : lN x &&& 4294967295 = lN (x % 2 ^ 32) := by
  apply Int64.toBitVec_inj.mp
  apply BitVec.eq_of_toNat_eq
  rw [Int64.toBitVec_and, BitVec.toNat_and]
  show x % 2 ^ 64 &&& (2 ^ 32 - 1) = (x % 2 ^ 32) % 2 ^ 64
  rw [Nat.and_two_pow_sub_one_eq_mod]
  omega
theorem cl_orL {m : Nat} (hm : m = 8 ∨ m = 16 ∨ m = 24) {s b : Nat} (hs : s < 2 ^ m) (hb : b < 2 ^ (32 - m)) : lN s ||| lN b <<< ((nI m).toInt64 &&& 63) = lN (s + b * 2 ^ m) := by
  apply Int64.toBitVec_inj.mp
  apply BitVec.eq_of_toNat_eq
  have e : (((nI m).toInt64 &&& 63).toBitVec.smod 64) = BitVec.ofNat 64 m := by
    rcases hm with rfl | rfl | rfl <;> decide
  rw [Int64.toBitVec_or, BitVec.toNat_or, Int64.toBitVec_shiftLeft, e, BitVec.shiftLeft_eq', BitVec.toNat_shiftLeft]
  show s % 2 ^ 64 ||| (b % 2 ^ 64) <<< (m % 2 ^ 64) % 2 ^ 64 = (s + b * 2 ^ m) % 2 ^ 64
  have hm64 : m % 2 ^ 64 = m := by omega
  have key : s ||| b <<< m = s + b * 2 ^ m := by
    rw [Nat.or_comm, ← Nat.shiftLeft_add_eq_or_of_lt hs, Nat.shiftLeft_eq, Nat.add_comm]
  have hb32 : b < 2 ^ 32 := Nat.lt_of_lt_of_le hb (Nat.pow_le_pow_right (by decide) (by omega))
  have hb64 : b % 2 ^ 64 = b := by omega
  have hp : 2 ^ m ≤ 16777216 := by rcases hm with rfl | rfl | rfl <;> decide
  have hs64 : s % 2 ^ 64 = s := by omega
  have hmul : b * 2 ^ m ≤ 2 ^ 32 * 16777216 := Nat.mul_le_mul (by omega) hp
  have hk : s + b * 2 ^ m < 2 ^ 64 := by omega
  have hsh : b <<< m % 2 ^ 64 = b <<< m := by
    rw [Nat.shiftLeft_eq]; omega
  rw [hm64, hb64, hs64, hsh, key, Nat.mod_eq_of_lt hk]
section CLL_a
variable {X : List (Option Nat)} {T : List xS} {f : Nat → Nat} {n k : Nat} {I J : Nat → Nat → Int32} {L : Nat → Nat → Int64} {F : Nat → Nat → UInt32} {d : Nat} {Q : xP}
theorem cl_len_a {w : Nat → Nat} {i : Nat} (hi : i < 16) (hw : L 41 i = lN (w i)) (hw2 : w i < 2 ^ 63) {a : Int32} (ha : a = nI i) (hQ : ∀ v, v = nI (w i / 2 ^ 32) → Q (some (.int v)) (shG X (md1 T), I, L, F)) : XM xE0 d 163 [.ref 40, .int a] (shG X (md1 T), I, L, F) Q := by
  refine XC.block [] 60 ?_
  refine And.intro (rf_in ha (by omega) (by decide)) ⟨trivial, hQ _ ?_⟩
  show ((L 41 a.toNatClampNeg).toUInt64 >>> ((32 : Int32).toInt64.toUInt64 &&& Int64.toUInt64 63)).toInt64.toInt32 = _
  rw [ha, nI_clamp (by omega), hw, cl_shr32 hw2, lN_i]
theorem cl_oct_a {w : Nat → Nat} {i : Nat} (hi : i < 16) (hw : L 41 i = lN (w i)) (hw2 : w i < 2 ^ 63) {a : Int32} (ha : a = nI i) (hQ : ∀ v, v = lN (w i % 2 ^ 32) → Q (some (.long v)) (shG X (md1 T), I, L, F)) : XM xE0 d 164 [.ref 40, .int a] (shG X (md1 T), I, L, F) Q := by
  refine XC.block [] 60 ?_
  refine And.intro (rf_in ha (by omega) (by decide)) ⟨trivial, hQ _ ?_⟩
  show L 41 a.toNatClampNeg &&& 4294967295 = _
  rw [ha, nI_clamp (by omega), hw, cl_and32 hw2]
/-- the TOKEN of both -/
theorem cl_join_a (hG : rfG f n) {K : Nat → Nat} {c a b : Nat} (hc : c ≤ 16) (h4 : I 40 4 = nI c) (hw : ∀ i, i < c → L 41 i = lN (sTw f (K i)) ∧ 1 ≤ f (K i) ∧ f (K i) ≤ 4) (ha : a < c) (hb : b < c) {a1 b1 : Int32} (ha1 : a1 = nI a) (hb1 : b1 = nI b) (hQ : ∀ v, v = rfO (sTgt f K (K a) (K b) c 0) → Q (some (.int v)) (shG X (md1 T), I, L, F)) : XM xE0 (d + 2) 168 [.ref 40, .int a1, .int b1] (shG X (md1 T), I, L, F) Q := by
  obtain ⟨wa1, wa2, wa3⟩ := hw a ha
  obtain ⟨wb1, wb2, wb3⟩ := hw b hb
  have ta := sTw_lt hG.1 wa3
  have tb := sTw_lt hG.1 wb3
  have da : sTw f (K a) / 2 ^ 32 = f (K a) := by
    unfold sTw
    omega
  have db : sTw f (K b) / 2 ^ 32 = f (K b) := by
    unfold sTw
    omega
  have ma : sTw f (K a) % 2 ^ 32 = sNum f (K a + 1) (f (K a)) := by
    unfold sTw
    omega
  have mb : sTw f (K b) % 2 ^ 32 = sNum f (K b + 1) (f (K b)) := by
    unfold sTw
    omega
  have hlen : ∀ {d : Nat} {Q : xP} (i : Nat) (x : Int32), i < c → x = nI i → (∀ v, v = nI (f (K i)) → Q (some (.int v)) (shG X (md1 T), I, L, F)) → XM xE0 d 163 [.ref 40, .int x] (shG X (md1 T), I, L, F) Q := by
    intro d Q i x hi hx hQ
    obtain ⟨w1, w2, w3⟩ := hw i hi
    have t := sTw_lt hG.1 w3
    refine cl_len_a (w := fun i => sTw f (K i)) (by omega) w1 (show sTw f (K i) < 2 ^ 63 by omega) hx (fun v hv => hQ v ?_)
    rw [hv]
    have e : sTw f (K i) / 2 ^ 32 = f (K i) := by
      have := t.1
      unfold sTw
      omega
    show nI (sTw f (K i) / 2 ^ 32) = _
    rw [e]
  refine XC.block [12] 60 ?_
  refine hlen a a1 ha ha1 (fun v1 hv1 => ?_)
  refine hlen b b1 hb hb1 (fun v2 hv2 => ?_)
  have go : ∀ s, s = nI (f (K a) + f (K b)) → XC xE0 (d + 2) xM_168 (12, [some (.ref 40), some (.int a1), some (.int b1), some (.int s)], [], (shG X (md1 T), I, L, F)) Q := by
    intro s hs
    refine XC.block [19] 60 ?_
    refine And.intro (fun z => ?_) (fun z => ⟨trivial, hQ _ ?_⟩)
    · have z : s ≤ 4 := z
      rw [hs, show (4 : Int32) = nI 4 from rfl, nI_leI (by omega) (by omega)] at z
      refine XC.block [] 60 ?_
      refine cl_oct_a (w := fun i => sTw f (K i)) (i := a) (by omega) wa1 (show sTw f (K a) < 2 ^ 63 by omega) ha1 (fun u1 hu1 => ?_)
      refine cl_oct_a (w := fun i => sTw f (K i)) (i := b) (by omega) wb1 (show sTw f (K b) < 2 ^ 63 by omega) hb1 (fun u2 hu2 => ?_)
      refine hlen a a1 ha ha1 (fun v3 hv3 => ?_)
      have hpa := sNum_lt hG.1 (f (K a)) (K a + 1)
      have hpb := sNum_lt hG.1 (f (K b)) (K b + 1)
      have e8 : 2 ^ (8 * f (K a)) = 256 ^ f (K a) := by rw [Nat.pow_mul]
      have hb32 : sNum f (K b + 1) (f (K b)) < 2 ^ (32 - 8 * f (K a)) := by
        refine Nat.lt_of_lt_of_le hpb ?_
        rw [show (256 : Nat) = 2 ^ 8 from rfl, ← Nat.pow_mul]
        exact Nat.pow_le_pow_right (by decide) (by omega)
      have hsum : sNum f (K a + 1) (f (K a)) + sNum f (K b + 1) (f (K b)) * 2 ^ (8 * f (K a)) < 2 ^ 32 := by
        have h3 : sNum f (K b + 1) (f (K b)) + 1 ≤ 2 ^ (32 - 8 * f (K a)) := hb32
        have h5 := Nat.mul_le_mul_right (2 ^ (8 * f (K a))) h3
        rw [← Nat.pow_add, show 32 - 8 * f (K a) + 8 * f (K a) = 32 by omega, Nat.add_mul, Nat.one_mul] at h5
        rw [← e8] at hpa
        omega
      have ev : u1 ||| u2 <<< ((8 * v3).toInt64 &&& 63) = lN (sNum f (K a + 1) (f (K a)) + sNum f (K b + 1) (f (K b)) * 2 ^ (8 * f (K a))) := by
        have hu1 : u1 = lN (sTw f (K a) % 2 ^ 32) := hu1
        have hu2 : u2 = lN (sTw f (K b) % 2 ^ 32) := hu2
        rw [hu1, hu2, hv3, ma, mb, show (8 : Int32) = nI 8 from rfl, nI_mul, cl_orL (by omega) (by rw [e8]; exact hpa) hb32]
      refine cl_find_a (w := fun i => sTw f (K i)) hc h4 (fun i hi => ⟨(hw i hi).1, ?_⟩) (m := f (K a) + f (K b)) (by omega) hsum ev hs (fun v hv => ⟨trivial, hQ v ?_⟩)
      · have := sTw_lt hG.1 (hw i hi).2.2
        show sTw f (K i) < 2 ^ 63
        omega
      · rw [hv]
        have key : ∀ u j, j + u ≤ c → sFw (fun i => sTw f (K i)) ((f (K a) + f (K b)) * 2 ^ 32 + (sNum f (K a + 1) (f (K a)) + sNum f (K b + 1) (f (K b)) * 2 ^ (8 * f (K a)))) u j = sTgt f K (K a) (K b) u j := by
          intro u
          induction u with
          | zero => intro j hj; rfl
          | succ u ih =>
            intro j hj
            show (bif sTw f (K j) == _ then some j else _) = (bif sCatB f (K j) (K a) (K b) then some j else _)
            rw [ih (j + 1) (by omega)]
            have hiff := sCat_tw hG.1 (r := K j) (p := K a) (q := K b) (hw j (by omega)).2.2 z
            have : (sTw f (K j) == (f (K a) + f (K b)) * 2 ^ 32 + (sNum f (K a + 1) (f (K a)) + sNum f (K b + 1) (f (K b)) * 2 ^ (8 * f (K a)))) = sCatB f (K j) (K a) (K b) := by
              cases hcb : sCatB f (K j) (K a) (K b) with
              | true => rw [hiff.mpr (sCatB_iff.mp hcb)]; exact beq_self_eq_true _
              | false =>
                cases hbe : (sTw f (K j) == (f (K a) + f (K b)) * 2 ^ 32 + (sNum f (K a + 1) (f (K a)) + sNum f (K b + 1) (f (K b)) * 2 ^ (8 * f (K a)))) with
                | false => rfl
                | true =>
                  have := sCatB_iff.mpr (hiff.mp (eq_of_beq hbe))
                  rw [hcb] at this
                  cases this
            rw [this]
        rw [key c 0 (by omega)]
    · have z : ¬ s ≤ 4 := z
      rw [hs, show (4 : Int32) = nI 4 from rfl, nI_leI (by omega) (by omega)] at z
      have key : ∀ u j, j + u ≤ c → sTgt f K (K a) (K b) u j = none := by
        intro u
        induction u with
        | zero => intro j hj; rfl
        | succ u ih =>
          intro j hj
          show (bif sCatB f (K j) (K a) (K b) then some j else _) = none
          have : sCatB f (K j) (K a) (K b) = false := by
            cases hcb : sCatB f (K j) (K a) (K b) with
            | false => rfl
            | true =>
              have h1 := (sCatB_iff.mp hcb).1
              have h2 := (hw j (by omega)).2.2
              omega
          rw [this]
          exact ih (j + 1) (by omega)
      rw [key c 0 (by omega)]
      rfl
  exact go _ (show v1 + v2 = _ by rw [hv1, hv2, nI_add])
end CLL_a
section CLL_b
variable {X : List (Option Nat)} {T : List xS} {f : Nat → Nat} {n k : Nat} {I J : Nat → Nat → Int32} {L : Nat → Nat → Int64} {F : Nat → Nat → UInt32} {d : Nat} {Q : xP}
theorem cl_len_b {w : Nat → Nat} {i : Nat} (hi : i < 16) (hw : L 54 i = lN (w i)) (hw2 : w i < 2 ^ 63) {a : Int32} (ha : a = nI i) (hQ : ∀ v, v = nI (w i / 2 ^ 32) → Q (some (.int v)) (shG X (md2 T), I, L, F)) : XM xE0 d 163 [.ref 53, .int a] (shG X (md2 T), I, L, F) Q := by
  refine XC.block [] 60 ?_
  refine And.intro (rf_in ha (by omega) (by decide)) ⟨trivial, hQ _ ?_⟩
  show ((L 54 a.toNatClampNeg).toUInt64 >>> ((32 : Int32).toInt64.toUInt64 &&& Int64.toUInt64 63)).toInt64.toInt32 = _
  rw [ha, nI_clamp (by omega), hw, cl_shr32 hw2, lN_i]
theorem cl_oct_b {w : Nat → Nat} {i : Nat} (hi : i < 16) (hw : L 54 i = lN (w i)) (hw2 : w i < 2 ^ 63) {a : Int32} (ha : a = nI i) (hQ : ∀ v, v = lN (w i % 2 ^ 32) → Q (some (.long v)) (shG X (md2 T), I, L, F)) : XM xE0 d 164 [.ref 53, .int a] (shG X (md2 T), I, L, F) Q := by
  refine XC.block [] 60 ?_
  refine And.intro (rf_in ha (by omega) (by decide)) ⟨trivial, hQ _ ?_⟩
  show L 54 a.toNatClampNeg &&& 4294967295 = _
  rw [ha, nI_clamp (by omega), hw, cl_and32 hw2]
/-- the TOKEN of both -/
theorem cl_join_b (hG : rfG f n) {K : Nat → Nat} {c a b : Nat} (hc : c ≤ 16) (h4 : I 53 4 = nI c) (hw : ∀ i, i < c → L 54 i = lN (sTw f (K i)) ∧ 1 ≤ f (K i) ∧ f (K i) ≤ 4) (ha : a < c) (hb : b < c) {a1 b1 : Int32} (ha1 : a1 = nI a) (hb1 : b1 = nI b) (hQ : ∀ v, v = rfO (sTgt f K (K a) (K b) c 0) → Q (some (.int v)) (shG X (md2 T), I, L, F)) : XM xE0 (d + 2) 168 [.ref 53, .int a1, .int b1] (shG X (md2 T), I, L, F) Q := by
  obtain ⟨wa1, wa2, wa3⟩ := hw a ha
  obtain ⟨wb1, wb2, wb3⟩ := hw b hb
  have ta := sTw_lt hG.1 wa3
  have tb := sTw_lt hG.1 wb3
  have da : sTw f (K a) / 2 ^ 32 = f (K a) := by
    unfold sTw
    omega
  have db : sTw f (K b) / 2 ^ 32 = f (K b) := by
    unfold sTw
    omega
  have ma : sTw f (K a) % 2 ^ 32 = sNum f (K a + 1) (f (K a)) := by
    unfold sTw
    omega
  have mb : sTw f (K b) % 2 ^ 32 = sNum f (K b + 1) (f (K b)) := by
    unfold sTw
    omega
  have hlen : ∀ {d : Nat} {Q : xP} (i : Nat) (x : Int32), i < c → x = nI i → (∀ v, v = nI (f (K i)) → Q (some (.int v)) (shG X (md2 T), I, L, F)) → XM xE0 d 163 [.ref 53, .int x] (shG X (md2 T), I, L, F) Q := by
    intro d Q i x hi hx hQ
    obtain ⟨w1, w2, w3⟩ := hw i hi
    have t := sTw_lt hG.1 w3
    refine cl_len_b (w := fun i => sTw f (K i)) (by omega) w1 (show sTw f (K i) < 2 ^ 63 by omega) hx (fun v hv => hQ v ?_)
    rw [hv]
    have e : sTw f (K i) / 2 ^ 32 = f (K i) := by
      have := t.1
      unfold sTw
      omega
    show nI (sTw f (K i) / 2 ^ 32) = _
    rw [e]
  refine XC.block [12] 60 ?_
  refine hlen a a1 ha ha1 (fun v1 hv1 => ?_)
  refine hlen b b1 hb hb1 (fun v2 hv2 => ?_)
  have go : ∀ s, s = nI (f (K a) + f (K b)) → XC xE0 (d + 2) xM_168 (12, [some (.ref 53), some (.int a1), some (.int b1), some (.int s)], [], (shG X (md2 T), I, L, F)) Q := by
    intro s hs
    refine XC.block [19] 60 ?_
    refine And.intro (fun z => ?_) (fun z => ⟨trivial, hQ _ ?_⟩)
    · have z : s ≤ 4 := z
      rw [hs, show (4 : Int32) = nI 4 from rfl, nI_leI (by omega) (by omega)] at z
      refine XC.block [] 60 ?_
      refine cl_oct_b (w := fun i => sTw f (K i)) (i := a) (by omega) wa1 (show sTw f (K a) < 2 ^ 63 by omega) ha1 (fun u1 hu1 => ?_)
      refine cl_oct_b (w := fun i => sTw f (K i)) (i := b) (by omega) wb1 (show sTw f (K b) < 2 ^ 63 by omega) hb1 (fun u2 hu2 => ?_)
      refine hlen a a1 ha ha1 (fun v3 hv3 => ?_)
      have hpa := sNum_lt hG.1 (f (K a)) (K a + 1)
      have hpb := sNum_lt hG.1 (f (K b)) (K b + 1)
      have e8 : 2 ^ (8 * f (K a)) = 256 ^ f (K a) := by rw [Nat.pow_mul]
      have hb32 : sNum f (K b + 1) (f (K b)) < 2 ^ (32 - 8 * f (K a)) := by
        refine Nat.lt_of_lt_of_le hpb ?_
        rw [show (256 : Nat) = 2 ^ 8 from rfl, ← Nat.pow_mul]
        exact Nat.pow_le_pow_right (by decide) (by omega)
      have hsum : sNum f (K a + 1) (f (K a)) + sNum f (K b + 1) (f (K b)) * 2 ^ (8 * f (K a)) < 2 ^ 32 := by
        have h3 : sNum f (K b + 1) (f (K b)) + 1 ≤ 2 ^ (32 - 8 * f (K a)) := hb32
        have h5 := Nat.mul_le_mul_right (2 ^ (8 * f (K a))) h3
        rw [← Nat.pow_add, show 32 - 8 * f (K a) + 8 * f (K a) = 32 by omega, Nat.add_mul, Nat.one_mul] at h5
        rw [← e8] at hpa
        omega
      have ev : u1 ||| u2 <<< ((8 * v3).toInt64 &&& 63) = lN (sNum f (K a + 1) (f (K a)) + sNum f (K b + 1) (f (K b)) * 2 ^ (8 * f (K a))) := by
        have hu1 : u1 = lN (sTw f (K a) % 2 ^ 32) := hu1
        have hu2 : u2 = lN (sTw f (K b) % 2 ^ 32) := hu2
        rw [hu1, hu2, hv3, ma, mb, show (8 : Int32) = nI 8 from rfl, nI_mul, cl_orL (by omega) (by rw [e8]; exact hpa) hb32]
      refine cl_find_b (w := fun i => sTw f (K i)) hc h4 (fun i hi => ⟨(hw i hi).1, ?_⟩) (m := f (K a) + f (K b)) (by omega) hsum ev hs (fun v hv => ⟨trivial, hQ v ?_⟩)
      · have := sTw_lt hG.1 (hw i hi).2.2
        show sTw f (K i) < 2 ^ 63
        omega
      · rw [hv]
        have key : ∀ u j, j + u ≤ c → sFw (fun i => sTw f (K i)) ((f (K a) + f (K b)) * 2 ^ 32 + (sNum f (K a + 1) (f (K a)) + sNum f (K b + 1) (f (K b)) * 2 ^ (8 * f (K a)))) u j = sTgt f K (K a) (K b) u j := by
          intro u
          induction u with
          | zero => intro j hj; rfl
          | succ u ih =>
            intro j hj
            show (bif sTw f (K j) == _ then some j else _) = (bif sCatB f (K j) (K a) (K b) then some j else _)
            rw [ih (j + 1) (by omega)]
            have hiff := sCat_tw hG.1 (r := K j) (p := K a) (q := K b) (hw j (by omega)).2.2 z
            have : (sTw f (K j) == (f (K a) + f (K b)) * 2 ^ 32 + (sNum f (K a + 1) (f (K a)) + sNum f (K b + 1) (f (K b)) * 2 ^ (8 * f (K a)))) = sCatB f (K j) (K a) (K b) := by
              cases hcb : sCatB f (K j) (K a) (K b) with
              | true => rw [hiff.mpr (sCatB_iff.mp hcb)]; exact beq_self_eq_true _
              | false =>
                cases hbe : (sTw f (K j) == (f (K a) + f (K b)) * 2 ^ 32 + (sNum f (K a + 1) (f (K a)) + sNum f (K b + 1) (f (K b)) * 2 ^ (8 * f (K a)))) with
                | false => rfl
                | true =>
                  have := sCatB_iff.mpr (hiff.mp (eq_of_beq hbe))
                  rw [hcb] at this
                  cases this
            rw [this]
        rw [key c 0 (by omega)]
    · have z : ¬ s ≤ 4 := z
      rw [hs, show (4 : Int32) = nI 4 from rfl, nI_leI (by omega) (by omega)] at z
      have key : ∀ u j, j + u ≤ c → sTgt f K (K a) (K b) u j = none := by
        intro u
        induction u with
        | zero => intro j hj; rfl
        | succ u ih =>
          intro j hj
          show (bif sCatB f (K j) (K a) (K b) then some j else _) = none
          have : sCatB f (K j) (K a) (K b) = false := by
            cases hcb : sCatB f (K j) (K a) (K b) with
            | false => rfl
            | true =>
              have h1 := (sCatB_iff.mp hcb).1
              have h2 := (hw j (by omega)).2.2
              omega
          rw [this]
          exact ih (j + 1) (by omega)
      rw [key c 0 (by omega)]
      rfl
  exact go _ (show v1 + v2 = _ by rw [hv1, hv2, nI_add])
end CLL_b
