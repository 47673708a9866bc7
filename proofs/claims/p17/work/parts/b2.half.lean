/-! HALVES: class and reference -/
theorem frep_c : ∀ k c, c < 2 ^ 24 → k ≤ 253 → frep (c * 2 ^ k)
  | 0, c, hc, _ => by
    refine ⟨c, by omega, ?_⟩
    unfold Jvm.FP.Core.unitsOf
    rw [Jvm.FP.Core.tails_b32, Nat.pow_zero, Nat.mul_one]
    split
    · rfl
    · rename_i h
      rw [show c / 2 ^ 23 = 1 by omega, show c % 2 ^ 23 = c - 2 ^ 23 by omega]
      show (2 ^ 23 + (c - 2 ^ 23)) * 2 ^ 0 = c
      rw [Nat.pow_zero, Nat.mul_one]
      omega
  | k + 1, c, hc, hk => by
    rcases Nat.lt_or_ge c (2 ^ 23) with h | h
    · have ih := frep_c k (2 * c) (by omega) (by omega)
      have e : 2 * c * 2 ^ k = c * 2 ^ (k + 1) := by
        rw [Nat.pow_succ, Nat.mul_comm 2 c, Nat.mul_assoc, Nat.mul_comm 2]
      rw [← e]; exact ih
    · refine ⟨(k + 2) * 2 ^ 23 + (c - 2 ^ 23), by omega, ?_⟩
      unfold Jvm.FP.Core.unitsOf
      rw [Jvm.FP.Core.tails_b32, if_neg (by omega), show ((k + 2) * 2 ^ 23 + (c - 2 ^ 23)) % 2 ^ 23 = c - 2 ^ 23 by omega, show ((k + 2) * 2 ^ 23 + (c - 2 ^ 23)) / 2 ^ 23 = k + 2 by omega, show 2 ^ 23 + (c - 2 ^ 23) = c by omega]
      rfl
theorem fpos_iff {x : UInt32} {sg : Bool} {v w : Nat} {e : Int} (h : Jvm.FP.Core.val32 x = Jvm.FP.Core.roundRatio Jvm.FP.Core.b32 sg v w e) : sg = decide (2 ^ 31 ≤ x.toNat) := by
  have hn : Jvm.FP.Core.val32 x ≠ .nan := by rw [h]; exact Jvm.FP.Core.roundRatio_ne_nan _ _ _ _ _
  have hs := Jvm.FP.Core.sgn_bits32 hn
  rw [h, Jvm.FP.Core.sgn_roundRatio] at hs
  exact hs
theorem l2f_v (u : Int64) : Jvm.FP.Core.val32 (FP.l2f u) = Jvm.FP.Core.roundRatio Jvm.FP.Core.b32 (decide (u.toInt < 0)) u.toInt.natAbs 1 0 := Jvm.FP.Core.val32_l2f u
theorem l2f_u {U : Nat} (hU : U < 2 ^ 63) (hr : frep (U * 2 ^ 149)) : fu (FP.l2f (lN U)) = U * 2 ^ 149 ∧ fpos (FP.l2f (lN U)) := by
  have hv := l2f_v (lN U)
  rw [pk_lT hU] at hv
  have hv : Jvm.FP.Core.val32 (FP.l2f (lN U)) = Jvm.FP.Core.roundRatio Jvm.FP.Core.b32 false U 1 0 := by
    rw [hv, Int.natAbs_natCast, show decide ((U : Int) < 0) = false from decide_eq_false (by omega)]
  have hv' : Jvm.FP.Core.decode Jvm.FP.Core.b32 (FP.l2f (lN U)).toNat = Jvm.FP.Core.roundRatio Jvm.FP.Core.b32 false U 1 0 := hv
  have iu : Jvm.FP.Core.inUnits U 0 Jvm.FP.Core.b32.qmin = U * 2 ^ 149 := rfl
  have q0 : Jvm.FP.Core.b32.qmin ≤ 0 := by decide
  refine ⟨?_, fpos_of hv⟩
  obtain ⟨m, hm, em⟩ := hr
  rw [← em] at iu ⊢
  apply Nat.le_antisymm
  · refine fu_le_iff.mpr ?_
    rw [← Jvm.FP.Core.mag_toNat32]
    refine Jvm.FP.Core.mag_le Jvm.FP.Core.good_b32 hv' (by decide) (e0 := Jvm.FP.Core.b32.qmin) (by omega) q0 ?_
    rw [Int.sub_self, Int.toNat_zero, Nat.pow_zero, Nat.mul_one, Nat.mul_one, iu]
    exact Nat.le_refl _
  · refine Jvm.FP.Core.unitsOf_le_iff.mpr ?_
    rw [← Jvm.FP.Core.mag_toNat32]
    refine Jvm.FP.Core.mag_ge Jvm.FP.Core.good_b32 hv' (by decide) (e0 := Jvm.FP.Core.b32.qmin) (by omega) q0 (by rw [Jvm.FP.Core.infBits_b32]; exact hm) ?_
    rw [Int.sub_self, Int.toNat_zero, Nat.pow_zero, Nat.mul_one, Nat.mul_one, iu]
    exact Nat.le_refl _
theorem f24 : fu 1266679808 = 2 ^ 173 := by decide +kernel
theorem f24F : fF 1266679808 := ffin_of (j := 173) (by rw [f24]; exact Nat.le_refl _) (by decide)
theorem rfRe_u {U : Nat} (hU : U < 2 ^ 63) (h1 : frep (U * 2 ^ 149)) (h2 : frep (U * 2 ^ 125)) : fu (rfRe (lN U)) = U * 2 ^ 125 ∧ fpos (rfRe (lN U)) ∧ fF (FP.l2f (lN U)) := by
  obtain ⟨u1, u2⟩ := l2f_u hU h1
  have fl : fF (FP.l2f (lN U)) := by
    refine ffin_of (j := 212) ?_ (by decide)
    rw [u1, show (2 : Nat) ^ 212 = 2 ^ 63 * 2 ^ 149 by rw [← Nat.pow_add]]
    exact Nat.mul_le_mul_right _ (by omega)
  have n0 : fu 1266679808 ≠ 0 := by rw [f24]; exact Nat.ne_of_gt (Nat.two_pow_pos _)
  have e : fu (FP.l2f (lN U)) * 2 ^ 149 = U * 2 ^ 125 * fu 1266679808 := by
    rw [u1, f24, Nat.mul_assoc, Nat.mul_assoc, ← Nat.pow_add]
  have p24 : fpos 1266679808 := by show (1266679808 : UInt32).toNat < 2 ^ 31; decide
  exact ⟨Nat.le_antisymm (fdiv_le fl f24F n0 h2 (Nat.le_of_eq e)) (fdiv_ge fl f24F n0 h2 (Nat.le_of_eq e.symm)), fdiv_pos fl f24F n0 ⟨fun _ => p24, fun _ => u2⟩, fl⟩
theorem rfRe_n {U : Nat} (hU : U < 2 ^ 63) (h0 : U ≠ 0) (fl : fF (FP.l2f (lN U))) (fx : fF (rfRe (lN U))) : rfRe (-(lN U)) = FP.fneg (rfRe (lN U)) := by
  have tn : (-(lN U)).toInt = -(U : Int) := Int64.toInt_neg_ofNat_of_le (by omega)
  have hv := l2f_v (-(lN U))
  rw [tn] at hv
  have hv : Jvm.FP.Core.val32 (FP.l2f (-(lN U))) = Jvm.FP.Core.roundRatio Jvm.FP.Core.b32 true U 1 0 := by
    rw [hv, Int.natAbs_neg, Int.natAbs_natCast, show decide (-(U : Int) < 0) = true from decide_eq_true (by omega)]
  have hp := l2f_v (lN U)
  rw [pk_lT hU] at hp
  have hp : Jvm.FP.Core.val32 (FP.l2f (lN U)) = Jvm.FP.Core.roundRatio Jvm.FP.Core.b32 false U 1 0 := by
    rw [hp, Int.natAbs_natCast, show decide ((U : Int) < 0) = false from decide_eq_false (by omega)]
  have e1 : FP.l2f (-(lN U)) = FP.fneg (FP.l2f (lN U)) := by
    refine Jvm.FP.Core.val32_inj (by rw [hv]; exact Jvm.FP.Core.roundRatio_ne_nan _ _ _ _ _) ?_
    rw [hv, Jvm.FP.val32_fneg, hp, Jvm.FP.Core.negate_roundRatio]
    rfl
  show FP.fdiv (FP.l2f (-(lN U))) 1266679808 = FP.fneg (FP.fdiv (FP.l2f (lN U)) 1266679808)
  rw [e1]
  have v1 : Jvm.FP.Core.val32 (FP.fdiv (FP.fneg (FP.l2f (lN U))) 1266679808) = Jvm.FP.Core.val32 (FP.fneg (FP.fdiv (FP.l2f (lN U)) 1266679808)) := by
    have a1 : Jvm.FP.Core.val32 (FP.fdiv (FP.fneg (FP.l2f (lN U))) 1266679808) = _ := Jvm.FP.Core.val32_fdiv _ _
    have a2 : Jvm.FP.Core.val32 (FP.fdiv (FP.l2f (lN U)) 1266679808) = _ := Jvm.FP.Core.val32_fdiv _ _
    rw [a1, Jvm.FP.val32_fneg, Jvm.FP.val32_fneg, a2, Jvm.FP.Core.quotient_negate]
  exact Jvm.FP.Core.val32_inj (by rw [v1]; exact (fneg_fin fx).ne_nan) v1
/-- a float's number in units of the least -/
def sv (x : UInt32) : Int := if 2 ^ 31 ≤ x.toNat then -(fu x : Int) else (fu x : Int)
theorem fkey_sv {a b : UInt32} : Jvm.FP.Core.fkey a < Jvm.FP.Core.fkey b ↔ sv a < sv b := by
  have ha := a.toNat_lt
  have hb := b.toNat_lt
  have l1 : fu a < fu b ↔ a.toNat % 2 ^ 31 < b.toNat % 2 ^ 31 := Jvm.FP.Core.unitsOf_lt_iff
  have l2 : fu b < fu a ↔ b.toNat % 2 ^ 31 < a.toNat % 2 ^ 31 := Jvm.FP.Core.unitsOf_lt_iff
  have z1 : fu a = 0 ↔ a.toNat % 2 ^ 31 = 0 := Jvm.FP.Core.unitsOf_eq_zero
  have z2 : fu b = 0 ↔ b.toNat % 2 ^ 31 = 0 := Jvm.FP.Core.unitsOf_eq_zero
  unfold sv Jvm.FP.Core.fkey
  generalize fu a = p at *
  generalize fu b = q at *
  split <;> split <;> omega
theorem sv_fz {a b : UInt32} (h : sv a = sv b) : fz a b := by
  have ha := a.toNat_lt
  have hb := b.toNat_lt
  have l1 : fu a < fu b ↔ a.toNat % 2 ^ 31 < b.toNat % 2 ^ 31 := Jvm.FP.Core.unitsOf_lt_iff
  have l2 : fu b < fu a ↔ b.toNat % 2 ^ 31 < a.toNat % 2 ^ 31 := Jvm.FP.Core.unitsOf_lt_iff
  unfold sv at h
  rcases Nat.eq_zero_or_pos (fu a) with y | y
  · refine Or.inr ⟨y, ?_⟩
    split at h <;> split at h <;> omega
  · refine Or.inl (UInt32.toNat_inj.mp ?_)
    split at h <;> split at h <;> omega
theorem sv_neg {x : UInt32} (hx : fF x) : sv (FP.fneg x) = - sv x := by
  have h1 := Jvm.FP.Core.sgn_bits32 hx.ne_nan
  have h2 := Jvm.FP.Core.sgn_bits32 (fneg_fin hx).ne_nan
  rw [Jvm.FP.val32_fneg] at h2
  obtain ⟨s, c, q, e⟩ := hx
  rw [e] at h1 h2
  have h1 : s = decide (2 ^ 31 ≤ x.toNat) := h1
  have h2 : (!s) = decide (2 ^ 31 ≤ (FP.fneg x).toNat) := h2
  unfold sv
  rw [fneg_fu]
  cases s with
  | false =>
    have g1 : ¬ 2 ^ 31 ≤ x.toNat := of_decide_eq_false h1.symm
    have g2 : 2 ^ 31 ≤ (FP.fneg x).toNat := of_decide_eq_true h2.symm
    rw [if_neg g1, if_pos g2]
  | true =>
    have g1 : 2 ^ 31 ≤ x.toNat := of_decide_eq_true h1.symm
    have g2 : ¬ 2 ^ 31 ≤ (FP.fneg x).toNat := of_decide_eq_false h2.symm
    rw [if_pos g1, if_neg g2, Int.neg_neg]
theorem sv_pos {x : UInt32} (h : fpos x) : sv x = (fu x : Int) := if_neg (show ¬ 2 ^ 31 ≤ x.toNat from Nat.not_le.mpr h)
/-- a HALF's number, in units of 2 ^ -24 -/
def hU (h : Nat) : Nat := if h / 1024 % 32 = 0 then h % 1024 else (1024 + h % 1024) * 2 ^ (h / 1024 % 32 - 1)
def hz (h : Nat) : Int := if h / 32768 = 1 then -(hU h : Int) else (hU h : Int)
theorem hU_ok {h : Nat} (he : h / 1024 % 32 ≠ 31) : hU h < 2 ^ 41 ∧ frep (hU h * 2 ^ 149) ∧ frep (hU h * 2 ^ 125) := by
  have m1 : h % 1024 < 1024 := Nat.mod_lt _ (by decide)
  unfold hU
  split
  · exact ⟨by omega, frep_c 149 _ (by omega) (by decide), frep_c 125 _ (by omega) (by decide)⟩
  · rename_i h0
    have hp : 2 ^ (h / 1024 % 32 - 1) ≤ 2 ^ 29 := Nat.pow_le_pow_right (by decide) (by omega)
    refine ⟨?_, ?_, ?_⟩
    · have := Nat.mul_le_mul (show 1024 + h % 1024 ≤ 2048 by omega) hp
      omega
    · rw [Nat.mul_assoc, ← Nat.pow_add]
      exact frep_c _ _ (by omega) (by omega)
    · rw [Nat.mul_assoc, ← Nat.pow_add]
      exact frep_c _ _ (by omega) (by omega)
theorem h_sh : ∀ j, j < 31 → ((nI (j + 1) - 1).toInt64 &&& 63).toBitVec.smod 64 = BitVec.ofNat 64 j := by decide
theorem h_shl {c j : Nat} (hc : c < 2048) (hj : j < 31) : lN c <<< ((nI (j + 1) - 1).toInt64 &&& 63) = lN (c * 2 ^ j) := by
  have hp : 2 ^ j ≤ 2 ^ 30 := Nat.pow_le_pow_right (by decide) (by omega)
  have hm : c * 2 ^ j ≤ 2048 * 2 ^ 30 := Nat.mul_le_mul (by omega) hp
  apply Int64.toBitVec_inj.mp
  apply BitVec.eq_of_toNat_eq
  rw [Int64.toBitVec_shiftLeft, h_sh j hj, BitVec.shiftLeft_eq', BitVec.toNat_shiftLeft]
  show (c % 2 ^ 64) <<< (j % 2 ^ 64) % 2 ^ 64 = (c * 2 ^ j) % 2 ^ 64
  rw [Nat.mod_eq_of_lt (show c < 2 ^ 64 by omega), Nat.mod_eq_of_lt (show j < 2 ^ 64 by omega), Nat.shiftLeft_eq]
theorem h_bits {h : Nat} (hh : h < 65536) : (nI h >>> ((10 : Int32) &&& 31)) &&& 31 = nI (h / 1024 % 32) ∧ nI h &&& 1023 = nI (h % 1024) ∧ nI h >>> ((15 : Int32) &&& 31) = nI (h / 32768) := by
  refine ⟨?_, ?_, ?_⟩
  · rw [pk_shrN (by omega) _ 10 (by decide), pk_andN (by omega) 5 (by decide)]
  · rw [pk_andN (by omega) 10 (by decide)]
  · rw [pk_shrN (by omega) _ 15 (by decide)]
theorem h_p {e m : Nat} (he : e < 31) (hm : m < 1024) : rfHp (nI e) (nI m) = lN (if e = 0 then m else (1024 + m) * 2 ^ (e - 1)) ∧ clHp (nI e) (nI m) = lN (if e = 0 then m else (1024 + m) * 2 ^ (e - 1)) := by
  have e0 : nI e = 0 ↔ e = 0 := by rw [show (0 : Int32) = nI 0 from rfl, nI_eq (by omega) (by decide)]
  have em : (nI m).toInt64 = lN m := nI_l (by omega)
  unfold rfHp clHp
  rcases Nat.eq_zero_or_pos e with y | y
  · rw [if_pos (e0.mpr y), if_pos (e0.mpr y), if_pos y]
    exact ⟨em, em⟩
  · have ne : ¬ nI e = 0 := fun w => by have := e0.mp w; omega
    have ee : e = (e - 1) + 1 := by omega
    rw [if_neg ne, if_neg ne, if_neg (by omega), em, show (1024 : Int32) = nI 1024 from rfl, nI_add, nI_l (by omega), show (1024 : Int64) = lN 1024 from rfl, show lN 1024 + lN m = lN (1024 + m) from (Int64.ofNat_add 1024 m).symm]
    have k := h_shl (c := 1024 + m) (j := e - 1) (by omega) (by omega)
    rw [← ee] at k
    exact ⟨k, k⟩
theorem h_f {h : Nat} (hh : h < 65536) (he : h / 1024 % 32 ≠ 31) : rfHf (nI h) = (if h / 32768 = 1 then -(lN (hU h)) else lN (hU h)) ∧ clRe (nI h) = (if h / 32768 = 1 then FP.fneg (rfRe (lN (hU h))) else rfRe (lN (hU h))) := by
  obtain ⟨b1, b2, b3⟩ := h_bits hh
  have hs : h / 32768 < 2 := by omega
  obtain ⟨p1, p2⟩ := h_p (e := h / 1024 % 32) (m := h % 1024) (by omega) (Nat.mod_lt _ (by decide))
  have n31 : ¬ nI (h / 1024 % 32) = 31 := by
    rw [show (31 : Int32) = nI 31 from rfl, nI_eq (by omega) (by decide)]; exact he
  have s1 : nI (h / 32768) = 1 ↔ h / 32768 = 1 := by rw [show (1 : Int32) = nI 1 from rfl, nI_eq (by omega) (by decide)]
  have sa : nI (h / 32768) &&& 1 = nI (h / 32768) := by
    rw [pk_andN (by omega) 1 (by decide)]; congr 1; omega
  refine ⟨?_, ?_⟩
  · unfold rfHf rfHs
    rw [b1, b2, b3, if_neg n31, p1]
    show (if nI (h / 32768) = 1 then -(lN (hU h)) else lN (hU h)) = _
    by_cases y : h / 32768 = 1
    · rw [if_pos y, if_pos (s1.mpr y)]
    · rw [if_neg y, if_neg (fun w => y (s1.mp w))]
  · unfold clRe
    rw [b1, b2, b3, sa, p2]
    show (if nI (h / 32768) = 1 then FP.fneg (rfRe (lN (hU h))) else rfRe (lN (hU h))) = _
    by_cases y : h / 32768 = 1
    · rw [if_pos y, if_pos (s1.mpr y)]
    · rw [if_neg y, if_neg (fun w => y (s1.mp w))]
/-- all that is wanted of a HALF -/
theorem h_all {h : Nat} (hh : h < 65536) (he : h / 1024 % 32 ≠ 31) : (rfHf (nI h)).toInt = hz h ∧ sv (rfRe (rfHf (nI h))) = hz h * 2 ^ 125 ∧ sv (clRe (nI h)) = hz h * 2 ^ 125 ∧ fF (clRe (nI h)) := by
  obtain ⟨u1, u2, u3⟩ := hU_ok he
  obtain ⟨w1, w2, w3⟩ := rfRe_u (show hU h < 2 ^ 63 by omega) u2 u3
  obtain ⟨f1, f2⟩ := h_f hh he
  have fx : fF (rfRe (lN (hU h))) := by
    refine ffin_of (j := 166) ?_ (by decide)
    rw [w1, show (2 : Nat) ^ 166 = 2 ^ 41 * 2 ^ 125 by rw [← Nat.pow_add]]
    exact Nat.mul_le_mul_right _ (by omega)
  have sx : sv (rfRe (lN (hU h))) = (hU h : Int) * 2 ^ 125 := by
    rw [sv_pos w2, w1, Int.natCast_mul]; rfl
  rw [f1, f2]
  unfold hz
  by_cases y : h / 32768 = 1
  · rw [if_pos y, if_pos y, if_pos y]
    have tn : (-(lN (hU h))).toInt = -(hU h : Int) := Int64.toInt_neg_ofNat_of_le (by omega)
    refine ⟨tn, ?_, by rw [sv_neg fx, sx, Int.neg_mul], fneg_fin fx⟩
    rcases Nat.eq_zero_or_pos (hU h) with z | z
    · rw [z] at sx ⊢
      exact sx.trans (by decide)
    · rw [rfRe_n (by omega) (by omega) w3 fx, sv_neg fx, sx, Int.neg_mul]
  · rw [if_neg y, if_neg y, if_neg y]
    exact ⟨pk_lT (by omega), sx, sx, fx⟩
theorem lgi_lt {a b : Int64} : lg_cmp a b < 0 ↔ a.toInt < b.toInt := by
  unfold lg_cmp
  split
  · rename_i z
    have z : b < a := z
    rw [Int64.lt_iff_toInt_lt] at z
    exact ⟨fun w => absurd w (by decide), fun w => by omega⟩
  · rename_i z
    have z : ¬ b < a := z
    rw [Int64.lt_iff_toInt_lt] at z
    split
    · rename_i w
      rw [w]
      exact ⟨fun w => absurd w (by decide), fun w => by omega⟩
    · rename_i w
      have w : ¬ a.toInt = b.toInt := fun q => w (Int64.toInt_inj.mp q)
      exact ⟨fun _ => by omega, fun _ => by decide⟩
theorem lgi_gt {a b : Int64} : 0 < lg_cmp a b ↔ b.toInt < a.toInt := by
  unfold lg_cmp
  split
  · rename_i z
    have z : b < a := z
    rw [Int64.lt_iff_toInt_lt] at z
    exact ⟨fun _ => z, fun _ => by decide⟩
  · rename_i z
    have z : ¬ b < a := z
    rw [Int64.lt_iff_toInt_lt] at z
    split
    · exact ⟨fun w => absurd w (by decide), fun w => absurd w z⟩
    · exact ⟨fun w => absurd w (by decide), fun w => absurd w z⟩
theorem lgi_le {a b : Int64} : 0 ≤ lg_cmp a b ↔ b.toInt ≤ a.toInt := by
  rw [← Int32.not_lt, lgi_lt]; omega
theorem lgi_ge {a b : Int64} : lg_cmp a b ≤ 0 ↔ a.toInt ≤ b.toInt := by
  rw [← Int32.not_lt, lgi_gt]; omega
def hM16 : Int64 := (16 : Int64) <<< ((24 : Int32).toInt64 &&& 63)
def hM1 : Int64 := (1 : Int64) <<< ((24 : Int32).toInt64 &&& 63)
theorem hM_i : hM16.toInt = 2 ^ 28 ∧ (-hM16).toInt = -2 ^ 28 ∧ hM1.toInt = 2 ^ 24 ∧ (-hM1).toInt = -2 ^ 24 ∧ (16777216 : Int64).toInt = 2 ^ 24 ∧ (16 * 16777216 : Int64).toInt = 2 ^ 28 ∧ ((16777216 : Int64) >>> ((10 : Int32).toInt64 &&& 63)).toInt = 2 ^ 14 := by decide
theorem hM_s : sv 1098907648 = 2 ^ 28 * 2 ^ 125 ∧ sv (FP.fneg 1098907648) = -2 ^ 28 * 2 ^ 125 ∧ sv 1065353216 = 2 ^ 24 * 2 ^ 125 ∧ sv (FP.fneg 1065353216) = -2 ^ 24 * 2 ^ 125 ∧ sv FP.fconst1 = 2 ^ 24 * 2 ^ 125 ∧ sv 981467136 = 2 ^ 14 * 2 ^ 125 := by decide +kernel
theorem hM_F : fF 1098907648 ∧ fF (FP.fneg 1098907648) ∧ fF 1065353216 ∧ fF (FP.fneg 1065353216) ∧ fF 981467136 := by
  have k : ∀ {x : UInt32}, fu x ≤ 2 ^ 153 → fF x := fun {x} h => ffin_of h (by decide)
  exact ⟨k (by decide +kernel), k (by decide +kernel), k (by decide +kernel), k (by decide +kernel), k (by decide +kernel)⟩
theorem p125 : (0 : Int) < 2 ^ 125 := by decide
theorem fc_lt {x c : UInt32} {z C : Int} (hx : fF x) (hc : fF c) (ex : sv x = z * 2 ^ 125) (ec : sv c = C * 2 ^ 125) (g : CmpOp) : Op.cmpValue (FP.fcmp x c) g < 0 ↔ z < C := by
  rw [fcmp_lt0 hx hc, fkey_sv, ex, ec]
  exact Int.mul_lt_mul_right p125
theorem fc_gt {x c : UInt32} {z C : Int} (hx : fF x) (hc : fF c) (ex : sv x = z * 2 ^ 125) (ec : sv c = C * 2 ^ 125) (g : CmpOp) : 0 < Op.cmpValue (FP.fcmp x c) g ↔ C < z := by
  rw [fcmp_gt0 hx hc, fkey_sv, ex, ec]
  exact Int.mul_lt_mul_right p125
theorem h_31 {h : Nat} (hh : h < 65536) (he : h / 1024 % 32 = 31) : rfHf (nI h) = 1125899906842624 ∧ ¬ clIr (nI h) := by
  obtain ⟨b1, -, -⟩ := h_bits hh
  rw [he] at b1
  refine ⟨?_, fun w => w b1⟩
  unfold rfHf
  rw [b1]
  exact if_pos rfl
theorem h_ir {h : Nat} (hh : h < 65536) (he : h / 1024 % 32 ≠ 31) : clIr (nI h) := by
  obtain ⟨b1, -, -⟩ := h_bits hh
  unfold clIr
  rw [b1, show (31 : Int32) = nI 31 from rfl, nI_eq (by omega) (by decide)]
  exact he
theorem sv_B {x : UInt32} {z : Int} {k : Nat} (h : sv x = z * 2 ^ 125) (h1 : z ≤ 2 ^ k) (h2 : -2 ^ k ≤ z) : fB (k + 125) x := by
  show fu x ≤ 2 ^ (k + 125)
  have e : ((2 ^ (k + 125) : Nat) : Int) = 2 ^ k * 2 ^ 125 := by rw [Nat.pow_add, Int.natCast_mul, Int.natCast_pow, Int.natCast_pow, show ((2 : Nat) : Int) = 2 from rfl]
  have a1 := Int.mul_le_mul_of_nonneg_right h1 (Int.le_of_lt p125)
  have a2 := Int.mul_le_mul_of_nonneg_right h2 (Int.le_of_lt p125)
  rw [← h, ← e] at a1
  rw [← h, Int.neg_mul, ← e] at a2
  unfold sv at a1 a2
  split at a1 <;> split at a2 <;> omega
/-- a HALF of the DATA -/
theorem hk_w {h : Nat} (hh : h < 65536) : (rfHw hM16 (rfHf (nI h)) ↔ clWi (nI h) 1098907648) ∧ (rfHw hM1 (rfHf (nI h)) ↔ clWi (nI h) 1065353216) ∧ (clIr (nI h) → fz (clRe (nI h)) (rfRe (rfHf (nI h)))) ∧ (rfHw hM16 (rfHf (nI h)) → fB 153 (rfRe (rfHf (nI h)))) ∧ (rfHw hM1 (rfHf (nI h)) → fB 149 (rfRe (rfHf (nI h)))) := by
  obtain ⟨i1, i2, i3, i4, -⟩ := hM_i
  by_cases he : h / 1024 % 32 = 31
  · obtain ⟨a1, a2⟩ := h_31 hh he
    have n1 : ¬ rfHw hM16 (rfHf (nI h)) := fun w => by
      rw [a1] at w
      exact w.1 (lgi_gt.mpr (by rw [i1]; decide))
    have n2 : ¬ rfHw hM1 (rfHf (nI h)) := fun w => by
      rw [a1] at w
      exact w.1 (lgi_gt.mpr (by rw [i3]; decide))
    exact ⟨⟨fun w => absurd w n1, fun w => absurd w.1 a2⟩, ⟨fun w => absurd w n2, fun w => absurd w.1 a2⟩, fun w => absurd w a2, fun w => absurd w n1, fun w => absurd w n2⟩
  · obtain ⟨t1, t2, t3, t4⟩ := h_all hh he
    obtain ⟨s1, s2, s3, s4, -⟩ := hM_s
    obtain ⟨c1, c2, c3, c4, -⟩ := hM_F
    have ir := h_ir hh he
    have r1 : rfHw hM16 (rfHf (nI h)) ↔ (hz h ≤ 2 ^ 28 ∧ -2 ^ 28 ≤ hz h) := by
      unfold rfHw
      rw [lgi_gt, lgi_le, t1, i1, i2, Int.not_lt]
    have r2 : rfHw hM1 (rfHf (nI h)) ↔ (hz h ≤ 2 ^ 24 ∧ -2 ^ 24 ≤ hz h) := by
      unfold rfHw
      rw [lgi_gt, lgi_le, t1, i3, i4, Int.not_lt]
    refine ⟨?_, ?_, fun _ => sv_fz (t3.trans t2.symm), fun w => ?_, fun w => ?_⟩
    · rw [r1]
      unfold clWi
      rw [fc_gt t4 c1 t3 s1, fc_lt t4 c2 t3 s2, Int.not_lt, Int.not_lt]
      exact ⟨fun w => ⟨ir, w.1, w.2⟩, fun w => ⟨w.2.1, w.2.2⟩⟩
    · rw [r2]
      unfold clWi
      rw [fc_gt t4 c3 t3 s3, fc_lt t4 c4 t3 s4, Int.not_lt, Int.not_lt]
      exact ⟨fun w => ⟨ir, w.1, w.2⟩, fun w => ⟨w.2.1, w.2.2⟩⟩
    · exact sv_B t2 (r1.mp w).1 (r1.mp w).2
    · exact sv_B t2 (r2.mp w).1 (r2.mp w).2
theorem sv_L {x : UInt32} {z : Int} {k : Nat} (h : sv x = z * 2 ^ 125) (h1 : 2 ^ k ≤ z) : fL (k + 125) x := by
  have e : ((2 ^ (k + 125) : Nat) : Int) = 2 ^ k * 2 ^ 125 := by rw [Nat.pow_add, Int.natCast_mul, Int.natCast_pow, Int.natCast_pow, show ((2 : Nat) : Int) = 2 from rfl]
  have a1 := Int.mul_le_mul_of_nonneg_right h1 (Int.le_of_lt p125)
  rw [← h, ← e] at a1
  have p := Nat.two_pow_pos (k + 125)
  unfold sv at a1
  split at a1
  · omega
  · rename_i y
    exact ⟨by omega, show x.toNat < 2 ^ 31 by omega⟩
theorem fL_eq {x y : UInt32} {j : Nat} (h : fz x y) (hy : fL j y) : x = y := by
  rcases h with e | ⟨-, e⟩
  · exact e
  · exact absurd e hy.nz
/-- eps and base -/
theorem hk_e {h : Nat} (hh : h < 65536) : ((¬ lg_cmp (rfHf (nI h)) (16777216 >>> ((10 : Int32).toInt64 &&& 63)) < 0 ∧ ¬ 0 < lg_cmp (rfHf (nI h)) 16777216) ↔ (clIr (nI h) ∧ ¬ Op.cmpValue (FP.fcmp (clRe (nI h)) 981467136) .l < 0 ∧ ¬ 0 < Op.cmpValue (FP.fcmp (clRe (nI h)) FP.fconst1) .g)) ∧ ((¬ lg_cmp (rfHf (nI h)) (16777216 >>> ((10 : Int32).toInt64 &&& 63)) < 0 ∧ ¬ 0 < lg_cmp (rfHf (nI h)) 16777216) → clRe (nI h) = rfRe (rfHf (nI h)) ∧ fEp (rfRe (rfHf (nI h)))) := by
  obtain ⟨-, -, -, -, i5, -, i7⟩ := hM_i
  by_cases he : h / 1024 % 32 = 31
  · obtain ⟨a1, a2⟩ := h_31 hh he
    have n1 : ¬ (¬ lg_cmp (rfHf (nI h)) (16777216 >>> ((10 : Int32).toInt64 &&& 63)) < 0 ∧ ¬ 0 < lg_cmp (rfHf (nI h)) 16777216) := fun w => by
      rw [a1] at w
      exact w.2 (lgi_gt.mpr (by rw [i5]; decide))
    exact ⟨⟨fun w => absurd w n1, fun w => absurd w.1 a2⟩, fun w => absurd w n1⟩
  · obtain ⟨t1, t2, t3, t4⟩ := h_all hh he
    obtain ⟨-, -, -, -, s5, s6⟩ := hM_s
    have ir := h_ir hh he
    have r : (¬ lg_cmp (rfHf (nI h)) (16777216 >>> ((10 : Int32).toInt64 &&& 63)) < 0 ∧ ¬ 0 < lg_cmp (rfHf (nI h)) 16777216) ↔ (2 ^ 14 ≤ hz h ∧ hz h ≤ 2 ^ 24) := by
      rw [lgi_lt, lgi_gt, t1, i5, i7, Int.not_lt, Int.not_lt]
    refine ⟨?_, fun w => ?_⟩
    · rw [r, fc_lt t4 hM_F.2.2.2.2 t3 s6, fc_gt t4 fF_1 t3 s5, Int.not_lt, Int.not_lt]
      exact ⟨fun w => ⟨ir, w.1, w.2⟩, fun w => ⟨w.2.1, w.2.2⟩⟩
    · obtain ⟨w1, w2⟩ := r.mp w
      have l : fL 139 (rfRe (rfHf (nI h))) := sv_L (k := 14) t2 w1
      exact ⟨fL_eq (sv_fz (t3.trans t2.symm)) l, sv_B (k := 24) t2 w2 (by omega), l⟩
theorem hk_b {h : Nat} (hh : h < 65536) : ((¬ lg_cmp (rfHf (nI h)) 16777216 < 0 ∧ lg_cmp (rfHf (nI h)) (16 * 16777216) ≤ 0) ↔ (clIr (nI h) ∧ ¬ Op.cmpValue (FP.fcmp (clRe (nI h)) FP.fconst1) .l < 0 ∧ ¬ 0 < Op.cmpValue (FP.fcmp (clRe (nI h)) 1098907648) .g)) ∧ ((¬ lg_cmp (rfHf (nI h)) 16777216 < 0 ∧ lg_cmp (rfHf (nI h)) (16 * 16777216) ≤ 0) → clRe (nI h) = rfRe (rfHf (nI h)) ∧ fBa (rfRe (rfHf (nI h)))) := by
  obtain ⟨-, -, -, -, i5, i6, -⟩ := hM_i
  by_cases he : h / 1024 % 32 = 31
  · obtain ⟨a1, a2⟩ := h_31 hh he
    have n1 : ¬ (¬ lg_cmp (rfHf (nI h)) 16777216 < 0 ∧ lg_cmp (rfHf (nI h)) (16 * 16777216) ≤ 0) := fun w => by
      rw [a1, lgi_ge, i6] at w
      exact absurd w.2 (by decide)
    exact ⟨⟨fun w => absurd w n1, fun w => absurd w.1 a2⟩, fun w => absurd w n1⟩
  · obtain ⟨t1, t2, t3, t4⟩ := h_all hh he
    obtain ⟨s1, -, -, -, s5, -⟩ := hM_s
    have ir := h_ir hh he
    have r : (¬ lg_cmp (rfHf (nI h)) 16777216 < 0 ∧ lg_cmp (rfHf (nI h)) (16 * 16777216) ≤ 0) ↔ (2 ^ 24 ≤ hz h ∧ hz h ≤ 2 ^ 28) := by
      rw [lgi_lt, lgi_ge, t1, i5, i6, Int.not_lt]
    refine ⟨?_, fun w => ?_⟩
    · rw [r, fc_lt t4 fF_1 t3 s5, fc_gt t4 hM_F.1 t3 s1, Int.not_lt, Int.not_lt]
      exact ⟨fun w => ⟨ir, w.1, w.2⟩, fun w => ⟨w.2.1, w.2.2⟩⟩
    · obtain ⟨w1, w2⟩ := r.mp w
      have l : fL 149 (rfRe (rfHf (nI h))) := sv_L (k := 24) t2 w1
      exact ⟨fL_eq (sv_fz (t3.trans t2.symm)) l, sv_B (k := 28) t2 w2 (by omega), l⟩
theorem hk_rl {a b : Nat} (ha : a < 65536) (hb : b < 65536) : rfEb (rfHf (nI a)) (rfHf (nI b)) ↔ clRl (nI a) (nI b) := by
  have ea := (hk_e ha).1
  have eb := (hk_b hb).1
  unfold rfEb clRl
  constructor
  · rintro ⟨h1, h2, h3, h4⟩
    obtain ⟨x1, x2, x3⟩ := ea.mp ⟨h1, h2⟩
    obtain ⟨y1, y2, y3⟩ := eb.mp ⟨h3, h4⟩
    exact ⟨x1, y1, x2, x3, y2, y3⟩
  · rintro ⟨x1, y1, x2, x3, y2, y3⟩
    obtain ⟨h1, h2⟩ := ea.mpr ⟨x1, x2, x3⟩
    obtain ⟨h3, h4⟩ := eb.mpr ⟨y1, y2, y3⟩
    exact ⟨h1, h2, h3, h4⟩
